/-! part 08.m03 -/
section
/-! the reference's methods as maps of states, and their walks (printed by wip/whole/mkm.py) -/
section
variable {p : Program} {l : Launch} {e : Env} {s : State} {m : MethodId} {args : Array Value} {below : List Frame} {meth : Method} {c : Code} {D : va_G} {g : Nat → Nat} {cI cS : ClassId} {sa : Nat → Nat → Option Nat} {Am : (Nat → Prop) → State → Heap → Prop}
-- reckon
noncomputable def fX12_reckon_b117 (N : Nat) (t0 : Int32) (S : gS) : Option (Int32 × gS) := some (t0, S)
theorem bX12_reckon_117 {N : Nat} {t0 : Int32} {S : gS} {H : Heap} {locs : List Loc} {ls : Array Slot} {o : Int32 × gS} (C : gC p s m args meth c cX12_reckon 3 RX12 ((some .int)) D (mtys cI cS) mord g Am) (O : gO (mcell g cI cS sa) mord g) (X : gX D (mcell g cI cS sa) mord g S s H locs) (hl : lv_has ls 3 []) (hF : fX12_reckon_b117 N t0 S = some o) : W p l e (rmd 0) s m args below meth c H locs 0 0 (gE below args s D (mtys cI cS) (mcell g cI cS sa) mord g (some (.int o.1)) o.2) (F0 m 117 ls [.int t0]) := by
  unfold fX12_reckon_b117 at hF
  cases hF
  exact g_iret C X dX12_reckon_117
noncomputable def fX12_reckon_b116 (N : Nat) (S : gS) : Option (Int32 × gS) := fX12_reckon_b117 N 0 S
theorem bX12_reckon_116 {N : Nat} {S : gS} {H : Heap} {locs : List Loc} {ls : Array Slot} {o : Int32 × gS} (C : gC p s m args meth c cX12_reckon 3 RX12 ((some .int)) D (mtys cI cS) mord g Am) (O : gO (mcell g cI cS sa) mord g) (X : gX D (mcell g cI cS sa) mord g S s H locs) (hl : lv_has ls 3 []) (hF : fX12_reckon_b116 N S = some o) : W p l e (rmd 0) s m args below meth c H locs 0 0 (gE below args s D (mtys cI cS) (mcell g cI cS sa) mord g (some (.int o.1)) o.2) (F0 m 116 ls []) := by
  unfold fX12_reckon_b116 at hF
  refine lv_iconst (v := 0) C.1.1 C.1.2.1 dX12_reckon_116 (by decide) ?_
  exact bX12_reckon_117 C O X (lv_sub hl [] rfl) hF
noncomputable def fX12_reckon_b112 (N : Nat) (S : gS) : Option (Int32 × gS) := fX12_reckon_b117 N 1 S
theorem bX12_reckon_112 {N : Nat} {S : gS} {H : Heap} {locs : List Loc} {ls : Array Slot} {o : Int32 × gS} (C : gC p s m args meth c cX12_reckon 3 RX12 ((some .int)) D (mtys cI cS) mord g Am) (O : gO (mcell g cI cS sa) mord g) (X : gX D (mcell g cI cS sa) mord g S s H locs) (hl : lv_has ls 3 []) (hF : fX12_reckon_b112 N S = some o) : W p l e (rmd 0) s m args below meth c H locs 0 0 (gE below args s D (mtys cI cS) (mcell g cI cS sa) mord g (some (.int o.1)) o.2) (F0 m 112 ls []) := by
  unfold fX12_reckon_b112 at hF
  refine lv_iconst (v := 1) C.1.1 C.1.2.1 dX12_reckon_112 (by decide) ?_
  refine lv_goto (tgt := 117) C.1.1 C.1.2.1 dX12_reckon_113 (by decide) ?_
  exact bX12_reckon_117 C O X (lv_sub hl [] rfl) hF
noncomputable def fX12_reckon_b108 (N : Nat) (x2 : Int32) (S : gS) : Option (Int32 × gS) := if x2 = 0 then fX12_reckon_b116 N S else fX12_reckon_b112 N S
theorem bX12_reckon_108 {N : Nat} {x2 : Int32} {S : gS} {H : Heap} {locs : List Loc} {ls : Array Slot} {o : Int32 × gS} (C : gC p s m args meth c cX12_reckon 3 RX12 ((some .int)) D (mtys cI cS) mord g Am) (O : gO (mcell g cI cS sa) mord g) (X : gX D (mcell g cI cS sa) mord g S s H locs) (hl : lv_has ls 3 [(2, .int x2)]) (hF : fX12_reckon_b108 N x2 S = some o) : W p l e (rmd 0) s m args below meth c H locs 0 0 (gE below args s D (mtys cI cS) (mcell g cI cS sa) mord g (some (.int o.1)) o.2) (F0 m 108 ls []) := by
  unfold fX12_reckon_b108 at hF
  refine lv_iload_n C.1.1 C.1.2.1 dX12_reckon_108 rfl (lv_at hl 0 rfl) ?_
  refine lv_if_eq (tgt := 116) C.1.1 C.1.2.1 dX12_reckon_109 (by decide) (fun h_z => ?_) (fun h_z => ?_)
  · rw [if_pos h_z] at hF
    exact bX12_reckon_116 C O X (lv_sub hl [] rfl) hF
  · rw [if_neg h_z] at hF
    exact bX12_reckon_112 C O X (lv_sub hl [] rfl) hF
noncomputable def fX12_reckon_b104 (N : Nat) (x1 : Int32) (x2 : Int32) (S : gS) : Option (Int32 × gS) := if x1 = 0 then fX12_reckon_b108 N x2 S else fX12_reckon_b112 N S
theorem bX12_reckon_104 {N : Nat} {x1 : Int32} {x2 : Int32} {S : gS} {H : Heap} {locs : List Loc} {ls : Array Slot} {o : Int32 × gS} (C : gC p s m args meth c cX12_reckon 3 RX12 ((some .int)) D (mtys cI cS) mord g Am) (O : gO (mcell g cI cS sa) mord g) (X : gX D (mcell g cI cS sa) mord g S s H locs) (hl : lv_has ls 3 [(1, .int x1), (2, .int x2)]) (hF : fX12_reckon_b104 N x1 x2 S = some o) : W p l e (rmd 0) s m args below meth c H locs 0 0 (gE below args s D (mtys cI cS) (mcell g cI cS sa) mord g (some (.int o.1)) o.2) (F0 m 104 ls []) := by
  unfold fX12_reckon_b104 at hF
  refine lv_iload_n C.1.1 C.1.2.1 dX12_reckon_104 rfl (lv_at hl 0 rfl) ?_
  refine lv_if_ne (tgt := 112) C.1.1 C.1.2.1 dX12_reckon_105 (by decide) (fun h_z => ?_) (fun h_z => ?_)
  · rw [if_neg h_z] at hF
    exact bX12_reckon_112 C O X (lv_sub hl [] rfl) hF
  · rw [if_pos h_z] at hF
    exact bX12_reckon_108 C O X (lv_sub hl [1] rfl) hF
noncomputable def fX12_reckon_b103 (N : Nat) (t0 : Int32) (S : gS) : Option (Int32 × gS) := some (t0, S)
theorem bX12_reckon_103 {N : Nat} {t0 : Int32} {S : gS} {H : Heap} {locs : List Loc} {ls : Array Slot} {o : Int32 × gS} (C : gC p s m args meth c cX12_reckon 3 RX12 ((some .int)) D (mtys cI cS) mord g Am) (O : gO (mcell g cI cS sa) mord g) (X : gX D (mcell g cI cS sa) mord g S s H locs) (hl : lv_has ls 3 []) (hF : fX12_reckon_b103 N t0 S = some o) : W p l e (rmd 0) s m args below meth c H locs 0 0 (gE below args s D (mtys cI cS) (mcell g cI cS sa) mord g (some (.int o.1)) o.2) (F0 m 103 ls [.int t0]) := by
  unfold fX12_reckon_b103 at hF
  cases hF
  exact g_iret C X dX12_reckon_103
noncomputable def fX12_reckon_b102 (N : Nat) (S : gS) : Option (Int32 × gS) := fX12_reckon_b103 N 0 S
theorem bX12_reckon_102 {N : Nat} {S : gS} {H : Heap} {locs : List Loc} {ls : Array Slot} {o : Int32 × gS} (C : gC p s m args meth c cX12_reckon 3 RX12 ((some .int)) D (mtys cI cS) mord g Am) (O : gO (mcell g cI cS sa) mord g) (X : gX D (mcell g cI cS sa) mord g S s H locs) (hl : lv_has ls 3 []) (hF : fX12_reckon_b102 N S = some o) : W p l e (rmd 0) s m args below meth c H locs 0 0 (gE below args s D (mtys cI cS) (mcell g cI cS sa) mord g (some (.int o.1)) o.2) (F0 m 102 ls []) := by
  unfold fX12_reckon_b102 at hF
  refine lv_iconst (v := 0) C.1.1 C.1.2.1 dX12_reckon_102 (by decide) ?_
  exact bX12_reckon_103 C O X (lv_sub hl [] rfl) hF
noncomputable def fX12_reckon_b98 (N : Nat) (S : gS) : Option (Int32 × gS) := fX12_reckon_b103 N 1 S
theorem bX12_reckon_98 {N : Nat} {S : gS} {H : Heap} {locs : List Loc} {ls : Array Slot} {o : Int32 × gS} (C : gC p s m args meth c cX12_reckon 3 RX12 ((some .int)) D (mtys cI cS) mord g Am) (O : gO (mcell g cI cS sa) mord g) (X : gX D (mcell g cI cS sa) mord g S s H locs) (hl : lv_has ls 3 []) (hF : fX12_reckon_b98 N S = some o) : W p l e (rmd 0) s m args below meth c H locs 0 0 (gE below args s D (mtys cI cS) (mcell g cI cS sa) mord g (some (.int o.1)) o.2) (F0 m 98 ls []) := by
  unfold fX12_reckon_b98 at hF
  refine lv_iconst (v := 1) C.1.1 C.1.2.1 dX12_reckon_98 (by decide) ?_
  refine lv_goto (tgt := 103) C.1.1 C.1.2.1 dX12_reckon_99 (by decide) ?_
  exact bX12_reckon_103 C O X (lv_sub hl [] rfl) hF
noncomputable def fX12_reckon_b94 (N : Nat) (x2 : Int32) (S : gS) : Option (Int32 × gS) := if x2 = 0 then fX12_reckon_b102 N S else fX12_reckon_b98 N S
theorem bX12_reckon_94 {N : Nat} {x2 : Int32} {S : gS} {H : Heap} {locs : List Loc} {ls : Array Slot} {o : Int32 × gS} (C : gC p s m args meth c cX12_reckon 3 RX12 ((some .int)) D (mtys cI cS) mord g Am) (O : gO (mcell g cI cS sa) mord g) (X : gX D (mcell g cI cS sa) mord g S s H locs) (hl : lv_has ls 3 [(2, .int x2)]) (hF : fX12_reckon_b94 N x2 S = some o) : W p l e (rmd 0) s m args below meth c H locs 0 0 (gE below args s D (mtys cI cS) (mcell g cI cS sa) mord g (some (.int o.1)) o.2) (F0 m 94 ls []) := by
  unfold fX12_reckon_b94 at hF
  refine lv_iload_n C.1.1 C.1.2.1 dX12_reckon_94 rfl (lv_at hl 0 rfl) ?_
  refine lv_if_eq (tgt := 102) C.1.1 C.1.2.1 dX12_reckon_95 (by decide) (fun h_z => ?_) (fun h_z => ?_)
  · rw [if_pos h_z] at hF
    exact bX12_reckon_102 C O X (lv_sub hl [] rfl) hF
  · rw [if_neg h_z] at hF
    exact bX12_reckon_98 C O X (lv_sub hl [] rfl) hF
noncomputable def fX12_reckon_b90 (N : Nat) (x1 : Int32) (x2 : Int32) (S : gS) : Option (Int32 × gS) := if x1 = 0 then fX12_reckon_b102 N S else fX12_reckon_b94 N x2 S
theorem bX12_reckon_90 {N : Nat} {x1 : Int32} {x2 : Int32} {S : gS} {H : Heap} {locs : List Loc} {ls : Array Slot} {o : Int32 × gS} (C : gC p s m args meth c cX12_reckon 3 RX12 ((some .int)) D (mtys cI cS) mord g Am) (O : gO (mcell g cI cS sa) mord g) (X : gX D (mcell g cI cS sa) mord g S s H locs) (hl : lv_has ls 3 [(1, .int x1), (2, .int x2)]) (hF : fX12_reckon_b90 N x1 x2 S = some o) : W p l e (rmd 0) s m args below meth c H locs 0 0 (gE below args s D (mtys cI cS) (mcell g cI cS sa) mord g (some (.int o.1)) o.2) (F0 m 90 ls []) := by
  unfold fX12_reckon_b90 at hF
  refine lv_iload_n C.1.1 C.1.2.1 dX12_reckon_90 rfl (lv_at hl 0 rfl) ?_
  refine lv_if_eq (tgt := 102) C.1.1 C.1.2.1 dX12_reckon_91 (by decide) (fun h_z => ?_) (fun h_z => ?_)
  · rw [if_pos h_z] at hF
    exact bX12_reckon_102 C O X (lv_sub hl [] rfl) hF
  · rw [if_neg h_z] at hF
    exact bX12_reckon_94 C O X (lv_sub hl [1] rfl) hF
noncomputable def fX12_reckon_b89 (N : Nat) (t0 : Int32) (S : gS) : Option (Int32 × gS) := some (t0, S)
theorem bX12_reckon_89 {N : Nat} {t0 : Int32} {S : gS} {H : Heap} {locs : List Loc} {ls : Array Slot} {o : Int32 × gS} (C : gC p s m args meth c cX12_reckon 3 RX12 ((some .int)) D (mtys cI cS) mord g Am) (O : gO (mcell g cI cS sa) mord g) (X : gX D (mcell g cI cS sa) mord g S s H locs) (hl : lv_has ls 3 []) (hF : fX12_reckon_b89 N t0 S = some o) : W p l e (rmd 0) s m args below meth c H locs 0 0 (gE below args s D (mtys cI cS) (mcell g cI cS sa) mord g (some (.int o.1)) o.2) (F0 m 89 ls [.int t0]) := by
  unfold fX12_reckon_b89 at hF
  cases hF
  exact g_iret C X dX12_reckon_89
noncomputable def fX12_reckon_b88 (N : Nat) (S : gS) : Option (Int32 × gS) := fX12_reckon_b89 N 0 S
theorem bX12_reckon_88 {N : Nat} {S : gS} {H : Heap} {locs : List Loc} {ls : Array Slot} {o : Int32 × gS} (C : gC p s m args meth c cX12_reckon 3 RX12 ((some .int)) D (mtys cI cS) mord g Am) (O : gO (mcell g cI cS sa) mord g) (X : gX D (mcell g cI cS sa) mord g S s H locs) (hl : lv_has ls 3 []) (hF : fX12_reckon_b88 N S = some o) : W p l e (rmd 0) s m args below meth c H locs 0 0 (gE below args s D (mtys cI cS) (mcell g cI cS sa) mord g (some (.int o.1)) o.2) (F0 m 88 ls []) := by
  unfold fX12_reckon_b88 at hF
  refine lv_iconst (v := 0) C.1.1 C.1.2.1 dX12_reckon_88 (by decide) ?_
  exact bX12_reckon_89 C O X (lv_sub hl [] rfl) hF
noncomputable def fX12_reckon_b84 (N : Nat) (S : gS) : Option (Int32 × gS) := fX12_reckon_b89 N 1 S
theorem bX12_reckon_84 {N : Nat} {S : gS} {H : Heap} {locs : List Loc} {ls : Array Slot} {o : Int32 × gS} (C : gC p s m args meth c cX12_reckon 3 RX12 ((some .int)) D (mtys cI cS) mord g Am) (O : gO (mcell g cI cS sa) mord g) (X : gX D (mcell g cI cS sa) mord g S s H locs) (hl : lv_has ls 3 []) (hF : fX12_reckon_b84 N S = some o) : W p l e (rmd 0) s m args below meth c H locs 0 0 (gE below args s D (mtys cI cS) (mcell g cI cS sa) mord g (some (.int o.1)) o.2) (F0 m 84 ls []) := by
  unfold fX12_reckon_b84 at hF
  refine lv_iconst (v := 1) C.1.1 C.1.2.1 dX12_reckon_84 (by decide) ?_
  refine lv_goto (tgt := 89) C.1.1 C.1.2.1 dX12_reckon_85 (by decide) ?_
  exact bX12_reckon_89 C O X (lv_sub hl [] rfl) hF
noncomputable def fX12_reckon_b79 (N : Nat) (x1 : Int32) (x2 : Int32) (S : gS) : Option (Int32 × gS) := if x1 = x2 then fX12_reckon_b84 N S else fX12_reckon_b88 N S
theorem bX12_reckon_79 {N : Nat} {x1 : Int32} {x2 : Int32} {S : gS} {H : Heap} {locs : List Loc} {ls : Array Slot} {o : Int32 × gS} (C : gC p s m args meth c cX12_reckon 3 RX12 ((some .int)) D (mtys cI cS) mord g Am) (O : gO (mcell g cI cS sa) mord g) (X : gX D (mcell g cI cS sa) mord g S s H locs) (hl : lv_has ls 3 [(1, .int x1), (2, .int x2)]) (hF : fX12_reckon_b79 N x1 x2 S = some o) : W p l e (rmd 0) s m args below meth c H locs 0 0 (gE below args s D (mtys cI cS) (mcell g cI cS sa) mord g (some (.int o.1)) o.2) (F0 m 79 ls []) := by
  unfold fX12_reckon_b79 at hF
  refine lv_iload_n C.1.1 C.1.2.1 dX12_reckon_79 rfl (lv_at hl 0 rfl) ?_
  refine lv_iload_n C.1.1 C.1.2.1 dX12_reckon_80 rfl (lv_at hl 1 rfl) ?_
  refine lv_icmp_ne (tgt := 88) C.1.1 C.1.2.1 dX12_reckon_81 (by decide) (fun h_z => ?_) (fun h_z => ?_)
  · rw [if_neg h_z] at hF
    exact bX12_reckon_88 C O X (lv_sub hl [] rfl) hF
  · rw [if_pos h_z] at hF
    exact bX12_reckon_84 C O X (lv_sub hl [] rfl) hF
noncomputable def fX12_reckon_b78 (N : Nat) (t0 : Int32) (S : gS) : Option (Int32 × gS) := some (t0, S)
theorem bX12_reckon_78 {N : Nat} {t0 : Int32} {S : gS} {H : Heap} {locs : List Loc} {ls : Array Slot} {o : Int32 × gS} (C : gC p s m args meth c cX12_reckon 3 RX12 ((some .int)) D (mtys cI cS) mord g Am) (O : gO (mcell g cI cS sa) mord g) (X : gX D (mcell g cI cS sa) mord g S s H locs) (hl : lv_has ls 3 []) (hF : fX12_reckon_b78 N t0 S = some o) : W p l e (rmd 0) s m args below meth c H locs 0 0 (gE below args s D (mtys cI cS) (mcell g cI cS sa) mord g (some (.int o.1)) o.2) (F0 m 78 ls [.int t0]) := by
  unfold fX12_reckon_b78 at hF
  cases hF
  exact g_iret C X dX12_reckon_78
noncomputable def fX12_reckon_b77 (N : Nat) (S : gS) : Option (Int32 × gS) := fX12_reckon_b78 N 0 S
theorem bX12_reckon_77 {N : Nat} {S : gS} {H : Heap} {locs : List Loc} {ls : Array Slot} {o : Int32 × gS} (C : gC p s m args meth c cX12_reckon 3 RX12 ((some .int)) D (mtys cI cS) mord g Am) (O : gO (mcell g cI cS sa) mord g) (X : gX D (mcell g cI cS sa) mord g S s H locs) (hl : lv_has ls 3 []) (hF : fX12_reckon_b77 N S = some o) : W p l e (rmd 0) s m args below meth c H locs 0 0 (gE below args s D (mtys cI cS) (mcell g cI cS sa) mord g (some (.int o.1)) o.2) (F0 m 77 ls []) := by
  unfold fX12_reckon_b77 at hF
  refine lv_iconst (v := 0) C.1.1 C.1.2.1 dX12_reckon_77 (by decide) ?_
  exact bX12_reckon_78 C O X (lv_sub hl [] rfl) hF
noncomputable def fX12_reckon_b73 (N : Nat) (S : gS) : Option (Int32 × gS) := fX12_reckon_b78 N 1 S
theorem bX12_reckon_73 {N : Nat} {S : gS} {H : Heap} {locs : List Loc} {ls : Array Slot} {o : Int32 × gS} (C : gC p s m args meth c cX12_reckon 3 RX12 ((some .int)) D (mtys cI cS) mord g Am) (O : gO (mcell g cI cS sa) mord g) (X : gX D (mcell g cI cS sa) mord g S s H locs) (hl : lv_has ls 3 []) (hF : fX12_reckon_b73 N S = some o) : W p l e (rmd 0) s m args below meth c H locs 0 0 (gE below args s D (mtys cI cS) (mcell g cI cS sa) mord g (some (.int o.1)) o.2) (F0 m 73 ls []) := by
  unfold fX12_reckon_b73 at hF
  refine lv_iconst (v := 1) C.1.1 C.1.2.1 dX12_reckon_73 (by decide) ?_
  refine lv_goto (tgt := 78) C.1.1 C.1.2.1 dX12_reckon_74 (by decide) ?_
  exact bX12_reckon_78 C O X (lv_sub hl [] rfl) hF
noncomputable def fX12_reckon_b68 (N : Nat) (x1 : Int32) (x2 : Int32) (S : gS) : Option (Int32 × gS) := if x2 ≤ x1 then fX12_reckon_b77 N S else fX12_reckon_b73 N S
theorem bX12_reckon_68 {N : Nat} {x1 : Int32} {x2 : Int32} {S : gS} {H : Heap} {locs : List Loc} {ls : Array Slot} {o : Int32 × gS} (C : gC p s m args meth c cX12_reckon 3 RX12 ((some .int)) D (mtys cI cS) mord g Am) (O : gO (mcell g cI cS sa) mord g) (X : gX D (mcell g cI cS sa) mord g S s H locs) (hl : lv_has ls 3 [(1, .int x1), (2, .int x2)]) (hF : fX12_reckon_b68 N x1 x2 S = some o) : W p l e (rmd 0) s m args below meth c H locs 0 0 (gE below args s D (mtys cI cS) (mcell g cI cS sa) mord g (some (.int o.1)) o.2) (F0 m 68 ls []) := by
  unfold fX12_reckon_b68 at hF
  refine lv_iload_n C.1.1 C.1.2.1 dX12_reckon_68 rfl (lv_at hl 0 rfl) ?_
  refine lv_iload_n C.1.1 C.1.2.1 dX12_reckon_69 rfl (lv_at hl 1 rfl) ?_
  refine lv_icmp_ge (tgt := 77) C.1.1 C.1.2.1 dX12_reckon_70 (by decide) (fun h_z => ?_) (fun h_z => ?_)
  · rw [if_pos h_z] at hF
    exact bX12_reckon_77 C O X (lv_sub hl [] rfl) hF
  · rw [if_neg h_z] at hF
    exact bX12_reckon_73 C O X (lv_sub hl [] rfl) hF
noncomputable def fX12_reckon_b67 (N : Nat) (t0 : Int32) (S : gS) : Option (Int32 × gS) := some (t0, S)
theorem bX12_reckon_67 {N : Nat} {t0 : Int32} {S : gS} {H : Heap} {locs : List Loc} {ls : Array Slot} {o : Int32 × gS} (C : gC p s m args meth c cX12_reckon 3 RX12 ((some .int)) D (mtys cI cS) mord g Am) (O : gO (mcell g cI cS sa) mord g) (X : gX D (mcell g cI cS sa) mord g S s H locs) (hl : lv_has ls 3 []) (hF : fX12_reckon_b67 N t0 S = some o) : W p l e (rmd 0) s m args below meth c H locs 0 0 (gE below args s D (mtys cI cS) (mcell g cI cS sa) mord g (some (.int o.1)) o.2) (F0 m 67 ls [.int t0]) := by
  unfold fX12_reckon_b67 at hF
  cases hF
  exact g_iret C X dX12_reckon_67
noncomputable def fX12_reckon_b64 (N : Nat) (x1 : Int32) (x2 : Int32) (S : gS) : Option (Int32 × gS) := chk (nz x2) (fX12_reckon_b67 N ((x1 / x2 : Int32)) S)
theorem bX12_reckon_64 {N : Nat} {x1 : Int32} {x2 : Int32} {S : gS} {H : Heap} {locs : List Loc} {ls : Array Slot} {o : Int32 × gS} (C : gC p s m args meth c cX12_reckon 3 RX12 ((some .int)) D (mtys cI cS) mord g Am) (O : gO (mcell g cI cS sa) mord g) (X : gX D (mcell g cI cS sa) mord g S s H locs) (hl : lv_has ls 3 [(1, .int x1), (2, .int x2)]) (hF : fX12_reckon_b64 N x1 x2 S = some o) : W p l e (rmd 0) s m args below meth c H locs 0 0 (gE below args s D (mtys cI cS) (mcell g cI cS sa) mord g (some (.int o.1)) o.2) (F0 m 64 ls []) := by
  unfold fX12_reckon_b64 at hF
  refine lv_iload_n C.1.1 C.1.2.1 dX12_reckon_64 rfl (lv_at hl 0 rfl) ?_
  refine lv_iload_n C.1.1 C.1.2.1 dX12_reckon_65 rfl (lv_at hl 1 rfl) ?_
  obtain ⟨h_1, hF⟩ := chk_some hF
  refine lv_idiv C.1.1 C.1.2.1 dX12_reckon_66 (nz_ne h_1) ?_
  exact bX12_reckon_67 C O X (lv_sub hl [] rfl) hF
noncomputable def fX12_reckon_b60 (N : Nat) (S : gS) : Option (Int32 × gS) := fX12_reckon_b67 N 0 S
theorem bX12_reckon_60 {N : Nat} {S : gS} {H : Heap} {locs : List Loc} {ls : Array Slot} {o : Int32 × gS} (C : gC p s m args meth c cX12_reckon 3 RX12 ((some .int)) D (mtys cI cS) mord g Am) (O : gO (mcell g cI cS sa) mord g) (X : gX D (mcell g cI cS sa) mord g S s H locs) (hl : lv_has ls 3 []) (hF : fX12_reckon_b60 N S = some o) : W p l e (rmd 0) s m args below meth c H locs 0 0 (gE below args s D (mtys cI cS) (mcell g cI cS sa) mord g (some (.int o.1)) o.2) (F0 m 60 ls []) := by
  unfold fX12_reckon_b60 at hF
  refine lv_iconst (v := 0) C.1.1 C.1.2.1 dX12_reckon_60 (by decide) ?_
  refine lv_goto (tgt := 67) C.1.1 C.1.2.1 dX12_reckon_61 (by decide) ?_
  exact bX12_reckon_67 C O X (lv_sub hl [] rfl) hF
noncomputable def fX12_reckon_b56 (N : Nat) (x1 : Int32) (x2 : Int32) (S : gS) : Option (Int32 × gS) := if x2 = 0 then fX12_reckon_b60 N S else fX12_reckon_b64 N x1 x2 S
theorem bX12_reckon_56 {N : Nat} {x1 : Int32} {x2 : Int32} {S : gS} {H : Heap} {locs : List Loc} {ls : Array Slot} {o : Int32 × gS} (C : gC p s m args meth c cX12_reckon 3 RX12 ((some .int)) D (mtys cI cS) mord g Am) (O : gO (mcell g cI cS sa) mord g) (X : gX D (mcell g cI cS sa) mord g S s H locs) (hl : lv_has ls 3 [(1, .int x1), (2, .int x2)]) (hF : fX12_reckon_b56 N x1 x2 S = some o) : W p l e (rmd 0) s m args below meth c H locs 0 0 (gE below args s D (mtys cI cS) (mcell g cI cS sa) mord g (some (.int o.1)) o.2) (F0 m 56 ls []) := by
  unfold fX12_reckon_b56 at hF
  refine lv_iload_n C.1.1 C.1.2.1 dX12_reckon_56 rfl (lv_at hl 1 rfl) ?_
  refine lv_if_ne (tgt := 64) C.1.1 C.1.2.1 dX12_reckon_57 (by decide) (fun h_z => ?_) (fun h_z => ?_)
  · rw [if_neg h_z] at hF
    exact bX12_reckon_64 C O X (lv_sub hl [0, 1] rfl) hF
  · rw [if_pos h_z] at hF
    exact bX12_reckon_60 C O X (lv_sub hl [] rfl) hF
noncomputable def fX12_reckon_b52 (N : Nat) (x1 : Int32) (x2 : Int32) (S : gS) : Option (Int32 × gS) := some ((x1 * x2 : Int32), S)
theorem bX12_reckon_52 {N : Nat} {x1 : Int32} {x2 : Int32} {S : gS} {H : Heap} {locs : List Loc} {ls : Array Slot} {o : Int32 × gS} (C : gC p s m args meth c cX12_reckon 3 RX12 ((some .int)) D (mtys cI cS) mord g Am) (O : gO (mcell g cI cS sa) mord g) (X : gX D (mcell g cI cS sa) mord g S s H locs) (hl : lv_has ls 3 [(1, .int x1), (2, .int x2)]) (hF : fX12_reckon_b52 N x1 x2 S = some o) : W p l e (rmd 0) s m args below meth c H locs 0 0 (gE below args s D (mtys cI cS) (mcell g cI cS sa) mord g (some (.int o.1)) o.2) (F0 m 52 ls []) := by
  unfold fX12_reckon_b52 at hF
  refine lv_iload_n C.1.1 C.1.2.1 dX12_reckon_52 rfl (lv_at hl 0 rfl) ?_
  refine lv_iload_n C.1.1 C.1.2.1 dX12_reckon_53 rfl (lv_at hl 1 rfl) ?_
  refine lv_imul C.1.1 C.1.2.1 dX12_reckon_54 ?_
  cases hF
  exact g_iret C X dX12_reckon_55
noncomputable def fX12_reckon_b48 (N : Nat) (x1 : Int32) (x2 : Int32) (S : gS) : Option (Int32 × gS) := some ((x1 - x2 : Int32), S)
theorem bX12_reckon_48 {N : Nat} {x1 : Int32} {x2 : Int32} {S : gS} {H : Heap} {locs : List Loc} {ls : Array Slot} {o : Int32 × gS} (C : gC p s m args meth c cX12_reckon 3 RX12 ((some .int)) D (mtys cI cS) mord g Am) (O : gO (mcell g cI cS sa) mord g) (X : gX D (mcell g cI cS sa) mord g S s H locs) (hl : lv_has ls 3 [(1, .int x1), (2, .int x2)]) (hF : fX12_reckon_b48 N x1 x2 S = some o) : W p l e (rmd 0) s m args below meth c H locs 0 0 (gE below args s D (mtys cI cS) (mcell g cI cS sa) mord g (some (.int o.1)) o.2) (F0 m 48 ls []) := by
  unfold fX12_reckon_b48 at hF
  refine lv_iload_n C.1.1 C.1.2.1 dX12_reckon_48 rfl (lv_at hl 0 rfl) ?_
  refine lv_iload_n C.1.1 C.1.2.1 dX12_reckon_49 rfl (lv_at hl 1 rfl) ?_
  refine lv_isub C.1.1 C.1.2.1 dX12_reckon_50 ?_
  cases hF
  exact g_iret C X dX12_reckon_51
noncomputable def fX12_reckon_b44 (N : Nat) (x1 : Int32) (x2 : Int32) (S : gS) : Option (Int32 × gS) := some ((x1 + x2 : Int32), S)
theorem bX12_reckon_44 {N : Nat} {x1 : Int32} {x2 : Int32} {S : gS} {H : Heap} {locs : List Loc} {ls : Array Slot} {o : Int32 × gS} (C : gC p s m args meth c cX12_reckon 3 RX12 ((some .int)) D (mtys cI cS) mord g Am) (O : gO (mcell g cI cS sa) mord g) (X : gX D (mcell g cI cS sa) mord g S s H locs) (hl : lv_has ls 3 [(1, .int x1), (2, .int x2)]) (hF : fX12_reckon_b44 N x1 x2 S = some o) : W p l e (rmd 0) s m args below meth c H locs 0 0 (gE below args s D (mtys cI cS) (mcell g cI cS sa) mord g (some (.int o.1)) o.2) (F0 m 44 ls []) := by
  unfold fX12_reckon_b44 at hF
  refine lv_iload_n C.1.1 C.1.2.1 dX12_reckon_44 rfl (lv_at hl 0 rfl) ?_
  refine lv_iload_n C.1.1 C.1.2.1 dX12_reckon_45 rfl (lv_at hl 1 rfl) ?_
  refine lv_iadd C.1.1 C.1.2.1 dX12_reckon_46 ?_
  cases hF
  exact g_iret C X dX12_reckon_47
noncomputable def fX12_reckon_b0 (N : Nat) (x0 : Int32) (x1 : Int32) (x2 : Int32) (S : gS) : Option (Int32 × gS) := if x0 = (-26) then fX12_reckon_b90 N x1 x2 S else if x0 = (-25) then fX12_reckon_b79 N x1 x2 S else if x0 = (-24) then fX12_reckon_b68 N x1 x2 S else if x0 = (-23) then fX12_reckon_b56 N x1 x2 S else if x0 = (-22) then fX12_reckon_b52 N x1 x2 S else if x0 = (-21) then fX12_reckon_b48 N x1 x2 S else if x0 = (-20) then fX12_reckon_b44 N x1 x2 S else fX12_reckon_b104 N x1 x2 S
theorem bX12_reckon_0 {N : Nat} {x0 : Int32} {x1 : Int32} {x2 : Int32} {S : gS} {H : Heap} {locs : List Loc} {ls : Array Slot} {o : Int32 × gS} (C : gC p s m args meth c cX12_reckon 3 RX12 ((some .int)) D (mtys cI cS) mord g Am) (O : gO (mcell g cI cS sa) mord g) (X : gX D (mcell g cI cS sa) mord g S s H locs) (hl : lv_has ls 3 [(0, .int x0), (1, .int x1), (2, .int x2)]) (hF : fX12_reckon_b0 N x0 x1 x2 S = some o) : W p l e (rmd 0) s m args below meth c H locs 0 0 (gE below args s D (mtys cI cS) (mcell g cI cS sa) mord g (some (.int o.1)) o.2) (F0 m 0 ls []) := by
  unfold fX12_reckon_b0 at hF
  refine lv_iload_n C.1.1 C.1.2.1 dX12_reckon_0 rfl (lv_at hl 0 rfl) ?_
  by_cases hz_1026 : x0 = (-26)
  · rw [if_pos hz_1026] at hF
    refine lv_tableIn (off := 89) (tgt := 90) C.1.1 C.1.2.1 dX12_reckon_1 (by rw [hz_1026]; decide) (by rw [hz_1026]; decide) (by rw [hz_1026]; decide) (by decide) ?_
    exact bX12_reckon_90 C O X (lv_sub hl [1, 2] rfl) hF
  rw [if_neg hz_1026] at hF
  by_cases hz_1025 : x0 = (-25)
  · rw [if_pos hz_1025] at hF
    refine lv_tableIn (off := 78) (tgt := 79) C.1.1 C.1.2.1 dX12_reckon_1 (by rw [hz_1025]; decide) (by rw [hz_1025]; decide) (by rw [hz_1025]; decide) (by decide) ?_
    exact bX12_reckon_79 C O X (lv_sub hl [1, 2] rfl) hF
  rw [if_neg hz_1025] at hF
  by_cases hz_1024 : x0 = (-24)
  · rw [if_pos hz_1024] at hF
    refine lv_tableIn (off := 67) (tgt := 68) C.1.1 C.1.2.1 dX12_reckon_1 (by rw [hz_1024]; decide) (by rw [hz_1024]; decide) (by rw [hz_1024]; decide) (by decide) ?_
    exact bX12_reckon_68 C O X (lv_sub hl [1, 2] rfl) hF
  rw [if_neg hz_1024] at hF
  by_cases hz_1023 : x0 = (-23)
  · rw [if_pos hz_1023] at hF
    refine lv_tableIn (off := 55) (tgt := 56) C.1.1 C.1.2.1 dX12_reckon_1 (by rw [hz_1023]; decide) (by rw [hz_1023]; decide) (by rw [hz_1023]; decide) (by decide) ?_
    exact bX12_reckon_56 C O X (lv_sub hl [1, 2] rfl) hF
  rw [if_neg hz_1023] at hF
  by_cases hz_1022 : x0 = (-22)
  · rw [if_pos hz_1022] at hF
    refine lv_tableIn (off := 51) (tgt := 52) C.1.1 C.1.2.1 dX12_reckon_1 (by rw [hz_1022]; decide) (by rw [hz_1022]; decide) (by rw [hz_1022]; decide) (by decide) ?_
    exact bX12_reckon_52 C O X (lv_sub hl [1, 2] rfl) hF
  rw [if_neg hz_1022] at hF
  by_cases hz_1021 : x0 = (-21)
  · rw [if_pos hz_1021] at hF
    refine lv_tableIn (off := 47) (tgt := 48) C.1.1 C.1.2.1 dX12_reckon_1 (by rw [hz_1021]; decide) (by rw [hz_1021]; decide) (by rw [hz_1021]; decide) (by decide) ?_
    exact bX12_reckon_48 C O X (lv_sub hl [1, 2] rfl) hF
  rw [if_neg hz_1021] at hF
  by_cases hz_1020 : x0 = (-20)
  · rw [if_pos hz_1020] at hF
    refine lv_tableIn (off := 43) (tgt := 44) C.1.1 C.1.2.1 dX12_reckon_1 (by rw [hz_1020]; decide) (by rw [hz_1020]; decide) (by rw [hz_1020]; decide) (by decide) ?_
    exact bX12_reckon_44 C O X (lv_sub hl [1, 2] rfl) hF
  rw [if_neg hz_1020] at hF
  refine lv_tableOut (tgt := 104) C.1.1 C.1.2.1 dX12_reckon_1 (g_tsw (-26) (-20) _ ?_) (by decide) ?_
  · intro i hi1 hi2
    rcases (show i = (-26) ∨ i = (-25) ∨ i = (-24) ∨ i = (-23) ∨ i = (-22) ∨ i = (-21) ∨ i = (-20) by omega) with rfl | rfl | rfl | rfl | rfl | rfl | rfl
    · exact hz_1026
    · exact hz_1025
    · exact hz_1024
    · exact hz_1023
    · exact hz_1022
    · exact hz_1021
    · exact hz_1020
  exact bX12_reckon_104 C O X (lv_sub hl [1, 2] rfl) hF
noncomputable def fX12_reckon (N : Nat) (x0 : Int32) (x1 : Int32) (x2 : Int32) (S : gS) : Option (Int32 × gS) := fX12_reckon_b0 N x0 x1 x2 S
theorem kX12_reckon {l : Launch} {D : va_G} {g : Nat → Nat} {cI cS : ClassId} {sa : Nat → Nat → Option Nat} {Am : (Nat → Prop) → State → Heap → Prop} (O : gO (mcell g cI cS sa) mord g) (P : gAm Am) (N : Nat) (x0 : Int32) (x1 : Int32) (x2 : Int32) (S : gS) (o : Int32 × gS) (hF : fX12_reckon N x0 x1 x2 S = some o) : gM l yX12_reckon cX12_reckon 3 ((some .int)) 0 D (mtys cI cS) (mcell g cI cS sa) mord g Am [.int x0, .int x1, .int x2] S (some (.int o.1)) o.2 :=
  gM_of O P (by decide) (Nat.le_of_ble_eq_true rfl) (fun p e s m args below meth c ls C X hl => bX12_reckon_0 C O X (lv_sub hl [0, 1, 2] rfl) hF)
-- valueNow
noncomputable def fX12_valueNow_b125 (N : Nat) (S : gS) : Option (Int32 × gS) := some (S 43 0, S)
theorem bX12_valueNow_125 {N : Nat} {S : gS} {H : Heap} {locs : List Loc} {ls : Array Slot} {o : Int32 × gS} (C : gC p s m args meth c cX12_valueNow 6 RX12 ((some .int)) D (mtys cI cS) mord g Am) (O : gO (mcell g cI cS sa) mord g) (X : gX D (mcell g cI cS sa) mord g S s H locs) (hl : lv_has ls 6 [(0, .ref (g 99))]) (hF : fX12_valueNow_b125 N S = some o) : W p l e (rmd 1) s m args below meth c H locs 0 0 (gE below args s D (mtys cI cS) (mcell g cI cS sa) mord g (some (.int o.1)) o.2) (F0 m 125 ls []) := by
  unfold fX12_valueNow_b125 at hF
  refine lv_aload_n C.1.1 C.1.2.1 dX12_valueNow_125 rfl (lv_at hl 0 rfl) ?_
  refine m_g43 C X dX12_valueNow_126 ?_
  refine lv_iconst (v := 0) C.1.1 C.1.2.1 dX12_valueNow_129 (by decide) ?_
  refine m_r43 C X (j := 0) (inb_vp (by decide)) (by decide) dX12_valueNow_130 ?_
  cases hF
  exact g_iret C X dX12_valueNow_131
noncomputable def fX12_valueNow_b119 (N : Nat) (r5 : Nat → Int32 → Int32 → Int32 → gS → Option (Int32 × gS)) (k1 : Nat) (x2 : Int32) (x3 : Int32) (x4 : Int32) (S : gS) : Option (Int32 × gS) := r5 k1 x2 x3 ((x4 + 1 : Int32)) S
theorem bX12_valueNow_119 {N : Nat} {r5 : Nat → Int32 → Int32 → Int32 → gS → Option (Int32 × gS)} {k1 : Nat} {x2 : Int32} {x3 : Int32} {x4 : Int32} {S : gS} {H : Heap} {locs : List Loc} {ls : Array Slot} {o : Int32 × gS} (C : gC p s m args meth c cX12_valueNow 6 RX12 ((some .int)) D (mtys cI cS) mord g Am) (O : gO (mcell g cI cS sa) mord g) (K5 : ∀ (k1 : Nat) (x2 : Int32) (x3 : Int32) (x4 : Int32) (hk_k1 : mI k1 = true) (S : gS) (H : Heap) (locs : List Loc) (ls : Array Slot), gX D (mcell g cI cS sa) mord g S s H locs → lv_has ls 6 [(0, .ref (g 99)), (1, .ref (g k1)), (2, .int x2), (3, .int x3), (4, .int x4)] → r5 k1 x2 x3 x4 S = some o → W p l e (rmd 1) s m args below meth c H locs 0 0 (gE below args s D (mtys cI cS) (mcell g cI cS sa) mord g (some (.int o.1)) o.2) (F0 m 5 ls [])) (hk_k1 : mI k1 = true) (X : gX D (mcell g cI cS sa) mord g S s H locs) (hl : lv_has ls 6 [(0, .ref (g 99)), (1, .ref (g k1)), (2, .int x2), (3, .int x3), (4, .int x4)]) (hF : fX12_valueNow_b119 N r5 k1 x2 x3 x4 S = some o) : W p l e (rmd 1) s m args below meth c H locs 0 0 (gE below args s D (mtys cI cS) (mcell g cI cS sa) mord g (some (.int o.1)) o.2) (F0 m 119 ls []) := by
  unfold fX12_valueNow_b119 at hF
  refine lv_iinc (v := (x4 + 1 : Int32)) (lv' := [(4, .int ((x4 + 1 : Int32))), (0, .ref (g 99)), (1, .ref (g k1)), (2, .int x2), (3, .int x3)]) C.1.1 C.1.2.1 dX12_valueNow_119 hl (k := 4) rfl rfl (by decide) rfl (fun ls hl => ?_)
  refine lv_goto (tgt := 5) C.1.1 C.1.2.1 dX12_valueNow_122 (by decide) ?_
  exact K5 _ _ _ _ hk_k1 _ _ _ _ X (lv_sub hl [1, 2, 3, 4, 0] rfl) hF
noncomputable def fX12_valueNow_b89 (N : Nat) (r5 : Nat → Int32 → Int32 → Int32 → gS → Option (Int32 × gS)) (k1 : Nat) (x2 : Int32) (x3 : Int32) (x4 : Int32) (x5 : Int32) (S : gS) : Option (Int32 × gS) := chk (inb ((((x3 + (-1) : Int32)) - 1 : Int32)) (64)) (chk (inb ((x3 + (-1) : Int32)) (64)) (bnd (fX12_reckon N x5 (S 43 (Int32.toNatClampNeg ((((x3 + (-1) : Int32)) - 1 : Int32)))) (S 43 (Int32.toNatClampNeg ((x3 + (-1) : Int32)))) S) fun q1 => (chk (inb ((((x3 + (-1) : Int32)) - 1 : Int32)) (64)) (lt (sU q1.2 43 (Int32.toNatClampNeg ((((x3 + (-1) : Int32)) - 1 : Int32))) q1.1) fun S2 => (fX12_valueNow_b119 N r5 k1 x2 ((x3 + (-1) : Int32)) x4 S2)))))
theorem bX12_valueNow_89 {N : Nat} {r5 : Nat → Int32 → Int32 → Int32 → gS → Option (Int32 × gS)} {k1 : Nat} {x2 : Int32} {x3 : Int32} {x4 : Int32} {x5 : Int32} {S : gS} {H : Heap} {locs : List Loc} {ls : Array Slot} {o : Int32 × gS} (C : gC p s m args meth c cX12_valueNow 6 RX12 ((some .int)) D (mtys cI cS) mord g Am) (O : gO (mcell g cI cS sa) mord g) (K5 : ∀ (k1 : Nat) (x2 : Int32) (x3 : Int32) (x4 : Int32) (hk_k1 : mI k1 = true) (S : gS) (H : Heap) (locs : List Loc) (ls : Array Slot), gX D (mcell g cI cS sa) mord g S s H locs → lv_has ls 6 [(0, .ref (g 99)), (1, .ref (g k1)), (2, .int x2), (3, .int x3), (4, .int x4)] → r5 k1 x2 x3 x4 S = some o → W p l e (rmd 1) s m args below meth c H locs 0 0 (gE below args s D (mtys cI cS) (mcell g cI cS sa) mord g (some (.int o.1)) o.2) (F0 m 5 ls [])) (hk_k1 : mI k1 = true) (X : gX D (mcell g cI cS sa) mord g S s H locs) (hl : lv_has ls 6 [(0, .ref (g 99)), (1, .ref (g k1)), (2, .int x2), (3, .int x3), (4, .int x4), (5, .int x5)]) (hF : fX12_valueNow_b89 N r5 k1 x2 x3 x4 x5 S = some o) : W p l e (rmd 1) s m args below meth c H locs 0 0 (gE below args s D (mtys cI cS) (mcell g cI cS sa) mord g (some (.int o.1)) o.2) (F0 m 89 ls []) := by
  unfold fX12_valueNow_b89 at hF
  refine lv_iinc (v := (x3 + (-1) : Int32)) (lv' := [(3, .int ((x3 + (-1) : Int32))), (0, .ref (g 99)), (1, .ref (g k1)), (2, .int x2), (4, .int x4), (5, .int x5)]) C.1.1 C.1.2.1 dX12_valueNow_89 hl (k := 3) rfl rfl (by decide) rfl (fun ls hl => ?_)
  refine lv_aload_n C.1.1 C.1.2.1 dX12_valueNow_92 rfl (lv_at hl 1 rfl) ?_
  refine m_g43 C X dX12_valueNow_93 ?_
  refine lv_iload_n C.1.1 C.1.2.1 dX12_valueNow_96 rfl (lv_at hl 0 rfl) ?_
  refine lv_iconst (v := 1) C.1.1 C.1.2.1 dX12_valueNow_97 (by decide) ?_
  refine lv_isub C.1.1 C.1.2.1 dX12_valueNow_98 ?_
  refine lv_iload C.1.1 C.1.2.1 dX12_valueNow_99 (lv_at hl 5 rfl) ?_
  refine lv_aload_n C.1.1 C.1.2.1 dX12_valueNow_101 rfl (lv_at hl 1 rfl) ?_
  refine m_g43 C X dX12_valueNow_102 ?_
  refine lv_iload_n C.1.1 C.1.2.1 dX12_valueNow_105 rfl (lv_at hl 0 rfl) ?_
  refine lv_iconst (v := 1) C.1.1 C.1.2.1 dX12_valueNow_106 (by decide) ?_
  refine lv_isub C.1.1 C.1.2.1 dX12_valueNow_107 ?_
  obtain ⟨h_1, hF⟩ := chk_some hF
  refine m_r43 C X  (inb_vp h_1) rfl dX12_valueNow_108 ?_
  refine lv_aload_n C.1.1 C.1.2.1 dX12_valueNow_109 rfl (lv_at hl 1 rfl) ?_
  refine m_g43 C X dX12_valueNow_110 ?_
  refine lv_iload_n C.1.1 C.1.2.1 dX12_valueNow_113 rfl (lv_at hl 0 rfl) ?_
  obtain ⟨h_2, hF⟩ := chk_some hF
  refine m_r43 C X  (inb_vp h_2) rfl dX12_valueNow_114 ?_
  obtain ⟨q1, hq1, hF⟩ := bnd_some hF
  refine g_callSi C X vX12_reckon (kX12_reckon O C.2.2.2.2.1 N x5 (S 43 (Int32.toNatClampNeg ((((x3 + (-1) : Int32)) - 1 : Int32)))) (S 43 (Int32.toNatClampNeg ((x3 + (-1) : Int32))))  S q1 hq1) (Nat.le_of_ble_eq_true rfl) (Nat.le_of_ble_eq_true rfl) (Nat.le_of_ble_eq_true rfl) (Nat.le_of_ble_eq_true rfl) rfl hl.1 rfl (Nat.le_of_ble_eq_true rfl) dX12_valueNow_115 (fun H locs X => ?_)
  obtain ⟨h_3, hF⟩ := chk_some hF
  obtain ⟨S2, eS2, hF⟩ := lt_some hF
  refine m_w43 C O X  (inb_vp h_3) rfl eS2 dX12_valueNow_118 (fun H locs X => ?_)
  exact bX12_valueNow_119 C O K5 hk_k1 X (lv_sub hl [1, 2, 3, 0, 4] rfl) hF
noncomputable def fX12_valueNow_b85 (N : Nat) (r5 : Nat → Int32 → Int32 → Int32 → gS → Option (Int32 × gS)) (k1 : Nat) (x2 : Int32) (x3 : Int32) (x4 : Int32) (t1 : Int32) (t2 : Int32) (S : gS) : Option (Int32 × gS) := chk (inb t1 (64)) (lt (sU S 43 (Int32.toNatClampNeg t1) t2) fun S1 => (fX12_valueNow_b119 N r5 k1 x2 x3 x4 S1))
theorem bX12_valueNow_85 {N : Nat} {r5 : Nat → Int32 → Int32 → Int32 → gS → Option (Int32 × gS)} {k1 : Nat} {x2 : Int32} {x3 : Int32} {x4 : Int32} {t1 : Int32} {t2 : Int32} {S : gS} {H : Heap} {locs : List Loc} {ls : Array Slot} {o : Int32 × gS} (C : gC p s m args meth c cX12_valueNow 6 RX12 ((some .int)) D (mtys cI cS) mord g Am) (O : gO (mcell g cI cS sa) mord g) (K5 : ∀ (k1 : Nat) (x2 : Int32) (x3 : Int32) (x4 : Int32) (hk_k1 : mI k1 = true) (S : gS) (H : Heap) (locs : List Loc) (ls : Array Slot), gX D (mcell g cI cS sa) mord g S s H locs → lv_has ls 6 [(0, .ref (g 99)), (1, .ref (g k1)), (2, .int x2), (3, .int x3), (4, .int x4)] → r5 k1 x2 x3 x4 S = some o → W p l e (rmd 1) s m args below meth c H locs 0 0 (gE below args s D (mtys cI cS) (mcell g cI cS sa) mord g (some (.int o.1)) o.2) (F0 m 5 ls [])) (hk_k1 : mI k1 = true) (X : gX D (mcell g cI cS sa) mord g S s H locs) (hl : lv_has ls 6 [(0, .ref (g 99)), (1, .ref (g k1)), (2, .int x2), (3, .int x3), (4, .int x4)]) (hF : fX12_valueNow_b85 N r5 k1 x2 x3 x4 t1 t2 S = some o) : W p l e (rmd 1) s m args below meth c H locs 0 0 (gE below args s D (mtys cI cS) (mcell g cI cS sa) mord g (some (.int o.1)) o.2) (F0 m 85 ls [.int t2, .int t1, .ref (g 43)]) := by
  unfold fX12_valueNow_b85 at hF
  obtain ⟨h_1, hF⟩ := chk_some hF
  obtain ⟨S1, eS1, hF⟩ := lt_some hF
  refine m_w43 C O X  (inb_vp h_1) rfl eS1 dX12_valueNow_85 (fun H locs X => ?_)
  refine lv_goto (tgt := 119) C.1.1 C.1.2.1 dX12_valueNow_86 (by decide) ?_
  exact bX12_valueNow_119 C O K5 hk_k1 X (lv_sub hl [0, 1, 2, 3, 4] rfl) hF
noncomputable def fX12_valueNow_b84 (N : Nat) (r5 : Nat → Int32 → Int32 → Int32 → gS → Option (Int32 × gS)) (k1 : Nat) (x2 : Int32) (x3 : Int32) (x4 : Int32) (t1 : Int32) (S : gS) : Option (Int32 × gS) := fX12_valueNow_b85 N r5 k1 x2 x3 x4 t1 1 S
theorem bX12_valueNow_84 {N : Nat} {r5 : Nat → Int32 → Int32 → Int32 → gS → Option (Int32 × gS)} {k1 : Nat} {x2 : Int32} {x3 : Int32} {x4 : Int32} {t1 : Int32} {S : gS} {H : Heap} {locs : List Loc} {ls : Array Slot} {o : Int32 × gS} (C : gC p s m args meth c cX12_valueNow 6 RX12 ((some .int)) D (mtys cI cS) mord g Am) (O : gO (mcell g cI cS sa) mord g) (K5 : ∀ (k1 : Nat) (x2 : Int32) (x3 : Int32) (x4 : Int32) (hk_k1 : mI k1 = true) (S : gS) (H : Heap) (locs : List Loc) (ls : Array Slot), gX D (mcell g cI cS sa) mord g S s H locs → lv_has ls 6 [(0, .ref (g 99)), (1, .ref (g k1)), (2, .int x2), (3, .int x3), (4, .int x4)] → r5 k1 x2 x3 x4 S = some o → W p l e (rmd 1) s m args below meth c H locs 0 0 (gE below args s D (mtys cI cS) (mcell g cI cS sa) mord g (some (.int o.1)) o.2) (F0 m 5 ls [])) (hk_k1 : mI k1 = true) (X : gX D (mcell g cI cS sa) mord g S s H locs) (hl : lv_has ls 6 [(0, .ref (g 99)), (1, .ref (g k1)), (2, .int x2), (3, .int x3), (4, .int x4)]) (hF : fX12_valueNow_b84 N r5 k1 x2 x3 x4 t1 S = some o) : W p l e (rmd 1) s m args below meth c H locs 0 0 (gE below args s D (mtys cI cS) (mcell g cI cS sa) mord g (some (.int o.1)) o.2) (F0 m 84 ls [.int t1, .ref (g 43)]) := by
  unfold fX12_valueNow_b84 at hF
  refine lv_iconst (v := 1) C.1.1 C.1.2.1 dX12_valueNow_84 (by decide) ?_
  exact bX12_valueNow_85 C O K5 hk_k1 X (lv_sub hl [0, 1, 2, 3, 4] rfl) hF
noncomputable def fX12_valueNow_b80 (N : Nat) (r5 : Nat → Int32 → Int32 → Int32 → gS → Option (Int32 × gS)) (k1 : Nat) (x2 : Int32) (x3 : Int32) (x4 : Int32) (t1 : Int32) (S : gS) : Option (Int32 × gS) := fX12_valueNow_b85 N r5 k1 x2 x3 x4 t1 0 S
theorem bX12_valueNow_80 {N : Nat} {r5 : Nat → Int32 → Int32 → Int32 → gS → Option (Int32 × gS)} {k1 : Nat} {x2 : Int32} {x3 : Int32} {x4 : Int32} {t1 : Int32} {S : gS} {H : Heap} {locs : List Loc} {ls : Array Slot} {o : Int32 × gS} (C : gC p s m args meth c cX12_valueNow 6 RX12 ((some .int)) D (mtys cI cS) mord g Am) (O : gO (mcell g cI cS sa) mord g) (K5 : ∀ (k1 : Nat) (x2 : Int32) (x3 : Int32) (x4 : Int32) (hk_k1 : mI k1 = true) (S : gS) (H : Heap) (locs : List Loc) (ls : Array Slot), gX D (mcell g cI cS sa) mord g S s H locs → lv_has ls 6 [(0, .ref (g 99)), (1, .ref (g k1)), (2, .int x2), (3, .int x3), (4, .int x4)] → r5 k1 x2 x3 x4 S = some o → W p l e (rmd 1) s m args below meth c H locs 0 0 (gE below args s D (mtys cI cS) (mcell g cI cS sa) mord g (some (.int o.1)) o.2) (F0 m 5 ls [])) (hk_k1 : mI k1 = true) (X : gX D (mcell g cI cS sa) mord g S s H locs) (hl : lv_has ls 6 [(0, .ref (g 99)), (1, .ref (g k1)), (2, .int x2), (3, .int x3), (4, .int x4)]) (hF : fX12_valueNow_b80 N r5 k1 x2 x3 x4 t1 S = some o) : W p l e (rmd 1) s m args below meth c H locs 0 0 (gE below args s D (mtys cI cS) (mcell g cI cS sa) mord g (some (.int o.1)) o.2) (F0 m 80 ls [.int t1, .ref (g 43)]) := by
  unfold fX12_valueNow_b80 at hF
  refine lv_iconst (v := 0) C.1.1 C.1.2.1 dX12_valueNow_80 (by decide) ?_
  refine lv_goto (tgt := 85) C.1.1 C.1.2.1 dX12_valueNow_81 (by decide) ?_
  exact bX12_valueNow_85 C O K5 hk_k1 X (lv_sub hl [0, 1, 2, 3, 4] rfl) hF
noncomputable def fX12_valueNow_b62 (N : Nat) (r5 : Nat → Int32 → Int32 → Int32 → gS → Option (Int32 × gS)) (k1 : Nat) (x2 : Int32) (x3 : Int32) (x4 : Int32) (S : gS) : Option (Int32 × gS) := chk (inb ((x3 - 1 : Int32)) (64)) (if (S 43 (Int32.toNatClampNeg ((x3 - 1 : Int32)))) = 0 then fX12_valueNow_b84 N r5 k1 x2 x3 x4 ((x3 - 1 : Int32)) S else fX12_valueNow_b80 N r5 k1 x2 x3 x4 ((x3 - 1 : Int32)) S)
theorem bX12_valueNow_62 {N : Nat} {r5 : Nat → Int32 → Int32 → Int32 → gS → Option (Int32 × gS)} {k1 : Nat} {x2 : Int32} {x3 : Int32} {x4 : Int32} {S : gS} {H : Heap} {locs : List Loc} {ls : Array Slot} {o : Int32 × gS} (C : gC p s m args meth c cX12_valueNow 6 RX12 ((some .int)) D (mtys cI cS) mord g Am) (O : gO (mcell g cI cS sa) mord g) (K5 : ∀ (k1 : Nat) (x2 : Int32) (x3 : Int32) (x4 : Int32) (hk_k1 : mI k1 = true) (S : gS) (H : Heap) (locs : List Loc) (ls : Array Slot), gX D (mcell g cI cS sa) mord g S s H locs → lv_has ls 6 [(0, .ref (g 99)), (1, .ref (g k1)), (2, .int x2), (3, .int x3), (4, .int x4)] → r5 k1 x2 x3 x4 S = some o → W p l e (rmd 1) s m args below meth c H locs 0 0 (gE below args s D (mtys cI cS) (mcell g cI cS sa) mord g (some (.int o.1)) o.2) (F0 m 5 ls [])) (hk_k1 : mI k1 = true) (X : gX D (mcell g cI cS sa) mord g S s H locs) (hl : lv_has ls 6 [(0, .ref (g 99)), (1, .ref (g k1)), (2, .int x2), (3, .int x3), (4, .int x4)]) (hF : fX12_valueNow_b62 N r5 k1 x2 x3 x4 S = some o) : W p l e (rmd 1) s m args below meth c H locs 0 0 (gE below args s D (mtys cI cS) (mcell g cI cS sa) mord g (some (.int o.1)) o.2) (F0 m 62 ls []) := by
  unfold fX12_valueNow_b62 at hF
  refine lv_aload_n C.1.1 C.1.2.1 dX12_valueNow_62 rfl (lv_at hl 0 rfl) ?_
  refine m_g43 C X dX12_valueNow_63 ?_
  refine lv_iload_n C.1.1 C.1.2.1 dX12_valueNow_66 rfl (lv_at hl 3 rfl) ?_
  refine lv_iconst (v := 1) C.1.1 C.1.2.1 dX12_valueNow_67 (by decide) ?_
  refine lv_isub C.1.1 C.1.2.1 dX12_valueNow_68 ?_
  refine lv_aload_n C.1.1 C.1.2.1 dX12_valueNow_69 rfl (lv_at hl 0 rfl) ?_
  refine m_g43 C X dX12_valueNow_70 ?_
  refine lv_iload_n C.1.1 C.1.2.1 dX12_valueNow_73 rfl (lv_at hl 3 rfl) ?_
  refine lv_iconst (v := 1) C.1.1 C.1.2.1 dX12_valueNow_74 (by decide) ?_
  refine lv_isub C.1.1 C.1.2.1 dX12_valueNow_75 ?_
  obtain ⟨h_1, hF⟩ := chk_some hF
  refine m_r43 C X  (inb_vp h_1) rfl dX12_valueNow_76 ?_
  refine lv_if_eq (tgt := 84) C.1.1 C.1.2.1 dX12_valueNow_77 (by decide) (fun h_z => ?_) (fun h_z => ?_)
  · rw [if_pos h_z] at hF
    exact bX12_valueNow_84 C O K5 hk_k1 X (lv_sub hl [0, 1, 2, 3, 4] rfl) hF
  · rw [if_neg h_z] at hF
    exact bX12_valueNow_80 C O K5 hk_k1 X (lv_sub hl [0, 1, 2, 3, 4] rfl) hF
noncomputable def fX12_valueNow_b55 (N : Nat) (r5 : Nat → Int32 → Int32 → Int32 → gS → Option (Int32 × gS)) (k1 : Nat) (x2 : Int32) (x3 : Int32) (x4 : Int32) (x5 : Int32) (S : gS) : Option (Int32 × gS) := if x5 = ((-28)) then fX12_valueNow_b62 N r5 k1 x2 x3 x4 S else fX12_valueNow_b89 N r5 k1 x2 x3 x4 x5 S
theorem bX12_valueNow_55 {N : Nat} {r5 : Nat → Int32 → Int32 → Int32 → gS → Option (Int32 × gS)} {k1 : Nat} {x2 : Int32} {x3 : Int32} {x4 : Int32} {x5 : Int32} {S : gS} {H : Heap} {locs : List Loc} {ls : Array Slot} {o : Int32 × gS} (C : gC p s m args meth c cX12_valueNow 6 RX12 ((some .int)) D (mtys cI cS) mord g Am) (O : gO (mcell g cI cS sa) mord g) (K5 : ∀ (k1 : Nat) (x2 : Int32) (x3 : Int32) (x4 : Int32) (hk_k1 : mI k1 = true) (S : gS) (H : Heap) (locs : List Loc) (ls : Array Slot), gX D (mcell g cI cS sa) mord g S s H locs → lv_has ls 6 [(0, .ref (g 99)), (1, .ref (g k1)), (2, .int x2), (3, .int x3), (4, .int x4)] → r5 k1 x2 x3 x4 S = some o → W p l e (rmd 1) s m args below meth c H locs 0 0 (gE below args s D (mtys cI cS) (mcell g cI cS sa) mord g (some (.int o.1)) o.2) (F0 m 5 ls [])) (hk_k1 : mI k1 = true) (X : gX D (mcell g cI cS sa) mord g S s H locs) (hl : lv_has ls 6 [(0, .ref (g 99)), (1, .ref (g k1)), (2, .int x2), (3, .int x3), (4, .int x4), (5, .int x5)]) (hF : fX12_valueNow_b55 N r5 k1 x2 x3 x4 x5 S = some o) : W p l e (rmd 1) s m args below meth c H locs 0 0 (gE below args s D (mtys cI cS) (mcell g cI cS sa) mord g (some (.int o.1)) o.2) (F0 m 55 ls []) := by
  unfold fX12_valueNow_b55 at hF
  refine lv_iload C.1.1 C.1.2.1 dX12_valueNow_55 (lv_at hl 5 rfl) ?_
  refine lv_bipush (v := (-28)) C.1.1 C.1.2.1 dX12_valueNow_57 (by decide) ?_
  refine lv_icmp_ne (tgt := 89) C.1.1 C.1.2.1 dX12_valueNow_59 (by decide) (fun h_z => ?_) (fun h_z => ?_)
  · rw [if_neg h_z] at hF
    exact bX12_valueNow_89 C O K5 hk_k1 X (lv_sub hl [0, 1, 2, 3, 4, 5] rfl) hF
  · rw [if_pos h_z] at hF
    exact bX12_valueNow_62 C O K5 hk_k1 X (lv_sub hl [0, 1, 2, 3, 4] rfl) hF
noncomputable def fX12_valueNow_b48 (N : Nat) (r5 : Nat → Int32 → Int32 → Int32 → gS → Option (Int32 × gS)) (k1 : Nat) (x2 : Int32) (x3 : Int32) (x4 : Int32) (t1 : Int32) (t2 : Int32) (S : gS) : Option (Int32 × gS) := chk (inb t1 (64)) (lt (sU S 43 (Int32.toNatClampNeg t1) t2) fun S1 => (fX12_valueNow_b119 N r5 k1 x2 ((x3 + 1 : Int32)) x4 S1))
theorem bX12_valueNow_48 {N : Nat} {r5 : Nat → Int32 → Int32 → Int32 → gS → Option (Int32 × gS)} {k1 : Nat} {x2 : Int32} {x3 : Int32} {x4 : Int32} {t1 : Int32} {t2 : Int32} {S : gS} {H : Heap} {locs : List Loc} {ls : Array Slot} {o : Int32 × gS} (C : gC p s m args meth c cX12_valueNow 6 RX12 ((some .int)) D (mtys cI cS) mord g Am) (O : gO (mcell g cI cS sa) mord g) (K5 : ∀ (k1 : Nat) (x2 : Int32) (x3 : Int32) (x4 : Int32) (hk_k1 : mI k1 = true) (S : gS) (H : Heap) (locs : List Loc) (ls : Array Slot), gX D (mcell g cI cS sa) mord g S s H locs → lv_has ls 6 [(0, .ref (g 99)), (1, .ref (g k1)), (2, .int x2), (3, .int x3), (4, .int x4)] → r5 k1 x2 x3 x4 S = some o → W p l e (rmd 1) s m args below meth c H locs 0 0 (gE below args s D (mtys cI cS) (mcell g cI cS sa) mord g (some (.int o.1)) o.2) (F0 m 5 ls [])) (hk_k1 : mI k1 = true) (X : gX D (mcell g cI cS sa) mord g S s H locs) (hl : lv_has ls 6 [(0, .ref (g 99)), (1, .ref (g k1)), (2, .int x2), (3, .int x3), (4, .int x4)]) (hF : fX12_valueNow_b48 N r5 k1 x2 x3 x4 t1 t2 S = some o) : W p l e (rmd 1) s m args below meth c H locs 0 0 (gE below args s D (mtys cI cS) (mcell g cI cS sa) mord g (some (.int o.1)) o.2) (F0 m 48 ls [.int t2, .int t1, .ref (g 43)]) := by
  unfold fX12_valueNow_b48 at hF
  obtain ⟨h_1, hF⟩ := chk_some hF
  obtain ⟨S1, eS1, hF⟩ := lt_some hF
  refine m_w43 C O X  (inb_vp h_1) rfl eS1 dX12_valueNow_48 (fun H locs X => ?_)
  refine lv_iinc (v := (x3 + 1 : Int32)) (lv' := [(3, .int ((x3 + 1 : Int32))), (0, .ref (g 99)), (1, .ref (g k1)), (2, .int x2), (4, .int x4)]) C.1.1 C.1.2.1 dX12_valueNow_49 hl (k := 3) rfl rfl (by decide) rfl (fun ls hl => ?_)
  refine lv_goto (tgt := 119) C.1.1 C.1.2.1 dX12_valueNow_52 (by decide) ?_
  exact bX12_valueNow_119 C O K5 hk_k1 X (lv_sub hl [1, 2, 3, 0, 4] rfl) hF
noncomputable def fX12_valueNow_b39 (N : Nat) (r5 : Nat → Int32 → Int32 → Int32 → gS → Option (Int32 × gS)) (k1 : Nat) (x2 : Int32) (x3 : Int32) (x4 : Int32) (x5 : Int32) (t1 : Int32) (S : gS) : Option (Int32 × gS) := chk (inb ((((-1)) - x5 : Int32)) (7)) (fX12_valueNow_b48 N r5 k1 x2 x3 x4 t1 (S 42 (Int32.toNatClampNeg ((((-1)) - x5 : Int32)))) S)
theorem bX12_valueNow_39 {N : Nat} {r5 : Nat → Int32 → Int32 → Int32 → gS → Option (Int32 × gS)} {k1 : Nat} {x2 : Int32} {x3 : Int32} {x4 : Int32} {x5 : Int32} {t1 : Int32} {S : gS} {H : Heap} {locs : List Loc} {ls : Array Slot} {o : Int32 × gS} (C : gC p s m args meth c cX12_valueNow 6 RX12 ((some .int)) D (mtys cI cS) mord g Am) (O : gO (mcell g cI cS sa) mord g) (K5 : ∀ (k1 : Nat) (x2 : Int32) (x3 : Int32) (x4 : Int32) (hk_k1 : mI k1 = true) (S : gS) (H : Heap) (locs : List Loc) (ls : Array Slot), gX D (mcell g cI cS sa) mord g S s H locs → lv_has ls 6 [(0, .ref (g 99)), (1, .ref (g k1)), (2, .int x2), (3, .int x3), (4, .int x4)] → r5 k1 x2 x3 x4 S = some o → W p l e (rmd 1) s m args below meth c H locs 0 0 (gE below args s D (mtys cI cS) (mcell g cI cS sa) mord g (some (.int o.1)) o.2) (F0 m 5 ls [])) (hk_k1 : mI k1 = true) (X : gX D (mcell g cI cS sa) mord g S s H locs) (hl : lv_has ls 6 [(0, .ref (g 99)), (1, .ref (g k1)), (2, .int x2), (3, .int x3), (4, .int x4), (5, .int x5)]) (hF : fX12_valueNow_b39 N r5 k1 x2 x3 x4 x5 t1 S = some o) : W p l e (rmd 1) s m args below meth c H locs 0 0 (gE below args s D (mtys cI cS) (mcell g cI cS sa) mord g (some (.int o.1)) o.2) (F0 m 39 ls [.int t1, .ref (g 43)]) := by
  unfold fX12_valueNow_b39 at hF
  refine lv_aload_n C.1.1 C.1.2.1 dX12_valueNow_39 rfl (lv_at hl 0 rfl) ?_
  refine m_g42 C X dX12_valueNow_40 ?_
  refine lv_iconst (v := (-1)) C.1.1 C.1.2.1 dX12_valueNow_43 (by decide) ?_
  refine lv_iload C.1.1 C.1.2.1 dX12_valueNow_44 (lv_at hl 5 rfl) ?_
  refine lv_isub C.1.1 C.1.2.1 dX12_valueNow_46 ?_
  obtain ⟨h_1, hF⟩ := chk_some hF
  refine m_r42 C X  (inb_vp h_1) rfl dX12_valueNow_47 ?_
  exact bX12_valueNow_48 C O K5 hk_k1 X (lv_sub hl [0, 1, 2, 3, 4] rfl) hF
noncomputable def fX12_valueNow_b34 (N : Nat) (r5 : Nat → Int32 → Int32 → Int32 → gS → Option (Int32 × gS)) (k1 : Nat) (x2 : Int32) (x3 : Int32) (x4 : Int32) (x5 : Int32) (t1 : Int32) (S : gS) : Option (Int32 × gS) := fX12_valueNow_b48 N r5 k1 x2 x3 x4 t1 x5 S
theorem bX12_valueNow_34 {N : Nat} {r5 : Nat → Int32 → Int32 → Int32 → gS → Option (Int32 × gS)} {k1 : Nat} {x2 : Int32} {x3 : Int32} {x4 : Int32} {x5 : Int32} {t1 : Int32} {S : gS} {H : Heap} {locs : List Loc} {ls : Array Slot} {o : Int32 × gS} (C : gC p s m args meth c cX12_valueNow 6 RX12 ((some .int)) D (mtys cI cS) mord g Am) (O : gO (mcell g cI cS sa) mord g) (K5 : ∀ (k1 : Nat) (x2 : Int32) (x3 : Int32) (x4 : Int32) (hk_k1 : mI k1 = true) (S : gS) (H : Heap) (locs : List Loc) (ls : Array Slot), gX D (mcell g cI cS sa) mord g S s H locs → lv_has ls 6 [(0, .ref (g 99)), (1, .ref (g k1)), (2, .int x2), (3, .int x3), (4, .int x4)] → r5 k1 x2 x3 x4 S = some o → W p l e (rmd 1) s m args below meth c H locs 0 0 (gE below args s D (mtys cI cS) (mcell g cI cS sa) mord g (some (.int o.1)) o.2) (F0 m 5 ls [])) (hk_k1 : mI k1 = true) (X : gX D (mcell g cI cS sa) mord g S s H locs) (hl : lv_has ls 6 [(0, .ref (g 99)), (1, .ref (g k1)), (2, .int x2), (3, .int x3), (4, .int x4), (5, .int x5)]) (hF : fX12_valueNow_b34 N r5 k1 x2 x3 x4 x5 t1 S = some o) : W p l e (rmd 1) s m args below meth c H locs 0 0 (gE below args s D (mtys cI cS) (mcell g cI cS sa) mord g (some (.int o.1)) o.2) (F0 m 34 ls [.int t1, .ref (g 43)]) := by
  unfold fX12_valueNow_b34 at hF
  refine lv_iload C.1.1 C.1.2.1 dX12_valueNow_34 (lv_at hl 5 rfl) ?_
  refine lv_goto (tgt := 48) C.1.1 C.1.2.1 dX12_valueNow_36 (by decide) ?_
  exact bX12_valueNow_48 C O K5 hk_k1 X (lv_sub hl [0, 1, 2, 3, 4] rfl) hF
noncomputable def fX12_valueNow_b24 (N : Nat) (r5 : Nat → Int32 → Int32 → Int32 → gS → Option (Int32 × gS)) (k1 : Nat) (x2 : Int32) (x3 : Int32) (x4 : Int32) (x5 : Int32) (S : gS) : Option (Int32 × gS) := if x5 < 0 then fX12_valueNow_b39 N r5 k1 x2 x3 x4 x5 x3 S else fX12_valueNow_b34 N r5 k1 x2 x3 x4 x5 x3 S
theorem bX12_valueNow_24 {N : Nat} {r5 : Nat → Int32 → Int32 → Int32 → gS → Option (Int32 × gS)} {k1 : Nat} {x2 : Int32} {x3 : Int32} {x4 : Int32} {x5 : Int32} {S : gS} {H : Heap} {locs : List Loc} {ls : Array Slot} {o : Int32 × gS} (C : gC p s m args meth c cX12_valueNow 6 RX12 ((some .int)) D (mtys cI cS) mord g Am) (O : gO (mcell g cI cS sa) mord g) (K5 : ∀ (k1 : Nat) (x2 : Int32) (x3 : Int32) (x4 : Int32) (hk_k1 : mI k1 = true) (S : gS) (H : Heap) (locs : List Loc) (ls : Array Slot), gX D (mcell g cI cS sa) mord g S s H locs → lv_has ls 6 [(0, .ref (g 99)), (1, .ref (g k1)), (2, .int x2), (3, .int x3), (4, .int x4)] → r5 k1 x2 x3 x4 S = some o → W p l e (rmd 1) s m args below meth c H locs 0 0 (gE below args s D (mtys cI cS) (mcell g cI cS sa) mord g (some (.int o.1)) o.2) (F0 m 5 ls [])) (hk_k1 : mI k1 = true) (X : gX D (mcell g cI cS sa) mord g S s H locs) (hl : lv_has ls 6 [(0, .ref (g 99)), (1, .ref (g k1)), (2, .int x2), (3, .int x3), (4, .int x4), (5, .int x5)]) (hF : fX12_valueNow_b24 N r5 k1 x2 x3 x4 x5 S = some o) : W p l e (rmd 1) s m args below meth c H locs 0 0 (gE below args s D (mtys cI cS) (mcell g cI cS sa) mord g (some (.int o.1)) o.2) (F0 m 24 ls []) := by
  unfold fX12_valueNow_b24 at hF
  refine lv_aload_n C.1.1 C.1.2.1 dX12_valueNow_24 rfl (lv_at hl 0 rfl) ?_
  refine m_g43 C X dX12_valueNow_25 ?_
  refine lv_iload_n C.1.1 C.1.2.1 dX12_valueNow_28 rfl (lv_at hl 3 rfl) ?_
  refine lv_iload C.1.1 C.1.2.1 dX12_valueNow_29 (lv_at hl 5 rfl) ?_
  refine lv_if_lt (tgt := 39) C.1.1 C.1.2.1 dX12_valueNow_31 (by decide) (fun h_z => ?_) (fun h_z => ?_)
  · rw [if_pos h_z] at hF
    exact bX12_valueNow_39 C O K5 hk_k1 X (lv_sub hl [0, 1, 2, 3, 4, 5] rfl) hF
  · rw [if_neg h_z] at hF
    exact bX12_valueNow_34 C O K5 hk_k1 X (lv_sub hl [0, 1, 2, 3, 4, 5] rfl) hF
noncomputable def fX12_valueNow_b11 (N : Nat) (r5 : Nat → Int32 → Int32 → Int32 → gS → Option (Int32 × gS)) (k1 : Nat) (x2 : Int32) (x3 : Int32) (x4 : Int32) (S : gS) : Option (Int32 × gS) := chk (inb x4 (mN k1)) (if (S k1 (Int32.toNatClampNeg x4)) ≤ ((-20)) then fX12_valueNow_b55 N r5 k1 x2 x3 x4 (S k1 (Int32.toNatClampNeg x4)) S else fX12_valueNow_b24 N r5 k1 x2 x3 x4 (S k1 (Int32.toNatClampNeg x4)) S)
theorem bX12_valueNow_11 {N : Nat} {r5 : Nat → Int32 → Int32 → Int32 → gS → Option (Int32 × gS)} {k1 : Nat} {x2 : Int32} {x3 : Int32} {x4 : Int32} {S : gS} {H : Heap} {locs : List Loc} {ls : Array Slot} {o : Int32 × gS} (C : gC p s m args meth c cX12_valueNow 6 RX12 ((some .int)) D (mtys cI cS) mord g Am) (O : gO (mcell g cI cS sa) mord g) (K5 : ∀ (k1 : Nat) (x2 : Int32) (x3 : Int32) (x4 : Int32) (hk_k1 : mI k1 = true) (S : gS) (H : Heap) (locs : List Loc) (ls : Array Slot), gX D (mcell g cI cS sa) mord g S s H locs → lv_has ls 6 [(0, .ref (g 99)), (1, .ref (g k1)), (2, .int x2), (3, .int x3), (4, .int x4)] → r5 k1 x2 x3 x4 S = some o → W p l e (rmd 1) s m args below meth c H locs 0 0 (gE below args s D (mtys cI cS) (mcell g cI cS sa) mord g (some (.int o.1)) o.2) (F0 m 5 ls [])) (hk_k1 : mI k1 = true) (X : gX D (mcell g cI cS sa) mord g S s H locs) (hl : lv_has ls 6 [(0, .ref (g 99)), (1, .ref (g k1)), (2, .int x2), (3, .int x3), (4, .int x4)]) (hF : fX12_valueNow_b11 N r5 k1 x2 x3 x4 S = some o) : W p l e (rmd 1) s m args below meth c H locs 0 0 (gE below args s D (mtys cI cS) (mcell g cI cS sa) mord g (some (.int o.1)) o.2) (F0 m 11 ls []) := by
  unfold fX12_valueNow_b11 at hF
  refine lv_aload_n C.1.1 C.1.2.1 dX12_valueNow_11 rfl (lv_at hl 1 rfl) ?_
  refine lv_iload C.1.1 C.1.2.1 dX12_valueNow_12 (lv_at hl 4 rfl) ?_
  obtain ⟨h_1, hF⟩ := chk_some hF
  refine m_rv C X (k := k1) hk_k1  (inb_vp h_1) rfl dX12_valueNow_14 ?_
  refine lv_istore (lv' := [(5, .int (S k1 (Int32.toNatClampNeg x4))), (0, .ref (g 99)), (1, .ref (g k1)), (2, .int x2), (3, .int x3), (4, .int x4)]) C.1.1 C.1.2.1 dX12_valueNow_15 hl (by decide) rfl (fun ls hl => ?_)
  refine lv_iload C.1.1 C.1.2.1 dX12_valueNow_17 (lv_at hl 0 rfl) ?_
  refine lv_bipush (v := (-20)) C.1.1 C.1.2.1 dX12_valueNow_19 (by decide) ?_
  refine lv_icmp_le (tgt := 55) C.1.1 C.1.2.1 dX12_valueNow_21 (by decide) (fun h_z => ?_) (fun h_z => ?_)
  · rw [if_pos h_z] at hF
    exact bX12_valueNow_55 C O K5 hk_k1 X (lv_sub hl [1, 2, 3, 4, 5, 0] rfl) hF
  · rw [if_neg h_z] at hF
    exact bX12_valueNow_24 C O K5 hk_k1 X (lv_sub hl [1, 2, 3, 4, 5, 0] rfl) hF
noncomputable def fX12_valueNow_b5 (N : Nat) (r5 : Nat → Int32 → Int32 → Int32 → gS → Option (Int32 × gS)) (k1 : Nat) (x2 : Int32) (x3 : Int32) (x4 : Int32) (S : gS) : Option (Int32 × gS) := if x2 ≤ x4 then fX12_valueNow_b125 N S else fX12_valueNow_b11 N r5 k1 x2 x3 x4 S
theorem bX12_valueNow_5 {N : Nat} {r5 : Nat → Int32 → Int32 → Int32 → gS → Option (Int32 × gS)} {k1 : Nat} {x2 : Int32} {x3 : Int32} {x4 : Int32} {S : gS} {H : Heap} {locs : List Loc} {ls : Array Slot} {o : Int32 × gS} (C : gC p s m args meth c cX12_valueNow 6 RX12 ((some .int)) D (mtys cI cS) mord g Am) (O : gO (mcell g cI cS sa) mord g) (K5 : ∀ (k1 : Nat) (x2 : Int32) (x3 : Int32) (x4 : Int32) (hk_k1 : mI k1 = true) (S : gS) (H : Heap) (locs : List Loc) (ls : Array Slot), gX D (mcell g cI cS sa) mord g S s H locs → lv_has ls 6 [(0, .ref (g 99)), (1, .ref (g k1)), (2, .int x2), (3, .int x3), (4, .int x4)] → r5 k1 x2 x3 x4 S = some o → W p l e (rmd 1) s m args below meth c H locs 0 0 (gE below args s D (mtys cI cS) (mcell g cI cS sa) mord g (some (.int o.1)) o.2) (F0 m 5 ls [])) (hk_k1 : mI k1 = true) (X : gX D (mcell g cI cS sa) mord g S s H locs) (hl : lv_has ls 6 [(0, .ref (g 99)), (1, .ref (g k1)), (2, .int x2), (3, .int x3), (4, .int x4)]) (hF : fX12_valueNow_b5 N r5 k1 x2 x3 x4 S = some o) : W p l e (rmd 1) s m args below meth c H locs 0 0 (gE below args s D (mtys cI cS) (mcell g cI cS sa) mord g (some (.int o.1)) o.2) (F0 m 5 ls []) := by
  unfold fX12_valueNow_b5 at hF
  refine lv_iload C.1.1 C.1.2.1 dX12_valueNow_5 (lv_at hl 4 rfl) ?_
  refine lv_iload_n C.1.1 C.1.2.1 dX12_valueNow_7 rfl (lv_at hl 2 rfl) ?_
  refine lv_icmp_ge (tgt := 125) C.1.1 C.1.2.1 dX12_valueNow_8 (by decide) (fun h_z => ?_) (fun h_z => ?_)
  · rw [if_pos h_z] at hF
    exact bX12_valueNow_125 C O X (lv_sub hl [0] rfl) hF
  · rw [if_neg h_z] at hF
    exact bX12_valueNow_11 C O K5 hk_k1 X (lv_sub hl [0, 1, 2, 3, 4] rfl) hF
noncomputable def fX12_valueNow_h5 (N : Nat) : Nat → Nat → Int32 → Int32 → Int32 → gS → Option (Int32 × gS)
  | 0, _, _, _, _, _ => none
  | n + 1, k1, x2, x3, x4, S => fX12_valueNow_b5 N (fX12_valueNow_h5 N n) k1 x2 x3 x4 S
theorem hX12_valueNow_5 {N : Nat} {o : Int32 × gS} (C : gC p s m args meth c cX12_valueNow 6 RX12 ((some .int)) D (mtys cI cS) mord g Am) (O : gO (mcell g cI cS sa) mord g) : ∀ (n : Nat) (k1 : Nat) (x2 : Int32) (x3 : Int32) (x4 : Int32) (hk_k1 : mI k1 = true) (S : gS) (H : Heap) (locs : List Loc) (ls : Array Slot), gX D (mcell g cI cS sa) mord g S s H locs → lv_has ls 6 [(0, .ref (g 99)), (1, .ref (g k1)), (2, .int x2), (3, .int x3), (4, .int x4)] → fX12_valueNow_h5 N n k1 x2 x3 x4 S = some o → W p l e (rmd 1) s m args below meth c H locs 0 0 (gE below args s D (mtys cI cS) (mcell g cI cS sa) mord g (some (.int o.1)) o.2) (F0 m 5 ls []) := by
  intro n
  induction n with
  | zero =>
    intro k1 x2 x3 x4 hk_k1 S H locs ls X hl hF
    exact absurd (show (none : Option (Int32 × gS)) = some o from hF) (by simp)
  | succ n ih =>
    intro k1 x2 x3 x4 hk_k1 S H locs ls X hl hF
    have hF : fX12_valueNow_b5 N (fX12_valueNow_h5 N n) k1 x2 x3 x4 S = some o := hF
    exact bX12_valueNow_5 C O ih hk_k1 X hl hF
noncomputable def fX12_valueNow_b0 (N : Nat) (k1 : Nat) (x2 : Int32) (S : gS) : Option (Int32 × gS) := fX12_valueNow_h5 N N k1 x2 0 0 S
theorem bX12_valueNow_0 {N : Nat} {k1 : Nat} {x2 : Int32} {S : gS} {H : Heap} {locs : List Loc} {ls : Array Slot} {o : Int32 × gS} (C : gC p s m args meth c cX12_valueNow 6 RX12 ((some .int)) D (mtys cI cS) mord g Am) (O : gO (mcell g cI cS sa) mord g) (hk_k1 : mI k1 = true) (X : gX D (mcell g cI cS sa) mord g S s H locs) (hl : lv_has ls 6 [(0, .ref (g 99)), (1, .ref (g k1)), (2, .int x2)]) (hF : fX12_valueNow_b0 N k1 x2 S = some o) : W p l e (rmd 1) s m args below meth c H locs 0 0 (gE below args s D (mtys cI cS) (mcell g cI cS sa) mord g (some (.int o.1)) o.2) (F0 m 0 ls []) := by
  unfold fX12_valueNow_b0 at hF
  refine lv_iconst (v := 0) C.1.1 C.1.2.1 dX12_valueNow_0 (by decide) ?_
  refine lv_istore_n (lv' := [(3, .int 0), (0, .ref (g 99)), (1, .ref (g k1)), (2, .int x2)]) C.1.1 C.1.2.1 dX12_valueNow_1 rfl hl (by decide) rfl (fun ls hl => ?_)
  refine lv_iconst (v := 0) C.1.1 C.1.2.1 dX12_valueNow_2 (by decide) ?_
  refine lv_istore (lv' := [(4, .int 0), (3, .int 0), (0, .ref (g 99)), (1, .ref (g k1)), (2, .int x2)]) C.1.1 C.1.2.1 dX12_valueNow_3 hl (by decide) rfl (fun ls hl => ?_)
  exact hX12_valueNow_5 C O N _ _ _ _ hk_k1 _ _ _ _ X (lv_sub hl [2, 3, 4, 1, 0] rfl) hF
noncomputable def fX12_valueNow (N : Nat) (k1 : Nat) (x2 : Int32) (S : gS) : Option (Int32 × gS) := fX12_valueNow_b0 N k1 x2 S
theorem kX12_valueNow {l : Launch} {D : va_G} {g : Nat → Nat} {cI cS : ClassId} {sa : Nat → Nat → Option Nat} {Am : (Nat → Prop) → State → Heap → Prop} (O : gO (mcell g cI cS sa) mord g) (P : gAm Am) (N : Nat) (k1 : Nat) (x2 : Int32) (hk_k1 : mI k1 = true) (S : gS) (o : Int32 × gS) (hF : fX12_valueNow N k1 x2 S = some o) : gM l yX12_valueNow cX12_valueNow 6 ((some .int)) 1 D (mtys cI cS) (mcell g cI cS sa) mord g Am [.ref (g 99), .ref (g k1), .int x2] S (some (.int o.1)) o.2 :=
  gM_of O P (by decide) (Nat.le_of_ble_eq_true rfl) (fun p e s m args below meth c ls C X hl => bX12_valueNow_0 C O hk_k1 X (lv_sub hl [0, 1, 2] rfl) hF)
-- ruleOf
noncomputable def fX12_ruleOf_b0 (N : Nat) (k1 : Nat) (x2 : Int32) (x3 : Int32) (S : gS) : Option (Int32 × gS) := chk (inb x3 (6)) (lt (sU S 42 0 (S 32 (Int32.toNatClampNeg x3))) fun S1 => (chk (inb x3 (6)) (lt (sU S1 42 1 (S1 33 (Int32.toNatClampNeg x3))) fun S2 => (chk (inb x3 (6)) (chk (inb (S2 35 (Int32.toNatClampNeg x3)) (16)) (lt (sU S2 42 2 (S2 7 (Int32.toNatClampNeg (S2 35 (Int32.toNatClampNeg x3))))) fun S3 => (chk (inb x3 (6)) (chk (inb (S3 35 (Int32.toNatClampNeg x3)) (16)) (lt (sU S3 42 3 (S3 9 (Int32.toNatClampNeg (S3 35 (Int32.toNatClampNeg x3))))) fun S4 => (bnd (fX12_wetOf N  S4) fun q1 => (lt (sU q1.2 42 4 q1.1) fun S6 => (lt (sU S6 42 5 (S6 99 37)) fun S7 => (chk (inb x3 (6)) (lt (sU S7 42 6 (S7 18 (Int32.toNatClampNeg x3))) fun S8 => (bnd (fX12_valueNow N k1 x2 S8) fun q2 => (some (q2.1, q2.2)))))))))))))))))
theorem bX12_ruleOf_0 {N : Nat} {k1 : Nat} {x2 : Int32} {x3 : Int32} {S : gS} {H : Heap} {locs : List Loc} {ls : Array Slot} {o : Int32 × gS} (C : gC p s m args meth c cX12_ruleOf 4 RX12 ((some .int)) D (mtys cI cS) mord g Am) (O : gO (mcell g cI cS sa) mord g) (hk_k1 : mI k1 = true) (X : gX D (mcell g cI cS sa) mord g S s H locs) (hl : lv_has ls 4 [(0, .ref (g 99)), (1, .ref (g k1)), (2, .int x2), (3, .int x3)]) (hF : fX12_ruleOf_b0 N k1 x2 x3 S = some o) : W p l e (rmd 2) s m args below meth c H locs 0 0 (gE below args s D (mtys cI cS) (mcell g cI cS sa) mord g (some (.int o.1)) o.2) (F0 m 0 ls []) := by
  unfold fX12_ruleOf_b0 at hF
  refine lv_aload_n C.1.1 C.1.2.1 dX12_ruleOf_0 rfl (lv_at hl 0 rfl) ?_
  refine m_g42 C X dX12_ruleOf_1 ?_
  refine lv_iconst (v := 0) C.1.1 C.1.2.1 dX12_ruleOf_4 (by decide) ?_
  refine lv_aload_n C.1.1 C.1.2.1 dX12_ruleOf_5 rfl (lv_at hl 0 rfl) ?_
  refine m_g32 C X dX12_ruleOf_6 ?_
  refine lv_iload_n C.1.1 C.1.2.1 dX12_ruleOf_9 rfl (lv_at hl 3 rfl) ?_
  obtain ⟨h_1, hF⟩ := chk_some hF
  refine m_r32 C X  (inb_vp h_1) rfl dX12_ruleOf_10 ?_
  obtain ⟨S1, eS1, hF⟩ := lt_some hF
  refine m_w42 C O X (j := 0) (inb_vp (by decide)) (by decide) eS1 dX12_ruleOf_11 (fun H locs X => ?_)
  refine lv_aload_n C.1.1 C.1.2.1 dX12_ruleOf_12 rfl (lv_at hl 0 rfl) ?_
  refine m_g42 C X dX12_ruleOf_13 ?_
  refine lv_iconst (v := 1) C.1.1 C.1.2.1 dX12_ruleOf_16 (by decide) ?_
  refine lv_aload_n C.1.1 C.1.2.1 dX12_ruleOf_17 rfl (lv_at hl 0 rfl) ?_
  refine m_g33 C X dX12_ruleOf_18 ?_
  refine lv_iload_n C.1.1 C.1.2.1 dX12_ruleOf_21 rfl (lv_at hl 3 rfl) ?_
  obtain ⟨h_2, hF⟩ := chk_some hF
  refine m_r33 C X  (inb_vp h_2) rfl dX12_ruleOf_22 ?_
  obtain ⟨S2, eS2, hF⟩ := lt_some hF
  refine m_w42 C O X (j := 1) (inb_vp (by decide)) (by decide) eS2 dX12_ruleOf_23 (fun H locs X => ?_)
  refine lv_aload_n C.1.1 C.1.2.1 dX12_ruleOf_24 rfl (lv_at hl 0 rfl) ?_
  refine m_g42 C X dX12_ruleOf_25 ?_
  refine lv_iconst (v := 2) C.1.1 C.1.2.1 dX12_ruleOf_28 (by decide) ?_
  refine lv_aload_n C.1.1 C.1.2.1 dX12_ruleOf_29 rfl (lv_at hl 0 rfl) ?_
  refine m_g7 C X dX12_ruleOf_30 ?_
  refine lv_aload_n C.1.1 C.1.2.1 dX12_ruleOf_33 rfl (lv_at hl 0 rfl) ?_
  refine m_g35 C X dX12_ruleOf_34 ?_
  refine lv_iload_n C.1.1 C.1.2.1 dX12_ruleOf_37 rfl (lv_at hl 3 rfl) ?_
  obtain ⟨h_3, hF⟩ := chk_some hF
  refine m_r35 C X  (inb_vp h_3) rfl dX12_ruleOf_38 ?_
  obtain ⟨h_4, hF⟩ := chk_some hF
  refine m_r7 C X  (inb_vp h_4) rfl dX12_ruleOf_39 ?_
  obtain ⟨S3, eS3, hF⟩ := lt_some hF
  refine m_w42 C O X (j := 2) (inb_vp (by decide)) (by decide) eS3 dX12_ruleOf_40 (fun H locs X => ?_)
  refine lv_aload_n C.1.1 C.1.2.1 dX12_ruleOf_41 rfl (lv_at hl 0 rfl) ?_
  refine m_g42 C X dX12_ruleOf_42 ?_
  refine lv_iconst (v := 3) C.1.1 C.1.2.1 dX12_ruleOf_45 (by decide) ?_
  refine lv_aload_n C.1.1 C.1.2.1 dX12_ruleOf_46 rfl (lv_at hl 0 rfl) ?_
  refine m_g9 C X dX12_ruleOf_47 ?_
  refine lv_aload_n C.1.1 C.1.2.1 dX12_ruleOf_50 rfl (lv_at hl 0 rfl) ?_
  refine m_g35 C X dX12_ruleOf_51 ?_
  refine lv_iload_n C.1.1 C.1.2.1 dX12_ruleOf_54 rfl (lv_at hl 3 rfl) ?_
  obtain ⟨h_5, hF⟩ := chk_some hF
  refine m_r35 C X  (inb_vp h_5) rfl dX12_ruleOf_55 ?_
  obtain ⟨h_6, hF⟩ := chk_some hF
  refine m_r9 C X  (inb_vp h_6) rfl dX12_ruleOf_56 ?_
  obtain ⟨S4, eS4, hF⟩ := lt_some hF
  refine m_w42 C O X (j := 3) (inb_vp (by decide)) (by decide) eS4 dX12_ruleOf_57 (fun H locs X => ?_)
  refine lv_aload_n C.1.1 C.1.2.1 dX12_ruleOf_58 rfl (lv_at hl 0 rfl) ?_
  refine m_g42 C X dX12_ruleOf_59 ?_
  refine lv_iconst (v := 4) C.1.1 C.1.2.1 dX12_ruleOf_62 (by decide) ?_
  refine lv_aload_n C.1.1 C.1.2.1 dX12_ruleOf_63 rfl (lv_at hl 0 rfl) ?_
  obtain ⟨q1, hq1, hF⟩ := bnd_some hF
  refine m_callVi C X vX12_wetOf rfl (kX12_wetOf O C.2.2.2.2.1 N   S4 q1 hq1) (Nat.le_of_ble_eq_true rfl) (Nat.le_of_ble_eq_true rfl) (Nat.le_of_ble_eq_true rfl) (Nat.le_of_ble_eq_true rfl) rfl hl.1 rfl (Nat.le_of_ble_eq_true rfl) dX12_ruleOf_64 (fun H locs X => ?_)
  obtain ⟨S6, eS6, hF⟩ := lt_some hF
  refine m_w42 C O X (j := 4) (inb_vp (by decide)) (by decide) eS6 dX12_ruleOf_67 (fun H locs X => ?_)
  refine lv_aload_n C.1.1 C.1.2.1 dX12_ruleOf_68 rfl (lv_at hl 0 rfl) ?_
  refine m_g42 C X dX12_ruleOf_69 ?_
  refine lv_iconst (v := 5) C.1.1 C.1.2.1 dX12_ruleOf_72 (by decide) ?_
  refine lv_aload_n C.1.1 C.1.2.1 dX12_ruleOf_73 rfl (lv_at hl 0 rfl) ?_
  refine m_g37 C X dX12_ruleOf_74 ?_
  obtain ⟨S7, eS7, hF⟩ := lt_some hF
  refine m_w42 C O X (j := 5) (inb_vp (by decide)) (by decide) eS7 dX12_ruleOf_77 (fun H locs X => ?_)
  refine lv_aload_n C.1.1 C.1.2.1 dX12_ruleOf_78 rfl (lv_at hl 0 rfl) ?_
  refine m_g42 C X dX12_ruleOf_79 ?_
  refine lv_bipush (v := 6) C.1.1 C.1.2.1 dX12_ruleOf_82 (by decide) ?_
  refine lv_aload_n C.1.1 C.1.2.1 dX12_ruleOf_84 rfl (lv_at hl 0 rfl) ?_
  refine m_g18 C X dX12_ruleOf_85 ?_
  refine lv_iload_n C.1.1 C.1.2.1 dX12_ruleOf_88 rfl (lv_at hl 3 rfl) ?_
  obtain ⟨h_7, hF⟩ := chk_some hF
  refine m_r18 C X  (inb_vp h_7) rfl dX12_ruleOf_89 ?_
  obtain ⟨S8, eS8, hF⟩ := lt_some hF
  refine m_w42 C O X (j := 6) (inb_vp (by decide)) (by decide) eS8 dX12_ruleOf_90 (fun H locs X => ?_)
  refine lv_aload_n C.1.1 C.1.2.1 dX12_ruleOf_91 rfl (lv_at hl 0 rfl) ?_
  refine lv_aload_n C.1.1 C.1.2.1 dX12_ruleOf_92 rfl (lv_at hl 1 rfl) ?_
  refine lv_iload_n C.1.1 C.1.2.1 dX12_ruleOf_93 rfl (lv_at hl 2 rfl) ?_
  obtain ⟨q2, hq2, hF⟩ := bnd_some hF
  refine m_callVi C X vX12_valueNow rfl (kX12_valueNow O C.2.2.2.2.1 N k1 x2 hk_k1 S8 q2 hq2) (Nat.le_of_ble_eq_true rfl) (Nat.le_of_ble_eq_true rfl) (Nat.le_of_ble_eq_true rfl) (Nat.le_of_ble_eq_true rfl) rfl hl.1 rfl (Nat.le_of_ble_eq_true rfl) dX12_ruleOf_94 (fun H locs X => ?_)
  cases hF
  exact g_iret C X dX12_ruleOf_97
noncomputable def fX12_ruleOf (N : Nat) (k1 : Nat) (x2 : Int32) (x3 : Int32) (S : gS) : Option (Int32 × gS) := fX12_ruleOf_b0 N k1 x2 x3 S
theorem kX12_ruleOf {l : Launch} {D : va_G} {g : Nat → Nat} {cI cS : ClassId} {sa : Nat → Nat → Option Nat} {Am : (Nat → Prop) → State → Heap → Prop} (O : gO (mcell g cI cS sa) mord g) (P : gAm Am) (N : Nat) (k1 : Nat) (x2 : Int32) (x3 : Int32) (hk_k1 : mI k1 = true) (S : gS) (o : Int32 × gS) (hF : fX12_ruleOf N k1 x2 x3 S = some o) : gM l yX12_ruleOf cX12_ruleOf 4 ((some .int)) 2 D (mtys cI cS) (mcell g cI cS sa) mord g Am [.ref (g 99), .ref (g k1), .int x2, .int x3] S (some (.int o.1)) o.2 :=
  gM_of O P (by decide) (Nat.le_of_ble_eq_true rfl) (fun p e s m args below meth c ls C X hl => bX12_ruleOf_0 C O hk_k1 X (lv_sub hl [0, 1, 2, 3] rfl) hF)
-- pray
noncomputable def fX12_pray_b28 (N : Nat) (x1 : Int32) (t0 : Int32) (S : gS) : Option (Int32 × gS) := chk (inb x1 (6)) (chk (inb x1 (6)) (chk (inb x1 (6)) (lt (sU S 32 (Int32.toNatClampNeg x1) (((S 32 (Int32.toNatClampNeg x1)) - (if 0 < (if t0 < (S 32 (Int32.toNatClampNeg x1)) then t0 else (S 32 (Int32.toNatClampNeg x1))) then (if t0 < (S 32 (Int32.toNatClampNeg x1)) then t0 else (S 32 (Int32.toNatClampNeg x1))) else 0) : Int32))) fun S1 => (some (0, S1)))))
theorem bX12_pray_28 {N : Nat} {x1 : Int32} {t0 : Int32} {S : gS} {H : Heap} {locs : List Loc} {ls : Array Slot} {o : Int32 × gS} (C : gC p s m args meth c cX12_pray 3 RX12 none D (mtys cI cS) mord g Am) (O : gO (mcell g cI cS sa) mord g) (X : gX D (mcell g cI cS sa) mord g S s H locs) (hl : lv_has ls 3 [(0, .ref (g 99)), (1, .int x1)]) (hF : fX12_pray_b28 N x1 t0 S = some o) : W p l e (rmd 3) s m args below meth c H locs 0 0 (gE below args s D (mtys cI cS) (mcell g cI cS sa) mord g none o.2) (F0 m 28 ls [.int t0]) := by
  unfold fX12_pray_b28 at hF
  refine lv_istore_n (lv' := [(2, .int t0), (0, .ref (g 99)), (1, .int x1)]) C.1.1 C.1.2.1 dX12_pray_28 rfl hl (by decide) rfl (fun ls hl => ?_)
  refine lv_aload_n C.1.1 C.1.2.1 dX12_pray_29 rfl (lv_at hl 1 rfl) ?_
  refine m_g32 C X dX12_pray_30 ?_
  refine lv_iload_n C.1.1 C.1.2.1 dX12_pray_33 rfl (lv_at hl 2 rfl) ?_
  refine lv_dup2_11 C.1.1 C.1.2.1 dX12_pray_34 rfl rfl ?_
  obtain ⟨h_1, hF⟩ := chk_some hF
  refine m_r32 C X  (inb_vp h_1) rfl dX12_pray_35 ?_
  refine lv_iconst (v := 0) C.1.1 C.1.2.1 dX12_pray_36 (by decide) ?_
  refine lv_aload_n C.1.1 C.1.2.1 dX12_pray_37 rfl (lv_at hl 1 rfl) ?_
  refine m_g32 C X dX12_pray_38 ?_
  refine lv_iload_n C.1.1 C.1.2.1 dX12_pray_41 rfl (lv_at hl 2 rfl) ?_
  obtain ⟨h_2, hF⟩ := chk_some hF
  refine m_r32 C X  (inb_vp h_2) rfl dX12_pray_42 ?_
  refine lv_iload_n C.1.1 C.1.2.1 dX12_pray_43 rfl (lv_at hl 0 rfl) ?_
  refine g_min C hl.1 mMmin192 ⟨Nat.le_of_ble_eq_true rfl, Nat.le_of_ble_eq_true rfl⟩ (Nat.le_of_ble_eq_true rfl) (Nat.le_of_ble_eq_true rfl) dX12_pray_44 ?_
  refine g_max C hl.1 mMmax354 ⟨Nat.le_of_ble_eq_true rfl, Nat.le_of_ble_eq_true rfl⟩ (Nat.le_of_ble_eq_true rfl) (Nat.le_of_ble_eq_true rfl) dX12_pray_47 ?_
  refine lv_isub C.1.1 C.1.2.1 dX12_pray_50 ?_
  obtain ⟨h_3, hF⟩ := chk_some hF
  obtain ⟨S1, eS1, hF⟩ := lt_some hF
  refine m_w32 C O X  (inb_vp h_3) rfl eS1 dX12_pray_51 (fun H locs X => ?_)
  cases hF
  exact g_vret C X dX12_pray_52
noncomputable def fX12_pray_b13 (N : Nat) (x1 : Int32) (S : gS) : Option (Int32 × gS) := bnd (fX12_ruleOf N 15 (S 5 4) x1 S) fun q1 => (fX12_pray_b28 N x1 q1.1 q1.2)
theorem bX12_pray_13 {N : Nat} {x1 : Int32} {S : gS} {H : Heap} {locs : List Loc} {ls : Array Slot} {o : Int32 × gS} (C : gC p s m args meth c cX12_pray 3 RX12 none D (mtys cI cS) mord g Am) (O : gO (mcell g cI cS sa) mord g) (X : gX D (mcell g cI cS sa) mord g S s H locs) (hl : lv_has ls 3 [(0, .ref (g 99)), (1, .int x1)]) (hF : fX12_pray_b13 N x1 S = some o) : W p l e (rmd 3) s m args below meth c H locs 0 0 (gE below args s D (mtys cI cS) (mcell g cI cS sa) mord g none o.2) (F0 m 13 ls []) := by
  unfold fX12_pray_b13 at hF
  refine lv_aload_n C.1.1 C.1.2.1 dX12_pray_13 rfl (lv_at hl 0 rfl) ?_
  refine lv_aload_n C.1.1 C.1.2.1 dX12_pray_14 rfl (lv_at hl 0 rfl) ?_
  refine m_g15 C X dX12_pray_15 ?_
  refine lv_aload_n C.1.1 C.1.2.1 dX12_pray_18 rfl (lv_at hl 0 rfl) ?_
  refine m_g5 C X dX12_pray_19 ?_
  refine lv_iconst (v := 4) C.1.1 C.1.2.1 dX12_pray_22 (by decide) ?_
  refine m_r5 C X (j := 4) (inb_vp (by decide)) (by decide) dX12_pray_23 ?_
  refine lv_iload_n C.1.1 C.1.2.1 dX12_pray_24 rfl (lv_at hl 1 rfl) ?_
  obtain ⟨q1, hq1, hF⟩ := bnd_some hF
  refine m_callVi C X vX12_ruleOf rfl (kX12_ruleOf O C.2.2.2.2.1 N 15 (S 5 4) x1 (rfl : mI 15 = true) S q1 hq1) (Nat.le_of_ble_eq_true rfl) (Nat.le_of_ble_eq_true rfl) (Nat.le_of_ble_eq_true rfl) (Nat.le_of_ble_eq_true rfl) rfl hl.1 rfl (Nat.le_of_ble_eq_true rfl) dX12_pray_25 (fun H locs X => ?_)
  exact bX12_pray_28 C O X (lv_sub hl [0, 1] rfl) hF
noncomputable def fX12_pray_b9 (N : Nat) (x1 : Int32) (S : gS) : Option (Int32 × gS) := fX12_pray_b28 N x1 5 S
theorem bX12_pray_9 {N : Nat} {x1 : Int32} {S : gS} {H : Heap} {locs : List Loc} {ls : Array Slot} {o : Int32 × gS} (C : gC p s m args meth c cX12_pray 3 RX12 none D (mtys cI cS) mord g Am) (O : gO (mcell g cI cS sa) mord g) (X : gX D (mcell g cI cS sa) mord g S s H locs) (hl : lv_has ls 3 [(0, .ref (g 99)), (1, .int x1)]) (hF : fX12_pray_b9 N x1 S = some o) : W p l e (rmd 3) s m args below meth c H locs 0 0 (gE below args s D (mtys cI cS) (mcell g cI cS sa) mord g none o.2) (F0 m 9 ls []) := by
  unfold fX12_pray_b9 at hF
  refine lv_iconst (v := 5) C.1.1 C.1.2.1 dX12_pray_9 (by decide) ?_
  refine lv_goto (tgt := 28) C.1.1 C.1.2.1 dX12_pray_10 (by decide) ?_
  exact bX12_pray_28 C O X (lv_sub hl [0, 1] rfl) hF
noncomputable def fX12_pray_b0 (N : Nat) (x1 : Int32) (S : gS) : Option (Int32 × gS) := if (S 5 4) = 0 then fX12_pray_b9 N x1 S else fX12_pray_b13 N x1 S
theorem bX12_pray_0 {N : Nat} {x1 : Int32} {S : gS} {H : Heap} {locs : List Loc} {ls : Array Slot} {o : Int32 × gS} (C : gC p s m args meth c cX12_pray 3 RX12 none D (mtys cI cS) mord g Am) (O : gO (mcell g cI cS sa) mord g) (X : gX D (mcell g cI cS sa) mord g S s H locs) (hl : lv_has ls 3 [(0, .ref (g 99)), (1, .int x1)]) (hF : fX12_pray_b0 N x1 S = some o) : W p l e (rmd 3) s m args below meth c H locs 0 0 (gE below args s D (mtys cI cS) (mcell g cI cS sa) mord g none o.2) (F0 m 0 ls []) := by
  unfold fX12_pray_b0 at hF
  refine lv_aload_n C.1.1 C.1.2.1 dX12_pray_0 rfl (lv_at hl 0 rfl) ?_
  refine m_g5 C X dX12_pray_1 ?_
  refine lv_iconst (v := 4) C.1.1 C.1.2.1 dX12_pray_4 (by decide) ?_
  refine m_r5 C X (j := 4) (inb_vp (by decide)) (by decide) dX12_pray_5 ?_
  refine lv_if_ne (tgt := 13) C.1.1 C.1.2.1 dX12_pray_6 (by decide) (fun h_z => ?_) (fun h_z => ?_)
  · rw [if_neg h_z] at hF
    exact bX12_pray_13 C O X (lv_sub hl [0, 1] rfl) hF
  · rw [if_pos h_z] at hF
    exact bX12_pray_9 C O X (lv_sub hl [0, 1] rfl) hF
noncomputable def fX12_pray (N : Nat) (x1 : Int32) (S : gS) : Option (Int32 × gS) := fX12_pray_b0 N x1 S
theorem kX12_pray {l : Launch} {D : va_G} {g : Nat → Nat} {cI cS : ClassId} {sa : Nat → Nat → Option Nat} {Am : (Nat → Prop) → State → Heap → Prop} (O : gO (mcell g cI cS sa) mord g) (P : gAm Am) (N : Nat) (x1 : Int32) (S : gS) (o : Int32 × gS) (hF : fX12_pray N x1 S = some o) : gM l yX12_pray cX12_pray 3 none 3 D (mtys cI cS) (mcell g cI cS sa) mord g Am [.ref (g 99), .int x1] S none o.2 :=
  gM_of O P (by decide) (Nat.le_of_ble_eq_true rfl) (fun p e s m args below meth c ls C X hl => bX12_pray_0 C O X (lv_sub hl [0, 1] rfl) hF)
-- costsOf
noncomputable def fX12_costsOf_b38 (N : Nat) (t0 : Int32) (S : gS) : Option (Int32 × gS) := some (if 0 < (if t0 < 50 then t0 else 50) then (if t0 < 50 then t0 else 50) else 0, S)
theorem bX12_costsOf_38 {N : Nat} {t0 : Int32} {S : gS} {H : Heap} {locs : List Loc} {ls : Array Slot} {o : Int32 × gS} (C : gC p s m args meth c cX12_costsOf 3 RX12 ((some .int)) D (mtys cI cS) mord g Am) (O : gO (mcell g cI cS sa) mord g) (X : gX D (mcell g cI cS sa) mord g S s H locs) (hl : lv_has ls 3 []) (hF : fX12_costsOf_b38 N t0 S = some o) : W p l e (rmd 3) s m args below meth c H locs 0 0 (gE below args s D (mtys cI cS) (mcell g cI cS sa) mord g (some (.int o.1)) o.2) (F0 m 38 ls [.int t0]) := by
  unfold fX12_costsOf_b38 at hF
  refine lv_istore_n (lv' := [(2, .int t0)]) C.1.1 C.1.2.1 dX12_costsOf_38 rfl hl (by decide) rfl (fun ls hl => ?_)
  refine lv_iconst (v := 0) C.1.1 C.1.2.1 dX12_costsOf_39 (by decide) ?_
  refine lv_bipush (v := 50) C.1.1 C.1.2.1 dX12_costsOf_40 (by decide) ?_
  refine lv_iload_n C.1.1 C.1.2.1 dX12_costsOf_42 rfl (lv_at hl 0 rfl) ?_
  refine g_min C hl.1 mMmin192 ⟨Nat.le_of_ble_eq_true rfl, Nat.le_of_ble_eq_true rfl⟩ (Nat.le_of_ble_eq_true rfl) (Nat.le_of_ble_eq_true rfl) dX12_costsOf_43 ?_
  refine g_max C hl.1 mMmax354 ⟨Nat.le_of_ble_eq_true rfl, Nat.le_of_ble_eq_true rfl⟩ (Nat.le_of_ble_eq_true rfl) (Nat.le_of_ble_eq_true rfl) dX12_costsOf_46 ?_
  cases hF
  exact g_iret C X dX12_costsOf_49
noncomputable def fX12_costsOf_b23 (N : Nat) (x1 : Int32) (S : gS) : Option (Int32 × gS) := bnd (fX12_ruleOf N 16 (S 5 5) x1 S) fun q1 => (fX12_costsOf_b38 N q1.1 q1.2)
theorem bX12_costsOf_23 {N : Nat} {x1 : Int32} {S : gS} {H : Heap} {locs : List Loc} {ls : Array Slot} {o : Int32 × gS} (C : gC p s m args meth c cX12_costsOf 3 RX12 ((some .int)) D (mtys cI cS) mord g Am) (O : gO (mcell g cI cS sa) mord g) (X : gX D (mcell g cI cS sa) mord g S s H locs) (hl : lv_has ls 3 [(0, .ref (g 99)), (1, .int x1)]) (hF : fX12_costsOf_b23 N x1 S = some o) : W p l e (rmd 3) s m args below meth c H locs 0 0 (gE below args s D (mtys cI cS) (mcell g cI cS sa) mord g (some (.int o.1)) o.2) (F0 m 23 ls []) := by
  unfold fX12_costsOf_b23 at hF
  refine lv_aload_n C.1.1 C.1.2.1 dX12_costsOf_23 rfl (lv_at hl 0 rfl) ?_
  refine lv_aload_n C.1.1 C.1.2.1 dX12_costsOf_24 rfl (lv_at hl 0 rfl) ?_
  refine m_g16 C X dX12_costsOf_25 ?_
  refine lv_aload_n C.1.1 C.1.2.1 dX12_costsOf_28 rfl (lv_at hl 0 rfl) ?_
  refine m_g5 C X dX12_costsOf_29 ?_
  refine lv_iconst (v := 5) C.1.1 C.1.2.1 dX12_costsOf_32 (by decide) ?_
  refine m_r5 C X (j := 5) (inb_vp (by decide)) (by decide) dX12_costsOf_33 ?_
  refine lv_iload_n C.1.1 C.1.2.1 dX12_costsOf_34 rfl (lv_at hl 1 rfl) ?_
  obtain ⟨q1, hq1, hF⟩ := bnd_some hF
  refine m_callVi C X vX12_ruleOf rfl (kX12_ruleOf O C.2.2.2.2.1 N 16 (S 5 5) x1 (rfl : mI 16 = true) S q1 hq1) (Nat.le_of_ble_eq_true rfl) (Nat.le_of_ble_eq_true rfl) (Nat.le_of_ble_eq_true rfl) (Nat.le_of_ble_eq_true rfl) rfl hl.1 rfl (Nat.le_of_ble_eq_true rfl) dX12_costsOf_35 (fun H locs X => ?_)
  exact bX12_costsOf_38 C O X (lv_sub hl [] rfl) hF
noncomputable def fX12_costsOf_b9 (N : Nat) (x1 : Int32) (S : gS) : Option (Int32 × gS) := chk (inb x1 (6)) (chk (inb (S 35 (Int32.toNatClampNeg x1)) (16)) (fX12_costsOf_b38 N (S 9 (Int32.toNatClampNeg (S 35 (Int32.toNatClampNeg x1)))) S))
theorem bX12_costsOf_9 {N : Nat} {x1 : Int32} {S : gS} {H : Heap} {locs : List Loc} {ls : Array Slot} {o : Int32 × gS} (C : gC p s m args meth c cX12_costsOf 3 RX12 ((some .int)) D (mtys cI cS) mord g Am) (O : gO (mcell g cI cS sa) mord g) (X : gX D (mcell g cI cS sa) mord g S s H locs) (hl : lv_has ls 3 [(0, .ref (g 99)), (1, .int x1)]) (hF : fX12_costsOf_b9 N x1 S = some o) : W p l e (rmd 3) s m args below meth c H locs 0 0 (gE below args s D (mtys cI cS) (mcell g cI cS sa) mord g (some (.int o.1)) o.2) (F0 m 9 ls []) := by
  unfold fX12_costsOf_b9 at hF
  refine lv_aload_n C.1.1 C.1.2.1 dX12_costsOf_9 rfl (lv_at hl 0 rfl) ?_
  refine m_g9 C X dX12_costsOf_10 ?_
  refine lv_aload_n C.1.1 C.1.2.1 dX12_costsOf_13 rfl (lv_at hl 0 rfl) ?_
  refine m_g35 C X dX12_costsOf_14 ?_
  refine lv_iload_n C.1.1 C.1.2.1 dX12_costsOf_17 rfl (lv_at hl 1 rfl) ?_
  obtain ⟨h_1, hF⟩ := chk_some hF
  refine m_r35 C X  (inb_vp h_1) rfl dX12_costsOf_18 ?_
  obtain ⟨h_2, hF⟩ := chk_some hF
  refine m_r9 C X  (inb_vp h_2) rfl dX12_costsOf_19 ?_
  refine lv_goto (tgt := 38) C.1.1 C.1.2.1 dX12_costsOf_20 (by decide) ?_
  exact bX12_costsOf_38 C O X (lv_sub hl [] rfl) hF
noncomputable def fX12_costsOf_b0 (N : Nat) (x1 : Int32) (S : gS) : Option (Int32 × gS) := if (S 5 5) = 0 then fX12_costsOf_b9 N x1 S else fX12_costsOf_b23 N x1 S
theorem bX12_costsOf_0 {N : Nat} {x1 : Int32} {S : gS} {H : Heap} {locs : List Loc} {ls : Array Slot} {o : Int32 × gS} (C : gC p s m args meth c cX12_costsOf 3 RX12 ((some .int)) D (mtys cI cS) mord g Am) (O : gO (mcell g cI cS sa) mord g) (X : gX D (mcell g cI cS sa) mord g S s H locs) (hl : lv_has ls 3 [(0, .ref (g 99)), (1, .int x1)]) (hF : fX12_costsOf_b0 N x1 S = some o) : W p l e (rmd 3) s m args below meth c H locs 0 0 (gE below args s D (mtys cI cS) (mcell g cI cS sa) mord g (some (.int o.1)) o.2) (F0 m 0 ls []) := by
  unfold fX12_costsOf_b0 at hF
  refine lv_aload_n C.1.1 C.1.2.1 dX12_costsOf_0 rfl (lv_at hl 0 rfl) ?_
  refine m_g5 C X dX12_costsOf_1 ?_
  refine lv_iconst (v := 5) C.1.1 C.1.2.1 dX12_costsOf_4 (by decide) ?_
  refine m_r5 C X (j := 5) (inb_vp (by decide)) (by decide) dX12_costsOf_5 ?_
  refine lv_if_ne (tgt := 23) C.1.1 C.1.2.1 dX12_costsOf_6 (by decide) (fun h_z => ?_) (fun h_z => ?_)
  · rw [if_neg h_z] at hF
    exact bX12_costsOf_23 C O X (lv_sub hl [0, 1] rfl) hF
  · rw [if_pos h_z] at hF
    exact bX12_costsOf_9 C O X (lv_sub hl [0, 1] rfl) hF
noncomputable def fX12_costsOf (N : Nat) (x1 : Int32) (S : gS) : Option (Int32 × gS) := fX12_costsOf_b0 N x1 S
theorem kX12_costsOf {l : Launch} {D : va_G} {g : Nat → Nat} {cI cS : ClassId} {sa : Nat → Nat → Option Nat} {Am : (Nat → Prop) → State → Heap → Prop} (O : gO (mcell g cI cS sa) mord g) (P : gAm Am) (N : Nat) (x1 : Int32) (S : gS) (o : Int32 × gS) (hF : fX12_costsOf N x1 S = some o) : gM l yX12_costsOf cX12_costsOf 3 ((some .int)) 3 D (mtys cI cS) (mcell g cI cS sa) mord g Am [.ref (g 99), .int x1] S (some (.int o.1)) o.2 :=
  gM_of O P (by decide) (Nat.le_of_ble_eq_true rfl) (fun p e s m args below meth c ls C X hl => bX12_costsOf_0 C O X (lv_sub hl [0, 1] rfl) hF)
-- pay
noncomputable def fX12_pay_b36 (N : Nat) (S : gS) : Option (Int32 × gS) := some (0, S)
theorem bX12_pay_36 {N : Nat} {S : gS} {H : Heap} {locs : List Loc} {ls : Array Slot} {o : Int32 × gS} (C : gC p s m args meth c cX12_pay 3 RX12 none D (mtys cI cS) mord g Am) (O : gO (mcell g cI cS sa) mord g) (X : gX D (mcell g cI cS sa) mord g S s H locs) (hl : lv_has ls 3 []) (hF : fX12_pay_b36 N S = some o) : W p l e (rmd 4) s m args below meth c H locs 0 0 (gE below args s D (mtys cI cS) (mcell g cI cS sa) mord g none o.2) (F0 m 36 ls []) := by
  unfold fX12_pay_b36 at hF
  cases hF
  exact g_vret C X dX12_pay_36
noncomputable def fX12_pay_b29 (N : Nat) (x1 : Int32) (S : gS) : Option (Int32 × gS) := chk (inb x1 (6)) (lt (sU S 35 (Int32.toNatClampNeg x1) ((-1))) fun S1 => (fX12_pay_b36 N S1))
theorem bX12_pay_29 {N : Nat} {x1 : Int32} {S : gS} {H : Heap} {locs : List Loc} {ls : Array Slot} {o : Int32 × gS} (C : gC p s m args meth c cX12_pay 3 RX12 none D (mtys cI cS) mord g Am) (O : gO (mcell g cI cS sa) mord g) (X : gX D (mcell g cI cS sa) mord g S s H locs) (hl : lv_has ls 3 [(0, .ref (g 99)), (1, .int x1)]) (hF : fX12_pay_b29 N x1 S = some o) : W p l e (rmd 4) s m args below meth c H locs 0 0 (gE below args s D (mtys cI cS) (mcell g cI cS sa) mord g none o.2) (F0 m 29 ls []) := by
  unfold fX12_pay_b29 at hF
  refine lv_aload_n C.1.1 C.1.2.1 dX12_pay_29 rfl (lv_at hl 0 rfl) ?_
  refine m_g35 C X dX12_pay_30 ?_
  refine lv_iload_n C.1.1 C.1.2.1 dX12_pay_33 rfl (lv_at hl 1 rfl) ?_
  refine lv_iconst (v := (-1)) C.1.1 C.1.2.1 dX12_pay_34 (by decide) ?_
  obtain ⟨h_1, hF⟩ := chk_some hF
  obtain ⟨S1, eS1, hF⟩ := lt_some hF
  refine m_w35 C O X  (inb_vp h_1) rfl eS1 dX12_pay_35 (fun H locs X => ?_)
  exact bX12_pay_36 C O X (lv_sub hl [] rfl) hF
noncomputable def fX12_pay_b16 (N : Nat) (x1 : Int32) (x2 : Int32) (S : gS) : Option (Int32 × gS) := chk (inb x1 (6)) (chk (inb x1 (6)) (lt (sU S 33 (Int32.toNatClampNeg x1) (((S 33 (Int32.toNatClampNeg x1)) - x2 : Int32))) fun S1 => (fX12_pay_b36 N S1)))
theorem bX12_pay_16 {N : Nat} {x1 : Int32} {x2 : Int32} {S : gS} {H : Heap} {locs : List Loc} {ls : Array Slot} {o : Int32 × gS} (C : gC p s m args meth c cX12_pay 3 RX12 none D (mtys cI cS) mord g Am) (O : gO (mcell g cI cS sa) mord g) (X : gX D (mcell g cI cS sa) mord g S s H locs) (hl : lv_has ls 3 [(0, .ref (g 99)), (1, .int x1), (2, .int x2)]) (hF : fX12_pay_b16 N x1 x2 S = some o) : W p l e (rmd 4) s m args below meth c H locs 0 0 (gE below args s D (mtys cI cS) (mcell g cI cS sa) mord g none o.2) (F0 m 16 ls []) := by
  unfold fX12_pay_b16 at hF
  refine lv_aload_n C.1.1 C.1.2.1 dX12_pay_16 rfl (lv_at hl 0 rfl) ?_
  refine m_g33 C X dX12_pay_17 ?_
  refine lv_iload_n C.1.1 C.1.2.1 dX12_pay_20 rfl (lv_at hl 1 rfl) ?_
  refine lv_dup2_11 C.1.1 C.1.2.1 dX12_pay_21 rfl rfl ?_
  obtain ⟨h_1, hF⟩ := chk_some hF
  refine m_r33 C X  (inb_vp h_1) rfl dX12_pay_22 ?_
  refine lv_iload_n C.1.1 C.1.2.1 dX12_pay_23 rfl (lv_at hl 2 rfl) ?_
  refine lv_isub C.1.1 C.1.2.1 dX12_pay_24 ?_
  obtain ⟨h_2, hF⟩ := chk_some hF
  obtain ⟨S1, eS1, hF⟩ := lt_some hF
  refine m_w33 C O X  (inb_vp h_2) rfl eS1 dX12_pay_25 (fun H locs X => ?_)
  refine lv_goto (tgt := 36) C.1.1 C.1.2.1 dX12_pay_26 (by decide) ?_
  exact bX12_pay_36 C O X (lv_sub hl [] rfl) hF
noncomputable def fX12_pay_b0 (N : Nat) (x1 : Int32) (S : gS) : Option (Int32 × gS) := bnd (fX12_costsOf N x1 S) fun q1 => (chk (inb x1 (6)) (if (q1.2 33 (Int32.toNatClampNeg x1)) < q1.1 then fX12_pay_b29 N x1 q1.2 else fX12_pay_b16 N x1 q1.1 q1.2))
theorem bX12_pay_0 {N : Nat} {x1 : Int32} {S : gS} {H : Heap} {locs : List Loc} {ls : Array Slot} {o : Int32 × gS} (C : gC p s m args meth c cX12_pay 3 RX12 none D (mtys cI cS) mord g Am) (O : gO (mcell g cI cS sa) mord g) (X : gX D (mcell g cI cS sa) mord g S s H locs) (hl : lv_has ls 3 [(0, .ref (g 99)), (1, .int x1)]) (hF : fX12_pay_b0 N x1 S = some o) : W p l e (rmd 4) s m args below meth c H locs 0 0 (gE below args s D (mtys cI cS) (mcell g cI cS sa) mord g none o.2) (F0 m 0 ls []) := by
  unfold fX12_pay_b0 at hF
  refine lv_aload_n C.1.1 C.1.2.1 dX12_pay_0 rfl (lv_at hl 0 rfl) ?_
  refine lv_iload_n C.1.1 C.1.2.1 dX12_pay_1 rfl (lv_at hl 1 rfl) ?_
  obtain ⟨q1, hq1, hF⟩ := bnd_some hF
  refine m_callVi C X vX12_costsOf rfl (kX12_costsOf O C.2.2.2.2.1 N x1  S q1 hq1) (Nat.le_of_ble_eq_true rfl) (Nat.le_of_ble_eq_true rfl) (Nat.le_of_ble_eq_true rfl) (Nat.le_of_ble_eq_true rfl) rfl hl.1 rfl (Nat.le_of_ble_eq_true rfl) dX12_pay_2 (fun H locs X => ?_)
  refine lv_istore_n (lv' := [(2, .int q1.1), (0, .ref (g 99)), (1, .int x1)]) C.1.1 C.1.2.1 dX12_pay_5 rfl hl (by decide) rfl (fun ls hl => ?_)
  refine lv_aload_n C.1.1 C.1.2.1 dX12_pay_6 rfl (lv_at hl 1 rfl) ?_
  refine m_g33 C X dX12_pay_7 ?_
  refine lv_iload_n C.1.1 C.1.2.1 dX12_pay_10 rfl (lv_at hl 2 rfl) ?_
  obtain ⟨h_1, hF⟩ := chk_some hF
  refine m_r33 C X  (inb_vp h_1) rfl dX12_pay_11 ?_
  refine lv_iload_n C.1.1 C.1.2.1 dX12_pay_12 rfl (lv_at hl 0 rfl) ?_
  refine lv_icmp_lt (tgt := 29) C.1.1 C.1.2.1 dX12_pay_13 (by decide) (fun h_z => ?_) (fun h_z => ?_)
  · rw [if_pos h_z] at hF
    exact bX12_pay_29 C O X (lv_sub hl [1, 2] rfl) hF
  · rw [if_neg h_z] at hF
    exact bX12_pay_16 C O X (lv_sub hl [1, 2, 0] rfl) hF
noncomputable def fX12_pay (N : Nat) (x1 : Int32) (S : gS) : Option (Int32 × gS) := fX12_pay_b0 N x1 S
theorem kX12_pay {l : Launch} {D : va_G} {g : Nat → Nat} {cI cS : ClassId} {sa : Nat → Nat → Option Nat} {Am : (Nat → Prop) → State → Heap → Prop} (O : gO (mcell g cI cS sa) mord g) (P : gAm Am) (N : Nat) (x1 : Int32) (S : gS) (o : Int32 × gS) (hF : fX12_pay N x1 S = some o) : gM l yX12_pay cX12_pay 3 none 4 D (mtys cI cS) (mcell g cI cS sa) mord g Am [.ref (g 99), .int x1] S none o.2 :=
  gM_of O P (by decide) (Nat.le_of_ble_eq_true rfl) (fun p e s m args below meth c ls C X hl => bX12_pay_0 C O X (lv_sub hl [0, 1] rfl) hF)
-- anHour
noncomputable def fX12_anHour_b224 (N : Nat) (S : gS) : Option (Int32 × gS) := lt (sU S 99 37 (((S 99 37) + 1 : Int32))) fun S1 => (some (0, S1))
theorem bX12_anHour_224 {N : Nat} {S : gS} {H : Heap} {locs : List Loc} {ls : Array Slot} {o : Int32 × gS} (C : gC p s m args meth c cX12_anHour 4 RX12 none D (mtys cI cS) mord g Am) (O : gO (mcell g cI cS sa) mord g) (X : gX D (mcell g cI cS sa) mord g S s H locs) (hl : lv_has ls 4 [(0, .ref (g 99))]) (hF : fX12_anHour_b224 N S = some o) : W p l e (rmd 5) s m args below meth c H locs 0 0 (gE below args s D (mtys cI cS) (mcell g cI cS sa) mord g none o.2) (F0 m 224 ls []) := by
  unfold fX12_anHour_b224 at hF
  refine lv_aload_n C.1.1 C.1.2.1 dX12_anHour_224 rfl (lv_at hl 0 rfl) ?_
  refine lv_dup C.1.1 C.1.2.1 dX12_anHour_225 rfl ?_
  refine m_g37 C X dX12_anHour_226 ?_
  refine lv_iconst (v := 1) C.1.1 C.1.2.1 dX12_anHour_229 (by decide) ?_
  refine lv_iadd C.1.1 C.1.2.1 dX12_anHour_230 ?_
  obtain ⟨S1, eS1, hF⟩ := lt_some hF
  refine m_p37 C O X eS1 dX12_anHour_231 (fun H locs X => ?_)
  cases hF
  exact g_vret C X dX12_anHour_234
noncomputable def fX12_anHour_b218 (N : Nat) (r82 : Int32 → gS → Option (Int32 × gS)) (x1 : Int32) (S : gS) : Option (Int32 × gS) := r82 ((x1 + 1 : Int32)) S
theorem bX12_anHour_218 {N : Nat} {r82 : Int32 → gS → Option (Int32 × gS)} {x1 : Int32} {S : gS} {H : Heap} {locs : List Loc} {ls : Array Slot} {o : Int32 × gS} (C : gC p s m args meth c cX12_anHour 4 RX12 none D (mtys cI cS) mord g Am) (O : gO (mcell g cI cS sa) mord g) (K82 : ∀ (x1 : Int32) (S : gS) (H : Heap) (locs : List Loc) (ls : Array Slot), gX D (mcell g cI cS sa) mord g S s H locs → lv_has ls 4 [(0, .ref (g 99)), (1, .int x1)] → r82 x1 S = some o → W p l e (rmd 5) s m args below meth c H locs 0 0 (gE below args s D (mtys cI cS) (mcell g cI cS sa) mord g none o.2) (F0 m 82 ls [])) (X : gX D (mcell g cI cS sa) mord g S s H locs) (hl : lv_has ls 4 [(0, .ref (g 99)), (1, .int x1)]) (hF : fX12_anHour_b218 N r82 x1 S = some o) : W p l e (rmd 5) s m args below meth c H locs 0 0 (gE below args s D (mtys cI cS) (mcell g cI cS sa) mord g none o.2) (F0 m 218 ls []) := by
  unfold fX12_anHour_b218 at hF
  refine lv_iinc (v := (x1 + 1 : Int32)) (lv' := [(1, .int ((x1 + 1 : Int32))), (0, .ref (g 99))]) C.1.1 C.1.2.1 dX12_anHour_218 hl (k := 1) rfl rfl (by decide) rfl (fun ls hl => ?_)
  refine lv_goto (tgt := 82) C.1.1 C.1.2.1 dX12_anHour_221 (by decide) ?_
  exact K82 _ _ _ _ _ X (lv_sub hl [1, 0] rfl) hF
noncomputable def fX12_anHour_b176 (N : Nat) (r82 : Int32 → gS → Option (Int32 × gS)) (x1 : Int32) (S : gS) : Option (Int32 × gS) := chk (inb x1 (6)) (chk (inb x1 (6)) (lt (sU S 33 (Int32.toNatClampNeg x1) (((S 33 (Int32.toNatClampNeg x1)) / 2 : Int32))) fun S1 => (chk (inb x1 (6)) (chk (inb x1 (6)) (lt (sU S1 34 (Int32.toNatClampNeg x1) (if (((S1 34 (Int32.toNatClampNeg x1)) + 1 : Int32)) < 999 then (((S1 34 (Int32.toNatClampNeg x1)) + 1 : Int32)) else 999)) fun S2 => (lt (sU S2 99 45 (((S2 99 45) ||| (((1 : Int32) <<< (x1 &&& 31) : Int32)) : Int32))) fun S3 => (fX12_anHour_b218 N r82 x1 S3)))))))
theorem bX12_anHour_176 {N : Nat} {r82 : Int32 → gS → Option (Int32 × gS)} {x1 : Int32} {S : gS} {H : Heap} {locs : List Loc} {ls : Array Slot} {o : Int32 × gS} (C : gC p s m args meth c cX12_anHour 4 RX12 none D (mtys cI cS) mord g Am) (O : gO (mcell g cI cS sa) mord g) (K82 : ∀ (x1 : Int32) (S : gS) (H : Heap) (locs : List Loc) (ls : Array Slot), gX D (mcell g cI cS sa) mord g S s H locs → lv_has ls 4 [(0, .ref (g 99)), (1, .int x1)] → r82 x1 S = some o → W p l e (rmd 5) s m args below meth c H locs 0 0 (gE below args s D (mtys cI cS) (mcell g cI cS sa) mord g none o.2) (F0 m 82 ls [])) (X : gX D (mcell g cI cS sa) mord g S s H locs) (hl : lv_has ls 4 [(0, .ref (g 99)), (1, .int x1)]) (hF : fX12_anHour_b176 N r82 x1 S = some o) : W p l e (rmd 5) s m args below meth c H locs 0 0 (gE below args s D (mtys cI cS) (mcell g cI cS sa) mord g none o.2) (F0 m 176 ls []) := by
  unfold fX12_anHour_b176 at hF
  refine lv_aload_n C.1.1 C.1.2.1 dX12_anHour_176 rfl (lv_at hl 0 rfl) ?_
  refine m_g33 C X dX12_anHour_177 ?_
  refine lv_iload_n C.1.1 C.1.2.1 dX12_anHour_180 rfl (lv_at hl 1 rfl) ?_
  refine lv_dup2_11 C.1.1 C.1.2.1 dX12_anHour_181 rfl rfl ?_
  obtain ⟨h_1, hF⟩ := chk_some hF
  refine m_r33 C X  (inb_vp h_1) rfl dX12_anHour_182 ?_
  refine lv_iconst (v := 2) C.1.1 C.1.2.1 dX12_anHour_183 (by decide) ?_
  refine lv_idiv C.1.1 C.1.2.1 dX12_anHour_184 (by decide) ?_
  obtain ⟨h_2, hF⟩ := chk_some hF
  obtain ⟨S1, eS1, hF⟩ := lt_some hF
  refine m_w33 C O X  (inb_vp h_2) rfl eS1 dX12_anHour_185 (fun H locs X => ?_)
  refine lv_aload_n C.1.1 C.1.2.1 dX12_anHour_186 rfl (lv_at hl 0 rfl) ?_
  refine m_g34 C X dX12_anHour_187 ?_
  refine lv_iload_n C.1.1 C.1.2.1 dX12_anHour_190 rfl (lv_at hl 1 rfl) ?_
  refine lv_sipush (v := 999) C.1.1 C.1.2.1 dX12_anHour_191 (by decide) ?_
  refine lv_aload_n C.1.1 C.1.2.1 dX12_anHour_194 rfl (lv_at hl 0 rfl) ?_
  refine m_g34 C X dX12_anHour_195 ?_
  refine lv_iload_n C.1.1 C.1.2.1 dX12_anHour_198 rfl (lv_at hl 1 rfl) ?_
  obtain ⟨h_3, hF⟩ := chk_some hF
  refine m_r34 C X  (inb_vp h_3) rfl dX12_anHour_199 ?_
  refine lv_iconst (v := 1) C.1.1 C.1.2.1 dX12_anHour_200 (by decide) ?_
  refine lv_iadd C.1.1 C.1.2.1 dX12_anHour_201 ?_
  refine g_min C hl.1 mMmin192 ⟨Nat.le_of_ble_eq_true rfl, Nat.le_of_ble_eq_true rfl⟩ (Nat.le_of_ble_eq_true rfl) (Nat.le_of_ble_eq_true rfl) dX12_anHour_202 ?_
  obtain ⟨h_4, hF⟩ := chk_some hF
  obtain ⟨S2, eS2, hF⟩ := lt_some hF
  refine m_w34 C O X  (inb_vp h_4) rfl eS2 dX12_anHour_205 (fun H locs X => ?_)
  refine lv_aload_n C.1.1 C.1.2.1 dX12_anHour_206 rfl (lv_at hl 0 rfl) ?_
  refine lv_dup C.1.1 C.1.2.1 dX12_anHour_207 rfl ?_
  refine m_g45 C X dX12_anHour_208 ?_
  refine lv_iconst (v := 1) C.1.1 C.1.2.1 dX12_anHour_211 (by decide) ?_
  refine lv_iload_n C.1.1 C.1.2.1 dX12_anHour_212 rfl (lv_at hl 1 rfl) ?_
  refine lv_ishl C.1.1 C.1.2.1 dX12_anHour_213 ?_
  refine lv_ior C.1.1 C.1.2.1 dX12_anHour_214 ?_
  obtain ⟨S3, eS3, hF⟩ := lt_some hF
  refine m_p45 C O X eS3 dX12_anHour_215 (fun H locs X => ?_)
  exact bX12_anHour_218 C O K82 X (lv_sub hl [0, 1] rfl) hF
noncomputable def fX12_anHour_b173 (N : Nat) (r82 : Int32 → gS → Option (Int32 × gS)) (x1 : Int32) (S : gS) : Option (Int32 × gS) := fX12_anHour_b218 N r82 x1 S
theorem bX12_anHour_173 {N : Nat} {r82 : Int32 → gS → Option (Int32 × gS)} {x1 : Int32} {S : gS} {H : Heap} {locs : List Loc} {ls : Array Slot} {o : Int32 × gS} (C : gC p s m args meth c cX12_anHour 4 RX12 none D (mtys cI cS) mord g Am) (O : gO (mcell g cI cS sa) mord g) (K82 : ∀ (x1 : Int32) (S : gS) (H : Heap) (locs : List Loc) (ls : Array Slot), gX D (mcell g cI cS sa) mord g S s H locs → lv_has ls 4 [(0, .ref (g 99)), (1, .int x1)] → r82 x1 S = some o → W p l e (rmd 5) s m args below meth c H locs 0 0 (gE below args s D (mtys cI cS) (mcell g cI cS sa) mord g none o.2) (F0 m 82 ls [])) (X : gX D (mcell g cI cS sa) mord g S s H locs) (hl : lv_has ls 4 [(0, .ref (g 99)), (1, .int x1)]) (hF : fX12_anHour_b173 N r82 x1 S = some o) : W p l e (rmd 5) s m args below meth c H locs 0 0 (gE below args s D (mtys cI cS) (mcell g cI cS sa) mord g none o.2) (F0 m 173 ls []) := by
  unfold fX12_anHour_b173 at hF
  refine lv_goto (tgt := 218) C.1.1 C.1.2.1 dX12_anHour_173 (by decide) ?_
  exact bX12_anHour_218 C O K82 X (lv_sub hl [0, 1] rfl) hF
noncomputable def fX12_anHour_b158 (N : Nat) (r82 : Int32 → gS → Option (Int32 × gS)) (x1 : Int32) (S : gS) : Option (Int32 × gS) := chk (inb x1 (6)) (if (S 5 2) < (S 32 (Int32.toNatClampNeg x1)) then fX12_anHour_b176 N r82 x1 S else fX12_anHour_b173 N r82 x1 S)
theorem bX12_anHour_158 {N : Nat} {r82 : Int32 → gS → Option (Int32 × gS)} {x1 : Int32} {S : gS} {H : Heap} {locs : List Loc} {ls : Array Slot} {o : Int32 × gS} (C : gC p s m args meth c cX12_anHour 4 RX12 none D (mtys cI cS) mord g Am) (O : gO (mcell g cI cS sa) mord g) (K82 : ∀ (x1 : Int32) (S : gS) (H : Heap) (locs : List Loc) (ls : Array Slot), gX D (mcell g cI cS sa) mord g S s H locs → lv_has ls 4 [(0, .ref (g 99)), (1, .int x1)] → r82 x1 S = some o → W p l e (rmd 5) s m args below meth c H locs 0 0 (gE below args s D (mtys cI cS) (mcell g cI cS sa) mord g none o.2) (F0 m 82 ls [])) (X : gX D (mcell g cI cS sa) mord g S s H locs) (hl : lv_has ls 4 [(0, .ref (g 99)), (1, .int x1)]) (hF : fX12_anHour_b158 N r82 x1 S = some o) : W p l e (rmd 5) s m args below meth c H locs 0 0 (gE below args s D (mtys cI cS) (mcell g cI cS sa) mord g none o.2) (F0 m 158 ls []) := by
  unfold fX12_anHour_b158 at hF
  refine lv_aload_n C.1.1 C.1.2.1 dX12_anHour_158 rfl (lv_at hl 0 rfl) ?_
  refine m_g32 C X dX12_anHour_159 ?_
  refine lv_iload_n C.1.1 C.1.2.1 dX12_anHour_162 rfl (lv_at hl 1 rfl) ?_
  obtain ⟨h_1, hF⟩ := chk_some hF
  refine m_r32 C X  (inb_vp h_1) rfl dX12_anHour_163 ?_
  refine lv_aload_n C.1.1 C.1.2.1 dX12_anHour_164 rfl (lv_at hl 0 rfl) ?_
  refine m_g5 C X dX12_anHour_165 ?_
  refine lv_iconst (v := 2) C.1.1 C.1.2.1 dX12_anHour_168 (by decide) ?_
  refine m_r5 C X (j := 2) (inb_vp (by decide)) (by decide) dX12_anHour_169 ?_
  refine lv_icmp_gt (tgt := 176) C.1.1 C.1.2.1 dX12_anHour_170 (by decide) (fun h_z => ?_) (fun h_z => ?_)
  · rw [if_pos h_z] at hF
    exact bX12_anHour_176 C O K82 X (lv_sub hl [0, 1] rfl) hF
  · rw [if_neg h_z] at hF
    exact bX12_anHour_173 C O K82 X (lv_sub hl [0, 1] rfl) hF
noncomputable def fX12_anHour_b153 (N : Nat) (r82 : Int32 → gS → Option (Int32 × gS)) (x1 : Int32) (S : gS) : Option (Int32 × gS) := bnd (fX12_pay N x1 S) fun q1 => (fX12_anHour_b158 N r82 x1 q1.2)
theorem bX12_anHour_153 {N : Nat} {r82 : Int32 → gS → Option (Int32 × gS)} {x1 : Int32} {S : gS} {H : Heap} {locs : List Loc} {ls : Array Slot} {o : Int32 × gS} (C : gC p s m args meth c cX12_anHour 4 RX12 none D (mtys cI cS) mord g Am) (O : gO (mcell g cI cS sa) mord g) (K82 : ∀ (x1 : Int32) (S : gS) (H : Heap) (locs : List Loc) (ls : Array Slot), gX D (mcell g cI cS sa) mord g S s H locs → lv_has ls 4 [(0, .ref (g 99)), (1, .int x1)] → r82 x1 S = some o → W p l e (rmd 5) s m args below meth c H locs 0 0 (gE below args s D (mtys cI cS) (mcell g cI cS sa) mord g none o.2) (F0 m 82 ls [])) (X : gX D (mcell g cI cS sa) mord g S s H locs) (hl : lv_has ls 4 [(0, .ref (g 99)), (1, .int x1)]) (hF : fX12_anHour_b153 N r82 x1 S = some o) : W p l e (rmd 5) s m args below meth c H locs 0 0 (gE below args s D (mtys cI cS) (mcell g cI cS sa) mord g none o.2) (F0 m 153 ls []) := by
  unfold fX12_anHour_b153 at hF
  refine lv_aload_n C.1.1 C.1.2.1 dX12_anHour_153 rfl (lv_at hl 0 rfl) ?_
  refine lv_iload_n C.1.1 C.1.2.1 dX12_anHour_154 rfl (lv_at hl 1 rfl) ?_
  obtain ⟨q1, hq1, hF⟩ := bnd_some hF
  refine m_callV C X vX12_pay rfl (kX12_pay O C.2.2.2.2.1 N x1  S q1 hq1) (Nat.le_of_ble_eq_true rfl) (Nat.le_of_ble_eq_true rfl) (Nat.le_of_ble_eq_true rfl) (Nat.le_of_ble_eq_true rfl) rfl hl.1 rfl (Nat.le_of_ble_eq_true rfl) dX12_anHour_155 (fun H locs X => ?_)
  exact bX12_anHour_158 C O K82 X (lv_sub hl [0, 1] rfl) hF
noncomputable def fX12_anHour_b92 (N : Nat) (r82 : Int32 → gS → Option (Int32 × gS)) (x1 : Int32) (S : gS) : Option (Int32 × gS) := chk (inb x1 (6)) (chk (inb x1 (6)) (chk (inb x1 (6)) (lt (sU S 33 (Int32.toNatClampNeg x1) (if (((S 33 (Int32.toNatClampNeg x1)) + ((3 * (S 18 (Int32.toNatClampNeg x1)) : Int32)) : Int32)) < 999 then (((S 33 (Int32.toNatClampNeg x1)) + ((3 * (S 18 (Int32.toNatClampNeg x1)) : Int32)) : Int32)) else 999)) fun S1 => (chk (inb x1 (6)) (chk (inb x1 (6)) (chk (inb x1 (6)) (lt (sU S1 32 (Int32.toNatClampNeg x1) (if (((S1 32 (Int32.toNatClampNeg x1)) + (S1 18 (Int32.toNatClampNeg x1)) : Int32)) < 99 then (((S1 32 (Int32.toNatClampNeg x1)) + (S1 18 (Int32.toNatClampNeg x1)) : Int32)) else 99)) fun S2 => (chk (inb x1 (6)) (if (S2 35 (Int32.toNatClampNeg x1)) = ((-1)) then fX12_anHour_b158 N r82 x1 S2 else fX12_anHour_b153 N r82 x1 S2)))))))))
theorem bX12_anHour_92 {N : Nat} {r82 : Int32 → gS → Option (Int32 × gS)} {x1 : Int32} {S : gS} {H : Heap} {locs : List Loc} {ls : Array Slot} {o : Int32 × gS} (C : gC p s m args meth c cX12_anHour 4 RX12 none D (mtys cI cS) mord g Am) (O : gO (mcell g cI cS sa) mord g) (K82 : ∀ (x1 : Int32) (S : gS) (H : Heap) (locs : List Loc) (ls : Array Slot), gX D (mcell g cI cS sa) mord g S s H locs → lv_has ls 4 [(0, .ref (g 99)), (1, .int x1)] → r82 x1 S = some o → W p l e (rmd 5) s m args below meth c H locs 0 0 (gE below args s D (mtys cI cS) (mcell g cI cS sa) mord g none o.2) (F0 m 82 ls [])) (X : gX D (mcell g cI cS sa) mord g S s H locs) (hl : lv_has ls 4 [(0, .ref (g 99)), (1, .int x1)]) (hF : fX12_anHour_b92 N r82 x1 S = some o) : W p l e (rmd 5) s m args below meth c H locs 0 0 (gE below args s D (mtys cI cS) (mcell g cI cS sa) mord g none o.2) (F0 m 92 ls []) := by
  unfold fX12_anHour_b92 at hF
  refine lv_aload_n C.1.1 C.1.2.1 dX12_anHour_92 rfl (lv_at hl 0 rfl) ?_
  refine m_g33 C X dX12_anHour_93 ?_
  refine lv_iload_n C.1.1 C.1.2.1 dX12_anHour_96 rfl (lv_at hl 1 rfl) ?_
  refine lv_sipush (v := 999) C.1.1 C.1.2.1 dX12_anHour_97 (by decide) ?_
  refine lv_aload_n C.1.1 C.1.2.1 dX12_anHour_100 rfl (lv_at hl 0 rfl) ?_
  refine m_g33 C X dX12_anHour_101 ?_
  refine lv_iload_n C.1.1 C.1.2.1 dX12_anHour_104 rfl (lv_at hl 1 rfl) ?_
  obtain ⟨h_1, hF⟩ := chk_some hF
  refine m_r33 C X  (inb_vp h_1) rfl dX12_anHour_105 ?_
  refine lv_iconst (v := 3) C.1.1 C.1.2.1 dX12_anHour_106 (by decide) ?_
  refine lv_aload_n C.1.1 C.1.2.1 dX12_anHour_107 rfl (lv_at hl 0 rfl) ?_
  refine m_g18 C X dX12_anHour_108 ?_
  refine lv_iload_n C.1.1 C.1.2.1 dX12_anHour_111 rfl (lv_at hl 1 rfl) ?_
  obtain ⟨h_2, hF⟩ := chk_some hF
  refine m_r18 C X  (inb_vp h_2) rfl dX12_anHour_112 ?_
  refine lv_imul C.1.1 C.1.2.1 dX12_anHour_113 ?_
  refine lv_iadd C.1.1 C.1.2.1 dX12_anHour_114 ?_
  refine g_min C hl.1 mMmin192 ⟨Nat.le_of_ble_eq_true rfl, Nat.le_of_ble_eq_true rfl⟩ (Nat.le_of_ble_eq_true rfl) (Nat.le_of_ble_eq_true rfl) dX12_anHour_115 ?_
  obtain ⟨h_3, hF⟩ := chk_some hF
  obtain ⟨S1, eS1, hF⟩ := lt_some hF
  refine m_w33 C O X  (inb_vp h_3) rfl eS1 dX12_anHour_118 (fun H locs X => ?_)
  refine lv_aload_n C.1.1 C.1.2.1 dX12_anHour_119 rfl (lv_at hl 0 rfl) ?_
  refine m_g32 C X dX12_anHour_120 ?_
  refine lv_iload_n C.1.1 C.1.2.1 dX12_anHour_123 rfl (lv_at hl 1 rfl) ?_
  refine lv_bipush (v := 99) C.1.1 C.1.2.1 dX12_anHour_124 (by decide) ?_
  refine lv_aload_n C.1.1 C.1.2.1 dX12_anHour_126 rfl (lv_at hl 0 rfl) ?_
  refine m_g32 C X dX12_anHour_127 ?_
  refine lv_iload_n C.1.1 C.1.2.1 dX12_anHour_130 rfl (lv_at hl 1 rfl) ?_
  obtain ⟨h_4, hF⟩ := chk_some hF
  refine m_r32 C X  (inb_vp h_4) rfl dX12_anHour_131 ?_
  refine lv_aload_n C.1.1 C.1.2.1 dX12_anHour_132 rfl (lv_at hl 0 rfl) ?_
  refine m_g18 C X dX12_anHour_133 ?_
  refine lv_iload_n C.1.1 C.1.2.1 dX12_anHour_136 rfl (lv_at hl 1 rfl) ?_
  obtain ⟨h_5, hF⟩ := chk_some hF
  refine m_r18 C X  (inb_vp h_5) rfl dX12_anHour_137 ?_
  refine lv_iadd C.1.1 C.1.2.1 dX12_anHour_138 ?_
  refine g_min C hl.1 mMmin192 ⟨Nat.le_of_ble_eq_true rfl, Nat.le_of_ble_eq_true rfl⟩ (Nat.le_of_ble_eq_true rfl) (Nat.le_of_ble_eq_true rfl) dX12_anHour_139 ?_
  obtain ⟨h_6, hF⟩ := chk_some hF
  obtain ⟨S2, eS2, hF⟩ := lt_some hF
  refine m_w32 C O X  (inb_vp h_6) rfl eS2 dX12_anHour_142 (fun H locs X => ?_)
  refine lv_aload_n C.1.1 C.1.2.1 dX12_anHour_143 rfl (lv_at hl 0 rfl) ?_
  refine m_g35 C X dX12_anHour_144 ?_
  refine lv_iload_n C.1.1 C.1.2.1 dX12_anHour_147 rfl (lv_at hl 1 rfl) ?_
  obtain ⟨h_7, hF⟩ := chk_some hF
  refine m_r35 C X  (inb_vp h_7) rfl dX12_anHour_148 ?_
  refine lv_iconst (v := (-1)) C.1.1 C.1.2.1 dX12_anHour_149 (by decide) ?_
  refine lv_icmp_eq (tgt := 158) C.1.1 C.1.2.1 dX12_anHour_150 (by decide) (fun h_z => ?_) (fun h_z => ?_)
  · rw [if_pos h_z] at hF
    exact bX12_anHour_158 C O K82 X (lv_sub hl [0, 1] rfl) hF
  · rw [if_neg h_z] at hF
    exact bX12_anHour_153 C O K82 X (lv_sub hl [0, 1] rfl) hF
noncomputable def fX12_anHour_b82 (N : Nat) (r82 : Int32 → gS → Option (Int32 × gS)) (x1 : Int32) (S : gS) : Option (Int32 × gS) := if (S 5 1) ≤ x1 then fX12_anHour_b224 N S else fX12_anHour_b92 N r82 x1 S
theorem bX12_anHour_82 {N : Nat} {r82 : Int32 → gS → Option (Int32 × gS)} {x1 : Int32} {S : gS} {H : Heap} {locs : List Loc} {ls : Array Slot} {o : Int32 × gS} (C : gC p s m args meth c cX12_anHour 4 RX12 none D (mtys cI cS) mord g Am) (O : gO (mcell g cI cS sa) mord g) (K82 : ∀ (x1 : Int32) (S : gS) (H : Heap) (locs : List Loc) (ls : Array Slot), gX D (mcell g cI cS sa) mord g S s H locs → lv_has ls 4 [(0, .ref (g 99)), (1, .int x1)] → r82 x1 S = some o → W p l e (rmd 5) s m args below meth c H locs 0 0 (gE below args s D (mtys cI cS) (mcell g cI cS sa) mord g none o.2) (F0 m 82 ls [])) (X : gX D (mcell g cI cS sa) mord g S s H locs) (hl : lv_has ls 4 [(0, .ref (g 99)), (1, .int x1)]) (hF : fX12_anHour_b82 N r82 x1 S = some o) : W p l e (rmd 5) s m args below meth c H locs 0 0 (gE below args s D (mtys cI cS) (mcell g cI cS sa) mord g none o.2) (F0 m 82 ls []) := by
  unfold fX12_anHour_b82 at hF
  refine lv_iload_n C.1.1 C.1.2.1 dX12_anHour_82 rfl (lv_at hl 1 rfl) ?_
  refine lv_aload_n C.1.1 C.1.2.1 dX12_anHour_83 rfl (lv_at hl 0 rfl) ?_
  refine m_g5 C X dX12_anHour_84 ?_
  refine lv_iconst (v := 1) C.1.1 C.1.2.1 dX12_anHour_87 (by decide) ?_
  refine m_r5 C X (j := 1) (inb_vp (by decide)) (by decide) dX12_anHour_88 ?_
  refine lv_icmp_ge (tgt := 224) C.1.1 C.1.2.1 dX12_anHour_89 (by decide) (fun h_z => ?_) (fun h_z => ?_)
  · rw [if_pos h_z] at hF
    exact bX12_anHour_224 C O X (lv_sub hl [0] rfl) hF
  · rw [if_neg h_z] at hF
    exact bX12_anHour_92 C O K82 X (lv_sub hl [0, 1] rfl) hF
noncomputable def fX12_anHour_h82 (N : Nat) : Nat → Int32 → gS → Option (Int32 × gS)
  | 0, _, _ => none
  | n + 1, x1, S => fX12_anHour_b82 N (fX12_anHour_h82 N n) x1 S
theorem hX12_anHour_82 {N : Nat} {o : Int32 × gS} (C : gC p s m args meth c cX12_anHour 4 RX12 none D (mtys cI cS) mord g Am) (O : gO (mcell g cI cS sa) mord g) : ∀ (n : Nat) (x1 : Int32) (S : gS) (H : Heap) (locs : List Loc) (ls : Array Slot), gX D (mcell g cI cS sa) mord g S s H locs → lv_has ls 4 [(0, .ref (g 99)), (1, .int x1)] → fX12_anHour_h82 N n x1 S = some o → W p l e (rmd 5) s m args below meth c H locs 0 0 (gE below args s D (mtys cI cS) (mcell g cI cS sa) mord g none o.2) (F0 m 82 ls []) := by
  intro n
  induction n with
  | zero =>
    intro x1 S H locs ls X hl hF
    exact absurd (show (none : Option (Int32 × gS)) = some o from hF) (by simp)
  | succ n ih =>
    intro x1 S H locs ls X hl hF
    have hF : fX12_anHour_b82 N (fX12_anHour_h82 N n) x1 S = some o := hF
    exact bX12_anHour_82 C O ih X hl hF
noncomputable def fX12_anHour_b80 (N : Nat) (S : gS) : Option (Int32 × gS) := fX12_anHour_h82 N N 0 S
theorem bX12_anHour_80 {N : Nat} {S : gS} {H : Heap} {locs : List Loc} {ls : Array Slot} {o : Int32 × gS} (C : gC p s m args meth c cX12_anHour 4 RX12 none D (mtys cI cS) mord g Am) (O : gO (mcell g cI cS sa) mord g) (X : gX D (mcell g cI cS sa) mord g S s H locs) (hl : lv_has ls 4 [(0, .ref (g 99))]) (hF : fX12_anHour_b80 N S = some o) : W p l e (rmd 5) s m args below meth c H locs 0 0 (gE below args s D (mtys cI cS) (mcell g cI cS sa) mord g none o.2) (F0 m 80 ls []) := by
  unfold fX12_anHour_b80 at hF
  refine lv_iconst (v := 0) C.1.1 C.1.2.1 dX12_anHour_80 (by decide) ?_
  refine lv_istore_n (lv' := [(1, .int 0), (0, .ref (g 99))]) C.1.1 C.1.2.1 dX12_anHour_81 rfl hl (by decide) rfl (fun ls hl => ?_)
  exact hX12_anHour_82 C O N _ _ _ _ _ X (lv_sub hl [1, 0] rfl) hF
noncomputable def fX12_anHour_b74 (N : Nat) (r15 : Int32 → gS → Option (Int32 × gS)) (x1 : Int32) (S : gS) : Option (Int32 × gS) := r15 ((x1 + 1 : Int32)) S
theorem bX12_anHour_74 {N : Nat} {r15 : Int32 → gS → Option (Int32 × gS)} {x1 : Int32} {S : gS} {H : Heap} {locs : List Loc} {ls : Array Slot} {o : Int32 × gS} (C : gC p s m args meth c cX12_anHour 4 RX12 none D (mtys cI cS) mord g Am) (O : gO (mcell g cI cS sa) mord g) (K15 : ∀ (x1 : Int32) (S : gS) (H : Heap) (locs : List Loc) (ls : Array Slot), gX D (mcell g cI cS sa) mord g S s H locs → lv_has ls 4 [(0, .ref (g 99)), (1, .int x1)] → r15 x1 S = some o → W p l e (rmd 5) s m args below meth c H locs 0 0 (gE below args s D (mtys cI cS) (mcell g cI cS sa) mord g none o.2) (F0 m 15 ls [])) (X : gX D (mcell g cI cS sa) mord g S s H locs) (hl : lv_has ls 4 [(0, .ref (g 99)), (1, .int x1)]) (hF : fX12_anHour_b74 N r15 x1 S = some o) : W p l e (rmd 5) s m args below meth c H locs 0 0 (gE below args s D (mtys cI cS) (mcell g cI cS sa) mord g none o.2) (F0 m 74 ls []) := by
  unfold fX12_anHour_b74 at hF
  refine lv_iinc (v := (x1 + 1 : Int32)) (lv' := [(1, .int ((x1 + 1 : Int32))), (0, .ref (g 99))]) C.1.1 C.1.2.1 dX12_anHour_74 hl (k := 1) rfl rfl (by decide) rfl (fun ls hl => ?_)
  refine lv_goto (tgt := 15) C.1.1 C.1.2.1 dX12_anHour_77 (by decide) ?_
  exact K15 _ _ _ _ _ X (lv_sub hl [1, 0] rfl) hF
noncomputable def fX12_anHour_b63 (N : Nat) (r15 : Int32 → gS → Option (Int32 × gS)) (r48 : Int32 → Int32 → Int32 → gS → Option (Int32 × gS)) (x1 : Int32) (x2 : Int32) (x3 : Int32) (S : gS) : Option (Int32 × gS) := bnd (fX12_pray N x2 S) fun q1 => (r48 x1 x2 ((x3 + 1 : Int32)) q1.2)
theorem bX12_anHour_63 {N : Nat} {r15 : Int32 → gS → Option (Int32 × gS)} {r48 : Int32 → Int32 → Int32 → gS → Option (Int32 × gS)} {x1 : Int32} {x2 : Int32} {x3 : Int32} {S : gS} {H : Heap} {locs : List Loc} {ls : Array Slot} {o : Int32 × gS} (C : gC p s m args meth c cX12_anHour 4 RX12 none D (mtys cI cS) mord g Am) (O : gO (mcell g cI cS sa) mord g) (K15 : ∀ (x1 : Int32) (S : gS) (H : Heap) (locs : List Loc) (ls : Array Slot), gX D (mcell g cI cS sa) mord g S s H locs → lv_has ls 4 [(0, .ref (g 99)), (1, .int x1)] → r15 x1 S = some o → W p l e (rmd 5) s m args below meth c H locs 0 0 (gE below args s D (mtys cI cS) (mcell g cI cS sa) mord g none o.2) (F0 m 15 ls [])) (K48 : ∀ (x1 : Int32) (x2 : Int32) (x3 : Int32) (S : gS) (H : Heap) (locs : List Loc) (ls : Array Slot), gX D (mcell g cI cS sa) mord g S s H locs → lv_has ls 4 [(0, .ref (g 99)), (1, .int x1), (2, .int x2), (3, .int x3)] → r48 x1 x2 x3 S = some o → W p l e (rmd 5) s m args below meth c H locs 0 0 (gE below args s D (mtys cI cS) (mcell g cI cS sa) mord g none o.2) (F0 m 48 ls [])) (X : gX D (mcell g cI cS sa) mord g S s H locs) (hl : lv_has ls 4 [(0, .ref (g 99)), (1, .int x1), (2, .int x2), (3, .int x3)]) (hF : fX12_anHour_b63 N r15 r48 x1 x2 x3 S = some o) : W p l e (rmd 5) s m args below meth c H locs 0 0 (gE below args s D (mtys cI cS) (mcell g cI cS sa) mord g none o.2) (F0 m 63 ls []) := by
  unfold fX12_anHour_b63 at hF
  refine lv_aload_n C.1.1 C.1.2.1 dX12_anHour_63 rfl (lv_at hl 0 rfl) ?_
  refine lv_iload_n C.1.1 C.1.2.1 dX12_anHour_64 rfl (lv_at hl 2 rfl) ?_
  obtain ⟨q1, hq1, hF⟩ := bnd_some hF
  refine m_callV C X vX12_pray rfl (kX12_pray O C.2.2.2.2.1 N x2  S q1 hq1) (Nat.le_of_ble_eq_true rfl) (Nat.le_of_ble_eq_true rfl) (Nat.le_of_ble_eq_true rfl) (Nat.le_of_ble_eq_true rfl) rfl hl.1 rfl (Nat.le_of_ble_eq_true rfl) dX12_anHour_65 (fun H locs X => ?_)
  refine lv_iinc (v := (x3 + 1 : Int32)) (lv' := [(3, .int ((x3 + 1 : Int32))), (0, .ref (g 99)), (1, .int x1), (2, .int x2)]) C.1.1 C.1.2.1 dX12_anHour_68 hl (k := 3) rfl rfl (by decide) rfl (fun ls hl => ?_)
  refine lv_goto (tgt := 48) C.1.1 C.1.2.1 dX12_anHour_71 (by decide) ?_
  exact K48 _ _ _ _ _ _ _ X (lv_sub hl [1, 2, 3, 0] rfl) hF
noncomputable def fX12_anHour_b53 (N : Nat) (r15 : Int32 → gS → Option (Int32 × gS)) (r48 : Int32 → Int32 → Int32 → gS → Option (Int32 × gS)) (x1 : Int32) (x2 : Int32) (x3 : Int32) (S : gS) : Option (Int32 × gS) := chk (inb x1 (16)) (if (S 6 (Int32.toNatClampNeg x1)) < x3 then fX12_anHour_b74 N r15 x1 S else fX12_anHour_b63 N r15 r48 x1 x2 x3 S)
theorem bX12_anHour_53 {N : Nat} {r15 : Int32 → gS → Option (Int32 × gS)} {r48 : Int32 → Int32 → Int32 → gS → Option (Int32 × gS)} {x1 : Int32} {x2 : Int32} {x3 : Int32} {S : gS} {H : Heap} {locs : List Loc} {ls : Array Slot} {o : Int32 × gS} (C : gC p s m args meth c cX12_anHour 4 RX12 none D (mtys cI cS) mord g Am) (O : gO (mcell g cI cS sa) mord g) (K15 : ∀ (x1 : Int32) (S : gS) (H : Heap) (locs : List Loc) (ls : Array Slot), gX D (mcell g cI cS sa) mord g S s H locs → lv_has ls 4 [(0, .ref (g 99)), (1, .int x1)] → r15 x1 S = some o → W p l e (rmd 5) s m args below meth c H locs 0 0 (gE below args s D (mtys cI cS) (mcell g cI cS sa) mord g none o.2) (F0 m 15 ls [])) (K48 : ∀ (x1 : Int32) (x2 : Int32) (x3 : Int32) (S : gS) (H : Heap) (locs : List Loc) (ls : Array Slot), gX D (mcell g cI cS sa) mord g S s H locs → lv_has ls 4 [(0, .ref (g 99)), (1, .int x1), (2, .int x2), (3, .int x3)] → r48 x1 x2 x3 S = some o → W p l e (rmd 5) s m args below meth c H locs 0 0 (gE below args s D (mtys cI cS) (mcell g cI cS sa) mord g none o.2) (F0 m 48 ls [])) (X : gX D (mcell g cI cS sa) mord g S s H locs) (hl : lv_has ls 4 [(0, .ref (g 99)), (1, .int x1), (2, .int x2), (3, .int x3)]) (hF : fX12_anHour_b53 N r15 r48 x1 x2 x3 S = some o) : W p l e (rmd 5) s m args below meth c H locs 0 0 (gE below args s D (mtys cI cS) (mcell g cI cS sa) mord g none o.2) (F0 m 53 ls []) := by
  unfold fX12_anHour_b53 at hF
  refine lv_iload_n C.1.1 C.1.2.1 dX12_anHour_53 rfl (lv_at hl 3 rfl) ?_
  refine lv_aload_n C.1.1 C.1.2.1 dX12_anHour_54 rfl (lv_at hl 0 rfl) ?_
  refine m_g6 C X dX12_anHour_55 ?_
  refine lv_iload_n C.1.1 C.1.2.1 dX12_anHour_58 rfl (lv_at hl 1 rfl) ?_
  obtain ⟨h_1, hF⟩ := chk_some hF
  refine m_r6 C X  (inb_vp h_1) rfl dX12_anHour_59 ?_
  refine lv_icmp_gt (tgt := 74) C.1.1 C.1.2.1 dX12_anHour_60 (by decide) (fun h_z => ?_) (fun h_z => ?_)
  · rw [if_pos h_z] at hF
    exact bX12_anHour_74 C O K15 X (lv_sub hl [0, 1] rfl) hF
  · rw [if_neg h_z] at hF
    exact bX12_anHour_63 C O K15 K48 X (lv_sub hl [0, 1, 2, 3] rfl) hF
noncomputable def fX12_anHour_b48 (N : Nat) (r15 : Int32 → gS → Option (Int32 × gS)) (r48 : Int32 → Int32 → Int32 → gS → Option (Int32 × gS)) (x1 : Int32) (x2 : Int32) (x3 : Int32) (S : gS) : Option (Int32 × gS) := if x2 = ((-1)) then fX12_anHour_b74 N r15 x1 S else fX12_anHour_b53 N r15 r48 x1 x2 x3 S
theorem bX12_anHour_48 {N : Nat} {r15 : Int32 → gS → Option (Int32 × gS)} {r48 : Int32 → Int32 → Int32 → gS → Option (Int32 × gS)} {x1 : Int32} {x2 : Int32} {x3 : Int32} {S : gS} {H : Heap} {locs : List Loc} {ls : Array Slot} {o : Int32 × gS} (C : gC p s m args meth c cX12_anHour 4 RX12 none D (mtys cI cS) mord g Am) (O : gO (mcell g cI cS sa) mord g) (K15 : ∀ (x1 : Int32) (S : gS) (H : Heap) (locs : List Loc) (ls : Array Slot), gX D (mcell g cI cS sa) mord g S s H locs → lv_has ls 4 [(0, .ref (g 99)), (1, .int x1)] → r15 x1 S = some o → W p l e (rmd 5) s m args below meth c H locs 0 0 (gE below args s D (mtys cI cS) (mcell g cI cS sa) mord g none o.2) (F0 m 15 ls [])) (K48 : ∀ (x1 : Int32) (x2 : Int32) (x3 : Int32) (S : gS) (H : Heap) (locs : List Loc) (ls : Array Slot), gX D (mcell g cI cS sa) mord g S s H locs → lv_has ls 4 [(0, .ref (g 99)), (1, .int x1), (2, .int x2), (3, .int x3)] → r48 x1 x2 x3 S = some o → W p l e (rmd 5) s m args below meth c H locs 0 0 (gE below args s D (mtys cI cS) (mcell g cI cS sa) mord g none o.2) (F0 m 48 ls [])) (X : gX D (mcell g cI cS sa) mord g S s H locs) (hl : lv_has ls 4 [(0, .ref (g 99)), (1, .int x1), (2, .int x2), (3, .int x3)]) (hF : fX12_anHour_b48 N r15 r48 x1 x2 x3 S = some o) : W p l e (rmd 5) s m args below meth c H locs 0 0 (gE below args s D (mtys cI cS) (mcell g cI cS sa) mord g none o.2) (F0 m 48 ls []) := by
  unfold fX12_anHour_b48 at hF
  refine lv_iload_n C.1.1 C.1.2.1 dX12_anHour_48 rfl (lv_at hl 2 rfl) ?_
  refine lv_iconst (v := (-1)) C.1.1 C.1.2.1 dX12_anHour_49 (by decide) ?_
  refine lv_icmp_eq (tgt := 74) C.1.1 C.1.2.1 dX12_anHour_50 (by decide) (fun h_z => ?_) (fun h_z => ?_)
  · rw [if_pos h_z] at hF
    exact bX12_anHour_74 C O K15 X (lv_sub hl [0, 1] rfl) hF
  · rw [if_neg h_z] at hF
    exact bX12_anHour_53 C O K15 K48 X (lv_sub hl [0, 1, 2, 3] rfl) hF
noncomputable def fX12_anHour_h48 (N : Nat) (r15 : Int32 → gS → Option (Int32 × gS)) : Nat → Int32 → Int32 → Int32 → gS → Option (Int32 × gS)
  | 0, _, _, _, _ => none
  | n + 1, x1, x2, x3, S => fX12_anHour_b48 N r15 (fX12_anHour_h48 N r15 n) x1 x2 x3 S
theorem hX12_anHour_48 {N : Nat} {r15 : Int32 → gS → Option (Int32 × gS)} {o : Int32 × gS} (C : gC p s m args meth c cX12_anHour 4 RX12 none D (mtys cI cS) mord g Am) (O : gO (mcell g cI cS sa) mord g) (K15 : ∀ (x1 : Int32) (S : gS) (H : Heap) (locs : List Loc) (ls : Array Slot), gX D (mcell g cI cS sa) mord g S s H locs → lv_has ls 4 [(0, .ref (g 99)), (1, .int x1)] → r15 x1 S = some o → W p l e (rmd 5) s m args below meth c H locs 0 0 (gE below args s D (mtys cI cS) (mcell g cI cS sa) mord g none o.2) (F0 m 15 ls [])) : ∀ (n : Nat) (x1 : Int32) (x2 : Int32) (x3 : Int32) (S : gS) (H : Heap) (locs : List Loc) (ls : Array Slot), gX D (mcell g cI cS sa) mord g S s H locs → lv_has ls 4 [(0, .ref (g 99)), (1, .int x1), (2, .int x2), (3, .int x3)] → fX12_anHour_h48 N r15 n x1 x2 x3 S = some o → W p l e (rmd 5) s m args below meth c H locs 0 0 (gE below args s D (mtys cI cS) (mcell g cI cS sa) mord g none o.2) (F0 m 48 ls []) := by
  intro n
  induction n with
  | zero =>
    intro x1 x2 x3 S H locs ls X hl hF
    exact absurd (show (none : Option (Int32 × gS)) = some o from hF) (by simp)
  | succ n ih =>
    intro x1 x2 x3 S H locs ls X hl hF
    have hF : fX12_anHour_b48 N r15 (fX12_anHour_h48 N r15 n) x1 x2 x3 S = some o := hF
    exact bX12_anHour_48 C O K15 ih X hl hF
noncomputable def fX12_anHour_b45 (N : Nat) (r15 : Int32 → gS → Option (Int32 × gS)) (x1 : Int32) (t0 : Int32) (S : gS) : Option (Int32 × gS) := fX12_anHour_h48 N r15 N x1 t0 0 S
theorem bX12_anHour_45 {N : Nat} {r15 : Int32 → gS → Option (Int32 × gS)} {x1 : Int32} {t0 : Int32} {S : gS} {H : Heap} {locs : List Loc} {ls : Array Slot} {o : Int32 × gS} (C : gC p s m args meth c cX12_anHour 4 RX12 none D (mtys cI cS) mord g Am) (O : gO (mcell g cI cS sa) mord g) (K15 : ∀ (x1 : Int32) (S : gS) (H : Heap) (locs : List Loc) (ls : Array Slot), gX D (mcell g cI cS sa) mord g S s H locs → lv_has ls 4 [(0, .ref (g 99)), (1, .int x1)] → r15 x1 S = some o → W p l e (rmd 5) s m args below meth c H locs 0 0 (gE below args s D (mtys cI cS) (mcell g cI cS sa) mord g none o.2) (F0 m 15 ls [])) (X : gX D (mcell g cI cS sa) mord g S s H locs) (hl : lv_has ls 4 [(0, .ref (g 99)), (1, .int x1)]) (hF : fX12_anHour_b45 N r15 x1 t0 S = some o) : W p l e (rmd 5) s m args below meth c H locs 0 0 (gE below args s D (mtys cI cS) (mcell g cI cS sa) mord g none o.2) (F0 m 45 ls [.int t0]) := by
  unfold fX12_anHour_b45 at hF
  refine lv_istore_n (lv' := [(2, .int t0), (0, .ref (g 99)), (1, .int x1)]) C.1.1 C.1.2.1 dX12_anHour_45 rfl hl (by decide) rfl (fun ls hl => ?_)
  refine lv_iconst (v := 0) C.1.1 C.1.2.1 dX12_anHour_46 (by decide) ?_
  refine lv_istore_n (lv' := [(3, .int 0), (2, .int t0), (0, .ref (g 99)), (1, .int x1)]) C.1.1 C.1.2.1 dX12_anHour_47 rfl hl (by decide) rfl (fun ls hl => ?_)
  exact hX12_anHour_48 C O K15 N _ _ _ _ _ _ _ X (lv_sub hl [2, 3, 1, 0] rfl) hF
noncomputable def fX12_anHour_b44 (N : Nat) (r15 : Int32 → gS → Option (Int32 × gS)) (x1 : Int32) (S : gS) : Option (Int32 × gS) := fX12_anHour_b45 N r15 x1 ((-1)) S
theorem bX12_anHour_44 {N : Nat} {r15 : Int32 → gS → Option (Int32 × gS)} {x1 : Int32} {S : gS} {H : Heap} {locs : List Loc} {ls : Array Slot} {o : Int32 × gS} (C : gC p s m args meth c cX12_anHour 4 RX12 none D (mtys cI cS) mord g Am) (O : gO (mcell g cI cS sa) mord g) (K15 : ∀ (x1 : Int32) (S : gS) (H : Heap) (locs : List Loc) (ls : Array Slot), gX D (mcell g cI cS sa) mord g S s H locs → lv_has ls 4 [(0, .ref (g 99)), (1, .int x1)] → r15 x1 S = some o → W p l e (rmd 5) s m args below meth c H locs 0 0 (gE below args s D (mtys cI cS) (mcell g cI cS sa) mord g none o.2) (F0 m 15 ls [])) (X : gX D (mcell g cI cS sa) mord g S s H locs) (hl : lv_has ls 4 [(0, .ref (g 99)), (1, .int x1)]) (hF : fX12_anHour_b44 N r15 x1 S = some o) : W p l e (rmd 5) s m args below meth c H locs 0 0 (gE below args s D (mtys cI cS) (mcell g cI cS sa) mord g none o.2) (F0 m 44 ls []) := by
  unfold fX12_anHour_b44 at hF
  refine lv_iconst (v := (-1)) C.1.1 C.1.2.1 dX12_anHour_44 (by decide) ?_
  exact bX12_anHour_45 C O K15 X (lv_sub hl [0, 1] rfl) hF
noncomputable def fX12_anHour_b36 (N : Nat) (r15 : Int32 → gS → Option (Int32 × gS)) (x1 : Int32) (S : gS) : Option (Int32 × gS) := bnd (fX12_hirerOf N x1 S) fun q1 => (fX12_anHour_b45 N r15 x1 q1.1 q1.2)
theorem bX12_anHour_36 {N : Nat} {r15 : Int32 → gS → Option (Int32 × gS)} {x1 : Int32} {S : gS} {H : Heap} {locs : List Loc} {ls : Array Slot} {o : Int32 × gS} (C : gC p s m args meth c cX12_anHour 4 RX12 none D (mtys cI cS) mord g Am) (O : gO (mcell g cI cS sa) mord g) (K15 : ∀ (x1 : Int32) (S : gS) (H : Heap) (locs : List Loc) (ls : Array Slot), gX D (mcell g cI cS sa) mord g S s H locs → lv_has ls 4 [(0, .ref (g 99)), (1, .int x1)] → r15 x1 S = some o → W p l e (rmd 5) s m args below meth c H locs 0 0 (gE below args s D (mtys cI cS) (mcell g cI cS sa) mord g none o.2) (F0 m 15 ls [])) (X : gX D (mcell g cI cS sa) mord g S s H locs) (hl : lv_has ls 4 [(0, .ref (g 99)), (1, .int x1)]) (hF : fX12_anHour_b36 N r15 x1 S = some o) : W p l e (rmd 5) s m args below meth c H locs 0 0 (gE below args s D (mtys cI cS) (mcell g cI cS sa) mord g none o.2) (F0 m 36 ls []) := by
  unfold fX12_anHour_b36 at hF
  refine lv_aload_n C.1.1 C.1.2.1 dX12_anHour_36 rfl (lv_at hl 0 rfl) ?_
  refine lv_iload_n C.1.1 C.1.2.1 dX12_anHour_37 rfl (lv_at hl 1 rfl) ?_
  obtain ⟨q1, hq1, hF⟩ := bnd_some hF
  refine m_callVi C X vX12_hirerOf rfl (kX12_hirerOf O C.2.2.2.2.1 N x1  S q1 hq1) (Nat.le_of_ble_eq_true rfl) (Nat.le_of_ble_eq_true rfl) (Nat.le_of_ble_eq_true rfl) (Nat.le_of_ble_eq_true rfl) rfl hl.1 rfl (Nat.le_of_ble_eq_true rfl) dX12_anHour_38 (fun H locs X => ?_)
  refine lv_goto (tgt := 45) C.1.1 C.1.2.1 dX12_anHour_41 (by decide) ?_
  exact bX12_anHour_45 C O K15 X (lv_sub hl [0, 1] rfl) hF
noncomputable def fX12_anHour_b25 (N : Nat) (r15 : Int32 → gS → Option (Int32 × gS)) (x1 : Int32) (S : gS) : Option (Int32 × gS) := bnd (fX12_isOf N (S 99 44) x1 S) fun q1 => (if q1.1 = 0 then fX12_anHour_b44 N r15 x1 q1.2 else fX12_anHour_b36 N r15 x1 q1.2)
theorem bX12_anHour_25 {N : Nat} {r15 : Int32 → gS → Option (Int32 × gS)} {x1 : Int32} {S : gS} {H : Heap} {locs : List Loc} {ls : Array Slot} {o : Int32 × gS} (C : gC p s m args meth c cX12_anHour 4 RX12 none D (mtys cI cS) mord g Am) (O : gO (mcell g cI cS sa) mord g) (K15 : ∀ (x1 : Int32) (S : gS) (H : Heap) (locs : List Loc) (ls : Array Slot), gX D (mcell g cI cS sa) mord g S s H locs → lv_has ls 4 [(0, .ref (g 99)), (1, .int x1)] → r15 x1 S = some o → W p l e (rmd 5) s m args below meth c H locs 0 0 (gE below args s D (mtys cI cS) (mcell g cI cS sa) mord g none o.2) (F0 m 15 ls [])) (X : gX D (mcell g cI cS sa) mord g S s H locs) (hl : lv_has ls 4 [(0, .ref (g 99)), (1, .int x1)]) (hF : fX12_anHour_b25 N r15 x1 S = some o) : W p l e (rmd 5) s m args below meth c H locs 0 0 (gE below args s D (mtys cI cS) (mcell g cI cS sa) mord g none o.2) (F0 m 25 ls []) := by
  unfold fX12_anHour_b25 at hF
  refine lv_aload_n C.1.1 C.1.2.1 dX12_anHour_25 rfl (lv_at hl 0 rfl) ?_
  refine m_g44 C X dX12_anHour_26 ?_
  refine lv_iload_n C.1.1 C.1.2.1 dX12_anHour_29 rfl (lv_at hl 1 rfl) ?_
  obtain ⟨q1, hq1, hF⟩ := bnd_some hF
  refine g_callSi C X vX12_isOf (kX12_isOf O C.2.2.2.2.1 N (S 99 44) x1  S q1 hq1) (Nat.le_of_ble_eq_true rfl) (Nat.le_of_ble_eq_true rfl) (Nat.le_of_ble_eq_true rfl) (Nat.le_of_ble_eq_true rfl) rfl hl.1 rfl (Nat.le_of_ble_eq_true rfl) dX12_anHour_30 (fun H locs X => ?_)
  refine lv_if_eq (tgt := 44) C.1.1 C.1.2.1 dX12_anHour_33 (by decide) (fun h_z => ?_) (fun h_z => ?_)
  · rw [if_pos h_z] at hF
    exact bX12_anHour_44 C O K15 X (lv_sub hl [0, 1] rfl) hF
  · rw [if_neg h_z] at hF
    exact bX12_anHour_36 C O K15 X (lv_sub hl [0, 1] rfl) hF
noncomputable def fX12_anHour_b15 (N : Nat) (r15 : Int32 → gS → Option (Int32 × gS)) (x1 : Int32) (S : gS) : Option (Int32 × gS) := if (S 5 0) ≤ x1 then fX12_anHour_b80 N S else fX12_anHour_b25 N r15 x1 S
theorem bX12_anHour_15 {N : Nat} {r15 : Int32 → gS → Option (Int32 × gS)} {x1 : Int32} {S : gS} {H : Heap} {locs : List Loc} {ls : Array Slot} {o : Int32 × gS} (C : gC p s m args meth c cX12_anHour 4 RX12 none D (mtys cI cS) mord g Am) (O : gO (mcell g cI cS sa) mord g) (K15 : ∀ (x1 : Int32) (S : gS) (H : Heap) (locs : List Loc) (ls : Array Slot), gX D (mcell g cI cS sa) mord g S s H locs → lv_has ls 4 [(0, .ref (g 99)), (1, .int x1)] → r15 x1 S = some o → W p l e (rmd 5) s m args below meth c H locs 0 0 (gE below args s D (mtys cI cS) (mcell g cI cS sa) mord g none o.2) (F0 m 15 ls [])) (X : gX D (mcell g cI cS sa) mord g S s H locs) (hl : lv_has ls 4 [(0, .ref (g 99)), (1, .int x1)]) (hF : fX12_anHour_b15 N r15 x1 S = some o) : W p l e (rmd 5) s m args below meth c H locs 0 0 (gE below args s D (mtys cI cS) (mcell g cI cS sa) mord g none o.2) (F0 m 15 ls []) := by
  unfold fX12_anHour_b15 at hF
  refine lv_iload_n C.1.1 C.1.2.1 dX12_anHour_15 rfl (lv_at hl 1 rfl) ?_
  refine lv_aload_n C.1.1 C.1.2.1 dX12_anHour_16 rfl (lv_at hl 0 rfl) ?_
  refine m_g5 C X dX12_anHour_17 ?_
  refine lv_iconst (v := 0) C.1.1 C.1.2.1 dX12_anHour_20 (by decide) ?_
  refine m_r5 C X (j := 0) (inb_vp (by decide)) (by decide) dX12_anHour_21 ?_
  refine lv_icmp_ge (tgt := 80) C.1.1 C.1.2.1 dX12_anHour_22 (by decide) (fun h_z => ?_) (fun h_z => ?_)
  · rw [if_pos h_z] at hF
    exact bX12_anHour_80 C O X (lv_sub hl [0] rfl) hF
  · rw [if_neg h_z] at hF
    exact bX12_anHour_25 C O K15 X (lv_sub hl [0, 1] rfl) hF
noncomputable def fX12_anHour_h15 (N : Nat) : Nat → Int32 → gS → Option (Int32 × gS)
  | 0, _, _ => none
  | n + 1, x1, S => fX12_anHour_b15 N (fX12_anHour_h15 N n) x1 S
theorem hX12_anHour_15 {N : Nat} {o : Int32 × gS} (C : gC p s m args meth c cX12_anHour 4 RX12 none D (mtys cI cS) mord g Am) (O : gO (mcell g cI cS sa) mord g) : ∀ (n : Nat) (x1 : Int32) (S : gS) (H : Heap) (locs : List Loc) (ls : Array Slot), gX D (mcell g cI cS sa) mord g S s H locs → lv_has ls 4 [(0, .ref (g 99)), (1, .int x1)] → fX12_anHour_h15 N n x1 S = some o → W p l e (rmd 5) s m args below meth c H locs 0 0 (gE below args s D (mtys cI cS) (mcell g cI cS sa) mord g none o.2) (F0 m 15 ls []) := by
  intro n
  induction n with
  | zero =>
    intro x1 S H locs ls X hl hF
    exact absurd (show (none : Option (Int32 × gS)) = some o from hF) (by simp)
  | succ n ih =>
    intro x1 S H locs ls X hl hF
    have hF : fX12_anHour_b15 N (fX12_anHour_h15 N n) x1 S = some o := hF
    exact bX12_anHour_15 C O ih X hl hF
noncomputable def fX12_anHour_b0 (N : Nat) (S : gS) : Option (Int32 × gS) := bnd (fX12_drippingNow N  S) fun q1 => (lt (sU q1.2 99 44 q1.1) fun S2 => (lt (sU S2 99 45 0) fun S3 => (fX12_anHour_h15 N N 0 S3)))
theorem bX12_anHour_0 {N : Nat} {S : gS} {H : Heap} {locs : List Loc} {ls : Array Slot} {o : Int32 × gS} (C : gC p s m args meth c cX12_anHour 4 RX12 none D (mtys cI cS) mord g Am) (O : gO (mcell g cI cS sa) mord g) (X : gX D (mcell g cI cS sa) mord g S s H locs) (hl : lv_has ls 4 [(0, .ref (g 99))]) (hF : fX12_anHour_b0 N S = some o) : W p l e (rmd 5) s m args below meth c H locs 0 0 (gE below args s D (mtys cI cS) (mcell g cI cS sa) mord g none o.2) (F0 m 0 ls []) := by
  unfold fX12_anHour_b0 at hF
  refine lv_aload_n C.1.1 C.1.2.1 dX12_anHour_0 rfl (lv_at hl 0 rfl) ?_
  refine lv_aload_n C.1.1 C.1.2.1 dX12_anHour_1 rfl (lv_at hl 0 rfl) ?_
  obtain ⟨q1, hq1, hF⟩ := bnd_some hF
  refine m_callVi C X vX12_drippingNow rfl (kX12_drippingNow O C.2.2.2.2.1 N   S q1 hq1) (Nat.le_of_ble_eq_true rfl) (Nat.le_of_ble_eq_true rfl) (Nat.le_of_ble_eq_true rfl) (Nat.le_of_ble_eq_true rfl) rfl hl.1 rfl (Nat.le_of_ble_eq_true rfl) dX12_anHour_2 (fun H locs X => ?_)
  obtain ⟨S2, eS2, hF⟩ := lt_some hF
  refine m_p44 C O X eS2 dX12_anHour_5 (fun H locs X => ?_)
  refine lv_aload_n C.1.1 C.1.2.1 dX12_anHour_8 rfl (lv_at hl 0 rfl) ?_
  refine lv_iconst (v := 0) C.1.1 C.1.2.1 dX12_anHour_9 (by decide) ?_
  obtain ⟨S3, eS3, hF⟩ := lt_some hF
  refine m_p45 C O X eS3 dX12_anHour_10 (fun H locs X => ?_)
  refine lv_iconst (v := 0) C.1.1 C.1.2.1 dX12_anHour_13 (by decide) ?_
  refine lv_istore_n (lv' := [(1, .int 0), (0, .ref (g 99))]) C.1.1 C.1.2.1 dX12_anHour_14 rfl hl (by decide) rfl (fun ls hl => ?_)
  exact hX12_anHour_15 C O N _ _ _ _ _ X (lv_sub hl [1, 0] rfl) hF
noncomputable def fX12_anHour (N : Nat) (S : gS) : Option (Int32 × gS) := fX12_anHour_b0 N S
theorem kX12_anHour {l : Launch} {D : va_G} {g : Nat → Nat} {cI cS : ClassId} {sa : Nat → Nat → Option Nat} {Am : (Nat → Prop) → State → Heap → Prop} (O : gO (mcell g cI cS sa) mord g) (P : gAm Am) (N : Nat) (S : gS) (o : Int32 × gS) (hF : fX12_anHour N S = some o) : gM l yX12_anHour cX12_anHour 4 none 5 D (mtys cI cS) (mcell g cI cS sa) mord g Am [.ref (g 99)] S none o.2 :=
  gM_of O P (by decide) (Nat.le_of_ble_eq_true rfl) (fun p e s m args below meth c ls C X hl => bX12_anHour_0 C O X (lv_sub hl [0] rfl) hF)
-- goOn
noncomputable def fX12_goOn_b17 (N : Nat) (S : gS) : Option (Int32 × gS) := some (0, S)
theorem bX12_goOn_17 {N : Nat} {S : gS} {H : Heap} {locs : List Loc} {ls : Array Slot} {o : Int32 × gS} (C : gC p s m args meth c cX12_goOn 3 RX12 none D (mtys cI cS) mord g Am) (O : gO (mcell g cI cS sa) mord g) (X : gX D (mcell g cI cS sa) mord g S s H locs) (hl : lv_has ls 3 []) (hF : fX12_goOn_b17 N S = some o) : W p l e (rmd 6) s m args below meth c H locs 0 0 (gE below args s D (mtys cI cS) (mcell g cI cS sa) mord g none o.2) (F0 m 17 ls []) := by
  unfold fX12_goOn_b17 at hF
  cases hF
  exact g_vret C X dX12_goOn_17
noncomputable def fX12_goOn_b7 (N : Nat) (r2 : Int32 → Int32 → gS → Option (Int32 × gS)) (x1 : Int32) (x2 : Int32) (S : gS) : Option (Int32 × gS) := bnd (fX12_anHour N  S) fun q1 => (r2 x1 ((x2 + 1 : Int32)) q1.2)
theorem bX12_goOn_7 {N : Nat} {r2 : Int32 → Int32 → gS → Option (Int32 × gS)} {x1 : Int32} {x2 : Int32} {S : gS} {H : Heap} {locs : List Loc} {ls : Array Slot} {o : Int32 × gS} (C : gC p s m args meth c cX12_goOn 3 RX12 none D (mtys cI cS) mord g Am) (O : gO (mcell g cI cS sa) mord g) (K2 : ∀ (x1 : Int32) (x2 : Int32) (S : gS) (H : Heap) (locs : List Loc) (ls : Array Slot), gX D (mcell g cI cS sa) mord g S s H locs → lv_has ls 3 [(0, .ref (g 99)), (1, .int x1), (2, .int x2)] → r2 x1 x2 S = some o → W p l e (rmd 6) s m args below meth c H locs 0 0 (gE below args s D (mtys cI cS) (mcell g cI cS sa) mord g none o.2) (F0 m 2 ls [])) (X : gX D (mcell g cI cS sa) mord g S s H locs) (hl : lv_has ls 3 [(0, .ref (g 99)), (1, .int x1), (2, .int x2)]) (hF : fX12_goOn_b7 N r2 x1 x2 S = some o) : W p l e (rmd 6) s m args below meth c H locs 0 0 (gE below args s D (mtys cI cS) (mcell g cI cS sa) mord g none o.2) (F0 m 7 ls []) := by
  unfold fX12_goOn_b7 at hF
  refine lv_aload_n C.1.1 C.1.2.1 dX12_goOn_7 rfl (lv_at hl 0 rfl) ?_
  obtain ⟨q1, hq1, hF⟩ := bnd_some hF
  refine m_callV C X vX12_anHour rfl (kX12_anHour O C.2.2.2.2.1 N   S q1 hq1) (Nat.le_of_ble_eq_true rfl) (Nat.le_of_ble_eq_true rfl) (Nat.le_of_ble_eq_true rfl) (Nat.le_of_ble_eq_true rfl) rfl hl.1 rfl (Nat.le_of_ble_eq_true rfl) dX12_goOn_8 (fun H locs X => ?_)
  refine lv_iinc (v := (x2 + 1 : Int32)) (lv' := [(2, .int ((x2 + 1 : Int32))), (0, .ref (g 99)), (1, .int x1)]) C.1.1 C.1.2.1 dX12_goOn_11 hl (k := 2) rfl rfl (by decide) rfl (fun ls hl => ?_)
  refine lv_goto (tgt := 2) C.1.1 C.1.2.1 dX12_goOn_14 (by decide) ?_
  exact K2 _ _ _ _ _ _ X (lv_sub hl [1, 2, 0] rfl) hF
noncomputable def fX12_goOn_b2 (N : Nat) (r2 : Int32 → Int32 → gS → Option (Int32 × gS)) (x1 : Int32) (x2 : Int32) (S : gS) : Option (Int32 × gS) := if x1 ≤ x2 then fX12_goOn_b17 N S else fX12_goOn_b7 N r2 x1 x2 S
theorem bX12_goOn_2 {N : Nat} {r2 : Int32 → Int32 → gS → Option (Int32 × gS)} {x1 : Int32} {x2 : Int32} {S : gS} {H : Heap} {locs : List Loc} {ls : Array Slot} {o : Int32 × gS} (C : gC p s m args meth c cX12_goOn 3 RX12 none D (mtys cI cS) mord g Am) (O : gO (mcell g cI cS sa) mord g) (K2 : ∀ (x1 : Int32) (x2 : Int32) (S : gS) (H : Heap) (locs : List Loc) (ls : Array Slot), gX D (mcell g cI cS sa) mord g S s H locs → lv_has ls 3 [(0, .ref (g 99)), (1, .int x1), (2, .int x2)] → r2 x1 x2 S = some o → W p l e (rmd 6) s m args below meth c H locs 0 0 (gE below args s D (mtys cI cS) (mcell g cI cS sa) mord g none o.2) (F0 m 2 ls [])) (X : gX D (mcell g cI cS sa) mord g S s H locs) (hl : lv_has ls 3 [(0, .ref (g 99)), (1, .int x1), (2, .int x2)]) (hF : fX12_goOn_b2 N r2 x1 x2 S = some o) : W p l e (rmd 6) s m args below meth c H locs 0 0 (gE below args s D (mtys cI cS) (mcell g cI cS sa) mord g none o.2) (F0 m 2 ls []) := by
  unfold fX12_goOn_b2 at hF
  refine lv_iload_n C.1.1 C.1.2.1 dX12_goOn_2 rfl (lv_at hl 2 rfl) ?_
  refine lv_iload_n C.1.1 C.1.2.1 dX12_goOn_3 rfl (lv_at hl 1 rfl) ?_
  refine lv_icmp_ge (tgt := 17) C.1.1 C.1.2.1 dX12_goOn_4 (by decide) (fun h_z => ?_) (fun h_z => ?_)
  · rw [if_pos h_z] at hF
    exact bX12_goOn_17 C O X (lv_sub hl [] rfl) hF
  · rw [if_neg h_z] at hF
    exact bX12_goOn_7 C O K2 X (lv_sub hl [0, 1, 2] rfl) hF
noncomputable def fX12_goOn_h2 (N : Nat) : Nat → Int32 → Int32 → gS → Option (Int32 × gS)
  | 0, _, _, _ => none
  | n + 1, x1, x2, S => fX12_goOn_b2 N (fX12_goOn_h2 N n) x1 x2 S
theorem hX12_goOn_2 {N : Nat} {o : Int32 × gS} (C : gC p s m args meth c cX12_goOn 3 RX12 none D (mtys cI cS) mord g Am) (O : gO (mcell g cI cS sa) mord g) : ∀ (n : Nat) (x1 : Int32) (x2 : Int32) (S : gS) (H : Heap) (locs : List Loc) (ls : Array Slot), gX D (mcell g cI cS sa) mord g S s H locs → lv_has ls 3 [(0, .ref (g 99)), (1, .int x1), (2, .int x2)] → fX12_goOn_h2 N n x1 x2 S = some o → W p l e (rmd 6) s m args below meth c H locs 0 0 (gE below args s D (mtys cI cS) (mcell g cI cS sa) mord g none o.2) (F0 m 2 ls []) := by
  intro n
  induction n with
  | zero =>
    intro x1 x2 S H locs ls X hl hF
    exact absurd (show (none : Option (Int32 × gS)) = some o from hF) (by simp)
  | succ n ih =>
    intro x1 x2 S H locs ls X hl hF
    have hF : fX12_goOn_b2 N (fX12_goOn_h2 N n) x1 x2 S = some o := hF
    exact bX12_goOn_2 C O ih X hl hF
noncomputable def fX12_goOn_b0 (N : Nat) (x1 : Int32) (S : gS) : Option (Int32 × gS) := fX12_goOn_h2 N N x1 0 S
theorem bX12_goOn_0 {N : Nat} {x1 : Int32} {S : gS} {H : Heap} {locs : List Loc} {ls : Array Slot} {o : Int32 × gS} (C : gC p s m args meth c cX12_goOn 3 RX12 none D (mtys cI cS) mord g Am) (O : gO (mcell g cI cS sa) mord g) (X : gX D (mcell g cI cS sa) mord g S s H locs) (hl : lv_has ls 3 [(0, .ref (g 99)), (1, .int x1)]) (hF : fX12_goOn_b0 N x1 S = some o) : W p l e (rmd 6) s m args below meth c H locs 0 0 (gE below args s D (mtys cI cS) (mcell g cI cS sa) mord g none o.2) (F0 m 0 ls []) := by
  unfold fX12_goOn_b0 at hF
  refine lv_iconst (v := 0) C.1.1 C.1.2.1 dX12_goOn_0 (by decide) ?_
  refine lv_istore_n (lv' := [(2, .int 0), (0, .ref (g 99)), (1, .int x1)]) C.1.1 C.1.2.1 dX12_goOn_1 rfl hl (by decide) rfl (fun ls hl => ?_)
  exact hX12_goOn_2 C O N _ _ _ _ _ _ X (lv_sub hl [1, 2, 0] rfl) hF
noncomputable def fX12_goOn (N : Nat) (x1 : Int32) (S : gS) : Option (Int32 × gS) := fX12_goOn_b0 N x1 S
theorem kX12_goOn {l : Launch} {D : va_G} {g : Nat → Nat} {cI cS : ClassId} {sa : Nat → Nat → Option Nat} {Am : (Nat → Prop) → State → Heap → Prop} (O : gO (mcell g cI cS sa) mord g) (P : gAm Am) (N : Nat) (x1 : Int32) (S : gS) (o : Int32 × gS) (hF : fX12_goOn N x1 S = some o) : gM l yX12_goOn cX12_goOn 3 none 6 D (mtys cI cS) (mcell g cI cS sa) mord g Am [.ref (g 99), .int x1] S none o.2 :=
  gM_of O P (by decide) (Nat.le_of_ble_eq_true rfl) (fun p e s m args below meth c ls C X hl => bX12_goOn_0 C O X (lv_sub hl [0, 1] rfl) hF)
-- sumOf
noncomputable def fX12_sumOf_b26 (N : Nat) (x2 : Int32) (S : gS) : Option (Int32 × gS) := some (x2, S)
theorem bX12_sumOf_26 {N : Nat} {x2 : Int32} {S : gS} {H : Heap} {locs : List Loc} {ls : Array Slot} {o : Int32 × gS} (C : gC p s m args meth c cX12_sumOf 4 RX12 ((some .int)) D (mtys cI cS) mord g Am) (O : gO (mcell g cI cS sa) mord g) (X : gX D (mcell g cI cS sa) mord g S s H locs) (hl : lv_has ls 4 [(2, .int x2)]) (hF : fX12_sumOf_b26 N x2 S = some o) : W p l e (rmd 0) s m args below meth c H locs 0 0 (gE below args s D (mtys cI cS) (mcell g cI cS sa) mord g (some (.int o.1)) o.2) (F0 m 26 ls []) := by
  unfold fX12_sumOf_b26 at hF
  refine lv_iload_n C.1.1 C.1.2.1 dX12_sumOf_26 rfl (lv_at hl 0 rfl) ?_
  cases hF
  exact g_iret C X dX12_sumOf_27
noncomputable def fX12_sumOf_b14 (N : Nat) (r4 : Nat → Int32 → Int32 → gS → Option (Int32 × gS)) (k1 : Nat) (x2 : Int32) (x3 : Int32) (S : gS) : Option (Int32 × gS) := chk (inb x3 (mN k1)) (r4 k1 ((x2 + (S k1 (Int32.toNatClampNeg x3)) : Int32)) ((x3 + 1 : Int32)) S)
theorem bX12_sumOf_14 {N : Nat} {r4 : Nat → Int32 → Int32 → gS → Option (Int32 × gS)} {k1 : Nat} {x2 : Int32} {x3 : Int32} {S : gS} {H : Heap} {locs : List Loc} {ls : Array Slot} {o : Int32 × gS} (C : gC p s m args meth c cX12_sumOf 4 RX12 ((some .int)) D (mtys cI cS) mord g Am) (O : gO (mcell g cI cS sa) mord g) (K4 : ∀ (k1 : Nat) (x2 : Int32) (x3 : Int32) (hk_k1 : mI k1 = true) (S : gS) (H : Heap) (locs : List Loc) (ls : Array Slot), gX D (mcell g cI cS sa) mord g S s H locs → lv_has ls 4 [(0, .ref (g 99)), (1, .ref (g k1)), (2, .int x2), (3, .int x3)] → r4 k1 x2 x3 S = some o → W p l e (rmd 0) s m args below meth c H locs 0 0 (gE below args s D (mtys cI cS) (mcell g cI cS sa) mord g (some (.int o.1)) o.2) (F0 m 4 ls [])) (hk_k1 : mI k1 = true) (X : gX D (mcell g cI cS sa) mord g S s H locs) (hl : lv_has ls 4 [(0, .ref (g 99)), (1, .ref (g k1)), (2, .int x2), (3, .int x3)]) (hF : fX12_sumOf_b14 N r4 k1 x2 x3 S = some o) : W p l e (rmd 0) s m args below meth c H locs 0 0 (gE below args s D (mtys cI cS) (mcell g cI cS sa) mord g (some (.int o.1)) o.2) (F0 m 14 ls []) := by
  unfold fX12_sumOf_b14 at hF
  refine lv_iload_n C.1.1 C.1.2.1 dX12_sumOf_14 rfl (lv_at hl 2 rfl) ?_
  refine lv_aload_n C.1.1 C.1.2.1 dX12_sumOf_15 rfl (lv_at hl 1 rfl) ?_
  refine lv_iload_n C.1.1 C.1.2.1 dX12_sumOf_16 rfl (lv_at hl 3 rfl) ?_
  obtain ⟨h_1, hF⟩ := chk_some hF
  refine m_rv C X (k := k1) hk_k1  (inb_vp h_1) rfl dX12_sumOf_17 ?_
  refine lv_iadd C.1.1 C.1.2.1 dX12_sumOf_18 ?_
  refine lv_istore_n (lv' := [(2, .int ((x2 + (S k1 (Int32.toNatClampNeg x3)) : Int32))), (0, .ref (g 99)), (1, .ref (g k1)), (3, .int x3)]) C.1.1 C.1.2.1 dX12_sumOf_19 rfl hl (by decide) rfl (fun ls hl => ?_)
  refine lv_iinc (v := (x3 + 1 : Int32)) (lv' := [(3, .int ((x3 + 1 : Int32))), (2, .int ((x2 + (S k1 (Int32.toNatClampNeg x3)) : Int32))), (0, .ref (g 99)), (1, .ref (g k1))]) C.1.1 C.1.2.1 dX12_sumOf_20 hl (k := 3) rfl rfl (by decide) rfl (fun ls hl => ?_)
  refine lv_goto (tgt := 4) C.1.1 C.1.2.1 dX12_sumOf_23 (by decide) ?_
  exact K4 _ _ _ hk_k1 _ _ _ _ X (lv_sub hl [2, 3, 1, 0] rfl) hF
noncomputable def fX12_sumOf_b4 (N : Nat) (r4 : Nat → Int32 → Int32 → gS → Option (Int32 × gS)) (k1 : Nat) (x2 : Int32) (x3 : Int32) (S : gS) : Option (Int32 × gS) := if (S 5 1) ≤ x3 then fX12_sumOf_b26 N x2 S else fX12_sumOf_b14 N r4 k1 x2 x3 S
theorem bX12_sumOf_4 {N : Nat} {r4 : Nat → Int32 → Int32 → gS → Option (Int32 × gS)} {k1 : Nat} {x2 : Int32} {x3 : Int32} {S : gS} {H : Heap} {locs : List Loc} {ls : Array Slot} {o : Int32 × gS} (C : gC p s m args meth c cX12_sumOf 4 RX12 ((some .int)) D (mtys cI cS) mord g Am) (O : gO (mcell g cI cS sa) mord g) (K4 : ∀ (k1 : Nat) (x2 : Int32) (x3 : Int32) (hk_k1 : mI k1 = true) (S : gS) (H : Heap) (locs : List Loc) (ls : Array Slot), gX D (mcell g cI cS sa) mord g S s H locs → lv_has ls 4 [(0, .ref (g 99)), (1, .ref (g k1)), (2, .int x2), (3, .int x3)] → r4 k1 x2 x3 S = some o → W p l e (rmd 0) s m args below meth c H locs 0 0 (gE below args s D (mtys cI cS) (mcell g cI cS sa) mord g (some (.int o.1)) o.2) (F0 m 4 ls [])) (hk_k1 : mI k1 = true) (X : gX D (mcell g cI cS sa) mord g S s H locs) (hl : lv_has ls 4 [(0, .ref (g 99)), (1, .ref (g k1)), (2, .int x2), (3, .int x3)]) (hF : fX12_sumOf_b4 N r4 k1 x2 x3 S = some o) : W p l e (rmd 0) s m args below meth c H locs 0 0 (gE below args s D (mtys cI cS) (mcell g cI cS sa) mord g (some (.int o.1)) o.2) (F0 m 4 ls []) := by
  unfold fX12_sumOf_b4 at hF
  refine lv_iload_n C.1.1 C.1.2.1 dX12_sumOf_4 rfl (lv_at hl 3 rfl) ?_
  refine lv_aload_n C.1.1 C.1.2.1 dX12_sumOf_5 rfl (lv_at hl 0 rfl) ?_
  refine m_g5 C X dX12_sumOf_6 ?_
  refine lv_iconst (v := 1) C.1.1 C.1.2.1 dX12_sumOf_9 (by decide) ?_
  refine m_r5 C X (j := 1) (inb_vp (by decide)) (by decide) dX12_sumOf_10 ?_
  refine lv_icmp_ge (tgt := 26) C.1.1 C.1.2.1 dX12_sumOf_11 (by decide) (fun h_z => ?_) (fun h_z => ?_)
  · rw [if_pos h_z] at hF
    exact bX12_sumOf_26 C O X (lv_sub hl [2] rfl) hF
  · rw [if_neg h_z] at hF
    exact bX12_sumOf_14 C O K4 hk_k1 X (lv_sub hl [0, 1, 2, 3] rfl) hF
noncomputable def fX12_sumOf_h4 (N : Nat) : Nat → Nat → Int32 → Int32 → gS → Option (Int32 × gS)
  | 0, _, _, _, _ => none
  | n + 1, k1, x2, x3, S => fX12_sumOf_b4 N (fX12_sumOf_h4 N n) k1 x2 x3 S
theorem hX12_sumOf_4 {N : Nat} {o : Int32 × gS} (C : gC p s m args meth c cX12_sumOf 4 RX12 ((some .int)) D (mtys cI cS) mord g Am) (O : gO (mcell g cI cS sa) mord g) : ∀ (n : Nat) (k1 : Nat) (x2 : Int32) (x3 : Int32) (hk_k1 : mI k1 = true) (S : gS) (H : Heap) (locs : List Loc) (ls : Array Slot), gX D (mcell g cI cS sa) mord g S s H locs → lv_has ls 4 [(0, .ref (g 99)), (1, .ref (g k1)), (2, .int x2), (3, .int x3)] → fX12_sumOf_h4 N n k1 x2 x3 S = some o → W p l e (rmd 0) s m args below meth c H locs 0 0 (gE below args s D (mtys cI cS) (mcell g cI cS sa) mord g (some (.int o.1)) o.2) (F0 m 4 ls []) := by
  intro n
  induction n with
  | zero =>
    intro k1 x2 x3 hk_k1 S H locs ls X hl hF
    exact absurd (show (none : Option (Int32 × gS)) = some o from hF) (by simp)
  | succ n ih =>
    intro k1 x2 x3 hk_k1 S H locs ls X hl hF
    have hF : fX12_sumOf_b4 N (fX12_sumOf_h4 N n) k1 x2 x3 S = some o := hF
    exact bX12_sumOf_4 C O ih hk_k1 X hl hF
noncomputable def fX12_sumOf_b0 (N : Nat) (k1 : Nat) (S : gS) : Option (Int32 × gS) := fX12_sumOf_h4 N N k1 0 0 S
theorem bX12_sumOf_0 {N : Nat} {k1 : Nat} {S : gS} {H : Heap} {locs : List Loc} {ls : Array Slot} {o : Int32 × gS} (C : gC p s m args meth c cX12_sumOf 4 RX12 ((some .int)) D (mtys cI cS) mord g Am) (O : gO (mcell g cI cS sa) mord g) (hk_k1 : mI k1 = true) (X : gX D (mcell g cI cS sa) mord g S s H locs) (hl : lv_has ls 4 [(0, .ref (g 99)), (1, .ref (g k1))]) (hF : fX12_sumOf_b0 N k1 S = some o) : W p l e (rmd 0) s m args below meth c H locs 0 0 (gE below args s D (mtys cI cS) (mcell g cI cS sa) mord g (some (.int o.1)) o.2) (F0 m 0 ls []) := by
  unfold fX12_sumOf_b0 at hF
  refine lv_iconst (v := 0) C.1.1 C.1.2.1 dX12_sumOf_0 (by decide) ?_
  refine lv_istore_n (lv' := [(2, .int 0), (0, .ref (g 99)), (1, .ref (g k1))]) C.1.1 C.1.2.1 dX12_sumOf_1 rfl hl (by decide) rfl (fun ls hl => ?_)
  refine lv_iconst (v := 0) C.1.1 C.1.2.1 dX12_sumOf_2 (by decide) ?_
  refine lv_istore_n (lv' := [(3, .int 0), (2, .int 0), (0, .ref (g 99)), (1, .ref (g k1))]) C.1.1 C.1.2.1 dX12_sumOf_3 rfl hl (by decide) rfl (fun ls hl => ?_)
  exact hX12_sumOf_4 C O N _ _ _ hk_k1 _ _ _ _ X (lv_sub hl [2, 3, 1, 0] rfl) hF
noncomputable def fX12_sumOf (N : Nat) (k1 : Nat) (S : gS) : Option (Int32 × gS) := fX12_sumOf_b0 N k1 S
theorem kX12_sumOf {l : Launch} {D : va_G} {g : Nat → Nat} {cI cS : ClassId} {sa : Nat → Nat → Option Nat} {Am : (Nat → Prop) → State → Heap → Prop} (O : gO (mcell g cI cS sa) mord g) (P : gAm Am) (N : Nat) (k1 : Nat) (hk_k1 : mI k1 = true) (S : gS) (o : Int32 × gS) (hF : fX12_sumOf N k1 S = some o) : gM l yX12_sumOf cX12_sumOf 4 ((some .int)) 0 D (mtys cI cS) (mcell g cI cS sa) mord g Am [.ref (g 99), .ref (g k1)] S (some (.int o.1)) o.2 :=
  gM_of O P (by decide) (Nat.le_of_ble_eq_true rfl) (fun p e s m args below meth c ls C X hl => bX12_sumOf_0 C O hk_k1 X (lv_sub hl [0, 1] rfl) hF)
-- count
noncomputable def fX12_count_b157 (N : Nat) (S : gS) : Option (Int32 × gS) := bnd (fX12_fail N 1 S) fun q1 => (some (q1.1, q1.2))
theorem bX12_count_157 {N : Nat} {S : gS} {H : Heap} {locs : List Loc} {ls : Array Slot} {o : Int32 × gS} (C : gC p s m args meth c cX12_count 2 RX12 ((some .int)) D (mtys cI cS) mord g Am) (O : gO (mcell g cI cS sa) mord g) (X : gX D (mcell g cI cS sa) mord g S s H locs) (hl : lv_has ls 2 [(0, .ref (g 99))]) (hF : fX12_count_b157 N S = some o) : W p l e (rmd 1) s m args below meth c H locs 0 0 (gE below args s D (mtys cI cS) (mcell g cI cS sa) mord g (some (.int o.1)) o.2) (F0 m 157 ls []) := by
  unfold fX12_count_b157 at hF
  refine lv_aload_n C.1.1 C.1.2.1 dX12_count_157 rfl (lv_at hl 0 rfl) ?_
  refine lv_iconst (v := 1) C.1.1 C.1.2.1 dX12_count_158 (by decide) ?_
  obtain ⟨q1, hq1, hF⟩ := bnd_some hF
  refine m_callVi C X vX12_fail rfl (kX12_fail O C.2.2.2.2.1 N 1  S q1 hq1) (Nat.le_of_ble_eq_true rfl) (Nat.le_of_ble_eq_true rfl) (Nat.le_of_ble_eq_true rfl) (Nat.le_of_ble_eq_true rfl) rfl hl.1 rfl (Nat.le_of_ble_eq_true rfl) dX12_count_159 (fun H locs X => ?_)
  cases hF
  exact g_iret C X dX12_count_162
noncomputable def fX12_count_b147 (N : Nat) (x1 : Int32) (S : gS) : Option (Int32 × gS) := chk (inb ((x1 - 12 : Int32)) (3)) (some (S 17 (Int32.toNatClampNeg ((x1 - 12 : Int32))), S))
theorem bX12_count_147 {N : Nat} {x1 : Int32} {S : gS} {H : Heap} {locs : List Loc} {ls : Array Slot} {o : Int32 × gS} (C : gC p s m args meth c cX12_count 2 RX12 ((some .int)) D (mtys cI cS) mord g Am) (O : gO (mcell g cI cS sa) mord g) (X : gX D (mcell g cI cS sa) mord g S s H locs) (hl : lv_has ls 2 [(0, .ref (g 99)), (1, .int x1)]) (hF : fX12_count_b147 N x1 S = some o) : W p l e (rmd 1) s m args below meth c H locs 0 0 (gE below args s D (mtys cI cS) (mcell g cI cS sa) mord g (some (.int o.1)) o.2) (F0 m 147 ls []) := by
  unfold fX12_count_b147 at hF
  refine lv_aload_n C.1.1 C.1.2.1 dX12_count_147 rfl (lv_at hl 0 rfl) ?_
  refine m_g17 C X dX12_count_148 ?_
  refine lv_iload_n C.1.1 C.1.2.1 dX12_count_151 rfl (lv_at hl 1 rfl) ?_
  refine lv_bipush (v := 12) C.1.1 C.1.2.1 dX12_count_152 (by decide) ?_
  refine lv_isub C.1.1 C.1.2.1 dX12_count_154 ?_
  obtain ⟨h_1, hF⟩ := chk_some hF
  refine m_r17 C X  (inb_vp h_1) rfl dX12_count_155 ?_
  cases hF
  exact g_iret C X dX12_count_156
noncomputable def fX12_count_b142 (N : Nat) (S : gS) : Option (Int32 × gS) := some (S 99 20, S)
theorem bX12_count_142 {N : Nat} {S : gS} {H : Heap} {locs : List Loc} {ls : Array Slot} {o : Int32 × gS} (C : gC p s m args meth c cX12_count 2 RX12 ((some .int)) D (mtys cI cS) mord g Am) (O : gO (mcell g cI cS sa) mord g) (X : gX D (mcell g cI cS sa) mord g S s H locs) (hl : lv_has ls 2 [(0, .ref (g 99))]) (hF : fX12_count_b142 N S = some o) : W p l e (rmd 1) s m args below meth c H locs 0 0 (gE below args s D (mtys cI cS) (mcell g cI cS sa) mord g (some (.int o.1)) o.2) (F0 m 142 ls []) := by
  unfold fX12_count_b142 at hF
  refine lv_aload_n C.1.1 C.1.2.1 dX12_count_142 rfl (lv_at hl 0 rfl) ?_
  refine m_g20 C X dX12_count_143 ?_
  cases hF
  exact g_iret C X dX12_count_146
noncomputable def fX12_count_b137 (N : Nat) (S : gS) : Option (Int32 × gS) := some (S 99 40, S)
theorem bX12_count_137 {N : Nat} {S : gS} {H : Heap} {locs : List Loc} {ls : Array Slot} {o : Int32 × gS} (C : gC p s m args meth c cX12_count 2 RX12 ((some .int)) D (mtys cI cS) mord g Am) (O : gO (mcell g cI cS sa) mord g) (X : gX D (mcell g cI cS sa) mord g S s H locs) (hl : lv_has ls 2 [(0, .ref (g 99))]) (hF : fX12_count_b137 N S = some o) : W p l e (rmd 1) s m args below meth c H locs 0 0 (gE below args s D (mtys cI cS) (mcell g cI cS sa) mord g (some (.int o.1)) o.2) (F0 m 137 ls []) := by
  unfold fX12_count_b137 at hF
  refine lv_aload_n C.1.1 C.1.2.1 dX12_count_137 rfl (lv_at hl 0 rfl) ?_
  refine m_g40 C X dX12_count_138 ?_
  cases hF
  exact g_iret C X dX12_count_141
noncomputable def fX12_count_b132 (N : Nat) (S : gS) : Option (Int32 × gS) := some (S 99 39, S)
theorem bX12_count_132 {N : Nat} {S : gS} {H : Heap} {locs : List Loc} {ls : Array Slot} {o : Int32 × gS} (C : gC p s m args meth c cX12_count 2 RX12 ((some .int)) D (mtys cI cS) mord g Am) (O : gO (mcell g cI cS sa) mord g) (X : gX D (mcell g cI cS sa) mord g S s H locs) (hl : lv_has ls 2 [(0, .ref (g 99))]) (hF : fX12_count_b132 N S = some o) : W p l e (rmd 1) s m args below meth c H locs 0 0 (gE below args s D (mtys cI cS) (mcell g cI cS sa) mord g (some (.int o.1)) o.2) (F0 m 132 ls []) := by
  unfold fX12_count_b132 at hF
  refine lv_aload_n C.1.1 C.1.2.1 dX12_count_132 rfl (lv_at hl 0 rfl) ?_
  refine m_g39 C X dX12_count_133 ?_
  cases hF
  exact g_iret C X dX12_count_136
noncomputable def fX12_count_b123 (N : Nat) (S : gS) : Option (Int32 × gS) := bnd (fX12_sumOf N 32 S) fun q1 => (some (q1.1, q1.2))
theorem bX12_count_123 {N : Nat} {S : gS} {H : Heap} {locs : List Loc} {ls : Array Slot} {o : Int32 × gS} (C : gC p s m args meth c cX12_count 2 RX12 ((some .int)) D (mtys cI cS) mord g Am) (O : gO (mcell g cI cS sa) mord g) (X : gX D (mcell g cI cS sa) mord g S s H locs) (hl : lv_has ls 2 [(0, .ref (g 99))]) (hF : fX12_count_b123 N S = some o) : W p l e (rmd 1) s m args below meth c H locs 0 0 (gE below args s D (mtys cI cS) (mcell g cI cS sa) mord g (some (.int o.1)) o.2) (F0 m 123 ls []) := by
  unfold fX12_count_b123 at hF
  refine lv_aload_n C.1.1 C.1.2.1 dX12_count_123 rfl (lv_at hl 0 rfl) ?_
  refine lv_aload_n C.1.1 C.1.2.1 dX12_count_124 rfl (lv_at hl 0 rfl) ?_
  refine m_g32 C X dX12_count_125 ?_
  obtain ⟨q1, hq1, hF⟩ := bnd_some hF
  refine m_callVi C X vX12_sumOf rfl (kX12_sumOf O C.2.2.2.2.1 N 32 (rfl : mI 32 = true) S q1 hq1) (Nat.le_of_ble_eq_true rfl) (Nat.le_of_ble_eq_true rfl) (Nat.le_of_ble_eq_true rfl) (Nat.le_of_ble_eq_true rfl) rfl hl.1 rfl (Nat.le_of_ble_eq_true rfl) dX12_count_128 (fun H locs X => ?_)
  cases hF
  exact g_iret C X dX12_count_131
noncomputable def fX12_count_b114 (N : Nat) (S : gS) : Option (Int32 × gS) := bnd (fX12_sumOf N 33 S) fun q1 => (some (q1.1, q1.2))
theorem bX12_count_114 {N : Nat} {S : gS} {H : Heap} {locs : List Loc} {ls : Array Slot} {o : Int32 × gS} (C : gC p s m args meth c cX12_count 2 RX12 ((some .int)) D (mtys cI cS) mord g Am) (O : gO (mcell g cI cS sa) mord g) (X : gX D (mcell g cI cS sa) mord g S s H locs) (hl : lv_has ls 2 [(0, .ref (g 99))]) (hF : fX12_count_b114 N S = some o) : W p l e (rmd 1) s m args below meth c H locs 0 0 (gE below args s D (mtys cI cS) (mcell g cI cS sa) mord g (some (.int o.1)) o.2) (F0 m 114 ls []) := by
  unfold fX12_count_b114 at hF
  refine lv_aload_n C.1.1 C.1.2.1 dX12_count_114 rfl (lv_at hl 0 rfl) ?_
  refine lv_aload_n C.1.1 C.1.2.1 dX12_count_115 rfl (lv_at hl 0 rfl) ?_
  refine m_g33 C X dX12_count_116 ?_
  obtain ⟨q1, hq1, hF⟩ := bnd_some hF
  refine m_callVi C X vX12_sumOf rfl (kX12_sumOf O C.2.2.2.2.1 N 33 (rfl : mI 33 = true) S q1 hq1) (Nat.le_of_ble_eq_true rfl) (Nat.le_of_ble_eq_true rfl) (Nat.le_of_ble_eq_true rfl) (Nat.le_of_ble_eq_true rfl) rfl hl.1 rfl (Nat.le_of_ble_eq_true rfl) dX12_count_119 (fun H locs X => ?_)
  cases hF
  exact g_iret C X dX12_count_122
noncomputable def fX12_count_b109 (N : Nat) (S : gS) : Option (Int32 × gS) := some (S 99 38, S)
theorem bX12_count_109 {N : Nat} {S : gS} {H : Heap} {locs : List Loc} {ls : Array Slot} {o : Int32 × gS} (C : gC p s m args meth c cX12_count 2 RX12 ((some .int)) D (mtys cI cS) mord g Am) (O : gO (mcell g cI cS sa) mord g) (X : gX D (mcell g cI cS sa) mord g S s H locs) (hl : lv_has ls 2 [(0, .ref (g 99))]) (hF : fX12_count_b109 N S = some o) : W p l e (rmd 1) s m args below meth c H locs 0 0 (gE below args s D (mtys cI cS) (mcell g cI cS sa) mord g (some (.int o.1)) o.2) (F0 m 109 ls []) := by
  unfold fX12_count_b109 at hF
  refine lv_aload_n C.1.1 C.1.2.1 dX12_count_109 rfl (lv_at hl 0 rfl) ?_
  refine m_g38 C X dX12_count_110 ?_
  cases hF
  exact g_iret C X dX12_count_113
noncomputable def fX12_count_b104 (N : Nat) (S : gS) : Option (Int32 × gS) := bnd (fX12_hiredNow N  S) fun q1 => (some (q1.1, q1.2))
theorem bX12_count_104 {N : Nat} {S : gS} {H : Heap} {locs : List Loc} {ls : Array Slot} {o : Int32 × gS} (C : gC p s m args meth c cX12_count 2 RX12 ((some .int)) D (mtys cI cS) mord g Am) (O : gO (mcell g cI cS sa) mord g) (X : gX D (mcell g cI cS sa) mord g S s H locs) (hl : lv_has ls 2 [(0, .ref (g 99))]) (hF : fX12_count_b104 N S = some o) : W p l e (rmd 1) s m args below meth c H locs 0 0 (gE below args s D (mtys cI cS) (mcell g cI cS sa) mord g (some (.int o.1)) o.2) (F0 m 104 ls []) := by
  unfold fX12_count_b104 at hF
  refine lv_aload_n C.1.1 C.1.2.1 dX12_count_104 rfl (lv_at hl 0 rfl) ?_
  obtain ⟨q1, hq1, hF⟩ := bnd_some hF
  refine m_callVi C X vX12_hiredNow rfl (kX12_hiredNow O C.2.2.2.2.1 N   S q1 hq1) (Nat.le_of_ble_eq_true rfl) (Nat.le_of_ble_eq_true rfl) (Nat.le_of_ble_eq_true rfl) (Nat.le_of_ble_eq_true rfl) rfl hl.1 rfl (Nat.le_of_ble_eq_true rfl) dX12_count_105 (fun H locs X => ?_)
  cases hF
  exact g_iret C X dX12_count_108
noncomputable def fX12_count_b97 (N : Nat) (S : gS) : Option (Int32 × gS) := some (S 5 2, S)
theorem bX12_count_97 {N : Nat} {S : gS} {H : Heap} {locs : List Loc} {ls : Array Slot} {o : Int32 × gS} (C : gC p s m args meth c cX12_count 2 RX12 ((some .int)) D (mtys cI cS) mord g Am) (O : gO (mcell g cI cS sa) mord g) (X : gX D (mcell g cI cS sa) mord g S s H locs) (hl : lv_has ls 2 [(0, .ref (g 99))]) (hF : fX12_count_b97 N S = some o) : W p l e (rmd 1) s m args below meth c H locs 0 0 (gE below args s D (mtys cI cS) (mcell g cI cS sa) mord g (some (.int o.1)) o.2) (F0 m 97 ls []) := by
  unfold fX12_count_b97 at hF
  refine lv_aload_n C.1.1 C.1.2.1 dX12_count_97 rfl (lv_at hl 0 rfl) ?_
  refine m_g5 C X dX12_count_98 ?_
  refine lv_iconst (v := 2) C.1.1 C.1.2.1 dX12_count_101 (by decide) ?_
  refine m_r5 C X (j := 2) (inb_vp (by decide)) (by decide) dX12_count_102 ?_
  cases hF
  exact g_iret C X dX12_count_103
noncomputable def fX12_count_b92 (N : Nat) (S : gS) : Option (Int32 × gS) := bnd (fX12_wetOf N  S) fun q1 => (some (q1.1, q1.2))
theorem bX12_count_92 {N : Nat} {S : gS} {H : Heap} {locs : List Loc} {ls : Array Slot} {o : Int32 × gS} (C : gC p s m args meth c cX12_count 2 RX12 ((some .int)) D (mtys cI cS) mord g Am) (O : gO (mcell g cI cS sa) mord g) (X : gX D (mcell g cI cS sa) mord g S s H locs) (hl : lv_has ls 2 [(0, .ref (g 99))]) (hF : fX12_count_b92 N S = some o) : W p l e (rmd 1) s m args below meth c H locs 0 0 (gE below args s D (mtys cI cS) (mcell g cI cS sa) mord g (some (.int o.1)) o.2) (F0 m 92 ls []) := by
  unfold fX12_count_b92 at hF
  refine lv_aload_n C.1.1 C.1.2.1 dX12_count_92 rfl (lv_at hl 0 rfl) ?_
  obtain ⟨q1, hq1, hF⟩ := bnd_some hF
  refine m_callVi C X vX12_wetOf rfl (kX12_wetOf O C.2.2.2.2.1 N   S q1 hq1) (Nat.le_of_ble_eq_true rfl) (Nat.le_of_ble_eq_true rfl) (Nat.le_of_ble_eq_true rfl) (Nat.le_of_ble_eq_true rfl) rfl hl.1 rfl (Nat.le_of_ble_eq_true rfl) dX12_count_93 (fun H locs X => ?_)
  cases hF
  exact g_iret C X dX12_count_96
noncomputable def fX12_count_b87 (N : Nat) (S : gS) : Option (Int32 × gS) := some (S 99 37, S)
theorem bX12_count_87 {N : Nat} {S : gS} {H : Heap} {locs : List Loc} {ls : Array Slot} {o : Int32 × gS} (C : gC p s m args meth c cX12_count 2 RX12 ((some .int)) D (mtys cI cS) mord g Am) (O : gO (mcell g cI cS sa) mord g) (X : gX D (mcell g cI cS sa) mord g S s H locs) (hl : lv_has ls 2 [(0, .ref (g 99))]) (hF : fX12_count_b87 N S = some o) : W p l e (rmd 1) s m args below meth c H locs 0 0 (gE below args s D (mtys cI cS) (mcell g cI cS sa) mord g (some (.int o.1)) o.2) (F0 m 87 ls []) := by
  unfold fX12_count_b87 at hF
  refine lv_aload_n C.1.1 C.1.2.1 dX12_count_87 rfl (lv_at hl 0 rfl) ?_
  refine m_g37 C X dX12_count_88 ?_
  cases hF
  exact g_iret C X dX12_count_91
noncomputable def fX12_count_b80 (N : Nat) (x1 : Int32) (S : gS) : Option (Int32 × gS) := chk (inb x1 (12)) (some (S 5 (Int32.toNatClampNeg x1), S))
theorem bX12_count_80 {N : Nat} {x1 : Int32} {S : gS} {H : Heap} {locs : List Loc} {ls : Array Slot} {o : Int32 × gS} (C : gC p s m args meth c cX12_count 2 RX12 ((some .int)) D (mtys cI cS) mord g Am) (O : gO (mcell g cI cS sa) mord g) (X : gX D (mcell g cI cS sa) mord g S s H locs) (hl : lv_has ls 2 [(0, .ref (g 99)), (1, .int x1)]) (hF : fX12_count_b80 N x1 S = some o) : W p l e (rmd 1) s m args below meth c H locs 0 0 (gE below args s D (mtys cI cS) (mcell g cI cS sa) mord g (some (.int o.1)) o.2) (F0 m 80 ls []) := by
  unfold fX12_count_b80 at hF
  refine lv_aload_n C.1.1 C.1.2.1 dX12_count_80 rfl (lv_at hl 0 rfl) ?_
  refine m_g5 C X dX12_count_81 ?_
  refine lv_iload_n C.1.1 C.1.2.1 dX12_count_84 rfl (lv_at hl 1 rfl) ?_
  obtain ⟨h_1, hF⟩ := chk_some hF
  refine m_r5 C X  (inb_vp h_1) rfl dX12_count_85 ?_
  cases hF
  exact g_iret C X dX12_count_86
noncomputable def fX12_count_b0 (N : Nat) (x1 : Int32) (S : gS) : Option (Int32 × gS) := lt (sU S 99 4 0) fun S1 => (if x1 = 0 then fX12_count_b80 N x1 S1 else if x1 = 1 then fX12_count_b80 N x1 S1 else if x1 = 2 then fX12_count_b87 N S1 else if x1 = 3 then fX12_count_b92 N S1 else if x1 = 4 then fX12_count_b97 N S1 else if x1 = 5 then fX12_count_b104 N S1 else if x1 = 6 then fX12_count_b109 N S1 else if x1 = 7 then fX12_count_b114 N S1 else if x1 = 8 then fX12_count_b123 N S1 else if x1 = 9 then fX12_count_b132 N S1 else if x1 = 10 then fX12_count_b137 N S1 else if x1 = 11 then fX12_count_b142 N S1 else if x1 = 12 then fX12_count_b147 N x1 S1 else if x1 = 13 then fX12_count_b147 N x1 S1 else if x1 = 14 then fX12_count_b147 N x1 S1 else fX12_count_b157 N S1)
theorem bX12_count_0 {N : Nat} {x1 : Int32} {S : gS} {H : Heap} {locs : List Loc} {ls : Array Slot} {o : Int32 × gS} (C : gC p s m args meth c cX12_count 2 RX12 ((some .int)) D (mtys cI cS) mord g Am) (O : gO (mcell g cI cS sa) mord g) (X : gX D (mcell g cI cS sa) mord g S s H locs) (hl : lv_has ls 2 [(0, .ref (g 99)), (1, .int x1)]) (hF : fX12_count_b0 N x1 S = some o) : W p l e (rmd 1) s m args below meth c H locs 0 0 (gE below args s D (mtys cI cS) (mcell g cI cS sa) mord g (some (.int o.1)) o.2) (F0 m 0 ls []) := by
  unfold fX12_count_b0 at hF
  refine lv_aload_n C.1.1 C.1.2.1 dX12_count_0 rfl (lv_at hl 0 rfl) ?_
  refine lv_iconst (v := 0) C.1.1 C.1.2.1 dX12_count_1 (by decide) ?_
  obtain ⟨S1, eS1, hF⟩ := lt_some hF
  refine m_p4 C O X eS1 dX12_count_2 (fun H locs X => ?_)
  refine lv_iload_n C.1.1 C.1.2.1 dX12_count_5 rfl (lv_at hl 1 rfl) ?_
  by_cases hz_0 : x1 = 0
  · rw [if_pos hz_0] at hF
    refine lv_tableIn (off := 74) (tgt := 80) C.1.1 C.1.2.1 dX12_count_6 (by rw [hz_0]; decide) (by rw [hz_0]; decide) (by rw [hz_0]; decide) (by decide) ?_
    exact bX12_count_80 C O X (lv_sub hl [0, 1] rfl) hF
  rw [if_neg hz_0] at hF
  by_cases hz_1 : x1 = 1
  · rw [if_pos hz_1] at hF
    refine lv_tableIn (off := 74) (tgt := 80) C.1.1 C.1.2.1 dX12_count_6 (by rw [hz_1]; decide) (by rw [hz_1]; decide) (by rw [hz_1]; decide) (by decide) ?_
    exact bX12_count_80 C O X (lv_sub hl [0, 1] rfl) hF
  rw [if_neg hz_1] at hF
  by_cases hz_2 : x1 = 2
  · rw [if_pos hz_2] at hF
    refine lv_tableIn (off := 81) (tgt := 87) C.1.1 C.1.2.1 dX12_count_6 (by rw [hz_2]; decide) (by rw [hz_2]; decide) (by rw [hz_2]; decide) (by decide) ?_
    exact bX12_count_87 C O X (lv_sub hl [0] rfl) hF
  rw [if_neg hz_2] at hF
  by_cases hz_3 : x1 = 3
  · rw [if_pos hz_3] at hF
    refine lv_tableIn (off := 86) (tgt := 92) C.1.1 C.1.2.1 dX12_count_6 (by rw [hz_3]; decide) (by rw [hz_3]; decide) (by rw [hz_3]; decide) (by decide) ?_
    exact bX12_count_92 C O X (lv_sub hl [0] rfl) hF
  rw [if_neg hz_3] at hF
  by_cases hz_4 : x1 = 4
  · rw [if_pos hz_4] at hF
    refine lv_tableIn (off := 91) (tgt := 97) C.1.1 C.1.2.1 dX12_count_6 (by rw [hz_4]; decide) (by rw [hz_4]; decide) (by rw [hz_4]; decide) (by decide) ?_
    exact bX12_count_97 C O X (lv_sub hl [0] rfl) hF
  rw [if_neg hz_4] at hF
  by_cases hz_5 : x1 = 5
  · rw [if_pos hz_5] at hF
    refine lv_tableIn (off := 98) (tgt := 104) C.1.1 C.1.2.1 dX12_count_6 (by rw [hz_5]; decide) (by rw [hz_5]; decide) (by rw [hz_5]; decide) (by decide) ?_
    exact bX12_count_104 C O X (lv_sub hl [0] rfl) hF
  rw [if_neg hz_5] at hF
  by_cases hz_6 : x1 = 6
  · rw [if_pos hz_6] at hF
    refine lv_tableIn (off := 103) (tgt := 109) C.1.1 C.1.2.1 dX12_count_6 (by rw [hz_6]; decide) (by rw [hz_6]; decide) (by rw [hz_6]; decide) (by decide) ?_
    exact bX12_count_109 C O X (lv_sub hl [0] rfl) hF
  rw [if_neg hz_6] at hF
  by_cases hz_7 : x1 = 7
  · rw [if_pos hz_7] at hF
    refine lv_tableIn (off := 108) (tgt := 114) C.1.1 C.1.2.1 dX12_count_6 (by rw [hz_7]; decide) (by rw [hz_7]; decide) (by rw [hz_7]; decide) (by decide) ?_
    exact bX12_count_114 C O X (lv_sub hl [0] rfl) hF
  rw [if_neg hz_7] at hF
  by_cases hz_8 : x1 = 8
  · rw [if_pos hz_8] at hF
    refine lv_tableIn (off := 117) (tgt := 123) C.1.1 C.1.2.1 dX12_count_6 (by rw [hz_8]; decide) (by rw [hz_8]; decide) (by rw [hz_8]; decide) (by decide) ?_
    exact bX12_count_123 C O X (lv_sub hl [0] rfl) hF
  rw [if_neg hz_8] at hF
  by_cases hz_9 : x1 = 9
  · rw [if_pos hz_9] at hF
    refine lv_tableIn (off := 126) (tgt := 132) C.1.1 C.1.2.1 dX12_count_6 (by rw [hz_9]; decide) (by rw [hz_9]; decide) (by rw [hz_9]; decide) (by decide) ?_
    exact bX12_count_132 C O X (lv_sub hl [0] rfl) hF
  rw [if_neg hz_9] at hF
  by_cases hz_10 : x1 = 10
  · rw [if_pos hz_10] at hF
    refine lv_tableIn (off := 131) (tgt := 137) C.1.1 C.1.2.1 dX12_count_6 (by rw [hz_10]; decide) (by rw [hz_10]; decide) (by rw [hz_10]; decide) (by decide) ?_
    exact bX12_count_137 C O X (lv_sub hl [0] rfl) hF
  rw [if_neg hz_10] at hF
  by_cases hz_11 : x1 = 11
  · rw [if_pos hz_11] at hF
    refine lv_tableIn (off := 136) (tgt := 142) C.1.1 C.1.2.1 dX12_count_6 (by rw [hz_11]; decide) (by rw [hz_11]; decide) (by rw [hz_11]; decide) (by decide) ?_
    exact bX12_count_142 C O X (lv_sub hl [0] rfl) hF
  rw [if_neg hz_11] at hF
  by_cases hz_12 : x1 = 12
  · rw [if_pos hz_12] at hF
    refine lv_tableIn (off := 141) (tgt := 147) C.1.1 C.1.2.1 dX12_count_6 (by rw [hz_12]; decide) (by rw [hz_12]; decide) (by rw [hz_12]; decide) (by decide) ?_
    exact bX12_count_147 C O X (lv_sub hl [0, 1] rfl) hF
  rw [if_neg hz_12] at hF
  by_cases hz_13 : x1 = 13
  · rw [if_pos hz_13] at hF
    refine lv_tableIn (off := 141) (tgt := 147) C.1.1 C.1.2.1 dX12_count_6 (by rw [hz_13]; decide) (by rw [hz_13]; decide) (by rw [hz_13]; decide) (by decide) ?_
    exact bX12_count_147 C O X (lv_sub hl [0, 1] rfl) hF
  rw [if_neg hz_13] at hF
  by_cases hz_14 : x1 = 14
  · rw [if_pos hz_14] at hF
    refine lv_tableIn (off := 141) (tgt := 147) C.1.1 C.1.2.1 dX12_count_6 (by rw [hz_14]; decide) (by rw [hz_14]; decide) (by rw [hz_14]; decide) (by decide) ?_
    exact bX12_count_147 C O X (lv_sub hl [0, 1] rfl) hF
  rw [if_neg hz_14] at hF
  refine lv_tableOut (tgt := 157) C.1.1 C.1.2.1 dX12_count_6 (g_tsw 0 14 _ ?_) (by decide) ?_
  · intro i hi1 hi2
    rcases (show i = 0 ∨ i = 1 ∨ i = 2 ∨ i = 3 ∨ i = 4 ∨ i = 5 ∨ i = 6 ∨ i = 7 ∨ i = 8 ∨ i = 9 ∨ i = 10 ∨ i = 11 ∨ i = 12 ∨ i = 13 ∨ i = 14 by omega) with rfl | rfl | rfl | rfl | rfl | rfl | rfl | rfl | rfl | rfl | rfl | rfl | rfl | rfl | rfl
    · exact hz_0
    · exact hz_1
    · exact hz_2
    · exact hz_3
    · exact hz_4
    · exact hz_5
    · exact hz_6
    · exact hz_7
    · exact hz_8
    · exact hz_9
    · exact hz_10
    · exact hz_11
    · exact hz_12
    · exact hz_13
    · exact hz_14
  exact bX12_count_157 C O X (lv_sub hl [0] rfl) hF
noncomputable def fX12_count (N : Nat) (x1 : Int32) (S : gS) : Option (Int32 × gS) := fX12_count_b0 N x1 S
theorem kX12_count {l : Launch} {D : va_G} {g : Nat → Nat} {cI cS : ClassId} {sa : Nat → Nat → Option Nat} {Am : (Nat → Prop) → State → Heap → Prop} (O : gO (mcell g cI cS sa) mord g) (P : gAm Am) (N : Nat) (x1 : Int32) (S : gS) (o : Int32 × gS) (hF : fX12_count N x1 S = some o) : gM l yX12_count cX12_count 2 ((some .int)) 1 D (mtys cI cS) (mcell g cI cS sa) mord g Am [.ref (g 99), .int x1] S (some (.int o.1)) o.2 :=
  gM_of O P (by decide) (Nat.le_of_ble_eq_true rfl) (fun p e s m args below meth c ls C X hl => bX12_count_0 C O X (lv_sub hl [0, 1] rfl) hF)
-- nextDrip
noncomputable def fX12_nextDrip_b53 (N : Nat) (x2 : Int32) (S : gS) : Option (Int32 × gS) := bnd (fX12_unpack N 46 0 S) fun q1 => (some (x2, q1.2))
theorem bX12_nextDrip_53 {N : Nat} {x2 : Int32} {S : gS} {H : Heap} {locs : List Loc} {ls : Array Slot} {o : Int32 × gS} (C : gC p s m args meth c cX12_nextDrip 4 RX12 ((some .int)) D (mtys cI cS) mord g Am) (O : gO (mcell g cI cS sa) mord g) (X : gX D (mcell g cI cS sa) mord g S s H locs) (hl : lv_has ls 4 [(0, .ref (g 99)), (2, .int x2)]) (hF : fX12_nextDrip_b53 N x2 S = some o) : W p l e (rmd 2) s m args below meth c H locs 0 0 (gE below args s D (mtys cI cS) (mcell g cI cS sa) mord g (some (.int o.1)) o.2) (F0 m 53 ls []) := by
  unfold fX12_nextDrip_b53 at hF
  refine lv_aload_n C.1.1 C.1.2.1 dX12_nextDrip_53 rfl (lv_at hl 0 rfl) ?_
  refine lv_aload_n C.1.1 C.1.2.1 dX12_nextDrip_54 rfl (lv_at hl 0 rfl) ?_
  refine m_g46 C X dX12_nextDrip_55 ?_
  refine lv_iconst (v := 0) C.1.1 C.1.2.1 dX12_nextDrip_58 (by decide) ?_
  obtain ⟨q1, hq1, hF⟩ := bnd_some hF
  refine m_callV C X vX12_unpack rfl (kX12_unpack O C.2.2.2.2.1 N 46 0 (rfl : mI 46 = true) S q1 hq1) (Nat.le_of_ble_eq_true rfl) (Nat.le_of_ble_eq_true rfl) (Nat.le_of_ble_eq_true rfl) (Nat.le_of_ble_eq_true rfl) rfl hl.1 rfl (Nat.le_of_ble_eq_true rfl) dX12_nextDrip_59 (fun H locs X => ?_)
  refine lv_iload_n C.1.1 C.1.2.1 dX12_nextDrip_62 rfl (lv_at hl 1 rfl) ?_
  cases hF
  exact g_iret C X dX12_nextDrip_63
noncomputable def fX12_nextDrip_b37 (N : Nat) (r13 : Int32 → Int32 → Int32 → gS → Option (Int32 × gS)) (x1 : Int32) (x2 : Int32) (x3 : Int32) (S : gS) : Option (Int32 × gS) := lt (sU S 99 37 (((S 99 37) + 1 : Int32))) fun S1 => (r13 x1 x2 ((x3 + 1 : Int32)) S1)
theorem bX12_nextDrip_37 {N : Nat} {r13 : Int32 → Int32 → Int32 → gS → Option (Int32 × gS)} {x1 : Int32} {x2 : Int32} {x3 : Int32} {S : gS} {H : Heap} {locs : List Loc} {ls : Array Slot} {o : Int32 × gS} (C : gC p s m args meth c cX12_nextDrip 4 RX12 ((some .int)) D (mtys cI cS) mord g Am) (O : gO (mcell g cI cS sa) mord g) (K13 : ∀ (x1 : Int32) (x2 : Int32) (x3 : Int32) (S : gS) (H : Heap) (locs : List Loc) (ls : Array Slot), gX D (mcell g cI cS sa) mord g S s H locs → lv_has ls 4 [(0, .ref (g 99)), (1, .int x1), (2, .int x2), (3, .int x3)] → r13 x1 x2 x3 S = some o → W p l e (rmd 2) s m args below meth c H locs 0 0 (gE below args s D (mtys cI cS) (mcell g cI cS sa) mord g (some (.int o.1)) o.2) (F0 m 13 ls [])) (X : gX D (mcell g cI cS sa) mord g S s H locs) (hl : lv_has ls 4 [(0, .ref (g 99)), (1, .int x1), (2, .int x2), (3, .int x3)]) (hF : fX12_nextDrip_b37 N r13 x1 x2 x3 S = some o) : W p l e (rmd 2) s m args below meth c H locs 0 0 (gE below args s D (mtys cI cS) (mcell g cI cS sa) mord g (some (.int o.1)) o.2) (F0 m 37 ls []) := by
  unfold fX12_nextDrip_b37 at hF
  refine lv_aload_n C.1.1 C.1.2.1 dX12_nextDrip_37 rfl (lv_at hl 0 rfl) ?_
  refine lv_dup C.1.1 C.1.2.1 dX12_nextDrip_38 rfl ?_
  refine m_g37 C X dX12_nextDrip_39 ?_
  refine lv_iconst (v := 1) C.1.1 C.1.2.1 dX12_nextDrip_42 (by decide) ?_
  refine lv_iadd C.1.1 C.1.2.1 dX12_nextDrip_43 ?_
  obtain ⟨S1, eS1, hF⟩ := lt_some hF
  refine m_p37 C O X eS1 dX12_nextDrip_44 (fun H locs X => ?_)
  refine lv_iinc (v := (x3 + 1 : Int32)) (lv' := [(3, .int ((x3 + 1 : Int32))), (0, .ref (g 99)), (1, .int x1), (2, .int x2)]) C.1.1 C.1.2.1 dX12_nextDrip_47 hl (k := 3) rfl rfl (by decide) rfl (fun ls hl => ?_)
  refine lv_goto (tgt := 13) C.1.1 C.1.2.1 dX12_nextDrip_50 (by decide) ?_
  exact K13 _ _ _ _ _ _ _ X (lv_sub hl [1, 2, 3, 0] rfl) hF
noncomputable def fX12_nextDrip_b35 (N : Nat) (r13 : Int32 → Int32 → Int32 → gS → Option (Int32 × gS)) (x1 : Int32) (x3 : Int32) (S : gS) : Option (Int32 × gS) := fX12_nextDrip_b37 N r13 x1 x3 x3 S
theorem bX12_nextDrip_35 {N : Nat} {r13 : Int32 → Int32 → Int32 → gS → Option (Int32 × gS)} {x1 : Int32} {x3 : Int32} {S : gS} {H : Heap} {locs : List Loc} {ls : Array Slot} {o : Int32 × gS} (C : gC p s m args meth c cX12_nextDrip 4 RX12 ((some .int)) D (mtys cI cS) mord g Am) (O : gO (mcell g cI cS sa) mord g) (K13 : ∀ (x1 : Int32) (x2 : Int32) (x3 : Int32) (S : gS) (H : Heap) (locs : List Loc) (ls : Array Slot), gX D (mcell g cI cS sa) mord g S s H locs → lv_has ls 4 [(0, .ref (g 99)), (1, .int x1), (2, .int x2), (3, .int x3)] → r13 x1 x2 x3 S = some o → W p l e (rmd 2) s m args below meth c H locs 0 0 (gE below args s D (mtys cI cS) (mcell g cI cS sa) mord g (some (.int o.1)) o.2) (F0 m 13 ls [])) (X : gX D (mcell g cI cS sa) mord g S s H locs) (hl : lv_has ls 4 [(0, .ref (g 99)), (1, .int x1), (3, .int x3)]) (hF : fX12_nextDrip_b35 N r13 x1 x3 S = some o) : W p l e (rmd 2) s m args below meth c H locs 0 0 (gE below args s D (mtys cI cS) (mcell g cI cS sa) mord g (some (.int o.1)) o.2) (F0 m 35 ls []) := by
  unfold fX12_nextDrip_b35 at hF
  refine lv_iload_n C.1.1 C.1.2.1 dX12_nextDrip_35 rfl (lv_at hl 2 rfl) ?_
  refine lv_istore_n (lv' := [(2, .int x3), (0, .ref (g 99)), (1, .int x1), (3, .int x3)]) C.1.1 C.1.2.1 dX12_nextDrip_36 rfl hl (by decide) rfl (fun ls hl => ?_)
  exact bX12_nextDrip_37 C O K13 X (lv_sub hl [1, 2, 0, 3] rfl) hF
noncomputable def fX12_nextDrip_b24 (N : Nat) (r13 : Int32 → Int32 → Int32 → gS → Option (Int32 × gS)) (x1 : Int32) (x2 : Int32) (x3 : Int32) (S : gS) : Option (Int32 × gS) := bnd (fX12_drippingNow N  S) fun q1 => (bnd (fX12_isOf N q1.1 x1 q1.2) fun q2 => (if q2.1 = 0 then fX12_nextDrip_b37 N r13 x1 x2 x3 q2.2 else fX12_nextDrip_b35 N r13 x1 x3 q2.2))
theorem bX12_nextDrip_24 {N : Nat} {r13 : Int32 → Int32 → Int32 → gS → Option (Int32 × gS)} {x1 : Int32} {x2 : Int32} {x3 : Int32} {S : gS} {H : Heap} {locs : List Loc} {ls : Array Slot} {o : Int32 × gS} (C : gC p s m args meth c cX12_nextDrip 4 RX12 ((some .int)) D (mtys cI cS) mord g Am) (O : gO (mcell g cI cS sa) mord g) (K13 : ∀ (x1 : Int32) (x2 : Int32) (x3 : Int32) (S : gS) (H : Heap) (locs : List Loc) (ls : Array Slot), gX D (mcell g cI cS sa) mord g S s H locs → lv_has ls 4 [(0, .ref (g 99)), (1, .int x1), (2, .int x2), (3, .int x3)] → r13 x1 x2 x3 S = some o → W p l e (rmd 2) s m args below meth c H locs 0 0 (gE below args s D (mtys cI cS) (mcell g cI cS sa) mord g (some (.int o.1)) o.2) (F0 m 13 ls [])) (X : gX D (mcell g cI cS sa) mord g S s H locs) (hl : lv_has ls 4 [(0, .ref (g 99)), (1, .int x1), (2, .int x2), (3, .int x3)]) (hF : fX12_nextDrip_b24 N r13 x1 x2 x3 S = some o) : W p l e (rmd 2) s m args below meth c H locs 0 0 (gE below args s D (mtys cI cS) (mcell g cI cS sa) mord g (some (.int o.1)) o.2) (F0 m 24 ls []) := by
  unfold fX12_nextDrip_b24 at hF
  refine lv_aload_n C.1.1 C.1.2.1 dX12_nextDrip_24 rfl (lv_at hl 0 rfl) ?_
  obtain ⟨q1, hq1, hF⟩ := bnd_some hF
  refine m_callVi C X vX12_drippingNow rfl (kX12_drippingNow O C.2.2.2.2.1 N   S q1 hq1) (Nat.le_of_ble_eq_true rfl) (Nat.le_of_ble_eq_true rfl) (Nat.le_of_ble_eq_true rfl) (Nat.le_of_ble_eq_true rfl) rfl hl.1 rfl (Nat.le_of_ble_eq_true rfl) dX12_nextDrip_25 (fun H locs X => ?_)
  refine lv_iload_n C.1.1 C.1.2.1 dX12_nextDrip_28 rfl (lv_at hl 1 rfl) ?_
  obtain ⟨q2, hq2, hF⟩ := bnd_some hF
  refine g_callSi C X vX12_isOf (kX12_isOf O C.2.2.2.2.1 N q1.1 x1  q1.2 q2 hq2) (Nat.le_of_ble_eq_true rfl) (Nat.le_of_ble_eq_true rfl) (Nat.le_of_ble_eq_true rfl) (Nat.le_of_ble_eq_true rfl) rfl hl.1 rfl (Nat.le_of_ble_eq_true rfl) dX12_nextDrip_29 (fun H locs X => ?_)
  refine lv_if_eq (tgt := 37) C.1.1 C.1.2.1 dX12_nextDrip_32 (by decide) (fun h_z => ?_) (fun h_z => ?_)
  · rw [if_pos h_z] at hF
    exact bX12_nextDrip_37 C O K13 X (lv_sub hl [0, 1, 2, 3] rfl) hF
  · rw [if_neg h_z] at hF
    exact bX12_nextDrip_35 C O K13 X (lv_sub hl [0, 1, 3] rfl) hF
noncomputable def fX12_nextDrip_b19 (N : Nat) (r13 : Int32 → Int32 → Int32 → gS → Option (Int32 × gS)) (x1 : Int32) (x2 : Int32) (x3 : Int32) (S : gS) : Option (Int32 × gS) := if x2 = ((-1)) then fX12_nextDrip_b24 N r13 x1 x2 x3 S else fX12_nextDrip_b53 N x2 S
theorem bX12_nextDrip_19 {N : Nat} {r13 : Int32 → Int32 → Int32 → gS → Option (Int32 × gS)} {x1 : Int32} {x2 : Int32} {x3 : Int32} {S : gS} {H : Heap} {locs : List Loc} {ls : Array Slot} {o : Int32 × gS} (C : gC p s m args meth c cX12_nextDrip 4 RX12 ((some .int)) D (mtys cI cS) mord g Am) (O : gO (mcell g cI cS sa) mord g) (K13 : ∀ (x1 : Int32) (x2 : Int32) (x3 : Int32) (S : gS) (H : Heap) (locs : List Loc) (ls : Array Slot), gX D (mcell g cI cS sa) mord g S s H locs → lv_has ls 4 [(0, .ref (g 99)), (1, .int x1), (2, .int x2), (3, .int x3)] → r13 x1 x2 x3 S = some o → W p l e (rmd 2) s m args below meth c H locs 0 0 (gE below args s D (mtys cI cS) (mcell g cI cS sa) mord g (some (.int o.1)) o.2) (F0 m 13 ls [])) (X : gX D (mcell g cI cS sa) mord g S s H locs) (hl : lv_has ls 4 [(0, .ref (g 99)), (1, .int x1), (2, .int x2), (3, .int x3)]) (hF : fX12_nextDrip_b19 N r13 x1 x2 x3 S = some o) : W p l e (rmd 2) s m args below meth c H locs 0 0 (gE below args s D (mtys cI cS) (mcell g cI cS sa) mord g (some (.int o.1)) o.2) (F0 m 19 ls []) := by
  unfold fX12_nextDrip_b19 at hF
  refine lv_iload_n C.1.1 C.1.2.1 dX12_nextDrip_19 rfl (lv_at hl 2 rfl) ?_
  refine lv_iconst (v := (-1)) C.1.1 C.1.2.1 dX12_nextDrip_20 (by decide) ?_
  refine lv_icmp_ne (tgt := 53) C.1.1 C.1.2.1 dX12_nextDrip_21 (by decide) (fun h_z => ?_) (fun h_z => ?_)
  · rw [if_neg h_z] at hF
    exact bX12_nextDrip_53 C O X (lv_sub hl [0, 2] rfl) hF
  · rw [if_pos h_z] at hF
    exact bX12_nextDrip_24 C O K13 X (lv_sub hl [0, 1, 2, 3] rfl) hF
noncomputable def fX12_nextDrip_b13 (N : Nat) (r13 : Int32 → Int32 → Int32 → gS → Option (Int32 × gS)) (x1 : Int32) (x2 : Int32) (x3 : Int32) (S : gS) : Option (Int32 × gS) := if 60 < x3 then fX12_nextDrip_b53 N x2 S else fX12_nextDrip_b19 N r13 x1 x2 x3 S
theorem bX12_nextDrip_13 {N : Nat} {r13 : Int32 → Int32 → Int32 → gS → Option (Int32 × gS)} {x1 : Int32} {x2 : Int32} {x3 : Int32} {S : gS} {H : Heap} {locs : List Loc} {ls : Array Slot} {o : Int32 × gS} (C : gC p s m args meth c cX12_nextDrip 4 RX12 ((some .int)) D (mtys cI cS) mord g Am) (O : gO (mcell g cI cS sa) mord g) (K13 : ∀ (x1 : Int32) (x2 : Int32) (x3 : Int32) (S : gS) (H : Heap) (locs : List Loc) (ls : Array Slot), gX D (mcell g cI cS sa) mord g S s H locs → lv_has ls 4 [(0, .ref (g 99)), (1, .int x1), (2, .int x2), (3, .int x3)] → r13 x1 x2 x3 S = some o → W p l e (rmd 2) s m args below meth c H locs 0 0 (gE below args s D (mtys cI cS) (mcell g cI cS sa) mord g (some (.int o.1)) o.2) (F0 m 13 ls [])) (X : gX D (mcell g cI cS sa) mord g S s H locs) (hl : lv_has ls 4 [(0, .ref (g 99)), (1, .int x1), (2, .int x2), (3, .int x3)]) (hF : fX12_nextDrip_b13 N r13 x1 x2 x3 S = some o) : W p l e (rmd 2) s m args below meth c H locs 0 0 (gE below args s D (mtys cI cS) (mcell g cI cS sa) mord g (some (.int o.1)) o.2) (F0 m 13 ls []) := by
  unfold fX12_nextDrip_b13 at hF
  refine lv_iload_n C.1.1 C.1.2.1 dX12_nextDrip_13 rfl (lv_at hl 3 rfl) ?_
  refine lv_bipush (v := 60) C.1.1 C.1.2.1 dX12_nextDrip_14 (by decide) ?_
  refine lv_icmp_gt (tgt := 53) C.1.1 C.1.2.1 dX12_nextDrip_16 (by decide) (fun h_z => ?_) (fun h_z => ?_)
  · rw [if_pos h_z] at hF
    exact bX12_nextDrip_53 C O X (lv_sub hl [0, 2] rfl) hF
  · rw [if_neg h_z] at hF
    exact bX12_nextDrip_19 C O K13 X (lv_sub hl [0, 1, 2, 3] rfl) hF
noncomputable def fX12_nextDrip_h13 (N : Nat) : Nat → Int32 → Int32 → Int32 → gS → Option (Int32 × gS)
  | 0, _, _, _, _ => none
  | n + 1, x1, x2, x3, S => fX12_nextDrip_b13 N (fX12_nextDrip_h13 N n) x1 x2 x3 S
theorem hX12_nextDrip_13 {N : Nat} {o : Int32 × gS} (C : gC p s m args meth c cX12_nextDrip 4 RX12 ((some .int)) D (mtys cI cS) mord g Am) (O : gO (mcell g cI cS sa) mord g) : ∀ (n : Nat) (x1 : Int32) (x2 : Int32) (x3 : Int32) (S : gS) (H : Heap) (locs : List Loc) (ls : Array Slot), gX D (mcell g cI cS sa) mord g S s H locs → lv_has ls 4 [(0, .ref (g 99)), (1, .int x1), (2, .int x2), (3, .int x3)] → fX12_nextDrip_h13 N n x1 x2 x3 S = some o → W p l e (rmd 2) s m args below meth c H locs 0 0 (gE below args s D (mtys cI cS) (mcell g cI cS sa) mord g (some (.int o.1)) o.2) (F0 m 13 ls []) := by
  intro n
  induction n with
  | zero =>
    intro x1 x2 x3 S H locs ls X hl hF
    exact absurd (show (none : Option (Int32 × gS)) = some o from hF) (by simp)
  | succ n ih =>
    intro x1 x2 x3 S H locs ls X hl hF
    have hF : fX12_nextDrip_b13 N (fX12_nextDrip_h13 N n) x1 x2 x3 S = some o := hF
    exact bX12_nextDrip_13 C O ih X hl hF
noncomputable def fX12_nextDrip_b0 (N : Nat) (x1 : Int32) (S : gS) : Option (Int32 × gS) := bnd (fX12_pack N 46 0 S) fun q1 => (fX12_nextDrip_h13 N N x1 ((-1)) 1 q1.2)
theorem bX12_nextDrip_0 {N : Nat} {x1 : Int32} {S : gS} {H : Heap} {locs : List Loc} {ls : Array Slot} {o : Int32 × gS} (C : gC p s m args meth c cX12_nextDrip 4 RX12 ((some .int)) D (mtys cI cS) mord g Am) (O : gO (mcell g cI cS sa) mord g) (X : gX D (mcell g cI cS sa) mord g S s H locs) (hl : lv_has ls 4 [(0, .ref (g 99)), (1, .int x1)]) (hF : fX12_nextDrip_b0 N x1 S = some o) : W p l e (rmd 2) s m args below meth c H locs 0 0 (gE below args s D (mtys cI cS) (mcell g cI cS sa) mord g (some (.int o.1)) o.2) (F0 m 0 ls []) := by
  unfold fX12_nextDrip_b0 at hF
  refine lv_aload_n C.1.1 C.1.2.1 dX12_nextDrip_0 rfl (lv_at hl 0 rfl) ?_
  refine lv_aload_n C.1.1 C.1.2.1 dX12_nextDrip_1 rfl (lv_at hl 0 rfl) ?_
  refine m_g46 C X dX12_nextDrip_2 ?_
  refine lv_iconst (v := 0) C.1.1 C.1.2.1 dX12_nextDrip_5 (by decide) ?_
  obtain ⟨q1, hq1, hF⟩ := bnd_some hF
  refine m_callV C X vX12_pack rfl (kX12_pack O C.2.2.2.2.1 N 46 0 (rfl : mI 46 = true) S q1 hq1) (Nat.le_of_ble_eq_true rfl) (Nat.le_of_ble_eq_true rfl) (Nat.le_of_ble_eq_true rfl) (Nat.le_of_ble_eq_true rfl) rfl hl.1 rfl (Nat.le_of_ble_eq_true rfl) dX12_nextDrip_6 (fun H locs X => ?_)
  refine lv_iconst (v := (-1)) C.1.1 C.1.2.1 dX12_nextDrip_9 (by decide) ?_
  refine lv_istore_n (lv' := [(2, .int ((-1))), (0, .ref (g 99)), (1, .int x1)]) C.1.1 C.1.2.1 dX12_nextDrip_10 rfl hl (by decide) rfl (fun ls hl => ?_)
  refine lv_iconst (v := 1) C.1.1 C.1.2.1 dX12_nextDrip_11 (by decide) ?_
  refine lv_istore_n (lv' := [(3, .int 1), (2, .int ((-1))), (0, .ref (g 99)), (1, .int x1)]) C.1.1 C.1.2.1 dX12_nextDrip_12 rfl hl (by decide) rfl (fun ls hl => ?_)
  exact hX12_nextDrip_13 C O N _ _ _ _ _ _ _ X (lv_sub hl [2, 3, 1, 0] rfl) hF
noncomputable def fX12_nextDrip (N : Nat) (x1 : Int32) (S : gS) : Option (Int32 × gS) := fX12_nextDrip_b0 N x1 S
theorem kX12_nextDrip {l : Launch} {D : va_G} {g : Nat → Nat} {cI cS : ClassId} {sa : Nat → Nat → Option Nat} {Am : (Nat → Prop) → State → Heap → Prop} (O : gO (mcell g cI cS sa) mord g) (P : gAm Am) (N : Nat) (x1 : Int32) (S : gS) (o : Int32 × gS) (hF : fX12_nextDrip N x1 S = some o) : gM l yX12_nextDrip cX12_nextDrip 4 ((some .int)) 2 D (mtys cI cS) (mcell g cI cS sa) mord g Am [.ref (g 99), .int x1] S (some (.int o.1)) o.2 :=
  gM_of O P (by decide) (Nat.le_of_ble_eq_true rfl) (fun p e s m args below meth c ls C X hl => bX12_nextDrip_0 C O X (lv_sub hl [0, 1] rfl) hF)
-- grotto
noncomputable def fX12_grotto_b113 (N : Nat) (S : gS) : Option (Int32 × gS) := bnd (fX12_fail N 1 S) fun q1 => (some (q1.1, q1.2))
theorem bX12_grotto_113 {N : Nat} {S : gS} {H : Heap} {locs : List Loc} {ls : Array Slot} {o : Int32 × gS} (C : gC p s m args meth c cX12_grotto 3 RX12 ((some .int)) D (mtys cI cS) mord g Am) (O : gO (mcell g cI cS sa) mord g) (X : gX D (mcell g cI cS sa) mord g S s H locs) (hl : lv_has ls 3 [(0, .ref (g 99))]) (hF : fX12_grotto_b113 N S = some o) : W p l e (rmd 3) s m args below meth c H locs 0 0 (gE below args s D (mtys cI cS) (mcell g cI cS sa) mord g (some (.int o.1)) o.2) (F0 m 113 ls []) := by
  unfold fX12_grotto_b113 at hF
  refine lv_aload_n C.1.1 C.1.2.1 dX12_grotto_113 rfl (lv_at hl 0 rfl) ?_
  refine lv_iconst (v := 1) C.1.1 C.1.2.1 dX12_grotto_114 (by decide) ?_
  obtain ⟨q1, hq1, hF⟩ := bnd_some hF
  refine m_callVi C X vX12_fail rfl (kX12_fail O C.2.2.2.2.1 N 1  S q1 hq1) (Nat.le_of_ble_eq_true rfl) (Nat.le_of_ble_eq_true rfl) (Nat.le_of_ble_eq_true rfl) (Nat.le_of_ble_eq_true rfl) rfl hl.1 rfl (Nat.le_of_ble_eq_true rfl) dX12_grotto_115 (fun H locs X => ?_)
  cases hF
  exact g_iret C X dX12_grotto_118
noncomputable def fX12_grotto_b107 (N : Nat) (x1 : Int32) (S : gS) : Option (Int32 × gS) := bnd (fX12_nextDrip N x1 S) fun q1 => (some (q1.1, q1.2))
theorem bX12_grotto_107 {N : Nat} {x1 : Int32} {S : gS} {H : Heap} {locs : List Loc} {ls : Array Slot} {o : Int32 × gS} (C : gC p s m args meth c cX12_grotto 3 RX12 ((some .int)) D (mtys cI cS) mord g Am) (O : gO (mcell g cI cS sa) mord g) (X : gX D (mcell g cI cS sa) mord g S s H locs) (hl : lv_has ls 3 [(0, .ref (g 99)), (1, .int x1)]) (hF : fX12_grotto_b107 N x1 S = some o) : W p l e (rmd 3) s m args below meth c H locs 0 0 (gE below args s D (mtys cI cS) (mcell g cI cS sa) mord g (some (.int o.1)) o.2) (F0 m 107 ls []) := by
  unfold fX12_grotto_b107 at hF
  refine lv_aload_n C.1.1 C.1.2.1 dX12_grotto_107 rfl (lv_at hl 0 rfl) ?_
  refine lv_iload_n C.1.1 C.1.2.1 dX12_grotto_108 rfl (lv_at hl 1 rfl) ?_
  obtain ⟨q1, hq1, hF⟩ := bnd_some hF
  refine m_callVi C X vX12_nextDrip rfl (kX12_nextDrip O C.2.2.2.2.1 N x1  S q1 hq1) (Nat.le_of_ble_eq_true rfl) (Nat.le_of_ble_eq_true rfl) (Nat.le_of_ble_eq_true rfl) (Nat.le_of_ble_eq_true rfl) rfl hl.1 rfl (Nat.le_of_ble_eq_true rfl) dX12_grotto_109 (fun H locs X => ?_)
  cases hF
  exact g_iret C X dX12_grotto_112
noncomputable def fX12_grotto_b101 (N : Nat) (x1 : Int32) (S : gS) : Option (Int32 × gS) := bnd (fX12_hirerOf N x1 S) fun q1 => (some (q1.1, q1.2))
theorem bX12_grotto_101 {N : Nat} {x1 : Int32} {S : gS} {H : Heap} {locs : List Loc} {ls : Array Slot} {o : Int32 × gS} (C : gC p s m args meth c cX12_grotto 3 RX12 ((some .int)) D (mtys cI cS) mord g Am) (O : gO (mcell g cI cS sa) mord g) (X : gX D (mcell g cI cS sa) mord g S s H locs) (hl : lv_has ls 3 [(0, .ref (g 99)), (1, .int x1)]) (hF : fX12_grotto_b101 N x1 S = some o) : W p l e (rmd 3) s m args below meth c H locs 0 0 (gE below args s D (mtys cI cS) (mcell g cI cS sa) mord g (some (.int o.1)) o.2) (F0 m 101 ls []) := by
  unfold fX12_grotto_b101 at hF
  refine lv_aload_n C.1.1 C.1.2.1 dX12_grotto_101 rfl (lv_at hl 0 rfl) ?_
  refine lv_iload_n C.1.1 C.1.2.1 dX12_grotto_102 rfl (lv_at hl 1 rfl) ?_
  obtain ⟨q1, hq1, hF⟩ := bnd_some hF
  refine m_callVi C X vX12_hirerOf rfl (kX12_hirerOf O C.2.2.2.2.1 N x1  S q1 hq1) (Nat.le_of_ble_eq_true rfl) (Nat.le_of_ble_eq_true rfl) (Nat.le_of_ble_eq_true rfl) (Nat.le_of_ble_eq_true rfl) rfl hl.1 rfl (Nat.le_of_ble_eq_true rfl) dX12_grotto_103 (fun H locs X => ?_)
  cases hF
  exact g_iret C X dX12_grotto_106
noncomputable def fX12_grotto_b92 (N : Nat) (x1 : Int32) (S : gS) : Option (Int32 × gS) := some (((((S 99 38) >>> (x1 &&& 31) : Int32)) &&& 1 : Int32), S)
theorem bX12_grotto_92 {N : Nat} {x1 : Int32} {S : gS} {H : Heap} {locs : List Loc} {ls : Array Slot} {o : Int32 × gS} (C : gC p s m args meth c cX12_grotto 3 RX12 ((some .int)) D (mtys cI cS) mord g Am) (O : gO (mcell g cI cS sa) mord g) (X : gX D (mcell g cI cS sa) mord g S s H locs) (hl : lv_has ls 3 [(0, .ref (g 99)), (1, .int x1)]) (hF : fX12_grotto_b92 N x1 S = some o) : W p l e (rmd 3) s m args below meth c H locs 0 0 (gE below args s D (mtys cI cS) (mcell g cI cS sa) mord g (some (.int o.1)) o.2) (F0 m 92 ls []) := by
  unfold fX12_grotto_b92 at hF
  refine lv_aload_n C.1.1 C.1.2.1 dX12_grotto_92 rfl (lv_at hl 0 rfl) ?_
  refine m_g38 C X dX12_grotto_93 ?_
  refine lv_iload_n C.1.1 C.1.2.1 dX12_grotto_96 rfl (lv_at hl 1 rfl) ?_
  refine lv_ishr C.1.1 C.1.2.1 dX12_grotto_97 ?_
  refine lv_iconst (v := 1) C.1.1 C.1.2.1 dX12_grotto_98 (by decide) ?_
  refine lv_iand C.1.1 C.1.2.1 dX12_grotto_99 ?_
  cases hF
  exact g_iret C X dX12_grotto_100
noncomputable def fX12_grotto_b85 (N : Nat) (x1 : Int32) (S : gS) : Option (Int32 × gS) := chk (inb x1 (16)) (some (S 6 (Int32.toNatClampNeg x1), S))
theorem bX12_grotto_85 {N : Nat} {x1 : Int32} {S : gS} {H : Heap} {locs : List Loc} {ls : Array Slot} {o : Int32 × gS} (C : gC p s m args meth c cX12_grotto 3 RX12 ((some .int)) D (mtys cI cS) mord g Am) (O : gO (mcell g cI cS sa) mord g) (X : gX D (mcell g cI cS sa) mord g S s H locs) (hl : lv_has ls 3 [(0, .ref (g 99)), (1, .int x1)]) (hF : fX12_grotto_b85 N x1 S = some o) : W p l e (rmd 3) s m args below meth c H locs 0 0 (gE below args s D (mtys cI cS) (mcell g cI cS sa) mord g (some (.int o.1)) o.2) (F0 m 85 ls []) := by
  unfold fX12_grotto_b85 at hF
  refine lv_aload_n C.1.1 C.1.2.1 dX12_grotto_85 rfl (lv_at hl 0 rfl) ?_
  refine m_g6 C X dX12_grotto_86 ?_
  refine lv_iload_n C.1.1 C.1.2.1 dX12_grotto_89 rfl (lv_at hl 1 rfl) ?_
  obtain ⟨h_1, hF⟩ := chk_some hF
  refine m_r6 C X  (inb_vp h_1) rfl dX12_grotto_90 ?_
  cases hF
  exact g_iret C X dX12_grotto_91
noncomputable def fX12_grotto_b78 (N : Nat) (x1 : Int32) (S : gS) : Option (Int32 × gS) := chk (inb x1 (16)) (some (S 9 (Int32.toNatClampNeg x1), S))
theorem bX12_grotto_78 {N : Nat} {x1 : Int32} {S : gS} {H : Heap} {locs : List Loc} {ls : Array Slot} {o : Int32 × gS} (C : gC p s m args meth c cX12_grotto 3 RX12 ((some .int)) D (mtys cI cS) mord g Am) (O : gO (mcell g cI cS sa) mord g) (X : gX D (mcell g cI cS sa) mord g S s H locs) (hl : lv_has ls 3 [(0, .ref (g 99)), (1, .int x1)]) (hF : fX12_grotto_b78 N x1 S = some o) : W p l e (rmd 3) s m args below meth c H locs 0 0 (gE below args s D (mtys cI cS) (mcell g cI cS sa) mord g (some (.int o.1)) o.2) (F0 m 78 ls []) := by
  unfold fX12_grotto_b78 at hF
  refine lv_aload_n C.1.1 C.1.2.1 dX12_grotto_78 rfl (lv_at hl 0 rfl) ?_
  refine m_g9 C X dX12_grotto_79 ?_
  refine lv_iload_n C.1.1 C.1.2.1 dX12_grotto_82 rfl (lv_at hl 1 rfl) ?_
  obtain ⟨h_1, hF⟩ := chk_some hF
  refine m_r9 C X  (inb_vp h_1) rfl dX12_grotto_83 ?_
  cases hF
  exact g_iret C X dX12_grotto_84
noncomputable def fX12_grotto_b71 (N : Nat) (x1 : Int32) (S : gS) : Option (Int32 × gS) := chk (inb x1 (16)) (some (S 8 (Int32.toNatClampNeg x1), S))
theorem bX12_grotto_71 {N : Nat} {x1 : Int32} {S : gS} {H : Heap} {locs : List Loc} {ls : Array Slot} {o : Int32 × gS} (C : gC p s m args meth c cX12_grotto 3 RX12 ((some .int)) D (mtys cI cS) mord g Am) (O : gO (mcell g cI cS sa) mord g) (X : gX D (mcell g cI cS sa) mord g S s H locs) (hl : lv_has ls 3 [(0, .ref (g 99)), (1, .int x1)]) (hF : fX12_grotto_b71 N x1 S = some o) : W p l e (rmd 3) s m args below meth c H locs 0 0 (gE below args s D (mtys cI cS) (mcell g cI cS sa) mord g (some (.int o.1)) o.2) (F0 m 71 ls []) := by
  unfold fX12_grotto_b71 at hF
  refine lv_aload_n C.1.1 C.1.2.1 dX12_grotto_71 rfl (lv_at hl 0 rfl) ?_
  refine m_g8 C X dX12_grotto_72 ?_
  refine lv_iload_n C.1.1 C.1.2.1 dX12_grotto_75 rfl (lv_at hl 1 rfl) ?_
  obtain ⟨h_1, hF⟩ := chk_some hF
  refine m_r8 C X  (inb_vp h_1) rfl dX12_grotto_76 ?_
  cases hF
  exact g_iret C X dX12_grotto_77
noncomputable def fX12_grotto_b64 (N : Nat) (x1 : Int32) (S : gS) : Option (Int32 × gS) := chk (inb x1 (16)) (some (S 7 (Int32.toNatClampNeg x1), S))
theorem bX12_grotto_64 {N : Nat} {x1 : Int32} {S : gS} {H : Heap} {locs : List Loc} {ls : Array Slot} {o : Int32 × gS} (C : gC p s m args meth c cX12_grotto 3 RX12 ((some .int)) D (mtys cI cS) mord g Am) (O : gO (mcell g cI cS sa) mord g) (X : gX D (mcell g cI cS sa) mord g S s H locs) (hl : lv_has ls 3 [(0, .ref (g 99)), (1, .int x1)]) (hF : fX12_grotto_b64 N x1 S = some o) : W p l e (rmd 3) s m args below meth c H locs 0 0 (gE below args s D (mtys cI cS) (mcell g cI cS sa) mord g (some (.int o.1)) o.2) (F0 m 64 ls []) := by
  unfold fX12_grotto_b64 at hF
  refine lv_aload_n C.1.1 C.1.2.1 dX12_grotto_64 rfl (lv_at hl 0 rfl) ?_
  refine m_g7 C X dX12_grotto_65 ?_
  refine lv_iload_n C.1.1 C.1.2.1 dX12_grotto_68 rfl (lv_at hl 1 rfl) ?_
  obtain ⟨h_1, hF⟩ := chk_some hF
  refine m_r7 C X  (inb_vp h_1) rfl dX12_grotto_69 ?_
  cases hF
  exact g_iret C X dX12_grotto_70
noncomputable def fX12_grotto_b19 (N : Nat) (x1 : Int32) (x2 : Int32) (S : gS) : Option (Int32 × gS) := if x2 = 0 then fX12_grotto_b64 N x1 S else if x2 = 1 then fX12_grotto_b71 N x1 S else if x2 = 2 then fX12_grotto_b78 N x1 S else if x2 = 3 then fX12_grotto_b85 N x1 S else if x2 = 4 then fX12_grotto_b92 N x1 S else if x2 = 5 then fX12_grotto_b101 N x1 S else if x2 = 6 then fX12_grotto_b107 N x1 S else fX12_grotto_b113 N S
theorem bX12_grotto_19 {N : Nat} {x1 : Int32} {x2 : Int32} {S : gS} {H : Heap} {locs : List Loc} {ls : Array Slot} {o : Int32 × gS} (C : gC p s m args meth c cX12_grotto 3 RX12 ((some .int)) D (mtys cI cS) mord g Am) (O : gO (mcell g cI cS sa) mord g) (X : gX D (mcell g cI cS sa) mord g S s H locs) (hl : lv_has ls 3 [(0, .ref (g 99)), (1, .int x1), (2, .int x2)]) (hF : fX12_grotto_b19 N x1 x2 S = some o) : W p l e (rmd 3) s m args below meth c H locs 0 0 (gE below args s D (mtys cI cS) (mcell g cI cS sa) mord g (some (.int o.1)) o.2) (F0 m 19 ls []) := by
  unfold fX12_grotto_b19 at hF
  refine lv_iload_n C.1.1 C.1.2.1 dX12_grotto_19 rfl (lv_at hl 2 rfl) ?_
  by_cases hz_0 : x2 = 0
  · rw [if_pos hz_0] at hF
    refine lv_tableIn (off := 44) (tgt := 64) C.1.1 C.1.2.1 dX12_grotto_20 (by rw [hz_0]; decide) (by rw [hz_0]; decide) (by rw [hz_0]; decide) (by decide) ?_
    exact bX12_grotto_64 C O X (lv_sub hl [0, 1] rfl) hF
  rw [if_neg hz_0] at hF
  by_cases hz_1 : x2 = 1
  · rw [if_pos hz_1] at hF
    refine lv_tableIn (off := 51) (tgt := 71) C.1.1 C.1.2.1 dX12_grotto_20 (by rw [hz_1]; decide) (by rw [hz_1]; decide) (by rw [hz_1]; decide) (by decide) ?_
    exact bX12_grotto_71 C O X (lv_sub hl [0, 1] rfl) hF
  rw [if_neg hz_1] at hF
  by_cases hz_2 : x2 = 2
  · rw [if_pos hz_2] at hF
    refine lv_tableIn (off := 58) (tgt := 78) C.1.1 C.1.2.1 dX12_grotto_20 (by rw [hz_2]; decide) (by rw [hz_2]; decide) (by rw [hz_2]; decide) (by decide) ?_
    exact bX12_grotto_78 C O X (lv_sub hl [0, 1] rfl) hF
  rw [if_neg hz_2] at hF
  by_cases hz_3 : x2 = 3
  · rw [if_pos hz_3] at hF
    refine lv_tableIn (off := 65) (tgt := 85) C.1.1 C.1.2.1 dX12_grotto_20 (by rw [hz_3]; decide) (by rw [hz_3]; decide) (by rw [hz_3]; decide) (by decide) ?_
    exact bX12_grotto_85 C O X (lv_sub hl [0, 1] rfl) hF
  rw [if_neg hz_3] at hF
  by_cases hz_4 : x2 = 4
  · rw [if_pos hz_4] at hF
    refine lv_tableIn (off := 72) (tgt := 92) C.1.1 C.1.2.1 dX12_grotto_20 (by rw [hz_4]; decide) (by rw [hz_4]; decide) (by rw [hz_4]; decide) (by decide) ?_
    exact bX12_grotto_92 C O X (lv_sub hl [0, 1] rfl) hF
  rw [if_neg hz_4] at hF
  by_cases hz_5 : x2 = 5
  · rw [if_pos hz_5] at hF
    refine lv_tableIn (off := 81) (tgt := 101) C.1.1 C.1.2.1 dX12_grotto_20 (by rw [hz_5]; decide) (by rw [hz_5]; decide) (by rw [hz_5]; decide) (by decide) ?_
    exact bX12_grotto_101 C O X (lv_sub hl [0, 1] rfl) hF
  rw [if_neg hz_5] at hF
  by_cases hz_6 : x2 = 6
  · rw [if_pos hz_6] at hF
    refine lv_tableIn (off := 87) (tgt := 107) C.1.1 C.1.2.1 dX12_grotto_20 (by rw [hz_6]; decide) (by rw [hz_6]; decide) (by rw [hz_6]; decide) (by decide) ?_
    exact bX12_grotto_107 C O X (lv_sub hl [0, 1] rfl) hF
  rw [if_neg hz_6] at hF
  refine lv_tableOut (tgt := 113) C.1.1 C.1.2.1 dX12_grotto_20 (g_tsw 0 6 _ ?_) (by decide) ?_
  · intro i hi1 hi2
    rcases (show i = 0 ∨ i = 1 ∨ i = 2 ∨ i = 3 ∨ i = 4 ∨ i = 5 ∨ i = 6 by omega) with rfl | rfl | rfl | rfl | rfl | rfl | rfl
    · exact hz_0
    · exact hz_1
    · exact hz_2
    · exact hz_3
    · exact hz_4
    · exact hz_5
    · exact hz_6
  exact bX12_grotto_113 C O X (lv_sub hl [0] rfl) hF
noncomputable def fX12_grotto_b13 (N : Nat) (S : gS) : Option (Int32 × gS) := bnd (fX12_fail N 1 S) fun q1 => (some (q1.1, q1.2))
theorem bX12_grotto_13 {N : Nat} {S : gS} {H : Heap} {locs : List Loc} {ls : Array Slot} {o : Int32 × gS} (C : gC p s m args meth c cX12_grotto 3 RX12 ((some .int)) D (mtys cI cS) mord g Am) (O : gO (mcell g cI cS sa) mord g) (X : gX D (mcell g cI cS sa) mord g S s H locs) (hl : lv_has ls 3 [(0, .ref (g 99))]) (hF : fX12_grotto_b13 N S = some o) : W p l e (rmd 3) s m args below meth c H locs 0 0 (gE below args s D (mtys cI cS) (mcell g cI cS sa) mord g (some (.int o.1)) o.2) (F0 m 13 ls []) := by
  unfold fX12_grotto_b13 at hF
  refine lv_aload_n C.1.1 C.1.2.1 dX12_grotto_13 rfl (lv_at hl 0 rfl) ?_
  refine lv_iconst (v := 1) C.1.1 C.1.2.1 dX12_grotto_14 (by decide) ?_
  obtain ⟨q1, hq1, hF⟩ := bnd_some hF
  refine m_callVi C X vX12_fail rfl (kX12_fail O C.2.2.2.2.1 N 1  S q1 hq1) (Nat.le_of_ble_eq_true rfl) (Nat.le_of_ble_eq_true rfl) (Nat.le_of_ble_eq_true rfl) (Nat.le_of_ble_eq_true rfl) rfl hl.1 rfl (Nat.le_of_ble_eq_true rfl) dX12_grotto_15 (fun H locs X => ?_)
  cases hF
  exact g_iret C X dX12_grotto_18
noncomputable def fX12_grotto_b0 (N : Nat) (x1 : Int32) (x2 : Int32) (S : gS) : Option (Int32 × gS) := lt (sU S 99 4 0) fun S1 => (bnd (fX12_isGrotto N x1 S1) fun q1 => (if q1.1 = 0 then fX12_grotto_b13 N q1.2 else fX12_grotto_b19 N x1 x2 q1.2))
theorem bX12_grotto_0 {N : Nat} {x1 : Int32} {x2 : Int32} {S : gS} {H : Heap} {locs : List Loc} {ls : Array Slot} {o : Int32 × gS} (C : gC p s m args meth c cX12_grotto 3 RX12 ((some .int)) D (mtys cI cS) mord g Am) (O : gO (mcell g cI cS sa) mord g) (X : gX D (mcell g cI cS sa) mord g S s H locs) (hl : lv_has ls 3 [(0, .ref (g 99)), (1, .int x1), (2, .int x2)]) (hF : fX12_grotto_b0 N x1 x2 S = some o) : W p l e (rmd 3) s m args below meth c H locs 0 0 (gE below args s D (mtys cI cS) (mcell g cI cS sa) mord g (some (.int o.1)) o.2) (F0 m 0 ls []) := by
  unfold fX12_grotto_b0 at hF
  refine lv_aload_n C.1.1 C.1.2.1 dX12_grotto_0 rfl (lv_at hl 0 rfl) ?_
  refine lv_iconst (v := 0) C.1.1 C.1.2.1 dX12_grotto_1 (by decide) ?_
  obtain ⟨S1, eS1, hF⟩ := lt_some hF
  refine m_p4 C O X eS1 dX12_grotto_2 (fun H locs X => ?_)
  refine lv_aload_n C.1.1 C.1.2.1 dX12_grotto_5 rfl (lv_at hl 0 rfl) ?_
  refine lv_iload_n C.1.1 C.1.2.1 dX12_grotto_6 rfl (lv_at hl 1 rfl) ?_
  obtain ⟨q1, hq1, hF⟩ := bnd_some hF
  refine m_callVi C X vX12_isGrotto rfl (kX12_isGrotto O C.2.2.2.2.1 N x1  S1 q1 hq1) (Nat.le_of_ble_eq_true rfl) (Nat.le_of_ble_eq_true rfl) (Nat.le_of_ble_eq_true rfl) (Nat.le_of_ble_eq_true rfl) rfl hl.1 rfl (Nat.le_of_ble_eq_true rfl) dX12_grotto_7 (fun H locs X => ?_)
  refine lv_if_ne (tgt := 19) C.1.1 C.1.2.1 dX12_grotto_10 (by decide) (fun h_z => ?_) (fun h_z => ?_)
  · rw [if_neg h_z] at hF
    exact bX12_grotto_19 C O X (lv_sub hl [0, 1, 2] rfl) hF
  · rw [if_pos h_z] at hF
    exact bX12_grotto_13 C O X (lv_sub hl [0] rfl) hF
noncomputable def fX12_grotto (N : Nat) (x1 : Int32) (x2 : Int32) (S : gS) : Option (Int32 × gS) := fX12_grotto_b0 N x1 x2 S
theorem kX12_grotto {l : Launch} {D : va_G} {g : Nat → Nat} {cI cS : ClassId} {sa : Nat → Nat → Option Nat} {Am : (Nat → Prop) → State → Heap → Prop} (O : gO (mcell g cI cS sa) mord g) (P : gAm Am) (N : Nat) (x1 : Int32) (x2 : Int32) (S : gS) (o : Int32 × gS) (hF : fX12_grotto N x1 x2 S = some o) : gM l yX12_grotto cX12_grotto 3 ((some .int)) 3 D (mtys cI cS) (mcell g cI cS sa) mord g Am [.ref (g 99), .int x1, .int x2] S (some (.int o.1)) o.2 :=
  gM_of O P (by decide) (Nat.le_of_ble_eq_true rfl) (fun p e s m args below meth c ls C X hl => bX12_grotto_0 C O X (lv_sub hl [0, 1, 2] rfl) hF)
-- guild
noncomputable def fX12_guild_b115 (N : Nat) (S : gS) : Option (Int32 × gS) := bnd (fX12_fail N 1 S) fun q1 => (some (q1.1, q1.2))
theorem bX12_guild_115 {N : Nat} {S : gS} {H : Heap} {locs : List Loc} {ls : Array Slot} {o : Int32 × gS} (C : gC p s m args meth c cX12_guild 3 RX12 ((some .int)) D (mtys cI cS) mord g Am) (O : gO (mcell g cI cS sa) mord g) (X : gX D (mcell g cI cS sa) mord g S s H locs) (hl : lv_has ls 3 [(0, .ref (g 99))]) (hF : fX12_guild_b115 N S = some o) : W p l e (rmd 4) s m args below meth c H locs 0 0 (gE below args s D (mtys cI cS) (mcell g cI cS sa) mord g (some (.int o.1)) o.2) (F0 m 115 ls []) := by
  unfold fX12_guild_b115 at hF
  refine lv_aload_n C.1.1 C.1.2.1 dX12_guild_115 rfl (lv_at hl 0 rfl) ?_
  refine lv_iconst (v := 1) C.1.1 C.1.2.1 dX12_guild_116 (by decide) ?_
  obtain ⟨q1, hq1, hF⟩ := bnd_some hF
  refine m_callVi C X vX12_fail rfl (kX12_fail O C.2.2.2.2.1 N 1  S q1 hq1) (Nat.le_of_ble_eq_true rfl) (Nat.le_of_ble_eq_true rfl) (Nat.le_of_ble_eq_true rfl) (Nat.le_of_ble_eq_true rfl) rfl hl.1 rfl (Nat.le_of_ble_eq_true rfl) dX12_guild_117 (fun H locs X => ?_)
  cases hF
  exact g_iret C X dX12_guild_120
noncomputable def fX12_guild_b114 (N : Nat) (t0 : Int32) (S : gS) : Option (Int32 × gS) := some (t0, S)
theorem bX12_guild_114 {N : Nat} {t0 : Int32} {S : gS} {H : Heap} {locs : List Loc} {ls : Array Slot} {o : Int32 × gS} (C : gC p s m args meth c cX12_guild 3 RX12 ((some .int)) D (mtys cI cS) mord g Am) (O : gO (mcell g cI cS sa) mord g) (X : gX D (mcell g cI cS sa) mord g S s H locs) (hl : lv_has ls 3 []) (hF : fX12_guild_b114 N t0 S = some o) : W p l e (rmd 4) s m args below meth c H locs 0 0 (gE below args s D (mtys cI cS) (mcell g cI cS sa) mord g (some (.int o.1)) o.2) (F0 m 114 ls [.int t0]) := by
  unfold fX12_guild_b114 at hF
  cases hF
  exact g_iret C X dX12_guild_114
noncomputable def fX12_guild_b109 (N : Nat) (x1 : Int32) (S : gS) : Option (Int32 × gS) := bnd (fX12_costsOf N x1 S) fun q1 => (fX12_guild_b114 N q1.1 q1.2)
theorem bX12_guild_109 {N : Nat} {x1 : Int32} {S : gS} {H : Heap} {locs : List Loc} {ls : Array Slot} {o : Int32 × gS} (C : gC p s m args meth c cX12_guild 3 RX12 ((some .int)) D (mtys cI cS) mord g Am) (O : gO (mcell g cI cS sa) mord g) (X : gX D (mcell g cI cS sa) mord g S s H locs) (hl : lv_has ls 3 [(0, .ref (g 99)), (1, .int x1)]) (hF : fX12_guild_b109 N x1 S = some o) : W p l e (rmd 4) s m args below meth c H locs 0 0 (gE below args s D (mtys cI cS) (mcell g cI cS sa) mord g (some (.int o.1)) o.2) (F0 m 109 ls []) := by
  unfold fX12_guild_b109 at hF
  refine lv_aload_n C.1.1 C.1.2.1 dX12_guild_109 rfl (lv_at hl 0 rfl) ?_
  refine lv_iload_n C.1.1 C.1.2.1 dX12_guild_110 rfl (lv_at hl 1 rfl) ?_
  obtain ⟨q1, hq1, hF⟩ := bnd_some hF
  refine m_callVi C X vX12_costsOf rfl (kX12_costsOf O C.2.2.2.2.1 N x1  S q1 hq1) (Nat.le_of_ble_eq_true rfl) (Nat.le_of_ble_eq_true rfl) (Nat.le_of_ble_eq_true rfl) (Nat.le_of_ble_eq_true rfl) rfl hl.1 rfl (Nat.le_of_ble_eq_true rfl) dX12_guild_111 (fun H locs X => ?_)
  exact bX12_guild_114 C O X (lv_sub hl [] rfl) hF
noncomputable def fX12_guild_b105 (N : Nat) (S : gS) : Option (Int32 × gS) := fX12_guild_b114 N 0 S
theorem bX12_guild_105 {N : Nat} {S : gS} {H : Heap} {locs : List Loc} {ls : Array Slot} {o : Int32 × gS} (C : gC p s m args meth c cX12_guild 3 RX12 ((some .int)) D (mtys cI cS) mord g Am) (O : gO (mcell g cI cS sa) mord g) (X : gX D (mcell g cI cS sa) mord g S s H locs) (hl : lv_has ls 3 []) (hF : fX12_guild_b105 N S = some o) : W p l e (rmd 4) s m args below meth c H locs 0 0 (gE below args s D (mtys cI cS) (mcell g cI cS sa) mord g (some (.int o.1)) o.2) (F0 m 105 ls []) := by
  unfold fX12_guild_b105 at hF
  refine lv_iconst (v := 0) C.1.1 C.1.2.1 dX12_guild_105 (by decide) ?_
  refine lv_goto (tgt := 114) C.1.1 C.1.2.1 dX12_guild_106 (by decide) ?_
  exact bX12_guild_114 C O X (lv_sub hl [] rfl) hF
noncomputable def fX12_guild_b95 (N : Nat) (x1 : Int32) (S : gS) : Option (Int32 × gS) := chk (inb x1 (6)) (if (S 35 (Int32.toNatClampNeg x1)) = ((-1)) then fX12_guild_b105 N S else fX12_guild_b109 N x1 S)
theorem bX12_guild_95 {N : Nat} {x1 : Int32} {S : gS} {H : Heap} {locs : List Loc} {ls : Array Slot} {o : Int32 × gS} (C : gC p s m args meth c cX12_guild 3 RX12 ((some .int)) D (mtys cI cS) mord g Am) (O : gO (mcell g cI cS sa) mord g) (X : gX D (mcell g cI cS sa) mord g S s H locs) (hl : lv_has ls 3 [(0, .ref (g 99)), (1, .int x1)]) (hF : fX12_guild_b95 N x1 S = some o) : W p l e (rmd 4) s m args below meth c H locs 0 0 (gE below args s D (mtys cI cS) (mcell g cI cS sa) mord g (some (.int o.1)) o.2) (F0 m 95 ls []) := by
  unfold fX12_guild_b95 at hF
  refine lv_aload_n C.1.1 C.1.2.1 dX12_guild_95 rfl (lv_at hl 0 rfl) ?_
  refine m_g35 C X dX12_guild_96 ?_
  refine lv_iload_n C.1.1 C.1.2.1 dX12_guild_99 rfl (lv_at hl 1 rfl) ?_
  obtain ⟨h_1, hF⟩ := chk_some hF
  refine m_r35 C X  (inb_vp h_1) rfl dX12_guild_100 ?_
  refine lv_iconst (v := (-1)) C.1.1 C.1.2.1 dX12_guild_101 (by decide) ?_
  refine lv_icmp_ne (tgt := 109) C.1.1 C.1.2.1 dX12_guild_102 (by decide) (fun h_z => ?_) (fun h_z => ?_)
  · rw [if_neg h_z] at hF
    exact bX12_guild_109 C O X (lv_sub hl [0, 1] rfl) hF
  · rw [if_pos h_z] at hF
    exact bX12_guild_105 C O X (lv_sub hl [] rfl) hF
noncomputable def fX12_guild_b88 (N : Nat) (x1 : Int32) (S : gS) : Option (Int32 × gS) := chk (inb x1 (6)) (some (S 35 (Int32.toNatClampNeg x1), S))
theorem bX12_guild_88 {N : Nat} {x1 : Int32} {S : gS} {H : Heap} {locs : List Loc} {ls : Array Slot} {o : Int32 × gS} (C : gC p s m args meth c cX12_guild 3 RX12 ((some .int)) D (mtys cI cS) mord g Am) (O : gO (mcell g cI cS sa) mord g) (X : gX D (mcell g cI cS sa) mord g S s H locs) (hl : lv_has ls 3 [(0, .ref (g 99)), (1, .int x1)]) (hF : fX12_guild_b88 N x1 S = some o) : W p l e (rmd 4) s m args below meth c H locs 0 0 (gE below args s D (mtys cI cS) (mcell g cI cS sa) mord g (some (.int o.1)) o.2) (F0 m 88 ls []) := by
  unfold fX12_guild_b88 at hF
  refine lv_aload_n C.1.1 C.1.2.1 dX12_guild_88 rfl (lv_at hl 0 rfl) ?_
  refine m_g35 C X dX12_guild_89 ?_
  refine lv_iload_n C.1.1 C.1.2.1 dX12_guild_92 rfl (lv_at hl 1 rfl) ?_
  obtain ⟨h_1, hF⟩ := chk_some hF
  refine m_r35 C X  (inb_vp h_1) rfl dX12_guild_93 ?_
  cases hF
  exact g_iret C X dX12_guild_94
noncomputable def fX12_guild_b81 (N : Nat) (x1 : Int32) (S : gS) : Option (Int32 × gS) := chk (inb x1 (6)) (some (S 34 (Int32.toNatClampNeg x1), S))
theorem bX12_guild_81 {N : Nat} {x1 : Int32} {S : gS} {H : Heap} {locs : List Loc} {ls : Array Slot} {o : Int32 × gS} (C : gC p s m args meth c cX12_guild 3 RX12 ((some .int)) D (mtys cI cS) mord g Am) (O : gO (mcell g cI cS sa) mord g) (X : gX D (mcell g cI cS sa) mord g S s H locs) (hl : lv_has ls 3 [(0, .ref (g 99)), (1, .int x1)]) (hF : fX12_guild_b81 N x1 S = some o) : W p l e (rmd 4) s m args below meth c H locs 0 0 (gE below args s D (mtys cI cS) (mcell g cI cS sa) mord g (some (.int o.1)) o.2) (F0 m 81 ls []) := by
  unfold fX12_guild_b81 at hF
  refine lv_aload_n C.1.1 C.1.2.1 dX12_guild_81 rfl (lv_at hl 0 rfl) ?_
  refine m_g34 C X dX12_guild_82 ?_
  refine lv_iload_n C.1.1 C.1.2.1 dX12_guild_85 rfl (lv_at hl 1 rfl) ?_
  obtain ⟨h_1, hF⟩ := chk_some hF
  refine m_r34 C X  (inb_vp h_1) rfl dX12_guild_86 ?_
  cases hF
  exact g_iret C X dX12_guild_87
noncomputable def fX12_guild_b74 (N : Nat) (x1 : Int32) (S : gS) : Option (Int32 × gS) := chk (inb x1 (6)) (some (S 33 (Int32.toNatClampNeg x1), S))
theorem bX12_guild_74 {N : Nat} {x1 : Int32} {S : gS} {H : Heap} {locs : List Loc} {ls : Array Slot} {o : Int32 × gS} (C : gC p s m args meth c cX12_guild 3 RX12 ((some .int)) D (mtys cI cS) mord g Am) (O : gO (mcell g cI cS sa) mord g) (X : gX D (mcell g cI cS sa) mord g S s H locs) (hl : lv_has ls 3 [(0, .ref (g 99)), (1, .int x1)]) (hF : fX12_guild_b74 N x1 S = some o) : W p l e (rmd 4) s m args below meth c H locs 0 0 (gE below args s D (mtys cI cS) (mcell g cI cS sa) mord g (some (.int o.1)) o.2) (F0 m 74 ls []) := by
  unfold fX12_guild_b74 at hF
  refine lv_aload_n C.1.1 C.1.2.1 dX12_guild_74 rfl (lv_at hl 0 rfl) ?_
  refine m_g33 C X dX12_guild_75 ?_
  refine lv_iload_n C.1.1 C.1.2.1 dX12_guild_78 rfl (lv_at hl 1 rfl) ?_
  obtain ⟨h_1, hF⟩ := chk_some hF
  refine m_r33 C X  (inb_vp h_1) rfl dX12_guild_79 ?_
  cases hF
  exact g_iret C X dX12_guild_80
noncomputable def fX12_guild_b67 (N : Nat) (x1 : Int32) (S : gS) : Option (Int32 × gS) := chk (inb x1 (6)) (some (S 32 (Int32.toNatClampNeg x1), S))
theorem bX12_guild_67 {N : Nat} {x1 : Int32} {S : gS} {H : Heap} {locs : List Loc} {ls : Array Slot} {o : Int32 × gS} (C : gC p s m args meth c cX12_guild 3 RX12 ((some .int)) D (mtys cI cS) mord g Am) (O : gO (mcell g cI cS sa) mord g) (X : gX D (mcell g cI cS sa) mord g S s H locs) (hl : lv_has ls 3 [(0, .ref (g 99)), (1, .int x1)]) (hF : fX12_guild_b67 N x1 S = some o) : W p l e (rmd 4) s m args below meth c H locs 0 0 (gE below args s D (mtys cI cS) (mcell g cI cS sa) mord g (some (.int o.1)) o.2) (F0 m 67 ls []) := by
  unfold fX12_guild_b67 at hF
  refine lv_aload_n C.1.1 C.1.2.1 dX12_guild_67 rfl (lv_at hl 0 rfl) ?_
  refine m_g32 C X dX12_guild_68 ?_
  refine lv_iload_n C.1.1 C.1.2.1 dX12_guild_71 rfl (lv_at hl 1 rfl) ?_
  obtain ⟨h_1, hF⟩ := chk_some hF
  refine m_r32 C X  (inb_vp h_1) rfl dX12_guild_72 ?_
  cases hF
  exact g_iret C X dX12_guild_73
noncomputable def fX12_guild_b60 (N : Nat) (x1 : Int32) (S : gS) : Option (Int32 × gS) := chk (inb x1 (6)) (some (S 18 (Int32.toNatClampNeg x1), S))
theorem bX12_guild_60 {N : Nat} {x1 : Int32} {S : gS} {H : Heap} {locs : List Loc} {ls : Array Slot} {o : Int32 × gS} (C : gC p s m args meth c cX12_guild 3 RX12 ((some .int)) D (mtys cI cS) mord g Am) (O : gO (mcell g cI cS sa) mord g) (X : gX D (mcell g cI cS sa) mord g S s H locs) (hl : lv_has ls 3 [(0, .ref (g 99)), (1, .int x1)]) (hF : fX12_guild_b60 N x1 S = some o) : W p l e (rmd 4) s m args below meth c H locs 0 0 (gE below args s D (mtys cI cS) (mcell g cI cS sa) mord g (some (.int o.1)) o.2) (F0 m 60 ls []) := by
  unfold fX12_guild_b60 at hF
  refine lv_aload_n C.1.1 C.1.2.1 dX12_guild_60 rfl (lv_at hl 0 rfl) ?_
  refine m_g18 C X dX12_guild_61 ?_
  refine lv_iload_n C.1.1 C.1.2.1 dX12_guild_64 rfl (lv_at hl 1 rfl) ?_
  obtain ⟨h_1, hF⟩ := chk_some hF
  refine m_r18 C X  (inb_vp h_1) rfl dX12_guild_65 ?_
  cases hF
  exact g_iret C X dX12_guild_66
noncomputable def fX12_guild_b19 (N : Nat) (x1 : Int32) (x2 : Int32) (S : gS) : Option (Int32 × gS) := if x2 = 0 then fX12_guild_b60 N x1 S else if x2 = 1 then fX12_guild_b67 N x1 S else if x2 = 2 then fX12_guild_b74 N x1 S else if x2 = 3 then fX12_guild_b81 N x1 S else if x2 = 4 then fX12_guild_b88 N x1 S else if x2 = 5 then fX12_guild_b95 N x1 S else fX12_guild_b115 N S
theorem bX12_guild_19 {N : Nat} {x1 : Int32} {x2 : Int32} {S : gS} {H : Heap} {locs : List Loc} {ls : Array Slot} {o : Int32 × gS} (C : gC p s m args meth c cX12_guild 3 RX12 ((some .int)) D (mtys cI cS) mord g Am) (O : gO (mcell g cI cS sa) mord g) (X : gX D (mcell g cI cS sa) mord g S s H locs) (hl : lv_has ls 3 [(0, .ref (g 99)), (1, .int x1), (2, .int x2)]) (hF : fX12_guild_b19 N x1 x2 S = some o) : W p l e (rmd 4) s m args below meth c H locs 0 0 (gE below args s D (mtys cI cS) (mcell g cI cS sa) mord g (some (.int o.1)) o.2) (F0 m 19 ls []) := by
  unfold fX12_guild_b19 at hF
  refine lv_iload_n C.1.1 C.1.2.1 dX12_guild_19 rfl (lv_at hl 2 rfl) ?_
  by_cases hz_0 : x2 = 0
  · rw [if_pos hz_0] at hF
    refine lv_tableIn (off := 40) (tgt := 60) C.1.1 C.1.2.1 dX12_guild_20 (by rw [hz_0]; decide) (by rw [hz_0]; decide) (by rw [hz_0]; decide) (by decide) ?_
    exact bX12_guild_60 C O X (lv_sub hl [0, 1] rfl) hF
  rw [if_neg hz_0] at hF
  by_cases hz_1 : x2 = 1
  · rw [if_pos hz_1] at hF
    refine lv_tableIn (off := 47) (tgt := 67) C.1.1 C.1.2.1 dX12_guild_20 (by rw [hz_1]; decide) (by rw [hz_1]; decide) (by rw [hz_1]; decide) (by decide) ?_
    exact bX12_guild_67 C O X (lv_sub hl [0, 1] rfl) hF
  rw [if_neg hz_1] at hF
  by_cases hz_2 : x2 = 2
  · rw [if_pos hz_2] at hF
    refine lv_tableIn (off := 54) (tgt := 74) C.1.1 C.1.2.1 dX12_guild_20 (by rw [hz_2]; decide) (by rw [hz_2]; decide) (by rw [hz_2]; decide) (by decide) ?_
    exact bX12_guild_74 C O X (lv_sub hl [0, 1] rfl) hF
  rw [if_neg hz_2] at hF
  by_cases hz_3 : x2 = 3
  · rw [if_pos hz_3] at hF
    refine lv_tableIn (off := 61) (tgt := 81) C.1.1 C.1.2.1 dX12_guild_20 (by rw [hz_3]; decide) (by rw [hz_3]; decide) (by rw [hz_3]; decide) (by decide) ?_
    exact bX12_guild_81 C O X (lv_sub hl [0, 1] rfl) hF
  rw [if_neg hz_3] at hF
  by_cases hz_4 : x2 = 4
  · rw [if_pos hz_4] at hF
    refine lv_tableIn (off := 68) (tgt := 88) C.1.1 C.1.2.1 dX12_guild_20 (by rw [hz_4]; decide) (by rw [hz_4]; decide) (by rw [hz_4]; decide) (by decide) ?_
    exact bX12_guild_88 C O X (lv_sub hl [0, 1] rfl) hF
  rw [if_neg hz_4] at hF
  by_cases hz_5 : x2 = 5
  · rw [if_pos hz_5] at hF
    refine lv_tableIn (off := 75) (tgt := 95) C.1.1 C.1.2.1 dX12_guild_20 (by rw [hz_5]; decide) (by rw [hz_5]; decide) (by rw [hz_5]; decide) (by decide) ?_
    exact bX12_guild_95 C O X (lv_sub hl [0, 1] rfl) hF
  rw [if_neg hz_5] at hF
  refine lv_tableOut (tgt := 115) C.1.1 C.1.2.1 dX12_guild_20 (g_tsw 0 5 _ ?_) (by decide) ?_
  · intro i hi1 hi2
    rcases (show i = 0 ∨ i = 1 ∨ i = 2 ∨ i = 3 ∨ i = 4 ∨ i = 5 by omega) with rfl | rfl | rfl | rfl | rfl | rfl
    · exact hz_0
    · exact hz_1
    · exact hz_2
    · exact hz_3
    · exact hz_4
    · exact hz_5
  exact bX12_guild_115 C O X (lv_sub hl [0] rfl) hF
noncomputable def fX12_guild_b13 (N : Nat) (S : gS) : Option (Int32 × gS) := bnd (fX12_fail N 1 S) fun q1 => (some (q1.1, q1.2))
theorem bX12_guild_13 {N : Nat} {S : gS} {H : Heap} {locs : List Loc} {ls : Array Slot} {o : Int32 × gS} (C : gC p s m args meth c cX12_guild 3 RX12 ((some .int)) D (mtys cI cS) mord g Am) (O : gO (mcell g cI cS sa) mord g) (X : gX D (mcell g cI cS sa) mord g S s H locs) (hl : lv_has ls 3 [(0, .ref (g 99))]) (hF : fX12_guild_b13 N S = some o) : W p l e (rmd 4) s m args below meth c H locs 0 0 (gE below args s D (mtys cI cS) (mcell g cI cS sa) mord g (some (.int o.1)) o.2) (F0 m 13 ls []) := by
  unfold fX12_guild_b13 at hF
  refine lv_aload_n C.1.1 C.1.2.1 dX12_guild_13 rfl (lv_at hl 0 rfl) ?_
  refine lv_iconst (v := 1) C.1.1 C.1.2.1 dX12_guild_14 (by decide) ?_
  obtain ⟨q1, hq1, hF⟩ := bnd_some hF
  refine m_callVi C X vX12_fail rfl (kX12_fail O C.2.2.2.2.1 N 1  S q1 hq1) (Nat.le_of_ble_eq_true rfl) (Nat.le_of_ble_eq_true rfl) (Nat.le_of_ble_eq_true rfl) (Nat.le_of_ble_eq_true rfl) rfl hl.1 rfl (Nat.le_of_ble_eq_true rfl) dX12_guild_15 (fun H locs X => ?_)
  cases hF
  exact g_iret C X dX12_guild_18
noncomputable def fX12_guild_b0 (N : Nat) (x1 : Int32) (x2 : Int32) (S : gS) : Option (Int32 × gS) := lt (sU S 99 4 0) fun S1 => (bnd (fX12_isGuild N x1 S1) fun q1 => (if q1.1 = 0 then fX12_guild_b13 N q1.2 else fX12_guild_b19 N x1 x2 q1.2))
theorem bX12_guild_0 {N : Nat} {x1 : Int32} {x2 : Int32} {S : gS} {H : Heap} {locs : List Loc} {ls : Array Slot} {o : Int32 × gS} (C : gC p s m args meth c cX12_guild 3 RX12 ((some .int)) D (mtys cI cS) mord g Am) (O : gO (mcell g cI cS sa) mord g) (X : gX D (mcell g cI cS sa) mord g S s H locs) (hl : lv_has ls 3 [(0, .ref (g 99)), (1, .int x1), (2, .int x2)]) (hF : fX12_guild_b0 N x1 x2 S = some o) : W p l e (rmd 4) s m args below meth c H locs 0 0 (gE below args s D (mtys cI cS) (mcell g cI cS sa) mord g (some (.int o.1)) o.2) (F0 m 0 ls []) := by
  unfold fX12_guild_b0 at hF
  refine lv_aload_n C.1.1 C.1.2.1 dX12_guild_0 rfl (lv_at hl 0 rfl) ?_
  refine lv_iconst (v := 0) C.1.1 C.1.2.1 dX12_guild_1 (by decide) ?_
  obtain ⟨S1, eS1, hF⟩ := lt_some hF
  refine m_p4 C O X eS1 dX12_guild_2 (fun H locs X => ?_)
  refine lv_aload_n C.1.1 C.1.2.1 dX12_guild_5 rfl (lv_at hl 0 rfl) ?_
  refine lv_iload_n C.1.1 C.1.2.1 dX12_guild_6 rfl (lv_at hl 1 rfl) ?_
  obtain ⟨q1, hq1, hF⟩ := bnd_some hF
  refine m_callVi C X vX12_isGuild rfl (kX12_isGuild O C.2.2.2.2.1 N x1  S1 q1 hq1) (Nat.le_of_ble_eq_true rfl) (Nat.le_of_ble_eq_true rfl) (Nat.le_of_ble_eq_true rfl) (Nat.le_of_ble_eq_true rfl) rfl hl.1 rfl (Nat.le_of_ble_eq_true rfl) dX12_guild_7 (fun H locs X => ?_)
  refine lv_if_ne (tgt := 19) C.1.1 C.1.2.1 dX12_guild_10 (by decide) (fun h_z => ?_) (fun h_z => ?_)
  · rw [if_neg h_z] at hF
    exact bX12_guild_19 C O X (lv_sub hl [0, 1, 2] rfl) hF
  · rw [if_pos h_z] at hF
    exact bX12_guild_13 C O X (lv_sub hl [0] rfl) hF
noncomputable def fX12_guild (N : Nat) (x1 : Int32) (x2 : Int32) (S : gS) : Option (Int32 × gS) := fX12_guild_b0 N x1 x2 S
theorem kX12_guild {l : Launch} {D : va_G} {g : Nat → Nat} {cI cS : ClassId} {sa : Nat → Nat → Option Nat} {Am : (Nat → Prop) → State → Heap → Prop} (O : gO (mcell g cI cS sa) mord g) (P : gAm Am) (N : Nat) (x1 : Int32) (x2 : Int32) (S : gS) (o : Int32 × gS) (hF : fX12_guild N x1 x2 S = some o) : gM l yX12_guild cX12_guild 3 ((some .int)) 4 D (mtys cI cS) (mcell g cI cS sa) mord g Am [.ref (g 99), .int x1, .int x2] S (some (.int o.1)) o.2 :=
  gM_of O P (by decide) (Nat.le_of_ble_eq_true rfl) (fun p e s m args below meth c ls C X hl => bX12_guild_0 C O X (lv_sub hl [0, 1, 2] rfl) hF)
-- refuse
noncomputable def fX12_refuse_b0 (N : Nat) (x1 : Int32) (S : gS) : Option (Int32 × gS) := chk (inb x1 (3)) (chk (inb x1 (3)) (lt (sU S 17 (Int32.toNatClampNeg x1) (((S 17 (Int32.toNatClampNeg x1)) + 1 : Int32))) fun S1 => (some ((-1), S1))))
theorem bX12_refuse_0 {N : Nat} {x1 : Int32} {S : gS} {H : Heap} {locs : List Loc} {ls : Array Slot} {o : Int32 × gS} (C : gC p s m args meth c cX12_refuse 2 RX12 ((some .int)) D (mtys cI cS) mord g Am) (O : gO (mcell g cI cS sa) mord g) (X : gX D (mcell g cI cS sa) mord g S s H locs) (hl : lv_has ls 2 [(0, .ref (g 99)), (1, .int x1)]) (hF : fX12_refuse_b0 N x1 S = some o) : W p l e (rmd 0) s m args below meth c H locs 0 0 (gE below args s D (mtys cI cS) (mcell g cI cS sa) mord g (some (.int o.1)) o.2) (F0 m 0 ls []) := by
  unfold fX12_refuse_b0 at hF
  refine lv_aload_n C.1.1 C.1.2.1 dX12_refuse_0 rfl (lv_at hl 0 rfl) ?_
  refine m_g17 C X dX12_refuse_1 ?_
  refine lv_iload_n C.1.1 C.1.2.1 dX12_refuse_4 rfl (lv_at hl 1 rfl) ?_
  refine lv_dup2_11 C.1.1 C.1.2.1 dX12_refuse_5 rfl rfl ?_
  obtain ⟨h_1, hF⟩ := chk_some hF
  refine m_r17 C X  (inb_vp h_1) rfl dX12_refuse_6 ?_
  refine lv_iconst (v := 1) C.1.1 C.1.2.1 dX12_refuse_7 (by decide) ?_
  refine lv_iadd C.1.1 C.1.2.1 dX12_refuse_8 ?_
  obtain ⟨h_2, hF⟩ := chk_some hF
  obtain ⟨S1, eS1, hF⟩ := lt_some hF
  refine m_w17 C O X  (inb_vp h_2) rfl eS1 dX12_refuse_9 (fun H locs X => ?_)
  refine lv_iconst (v := (-1)) C.1.1 C.1.2.1 dX12_refuse_10 (by decide) ?_
  cases hF
  exact g_iret C X dX12_refuse_11
noncomputable def fX12_refuse (N : Nat) (x1 : Int32) (S : gS) : Option (Int32 × gS) := fX12_refuse_b0 N x1 S
theorem kX12_refuse {l : Launch} {D : va_G} {g : Nat → Nat} {cI cS : ClassId} {sa : Nat → Nat → Option Nat} {Am : (Nat → Prop) → State → Heap → Prop} (O : gO (mcell g cI cS sa) mord g) (P : gAm Am) (N : Nat) (x1 : Int32) (S : gS) (o : Int32 × gS) (hF : fX12_refuse N x1 S = some o) : gM l yX12_refuse cX12_refuse 2 ((some .int)) 0 D (mtys cI cS) (mcell g cI cS sa) mord g Am [.ref (g 99), .int x1] S (some (.int o.1)) o.2 :=
  gM_of O P (by decide) (Nat.le_of_ble_eq_true rfl) (fun p e s m args below meth c ls C X hl => bX12_refuse_0 C O X (lv_sub hl [0, 1] rfl) hF)
-- refused
noncomputable def fX12_refused_b0 (N : Nat) (S : gS) : Option (Int32 × gS) := lt (sU S 17 1 (((S 17 1) + 1 : Int32))) fun S1 => (some (0, S1))
theorem bX12_refused_0 {N : Nat} {S : gS} {H : Heap} {locs : List Loc} {ls : Array Slot} {o : Int32 × gS} (C : gC p s m args meth c cX12_refused 1 RX12 ((some .boolean)) D (mtys cI cS) mord g Am) (O : gO (mcell g cI cS sa) mord g) (X : gX D (mcell g cI cS sa) mord g S s H locs) (hl : lv_has ls 1 [(0, .ref (g 99))]) (hF : fX12_refused_b0 N S = some o) : W p l e (rmd 0) s m args below meth c H locs 0 0 (gE below args s D (mtys cI cS) (mcell g cI cS sa) mord g (some (.int o.1)) o.2) (F0 m 0 ls []) := by
  unfold fX12_refused_b0 at hF
  refine lv_aload_n C.1.1 C.1.2.1 dX12_refused_0 rfl (lv_at hl 0 rfl) ?_
  refine m_g17 C X dX12_refused_1 ?_
  refine lv_iconst (v := 1) C.1.1 C.1.2.1 dX12_refused_4 (by decide) ?_
  refine lv_dup2_11 C.1.1 C.1.2.1 dX12_refused_5 rfl rfl ?_
  refine m_r17 C X (j := 1) (inb_vp (by decide)) (by decide) dX12_refused_6 ?_
  refine lv_iconst (v := 1) C.1.1 C.1.2.1 dX12_refused_7 (by decide) ?_
  refine lv_iadd C.1.1 C.1.2.1 dX12_refused_8 ?_
  obtain ⟨S1, eS1, hF⟩ := lt_some hF
  refine m_w17 C O X (j := 1) (inb_vp (by decide)) (by decide) eS1 dX12_refused_9 (fun H locs X => ?_)
  refine lv_iconst (v := 0) C.1.1 C.1.2.1 dX12_refused_10 (by decide) ?_
  cases hF
  exact g_zret (x := 0) C X (by decide) dX12_refused_11
noncomputable def fX12_refused (N : Nat) (S : gS) : Option (Int32 × gS) := fX12_refused_b0 N S
theorem kX12_refused {l : Launch} {D : va_G} {g : Nat → Nat} {cI cS : ClassId} {sa : Nat → Nat → Option Nat} {Am : (Nat → Prop) → State → Heap → Prop} (O : gO (mcell g cI cS sa) mord g) (P : gAm Am) (N : Nat) (S : gS) (o : Int32 × gS) (hF : fX12_refused N S = some o) : gM l yX12_refused cX12_refused 1 ((some .boolean)) 0 D (mtys cI cS) (mcell g cI cS sa) mord g Am [.ref (g 99)] S (some (.int o.1)) o.2 :=
  gM_of O P (by decide) (Nat.le_of_ble_eq_true rfl) (fun p e s m args below meth c ls C X hl => bX12_refused_0 C O X (lv_sub hl [0] rfl) hF)
-- keep
noncomputable def fX12_keep_b52 (N : Nat) (S : gS) : Option (Int32 × gS) := bnd (fX12_pack N 36 ((26 * (S 99 39) : Int32)) S) fun q1 => (lt (sU q1.2 99 39 (((q1.2 99 39) + 1 : Int32))) fun S2 => (some (0, S2)))
theorem bX12_keep_52 {N : Nat} {S : gS} {H : Heap} {locs : List Loc} {ls : Array Slot} {o : Int32 × gS} (C : gC p s m args meth c cX12_keep 2 RX12 none D (mtys cI cS) mord g Am) (O : gO (mcell g cI cS sa) mord g) (X : gX D (mcell g cI cS sa) mord g S s H locs) (hl : lv_has ls 2 [(0, .ref (g 99))]) (hF : fX12_keep_b52 N S = some o) : W p l e (rmd 1) s m args below meth c H locs 0 0 (gE below args s D (mtys cI cS) (mcell g cI cS sa) mord g none o.2) (F0 m 52 ls []) := by
  unfold fX12_keep_b52 at hF
  refine lv_aload_n C.1.1 C.1.2.1 dX12_keep_52 rfl (lv_at hl 0 rfl) ?_
  refine lv_aload_n C.1.1 C.1.2.1 dX12_keep_53 rfl (lv_at hl 0 rfl) ?_
  refine m_g36 C X dX12_keep_54 ?_
  refine lv_bipush (v := 26) C.1.1 C.1.2.1 dX12_keep_57 (by decide) ?_
  refine lv_aload_n C.1.1 C.1.2.1 dX12_keep_59 rfl (lv_at hl 0 rfl) ?_
  refine m_g39 C X dX12_keep_60 ?_
  refine lv_imul C.1.1 C.1.2.1 dX12_keep_63 ?_
  obtain ⟨q1, hq1, hF⟩ := bnd_some hF
  refine m_callV C X vX12_pack rfl (kX12_pack O C.2.2.2.2.1 N 36 ((26 * (S 99 39) : Int32)) (rfl : mI 36 = true) S q1 hq1) (Nat.le_of_ble_eq_true rfl) (Nat.le_of_ble_eq_true rfl) (Nat.le_of_ble_eq_true rfl) (Nat.le_of_ble_eq_true rfl) rfl hl.1 rfl (Nat.le_of_ble_eq_true rfl) dX12_keep_64 (fun H locs X => ?_)
  refine lv_aload_n C.1.1 C.1.2.1 dX12_keep_67 rfl (lv_at hl 0 rfl) ?_
  refine lv_dup C.1.1 C.1.2.1 dX12_keep_68 rfl ?_
  refine m_g39 C X dX12_keep_69 ?_
  refine lv_iconst (v := 1) C.1.1 C.1.2.1 dX12_keep_72 (by decide) ?_
  refine lv_iadd C.1.1 C.1.2.1 dX12_keep_73 ?_
  obtain ⟨S2, eS2, hF⟩ := lt_some hF
  refine m_p39 C O X eS2 dX12_keep_74 (fun H locs X => ?_)
  cases hF
  exact g_vret C X dX12_keep_77
noncomputable def fX12_keep_b42 (N : Nat) (S : gS) : Option (Int32 × gS) := lt (sU S 99 39 (((S 99 39) - 1 : Int32))) fun S1 => (fX12_keep_b52 N S1)
theorem bX12_keep_42 {N : Nat} {S : gS} {H : Heap} {locs : List Loc} {ls : Array Slot} {o : Int32 × gS} (C : gC p s m args meth c cX12_keep 2 RX12 none D (mtys cI cS) mord g Am) (O : gO (mcell g cI cS sa) mord g) (X : gX D (mcell g cI cS sa) mord g S s H locs) (hl : lv_has ls 2 [(0, .ref (g 99))]) (hF : fX12_keep_b42 N S = some o) : W p l e (rmd 1) s m args below meth c H locs 0 0 (gE below args s D (mtys cI cS) (mcell g cI cS sa) mord g none o.2) (F0 m 42 ls []) := by
  unfold fX12_keep_b42 at hF
  refine lv_aload_n C.1.1 C.1.2.1 dX12_keep_42 rfl (lv_at hl 0 rfl) ?_
  refine lv_dup C.1.1 C.1.2.1 dX12_keep_43 rfl ?_
  refine m_g39 C X dX12_keep_44 ?_
  refine lv_iconst (v := 1) C.1.1 C.1.2.1 dX12_keep_47 (by decide) ?_
  refine lv_isub C.1.1 C.1.2.1 dX12_keep_48 ?_
  obtain ⟨S1, eS1, hF⟩ := lt_some hF
  refine m_p39 C O X eS1 dX12_keep_49 (fun H locs X => ?_)
  exact bX12_keep_52 C O X (lv_sub hl [0] rfl) hF
noncomputable def fX12_keep_b21 (N : Nat) (r12 : Int32 → gS → Option (Int32 × gS)) (x1 : Int32) (S : gS) : Option (Int32 × gS) := chk (inb x1 (1040)) (chk (inb ((x1 - 26 : Int32)) (1040)) (lt (sU S 36 (Int32.toNatClampNeg ((x1 - 26 : Int32))) (S 36 (Int32.toNatClampNeg x1))) fun S1 => (r12 ((x1 + 1 : Int32)) S1)))
theorem bX12_keep_21 {N : Nat} {r12 : Int32 → gS → Option (Int32 × gS)} {x1 : Int32} {S : gS} {H : Heap} {locs : List Loc} {ls : Array Slot} {o : Int32 × gS} (C : gC p s m args meth c cX12_keep 2 RX12 none D (mtys cI cS) mord g Am) (O : gO (mcell g cI cS sa) mord g) (K12 : ∀ (x1 : Int32) (S : gS) (H : Heap) (locs : List Loc) (ls : Array Slot), gX D (mcell g cI cS sa) mord g S s H locs → lv_has ls 2 [(0, .ref (g 99)), (1, .int x1)] → r12 x1 S = some o → W p l e (rmd 1) s m args below meth c H locs 0 0 (gE below args s D (mtys cI cS) (mcell g cI cS sa) mord g none o.2) (F0 m 12 ls [])) (X : gX D (mcell g cI cS sa) mord g S s H locs) (hl : lv_has ls 2 [(0, .ref (g 99)), (1, .int x1)]) (hF : fX12_keep_b21 N r12 x1 S = some o) : W p l e (rmd 1) s m args below meth c H locs 0 0 (gE below args s D (mtys cI cS) (mcell g cI cS sa) mord g none o.2) (F0 m 21 ls []) := by
  unfold fX12_keep_b21 at hF
  refine lv_aload_n C.1.1 C.1.2.1 dX12_keep_21 rfl (lv_at hl 0 rfl) ?_
  refine m_g36 C X dX12_keep_22 ?_
  refine lv_iload_n C.1.1 C.1.2.1 dX12_keep_25 rfl (lv_at hl 1 rfl) ?_
  refine lv_bipush (v := 26) C.1.1 C.1.2.1 dX12_keep_26 (by decide) ?_
  refine lv_isub C.1.1 C.1.2.1 dX12_keep_28 ?_
  refine lv_aload_n C.1.1 C.1.2.1 dX12_keep_29 rfl (lv_at hl 0 rfl) ?_
  refine m_g36 C X dX12_keep_30 ?_
  refine lv_iload_n C.1.1 C.1.2.1 dX12_keep_33 rfl (lv_at hl 1 rfl) ?_
  obtain ⟨h_1, hF⟩ := chk_some hF
  refine m_r36 C X  (inb_vp h_1) rfl dX12_keep_34 ?_
  obtain ⟨h_2, hF⟩ := chk_some hF
  obtain ⟨S1, eS1, hF⟩ := lt_some hF
  refine m_w36 C O X  (inb_vp h_2) rfl eS1 dX12_keep_35 (fun H locs X => ?_)
  refine lv_iinc (v := (x1 + 1 : Int32)) (lv' := [(1, .int ((x1 + 1 : Int32))), (0, .ref (g 99))]) C.1.1 C.1.2.1 dX12_keep_36 hl (k := 1) rfl rfl (by decide) rfl (fun ls hl => ?_)
  refine lv_goto (tgt := 12) C.1.1 C.1.2.1 dX12_keep_39 (by decide) ?_
  exact K12 _ _ _ _ _ X (lv_sub hl [1, 0] rfl) hF
noncomputable def fX12_keep_b12 (N : Nat) (r12 : Int32 → gS → Option (Int32 × gS)) (x1 : Int32) (S : gS) : Option (Int32 × gS) := if 1040 ≤ x1 then fX12_keep_b42 N S else fX12_keep_b21 N r12 x1 S
theorem bX12_keep_12 {N : Nat} {r12 : Int32 → gS → Option (Int32 × gS)} {x1 : Int32} {S : gS} {H : Heap} {locs : List Loc} {ls : Array Slot} {o : Int32 × gS} (C : gC p s m args meth c cX12_keep 2 RX12 none D (mtys cI cS) mord g Am) (O : gO (mcell g cI cS sa) mord g) (K12 : ∀ (x1 : Int32) (S : gS) (H : Heap) (locs : List Loc) (ls : Array Slot), gX D (mcell g cI cS sa) mord g S s H locs → lv_has ls 2 [(0, .ref (g 99)), (1, .int x1)] → r12 x1 S = some o → W p l e (rmd 1) s m args below meth c H locs 0 0 (gE below args s D (mtys cI cS) (mcell g cI cS sa) mord g none o.2) (F0 m 12 ls [])) (X : gX D (mcell g cI cS sa) mord g S s H locs) (hl : lv_has ls 2 [(0, .ref (g 99)), (1, .int x1)]) (hF : fX12_keep_b12 N r12 x1 S = some o) : W p l e (rmd 1) s m args below meth c H locs 0 0 (gE below args s D (mtys cI cS) (mcell g cI cS sa) mord g none o.2) (F0 m 12 ls []) := by
  unfold fX12_keep_b12 at hF
  refine lv_iload_n C.1.1 C.1.2.1 dX12_keep_12 rfl (lv_at hl 1 rfl) ?_
  refine lv_aload_n C.1.1 C.1.2.1 dX12_keep_13 rfl (lv_at hl 0 rfl) ?_
  refine m_g36 C X dX12_keep_14 ?_
  refine m_lv C X (k := 36) rfl (x := 1040) (by decide) dX12_keep_17 ?_
  refine lv_icmp_ge (tgt := 42) C.1.1 C.1.2.1 dX12_keep_18 (by decide) (fun h_z => ?_) (fun h_z => ?_)
  · rw [if_pos h_z] at hF
    exact bX12_keep_42 C O X (lv_sub hl [0] rfl) hF
  · rw [if_neg h_z] at hF
    exact bX12_keep_21 C O K12 X (lv_sub hl [0, 1] rfl) hF
noncomputable def fX12_keep_h12 (N : Nat) : Nat → Int32 → gS → Option (Int32 × gS)
  | 0, _, _ => none
  | n + 1, x1, S => fX12_keep_b12 N (fX12_keep_h12 N n) x1 S
theorem hX12_keep_12 {N : Nat} {o : Int32 × gS} (C : gC p s m args meth c cX12_keep 2 RX12 none D (mtys cI cS) mord g Am) (O : gO (mcell g cI cS sa) mord g) : ∀ (n : Nat) (x1 : Int32) (S : gS) (H : Heap) (locs : List Loc) (ls : Array Slot), gX D (mcell g cI cS sa) mord g S s H locs → lv_has ls 2 [(0, .ref (g 99)), (1, .int x1)] → fX12_keep_h12 N n x1 S = some o → W p l e (rmd 1) s m args below meth c H locs 0 0 (gE below args s D (mtys cI cS) (mcell g cI cS sa) mord g none o.2) (F0 m 12 ls []) := by
  intro n
  induction n with
  | zero =>
    intro x1 S H locs ls X hl hF
    exact absurd (show (none : Option (Int32 × gS)) = some o from hF) (by simp)
  | succ n ih =>
    intro x1 S H locs ls X hl hF
    have hF : fX12_keep_b12 N (fX12_keep_h12 N n) x1 S = some o := hF
    exact bX12_keep_12 C O ih X hl hF
noncomputable def fX12_keep_b9 (N : Nat) (S : gS) : Option (Int32 × gS) := fX12_keep_h12 N N 26 S
theorem bX12_keep_9 {N : Nat} {S : gS} {H : Heap} {locs : List Loc} {ls : Array Slot} {o : Int32 × gS} (C : gC p s m args meth c cX12_keep 2 RX12 none D (mtys cI cS) mord g Am) (O : gO (mcell g cI cS sa) mord g) (X : gX D (mcell g cI cS sa) mord g S s H locs) (hl : lv_has ls 2 [(0, .ref (g 99))]) (hF : fX12_keep_b9 N S = some o) : W p l e (rmd 1) s m args below meth c H locs 0 0 (gE below args s D (mtys cI cS) (mcell g cI cS sa) mord g none o.2) (F0 m 9 ls []) := by
  unfold fX12_keep_b9 at hF
  refine lv_bipush (v := 26) C.1.1 C.1.2.1 dX12_keep_9 (by decide) ?_
  refine lv_istore_n (lv' := [(1, .int 26), (0, .ref (g 99))]) C.1.1 C.1.2.1 dX12_keep_11 rfl hl (by decide) rfl (fun ls hl => ?_)
  exact hX12_keep_12 C O N _ _ _ _ _ X (lv_sub hl [1, 0] rfl) hF
noncomputable def fX12_keep_b0 (N : Nat) (S : gS) : Option (Int32 × gS) := if (S 99 39) = 40 then fX12_keep_b9 N S else fX12_keep_b52 N S
theorem bX12_keep_0 {N : Nat} {S : gS} {H : Heap} {locs : List Loc} {ls : Array Slot} {o : Int32 × gS} (C : gC p s m args meth c cX12_keep 2 RX12 none D (mtys cI cS) mord g Am) (O : gO (mcell g cI cS sa) mord g) (X : gX D (mcell g cI cS sa) mord g S s H locs) (hl : lv_has ls 2 [(0, .ref (g 99))]) (hF : fX12_keep_b0 N S = some o) : W p l e (rmd 1) s m args below meth c H locs 0 0 (gE below args s D (mtys cI cS) (mcell g cI cS sa) mord g none o.2) (F0 m 0 ls []) := by
  unfold fX12_keep_b0 at hF
  refine lv_aload_n C.1.1 C.1.2.1 dX12_keep_0 rfl (lv_at hl 0 rfl) ?_
  refine m_g39 C X dX12_keep_1 ?_
  refine lv_bipush (v := 40) C.1.1 C.1.2.1 dX12_keep_4 (by decide) ?_
  refine lv_icmp_ne (tgt := 52) C.1.1 C.1.2.1 dX12_keep_6 (by decide) (fun h_z => ?_) (fun h_z => ?_)
  · rw [if_neg h_z] at hF
    exact bX12_keep_52 C O X (lv_sub hl [0] rfl) hF
  · rw [if_pos h_z] at hF
    exact bX12_keep_9 C O X (lv_sub hl [0] rfl) hF
noncomputable def fX12_keep (N : Nat) (S : gS) : Option (Int32 × gS) := fX12_keep_b0 N S
theorem kX12_keep {l : Launch} {D : va_G} {g : Nat → Nat} {cI cS : ClassId} {sa : Nat → Nat → Option Nat} {Am : (Nat → Prop) → State → Heap → Prop} (O : gO (mcell g cI cS sa) mord g) (P : gAm Am) (N : Nat) (S : gS) (o : Int32 × gS) (hF : fX12_keep N S = some o) : gM l yX12_keep cX12_keep 2 none 1 D (mtys cI cS) (mcell g cI cS sa) mord g Am [.ref (g 99)] S none o.2 :=
  gM_of O P (by decide) (Nat.le_of_ble_eq_true rfl) (fun p e s m args below meth c ls C X hl => bX12_keep_0 C O X (lv_sub hl [0] rfl) hF)
end
end

/-! part 08.m04 -/
section
/-! the reference's methods as maps of states, and their walks (printed by wip/whole/mkm.py) -/
section
variable {p : Program} {l : Launch} {e : Env} {s : State} {m : MethodId} {args : Array Value} {below : List Frame} {meth : Method} {c : Code} {D : va_G} {g : Nat → Nat} {cI cS : ClassId} {sa : Nat → Nat → Option Nat} {Am : (Nat → Prop) → State → Heap → Prop}
-- hours
noncomputable def fX12_hours_b35 (N : Nat) (x1 : Int32) (S : gS) : Option (Int32 × gS) := bnd (fX12_keep N  S) fun q1 => (bnd (fX12_goOn N x1 q1.2) fun q2 => (some (q2.2 99 37, q2.2)))
theorem bX12_hours_35 {N : Nat} {x1 : Int32} {S : gS} {H : Heap} {locs : List Loc} {ls : Array Slot} {o : Int32 × gS} (C : gC p s m args meth c cX12_hours 2 RX12 ((some .int)) D (mtys cI cS) mord g Am) (O : gO (mcell g cI cS sa) mord g) (X : gX D (mcell g cI cS sa) mord g S s H locs) (hl : lv_has ls 2 [(0, .ref (g 99)), (1, .int x1)]) (hF : fX12_hours_b35 N x1 S = some o) : W p l e (rmd 7) s m args below meth c H locs 0 0 (gE below args s D (mtys cI cS) (mcell g cI cS sa) mord g (some (.int o.1)) o.2) (F0 m 35 ls []) := by
  unfold fX12_hours_b35 at hF
  refine lv_aload_n C.1.1 C.1.2.1 dX12_hours_35 rfl (lv_at hl 0 rfl) ?_
  obtain ⟨q1, hq1, hF⟩ := bnd_some hF
  refine m_callV C X vX12_keep rfl (kX12_keep O C.2.2.2.2.1 N   S q1 hq1) (Nat.le_of_ble_eq_true rfl) (Nat.le_of_ble_eq_true rfl) (Nat.le_of_ble_eq_true rfl) (Nat.le_of_ble_eq_true rfl) rfl hl.1 rfl (Nat.le_of_ble_eq_true rfl) dX12_hours_36 (fun H locs X => ?_)
  refine lv_aload_n C.1.1 C.1.2.1 dX12_hours_39 rfl (lv_at hl 0 rfl) ?_
  refine lv_iload_n C.1.1 C.1.2.1 dX12_hours_40 rfl (lv_at hl 1 rfl) ?_
  obtain ⟨q2, hq2, hF⟩ := bnd_some hF
  refine m_callV C X vX12_goOn rfl (kX12_goOn O C.2.2.2.2.1 N x1  q1.2 q2 hq2) (Nat.le_of_ble_eq_true rfl) (Nat.le_of_ble_eq_true rfl) (Nat.le_of_ble_eq_true rfl) (Nat.le_of_ble_eq_true rfl) rfl hl.1 rfl (Nat.le_of_ble_eq_true rfl) dX12_hours_41 (fun H locs X => ?_)
  refine lv_aload_n C.1.1 C.1.2.1 dX12_hours_44 rfl (lv_at hl 0 rfl) ?_
  refine m_g37 C X dX12_hours_45 ?_
  cases hF
  exact g_iret C X dX12_hours_48
noncomputable def fX12_hours_b29 (N : Nat) (S : gS) : Option (Int32 × gS) := bnd (fX12_refuse N 1 S) fun q1 => (some (q1.1, q1.2))
theorem bX12_hours_29 {N : Nat} {S : gS} {H : Heap} {locs : List Loc} {ls : Array Slot} {o : Int32 × gS} (C : gC p s m args meth c cX12_hours 2 RX12 ((some .int)) D (mtys cI cS) mord g Am) (O : gO (mcell g cI cS sa) mord g) (X : gX D (mcell g cI cS sa) mord g S s H locs) (hl : lv_has ls 2 [(0, .ref (g 99))]) (hF : fX12_hours_b29 N S = some o) : W p l e (rmd 7) s m args below meth c H locs 0 0 (gE below args s D (mtys cI cS) (mcell g cI cS sa) mord g (some (.int o.1)) o.2) (F0 m 29 ls []) := by
  unfold fX12_hours_b29 at hF
  refine lv_aload_n C.1.1 C.1.2.1 dX12_hours_29 rfl (lv_at hl 0 rfl) ?_
  refine lv_iconst (v := 1) C.1.1 C.1.2.1 dX12_hours_30 (by decide) ?_
  obtain ⟨q1, hq1, hF⟩ := bnd_some hF
  refine m_callVi C X vX12_refuse rfl (kX12_refuse O C.2.2.2.2.1 N 1  S q1 hq1) (Nat.le_of_ble_eq_true rfl) (Nat.le_of_ble_eq_true rfl) (Nat.le_of_ble_eq_true rfl) (Nat.le_of_ble_eq_true rfl) rfl hl.1 rfl (Nat.le_of_ble_eq_true rfl) dX12_hours_31 (fun H locs X => ?_)
  cases hF
  exact g_iret C X dX12_hours_34
noncomputable def fX12_hours_b17 (N : Nat) (x1 : Int32) (S : gS) : Option (Int32 × gS) := if (((S 99 37) + x1 : Int32)) ≤ 999 then fX12_hours_b35 N x1 S else fX12_hours_b29 N S
theorem bX12_hours_17 {N : Nat} {x1 : Int32} {S : gS} {H : Heap} {locs : List Loc} {ls : Array Slot} {o : Int32 × gS} (C : gC p s m args meth c cX12_hours 2 RX12 ((some .int)) D (mtys cI cS) mord g Am) (O : gO (mcell g cI cS sa) mord g) (X : gX D (mcell g cI cS sa) mord g S s H locs) (hl : lv_has ls 2 [(0, .ref (g 99)), (1, .int x1)]) (hF : fX12_hours_b17 N x1 S = some o) : W p l e (rmd 7) s m args below meth c H locs 0 0 (gE below args s D (mtys cI cS) (mcell g cI cS sa) mord g (some (.int o.1)) o.2) (F0 m 17 ls []) := by
  unfold fX12_hours_b17 at hF
  refine lv_aload_n C.1.1 C.1.2.1 dX12_hours_17 rfl (lv_at hl 0 rfl) ?_
  refine m_g37 C X dX12_hours_18 ?_
  refine lv_iload_n C.1.1 C.1.2.1 dX12_hours_21 rfl (lv_at hl 1 rfl) ?_
  refine lv_iadd C.1.1 C.1.2.1 dX12_hours_22 ?_
  refine lv_sipush (v := 999) C.1.1 C.1.2.1 dX12_hours_23 (by decide) ?_
  refine lv_icmp_le (tgt := 35) C.1.1 C.1.2.1 dX12_hours_26 (by decide) (fun h_z => ?_) (fun h_z => ?_)
  · rw [if_pos h_z] at hF
    exact bX12_hours_35 C O X (lv_sub hl [0, 1] rfl) hF
  · rw [if_neg h_z] at hF
    exact bX12_hours_29 C O X (lv_sub hl [0] rfl) hF
noncomputable def fX12_hours_b0 (N : Nat) (x1 : Int32) (S : gS) : Option (Int32 × gS) := lt (sU S 99 4 0) fun S1 => (bnd (fX12_isIn N (Int32.toInt64 x1) 1 20 S1) fun q1 => (if q1.1 = 0 then fX12_hours_b29 N q1.2 else fX12_hours_b17 N x1 q1.2))
theorem bX12_hours_0 {N : Nat} {x1 : Int32} {S : gS} {H : Heap} {locs : List Loc} {ls : Array Slot} {o : Int32 × gS} (C : gC p s m args meth c cX12_hours 2 RX12 ((some .int)) D (mtys cI cS) mord g Am) (O : gO (mcell g cI cS sa) mord g) (X : gX D (mcell g cI cS sa) mord g S s H locs) (hl : lv_has ls 2 [(0, .ref (g 99)), (1, .int x1)]) (hF : fX12_hours_b0 N x1 S = some o) : W p l e (rmd 7) s m args below meth c H locs 0 0 (gE below args s D (mtys cI cS) (mcell g cI cS sa) mord g (some (.int o.1)) o.2) (F0 m 0 ls []) := by
  unfold fX12_hours_b0 at hF
  refine lv_aload_n C.1.1 C.1.2.1 dX12_hours_0 rfl (lv_at hl 0 rfl) ?_
  refine lv_iconst (v := 0) C.1.1 C.1.2.1 dX12_hours_1 (by decide) ?_
  obtain ⟨S1, eS1, hF⟩ := lt_some hF
  refine m_p4 C O X eS1 dX12_hours_2 (fun H locs X => ?_)
  refine lv_iload_n C.1.1 C.1.2.1 dX12_hours_5 rfl (lv_at hl 1 rfl) ?_
  refine lv_i2l (v := Int32.toInt64 x1) C.1.1 C.1.2.1 dX12_hours_6 rfl ?_
  refine lv_lconst (v := 1) C.1.1 C.1.2.1 dX12_hours_7 (by decide) ?_
  refine lv_ldc2 C.1.1 C.1.2.1 C.1.2.2.2.1 (C.1.2.2.2.2 _ mKL404) dX12_hours_8 ?_
  obtain ⟨q1, hq1, hF⟩ := bnd_some hF
  refine g_callSi C X vX12_isIn (kX12_isIn O C.2.2.2.2.1 N (Int32.toInt64 x1) 1 20  S1 q1 hq1) (Nat.le_of_ble_eq_true rfl) (Nat.le_of_ble_eq_true rfl) (Nat.le_of_ble_eq_true rfl) (Nat.le_of_ble_eq_true rfl) rfl hl.1 rfl (Nat.le_of_ble_eq_true rfl) dX12_hours_11 (fun H locs X => ?_)
  refine lv_if_eq (tgt := 29) C.1.1 C.1.2.1 dX12_hours_14 (by decide) (fun h_z => ?_) (fun h_z => ?_)
  · rw [if_pos h_z] at hF
    exact bX12_hours_29 C O X (lv_sub hl [0] rfl) hF
  · rw [if_neg h_z] at hF
    exact bX12_hours_17 C O X (lv_sub hl [0, 1] rfl) hF
noncomputable def fX12_hours (N : Nat) (x1 : Int32) (S : gS) : Option (Int32 × gS) := fX12_hours_b0 N x1 S
theorem kX12_hours {l : Launch} {D : va_G} {g : Nat → Nat} {cI cS : ClassId} {sa : Nat → Nat → Option Nat} {Am : (Nat → Prop) → State → Heap → Prop} (O : gO (mcell g cI cS sa) mord g) (P : gAm Am) (N : Nat) (x1 : Int32) (S : gS) (o : Int32 × gS) (hF : fX12_hours N x1 S = some o) : gM l yX12_hours cX12_hours 2 ((some .int)) 7 D (mtys cI cS) (mcell g cI cS sa) mord g Am [.ref (g 99), .int x1] S (some (.int o.1)) o.2 :=
  gM_of O P (by decide) (Nat.le_of_ble_eq_true rfl) (fun p e s m args below meth c ls C X hl => bX12_hours_0 C O X (lv_sub hl [0, 1] rfl) hF)
-- hire
noncomputable def fX12_hire_b41 (N : Nat) (x1 : Int32) (x2 : Int32) (S : gS) : Option (Int32 × gS) := bnd (fX12_keep N  S) fun q1 => (chk (inb x1 (6)) (lt (sU q1.2 35 (Int32.toNatClampNeg x1) x2) fun S2 => (some (1, S2))))
theorem bX12_hire_41 {N : Nat} {x1 : Int32} {x2 : Int32} {S : gS} {H : Heap} {locs : List Loc} {ls : Array Slot} {o : Int32 × gS} (C : gC p s m args meth c cX12_hire 3 RX12 ((some .boolean)) D (mtys cI cS) mord g Am) (O : gO (mcell g cI cS sa) mord g) (X : gX D (mcell g cI cS sa) mord g S s H locs) (hl : lv_has ls 3 [(0, .ref (g 99)), (1, .int x1), (2, .int x2)]) (hF : fX12_hire_b41 N x1 x2 S = some o) : W p l e (rmd 2) s m args below meth c H locs 0 0 (gE below args s D (mtys cI cS) (mcell g cI cS sa) mord g (some (.int o.1)) o.2) (F0 m 41 ls []) := by
  unfold fX12_hire_b41 at hF
  refine lv_aload_n C.1.1 C.1.2.1 dX12_hire_41 rfl (lv_at hl 0 rfl) ?_
  obtain ⟨q1, hq1, hF⟩ := bnd_some hF
  refine m_callV C X vX12_keep rfl (kX12_keep O C.2.2.2.2.1 N   S q1 hq1) (Nat.le_of_ble_eq_true rfl) (Nat.le_of_ble_eq_true rfl) (Nat.le_of_ble_eq_true rfl) (Nat.le_of_ble_eq_true rfl) rfl hl.1 rfl (Nat.le_of_ble_eq_true rfl) dX12_hire_42 (fun H locs X => ?_)
  refine lv_aload_n C.1.1 C.1.2.1 dX12_hire_45 rfl (lv_at hl 0 rfl) ?_
  refine m_g35 C X dX12_hire_46 ?_
  refine lv_iload_n C.1.1 C.1.2.1 dX12_hire_49 rfl (lv_at hl 1 rfl) ?_
  refine lv_iload_n C.1.1 C.1.2.1 dX12_hire_50 rfl (lv_at hl 2 rfl) ?_
  obtain ⟨h_1, hF⟩ := chk_some hF
  obtain ⟨S2, eS2, hF⟩ := lt_some hF
  refine m_w35 C O X  (inb_vp h_1) rfl eS2 dX12_hire_51 (fun H locs X => ?_)
  refine lv_iconst (v := 1) C.1.1 C.1.2.1 dX12_hire_52 (by decide) ?_
  cases hF
  exact g_zret (x := 1) C X (by decide) dX12_hire_53
noncomputable def fX12_hire_b36 (N : Nat) (S : gS) : Option (Int32 × gS) := bnd (fX12_refused N  S) fun q1 => (chk (zb q1.1) (some (q1.1, q1.2)))
theorem bX12_hire_36 {N : Nat} {S : gS} {H : Heap} {locs : List Loc} {ls : Array Slot} {o : Int32 × gS} (C : gC p s m args meth c cX12_hire 3 RX12 ((some .boolean)) D (mtys cI cS) mord g Am) (O : gO (mcell g cI cS sa) mord g) (X : gX D (mcell g cI cS sa) mord g S s H locs) (hl : lv_has ls 3 [(0, .ref (g 99))]) (hF : fX12_hire_b36 N S = some o) : W p l e (rmd 2) s m args below meth c H locs 0 0 (gE below args s D (mtys cI cS) (mcell g cI cS sa) mord g (some (.int o.1)) o.2) (F0 m 36 ls []) := by
  unfold fX12_hire_b36 at hF
  refine lv_aload_n C.1.1 C.1.2.1 dX12_hire_36 rfl (lv_at hl 0 rfl) ?_
  obtain ⟨q1, hq1, hF⟩ := bnd_some hF
  refine m_callVi C X vX12_refused rfl (kX12_refused O C.2.2.2.2.1 N   S q1 hq1) (Nat.le_of_ble_eq_true rfl) (Nat.le_of_ble_eq_true rfl) (Nat.le_of_ble_eq_true rfl) (Nat.le_of_ble_eq_true rfl) rfl hl.1 rfl (Nat.le_of_ble_eq_true rfl) dX12_hire_37 (fun H locs X => ?_)
  obtain ⟨h_1, hF⟩ := chk_some hF
  cases hF
  exact g_zret C X h_1 dX12_hire_40
noncomputable def fX12_hire_b27 (N : Nat) (x1 : Int32) (x2 : Int32) (S : gS) : Option (Int32 × gS) := bnd (fX12_hirerOf N x2 S) fun q1 => (if q1.1 = ((-1)) then fX12_hire_b41 N x1 x2 q1.2 else fX12_hire_b36 N q1.2)
theorem bX12_hire_27 {N : Nat} {x1 : Int32} {x2 : Int32} {S : gS} {H : Heap} {locs : List Loc} {ls : Array Slot} {o : Int32 × gS} (C : gC p s m args meth c cX12_hire 3 RX12 ((some .boolean)) D (mtys cI cS) mord g Am) (O : gO (mcell g cI cS sa) mord g) (X : gX D (mcell g cI cS sa) mord g S s H locs) (hl : lv_has ls 3 [(0, .ref (g 99)), (1, .int x1), (2, .int x2)]) (hF : fX12_hire_b27 N x1 x2 S = some o) : W p l e (rmd 2) s m args below meth c H locs 0 0 (gE below args s D (mtys cI cS) (mcell g cI cS sa) mord g (some (.int o.1)) o.2) (F0 m 27 ls []) := by
  unfold fX12_hire_b27 at hF
  refine lv_aload_n C.1.1 C.1.2.1 dX12_hire_27 rfl (lv_at hl 0 rfl) ?_
  refine lv_iload_n C.1.1 C.1.2.1 dX12_hire_28 rfl (lv_at hl 2 rfl) ?_
  obtain ⟨q1, hq1, hF⟩ := bnd_some hF
  refine m_callVi C X vX12_hirerOf rfl (kX12_hirerOf O C.2.2.2.2.1 N x2  S q1 hq1) (Nat.le_of_ble_eq_true rfl) (Nat.le_of_ble_eq_true rfl) (Nat.le_of_ble_eq_true rfl) (Nat.le_of_ble_eq_true rfl) rfl hl.1 rfl (Nat.le_of_ble_eq_true rfl) dX12_hire_29 (fun H locs X => ?_)
  refine lv_iconst (v := (-1)) C.1.1 C.1.2.1 dX12_hire_32 (by decide) ?_
  refine lv_icmp_eq (tgt := 41) C.1.1 C.1.2.1 dX12_hire_33 (by decide) (fun h_z => ?_) (fun h_z => ?_)
  · rw [if_pos h_z] at hF
    exact bX12_hire_41 C O X (lv_sub hl [0, 1, 2] rfl) hF
  · rw [if_neg h_z] at hF
    exact bX12_hire_36 C O X (lv_sub hl [0] rfl) hF
noncomputable def fX12_hire_b21 (N : Nat) (S : gS) : Option (Int32 × gS) := bnd (fX12_failing N 1 S) fun q1 => (chk (zb q1.1) (some (q1.1, q1.2)))
theorem bX12_hire_21 {N : Nat} {S : gS} {H : Heap} {locs : List Loc} {ls : Array Slot} {o : Int32 × gS} (C : gC p s m args meth c cX12_hire 3 RX12 ((some .boolean)) D (mtys cI cS) mord g Am) (O : gO (mcell g cI cS sa) mord g) (X : gX D (mcell g cI cS sa) mord g S s H locs) (hl : lv_has ls 3 [(0, .ref (g 99))]) (hF : fX12_hire_b21 N S = some o) : W p l e (rmd 2) s m args below meth c H locs 0 0 (gE below args s D (mtys cI cS) (mcell g cI cS sa) mord g (some (.int o.1)) o.2) (F0 m 21 ls []) := by
  unfold fX12_hire_b21 at hF
  refine lv_aload_n C.1.1 C.1.2.1 dX12_hire_21 rfl (lv_at hl 0 rfl) ?_
  refine lv_iconst (v := 1) C.1.1 C.1.2.1 dX12_hire_22 (by decide) ?_
  obtain ⟨q1, hq1, hF⟩ := bnd_some hF
  refine m_callVi C X vX12_failing rfl (kX12_failing O C.2.2.2.2.1 N 1  S q1 hq1) (Nat.le_of_ble_eq_true rfl) (Nat.le_of_ble_eq_true rfl) (Nat.le_of_ble_eq_true rfl) (Nat.le_of_ble_eq_true rfl) rfl hl.1 rfl (Nat.le_of_ble_eq_true rfl) dX12_hire_23 (fun H locs X => ?_)
  obtain ⟨h_1, hF⟩ := chk_some hF
  cases hF
  exact g_zret C X h_1 dX12_hire_26
noncomputable def fX12_hire_b13 (N : Nat) (x1 : Int32) (x2 : Int32) (S : gS) : Option (Int32 × gS) := bnd (fX12_isGrotto N x2 S) fun q1 => (if q1.1 = 0 then fX12_hire_b21 N q1.2 else fX12_hire_b27 N x1 x2 q1.2)
theorem bX12_hire_13 {N : Nat} {x1 : Int32} {x2 : Int32} {S : gS} {H : Heap} {locs : List Loc} {ls : Array Slot} {o : Int32 × gS} (C : gC p s m args meth c cX12_hire 3 RX12 ((some .boolean)) D (mtys cI cS) mord g Am) (O : gO (mcell g cI cS sa) mord g) (X : gX D (mcell g cI cS sa) mord g S s H locs) (hl : lv_has ls 3 [(0, .ref (g 99)), (1, .int x1), (2, .int x2)]) (hF : fX12_hire_b13 N x1 x2 S = some o) : W p l e (rmd 2) s m args below meth c H locs 0 0 (gE below args s D (mtys cI cS) (mcell g cI cS sa) mord g (some (.int o.1)) o.2) (F0 m 13 ls []) := by
  unfold fX12_hire_b13 at hF
  refine lv_aload_n C.1.1 C.1.2.1 dX12_hire_13 rfl (lv_at hl 0 rfl) ?_
  refine lv_iload_n C.1.1 C.1.2.1 dX12_hire_14 rfl (lv_at hl 2 rfl) ?_
  obtain ⟨q1, hq1, hF⟩ := bnd_some hF
  refine m_callVi C X vX12_isGrotto rfl (kX12_isGrotto O C.2.2.2.2.1 N x2  S q1 hq1) (Nat.le_of_ble_eq_true rfl) (Nat.le_of_ble_eq_true rfl) (Nat.le_of_ble_eq_true rfl) (Nat.le_of_ble_eq_true rfl) rfl hl.1 rfl (Nat.le_of_ble_eq_true rfl) dX12_hire_15 (fun H locs X => ?_)
  refine lv_if_ne (tgt := 27) C.1.1 C.1.2.1 dX12_hire_18 (by decide) (fun h_z => ?_) (fun h_z => ?_)
  · rw [if_neg h_z] at hF
    exact bX12_hire_27 C O X (lv_sub hl [0, 1, 2] rfl) hF
  · rw [if_pos h_z] at hF
    exact bX12_hire_21 C O X (lv_sub hl [0] rfl) hF
noncomputable def fX12_hire_b0 (N : Nat) (x1 : Int32) (x2 : Int32) (S : gS) : Option (Int32 × gS) := lt (sU S 99 4 0) fun S1 => (bnd (fX12_isGuild N x1 S1) fun q1 => (if q1.1 = 0 then fX12_hire_b21 N q1.2 else fX12_hire_b13 N x1 x2 q1.2))
theorem bX12_hire_0 {N : Nat} {x1 : Int32} {x2 : Int32} {S : gS} {H : Heap} {locs : List Loc} {ls : Array Slot} {o : Int32 × gS} (C : gC p s m args meth c cX12_hire 3 RX12 ((some .boolean)) D (mtys cI cS) mord g Am) (O : gO (mcell g cI cS sa) mord g) (X : gX D (mcell g cI cS sa) mord g S s H locs) (hl : lv_has ls 3 [(0, .ref (g 99)), (1, .int x1), (2, .int x2)]) (hF : fX12_hire_b0 N x1 x2 S = some o) : W p l e (rmd 2) s m args below meth c H locs 0 0 (gE below args s D (mtys cI cS) (mcell g cI cS sa) mord g (some (.int o.1)) o.2) (F0 m 0 ls []) := by
  unfold fX12_hire_b0 at hF
  refine lv_aload_n C.1.1 C.1.2.1 dX12_hire_0 rfl (lv_at hl 0 rfl) ?_
  refine lv_iconst (v := 0) C.1.1 C.1.2.1 dX12_hire_1 (by decide) ?_
  obtain ⟨S1, eS1, hF⟩ := lt_some hF
  refine m_p4 C O X eS1 dX12_hire_2 (fun H locs X => ?_)
  refine lv_aload_n C.1.1 C.1.2.1 dX12_hire_5 rfl (lv_at hl 0 rfl) ?_
  refine lv_iload_n C.1.1 C.1.2.1 dX12_hire_6 rfl (lv_at hl 1 rfl) ?_
  obtain ⟨q1, hq1, hF⟩ := bnd_some hF
  refine m_callVi C X vX12_isGuild rfl (kX12_isGuild O C.2.2.2.2.1 N x1  S1 q1 hq1) (Nat.le_of_ble_eq_true rfl) (Nat.le_of_ble_eq_true rfl) (Nat.le_of_ble_eq_true rfl) (Nat.le_of_ble_eq_true rfl) rfl hl.1 rfl (Nat.le_of_ble_eq_true rfl) dX12_hire_7 (fun H locs X => ?_)
  refine lv_if_eq (tgt := 21) C.1.1 C.1.2.1 dX12_hire_10 (by decide) (fun h_z => ?_) (fun h_z => ?_)
  · rw [if_pos h_z] at hF
    exact bX12_hire_21 C O X (lv_sub hl [0] rfl) hF
  · rw [if_neg h_z] at hF
    exact bX12_hire_13 C O X (lv_sub hl [0, 1, 2] rfl) hF
noncomputable def fX12_hire (N : Nat) (x1 : Int32) (x2 : Int32) (S : gS) : Option (Int32 × gS) := fX12_hire_b0 N x1 x2 S
theorem kX12_hire {l : Launch} {D : va_G} {g : Nat → Nat} {cI cS : ClassId} {sa : Nat → Nat → Option Nat} {Am : (Nat → Prop) → State → Heap → Prop} (O : gO (mcell g cI cS sa) mord g) (P : gAm Am) (N : Nat) (x1 : Int32) (x2 : Int32) (S : gS) (o : Int32 × gS) (hF : fX12_hire N x1 x2 S = some o) : gM l yX12_hire cX12_hire 3 ((some .boolean)) 2 D (mtys cI cS) (mcell g cI cS sa) mord g Am [.ref (g 99), .int x1, .int x2] S (some (.int o.1)) o.2 :=
  gM_of O P (by decide) (Nat.le_of_ble_eq_true rfl) (fun p e s m args below meth c ls C X hl => bX12_hire_0 C O X (lv_sub hl [0, 1, 2] rfl) hF)
-- dismiss
noncomputable def fX12_dismiss_b37 (N : Nat) (x1 : Int32) (x2 : Int32) (S : gS) : Option (Int32 × gS) := bnd (fX12_keep N  S) fun q1 => (chk (inb x1 (6)) (lt (sU q1.2 35 (Int32.toNatClampNeg x1) ((-1))) fun S2 => (some (x2, S2))))
theorem bX12_dismiss_37 {N : Nat} {x1 : Int32} {x2 : Int32} {S : gS} {H : Heap} {locs : List Loc} {ls : Array Slot} {o : Int32 × gS} (C : gC p s m args meth c cX12_dismiss 3 RX12 ((some .int)) D (mtys cI cS) mord g Am) (O : gO (mcell g cI cS sa) mord g) (X : gX D (mcell g cI cS sa) mord g S s H locs) (hl : lv_has ls 3 [(0, .ref (g 99)), (1, .int x1), (2, .int x2)]) (hF : fX12_dismiss_b37 N x1 x2 S = some o) : W p l e (rmd 2) s m args below meth c H locs 0 0 (gE below args s D (mtys cI cS) (mcell g cI cS sa) mord g (some (.int o.1)) o.2) (F0 m 37 ls []) := by
  unfold fX12_dismiss_b37 at hF
  refine lv_aload_n C.1.1 C.1.2.1 dX12_dismiss_37 rfl (lv_at hl 0 rfl) ?_
  obtain ⟨q1, hq1, hF⟩ := bnd_some hF
  refine m_callV C X vX12_keep rfl (kX12_keep O C.2.2.2.2.1 N   S q1 hq1) (Nat.le_of_ble_eq_true rfl) (Nat.le_of_ble_eq_true rfl) (Nat.le_of_ble_eq_true rfl) (Nat.le_of_ble_eq_true rfl) rfl hl.1 rfl (Nat.le_of_ble_eq_true rfl) dX12_dismiss_38 (fun H locs X => ?_)
  refine lv_aload_n C.1.1 C.1.2.1 dX12_dismiss_41 rfl (lv_at hl 0 rfl) ?_
  refine m_g35 C X dX12_dismiss_42 ?_
  refine lv_iload_n C.1.1 C.1.2.1 dX12_dismiss_45 rfl (lv_at hl 1 rfl) ?_
  refine lv_iconst (v := (-1)) C.1.1 C.1.2.1 dX12_dismiss_46 (by decide) ?_
  obtain ⟨h_1, hF⟩ := chk_some hF
  obtain ⟨S2, eS2, hF⟩ := lt_some hF
  refine m_w35 C O X  (inb_vp h_1) rfl eS2 dX12_dismiss_47 (fun H locs X => ?_)
  refine lv_iload_n C.1.1 C.1.2.1 dX12_dismiss_48 rfl (lv_at hl 2 rfl) ?_
  cases hF
  exact g_iret C X dX12_dismiss_49
noncomputable def fX12_dismiss_b31 (N : Nat) (S : gS) : Option (Int32 × gS) := bnd (fX12_refuse N 1 S) fun q1 => (some (q1.1, q1.2))
theorem bX12_dismiss_31 {N : Nat} {S : gS} {H : Heap} {locs : List Loc} {ls : Array Slot} {o : Int32 × gS} (C : gC p s m args meth c cX12_dismiss 3 RX12 ((some .int)) D (mtys cI cS) mord g Am) (O : gO (mcell g cI cS sa) mord g) (X : gX D (mcell g cI cS sa) mord g S s H locs) (hl : lv_has ls 3 [(0, .ref (g 99))]) (hF : fX12_dismiss_b31 N S = some o) : W p l e (rmd 2) s m args below meth c H locs 0 0 (gE below args s D (mtys cI cS) (mcell g cI cS sa) mord g (some (.int o.1)) o.2) (F0 m 31 ls []) := by
  unfold fX12_dismiss_b31 at hF
  refine lv_aload_n C.1.1 C.1.2.1 dX12_dismiss_31 rfl (lv_at hl 0 rfl) ?_
  refine lv_iconst (v := 1) C.1.1 C.1.2.1 dX12_dismiss_32 (by decide) ?_
  obtain ⟨q1, hq1, hF⟩ := bnd_some hF
  refine m_callVi C X vX12_refuse rfl (kX12_refuse O C.2.2.2.2.1 N 1  S q1 hq1) (Nat.le_of_ble_eq_true rfl) (Nat.le_of_ble_eq_true rfl) (Nat.le_of_ble_eq_true rfl) (Nat.le_of_ble_eq_true rfl) rfl hl.1 rfl (Nat.le_of_ble_eq_true rfl) dX12_dismiss_33 (fun H locs X => ?_)
  cases hF
  exact g_iret C X dX12_dismiss_36
noncomputable def fX12_dismiss_b19 (N : Nat) (x1 : Int32) (S : gS) : Option (Int32 × gS) := chk (inb x1 (6)) (if (S 35 (Int32.toNatClampNeg x1)) = ((-1)) then fX12_dismiss_b31 N S else fX12_dismiss_b37 N x1 (S 35 (Int32.toNatClampNeg x1)) S)
theorem bX12_dismiss_19 {N : Nat} {x1 : Int32} {S : gS} {H : Heap} {locs : List Loc} {ls : Array Slot} {o : Int32 × gS} (C : gC p s m args meth c cX12_dismiss 3 RX12 ((some .int)) D (mtys cI cS) mord g Am) (O : gO (mcell g cI cS sa) mord g) (X : gX D (mcell g cI cS sa) mord g S s H locs) (hl : lv_has ls 3 [(0, .ref (g 99)), (1, .int x1)]) (hF : fX12_dismiss_b19 N x1 S = some o) : W p l e (rmd 2) s m args below meth c H locs 0 0 (gE below args s D (mtys cI cS) (mcell g cI cS sa) mord g (some (.int o.1)) o.2) (F0 m 19 ls []) := by
  unfold fX12_dismiss_b19 at hF
  refine lv_aload_n C.1.1 C.1.2.1 dX12_dismiss_19 rfl (lv_at hl 0 rfl) ?_
  refine m_g35 C X dX12_dismiss_20 ?_
  refine lv_iload_n C.1.1 C.1.2.1 dX12_dismiss_23 rfl (lv_at hl 1 rfl) ?_
  obtain ⟨h_1, hF⟩ := chk_some hF
  refine m_r35 C X  (inb_vp h_1) rfl dX12_dismiss_24 ?_
  refine lv_istore_n (lv' := [(2, .int (S 35 (Int32.toNatClampNeg x1))), (0, .ref (g 99)), (1, .int x1)]) C.1.1 C.1.2.1 dX12_dismiss_25 rfl hl (by decide) rfl (fun ls hl => ?_)
  refine lv_iload_n C.1.1 C.1.2.1 dX12_dismiss_26 rfl (lv_at hl 0 rfl) ?_
  refine lv_iconst (v := (-1)) C.1.1 C.1.2.1 dX12_dismiss_27 (by decide) ?_
  refine lv_icmp_ne (tgt := 37) C.1.1 C.1.2.1 dX12_dismiss_28 (by decide) (fun h_z => ?_) (fun h_z => ?_)
  · rw [if_neg h_z] at hF
    exact bX12_dismiss_37 C O X (lv_sub hl [1, 2, 0] rfl) hF
  · rw [if_pos h_z] at hF
    exact bX12_dismiss_31 C O X (lv_sub hl [1] rfl) hF
noncomputable def fX12_dismiss_b13 (N : Nat) (S : gS) : Option (Int32 × gS) := bnd (fX12_fail N 1 S) fun q1 => (some (q1.1, q1.2))
theorem bX12_dismiss_13 {N : Nat} {S : gS} {H : Heap} {locs : List Loc} {ls : Array Slot} {o : Int32 × gS} (C : gC p s m args meth c cX12_dismiss 3 RX12 ((some .int)) D (mtys cI cS) mord g Am) (O : gO (mcell g cI cS sa) mord g) (X : gX D (mcell g cI cS sa) mord g S s H locs) (hl : lv_has ls 3 [(0, .ref (g 99))]) (hF : fX12_dismiss_b13 N S = some o) : W p l e (rmd 2) s m args below meth c H locs 0 0 (gE below args s D (mtys cI cS) (mcell g cI cS sa) mord g (some (.int o.1)) o.2) (F0 m 13 ls []) := by
  unfold fX12_dismiss_b13 at hF
  refine lv_aload_n C.1.1 C.1.2.1 dX12_dismiss_13 rfl (lv_at hl 0 rfl) ?_
  refine lv_iconst (v := 1) C.1.1 C.1.2.1 dX12_dismiss_14 (by decide) ?_
  obtain ⟨q1, hq1, hF⟩ := bnd_some hF
  refine m_callVi C X vX12_fail rfl (kX12_fail O C.2.2.2.2.1 N 1  S q1 hq1) (Nat.le_of_ble_eq_true rfl) (Nat.le_of_ble_eq_true rfl) (Nat.le_of_ble_eq_true rfl) (Nat.le_of_ble_eq_true rfl) rfl hl.1 rfl (Nat.le_of_ble_eq_true rfl) dX12_dismiss_15 (fun H locs X => ?_)
  cases hF
  exact g_iret C X dX12_dismiss_18
noncomputable def fX12_dismiss_b0 (N : Nat) (x1 : Int32) (S : gS) : Option (Int32 × gS) := lt (sU S 99 4 0) fun S1 => (bnd (fX12_isGuild N x1 S1) fun q1 => (if q1.1 = 0 then fX12_dismiss_b13 N q1.2 else fX12_dismiss_b19 N x1 q1.2))
theorem bX12_dismiss_0 {N : Nat} {x1 : Int32} {S : gS} {H : Heap} {locs : List Loc} {ls : Array Slot} {o : Int32 × gS} (C : gC p s m args meth c cX12_dismiss 3 RX12 ((some .int)) D (mtys cI cS) mord g Am) (O : gO (mcell g cI cS sa) mord g) (X : gX D (mcell g cI cS sa) mord g S s H locs) (hl : lv_has ls 3 [(0, .ref (g 99)), (1, .int x1)]) (hF : fX12_dismiss_b0 N x1 S = some o) : W p l e (rmd 2) s m args below meth c H locs 0 0 (gE below args s D (mtys cI cS) (mcell g cI cS sa) mord g (some (.int o.1)) o.2) (F0 m 0 ls []) := by
  unfold fX12_dismiss_b0 at hF
  refine lv_aload_n C.1.1 C.1.2.1 dX12_dismiss_0 rfl (lv_at hl 0 rfl) ?_
  refine lv_iconst (v := 0) C.1.1 C.1.2.1 dX12_dismiss_1 (by decide) ?_
  obtain ⟨S1, eS1, hF⟩ := lt_some hF
  refine m_p4 C O X eS1 dX12_dismiss_2 (fun H locs X => ?_)
  refine lv_aload_n C.1.1 C.1.2.1 dX12_dismiss_5 rfl (lv_at hl 0 rfl) ?_
  refine lv_iload_n C.1.1 C.1.2.1 dX12_dismiss_6 rfl (lv_at hl 1 rfl) ?_
  obtain ⟨q1, hq1, hF⟩ := bnd_some hF
  refine m_callVi C X vX12_isGuild rfl (kX12_isGuild O C.2.2.2.2.1 N x1  S1 q1 hq1) (Nat.le_of_ble_eq_true rfl) (Nat.le_of_ble_eq_true rfl) (Nat.le_of_ble_eq_true rfl) (Nat.le_of_ble_eq_true rfl) rfl hl.1 rfl (Nat.le_of_ble_eq_true rfl) dX12_dismiss_7 (fun H locs X => ?_)
  refine lv_if_ne (tgt := 19) C.1.1 C.1.2.1 dX12_dismiss_10 (by decide) (fun h_z => ?_) (fun h_z => ?_)
  · rw [if_neg h_z] at hF
    exact bX12_dismiss_19 C O X (lv_sub hl [0, 1] rfl) hF
  · rw [if_pos h_z] at hF
    exact bX12_dismiss_13 C O X (lv_sub hl [0] rfl) hF
noncomputable def fX12_dismiss (N : Nat) (x1 : Int32) (S : gS) : Option (Int32 × gS) := fX12_dismiss_b0 N x1 S
theorem kX12_dismiss {l : Launch} {D : va_G} {g : Nat → Nat} {cI cS : ClassId} {sa : Nat → Nat → Option Nat} {Am : (Nat → Prop) → State → Heap → Prop} (O : gO (mcell g cI cS sa) mord g) (P : gAm Am) (N : Nat) (x1 : Int32) (S : gS) (o : Int32 × gS) (hF : fX12_dismiss N x1 S = some o) : gM l yX12_dismiss cX12_dismiss 3 ((some .int)) 2 D (mtys cI cS) (mcell g cI cS sa) mord g Am [.ref (g 99), .int x1] S (some (.int o.1)) o.2 :=
  gM_of O P (by decide) (Nat.le_of_ble_eq_true rfl) (fun p e s m args below meth c ls C X hl => bX12_dismiss_0 C O X (lv_sub hl [0, 1] rfl) hF)
-- canConfess
noncomputable def fX12_canConfess_b16 (N : Nat) (t0 : Int32) (S : gS) : Option (Int32 × gS) := chk (zb t0) (some (t0, S))
theorem bX12_canConfess_16 {N : Nat} {t0 : Int32} {S : gS} {H : Heap} {locs : List Loc} {ls : Array Slot} {o : Int32 × gS} (C : gC p s m args meth c cX12_canConfess 2 RX12 ((some .boolean)) D (mtys cI cS) mord g Am) (O : gO (mcell g cI cS sa) mord g) (X : gX D (mcell g cI cS sa) mord g S s H locs) (hl : lv_has ls 2 []) (hF : fX12_canConfess_b16 N t0 S = some o) : W p l e (rmd 0) s m args below meth c H locs 0 0 (gE below args s D (mtys cI cS) (mcell g cI cS sa) mord g (some (.int o.1)) o.2) (F0 m 16 ls [.int t0]) := by
  unfold fX12_canConfess_b16 at hF
  obtain ⟨h_1, hF⟩ := chk_some hF
  cases hF
  exact g_zret C X h_1 dX12_canConfess_16
noncomputable def fX12_canConfess_b15 (N : Nat) (S : gS) : Option (Int32 × gS) := fX12_canConfess_b16 N 0 S
theorem bX12_canConfess_15 {N : Nat} {S : gS} {H : Heap} {locs : List Loc} {ls : Array Slot} {o : Int32 × gS} (C : gC p s m args meth c cX12_canConfess 2 RX12 ((some .boolean)) D (mtys cI cS) mord g Am) (O : gO (mcell g cI cS sa) mord g) (X : gX D (mcell g cI cS sa) mord g S s H locs) (hl : lv_has ls 2 []) (hF : fX12_canConfess_b15 N S = some o) : W p l e (rmd 0) s m args below meth c H locs 0 0 (gE below args s D (mtys cI cS) (mcell g cI cS sa) mord g (some (.int o.1)) o.2) (F0 m 15 ls []) := by
  unfold fX12_canConfess_b15 at hF
  refine lv_iconst (v := 0) C.1.1 C.1.2.1 dX12_canConfess_15 (by decide) ?_
  exact bX12_canConfess_16 C O X (lv_sub hl [] rfl) hF
noncomputable def fX12_canConfess_b11 (N : Nat) (S : gS) : Option (Int32 × gS) := fX12_canConfess_b16 N 1 S
theorem bX12_canConfess_11 {N : Nat} {S : gS} {H : Heap} {locs : List Loc} {ls : Array Slot} {o : Int32 × gS} (C : gC p s m args meth c cX12_canConfess 2 RX12 ((some .boolean)) D (mtys cI cS) mord g Am) (O : gO (mcell g cI cS sa) mord g) (X : gX D (mcell g cI cS sa) mord g S s H locs) (hl : lv_has ls 2 []) (hF : fX12_canConfess_b11 N S = some o) : W p l e (rmd 0) s m args below meth c H locs 0 0 (gE below args s D (mtys cI cS) (mcell g cI cS sa) mord g (some (.int o.1)) o.2) (F0 m 11 ls []) := by
  unfold fX12_canConfess_b11 at hF
  refine lv_iconst (v := 1) C.1.1 C.1.2.1 dX12_canConfess_11 (by decide) ?_
  refine lv_goto (tgt := 16) C.1.1 C.1.2.1 dX12_canConfess_12 (by decide) ?_
  exact bX12_canConfess_16 C O X (lv_sub hl [] rfl) hF
noncomputable def fX12_canConfess_b0 (N : Nat) (x1 : Int32) (S : gS) : Option (Int32 × gS) := chk (inb x1 (6)) (if (S 33 (Int32.toNatClampNeg x1)) < 50 then fX12_canConfess_b15 N S else fX12_canConfess_b11 N S)
theorem bX12_canConfess_0 {N : Nat} {x1 : Int32} {S : gS} {H : Heap} {locs : List Loc} {ls : Array Slot} {o : Int32 × gS} (C : gC p s m args meth c cX12_canConfess 2 RX12 ((some .boolean)) D (mtys cI cS) mord g Am) (O : gO (mcell g cI cS sa) mord g) (X : gX D (mcell g cI cS sa) mord g S s H locs) (hl : lv_has ls 2 [(0, .ref (g 99)), (1, .int x1)]) (hF : fX12_canConfess_b0 N x1 S = some o) : W p l e (rmd 0) s m args below meth c H locs 0 0 (gE below args s D (mtys cI cS) (mcell g cI cS sa) mord g (some (.int o.1)) o.2) (F0 m 0 ls []) := by
  unfold fX12_canConfess_b0 at hF
  refine lv_aload_n C.1.1 C.1.2.1 dX12_canConfess_0 rfl (lv_at hl 0 rfl) ?_
  refine m_g33 C X dX12_canConfess_1 ?_
  refine lv_iload_n C.1.1 C.1.2.1 dX12_canConfess_4 rfl (lv_at hl 1 rfl) ?_
  obtain ⟨h_1, hF⟩ := chk_some hF
  refine m_r33 C X  (inb_vp h_1) rfl dX12_canConfess_5 ?_
  refine lv_bipush (v := 50) C.1.1 C.1.2.1 dX12_canConfess_6 (by decide) ?_
  refine lv_icmp_lt (tgt := 15) C.1.1 C.1.2.1 dX12_canConfess_8 (by decide) (fun h_z => ?_) (fun h_z => ?_)
  · rw [if_pos h_z] at hF
    exact bX12_canConfess_15 C O X (lv_sub hl [] rfl) hF
  · rw [if_neg h_z] at hF
    exact bX12_canConfess_11 C O X (lv_sub hl [] rfl) hF
noncomputable def fX12_canConfess (N : Nat) (x1 : Int32) (S : gS) : Option (Int32 × gS) := fX12_canConfess_b0 N x1 S
theorem kX12_canConfess {l : Launch} {D : va_G} {g : Nat → Nat} {cI cS : ClassId} {sa : Nat → Nat → Option Nat} {Am : (Nat → Prop) → State → Heap → Prop} (O : gO (mcell g cI cS sa) mord g) (P : gAm Am) (N : Nat) (x1 : Int32) (S : gS) (o : Int32 × gS) (hF : fX12_canConfess N x1 S = some o) : gM l yX12_canConfess cX12_canConfess 2 ((some .boolean)) 0 D (mtys cI cS) (mcell g cI cS sa) mord g Am [.ref (g 99), .int x1] S (some (.int o.1)) o.2 :=
  gM_of O P (by decide) (Nat.le_of_ble_eq_true rfl) (fun p e s m args below meth c ls C X hl => bX12_canConfess_0 C O X (lv_sub hl [0, 1] rfl) hF)
-- doConfess
noncomputable def fX12_doConfess_b0 (N : Nat) (x1 : Int32) (S : gS) : Option (Int32 × gS) := chk (inb x1 (6)) (chk (inb x1 (6)) (lt (sU S 33 (Int32.toNatClampNeg x1) (((S 33 (Int32.toNatClampNeg x1)) - 50 : Int32))) fun S1 => (chk (inb x1 (6)) (chk (inb x1 (6)) (lt (sU S1 32 (Int32.toNatClampNeg x1) (((S1 32 (Int32.toNatClampNeg x1)) / 2 : Int32))) fun S2 => (some (0, S2)))))))
theorem bX12_doConfess_0 {N : Nat} {x1 : Int32} {S : gS} {H : Heap} {locs : List Loc} {ls : Array Slot} {o : Int32 × gS} (C : gC p s m args meth c cX12_doConfess 2 RX12 none D (mtys cI cS) mord g Am) (O : gO (mcell g cI cS sa) mord g) (X : gX D (mcell g cI cS sa) mord g S s H locs) (hl : lv_has ls 2 [(0, .ref (g 99)), (1, .int x1)]) (hF : fX12_doConfess_b0 N x1 S = some o) : W p l e (rmd 0) s m args below meth c H locs 0 0 (gE below args s D (mtys cI cS) (mcell g cI cS sa) mord g none o.2) (F0 m 0 ls []) := by
  unfold fX12_doConfess_b0 at hF
  refine lv_aload_n C.1.1 C.1.2.1 dX12_doConfess_0 rfl (lv_at hl 0 rfl) ?_
  refine m_g33 C X dX12_doConfess_1 ?_
  refine lv_iload_n C.1.1 C.1.2.1 dX12_doConfess_4 rfl (lv_at hl 1 rfl) ?_
  refine lv_dup2_11 C.1.1 C.1.2.1 dX12_doConfess_5 rfl rfl ?_
  obtain ⟨h_1, hF⟩ := chk_some hF
  refine m_r33 C X  (inb_vp h_1) rfl dX12_doConfess_6 ?_
  refine lv_bipush (v := 50) C.1.1 C.1.2.1 dX12_doConfess_7 (by decide) ?_
  refine lv_isub C.1.1 C.1.2.1 dX12_doConfess_9 ?_
  obtain ⟨h_2, hF⟩ := chk_some hF
  obtain ⟨S1, eS1, hF⟩ := lt_some hF
  refine m_w33 C O X  (inb_vp h_2) rfl eS1 dX12_doConfess_10 (fun H locs X => ?_)
  refine lv_aload_n C.1.1 C.1.2.1 dX12_doConfess_11 rfl (lv_at hl 0 rfl) ?_
  refine m_g32 C X dX12_doConfess_12 ?_
  refine lv_iload_n C.1.1 C.1.2.1 dX12_doConfess_15 rfl (lv_at hl 1 rfl) ?_
  refine lv_dup2_11 C.1.1 C.1.2.1 dX12_doConfess_16 rfl rfl ?_
  obtain ⟨h_3, hF⟩ := chk_some hF
  refine m_r32 C X  (inb_vp h_3) rfl dX12_doConfess_17 ?_
  refine lv_iconst (v := 2) C.1.1 C.1.2.1 dX12_doConfess_18 (by decide) ?_
  refine lv_idiv C.1.1 C.1.2.1 dX12_doConfess_19 (by decide) ?_
  obtain ⟨h_4, hF⟩ := chk_some hF
  obtain ⟨S2, eS2, hF⟩ := lt_some hF
  refine m_w32 C O X  (inb_vp h_4) rfl eS2 dX12_doConfess_20 (fun H locs X => ?_)
  cases hF
  exact g_vret C X dX12_doConfess_21
noncomputable def fX12_doConfess (N : Nat) (x1 : Int32) (S : gS) : Option (Int32 × gS) := fX12_doConfess_b0 N x1 S
theorem kX12_doConfess {l : Launch} {D : va_G} {g : Nat → Nat} {cI cS : ClassId} {sa : Nat → Nat → Option Nat} {Am : (Nat → Prop) → State → Heap → Prop} (O : gO (mcell g cI cS sa) mord g) (P : gAm Am) (N : Nat) (x1 : Int32) (S : gS) (o : Int32 × gS) (hF : fX12_doConfess N x1 S = some o) : gM l yX12_doConfess cX12_doConfess 2 none 0 D (mtys cI cS) (mcell g cI cS sa) mord g Am [.ref (g 99), .int x1] S none o.2 :=
  gM_of O P (by decide) (Nat.le_of_ble_eq_true rfl) (fun p e s m args below meth c ls C X hl => bX12_doConfess_0 C O X (lv_sub hl [0, 1] rfl) hF)
-- confess
noncomputable def fX12_confess_b33 (N : Nat) (x1 : Int32) (S : gS) : Option (Int32 × gS) := bnd (fX12_keep N  S) fun q1 => (bnd (fX12_doConfess N x1 q1.2) fun q2 => (chk (inb x1 (6)) (some (q2.2 32 (Int32.toNatClampNeg x1), q2.2))))
theorem bX12_confess_33 {N : Nat} {x1 : Int32} {S : gS} {H : Heap} {locs : List Loc} {ls : Array Slot} {o : Int32 × gS} (C : gC p s m args meth c cX12_confess 2 RX12 ((some .int)) D (mtys cI cS) mord g Am) (O : gO (mcell g cI cS sa) mord g) (X : gX D (mcell g cI cS sa) mord g S s H locs) (hl : lv_has ls 2 [(0, .ref (g 99)), (1, .int x1)]) (hF : fX12_confess_b33 N x1 S = some o) : W p l e (rmd 2) s m args below meth c H locs 0 0 (gE below args s D (mtys cI cS) (mcell g cI cS sa) mord g (some (.int o.1)) o.2) (F0 m 33 ls []) := by
  unfold fX12_confess_b33 at hF
  refine lv_aload_n C.1.1 C.1.2.1 dX12_confess_33 rfl (lv_at hl 0 rfl) ?_
  obtain ⟨q1, hq1, hF⟩ := bnd_some hF
  refine m_callV C X vX12_keep rfl (kX12_keep O C.2.2.2.2.1 N   S q1 hq1) (Nat.le_of_ble_eq_true rfl) (Nat.le_of_ble_eq_true rfl) (Nat.le_of_ble_eq_true rfl) (Nat.le_of_ble_eq_true rfl) rfl hl.1 rfl (Nat.le_of_ble_eq_true rfl) dX12_confess_34 (fun H locs X => ?_)
  refine lv_aload_n C.1.1 C.1.2.1 dX12_confess_37 rfl (lv_at hl 0 rfl) ?_
  refine lv_iload_n C.1.1 C.1.2.1 dX12_confess_38 rfl (lv_at hl 1 rfl) ?_
  obtain ⟨q2, hq2, hF⟩ := bnd_some hF
  refine m_callV C X vX12_doConfess rfl (kX12_doConfess O C.2.2.2.2.1 N x1  q1.2 q2 hq2) (Nat.le_of_ble_eq_true rfl) (Nat.le_of_ble_eq_true rfl) (Nat.le_of_ble_eq_true rfl) (Nat.le_of_ble_eq_true rfl) rfl hl.1 rfl (Nat.le_of_ble_eq_true rfl) dX12_confess_39 (fun H locs X => ?_)
  refine lv_aload_n C.1.1 C.1.2.1 dX12_confess_42 rfl (lv_at hl 0 rfl) ?_
  refine m_g32 C X dX12_confess_43 ?_
  refine lv_iload_n C.1.1 C.1.2.1 dX12_confess_46 rfl (lv_at hl 1 rfl) ?_
  obtain ⟨h_1, hF⟩ := chk_some hF
  refine m_r32 C X  (inb_vp h_1) rfl dX12_confess_47 ?_
  cases hF
  exact g_iret C X dX12_confess_48
noncomputable def fX12_confess_b27 (N : Nat) (S : gS) : Option (Int32 × gS) := bnd (fX12_refuse N 1 S) fun q1 => (some (q1.1, q1.2))
theorem bX12_confess_27 {N : Nat} {S : gS} {H : Heap} {locs : List Loc} {ls : Array Slot} {o : Int32 × gS} (C : gC p s m args meth c cX12_confess 2 RX12 ((some .int)) D (mtys cI cS) mord g Am) (O : gO (mcell g cI cS sa) mord g) (X : gX D (mcell g cI cS sa) mord g S s H locs) (hl : lv_has ls 2 [(0, .ref (g 99))]) (hF : fX12_confess_b27 N S = some o) : W p l e (rmd 2) s m args below meth c H locs 0 0 (gE below args s D (mtys cI cS) (mcell g cI cS sa) mord g (some (.int o.1)) o.2) (F0 m 27 ls []) := by
  unfold fX12_confess_b27 at hF
  refine lv_aload_n C.1.1 C.1.2.1 dX12_confess_27 rfl (lv_at hl 0 rfl) ?_
  refine lv_iconst (v := 1) C.1.1 C.1.2.1 dX12_confess_28 (by decide) ?_
  obtain ⟨q1, hq1, hF⟩ := bnd_some hF
  refine m_callVi C X vX12_refuse rfl (kX12_refuse O C.2.2.2.2.1 N 1  S q1 hq1) (Nat.le_of_ble_eq_true rfl) (Nat.le_of_ble_eq_true rfl) (Nat.le_of_ble_eq_true rfl) (Nat.le_of_ble_eq_true rfl) rfl hl.1 rfl (Nat.le_of_ble_eq_true rfl) dX12_confess_29 (fun H locs X => ?_)
  cases hF
  exact g_iret C X dX12_confess_32
noncomputable def fX12_confess_b19 (N : Nat) (x1 : Int32) (S : gS) : Option (Int32 × gS) := bnd (fX12_canConfess N x1 S) fun q1 => (if q1.1 = 0 then fX12_confess_b27 N q1.2 else fX12_confess_b33 N x1 q1.2)
theorem bX12_confess_19 {N : Nat} {x1 : Int32} {S : gS} {H : Heap} {locs : List Loc} {ls : Array Slot} {o : Int32 × gS} (C : gC p s m args meth c cX12_confess 2 RX12 ((some .int)) D (mtys cI cS) mord g Am) (O : gO (mcell g cI cS sa) mord g) (X : gX D (mcell g cI cS sa) mord g S s H locs) (hl : lv_has ls 2 [(0, .ref (g 99)), (1, .int x1)]) (hF : fX12_confess_b19 N x1 S = some o) : W p l e (rmd 2) s m args below meth c H locs 0 0 (gE below args s D (mtys cI cS) (mcell g cI cS sa) mord g (some (.int o.1)) o.2) (F0 m 19 ls []) := by
  unfold fX12_confess_b19 at hF
  refine lv_aload_n C.1.1 C.1.2.1 dX12_confess_19 rfl (lv_at hl 0 rfl) ?_
  refine lv_iload_n C.1.1 C.1.2.1 dX12_confess_20 rfl (lv_at hl 1 rfl) ?_
  obtain ⟨q1, hq1, hF⟩ := bnd_some hF
  refine m_callVi C X vX12_canConfess rfl (kX12_canConfess O C.2.2.2.2.1 N x1  S q1 hq1) (Nat.le_of_ble_eq_true rfl) (Nat.le_of_ble_eq_true rfl) (Nat.le_of_ble_eq_true rfl) (Nat.le_of_ble_eq_true rfl) rfl hl.1 rfl (Nat.le_of_ble_eq_true rfl) dX12_confess_21 (fun H locs X => ?_)
  refine lv_if_ne (tgt := 33) C.1.1 C.1.2.1 dX12_confess_24 (by decide) (fun h_z => ?_) (fun h_z => ?_)
  · rw [if_neg h_z] at hF
    exact bX12_confess_33 C O X (lv_sub hl [0, 1] rfl) hF
  · rw [if_pos h_z] at hF
    exact bX12_confess_27 C O X (lv_sub hl [0] rfl) hF
noncomputable def fX12_confess_b13 (N : Nat) (S : gS) : Option (Int32 × gS) := bnd (fX12_fail N 1 S) fun q1 => (some (q1.1, q1.2))
theorem bX12_confess_13 {N : Nat} {S : gS} {H : Heap} {locs : List Loc} {ls : Array Slot} {o : Int32 × gS} (C : gC p s m args meth c cX12_confess 2 RX12 ((some .int)) D (mtys cI cS) mord g Am) (O : gO (mcell g cI cS sa) mord g) (X : gX D (mcell g cI cS sa) mord g S s H locs) (hl : lv_has ls 2 [(0, .ref (g 99))]) (hF : fX12_confess_b13 N S = some o) : W p l e (rmd 2) s m args below meth c H locs 0 0 (gE below args s D (mtys cI cS) (mcell g cI cS sa) mord g (some (.int o.1)) o.2) (F0 m 13 ls []) := by
  unfold fX12_confess_b13 at hF
  refine lv_aload_n C.1.1 C.1.2.1 dX12_confess_13 rfl (lv_at hl 0 rfl) ?_
  refine lv_iconst (v := 1) C.1.1 C.1.2.1 dX12_confess_14 (by decide) ?_
  obtain ⟨q1, hq1, hF⟩ := bnd_some hF
  refine m_callVi C X vX12_fail rfl (kX12_fail O C.2.2.2.2.1 N 1  S q1 hq1) (Nat.le_of_ble_eq_true rfl) (Nat.le_of_ble_eq_true rfl) (Nat.le_of_ble_eq_true rfl) (Nat.le_of_ble_eq_true rfl) rfl hl.1 rfl (Nat.le_of_ble_eq_true rfl) dX12_confess_15 (fun H locs X => ?_)
  cases hF
  exact g_iret C X dX12_confess_18
noncomputable def fX12_confess_b0 (N : Nat) (x1 : Int32) (S : gS) : Option (Int32 × gS) := lt (sU S 99 4 0) fun S1 => (bnd (fX12_isGuild N x1 S1) fun q1 => (if q1.1 = 0 then fX12_confess_b13 N q1.2 else fX12_confess_b19 N x1 q1.2))
theorem bX12_confess_0 {N : Nat} {x1 : Int32} {S : gS} {H : Heap} {locs : List Loc} {ls : Array Slot} {o : Int32 × gS} (C : gC p s m args meth c cX12_confess 2 RX12 ((some .int)) D (mtys cI cS) mord g Am) (O : gO (mcell g cI cS sa) mord g) (X : gX D (mcell g cI cS sa) mord g S s H locs) (hl : lv_has ls 2 [(0, .ref (g 99)), (1, .int x1)]) (hF : fX12_confess_b0 N x1 S = some o) : W p l e (rmd 2) s m args below meth c H locs 0 0 (gE below args s D (mtys cI cS) (mcell g cI cS sa) mord g (some (.int o.1)) o.2) (F0 m 0 ls []) := by
  unfold fX12_confess_b0 at hF
  refine lv_aload_n C.1.1 C.1.2.1 dX12_confess_0 rfl (lv_at hl 0 rfl) ?_
  refine lv_iconst (v := 0) C.1.1 C.1.2.1 dX12_confess_1 (by decide) ?_
  obtain ⟨S1, eS1, hF⟩ := lt_some hF
  refine m_p4 C O X eS1 dX12_confess_2 (fun H locs X => ?_)
  refine lv_aload_n C.1.1 C.1.2.1 dX12_confess_5 rfl (lv_at hl 0 rfl) ?_
  refine lv_iload_n C.1.1 C.1.2.1 dX12_confess_6 rfl (lv_at hl 1 rfl) ?_
  obtain ⟨q1, hq1, hF⟩ := bnd_some hF
  refine m_callVi C X vX12_isGuild rfl (kX12_isGuild O C.2.2.2.2.1 N x1  S1 q1 hq1) (Nat.le_of_ble_eq_true rfl) (Nat.le_of_ble_eq_true rfl) (Nat.le_of_ble_eq_true rfl) (Nat.le_of_ble_eq_true rfl) rfl hl.1 rfl (Nat.le_of_ble_eq_true rfl) dX12_confess_7 (fun H locs X => ?_)
  refine lv_if_ne (tgt := 19) C.1.1 C.1.2.1 dX12_confess_10 (by decide) (fun h_z => ?_) (fun h_z => ?_)
  · rw [if_neg h_z] at hF
    exact bX12_confess_19 C O X (lv_sub hl [0, 1] rfl) hF
  · rw [if_pos h_z] at hF
    exact bX12_confess_13 C O X (lv_sub hl [0] rfl) hF
noncomputable def fX12_confess (N : Nat) (x1 : Int32) (S : gS) : Option (Int32 × gS) := fX12_confess_b0 N x1 S
theorem kX12_confess {l : Launch} {D : va_G} {g : Nat → Nat} {cI cS : ClassId} {sa : Nat → Nat → Option Nat} {Am : (Nat → Prop) → State → Heap → Prop} (O : gO (mcell g cI cS sa) mord g) (P : gAm Am) (N : Nat) (x1 : Int32) (S : gS) (o : Int32 × gS) (hF : fX12_confess N x1 S = some o) : gM l yX12_confess cX12_confess 2 ((some .int)) 2 D (mtys cI cS) (mcell g cI cS sa) mord g Am [.ref (g 99), .int x1] S (some (.int o.1)) o.2 :=
  gM_of O P (by decide) (Nat.le_of_ble_eq_true rfl) (fun p e s m args below meth c ls C X hl => bX12_confess_0 C O X (lv_sub hl [0, 1] rfl) hF)
-- drain
noncomputable def fX12_drain_b36 (N : Nat) (x1 : Int32) (S : gS) : Option (Int32 × gS) := bnd (fX12_keep N  S) fun q1 => (lt (sU q1.2 99 38 (((q1.2 99 38) ^^^ (((1 : Int32) <<< (x1 &&& 31) : Int32)) : Int32))) fun S2 => (some (1, S2)))
theorem bX12_drain_36 {N : Nat} {x1 : Int32} {S : gS} {H : Heap} {locs : List Loc} {ls : Array Slot} {o : Int32 × gS} (C : gC p s m args meth c cX12_drain 3 RX12 ((some .boolean)) D (mtys cI cS) mord g Am) (O : gO (mcell g cI cS sa) mord g) (X : gX D (mcell g cI cS sa) mord g S s H locs) (hl : lv_has ls 3 [(0, .ref (g 99)), (1, .int x1)]) (hF : fX12_drain_b36 N x1 S = some o) : W p l e (rmd 2) s m args below meth c H locs 0 0 (gE below args s D (mtys cI cS) (mcell g cI cS sa) mord g (some (.int o.1)) o.2) (F0 m 36 ls []) := by
  unfold fX12_drain_b36 at hF
  refine lv_aload_n C.1.1 C.1.2.1 dX12_drain_36 rfl (lv_at hl 0 rfl) ?_
  obtain ⟨q1, hq1, hF⟩ := bnd_some hF
  refine m_callV C X vX12_keep rfl (kX12_keep O C.2.2.2.2.1 N   S q1 hq1) (Nat.le_of_ble_eq_true rfl) (Nat.le_of_ble_eq_true rfl) (Nat.le_of_ble_eq_true rfl) (Nat.le_of_ble_eq_true rfl) rfl hl.1 rfl (Nat.le_of_ble_eq_true rfl) dX12_drain_37 (fun H locs X => ?_)
  refine lv_aload_n C.1.1 C.1.2.1 dX12_drain_40 rfl (lv_at hl 0 rfl) ?_
  refine lv_dup C.1.1 C.1.2.1 dX12_drain_41 rfl ?_
  refine m_g38 C X dX12_drain_42 ?_
  refine lv_iconst (v := 1) C.1.1 C.1.2.1 dX12_drain_45 (by decide) ?_
  refine lv_iload_n C.1.1 C.1.2.1 dX12_drain_46 rfl (lv_at hl 1 rfl) ?_
  refine lv_ishl C.1.1 C.1.2.1 dX12_drain_47 ?_
  refine lv_ixor C.1.1 C.1.2.1 dX12_drain_48 ?_
  obtain ⟨S2, eS2, hF⟩ := lt_some hF
  refine m_p38 C O X eS2 dX12_drain_49 (fun H locs X => ?_)
  refine lv_iconst (v := 1) C.1.1 C.1.2.1 dX12_drain_52 (by decide) ?_
  cases hF
  exact g_zret (x := 1) C X (by decide) dX12_drain_53
noncomputable def fX12_drain_b31 (N : Nat) (S : gS) : Option (Int32 × gS) := bnd (fX12_refused N  S) fun q1 => (chk (zb q1.1) (some (q1.1, q1.2)))
theorem bX12_drain_31 {N : Nat} {S : gS} {H : Heap} {locs : List Loc} {ls : Array Slot} {o : Int32 × gS} (C : gC p s m args meth c cX12_drain 3 RX12 ((some .boolean)) D (mtys cI cS) mord g Am) (O : gO (mcell g cI cS sa) mord g) (X : gX D (mcell g cI cS sa) mord g S s H locs) (hl : lv_has ls 3 [(0, .ref (g 99))]) (hF : fX12_drain_b31 N S = some o) : W p l e (rmd 2) s m args below meth c H locs 0 0 (gE below args s D (mtys cI cS) (mcell g cI cS sa) mord g (some (.int o.1)) o.2) (F0 m 31 ls []) := by
  unfold fX12_drain_b31 at hF
  refine lv_aload_n C.1.1 C.1.2.1 dX12_drain_31 rfl (lv_at hl 0 rfl) ?_
  obtain ⟨q1, hq1, hF⟩ := bnd_some hF
  refine m_callVi C X vX12_refused rfl (kX12_refused O C.2.2.2.2.1 N   S q1 hq1) (Nat.le_of_ble_eq_true rfl) (Nat.le_of_ble_eq_true rfl) (Nat.le_of_ble_eq_true rfl) (Nat.le_of_ble_eq_true rfl) rfl hl.1 rfl (Nat.le_of_ble_eq_true rfl) dX12_drain_32 (fun H locs X => ?_)
  obtain ⟨h_1, hF⟩ := chk_some hF
  cases hF
  exact g_zret C X h_1 dX12_drain_35
noncomputable def fX12_drain_b19 (N : Nat) (x1 : Int32) (x2 : Int32) (S : gS) : Option (Int32 × gS) := bnd (fX12_isOf N (S 99 38) x1 S) fun q1 => (if q1.1 = x2 then fX12_drain_b31 N q1.2 else fX12_drain_b36 N x1 q1.2)
theorem bX12_drain_19 {N : Nat} {x1 : Int32} {x2 : Int32} {S : gS} {H : Heap} {locs : List Loc} {ls : Array Slot} {o : Int32 × gS} (C : gC p s m args meth c cX12_drain 3 RX12 ((some .boolean)) D (mtys cI cS) mord g Am) (O : gO (mcell g cI cS sa) mord g) (X : gX D (mcell g cI cS sa) mord g S s H locs) (hl : lv_has ls 3 [(0, .ref (g 99)), (1, .int x1), (2, .int x2)]) (hF : fX12_drain_b19 N x1 x2 S = some o) : W p l e (rmd 2) s m args below meth c H locs 0 0 (gE below args s D (mtys cI cS) (mcell g cI cS sa) mord g (some (.int o.1)) o.2) (F0 m 19 ls []) := by
  unfold fX12_drain_b19 at hF
  refine lv_aload_n C.1.1 C.1.2.1 dX12_drain_19 rfl (lv_at hl 0 rfl) ?_
  refine m_g38 C X dX12_drain_20 ?_
  refine lv_iload_n C.1.1 C.1.2.1 dX12_drain_23 rfl (lv_at hl 1 rfl) ?_
  obtain ⟨q1, hq1, hF⟩ := bnd_some hF
  refine g_callSi C X vX12_isOf (kX12_isOf O C.2.2.2.2.1 N (S 99 38) x1  S q1 hq1) (Nat.le_of_ble_eq_true rfl) (Nat.le_of_ble_eq_true rfl) (Nat.le_of_ble_eq_true rfl) (Nat.le_of_ble_eq_true rfl) rfl hl.1 rfl (Nat.le_of_ble_eq_true rfl) dX12_drain_24 (fun H locs X => ?_)
  refine lv_iload_n C.1.1 C.1.2.1 dX12_drain_27 rfl (lv_at hl 2 rfl) ?_
  refine lv_icmp_ne (tgt := 36) C.1.1 C.1.2.1 dX12_drain_28 (by decide) (fun h_z => ?_) (fun h_z => ?_)
  · rw [if_neg h_z] at hF
    exact bX12_drain_36 C O X (lv_sub hl [0, 1] rfl) hF
  · rw [if_pos h_z] at hF
    exact bX12_drain_31 C O X (lv_sub hl [0] rfl) hF
noncomputable def fX12_drain_b13 (N : Nat) (S : gS) : Option (Int32 × gS) := bnd (fX12_failing N 1 S) fun q1 => (chk (zb q1.1) (some (q1.1, q1.2)))
theorem bX12_drain_13 {N : Nat} {S : gS} {H : Heap} {locs : List Loc} {ls : Array Slot} {o : Int32 × gS} (C : gC p s m args meth c cX12_drain 3 RX12 ((some .boolean)) D (mtys cI cS) mord g Am) (O : gO (mcell g cI cS sa) mord g) (X : gX D (mcell g cI cS sa) mord g S s H locs) (hl : lv_has ls 3 [(0, .ref (g 99))]) (hF : fX12_drain_b13 N S = some o) : W p l e (rmd 2) s m args below meth c H locs 0 0 (gE below args s D (mtys cI cS) (mcell g cI cS sa) mord g (some (.int o.1)) o.2) (F0 m 13 ls []) := by
  unfold fX12_drain_b13 at hF
  refine lv_aload_n C.1.1 C.1.2.1 dX12_drain_13 rfl (lv_at hl 0 rfl) ?_
  refine lv_iconst (v := 1) C.1.1 C.1.2.1 dX12_drain_14 (by decide) ?_
  obtain ⟨q1, hq1, hF⟩ := bnd_some hF
  refine m_callVi C X vX12_failing rfl (kX12_failing O C.2.2.2.2.1 N 1  S q1 hq1) (Nat.le_of_ble_eq_true rfl) (Nat.le_of_ble_eq_true rfl) (Nat.le_of_ble_eq_true rfl) (Nat.le_of_ble_eq_true rfl) rfl hl.1 rfl (Nat.le_of_ble_eq_true rfl) dX12_drain_15 (fun H locs X => ?_)
  obtain ⟨h_1, hF⟩ := chk_some hF
  cases hF
  exact g_zret C X h_1 dX12_drain_18
noncomputable def fX12_drain_b0 (N : Nat) (x1 : Int32) (x2 : Int32) (S : gS) : Option (Int32 × gS) := lt (sU S 99 4 0) fun S1 => (bnd (fX12_isGrotto N x1 S1) fun q1 => (if q1.1 = 0 then fX12_drain_b13 N q1.2 else fX12_drain_b19 N x1 x2 q1.2))
theorem bX12_drain_0 {N : Nat} {x1 : Int32} {x2 : Int32} {S : gS} {H : Heap} {locs : List Loc} {ls : Array Slot} {o : Int32 × gS} (C : gC p s m args meth c cX12_drain 3 RX12 ((some .boolean)) D (mtys cI cS) mord g Am) (O : gO (mcell g cI cS sa) mord g) (X : gX D (mcell g cI cS sa) mord g S s H locs) (hl : lv_has ls 3 [(0, .ref (g 99)), (1, .int x1), (2, .int x2)]) (hF : fX12_drain_b0 N x1 x2 S = some o) : W p l e (rmd 2) s m args below meth c H locs 0 0 (gE below args s D (mtys cI cS) (mcell g cI cS sa) mord g (some (.int o.1)) o.2) (F0 m 0 ls []) := by
  unfold fX12_drain_b0 at hF
  refine lv_aload_n C.1.1 C.1.2.1 dX12_drain_0 rfl (lv_at hl 0 rfl) ?_
  refine lv_iconst (v := 0) C.1.1 C.1.2.1 dX12_drain_1 (by decide) ?_
  obtain ⟨S1, eS1, hF⟩ := lt_some hF
  refine m_p4 C O X eS1 dX12_drain_2 (fun H locs X => ?_)
  refine lv_aload_n C.1.1 C.1.2.1 dX12_drain_5 rfl (lv_at hl 0 rfl) ?_
  refine lv_iload_n C.1.1 C.1.2.1 dX12_drain_6 rfl (lv_at hl 1 rfl) ?_
  obtain ⟨q1, hq1, hF⟩ := bnd_some hF
  refine m_callVi C X vX12_isGrotto rfl (kX12_isGrotto O C.2.2.2.2.1 N x1  S1 q1 hq1) (Nat.le_of_ble_eq_true rfl) (Nat.le_of_ble_eq_true rfl) (Nat.le_of_ble_eq_true rfl) (Nat.le_of_ble_eq_true rfl) rfl hl.1 rfl (Nat.le_of_ble_eq_true rfl) dX12_drain_7 (fun H locs X => ?_)
  refine lv_if_ne (tgt := 19) C.1.1 C.1.2.1 dX12_drain_10 (by decide) (fun h_z => ?_) (fun h_z => ?_)
  · rw [if_neg h_z] at hF
    exact bX12_drain_19 C O X (lv_sub hl [0, 1, 2] rfl) hF
  · rw [if_pos h_z] at hF
    exact bX12_drain_13 C O X (lv_sub hl [0] rfl) hF
noncomputable def fX12_drain (N : Nat) (x1 : Int32) (x2 : Int32) (S : gS) : Option (Int32 × gS) := fX12_drain_b0 N x1 x2 S
theorem kX12_drain {l : Launch} {D : va_G} {g : Nat → Nat} {cI cS : ClassId} {sa : Nat → Nat → Option Nat} {Am : (Nat → Prop) → State → Heap → Prop} (O : gO (mcell g cI cS sa) mord g) (P : gAm Am) (N : Nat) (x1 : Int32) (x2 : Int32) (S : gS) (o : Int32 × gS) (hF : fX12_drain N x1 x2 S = some o) : gM l yX12_drain cX12_drain 3 ((some .boolean)) 2 D (mtys cI cS) (mcell g cI cS sa) mord g Am [.ref (g 99), .int x1, .int x2] S (some (.int o.1)) o.2 :=
  gM_of O P (by decide) (Nat.le_of_ble_eq_true rfl) (fun p e s m args below meth c ls C X hl => bX12_drain_0 C O X (lv_sub hl [0, 1, 2] rfl) hF)
-- give
noncomputable def fX12_give_b37 (N : Nat) (x1 : Int32) (x2 : Int32) (S : gS) : Option (Int32 × gS) := bnd (fX12_keep N  S) fun q1 => (chk (inb x1 (6)) (chk (inb x1 (6)) (lt (sU q1.2 33 (Int32.toNatClampNeg x1) (if (((q1.2 33 (Int32.toNatClampNeg x1)) + x2 : Int32)) < 999 then (((q1.2 33 (Int32.toNatClampNeg x1)) + x2 : Int32)) else 999)) fun S2 => (chk (inb x1 (6)) (some (S2 33 (Int32.toNatClampNeg x1), S2))))))
theorem bX12_give_37 {N : Nat} {x1 : Int32} {x2 : Int32} {S : gS} {H : Heap} {locs : List Loc} {ls : Array Slot} {o : Int32 × gS} (C : gC p s m args meth c cX12_give 3 RX12 ((some .int)) D (mtys cI cS) mord g Am) (O : gO (mcell g cI cS sa) mord g) (X : gX D (mcell g cI cS sa) mord g S s H locs) (hl : lv_has ls 3 [(0, .ref (g 99)), (1, .int x1), (2, .int x2)]) (hF : fX12_give_b37 N x1 x2 S = some o) : W p l e (rmd 2) s m args below meth c H locs 0 0 (gE below args s D (mtys cI cS) (mcell g cI cS sa) mord g (some (.int o.1)) o.2) (F0 m 37 ls []) := by
  unfold fX12_give_b37 at hF
  refine lv_aload_n C.1.1 C.1.2.1 dX12_give_37 rfl (lv_at hl 0 rfl) ?_
  obtain ⟨q1, hq1, hF⟩ := bnd_some hF
  refine m_callV C X vX12_keep rfl (kX12_keep O C.2.2.2.2.1 N   S q1 hq1) (Nat.le_of_ble_eq_true rfl) (Nat.le_of_ble_eq_true rfl) (Nat.le_of_ble_eq_true rfl) (Nat.le_of_ble_eq_true rfl) rfl hl.1 rfl (Nat.le_of_ble_eq_true rfl) dX12_give_38 (fun H locs X => ?_)
  refine lv_aload_n C.1.1 C.1.2.1 dX12_give_41 rfl (lv_at hl 0 rfl) ?_
  refine m_g33 C X dX12_give_42 ?_
  refine lv_iload_n C.1.1 C.1.2.1 dX12_give_45 rfl (lv_at hl 1 rfl) ?_
  refine lv_sipush (v := 999) C.1.1 C.1.2.1 dX12_give_46 (by decide) ?_
  refine lv_aload_n C.1.1 C.1.2.1 dX12_give_49 rfl (lv_at hl 0 rfl) ?_
  refine m_g33 C X dX12_give_50 ?_
  refine lv_iload_n C.1.1 C.1.2.1 dX12_give_53 rfl (lv_at hl 1 rfl) ?_
  obtain ⟨h_1, hF⟩ := chk_some hF
  refine m_r33 C X  (inb_vp h_1) rfl dX12_give_54 ?_
  refine lv_iload_n C.1.1 C.1.2.1 dX12_give_55 rfl (lv_at hl 2 rfl) ?_
  refine lv_iadd C.1.1 C.1.2.1 dX12_give_56 ?_
  refine g_min C hl.1 mMmin192 ⟨Nat.le_of_ble_eq_true rfl, Nat.le_of_ble_eq_true rfl⟩ (Nat.le_of_ble_eq_true rfl) (Nat.le_of_ble_eq_true rfl) dX12_give_57 ?_
  obtain ⟨h_2, hF⟩ := chk_some hF
  obtain ⟨S2, eS2, hF⟩ := lt_some hF
  refine m_w33 C O X  (inb_vp h_2) rfl eS2 dX12_give_60 (fun H locs X => ?_)
  refine lv_aload_n C.1.1 C.1.2.1 dX12_give_61 rfl (lv_at hl 0 rfl) ?_
  refine m_g33 C X dX12_give_62 ?_
  refine lv_iload_n C.1.1 C.1.2.1 dX12_give_65 rfl (lv_at hl 1 rfl) ?_
  obtain ⟨h_3, hF⟩ := chk_some hF
  refine m_r33 C X  (inb_vp h_3) rfl dX12_give_66 ?_
  cases hF
  exact g_iret C X dX12_give_67
noncomputable def fX12_give_b31 (N : Nat) (S : gS) : Option (Int32 × gS) := bnd (fX12_refuse N 1 S) fun q1 => (some (q1.1, q1.2))
theorem bX12_give_31 {N : Nat} {S : gS} {H : Heap} {locs : List Loc} {ls : Array Slot} {o : Int32 × gS} (C : gC p s m args meth c cX12_give 3 RX12 ((some .int)) D (mtys cI cS) mord g Am) (O : gO (mcell g cI cS sa) mord g) (X : gX D (mcell g cI cS sa) mord g S s H locs) (hl : lv_has ls 3 [(0, .ref (g 99))]) (hF : fX12_give_b31 N S = some o) : W p l e (rmd 2) s m args below meth c H locs 0 0 (gE below args s D (mtys cI cS) (mcell g cI cS sa) mord g (some (.int o.1)) o.2) (F0 m 31 ls []) := by
  unfold fX12_give_b31 at hF
  refine lv_aload_n C.1.1 C.1.2.1 dX12_give_31 rfl (lv_at hl 0 rfl) ?_
  refine lv_iconst (v := 1) C.1.1 C.1.2.1 dX12_give_32 (by decide) ?_
  obtain ⟨q1, hq1, hF⟩ := bnd_some hF
  refine m_callVi C X vX12_refuse rfl (kX12_refuse O C.2.2.2.2.1 N 1  S q1 hq1) (Nat.le_of_ble_eq_true rfl) (Nat.le_of_ble_eq_true rfl) (Nat.le_of_ble_eq_true rfl) (Nat.le_of_ble_eq_true rfl) rfl hl.1 rfl (Nat.le_of_ble_eq_true rfl) dX12_give_33 (fun H locs X => ?_)
  cases hF
  exact g_iret C X dX12_give_36
noncomputable def fX12_give_b19 (N : Nat) (x1 : Int32) (x2 : Int32) (S : gS) : Option (Int32 × gS) := bnd (fX12_isIn N (Int32.toInt64 x2) 1 100 S) fun q1 => (if q1.1 = 0 then fX12_give_b31 N q1.2 else fX12_give_b37 N x1 x2 q1.2)
theorem bX12_give_19 {N : Nat} {x1 : Int32} {x2 : Int32} {S : gS} {H : Heap} {locs : List Loc} {ls : Array Slot} {o : Int32 × gS} (C : gC p s m args meth c cX12_give 3 RX12 ((some .int)) D (mtys cI cS) mord g Am) (O : gO (mcell g cI cS sa) mord g) (X : gX D (mcell g cI cS sa) mord g S s H locs) (hl : lv_has ls 3 [(0, .ref (g 99)), (1, .int x1), (2, .int x2)]) (hF : fX12_give_b19 N x1 x2 S = some o) : W p l e (rmd 2) s m args below meth c H locs 0 0 (gE below args s D (mtys cI cS) (mcell g cI cS sa) mord g (some (.int o.1)) o.2) (F0 m 19 ls []) := by
  unfold fX12_give_b19 at hF
  refine lv_iload_n C.1.1 C.1.2.1 dX12_give_19 rfl (lv_at hl 2 rfl) ?_
  refine lv_i2l (v := Int32.toInt64 x2) C.1.1 C.1.2.1 dX12_give_20 rfl ?_
  refine lv_lconst (v := 1) C.1.1 C.1.2.1 dX12_give_21 (by decide) ?_
  refine lv_ldc2 C.1.1 C.1.2.1 C.1.2.2.2.1 (C.1.2.2.2.2 _ mKL428) dX12_give_22 ?_
  obtain ⟨q1, hq1, hF⟩ := bnd_some hF
  refine g_callSi C X vX12_isIn (kX12_isIn O C.2.2.2.2.1 N (Int32.toInt64 x2) 1 100  S q1 hq1) (Nat.le_of_ble_eq_true rfl) (Nat.le_of_ble_eq_true rfl) (Nat.le_of_ble_eq_true rfl) (Nat.le_of_ble_eq_true rfl) rfl hl.1 rfl (Nat.le_of_ble_eq_true rfl) dX12_give_25 (fun H locs X => ?_)
  refine lv_if_ne (tgt := 37) C.1.1 C.1.2.1 dX12_give_28 (by decide) (fun h_z => ?_) (fun h_z => ?_)
  · rw [if_neg h_z] at hF
    exact bX12_give_37 C O X (lv_sub hl [0, 1, 2] rfl) hF
  · rw [if_pos h_z] at hF
    exact bX12_give_31 C O X (lv_sub hl [0] rfl) hF
noncomputable def fX12_give_b13 (N : Nat) (S : gS) : Option (Int32 × gS) := bnd (fX12_fail N 1 S) fun q1 => (some (q1.1, q1.2))
theorem bX12_give_13 {N : Nat} {S : gS} {H : Heap} {locs : List Loc} {ls : Array Slot} {o : Int32 × gS} (C : gC p s m args meth c cX12_give 3 RX12 ((some .int)) D (mtys cI cS) mord g Am) (O : gO (mcell g cI cS sa) mord g) (X : gX D (mcell g cI cS sa) mord g S s H locs) (hl : lv_has ls 3 [(0, .ref (g 99))]) (hF : fX12_give_b13 N S = some o) : W p l e (rmd 2) s m args below meth c H locs 0 0 (gE below args s D (mtys cI cS) (mcell g cI cS sa) mord g (some (.int o.1)) o.2) (F0 m 13 ls []) := by
  unfold fX12_give_b13 at hF
  refine lv_aload_n C.1.1 C.1.2.1 dX12_give_13 rfl (lv_at hl 0 rfl) ?_
  refine lv_iconst (v := 1) C.1.1 C.1.2.1 dX12_give_14 (by decide) ?_
  obtain ⟨q1, hq1, hF⟩ := bnd_some hF
  refine m_callVi C X vX12_fail rfl (kX12_fail O C.2.2.2.2.1 N 1  S q1 hq1) (Nat.le_of_ble_eq_true rfl) (Nat.le_of_ble_eq_true rfl) (Nat.le_of_ble_eq_true rfl) (Nat.le_of_ble_eq_true rfl) rfl hl.1 rfl (Nat.le_of_ble_eq_true rfl) dX12_give_15 (fun H locs X => ?_)
  cases hF
  exact g_iret C X dX12_give_18
noncomputable def fX12_give_b0 (N : Nat) (x1 : Int32) (x2 : Int32) (S : gS) : Option (Int32 × gS) := lt (sU S 99 4 0) fun S1 => (bnd (fX12_isGuild N x1 S1) fun q1 => (if q1.1 = 0 then fX12_give_b13 N q1.2 else fX12_give_b19 N x1 x2 q1.2))
theorem bX12_give_0 {N : Nat} {x1 : Int32} {x2 : Int32} {S : gS} {H : Heap} {locs : List Loc} {ls : Array Slot} {o : Int32 × gS} (C : gC p s m args meth c cX12_give 3 RX12 ((some .int)) D (mtys cI cS) mord g Am) (O : gO (mcell g cI cS sa) mord g) (X : gX D (mcell g cI cS sa) mord g S s H locs) (hl : lv_has ls 3 [(0, .ref (g 99)), (1, .int x1), (2, .int x2)]) (hF : fX12_give_b0 N x1 x2 S = some o) : W p l e (rmd 2) s m args below meth c H locs 0 0 (gE below args s D (mtys cI cS) (mcell g cI cS sa) mord g (some (.int o.1)) o.2) (F0 m 0 ls []) := by
  unfold fX12_give_b0 at hF
  refine lv_aload_n C.1.1 C.1.2.1 dX12_give_0 rfl (lv_at hl 0 rfl) ?_
  refine lv_iconst (v := 0) C.1.1 C.1.2.1 dX12_give_1 (by decide) ?_
  obtain ⟨S1, eS1, hF⟩ := lt_some hF
  refine m_p4 C O X eS1 dX12_give_2 (fun H locs X => ?_)
  refine lv_aload_n C.1.1 C.1.2.1 dX12_give_5 rfl (lv_at hl 0 rfl) ?_
  refine lv_iload_n C.1.1 C.1.2.1 dX12_give_6 rfl (lv_at hl 1 rfl) ?_
  obtain ⟨q1, hq1, hF⟩ := bnd_some hF
  refine m_callVi C X vX12_isGuild rfl (kX12_isGuild O C.2.2.2.2.1 N x1  S1 q1 hq1) (Nat.le_of_ble_eq_true rfl) (Nat.le_of_ble_eq_true rfl) (Nat.le_of_ble_eq_true rfl) (Nat.le_of_ble_eq_true rfl) rfl hl.1 rfl (Nat.le_of_ble_eq_true rfl) dX12_give_7 (fun H locs X => ?_)
  refine lv_if_ne (tgt := 19) C.1.1 C.1.2.1 dX12_give_10 (by decide) (fun h_z => ?_) (fun h_z => ?_)
  · rw [if_neg h_z] at hF
    exact bX12_give_19 C O X (lv_sub hl [0, 1, 2] rfl) hF
  · rw [if_pos h_z] at hF
    exact bX12_give_13 C O X (lv_sub hl [0] rfl) hF
noncomputable def fX12_give (N : Nat) (x1 : Int32) (x2 : Int32) (S : gS) : Option (Int32 × gS) := fX12_give_b0 N x1 x2 S
theorem kX12_give {l : Launch} {D : va_G} {g : Nat → Nat} {cI cS : ClassId} {sa : Nat → Nat → Option Nat} {Am : (Nat → Prop) → State → Heap → Prop} (O : gO (mcell g cI cS sa) mord g) (P : gAm Am) (N : Nat) (x1 : Int32) (x2 : Int32) (S : gS) (o : Int32 × gS) (hF : fX12_give N x1 x2 S = some o) : gM l yX12_give cX12_give 3 ((some .int)) 2 D (mtys cI cS) (mcell g cI cS sa) mord g Am [.ref (g 99), .int x1, .int x2] S (some (.int o.1)) o.2 :=
  gM_of O P (by decide) (Nat.le_of_ble_eq_true rfl) (fun p e s m args below meth c ls C X hl => bX12_give_0 C O X (lv_sub hl [0, 1, 2] rfl) hF)
-- undo
noncomputable def fX12_undo_b14 (N : Nat) (S : gS) : Option (Int32 × gS) := lt (sU S 99 39 (((S 99 39) - 1 : Int32))) fun S1 => (bnd (fX12_unpack N 36 ((26 * (S1 99 39) : Int32)) S1) fun q1 => (some (q1.2 99 39, q1.2)))
theorem bX12_undo_14 {N : Nat} {S : gS} {H : Heap} {locs : List Loc} {ls : Array Slot} {o : Int32 × gS} (C : gC p s m args meth c cX12_undo 1 RX12 ((some .int)) D (mtys cI cS) mord g Am) (O : gO (mcell g cI cS sa) mord g) (X : gX D (mcell g cI cS sa) mord g S s H locs) (hl : lv_has ls 1 [(0, .ref (g 99))]) (hF : fX12_undo_b14 N S = some o) : W p l e (rmd 1) s m args below meth c H locs 0 0 (gE below args s D (mtys cI cS) (mcell g cI cS sa) mord g (some (.int o.1)) o.2) (F0 m 14 ls []) := by
  unfold fX12_undo_b14 at hF
  refine lv_aload_n C.1.1 C.1.2.1 dX12_undo_14 rfl (lv_at hl 0 rfl) ?_
  refine lv_dup C.1.1 C.1.2.1 dX12_undo_15 rfl ?_
  refine m_g39 C X dX12_undo_16 ?_
  refine lv_iconst (v := 1) C.1.1 C.1.2.1 dX12_undo_19 (by decide) ?_
  refine lv_isub C.1.1 C.1.2.1 dX12_undo_20 ?_
  obtain ⟨S1, eS1, hF⟩ := lt_some hF
  refine m_p39 C O X eS1 dX12_undo_21 (fun H locs X => ?_)
  refine lv_aload_n C.1.1 C.1.2.1 dX12_undo_24 rfl (lv_at hl 0 rfl) ?_
  refine lv_aload_n C.1.1 C.1.2.1 dX12_undo_25 rfl (lv_at hl 0 rfl) ?_
  refine m_g36 C X dX12_undo_26 ?_
  refine lv_bipush (v := 26) C.1.1 C.1.2.1 dX12_undo_29 (by decide) ?_
  refine lv_aload_n C.1.1 C.1.2.1 dX12_undo_31 rfl (lv_at hl 0 rfl) ?_
  refine m_g39 C X dX12_undo_32 ?_
  refine lv_imul C.1.1 C.1.2.1 dX12_undo_35 ?_
  obtain ⟨q1, hq1, hF⟩ := bnd_some hF
  refine m_callV C X vX12_unpack rfl (kX12_unpack O C.2.2.2.2.1 N 36 ((26 * (S1 99 39) : Int32)) (rfl : mI 36 = true) S1 q1 hq1) (Nat.le_of_ble_eq_true rfl) (Nat.le_of_ble_eq_true rfl) (Nat.le_of_ble_eq_true rfl) (Nat.le_of_ble_eq_true rfl) rfl hl.1 rfl (Nat.le_of_ble_eq_true rfl) dX12_undo_36 (fun H locs X => ?_)
  refine lv_aload_n C.1.1 C.1.2.1 dX12_undo_39 rfl (lv_at hl 0 rfl) ?_
  refine m_g39 C X dX12_undo_40 ?_
  cases hF
  exact g_iret C X dX12_undo_43
noncomputable def fX12_undo_b12 (N : Nat) (S : gS) : Option (Int32 × gS) := some ((-1), S)
theorem bX12_undo_12 {N : Nat} {S : gS} {H : Heap} {locs : List Loc} {ls : Array Slot} {o : Int32 × gS} (C : gC p s m args meth c cX12_undo 1 RX12 ((some .int)) D (mtys cI cS) mord g Am) (O : gO (mcell g cI cS sa) mord g) (X : gX D (mcell g cI cS sa) mord g S s H locs) (hl : lv_has ls 1 []) (hF : fX12_undo_b12 N S = some o) : W p l e (rmd 1) s m args below meth c H locs 0 0 (gE below args s D (mtys cI cS) (mcell g cI cS sa) mord g (some (.int o.1)) o.2) (F0 m 12 ls []) := by
  unfold fX12_undo_b12 at hF
  refine lv_iconst (v := (-1)) C.1.1 C.1.2.1 dX12_undo_12 (by decide) ?_
  cases hF
  exact g_iret C X dX12_undo_13
noncomputable def fX12_undo_b0 (N : Nat) (S : gS) : Option (Int32 × gS) := lt (sU S 99 4 0) fun S1 => (if (S1 99 39) = 0 then fX12_undo_b12 N S1 else fX12_undo_b14 N S1)
theorem bX12_undo_0 {N : Nat} {S : gS} {H : Heap} {locs : List Loc} {ls : Array Slot} {o : Int32 × gS} (C : gC p s m args meth c cX12_undo 1 RX12 ((some .int)) D (mtys cI cS) mord g Am) (O : gO (mcell g cI cS sa) mord g) (X : gX D (mcell g cI cS sa) mord g S s H locs) (hl : lv_has ls 1 [(0, .ref (g 99))]) (hF : fX12_undo_b0 N S = some o) : W p l e (rmd 1) s m args below meth c H locs 0 0 (gE below args s D (mtys cI cS) (mcell g cI cS sa) mord g (some (.int o.1)) o.2) (F0 m 0 ls []) := by
  unfold fX12_undo_b0 at hF
  refine lv_aload_n C.1.1 C.1.2.1 dX12_undo_0 rfl (lv_at hl 0 rfl) ?_
  refine lv_iconst (v := 0) C.1.1 C.1.2.1 dX12_undo_1 (by decide) ?_
  obtain ⟨S1, eS1, hF⟩ := lt_some hF
  refine m_p4 C O X eS1 dX12_undo_2 (fun H locs X => ?_)
  refine lv_aload_n C.1.1 C.1.2.1 dX12_undo_5 rfl (lv_at hl 0 rfl) ?_
  refine m_g39 C X dX12_undo_6 ?_
  refine lv_if_ne (tgt := 14) C.1.1 C.1.2.1 dX12_undo_9 (by decide) (fun h_z => ?_) (fun h_z => ?_)
  · rw [if_neg h_z] at hF
    exact bX12_undo_14 C O X (lv_sub hl [0] rfl) hF
  · rw [if_pos h_z] at hF
    exact bX12_undo_12 C O X (lv_sub hl [] rfl) hF
noncomputable def fX12_undo (N : Nat) (S : gS) : Option (Int32 × gS) := fX12_undo_b0 N S
theorem kX12_undo {l : Launch} {D : va_G} {g : Nat → Nat} {cI cS : ClassId} {sa : Nat → Nat → Option Nat} {Am : (Nat → Prop) → State → Heap → Prop} (O : gO (mcell g cI cS sa) mord g) (P : gAm Am) (N : Nat) (S : gS) (o : Int32 × gS) (hF : fX12_undo N S = some o) : gM l yX12_undo cX12_undo 1 ((some .int)) 1 D (mtys cI cS) (mcell g cI cS sa) mord g Am [.ref (g 99)] S (some (.int o.1)) o.2 :=
  gM_of O P (by decide) (Nat.le_of_ble_eq_true rfl) (fun p e s m args below meth c ls C X hl => bX12_undo_0 C O X (lv_sub hl [0] rfl) hF)
-- then
noncomputable def fX12_then_b110 (N : Nat) (t0 : Int32) (S : gS) : Option (Int32 × gS) := bnd (fX12_unpack N 46 0 S) fun q1 => (some (t0, q1.2))
theorem bX12_then_110 {N : Nat} {t0 : Int32} {S : gS} {H : Heap} {locs : List Loc} {ls : Array Slot} {o : Int32 × gS} (C : gC p s m args meth c cX12_then 5 RX12 ((some .int)) D (mtys cI cS) mord g Am) (O : gO (mcell g cI cS sa) mord g) (X : gX D (mcell g cI cS sa) mord g S s H locs) (hl : lv_has ls 5 [(0, .ref (g 99))]) (hF : fX12_then_b110 N t0 S = some o) : W p l e (rmd 7) s m args below meth c H locs 0 0 (gE below args s D (mtys cI cS) (mcell g cI cS sa) mord g (some (.int o.1)) o.2) (F0 m 110 ls [.int t0]) := by
  unfold fX12_then_b110 at hF
  refine lv_istore (lv' := [(4, .int t0), (0, .ref (g 99))]) C.1.1 C.1.2.1 dX12_then_110 hl (by decide) rfl (fun ls hl => ?_)
  refine lv_aload_n C.1.1 C.1.2.1 dX12_then_112 rfl (lv_at hl 1 rfl) ?_
  refine lv_aload_n C.1.1 C.1.2.1 dX12_then_113 rfl (lv_at hl 1 rfl) ?_
  refine m_g46 C X dX12_then_114 ?_
  refine lv_iconst (v := 0) C.1.1 C.1.2.1 dX12_then_117 (by decide) ?_
  obtain ⟨q1, hq1, hF⟩ := bnd_some hF
  refine m_callV C X vX12_unpack rfl (kX12_unpack O C.2.2.2.2.1 N 46 0 (rfl : mI 46 = true) S q1 hq1) (Nat.le_of_ble_eq_true rfl) (Nat.le_of_ble_eq_true rfl) (Nat.le_of_ble_eq_true rfl) (Nat.le_of_ble_eq_true rfl) rfl hl.1 rfl (Nat.le_of_ble_eq_true rfl) dX12_then_118 (fun H locs X => ?_)
  refine lv_iload C.1.1 C.1.2.1 dX12_then_121 (lv_at hl 0 rfl) ?_
  cases hF
  exact g_iret C X dX12_then_123
noncomputable def fX12_then_b104 (N : Nat) (x1 : Int32) (S : gS) : Option (Int32 × gS) := chk (inb x1 (6)) (fX12_then_b110 N (S 35 (Int32.toNatClampNeg x1)) S)
theorem bX12_then_104 {N : Nat} {x1 : Int32} {S : gS} {H : Heap} {locs : List Loc} {ls : Array Slot} {o : Int32 × gS} (C : gC p s m args meth c cX12_then 5 RX12 ((some .int)) D (mtys cI cS) mord g Am) (O : gO (mcell g cI cS sa) mord g) (X : gX D (mcell g cI cS sa) mord g S s H locs) (hl : lv_has ls 5 [(0, .ref (g 99)), (1, .int x1)]) (hF : fX12_then_b104 N x1 S = some o) : W p l e (rmd 7) s m args below meth c H locs 0 0 (gE below args s D (mtys cI cS) (mcell g cI cS sa) mord g (some (.int o.1)) o.2) (F0 m 104 ls []) := by
  unfold fX12_then_b104 at hF
  refine lv_aload_n C.1.1 C.1.2.1 dX12_then_104 rfl (lv_at hl 0 rfl) ?_
  refine m_g35 C X dX12_then_105 ?_
  refine lv_iload_n C.1.1 C.1.2.1 dX12_then_108 rfl (lv_at hl 1 rfl) ?_
  obtain ⟨h_1, hF⟩ := chk_some hF
  refine m_r35 C X  (inb_vp h_1) rfl dX12_then_109 ?_
  exact bX12_then_110 C O X (lv_sub hl [0] rfl) hF
noncomputable def fX12_then_b95 (N : Nat) (x1 : Int32) (S : gS) : Option (Int32 × gS) := chk (inb x1 (6)) (fX12_then_b110 N (S 34 (Int32.toNatClampNeg x1)) S)
theorem bX12_then_95 {N : Nat} {x1 : Int32} {S : gS} {H : Heap} {locs : List Loc} {ls : Array Slot} {o : Int32 × gS} (C : gC p s m args meth c cX12_then 5 RX12 ((some .int)) D (mtys cI cS) mord g Am) (O : gO (mcell g cI cS sa) mord g) (X : gX D (mcell g cI cS sa) mord g S s H locs) (hl : lv_has ls 5 [(0, .ref (g 99)), (1, .int x1)]) (hF : fX12_then_b95 N x1 S = some o) : W p l e (rmd 7) s m args below meth c H locs 0 0 (gE below args s D (mtys cI cS) (mcell g cI cS sa) mord g (some (.int o.1)) o.2) (F0 m 95 ls []) := by
  unfold fX12_then_b95 at hF
  refine lv_aload_n C.1.1 C.1.2.1 dX12_then_95 rfl (lv_at hl 0 rfl) ?_
  refine m_g34 C X dX12_then_96 ?_
  refine lv_iload_n C.1.1 C.1.2.1 dX12_then_99 rfl (lv_at hl 1 rfl) ?_
  obtain ⟨h_1, hF⟩ := chk_some hF
  refine m_r34 C X  (inb_vp h_1) rfl dX12_then_100 ?_
  refine lv_goto (tgt := 110) C.1.1 C.1.2.1 dX12_then_101 (by decide) ?_
  exact bX12_then_110 C O X (lv_sub hl [0] rfl) hF
noncomputable def fX12_then_b90 (N : Nat) (x1 : Int32) (x3 : Int32) (S : gS) : Option (Int32 × gS) := if x3 = 2 then fX12_then_b95 N x1 S else fX12_then_b104 N x1 S
theorem bX12_then_90 {N : Nat} {x1 : Int32} {x3 : Int32} {S : gS} {H : Heap} {locs : List Loc} {ls : Array Slot} {o : Int32 × gS} (C : gC p s m args meth c cX12_then 5 RX12 ((some .int)) D (mtys cI cS) mord g Am) (O : gO (mcell g cI cS sa) mord g) (X : gX D (mcell g cI cS sa) mord g S s H locs) (hl : lv_has ls 5 [(0, .ref (g 99)), (1, .int x1), (3, .int x3)]) (hF : fX12_then_b90 N x1 x3 S = some o) : W p l e (rmd 7) s m args below meth c H locs 0 0 (gE below args s D (mtys cI cS) (mcell g cI cS sa) mord g (some (.int o.1)) o.2) (F0 m 90 ls []) := by
  unfold fX12_then_b90 at hF
  refine lv_iload_n C.1.1 C.1.2.1 dX12_then_90 rfl (lv_at hl 2 rfl) ?_
  refine lv_iconst (v := 2) C.1.1 C.1.2.1 dX12_then_91 (by decide) ?_
  refine lv_icmp_ne (tgt := 104) C.1.1 C.1.2.1 dX12_then_92 (by decide) (fun h_z => ?_) (fun h_z => ?_)
  · rw [if_neg h_z] at hF
    exact bX12_then_104 C O X (lv_sub hl [0, 1] rfl) hF
  · rw [if_pos h_z] at hF
    exact bX12_then_95 C O X (lv_sub hl [0, 1] rfl) hF
noncomputable def fX12_then_b81 (N : Nat) (x1 : Int32) (S : gS) : Option (Int32 × gS) := chk (inb x1 (6)) (fX12_then_b110 N (S 33 (Int32.toNatClampNeg x1)) S)
theorem bX12_then_81 {N : Nat} {x1 : Int32} {S : gS} {H : Heap} {locs : List Loc} {ls : Array Slot} {o : Int32 × gS} (C : gC p s m args meth c cX12_then 5 RX12 ((some .int)) D (mtys cI cS) mord g Am) (O : gO (mcell g cI cS sa) mord g) (X : gX D (mcell g cI cS sa) mord g S s H locs) (hl : lv_has ls 5 [(0, .ref (g 99)), (1, .int x1)]) (hF : fX12_then_b81 N x1 S = some o) : W p l e (rmd 7) s m args below meth c H locs 0 0 (gE below args s D (mtys cI cS) (mcell g cI cS sa) mord g (some (.int o.1)) o.2) (F0 m 81 ls []) := by
  unfold fX12_then_b81 at hF
  refine lv_aload_n C.1.1 C.1.2.1 dX12_then_81 rfl (lv_at hl 0 rfl) ?_
  refine m_g33 C X dX12_then_82 ?_
  refine lv_iload_n C.1.1 C.1.2.1 dX12_then_85 rfl (lv_at hl 1 rfl) ?_
  obtain ⟨h_1, hF⟩ := chk_some hF
  refine m_r33 C X  (inb_vp h_1) rfl dX12_then_86 ?_
  refine lv_goto (tgt := 110) C.1.1 C.1.2.1 dX12_then_87 (by decide) ?_
  exact bX12_then_110 C O X (lv_sub hl [0] rfl) hF
noncomputable def fX12_then_b76 (N : Nat) (x1 : Int32) (x3 : Int32) (S : gS) : Option (Int32 × gS) := if x3 = 1 then fX12_then_b81 N x1 S else fX12_then_b90 N x1 x3 S
theorem bX12_then_76 {N : Nat} {x1 : Int32} {x3 : Int32} {S : gS} {H : Heap} {locs : List Loc} {ls : Array Slot} {o : Int32 × gS} (C : gC p s m args meth c cX12_then 5 RX12 ((some .int)) D (mtys cI cS) mord g Am) (O : gO (mcell g cI cS sa) mord g) (X : gX D (mcell g cI cS sa) mord g S s H locs) (hl : lv_has ls 5 [(0, .ref (g 99)), (1, .int x1), (3, .int x3)]) (hF : fX12_then_b76 N x1 x3 S = some o) : W p l e (rmd 7) s m args below meth c H locs 0 0 (gE below args s D (mtys cI cS) (mcell g cI cS sa) mord g (some (.int o.1)) o.2) (F0 m 76 ls []) := by
  unfold fX12_then_b76 at hF
  refine lv_iload_n C.1.1 C.1.2.1 dX12_then_76 rfl (lv_at hl 2 rfl) ?_
  refine lv_iconst (v := 1) C.1.1 C.1.2.1 dX12_then_77 (by decide) ?_
  refine lv_icmp_ne (tgt := 90) C.1.1 C.1.2.1 dX12_then_78 (by decide) (fun h_z => ?_) (fun h_z => ?_)
  · rw [if_neg h_z] at hF
    exact bX12_then_90 C O X (lv_sub hl [0, 1, 2] rfl) hF
  · rw [if_pos h_z] at hF
    exact bX12_then_81 C O X (lv_sub hl [0, 1] rfl) hF
noncomputable def fX12_then_b67 (N : Nat) (x1 : Int32) (S : gS) : Option (Int32 × gS) := chk (inb x1 (6)) (fX12_then_b110 N (S 32 (Int32.toNatClampNeg x1)) S)
theorem bX12_then_67 {N : Nat} {x1 : Int32} {S : gS} {H : Heap} {locs : List Loc} {ls : Array Slot} {o : Int32 × gS} (C : gC p s m args meth c cX12_then 5 RX12 ((some .int)) D (mtys cI cS) mord g Am) (O : gO (mcell g cI cS sa) mord g) (X : gX D (mcell g cI cS sa) mord g S s H locs) (hl : lv_has ls 5 [(0, .ref (g 99)), (1, .int x1)]) (hF : fX12_then_b67 N x1 S = some o) : W p l e (rmd 7) s m args below meth c H locs 0 0 (gE below args s D (mtys cI cS) (mcell g cI cS sa) mord g (some (.int o.1)) o.2) (F0 m 67 ls []) := by
  unfold fX12_then_b67 at hF
  refine lv_aload_n C.1.1 C.1.2.1 dX12_then_67 rfl (lv_at hl 0 rfl) ?_
  refine m_g32 C X dX12_then_68 ?_
  refine lv_iload_n C.1.1 C.1.2.1 dX12_then_71 rfl (lv_at hl 1 rfl) ?_
  obtain ⟨h_1, hF⟩ := chk_some hF
  refine m_r32 C X  (inb_vp h_1) rfl dX12_then_72 ?_
  refine lv_goto (tgt := 110) C.1.1 C.1.2.1 dX12_then_73 (by decide) ?_
  exact bX12_then_110 C O X (lv_sub hl [0] rfl) hF
noncomputable def fX12_then_b49 (N : Nat) (x1 : Int32) (x2 : Int32) (x3 : Int32) (S : gS) : Option (Int32 × gS) := bnd (fX12_pack N 46 0 S) fun q1 => (bnd (fX12_goOn N x2 q1.2) fun q2 => (if x3 = 0 then fX12_then_b67 N x1 q2.2 else fX12_then_b76 N x1 x3 q2.2))
theorem bX12_then_49 {N : Nat} {x1 : Int32} {x2 : Int32} {x3 : Int32} {S : gS} {H : Heap} {locs : List Loc} {ls : Array Slot} {o : Int32 × gS} (C : gC p s m args meth c cX12_then 5 RX12 ((some .int)) D (mtys cI cS) mord g Am) (O : gO (mcell g cI cS sa) mord g) (X : gX D (mcell g cI cS sa) mord g S s H locs) (hl : lv_has ls 5 [(0, .ref (g 99)), (1, .int x1), (2, .int x2), (3, .int x3)]) (hF : fX12_then_b49 N x1 x2 x3 S = some o) : W p l e (rmd 7) s m args below meth c H locs 0 0 (gE below args s D (mtys cI cS) (mcell g cI cS sa) mord g (some (.int o.1)) o.2) (F0 m 49 ls []) := by
  unfold fX12_then_b49 at hF
  refine lv_aload_n C.1.1 C.1.2.1 dX12_then_49 rfl (lv_at hl 0 rfl) ?_
  refine lv_aload_n C.1.1 C.1.2.1 dX12_then_50 rfl (lv_at hl 0 rfl) ?_
  refine m_g46 C X dX12_then_51 ?_
  refine lv_iconst (v := 0) C.1.1 C.1.2.1 dX12_then_54 (by decide) ?_
  obtain ⟨q1, hq1, hF⟩ := bnd_some hF
  refine m_callV C X vX12_pack rfl (kX12_pack O C.2.2.2.2.1 N 46 0 (rfl : mI 46 = true) S q1 hq1) (Nat.le_of_ble_eq_true rfl) (Nat.le_of_ble_eq_true rfl) (Nat.le_of_ble_eq_true rfl) (Nat.le_of_ble_eq_true rfl) rfl hl.1 rfl (Nat.le_of_ble_eq_true rfl) dX12_then_55 (fun H locs X => ?_)
  refine lv_aload_n C.1.1 C.1.2.1 dX12_then_58 rfl (lv_at hl 0 rfl) ?_
  refine lv_iload_n C.1.1 C.1.2.1 dX12_then_59 rfl (lv_at hl 2 rfl) ?_
  obtain ⟨q2, hq2, hF⟩ := bnd_some hF
  refine m_callV C X vX12_goOn rfl (kX12_goOn O C.2.2.2.2.1 N x2  q1.2 q2 hq2) (Nat.le_of_ble_eq_true rfl) (Nat.le_of_ble_eq_true rfl) (Nat.le_of_ble_eq_true rfl) (Nat.le_of_ble_eq_true rfl) rfl hl.1 rfl (Nat.le_of_ble_eq_true rfl) dX12_then_60 (fun H locs X => ?_)
  refine lv_iload_n C.1.1 C.1.2.1 dX12_then_63 rfl (lv_at hl 3 rfl) ?_
  refine lv_if_ne (tgt := 76) C.1.1 C.1.2.1 dX12_then_64 (by decide) (fun h_z => ?_) (fun h_z => ?_)
  · rw [if_neg h_z] at hF
    exact bX12_then_76 C O X (lv_sub hl [0, 1, 3] rfl) hF
  · rw [if_pos h_z] at hF
    exact bX12_then_67 C O X (lv_sub hl [0, 1] rfl) hF
noncomputable def fX12_then_b43 (N : Nat) (S : gS) : Option (Int32 × gS) := bnd (fX12_fail N 2 S) fun q1 => (some (q1.1, q1.2))
theorem bX12_then_43 {N : Nat} {S : gS} {H : Heap} {locs : List Loc} {ls : Array Slot} {o : Int32 × gS} (C : gC p s m args meth c cX12_then 5 RX12 ((some .int)) D (mtys cI cS) mord g Am) (O : gO (mcell g cI cS sa) mord g) (X : gX D (mcell g cI cS sa) mord g S s H locs) (hl : lv_has ls 5 [(0, .ref (g 99))]) (hF : fX12_then_b43 N S = some o) : W p l e (rmd 7) s m args below meth c H locs 0 0 (gE below args s D (mtys cI cS) (mcell g cI cS sa) mord g (some (.int o.1)) o.2) (F0 m 43 ls []) := by
  unfold fX12_then_b43 at hF
  refine lv_aload_n C.1.1 C.1.2.1 dX12_then_43 rfl (lv_at hl 0 rfl) ?_
  refine lv_iconst (v := 2) C.1.1 C.1.2.1 dX12_then_44 (by decide) ?_
  obtain ⟨q1, hq1, hF⟩ := bnd_some hF
  refine m_callVi C X vX12_fail rfl (kX12_fail O C.2.2.2.2.1 N 2  S q1 hq1) (Nat.le_of_ble_eq_true rfl) (Nat.le_of_ble_eq_true rfl) (Nat.le_of_ble_eq_true rfl) (Nat.le_of_ble_eq_true rfl) rfl hl.1 rfl (Nat.le_of_ble_eq_true rfl) dX12_then_45 (fun H locs X => ?_)
  cases hF
  exact g_iret C X dX12_then_48
noncomputable def fX12_then_b31 (N : Nat) (x1 : Int32) (x2 : Int32) (x3 : Int32) (S : gS) : Option (Int32 × gS) := bnd (fX12_isIn N (Int32.toInt64 x2) 0 60 S) fun q1 => (if q1.1 = 0 then fX12_then_b43 N q1.2 else fX12_then_b49 N x1 x2 x3 q1.2)
theorem bX12_then_31 {N : Nat} {x1 : Int32} {x2 : Int32} {x3 : Int32} {S : gS} {H : Heap} {locs : List Loc} {ls : Array Slot} {o : Int32 × gS} (C : gC p s m args meth c cX12_then 5 RX12 ((some .int)) D (mtys cI cS) mord g Am) (O : gO (mcell g cI cS sa) mord g) (X : gX D (mcell g cI cS sa) mord g S s H locs) (hl : lv_has ls 5 [(0, .ref (g 99)), (1, .int x1), (2, .int x2), (3, .int x3)]) (hF : fX12_then_b31 N x1 x2 x3 S = some o) : W p l e (rmd 7) s m args below meth c H locs 0 0 (gE below args s D (mtys cI cS) (mcell g cI cS sa) mord g (some (.int o.1)) o.2) (F0 m 31 ls []) := by
  unfold fX12_then_b31 at hF
  refine lv_iload_n C.1.1 C.1.2.1 dX12_then_31 rfl (lv_at hl 2 rfl) ?_
  refine lv_i2l (v := Int32.toInt64 x2) C.1.1 C.1.2.1 dX12_then_32 rfl ?_
  refine lv_lconst (v := 0) C.1.1 C.1.2.1 dX12_then_33 (by decide) ?_
  refine lv_ldc2 C.1.1 C.1.2.1 C.1.2.2.2.1 (C.1.2.2.2.2 _ mKL432) dX12_then_34 ?_
  obtain ⟨q1, hq1, hF⟩ := bnd_some hF
  refine g_callSi C X vX12_isIn (kX12_isIn O C.2.2.2.2.1 N (Int32.toInt64 x2) 0 60  S q1 hq1) (Nat.le_of_ble_eq_true rfl) (Nat.le_of_ble_eq_true rfl) (Nat.le_of_ble_eq_true rfl) (Nat.le_of_ble_eq_true rfl) rfl hl.1 rfl (Nat.le_of_ble_eq_true rfl) dX12_then_37 (fun H locs X => ?_)
  refine lv_if_ne (tgt := 49) C.1.1 C.1.2.1 dX12_then_40 (by decide) (fun h_z => ?_) (fun h_z => ?_)
  · rw [if_neg h_z] at hF
    exact bX12_then_49 C O X (lv_sub hl [0, 1, 2, 3] rfl) hF
  · rw [if_pos h_z] at hF
    exact bX12_then_43 C O X (lv_sub hl [0] rfl) hF
noncomputable def fX12_then_b25 (N : Nat) (S : gS) : Option (Int32 × gS) := bnd (fX12_fail N 1 S) fun q1 => (some (q1.1, q1.2))
theorem bX12_then_25 {N : Nat} {S : gS} {H : Heap} {locs : List Loc} {ls : Array Slot} {o : Int32 × gS} (C : gC p s m args meth c cX12_then 5 RX12 ((some .int)) D (mtys cI cS) mord g Am) (O : gO (mcell g cI cS sa) mord g) (X : gX D (mcell g cI cS sa) mord g S s H locs) (hl : lv_has ls 5 [(0, .ref (g 99))]) (hF : fX12_then_b25 N S = some o) : W p l e (rmd 7) s m args below meth c H locs 0 0 (gE below args s D (mtys cI cS) (mcell g cI cS sa) mord g (some (.int o.1)) o.2) (F0 m 25 ls []) := by
  unfold fX12_then_b25 at hF
  refine lv_aload_n C.1.1 C.1.2.1 dX12_then_25 rfl (lv_at hl 0 rfl) ?_
  refine lv_iconst (v := 1) C.1.1 C.1.2.1 dX12_then_26 (by decide) ?_
  obtain ⟨q1, hq1, hF⟩ := bnd_some hF
  refine m_callVi C X vX12_fail rfl (kX12_fail O C.2.2.2.2.1 N 1  S q1 hq1) (Nat.le_of_ble_eq_true rfl) (Nat.le_of_ble_eq_true rfl) (Nat.le_of_ble_eq_true rfl) (Nat.le_of_ble_eq_true rfl) rfl hl.1 rfl (Nat.le_of_ble_eq_true rfl) dX12_then_27 (fun H locs X => ?_)
  cases hF
  exact g_iret C X dX12_then_30
noncomputable def fX12_then_b13 (N : Nat) (x1 : Int32) (x2 : Int32) (x3 : Int32) (S : gS) : Option (Int32 × gS) := bnd (fX12_isIn N (Int32.toInt64 x3) 0 3 S) fun q1 => (if q1.1 = 0 then fX12_then_b25 N q1.2 else fX12_then_b31 N x1 x2 x3 q1.2)
theorem bX12_then_13 {N : Nat} {x1 : Int32} {x2 : Int32} {x3 : Int32} {S : gS} {H : Heap} {locs : List Loc} {ls : Array Slot} {o : Int32 × gS} (C : gC p s m args meth c cX12_then 5 RX12 ((some .int)) D (mtys cI cS) mord g Am) (O : gO (mcell g cI cS sa) mord g) (X : gX D (mcell g cI cS sa) mord g S s H locs) (hl : lv_has ls 5 [(0, .ref (g 99)), (1, .int x1), (2, .int x2), (3, .int x3)]) (hF : fX12_then_b13 N x1 x2 x3 S = some o) : W p l e (rmd 7) s m args below meth c H locs 0 0 (gE below args s D (mtys cI cS) (mcell g cI cS sa) mord g (some (.int o.1)) o.2) (F0 m 13 ls []) := by
  unfold fX12_then_b13 at hF
  refine lv_iload_n C.1.1 C.1.2.1 dX12_then_13 rfl (lv_at hl 3 rfl) ?_
  refine lv_i2l (v := Int32.toInt64 x3) C.1.1 C.1.2.1 dX12_then_14 rfl ?_
  refine lv_lconst (v := 0) C.1.1 C.1.2.1 dX12_then_15 (by decide) ?_
  refine lv_ldc2 C.1.1 C.1.2.1 C.1.2.2.2.1 (C.1.2.2.2.2 _ mKL430) dX12_then_16 ?_
  obtain ⟨q1, hq1, hF⟩ := bnd_some hF
  refine g_callSi C X vX12_isIn (kX12_isIn O C.2.2.2.2.1 N (Int32.toInt64 x3) 0 3  S q1 hq1) (Nat.le_of_ble_eq_true rfl) (Nat.le_of_ble_eq_true rfl) (Nat.le_of_ble_eq_true rfl) (Nat.le_of_ble_eq_true rfl) rfl hl.1 rfl (Nat.le_of_ble_eq_true rfl) dX12_then_19 (fun H locs X => ?_)
  refine lv_if_ne (tgt := 31) C.1.1 C.1.2.1 dX12_then_22 (by decide) (fun h_z => ?_) (fun h_z => ?_)
  · rw [if_neg h_z] at hF
    exact bX12_then_31 C O X (lv_sub hl [0, 1, 2, 3] rfl) hF
  · rw [if_pos h_z] at hF
    exact bX12_then_25 C O X (lv_sub hl [0] rfl) hF
noncomputable def fX12_then_b0 (N : Nat) (x1 : Int32) (x2 : Int32) (x3 : Int32) (S : gS) : Option (Int32 × gS) := lt (sU S 99 4 0) fun S1 => (bnd (fX12_isGuild N x1 S1) fun q1 => (if q1.1 = 0 then fX12_then_b25 N q1.2 else fX12_then_b13 N x1 x2 x3 q1.2))
theorem bX12_then_0 {N : Nat} {x1 : Int32} {x2 : Int32} {x3 : Int32} {S : gS} {H : Heap} {locs : List Loc} {ls : Array Slot} {o : Int32 × gS} (C : gC p s m args meth c cX12_then 5 RX12 ((some .int)) D (mtys cI cS) mord g Am) (O : gO (mcell g cI cS sa) mord g) (X : gX D (mcell g cI cS sa) mord g S s H locs) (hl : lv_has ls 5 [(0, .ref (g 99)), (1, .int x1), (2, .int x2), (3, .int x3)]) (hF : fX12_then_b0 N x1 x2 x3 S = some o) : W p l e (rmd 7) s m args below meth c H locs 0 0 (gE below args s D (mtys cI cS) (mcell g cI cS sa) mord g (some (.int o.1)) o.2) (F0 m 0 ls []) := by
  unfold fX12_then_b0 at hF
  refine lv_aload_n C.1.1 C.1.2.1 dX12_then_0 rfl (lv_at hl 0 rfl) ?_
  refine lv_iconst (v := 0) C.1.1 C.1.2.1 dX12_then_1 (by decide) ?_
  obtain ⟨S1, eS1, hF⟩ := lt_some hF
  refine m_p4 C O X eS1 dX12_then_2 (fun H locs X => ?_)
  refine lv_aload_n C.1.1 C.1.2.1 dX12_then_5 rfl (lv_at hl 0 rfl) ?_
  refine lv_iload_n C.1.1 C.1.2.1 dX12_then_6 rfl (lv_at hl 1 rfl) ?_
  obtain ⟨q1, hq1, hF⟩ := bnd_some hF
  refine m_callVi C X vX12_isGuild rfl (kX12_isGuild O C.2.2.2.2.1 N x1  S1 q1 hq1) (Nat.le_of_ble_eq_true rfl) (Nat.le_of_ble_eq_true rfl) (Nat.le_of_ble_eq_true rfl) (Nat.le_of_ble_eq_true rfl) rfl hl.1 rfl (Nat.le_of_ble_eq_true rfl) dX12_then_7 (fun H locs X => ?_)
  refine lv_if_eq (tgt := 25) C.1.1 C.1.2.1 dX12_then_10 (by decide) (fun h_z => ?_) (fun h_z => ?_)
  · rw [if_pos h_z] at hF
    exact bX12_then_25 C O X (lv_sub hl [0] rfl) hF
  · rw [if_neg h_z] at hF
    exact bX12_then_13 C O X (lv_sub hl [0, 1, 2, 3] rfl) hF
noncomputable def fX12_then (N : Nat) (x1 : Int32) (x2 : Int32) (x3 : Int32) (S : gS) : Option (Int32 × gS) := fX12_then_b0 N x1 x2 x3 S
theorem kX12_then {l : Launch} {D : va_G} {g : Nat → Nat} {cI cS : ClassId} {sa : Nat → Nat → Option Nat} {Am : (Nat → Prop) → State → Heap → Prop} (O : gO (mcell g cI cS sa) mord g) (P : gAm Am) (N : Nat) (x1 : Int32) (x2 : Int32) (x3 : Int32) (S : gS) (o : Int32 × gS) (hF : fX12_then N x1 x2 x3 S = some o) : gM l yX12_then cX12_then 5 ((some .int)) 7 D (mtys cI cS) (mcell g cI cS sa) mord g Am [.ref (g 99), .int x1, .int x2, .int x3] S (some (.int o.1)) o.2 :=
  gM_of O P (by decide) (Nat.le_of_ble_eq_true rfl) (fun p e s m args below meth c ls C X hl => bX12_then_0 C O X (lv_sub hl [0, 1, 2, 3] rfl) hF)
-- dripping
noncomputable def fX12_dripping_b23 (N : Nat) (x1 : Int32) (S : gS) : Option (Int32 × gS) := bnd (fX12_pack N 46 0 S) fun q1 => (lt (sU q1.2 99 37 (((q1.2 99 37) + ((x1 - 1 : Int32)) : Int32))) fun S2 => (bnd (fX12_drippingNow N  S2) fun q2 => (bnd (fX12_unpack N 46 0 q2.2) fun q3 => (some (q2.1, q3.2)))))
theorem bX12_dripping_23 {N : Nat} {x1 : Int32} {S : gS} {H : Heap} {locs : List Loc} {ls : Array Slot} {o : Int32 × gS} (C : gC p s m args meth c cX12_dripping 3 RX12 ((some .int)) D (mtys cI cS) mord g Am) (O : gO (mcell g cI cS sa) mord g) (X : gX D (mcell g cI cS sa) mord g S s H locs) (hl : lv_has ls 3 [(0, .ref (g 99)), (1, .int x1)]) (hF : fX12_dripping_b23 N x1 S = some o) : W p l e (rmd 2) s m args below meth c H locs 0 0 (gE below args s D (mtys cI cS) (mcell g cI cS sa) mord g (some (.int o.1)) o.2) (F0 m 23 ls []) := by
  unfold fX12_dripping_b23 at hF
  refine lv_aload_n C.1.1 C.1.2.1 dX12_dripping_23 rfl (lv_at hl 0 rfl) ?_
  refine lv_aload_n C.1.1 C.1.2.1 dX12_dripping_24 rfl (lv_at hl 0 rfl) ?_
  refine m_g46 C X dX12_dripping_25 ?_
  refine lv_iconst (v := 0) C.1.1 C.1.2.1 dX12_dripping_28 (by decide) ?_
  obtain ⟨q1, hq1, hF⟩ := bnd_some hF
  refine m_callV C X vX12_pack rfl (kX12_pack O C.2.2.2.2.1 N 46 0 (rfl : mI 46 = true) S q1 hq1) (Nat.le_of_ble_eq_true rfl) (Nat.le_of_ble_eq_true rfl) (Nat.le_of_ble_eq_true rfl) (Nat.le_of_ble_eq_true rfl) rfl hl.1 rfl (Nat.le_of_ble_eq_true rfl) dX12_dripping_29 (fun H locs X => ?_)
  refine lv_aload_n C.1.1 C.1.2.1 dX12_dripping_32 rfl (lv_at hl 0 rfl) ?_
  refine lv_dup C.1.1 C.1.2.1 dX12_dripping_33 rfl ?_
  refine m_g37 C X dX12_dripping_34 ?_
  refine lv_iload_n C.1.1 C.1.2.1 dX12_dripping_37 rfl (lv_at hl 1 rfl) ?_
  refine lv_iconst (v := 1) C.1.1 C.1.2.1 dX12_dripping_38 (by decide) ?_
  refine lv_isub C.1.1 C.1.2.1 dX12_dripping_39 ?_
  refine lv_iadd C.1.1 C.1.2.1 dX12_dripping_40 ?_
  obtain ⟨S2, eS2, hF⟩ := lt_some hF
  refine m_p37 C O X eS2 dX12_dripping_41 (fun H locs X => ?_)
  refine lv_aload_n C.1.1 C.1.2.1 dX12_dripping_44 rfl (lv_at hl 0 rfl) ?_
  obtain ⟨q2, hq2, hF⟩ := bnd_some hF
  refine m_callVi C X vX12_drippingNow rfl (kX12_drippingNow O C.2.2.2.2.1 N   S2 q2 hq2) (Nat.le_of_ble_eq_true rfl) (Nat.le_of_ble_eq_true rfl) (Nat.le_of_ble_eq_true rfl) (Nat.le_of_ble_eq_true rfl) rfl hl.1 rfl (Nat.le_of_ble_eq_true rfl) dX12_dripping_45 (fun H locs X => ?_)
  refine lv_istore_n (lv' := [(2, .int q2.1), (0, .ref (g 99)), (1, .int x1)]) C.1.1 C.1.2.1 dX12_dripping_48 rfl hl (by decide) rfl (fun ls hl => ?_)
  refine lv_aload_n C.1.1 C.1.2.1 dX12_dripping_49 rfl (lv_at hl 1 rfl) ?_
  refine lv_aload_n C.1.1 C.1.2.1 dX12_dripping_50 rfl (lv_at hl 1 rfl) ?_
  refine m_g46 C X dX12_dripping_51 ?_
  refine lv_iconst (v := 0) C.1.1 C.1.2.1 dX12_dripping_54 (by decide) ?_
  obtain ⟨q3, hq3, hF⟩ := bnd_some hF
  refine m_callV C X vX12_unpack rfl (kX12_unpack O C.2.2.2.2.1 N 46 0 (rfl : mI 46 = true) q2.2 q3 hq3) (Nat.le_of_ble_eq_true rfl) (Nat.le_of_ble_eq_true rfl) (Nat.le_of_ble_eq_true rfl) (Nat.le_of_ble_eq_true rfl) rfl hl.1 rfl (Nat.le_of_ble_eq_true rfl) dX12_dripping_55 (fun H locs X => ?_)
  refine lv_iload_n C.1.1 C.1.2.1 dX12_dripping_58 rfl (lv_at hl 0 rfl) ?_
  cases hF
  exact g_iret C X dX12_dripping_59
noncomputable def fX12_dripping_b17 (N : Nat) (S : gS) : Option (Int32 × gS) := bnd (fX12_fail N 1 S) fun q1 => (some (q1.1, q1.2))
theorem bX12_dripping_17 {N : Nat} {S : gS} {H : Heap} {locs : List Loc} {ls : Array Slot} {o : Int32 × gS} (C : gC p s m args meth c cX12_dripping 3 RX12 ((some .int)) D (mtys cI cS) mord g Am) (O : gO (mcell g cI cS sa) mord g) (X : gX D (mcell g cI cS sa) mord g S s H locs) (hl : lv_has ls 3 [(0, .ref (g 99))]) (hF : fX12_dripping_b17 N S = some o) : W p l e (rmd 2) s m args below meth c H locs 0 0 (gE below args s D (mtys cI cS) (mcell g cI cS sa) mord g (some (.int o.1)) o.2) (F0 m 17 ls []) := by
  unfold fX12_dripping_b17 at hF
  refine lv_aload_n C.1.1 C.1.2.1 dX12_dripping_17 rfl (lv_at hl 0 rfl) ?_
  refine lv_iconst (v := 1) C.1.1 C.1.2.1 dX12_dripping_18 (by decide) ?_
  obtain ⟨q1, hq1, hF⟩ := bnd_some hF
  refine m_callVi C X vX12_fail rfl (kX12_fail O C.2.2.2.2.1 N 1  S q1 hq1) (Nat.le_of_ble_eq_true rfl) (Nat.le_of_ble_eq_true rfl) (Nat.le_of_ble_eq_true rfl) (Nat.le_of_ble_eq_true rfl) rfl hl.1 rfl (Nat.le_of_ble_eq_true rfl) dX12_dripping_19 (fun H locs X => ?_)
  cases hF
  exact g_iret C X dX12_dripping_22
noncomputable def fX12_dripping_b0 (N : Nat) (x1 : Int32) (S : gS) : Option (Int32 × gS) := lt (sU S 99 4 0) fun S1 => (bnd (fX12_isIn N (Int32.toInt64 x1) 1 60 S1) fun q1 => (if q1.1 = 0 then fX12_dripping_b17 N q1.2 else fX12_dripping_b23 N x1 q1.2))
theorem bX12_dripping_0 {N : Nat} {x1 : Int32} {S : gS} {H : Heap} {locs : List Loc} {ls : Array Slot} {o : Int32 × gS} (C : gC p s m args meth c cX12_dripping 3 RX12 ((some .int)) D (mtys cI cS) mord g Am) (O : gO (mcell g cI cS sa) mord g) (X : gX D (mcell g cI cS sa) mord g S s H locs) (hl : lv_has ls 3 [(0, .ref (g 99)), (1, .int x1)]) (hF : fX12_dripping_b0 N x1 S = some o) : W p l e (rmd 2) s m args below meth c H locs 0 0 (gE below args s D (mtys cI cS) (mcell g cI cS sa) mord g (some (.int o.1)) o.2) (F0 m 0 ls []) := by
  unfold fX12_dripping_b0 at hF
  refine lv_aload_n C.1.1 C.1.2.1 dX12_dripping_0 rfl (lv_at hl 0 rfl) ?_
  refine lv_iconst (v := 0) C.1.1 C.1.2.1 dX12_dripping_1 (by decide) ?_
  obtain ⟨S1, eS1, hF⟩ := lt_some hF
  refine m_p4 C O X eS1 dX12_dripping_2 (fun H locs X => ?_)
  refine lv_iload_n C.1.1 C.1.2.1 dX12_dripping_5 rfl (lv_at hl 1 rfl) ?_
  refine lv_i2l (v := Int32.toInt64 x1) C.1.1 C.1.2.1 dX12_dripping_6 rfl ?_
  refine lv_lconst (v := 1) C.1.1 C.1.2.1 dX12_dripping_7 (by decide) ?_
  refine lv_ldc2 C.1.1 C.1.2.1 C.1.2.2.2.1 (C.1.2.2.2.2 _ mKL432) dX12_dripping_8 ?_
  obtain ⟨q1, hq1, hF⟩ := bnd_some hF
  refine g_callSi C X vX12_isIn (kX12_isIn O C.2.2.2.2.1 N (Int32.toInt64 x1) 1 60  S1 q1 hq1) (Nat.le_of_ble_eq_true rfl) (Nat.le_of_ble_eq_true rfl) (Nat.le_of_ble_eq_true rfl) (Nat.le_of_ble_eq_true rfl) rfl hl.1 rfl (Nat.le_of_ble_eq_true rfl) dX12_dripping_11 (fun H locs X => ?_)
  refine lv_if_ne (tgt := 23) C.1.1 C.1.2.1 dX12_dripping_14 (by decide) (fun h_z => ?_) (fun h_z => ?_)
  · rw [if_neg h_z] at hF
    exact bX12_dripping_23 C O X (lv_sub hl [0, 1] rfl) hF
  · rw [if_pos h_z] at hF
    exact bX12_dripping_17 C O X (lv_sub hl [0] rfl) hF
noncomputable def fX12_dripping (N : Nat) (x1 : Int32) (S : gS) : Option (Int32 × gS) := fX12_dripping_b0 N x1 S
theorem kX12_dripping {l : Launch} {D : va_G} {g : Nat → Nat} {cI cS : ClassId} {sa : Nat → Nat → Option Nat} {Am : (Nat → Prop) → State → Heap → Prop} (O : gO (mcell g cI cS sa) mord g) (P : gAm Am) (N : Nat) (x1 : Int32) (S : gS) (o : Int32 × gS) (hF : fX12_dripping N x1 S = some o) : gM l yX12_dripping cX12_dripping 3 ((some .int)) 2 D (mtys cI cS) (mcell g cI cS sa) mord g Am [.ref (g 99), .int x1] S (some (.int o.1)) o.2 :=
  gM_of O P (by decide) (Nat.le_of_ble_eq_true rfl) (fun p e s m args below meth c ls C X hl => bX12_dripping_0 C O X (lv_sub hl [0, 1] rfl) hF)
-- first
noncomputable def fX12_first_b66 (N : Nat) (x2 : Int32) (S : gS) : Option (Int32 × gS) := bnd (fX12_unpack N 46 0 S) fun q1 => (some (x2, q1.2))
theorem bX12_first_66 {N : Nat} {x2 : Int32} {S : gS} {H : Heap} {locs : List Loc} {ls : Array Slot} {o : Int32 × gS} (C : gC p s m args meth c cX12_first 4 RX12 ((some .int)) D (mtys cI cS) mord g Am) (O : gO (mcell g cI cS sa) mord g) (X : gX D (mcell g cI cS sa) mord g S s H locs) (hl : lv_has ls 4 [(0, .ref (g 99)), (2, .int x2)]) (hF : fX12_first_b66 N x2 S = some o) : W p l e (rmd 6) s m args below meth c H locs 0 0 (gE below args s D (mtys cI cS) (mcell g cI cS sa) mord g (some (.int o.1)) o.2) (F0 m 66 ls []) := by
  unfold fX12_first_b66 at hF
  refine lv_aload_n C.1.1 C.1.2.1 dX12_first_66 rfl (lv_at hl 0 rfl) ?_
  refine lv_aload_n C.1.1 C.1.2.1 dX12_first_67 rfl (lv_at hl 0 rfl) ?_
  refine m_g46 C X dX12_first_68 ?_
  refine lv_iconst (v := 0) C.1.1 C.1.2.1 dX12_first_71 (by decide) ?_
  obtain ⟨q1, hq1, hF⟩ := bnd_some hF
  refine m_callV C X vX12_unpack rfl (kX12_unpack O C.2.2.2.2.1 N 46 0 (rfl : mI 46 = true) S q1 hq1) (Nat.le_of_ble_eq_true rfl) (Nat.le_of_ble_eq_true rfl) (Nat.le_of_ble_eq_true rfl) (Nat.le_of_ble_eq_true rfl) rfl hl.1 rfl (Nat.le_of_ble_eq_true rfl) dX12_first_72 (fun H locs X => ?_)
  refine lv_iload_n C.1.1 C.1.2.1 dX12_first_75 rfl (lv_at hl 1 rfl) ?_
  cases hF
  exact g_iret C X dX12_first_76
noncomputable def fX12_first_b60 (N : Nat) (r32 : Int32 → Int32 → Int32 → gS → Option (Int32 × gS)) (x1 : Int32) (x2 : Int32) (x3 : Int32) (S : gS) : Option (Int32 × gS) := r32 x1 x2 ((x3 + 1 : Int32)) S
theorem bX12_first_60 {N : Nat} {r32 : Int32 → Int32 → Int32 → gS → Option (Int32 × gS)} {x1 : Int32} {x2 : Int32} {x3 : Int32} {S : gS} {H : Heap} {locs : List Loc} {ls : Array Slot} {o : Int32 × gS} (C : gC p s m args meth c cX12_first 4 RX12 ((some .int)) D (mtys cI cS) mord g Am) (O : gO (mcell g cI cS sa) mord g) (K32 : ∀ (x1 : Int32) (x2 : Int32) (x3 : Int32) (S : gS) (H : Heap) (locs : List Loc) (ls : Array Slot), gX D (mcell g cI cS sa) mord g S s H locs → lv_has ls 4 [(0, .ref (g 99)), (1, .int x1), (2, .int x2), (3, .int x3)] → r32 x1 x2 x3 S = some o → W p l e (rmd 6) s m args below meth c H locs 0 0 (gE below args s D (mtys cI cS) (mcell g cI cS sa) mord g (some (.int o.1)) o.2) (F0 m 32 ls [])) (X : gX D (mcell g cI cS sa) mord g S s H locs) (hl : lv_has ls 4 [(0, .ref (g 99)), (1, .int x1), (2, .int x2), (3, .int x3)]) (hF : fX12_first_b60 N r32 x1 x2 x3 S = some o) : W p l e (rmd 6) s m args below meth c H locs 0 0 (gE below args s D (mtys cI cS) (mcell g cI cS sa) mord g (some (.int o.1)) o.2) (F0 m 60 ls []) := by
  unfold fX12_first_b60 at hF
  refine lv_iinc (v := (x3 + 1 : Int32)) (lv' := [(3, .int ((x3 + 1 : Int32))), (0, .ref (g 99)), (1, .int x1), (2, .int x2)]) C.1.1 C.1.2.1 dX12_first_60 hl (k := 3) rfl rfl (by decide) rfl (fun ls hl => ?_)
  refine lv_goto (tgt := 32) C.1.1 C.1.2.1 dX12_first_63 (by decide) ?_
  exact K32 _ _ _ _ _ _ _ X (lv_sub hl [1, 2, 3, 0] rfl) hF
noncomputable def fX12_first_b58 (N : Nat) (r32 : Int32 → Int32 → Int32 → gS → Option (Int32 × gS)) (x1 : Int32) (x3 : Int32) (S : gS) : Option (Int32 × gS) := fX12_first_b60 N r32 x1 x3 x3 S
theorem bX12_first_58 {N : Nat} {r32 : Int32 → Int32 → Int32 → gS → Option (Int32 × gS)} {x1 : Int32} {x3 : Int32} {S : gS} {H : Heap} {locs : List Loc} {ls : Array Slot} {o : Int32 × gS} (C : gC p s m args meth c cX12_first 4 RX12 ((some .int)) D (mtys cI cS) mord g Am) (O : gO (mcell g cI cS sa) mord g) (K32 : ∀ (x1 : Int32) (x2 : Int32) (x3 : Int32) (S : gS) (H : Heap) (locs : List Loc) (ls : Array Slot), gX D (mcell g cI cS sa) mord g S s H locs → lv_has ls 4 [(0, .ref (g 99)), (1, .int x1), (2, .int x2), (3, .int x3)] → r32 x1 x2 x3 S = some o → W p l e (rmd 6) s m args below meth c H locs 0 0 (gE below args s D (mtys cI cS) (mcell g cI cS sa) mord g (some (.int o.1)) o.2) (F0 m 32 ls [])) (X : gX D (mcell g cI cS sa) mord g S s H locs) (hl : lv_has ls 4 [(0, .ref (g 99)), (1, .int x1), (3, .int x3)]) (hF : fX12_first_b58 N r32 x1 x3 S = some o) : W p l e (rmd 6) s m args below meth c H locs 0 0 (gE below args s D (mtys cI cS) (mcell g cI cS sa) mord g (some (.int o.1)) o.2) (F0 m 58 ls []) := by
  unfold fX12_first_b58 at hF
  refine lv_iload_n C.1.1 C.1.2.1 dX12_first_58 rfl (lv_at hl 2 rfl) ?_
  refine lv_istore_n (lv' := [(2, .int x3), (0, .ref (g 99)), (1, .int x1), (3, .int x3)]) C.1.1 C.1.2.1 dX12_first_59 rfl hl (by decide) rfl (fun ls hl => ?_)
  exact bX12_first_60 C O K32 X (lv_sub hl [1, 2, 0, 3] rfl) hF
noncomputable def fX12_first_b43 (N : Nat) (r32 : Int32 → Int32 → Int32 → gS → Option (Int32 × gS)) (x1 : Int32) (x2 : Int32) (x3 : Int32) (S : gS) : Option (Int32 × gS) := bnd (fX12_anHour N  S) fun q1 => (bnd (fX12_isOf N (q1.2 99 45) x1 q1.2) fun q2 => (if q2.1 = 0 then fX12_first_b60 N r32 x1 x2 x3 q2.2 else fX12_first_b58 N r32 x1 x3 q2.2))
theorem bX12_first_43 {N : Nat} {r32 : Int32 → Int32 → Int32 → gS → Option (Int32 × gS)} {x1 : Int32} {x2 : Int32} {x3 : Int32} {S : gS} {H : Heap} {locs : List Loc} {ls : Array Slot} {o : Int32 × gS} (C : gC p s m args meth c cX12_first 4 RX12 ((some .int)) D (mtys cI cS) mord g Am) (O : gO (mcell g cI cS sa) mord g) (K32 : ∀ (x1 : Int32) (x2 : Int32) (x3 : Int32) (S : gS) (H : Heap) (locs : List Loc) (ls : Array Slot), gX D (mcell g cI cS sa) mord g S s H locs → lv_has ls 4 [(0, .ref (g 99)), (1, .int x1), (2, .int x2), (3, .int x3)] → r32 x1 x2 x3 S = some o → W p l e (rmd 6) s m args below meth c H locs 0 0 (gE below args s D (mtys cI cS) (mcell g cI cS sa) mord g (some (.int o.1)) o.2) (F0 m 32 ls [])) (X : gX D (mcell g cI cS sa) mord g S s H locs) (hl : lv_has ls 4 [(0, .ref (g 99)), (1, .int x1), (2, .int x2), (3, .int x3)]) (hF : fX12_first_b43 N r32 x1 x2 x3 S = some o) : W p l e (rmd 6) s m args below meth c H locs 0 0 (gE below args s D (mtys cI cS) (mcell g cI cS sa) mord g (some (.int o.1)) o.2) (F0 m 43 ls []) := by
  unfold fX12_first_b43 at hF
  refine lv_aload_n C.1.1 C.1.2.1 dX12_first_43 rfl (lv_at hl 0 rfl) ?_
  obtain ⟨q1, hq1, hF⟩ := bnd_some hF
  refine m_callV C X vX12_anHour rfl (kX12_anHour O C.2.2.2.2.1 N   S q1 hq1) (Nat.le_of_ble_eq_true rfl) (Nat.le_of_ble_eq_true rfl) (Nat.le_of_ble_eq_true rfl) (Nat.le_of_ble_eq_true rfl) rfl hl.1 rfl (Nat.le_of_ble_eq_true rfl) dX12_first_44 (fun H locs X => ?_)
  refine lv_aload_n C.1.1 C.1.2.1 dX12_first_47 rfl (lv_at hl 0 rfl) ?_
  refine m_g45 C X dX12_first_48 ?_
  refine lv_iload_n C.1.1 C.1.2.1 dX12_first_51 rfl (lv_at hl 1 rfl) ?_
  obtain ⟨q2, hq2, hF⟩ := bnd_some hF
  refine g_callSi C X vX12_isOf (kX12_isOf O C.2.2.2.2.1 N (q1.2 99 45) x1  q1.2 q2 hq2) (Nat.le_of_ble_eq_true rfl) (Nat.le_of_ble_eq_true rfl) (Nat.le_of_ble_eq_true rfl) (Nat.le_of_ble_eq_true rfl) rfl hl.1 rfl (Nat.le_of_ble_eq_true rfl) dX12_first_52 (fun H locs X => ?_)
  refine lv_if_eq (tgt := 60) C.1.1 C.1.2.1 dX12_first_55 (by decide) (fun h_z => ?_) (fun h_z => ?_)
  · rw [if_pos h_z] at hF
    exact bX12_first_60 C O K32 X (lv_sub hl [0, 1, 2, 3] rfl) hF
  · rw [if_neg h_z] at hF
    exact bX12_first_58 C O K32 X (lv_sub hl [0, 1, 3] rfl) hF
noncomputable def fX12_first_b38 (N : Nat) (r32 : Int32 → Int32 → Int32 → gS → Option (Int32 × gS)) (x1 : Int32) (x2 : Int32) (x3 : Int32) (S : gS) : Option (Int32 × gS) := if x2 = ((-1)) then fX12_first_b43 N r32 x1 x2 x3 S else fX12_first_b66 N x2 S
theorem bX12_first_38 {N : Nat} {r32 : Int32 → Int32 → Int32 → gS → Option (Int32 × gS)} {x1 : Int32} {x2 : Int32} {x3 : Int32} {S : gS} {H : Heap} {locs : List Loc} {ls : Array Slot} {o : Int32 × gS} (C : gC p s m args meth c cX12_first 4 RX12 ((some .int)) D (mtys cI cS) mord g Am) (O : gO (mcell g cI cS sa) mord g) (K32 : ∀ (x1 : Int32) (x2 : Int32) (x3 : Int32) (S : gS) (H : Heap) (locs : List Loc) (ls : Array Slot), gX D (mcell g cI cS sa) mord g S s H locs → lv_has ls 4 [(0, .ref (g 99)), (1, .int x1), (2, .int x2), (3, .int x3)] → r32 x1 x2 x3 S = some o → W p l e (rmd 6) s m args below meth c H locs 0 0 (gE below args s D (mtys cI cS) (mcell g cI cS sa) mord g (some (.int o.1)) o.2) (F0 m 32 ls [])) (X : gX D (mcell g cI cS sa) mord g S s H locs) (hl : lv_has ls 4 [(0, .ref (g 99)), (1, .int x1), (2, .int x2), (3, .int x3)]) (hF : fX12_first_b38 N r32 x1 x2 x3 S = some o) : W p l e (rmd 6) s m args below meth c H locs 0 0 (gE below args s D (mtys cI cS) (mcell g cI cS sa) mord g (some (.int o.1)) o.2) (F0 m 38 ls []) := by
  unfold fX12_first_b38 at hF
  refine lv_iload_n C.1.1 C.1.2.1 dX12_first_38 rfl (lv_at hl 2 rfl) ?_
  refine lv_iconst (v := (-1)) C.1.1 C.1.2.1 dX12_first_39 (by decide) ?_
  refine lv_icmp_ne (tgt := 66) C.1.1 C.1.2.1 dX12_first_40 (by decide) (fun h_z => ?_) (fun h_z => ?_)
  · rw [if_neg h_z] at hF
    exact bX12_first_66 C O X (lv_sub hl [0, 2] rfl) hF
  · rw [if_pos h_z] at hF
    exact bX12_first_43 C O K32 X (lv_sub hl [0, 1, 2, 3] rfl) hF
noncomputable def fX12_first_b32 (N : Nat) (r32 : Int32 → Int32 → Int32 → gS → Option (Int32 × gS)) (x1 : Int32) (x2 : Int32) (x3 : Int32) (S : gS) : Option (Int32 × gS) := if 60 < x3 then fX12_first_b66 N x2 S else fX12_first_b38 N r32 x1 x2 x3 S
theorem bX12_first_32 {N : Nat} {r32 : Int32 → Int32 → Int32 → gS → Option (Int32 × gS)} {x1 : Int32} {x2 : Int32} {x3 : Int32} {S : gS} {H : Heap} {locs : List Loc} {ls : Array Slot} {o : Int32 × gS} (C : gC p s m args meth c cX12_first 4 RX12 ((some .int)) D (mtys cI cS) mord g Am) (O : gO (mcell g cI cS sa) mord g) (K32 : ∀ (x1 : Int32) (x2 : Int32) (x3 : Int32) (S : gS) (H : Heap) (locs : List Loc) (ls : Array Slot), gX D (mcell g cI cS sa) mord g S s H locs → lv_has ls 4 [(0, .ref (g 99)), (1, .int x1), (2, .int x2), (3, .int x3)] → r32 x1 x2 x3 S = some o → W p l e (rmd 6) s m args below meth c H locs 0 0 (gE below args s D (mtys cI cS) (mcell g cI cS sa) mord g (some (.int o.1)) o.2) (F0 m 32 ls [])) (X : gX D (mcell g cI cS sa) mord g S s H locs) (hl : lv_has ls 4 [(0, .ref (g 99)), (1, .int x1), (2, .int x2), (3, .int x3)]) (hF : fX12_first_b32 N r32 x1 x2 x3 S = some o) : W p l e (rmd 6) s m args below meth c H locs 0 0 (gE below args s D (mtys cI cS) (mcell g cI cS sa) mord g (some (.int o.1)) o.2) (F0 m 32 ls []) := by
  unfold fX12_first_b32 at hF
  refine lv_iload_n C.1.1 C.1.2.1 dX12_first_32 rfl (lv_at hl 3 rfl) ?_
  refine lv_bipush (v := 60) C.1.1 C.1.2.1 dX12_first_33 (by decide) ?_
  refine lv_icmp_gt (tgt := 66) C.1.1 C.1.2.1 dX12_first_35 (by decide) (fun h_z => ?_) (fun h_z => ?_)
  · rw [if_pos h_z] at hF
    exact bX12_first_66 C O X (lv_sub hl [0, 2] rfl) hF
  · rw [if_neg h_z] at hF
    exact bX12_first_38 C O K32 X (lv_sub hl [0, 1, 2, 3] rfl) hF
noncomputable def fX12_first_h32 (N : Nat) : Nat → Int32 → Int32 → Int32 → gS → Option (Int32 × gS)
  | 0, _, _, _, _ => none
  | n + 1, x1, x2, x3, S => fX12_first_b32 N (fX12_first_h32 N n) x1 x2 x3 S
theorem hX12_first_32 {N : Nat} {o : Int32 × gS} (C : gC p s m args meth c cX12_first 4 RX12 ((some .int)) D (mtys cI cS) mord g Am) (O : gO (mcell g cI cS sa) mord g) : ∀ (n : Nat) (x1 : Int32) (x2 : Int32) (x3 : Int32) (S : gS) (H : Heap) (locs : List Loc) (ls : Array Slot), gX D (mcell g cI cS sa) mord g S s H locs → lv_has ls 4 [(0, .ref (g 99)), (1, .int x1), (2, .int x2), (3, .int x3)] → fX12_first_h32 N n x1 x2 x3 S = some o → W p l e (rmd 6) s m args below meth c H locs 0 0 (gE below args s D (mtys cI cS) (mcell g cI cS sa) mord g (some (.int o.1)) o.2) (F0 m 32 ls []) := by
  intro n
  induction n with
  | zero =>
    intro x1 x2 x3 S H locs ls X hl hF
    exact absurd (show (none : Option (Int32 × gS)) = some o from hF) (by simp)
  | succ n ih =>
    intro x1 x2 x3 S H locs ls X hl hF
    have hF : fX12_first_b32 N (fX12_first_h32 N n) x1 x2 x3 S = some o := hF
    exact bX12_first_32 C O ih X hl hF
noncomputable def fX12_first_b19 (N : Nat) (x1 : Int32) (S : gS) : Option (Int32 × gS) := bnd (fX12_pack N 46 0 S) fun q1 => (fX12_first_h32 N N x1 ((-1)) 1 q1.2)
theorem bX12_first_19 {N : Nat} {x1 : Int32} {S : gS} {H : Heap} {locs : List Loc} {ls : Array Slot} {o : Int32 × gS} (C : gC p s m args meth c cX12_first 4 RX12 ((some .int)) D (mtys cI cS) mord g Am) (O : gO (mcell g cI cS sa) mord g) (X : gX D (mcell g cI cS sa) mord g S s H locs) (hl : lv_has ls 4 [(0, .ref (g 99)), (1, .int x1)]) (hF : fX12_first_b19 N x1 S = some o) : W p l e (rmd 6) s m args below meth c H locs 0 0 (gE below args s D (mtys cI cS) (mcell g cI cS sa) mord g (some (.int o.1)) o.2) (F0 m 19 ls []) := by
  unfold fX12_first_b19 at hF
  refine lv_aload_n C.1.1 C.1.2.1 dX12_first_19 rfl (lv_at hl 0 rfl) ?_
  refine lv_aload_n C.1.1 C.1.2.1 dX12_first_20 rfl (lv_at hl 0 rfl) ?_
  refine m_g46 C X dX12_first_21 ?_
  refine lv_iconst (v := 0) C.1.1 C.1.2.1 dX12_first_24 (by decide) ?_
  obtain ⟨q1, hq1, hF⟩ := bnd_some hF
  refine m_callV C X vX12_pack rfl (kX12_pack O C.2.2.2.2.1 N 46 0 (rfl : mI 46 = true) S q1 hq1) (Nat.le_of_ble_eq_true rfl) (Nat.le_of_ble_eq_true rfl) (Nat.le_of_ble_eq_true rfl) (Nat.le_of_ble_eq_true rfl) rfl hl.1 rfl (Nat.le_of_ble_eq_true rfl) dX12_first_25 (fun H locs X => ?_)
  refine lv_iconst (v := (-1)) C.1.1 C.1.2.1 dX12_first_28 (by decide) ?_
  refine lv_istore_n (lv' := [(2, .int ((-1))), (0, .ref (g 99)), (1, .int x1)]) C.1.1 C.1.2.1 dX12_first_29 rfl hl (by decide) rfl (fun ls hl => ?_)
  refine lv_iconst (v := 1) C.1.1 C.1.2.1 dX12_first_30 (by decide) ?_
  refine lv_istore_n (lv' := [(3, .int 1), (2, .int ((-1))), (0, .ref (g 99)), (1, .int x1)]) C.1.1 C.1.2.1 dX12_first_31 rfl hl (by decide) rfl (fun ls hl => ?_)
  exact hX12_first_32 C O N _ _ _ _ _ _ _ X (lv_sub hl [2, 3, 1, 0] rfl) hF
noncomputable def fX12_first_b13 (N : Nat) (S : gS) : Option (Int32 × gS) := bnd (fX12_fail N 1 S) fun q1 => (some (q1.1, q1.2))
theorem bX12_first_13 {N : Nat} {S : gS} {H : Heap} {locs : List Loc} {ls : Array Slot} {o : Int32 × gS} (C : gC p s m args meth c cX12_first 4 RX12 ((some .int)) D (mtys cI cS) mord g Am) (O : gO (mcell g cI cS sa) mord g) (X : gX D (mcell g cI cS sa) mord g S s H locs) (hl : lv_has ls 4 [(0, .ref (g 99))]) (hF : fX12_first_b13 N S = some o) : W p l e (rmd 6) s m args below meth c H locs 0 0 (gE below args s D (mtys cI cS) (mcell g cI cS sa) mord g (some (.int o.1)) o.2) (F0 m 13 ls []) := by
  unfold fX12_first_b13 at hF
  refine lv_aload_n C.1.1 C.1.2.1 dX12_first_13 rfl (lv_at hl 0 rfl) ?_
  refine lv_iconst (v := 1) C.1.1 C.1.2.1 dX12_first_14 (by decide) ?_
  obtain ⟨q1, hq1, hF⟩ := bnd_some hF
  refine m_callVi C X vX12_fail rfl (kX12_fail O C.2.2.2.2.1 N 1  S q1 hq1) (Nat.le_of_ble_eq_true rfl) (Nat.le_of_ble_eq_true rfl) (Nat.le_of_ble_eq_true rfl) (Nat.le_of_ble_eq_true rfl) rfl hl.1 rfl (Nat.le_of_ble_eq_true rfl) dX12_first_15 (fun H locs X => ?_)
  cases hF
  exact g_iret C X dX12_first_18
noncomputable def fX12_first_b0 (N : Nat) (x1 : Int32) (S : gS) : Option (Int32 × gS) := lt (sU S 99 4 0) fun S1 => (bnd (fX12_isGuild N x1 S1) fun q1 => (if q1.1 = 0 then fX12_first_b13 N q1.2 else fX12_first_b19 N x1 q1.2))
theorem bX12_first_0 {N : Nat} {x1 : Int32} {S : gS} {H : Heap} {locs : List Loc} {ls : Array Slot} {o : Int32 × gS} (C : gC p s m args meth c cX12_first 4 RX12 ((some .int)) D (mtys cI cS) mord g Am) (O : gO (mcell g cI cS sa) mord g) (X : gX D (mcell g cI cS sa) mord g S s H locs) (hl : lv_has ls 4 [(0, .ref (g 99)), (1, .int x1)]) (hF : fX12_first_b0 N x1 S = some o) : W p l e (rmd 6) s m args below meth c H locs 0 0 (gE below args s D (mtys cI cS) (mcell g cI cS sa) mord g (some (.int o.1)) o.2) (F0 m 0 ls []) := by
  unfold fX12_first_b0 at hF
  refine lv_aload_n C.1.1 C.1.2.1 dX12_first_0 rfl (lv_at hl 0 rfl) ?_
  refine lv_iconst (v := 0) C.1.1 C.1.2.1 dX12_first_1 (by decide) ?_
  obtain ⟨S1, eS1, hF⟩ := lt_some hF
  refine m_p4 C O X eS1 dX12_first_2 (fun H locs X => ?_)
  refine lv_aload_n C.1.1 C.1.2.1 dX12_first_5 rfl (lv_at hl 0 rfl) ?_
  refine lv_iload_n C.1.1 C.1.2.1 dX12_first_6 rfl (lv_at hl 1 rfl) ?_
  obtain ⟨q1, hq1, hF⟩ := bnd_some hF
  refine m_callVi C X vX12_isGuild rfl (kX12_isGuild O C.2.2.2.2.1 N x1  S1 q1 hq1) (Nat.le_of_ble_eq_true rfl) (Nat.le_of_ble_eq_true rfl) (Nat.le_of_ble_eq_true rfl) (Nat.le_of_ble_eq_true rfl) rfl hl.1 rfl (Nat.le_of_ble_eq_true rfl) dX12_first_7 (fun H locs X => ?_)
  refine lv_if_ne (tgt := 19) C.1.1 C.1.2.1 dX12_first_10 (by decide) (fun h_z => ?_) (fun h_z => ?_)
  · rw [if_neg h_z] at hF
    exact bX12_first_19 C O X (lv_sub hl [0, 1] rfl) hF
  · rw [if_pos h_z] at hF
    exact bX12_first_13 C O X (lv_sub hl [0] rfl) hF
noncomputable def fX12_first (N : Nat) (x1 : Int32) (S : gS) : Option (Int32 × gS) := fX12_first_b0 N x1 S
theorem kX12_first {l : Launch} {D : va_G} {g : Nat → Nat} {cI cS : ClassId} {sa : Nat → Nat → Option Nat} {Am : (Nat → Prop) → State → Heap → Prop} (O : gO (mcell g cI cS sa) mord g) (P : gAm Am) (N : Nat) (x1 : Int32) (S : gS) (o : Int32 × gS) (hF : fX12_first N x1 S = some o) : gM l yX12_first cX12_first 4 ((some .int)) 6 D (mtys cI cS) (mcell g cI cS sa) mord g Am [.ref (g 99), .int x1] S (some (.int o.1)) o.2 :=
  gM_of O P (by decide) (Nat.le_of_ble_eq_true rfl) (fun p e s m args below meth c ls C X hl => bX12_first_0 C O X (lv_sub hl [0, 1] rfl) hF)
-- dismissed
noncomputable def fX12_dismissed_b75 (N : Nat) (x2 : Int32) (S : gS) : Option (Int32 × gS) := bnd (fX12_unpack N 46 0 S) fun q1 => (some (x2, q1.2))
theorem bX12_dismissed_75 {N : Nat} {x2 : Int32} {S : gS} {H : Heap} {locs : List Loc} {ls : Array Slot} {o : Int32 × gS} (C : gC p s m args meth c cX12_dismissed 4 RX12 ((some .int)) D (mtys cI cS) mord g Am) (O : gO (mcell g cI cS sa) mord g) (X : gX D (mcell g cI cS sa) mord g S s H locs) (hl : lv_has ls 4 [(0, .ref (g 99)), (2, .int x2)]) (hF : fX12_dismissed_b75 N x2 S = some o) : W p l e (rmd 6) s m args below meth c H locs 0 0 (gE below args s D (mtys cI cS) (mcell g cI cS sa) mord g (some (.int o.1)) o.2) (F0 m 75 ls []) := by
  unfold fX12_dismissed_b75 at hF
  refine lv_aload_n C.1.1 C.1.2.1 dX12_dismissed_75 rfl (lv_at hl 0 rfl) ?_
  refine lv_aload_n C.1.1 C.1.2.1 dX12_dismissed_76 rfl (lv_at hl 0 rfl) ?_
  refine m_g46 C X dX12_dismissed_77 ?_
  refine lv_iconst (v := 0) C.1.1 C.1.2.1 dX12_dismissed_80 (by decide) ?_
  obtain ⟨q1, hq1, hF⟩ := bnd_some hF
  refine m_callV C X vX12_unpack rfl (kX12_unpack O C.2.2.2.2.1 N 46 0 (rfl : mI 46 = true) S q1 hq1) (Nat.le_of_ble_eq_true rfl) (Nat.le_of_ble_eq_true rfl) (Nat.le_of_ble_eq_true rfl) (Nat.le_of_ble_eq_true rfl) rfl hl.1 rfl (Nat.le_of_ble_eq_true rfl) dX12_dismissed_81 (fun H locs X => ?_)
  refine lv_iload_n C.1.1 C.1.2.1 dX12_dismissed_84 rfl (lv_at hl 1 rfl) ?_
  cases hF
  exact g_iret C X dX12_dismissed_85
noncomputable def fX12_dismissed_b69 (N : Nat) (r32 : Int32 → Int32 → Int32 → gS → Option (Int32 × gS)) (x1 : Int32) (x2 : Int32) (x3 : Int32) (S : gS) : Option (Int32 × gS) := r32 x1 x2 ((x3 + 1 : Int32)) S
theorem bX12_dismissed_69 {N : Nat} {r32 : Int32 → Int32 → Int32 → gS → Option (Int32 × gS)} {x1 : Int32} {x2 : Int32} {x3 : Int32} {S : gS} {H : Heap} {locs : List Loc} {ls : Array Slot} {o : Int32 × gS} (C : gC p s m args meth c cX12_dismissed 4 RX12 ((some .int)) D (mtys cI cS) mord g Am) (O : gO (mcell g cI cS sa) mord g) (K32 : ∀ (x1 : Int32) (x2 : Int32) (x3 : Int32) (S : gS) (H : Heap) (locs : List Loc) (ls : Array Slot), gX D (mcell g cI cS sa) mord g S s H locs → lv_has ls 4 [(0, .ref (g 99)), (1, .int x1), (2, .int x2), (3, .int x3)] → r32 x1 x2 x3 S = some o → W p l e (rmd 6) s m args below meth c H locs 0 0 (gE below args s D (mtys cI cS) (mcell g cI cS sa) mord g (some (.int o.1)) o.2) (F0 m 32 ls [])) (X : gX D (mcell g cI cS sa) mord g S s H locs) (hl : lv_has ls 4 [(0, .ref (g 99)), (1, .int x1), (2, .int x2), (3, .int x3)]) (hF : fX12_dismissed_b69 N r32 x1 x2 x3 S = some o) : W p l e (rmd 6) s m args below meth c H locs 0 0 (gE below args s D (mtys cI cS) (mcell g cI cS sa) mord g (some (.int o.1)) o.2) (F0 m 69 ls []) := by
  unfold fX12_dismissed_b69 at hF
  refine lv_iinc (v := (x3 + 1 : Int32)) (lv' := [(3, .int ((x3 + 1 : Int32))), (0, .ref (g 99)), (1, .int x1), (2, .int x2)]) C.1.1 C.1.2.1 dX12_dismissed_69 hl (k := 3) rfl rfl (by decide) rfl (fun ls hl => ?_)
  refine lv_goto (tgt := 32) C.1.1 C.1.2.1 dX12_dismissed_72 (by decide) ?_
  exact K32 _ _ _ _ _ _ _ X (lv_sub hl [1, 2, 3, 0] rfl) hF
noncomputable def fX12_dismissed_b67 (N : Nat) (r32 : Int32 → Int32 → Int32 → gS → Option (Int32 × gS)) (x1 : Int32) (x3 : Int32) (S : gS) : Option (Int32 × gS) := fX12_dismissed_b69 N r32 x1 x3 x3 S
theorem bX12_dismissed_67 {N : Nat} {r32 : Int32 → Int32 → Int32 → gS → Option (Int32 × gS)} {x1 : Int32} {x3 : Int32} {S : gS} {H : Heap} {locs : List Loc} {ls : Array Slot} {o : Int32 × gS} (C : gC p s m args meth c cX12_dismissed 4 RX12 ((some .int)) D (mtys cI cS) mord g Am) (O : gO (mcell g cI cS sa) mord g) (K32 : ∀ (x1 : Int32) (x2 : Int32) (x3 : Int32) (S : gS) (H : Heap) (locs : List Loc) (ls : Array Slot), gX D (mcell g cI cS sa) mord g S s H locs → lv_has ls 4 [(0, .ref (g 99)), (1, .int x1), (2, .int x2), (3, .int x3)] → r32 x1 x2 x3 S = some o → W p l e (rmd 6) s m args below meth c H locs 0 0 (gE below args s D (mtys cI cS) (mcell g cI cS sa) mord g (some (.int o.1)) o.2) (F0 m 32 ls [])) (X : gX D (mcell g cI cS sa) mord g S s H locs) (hl : lv_has ls 4 [(0, .ref (g 99)), (1, .int x1), (3, .int x3)]) (hF : fX12_dismissed_b67 N r32 x1 x3 S = some o) : W p l e (rmd 6) s m args below meth c H locs 0 0 (gE below args s D (mtys cI cS) (mcell g cI cS sa) mord g (some (.int o.1)) o.2) (F0 m 67 ls []) := by
  unfold fX12_dismissed_b67 at hF
  refine lv_iload_n C.1.1 C.1.2.1 dX12_dismissed_67 rfl (lv_at hl 2 rfl) ?_
  refine lv_istore_n (lv' := [(2, .int x3), (0, .ref (g 99)), (1, .int x1), (3, .int x3)]) C.1.1 C.1.2.1 dX12_dismissed_68 rfl hl (by decide) rfl (fun ls hl => ?_)
  exact bX12_dismissed_69 C O K32 X (lv_sub hl [1, 2, 0, 3] rfl) hF
noncomputable def fX12_dismissed_b53 (N : Nat) (r32 : Int32 → Int32 → Int32 → gS → Option (Int32 × gS)) (x1 : Int32) (x2 : Int32) (x3 : Int32) (S : gS) : Option (Int32 × gS) := bnd (fX12_anHour N  S) fun q1 => (chk (inb x1 (6)) (if (q1.2 35 (Int32.toNatClampNeg x1)) = ((-1)) then fX12_dismissed_b67 N r32 x1 x3 q1.2 else fX12_dismissed_b69 N r32 x1 x2 x3 q1.2))
theorem bX12_dismissed_53 {N : Nat} {r32 : Int32 → Int32 → Int32 → gS → Option (Int32 × gS)} {x1 : Int32} {x2 : Int32} {x3 : Int32} {S : gS} {H : Heap} {locs : List Loc} {ls : Array Slot} {o : Int32 × gS} (C : gC p s m args meth c cX12_dismissed 4 RX12 ((some .int)) D (mtys cI cS) mord g Am) (O : gO (mcell g cI cS sa) mord g) (K32 : ∀ (x1 : Int32) (x2 : Int32) (x3 : Int32) (S : gS) (H : Heap) (locs : List Loc) (ls : Array Slot), gX D (mcell g cI cS sa) mord g S s H locs → lv_has ls 4 [(0, .ref (g 99)), (1, .int x1), (2, .int x2), (3, .int x3)] → r32 x1 x2 x3 S = some o → W p l e (rmd 6) s m args below meth c H locs 0 0 (gE below args s D (mtys cI cS) (mcell g cI cS sa) mord g (some (.int o.1)) o.2) (F0 m 32 ls [])) (X : gX D (mcell g cI cS sa) mord g S s H locs) (hl : lv_has ls 4 [(0, .ref (g 99)), (1, .int x1), (2, .int x2), (3, .int x3)]) (hF : fX12_dismissed_b53 N r32 x1 x2 x3 S = some o) : W p l e (rmd 6) s m args below meth c H locs 0 0 (gE below args s D (mtys cI cS) (mcell g cI cS sa) mord g (some (.int o.1)) o.2) (F0 m 53 ls []) := by
  unfold fX12_dismissed_b53 at hF
  refine lv_aload_n C.1.1 C.1.2.1 dX12_dismissed_53 rfl (lv_at hl 0 rfl) ?_
  obtain ⟨q1, hq1, hF⟩ := bnd_some hF
  refine m_callV C X vX12_anHour rfl (kX12_anHour O C.2.2.2.2.1 N   S q1 hq1) (Nat.le_of_ble_eq_true rfl) (Nat.le_of_ble_eq_true rfl) (Nat.le_of_ble_eq_true rfl) (Nat.le_of_ble_eq_true rfl) rfl hl.1 rfl (Nat.le_of_ble_eq_true rfl) dX12_dismissed_54 (fun H locs X => ?_)
  refine lv_aload_n C.1.1 C.1.2.1 dX12_dismissed_57 rfl (lv_at hl 0 rfl) ?_
  refine m_g35 C X dX12_dismissed_58 ?_
  refine lv_iload_n C.1.1 C.1.2.1 dX12_dismissed_61 rfl (lv_at hl 1 rfl) ?_
  obtain ⟨h_1, hF⟩ := chk_some hF
  refine m_r35 C X  (inb_vp h_1) rfl dX12_dismissed_62 ?_
  refine lv_iconst (v := (-1)) C.1.1 C.1.2.1 dX12_dismissed_63 (by decide) ?_
  refine lv_icmp_ne (tgt := 69) C.1.1 C.1.2.1 dX12_dismissed_64 (by decide) (fun h_z => ?_) (fun h_z => ?_)
  · rw [if_neg h_z] at hF
    exact bX12_dismissed_69 C O K32 X (lv_sub hl [0, 1, 2, 3] rfl) hF
  · rw [if_pos h_z] at hF
    exact bX12_dismissed_67 C O K32 X (lv_sub hl [0, 1, 3] rfl) hF
noncomputable def fX12_dismissed_b43 (N : Nat) (r32 : Int32 → Int32 → Int32 → gS → Option (Int32 × gS)) (x1 : Int32) (x2 : Int32) (x3 : Int32) (S : gS) : Option (Int32 × gS) := chk (inb x1 (6)) (if (S 35 (Int32.toNatClampNeg x1)) = ((-1)) then fX12_dismissed_b75 N x2 S else fX12_dismissed_b53 N r32 x1 x2 x3 S)
theorem bX12_dismissed_43 {N : Nat} {r32 : Int32 → Int32 → Int32 → gS → Option (Int32 × gS)} {x1 : Int32} {x2 : Int32} {x3 : Int32} {S : gS} {H : Heap} {locs : List Loc} {ls : Array Slot} {o : Int32 × gS} (C : gC p s m args meth c cX12_dismissed 4 RX12 ((some .int)) D (mtys cI cS) mord g Am) (O : gO (mcell g cI cS sa) mord g) (K32 : ∀ (x1 : Int32) (x2 : Int32) (x3 : Int32) (S : gS) (H : Heap) (locs : List Loc) (ls : Array Slot), gX D (mcell g cI cS sa) mord g S s H locs → lv_has ls 4 [(0, .ref (g 99)), (1, .int x1), (2, .int x2), (3, .int x3)] → r32 x1 x2 x3 S = some o → W p l e (rmd 6) s m args below meth c H locs 0 0 (gE below args s D (mtys cI cS) (mcell g cI cS sa) mord g (some (.int o.1)) o.2) (F0 m 32 ls [])) (X : gX D (mcell g cI cS sa) mord g S s H locs) (hl : lv_has ls 4 [(0, .ref (g 99)), (1, .int x1), (2, .int x2), (3, .int x3)]) (hF : fX12_dismissed_b43 N r32 x1 x2 x3 S = some o) : W p l e (rmd 6) s m args below meth c H locs 0 0 (gE below args s D (mtys cI cS) (mcell g cI cS sa) mord g (some (.int o.1)) o.2) (F0 m 43 ls []) := by
  unfold fX12_dismissed_b43 at hF
  refine lv_aload_n C.1.1 C.1.2.1 dX12_dismissed_43 rfl (lv_at hl 0 rfl) ?_
  refine m_g35 C X dX12_dismissed_44 ?_
  refine lv_iload_n C.1.1 C.1.2.1 dX12_dismissed_47 rfl (lv_at hl 1 rfl) ?_
  obtain ⟨h_1, hF⟩ := chk_some hF
  refine m_r35 C X  (inb_vp h_1) rfl dX12_dismissed_48 ?_
  refine lv_iconst (v := (-1)) C.1.1 C.1.2.1 dX12_dismissed_49 (by decide) ?_
  refine lv_icmp_eq (tgt := 75) C.1.1 C.1.2.1 dX12_dismissed_50 (by decide) (fun h_z => ?_) (fun h_z => ?_)
  · rw [if_pos h_z] at hF
    exact bX12_dismissed_75 C O X (lv_sub hl [0, 2] rfl) hF
  · rw [if_neg h_z] at hF
    exact bX12_dismissed_53 C O K32 X (lv_sub hl [0, 1, 2, 3] rfl) hF
noncomputable def fX12_dismissed_b38 (N : Nat) (r32 : Int32 → Int32 → Int32 → gS → Option (Int32 × gS)) (x1 : Int32) (x2 : Int32) (x3 : Int32) (S : gS) : Option (Int32 × gS) := if x2 = ((-1)) then fX12_dismissed_b43 N r32 x1 x2 x3 S else fX12_dismissed_b75 N x2 S
theorem bX12_dismissed_38 {N : Nat} {r32 : Int32 → Int32 → Int32 → gS → Option (Int32 × gS)} {x1 : Int32} {x2 : Int32} {x3 : Int32} {S : gS} {H : Heap} {locs : List Loc} {ls : Array Slot} {o : Int32 × gS} (C : gC p s m args meth c cX12_dismissed 4 RX12 ((some .int)) D (mtys cI cS) mord g Am) (O : gO (mcell g cI cS sa) mord g) (K32 : ∀ (x1 : Int32) (x2 : Int32) (x3 : Int32) (S : gS) (H : Heap) (locs : List Loc) (ls : Array Slot), gX D (mcell g cI cS sa) mord g S s H locs → lv_has ls 4 [(0, .ref (g 99)), (1, .int x1), (2, .int x2), (3, .int x3)] → r32 x1 x2 x3 S = some o → W p l e (rmd 6) s m args below meth c H locs 0 0 (gE below args s D (mtys cI cS) (mcell g cI cS sa) mord g (some (.int o.1)) o.2) (F0 m 32 ls [])) (X : gX D (mcell g cI cS sa) mord g S s H locs) (hl : lv_has ls 4 [(0, .ref (g 99)), (1, .int x1), (2, .int x2), (3, .int x3)]) (hF : fX12_dismissed_b38 N r32 x1 x2 x3 S = some o) : W p l e (rmd 6) s m args below meth c H locs 0 0 (gE below args s D (mtys cI cS) (mcell g cI cS sa) mord g (some (.int o.1)) o.2) (F0 m 38 ls []) := by
  unfold fX12_dismissed_b38 at hF
  refine lv_iload_n C.1.1 C.1.2.1 dX12_dismissed_38 rfl (lv_at hl 2 rfl) ?_
  refine lv_iconst (v := (-1)) C.1.1 C.1.2.1 dX12_dismissed_39 (by decide) ?_
  refine lv_icmp_ne (tgt := 75) C.1.1 C.1.2.1 dX12_dismissed_40 (by decide) (fun h_z => ?_) (fun h_z => ?_)
  · rw [if_neg h_z] at hF
    exact bX12_dismissed_75 C O X (lv_sub hl [0, 2] rfl) hF
  · rw [if_pos h_z] at hF
    exact bX12_dismissed_43 C O K32 X (lv_sub hl [0, 1, 2, 3] rfl) hF
noncomputable def fX12_dismissed_b32 (N : Nat) (r32 : Int32 → Int32 → Int32 → gS → Option (Int32 × gS)) (x1 : Int32) (x2 : Int32) (x3 : Int32) (S : gS) : Option (Int32 × gS) := if 60 < x3 then fX12_dismissed_b75 N x2 S else fX12_dismissed_b38 N r32 x1 x2 x3 S
theorem bX12_dismissed_32 {N : Nat} {r32 : Int32 → Int32 → Int32 → gS → Option (Int32 × gS)} {x1 : Int32} {x2 : Int32} {x3 : Int32} {S : gS} {H : Heap} {locs : List Loc} {ls : Array Slot} {o : Int32 × gS} (C : gC p s m args meth c cX12_dismissed 4 RX12 ((some .int)) D (mtys cI cS) mord g Am) (O : gO (mcell g cI cS sa) mord g) (K32 : ∀ (x1 : Int32) (x2 : Int32) (x3 : Int32) (S : gS) (H : Heap) (locs : List Loc) (ls : Array Slot), gX D (mcell g cI cS sa) mord g S s H locs → lv_has ls 4 [(0, .ref (g 99)), (1, .int x1), (2, .int x2), (3, .int x3)] → r32 x1 x2 x3 S = some o → W p l e (rmd 6) s m args below meth c H locs 0 0 (gE below args s D (mtys cI cS) (mcell g cI cS sa) mord g (some (.int o.1)) o.2) (F0 m 32 ls [])) (X : gX D (mcell g cI cS sa) mord g S s H locs) (hl : lv_has ls 4 [(0, .ref (g 99)), (1, .int x1), (2, .int x2), (3, .int x3)]) (hF : fX12_dismissed_b32 N r32 x1 x2 x3 S = some o) : W p l e (rmd 6) s m args below meth c H locs 0 0 (gE below args s D (mtys cI cS) (mcell g cI cS sa) mord g (some (.int o.1)) o.2) (F0 m 32 ls []) := by
  unfold fX12_dismissed_b32 at hF
  refine lv_iload_n C.1.1 C.1.2.1 dX12_dismissed_32 rfl (lv_at hl 3 rfl) ?_
  refine lv_bipush (v := 60) C.1.1 C.1.2.1 dX12_dismissed_33 (by decide) ?_
  refine lv_icmp_gt (tgt := 75) C.1.1 C.1.2.1 dX12_dismissed_35 (by decide) (fun h_z => ?_) (fun h_z => ?_)
  · rw [if_pos h_z] at hF
    exact bX12_dismissed_75 C O X (lv_sub hl [0, 2] rfl) hF
  · rw [if_neg h_z] at hF
    exact bX12_dismissed_38 C O K32 X (lv_sub hl [0, 1, 2, 3] rfl) hF
noncomputable def fX12_dismissed_h32 (N : Nat) : Nat → Int32 → Int32 → Int32 → gS → Option (Int32 × gS)
  | 0, _, _, _, _ => none
  | n + 1, x1, x2, x3, S => fX12_dismissed_b32 N (fX12_dismissed_h32 N n) x1 x2 x3 S
theorem hX12_dismissed_32 {N : Nat} {o : Int32 × gS} (C : gC p s m args meth c cX12_dismissed 4 RX12 ((some .int)) D (mtys cI cS) mord g Am) (O : gO (mcell g cI cS sa) mord g) : ∀ (n : Nat) (x1 : Int32) (x2 : Int32) (x3 : Int32) (S : gS) (H : Heap) (locs : List Loc) (ls : Array Slot), gX D (mcell g cI cS sa) mord g S s H locs → lv_has ls 4 [(0, .ref (g 99)), (1, .int x1), (2, .int x2), (3, .int x3)] → fX12_dismissed_h32 N n x1 x2 x3 S = some o → W p l e (rmd 6) s m args below meth c H locs 0 0 (gE below args s D (mtys cI cS) (mcell g cI cS sa) mord g (some (.int o.1)) o.2) (F0 m 32 ls []) := by
  intro n
  induction n with
  | zero =>
    intro x1 x2 x3 S H locs ls X hl hF
    exact absurd (show (none : Option (Int32 × gS)) = some o from hF) (by simp)
  | succ n ih =>
    intro x1 x2 x3 S H locs ls X hl hF
    have hF : fX12_dismissed_b32 N (fX12_dismissed_h32 N n) x1 x2 x3 S = some o := hF
    exact bX12_dismissed_32 C O ih X hl hF
noncomputable def fX12_dismissed_b19 (N : Nat) (x1 : Int32) (S : gS) : Option (Int32 × gS) := bnd (fX12_pack N 46 0 S) fun q1 => (fX12_dismissed_h32 N N x1 ((-1)) 1 q1.2)
theorem bX12_dismissed_19 {N : Nat} {x1 : Int32} {S : gS} {H : Heap} {locs : List Loc} {ls : Array Slot} {o : Int32 × gS} (C : gC p s m args meth c cX12_dismissed 4 RX12 ((some .int)) D (mtys cI cS) mord g Am) (O : gO (mcell g cI cS sa) mord g) (X : gX D (mcell g cI cS sa) mord g S s H locs) (hl : lv_has ls 4 [(0, .ref (g 99)), (1, .int x1)]) (hF : fX12_dismissed_b19 N x1 S = some o) : W p l e (rmd 6) s m args below meth c H locs 0 0 (gE below args s D (mtys cI cS) (mcell g cI cS sa) mord g (some (.int o.1)) o.2) (F0 m 19 ls []) := by
  unfold fX12_dismissed_b19 at hF
  refine lv_aload_n C.1.1 C.1.2.1 dX12_dismissed_19 rfl (lv_at hl 0 rfl) ?_
  refine lv_aload_n C.1.1 C.1.2.1 dX12_dismissed_20 rfl (lv_at hl 0 rfl) ?_
  refine m_g46 C X dX12_dismissed_21 ?_
  refine lv_iconst (v := 0) C.1.1 C.1.2.1 dX12_dismissed_24 (by decide) ?_
  obtain ⟨q1, hq1, hF⟩ := bnd_some hF
  refine m_callV C X vX12_pack rfl (kX12_pack O C.2.2.2.2.1 N 46 0 (rfl : mI 46 = true) S q1 hq1) (Nat.le_of_ble_eq_true rfl) (Nat.le_of_ble_eq_true rfl) (Nat.le_of_ble_eq_true rfl) (Nat.le_of_ble_eq_true rfl) rfl hl.1 rfl (Nat.le_of_ble_eq_true rfl) dX12_dismissed_25 (fun H locs X => ?_)
  refine lv_iconst (v := (-1)) C.1.1 C.1.2.1 dX12_dismissed_28 (by decide) ?_
  refine lv_istore_n (lv' := [(2, .int ((-1))), (0, .ref (g 99)), (1, .int x1)]) C.1.1 C.1.2.1 dX12_dismissed_29 rfl hl (by decide) rfl (fun ls hl => ?_)
  refine lv_iconst (v := 1) C.1.1 C.1.2.1 dX12_dismissed_30 (by decide) ?_
  refine lv_istore_n (lv' := [(3, .int 1), (2, .int ((-1))), (0, .ref (g 99)), (1, .int x1)]) C.1.1 C.1.2.1 dX12_dismissed_31 rfl hl (by decide) rfl (fun ls hl => ?_)
  exact hX12_dismissed_32 C O N _ _ _ _ _ _ _ X (lv_sub hl [2, 3, 1, 0] rfl) hF
noncomputable def fX12_dismissed_b13 (N : Nat) (S : gS) : Option (Int32 × gS) := bnd (fX12_fail N 1 S) fun q1 => (some (q1.1, q1.2))
theorem bX12_dismissed_13 {N : Nat} {S : gS} {H : Heap} {locs : List Loc} {ls : Array Slot} {o : Int32 × gS} (C : gC p s m args meth c cX12_dismissed 4 RX12 ((some .int)) D (mtys cI cS) mord g Am) (O : gO (mcell g cI cS sa) mord g) (X : gX D (mcell g cI cS sa) mord g S s H locs) (hl : lv_has ls 4 [(0, .ref (g 99))]) (hF : fX12_dismissed_b13 N S = some o) : W p l e (rmd 6) s m args below meth c H locs 0 0 (gE below args s D (mtys cI cS) (mcell g cI cS sa) mord g (some (.int o.1)) o.2) (F0 m 13 ls []) := by
  unfold fX12_dismissed_b13 at hF
  refine lv_aload_n C.1.1 C.1.2.1 dX12_dismissed_13 rfl (lv_at hl 0 rfl) ?_
  refine lv_iconst (v := 1) C.1.1 C.1.2.1 dX12_dismissed_14 (by decide) ?_
  obtain ⟨q1, hq1, hF⟩ := bnd_some hF
  refine m_callVi C X vX12_fail rfl (kX12_fail O C.2.2.2.2.1 N 1  S q1 hq1) (Nat.le_of_ble_eq_true rfl) (Nat.le_of_ble_eq_true rfl) (Nat.le_of_ble_eq_true rfl) (Nat.le_of_ble_eq_true rfl) rfl hl.1 rfl (Nat.le_of_ble_eq_true rfl) dX12_dismissed_15 (fun H locs X => ?_)
  cases hF
  exact g_iret C X dX12_dismissed_18
noncomputable def fX12_dismissed_b0 (N : Nat) (x1 : Int32) (S : gS) : Option (Int32 × gS) := lt (sU S 99 4 0) fun S1 => (bnd (fX12_isGuild N x1 S1) fun q1 => (if q1.1 = 0 then fX12_dismissed_b13 N q1.2 else fX12_dismissed_b19 N x1 q1.2))
theorem bX12_dismissed_0 {N : Nat} {x1 : Int32} {S : gS} {H : Heap} {locs : List Loc} {ls : Array Slot} {o : Int32 × gS} (C : gC p s m args meth c cX12_dismissed 4 RX12 ((some .int)) D (mtys cI cS) mord g Am) (O : gO (mcell g cI cS sa) mord g) (X : gX D (mcell g cI cS sa) mord g S s H locs) (hl : lv_has ls 4 [(0, .ref (g 99)), (1, .int x1)]) (hF : fX12_dismissed_b0 N x1 S = some o) : W p l e (rmd 6) s m args below meth c H locs 0 0 (gE below args s D (mtys cI cS) (mcell g cI cS sa) mord g (some (.int o.1)) o.2) (F0 m 0 ls []) := by
  unfold fX12_dismissed_b0 at hF
  refine lv_aload_n C.1.1 C.1.2.1 dX12_dismissed_0 rfl (lv_at hl 0 rfl) ?_
  refine lv_iconst (v := 0) C.1.1 C.1.2.1 dX12_dismissed_1 (by decide) ?_
  obtain ⟨S1, eS1, hF⟩ := lt_some hF
  refine m_p4 C O X eS1 dX12_dismissed_2 (fun H locs X => ?_)
  refine lv_aload_n C.1.1 C.1.2.1 dX12_dismissed_5 rfl (lv_at hl 0 rfl) ?_
  refine lv_iload_n C.1.1 C.1.2.1 dX12_dismissed_6 rfl (lv_at hl 1 rfl) ?_
  obtain ⟨q1, hq1, hF⟩ := bnd_some hF
  refine m_callVi C X vX12_isGuild rfl (kX12_isGuild O C.2.2.2.2.1 N x1  S1 q1 hq1) (Nat.le_of_ble_eq_true rfl) (Nat.le_of_ble_eq_true rfl) (Nat.le_of_ble_eq_true rfl) (Nat.le_of_ble_eq_true rfl) rfl hl.1 rfl (Nat.le_of_ble_eq_true rfl) dX12_dismissed_7 (fun H locs X => ?_)
  refine lv_if_ne (tgt := 19) C.1.1 C.1.2.1 dX12_dismissed_10 (by decide) (fun h_z => ?_) (fun h_z => ?_)
  · rw [if_neg h_z] at hF
    exact bX12_dismissed_19 C O X (lv_sub hl [0, 1] rfl) hF
  · rw [if_pos h_z] at hF
    exact bX12_dismissed_13 C O X (lv_sub hl [0] rfl) hF
noncomputable def fX12_dismissed (N : Nat) (x1 : Int32) (S : gS) : Option (Int32 × gS) := fX12_dismissed_b0 N x1 S
theorem kX12_dismissed {l : Launch} {D : va_G} {g : Nat → Nat} {cI cS : ClassId} {sa : Nat → Nat → Option Nat} {Am : (Nat → Prop) → State → Heap → Prop} (O : gO (mcell g cI cS sa) mord g) (P : gAm Am) (N : Nat) (x1 : Int32) (S : gS) (o : Int32 × gS) (hF : fX12_dismissed N x1 S = some o) : gM l yX12_dismissed cX12_dismissed 4 ((some .int)) 6 D (mtys cI cS) (mcell g cI cS sa) mord g Am [.ref (g 99), .int x1] S (some (.int o.1)) o.2 :=
  gM_of O P (by decide) (Nat.le_of_ble_eq_true rfl) (fun p e s m args below meth c ls C X hl => bX12_dismissed_0 C O X (lv_sub hl [0, 1] rfl) hF)
-- greatest
noncomputable def fX12_greatest_b36 (N : Nat) (x2 : Int32) (S : gS) : Option (Int32 × gS) := some (x2, S)
theorem bX12_greatest_36 {N : Nat} {x2 : Int32} {S : gS} {H : Heap} {locs : List Loc} {ls : Array Slot} {o : Int32 × gS} (C : gC p s m args meth c cX12_greatest 4 RX12 ((some .int)) D (mtys cI cS) mord g Am) (O : gO (mcell g cI cS sa) mord g) (X : gX D (mcell g cI cS sa) mord g S s H locs) (hl : lv_has ls 4 [(2, .int x2)]) (hF : fX12_greatest_b36 N x2 S = some o) : W p l e (rmd 0) s m args below meth c H locs 0 0 (gE below args s D (mtys cI cS) (mcell g cI cS sa) mord g (some (.int o.1)) o.2) (F0 m 36 ls []) := by
  unfold fX12_greatest_b36 at hF
  refine lv_iload_n C.1.1 C.1.2.1 dX12_greatest_36 rfl (lv_at hl 0 rfl) ?_
  cases hF
  exact g_iret C X dX12_greatest_37
noncomputable def fX12_greatest_b30 (N : Nat) (r4 : Nat → Int32 → Int32 → gS → Option (Int32 × gS)) (k1 : Nat) (x2 : Int32) (x3 : Int32) (S : gS) : Option (Int32 × gS) := r4 k1 x2 ((x3 + 1 : Int32)) S
theorem bX12_greatest_30 {N : Nat} {r4 : Nat → Int32 → Int32 → gS → Option (Int32 × gS)} {k1 : Nat} {x2 : Int32} {x3 : Int32} {S : gS} {H : Heap} {locs : List Loc} {ls : Array Slot} {o : Int32 × gS} (C : gC p s m args meth c cX12_greatest 4 RX12 ((some .int)) D (mtys cI cS) mord g Am) (O : gO (mcell g cI cS sa) mord g) (K4 : ∀ (k1 : Nat) (x2 : Int32) (x3 : Int32) (hk_k1 : mI k1 = true) (S : gS) (H : Heap) (locs : List Loc) (ls : Array Slot), gX D (mcell g cI cS sa) mord g S s H locs → lv_has ls 4 [(0, .ref (g 99)), (1, .ref (g k1)), (2, .int x2), (3, .int x3)] → r4 k1 x2 x3 S = some o → W p l e (rmd 0) s m args below meth c H locs 0 0 (gE below args s D (mtys cI cS) (mcell g cI cS sa) mord g (some (.int o.1)) o.2) (F0 m 4 ls [])) (hk_k1 : mI k1 = true) (X : gX D (mcell g cI cS sa) mord g S s H locs) (hl : lv_has ls 4 [(0, .ref (g 99)), (1, .ref (g k1)), (2, .int x2), (3, .int x3)]) (hF : fX12_greatest_b30 N r4 k1 x2 x3 S = some o) : W p l e (rmd 0) s m args below meth c H locs 0 0 (gE below args s D (mtys cI cS) (mcell g cI cS sa) mord g (some (.int o.1)) o.2) (F0 m 30 ls []) := by
  unfold fX12_greatest_b30 at hF
  refine lv_iinc (v := (x3 + 1 : Int32)) (lv' := [(3, .int ((x3 + 1 : Int32))), (0, .ref (g 99)), (1, .ref (g k1)), (2, .int x2)]) C.1.1 C.1.2.1 dX12_greatest_30 hl (k := 3) rfl rfl (by decide) rfl (fun ls hl => ?_)
  refine lv_goto (tgt := 4) C.1.1 C.1.2.1 dX12_greatest_33 (by decide) ?_
  exact K4 _ _ _ hk_k1 _ _ _ _ X (lv_sub hl [1, 2, 3, 0] rfl) hF
noncomputable def fX12_greatest_b28 (N : Nat) (r4 : Nat → Int32 → Int32 → gS → Option (Int32 × gS)) (k1 : Nat) (x3 : Int32) (S : gS) : Option (Int32 × gS) := fX12_greatest_b30 N r4 k1 x3 x3 S
theorem bX12_greatest_28 {N : Nat} {r4 : Nat → Int32 → Int32 → gS → Option (Int32 × gS)} {k1 : Nat} {x3 : Int32} {S : gS} {H : Heap} {locs : List Loc} {ls : Array Slot} {o : Int32 × gS} (C : gC p s m args meth c cX12_greatest 4 RX12 ((some .int)) D (mtys cI cS) mord g Am) (O : gO (mcell g cI cS sa) mord g) (K4 : ∀ (k1 : Nat) (x2 : Int32) (x3 : Int32) (hk_k1 : mI k1 = true) (S : gS) (H : Heap) (locs : List Loc) (ls : Array Slot), gX D (mcell g cI cS sa) mord g S s H locs → lv_has ls 4 [(0, .ref (g 99)), (1, .ref (g k1)), (2, .int x2), (3, .int x3)] → r4 k1 x2 x3 S = some o → W p l e (rmd 0) s m args below meth c H locs 0 0 (gE below args s D (mtys cI cS) (mcell g cI cS sa) mord g (some (.int o.1)) o.2) (F0 m 4 ls [])) (hk_k1 : mI k1 = true) (X : gX D (mcell g cI cS sa) mord g S s H locs) (hl : lv_has ls 4 [(0, .ref (g 99)), (1, .ref (g k1)), (3, .int x3)]) (hF : fX12_greatest_b28 N r4 k1 x3 S = some o) : W p l e (rmd 0) s m args below meth c H locs 0 0 (gE below args s D (mtys cI cS) (mcell g cI cS sa) mord g (some (.int o.1)) o.2) (F0 m 28 ls []) := by
  unfold fX12_greatest_b28 at hF
  refine lv_iload_n C.1.1 C.1.2.1 dX12_greatest_28 rfl (lv_at hl 2 rfl) ?_
  refine lv_istore_n (lv' := [(2, .int x3), (0, .ref (g 99)), (1, .ref (g k1)), (3, .int x3)]) C.1.1 C.1.2.1 dX12_greatest_29 rfl hl (by decide) rfl (fun ls hl => ?_)
  exact bX12_greatest_30 C O K4 hk_k1 X (lv_sub hl [1, 2, 0, 3] rfl) hF
noncomputable def fX12_greatest_b19 (N : Nat) (r4 : Nat → Int32 → Int32 → gS → Option (Int32 × gS)) (k1 : Nat) (x2 : Int32) (x3 : Int32) (S : gS) : Option (Int32 × gS) := chk (inb x3 (mN k1)) (chk (inb x2 (mN k1)) (if (S k1 (Int32.toNatClampNeg x3)) ≤ (S k1 (Int32.toNatClampNeg x2)) then fX12_greatest_b30 N r4 k1 x2 x3 S else fX12_greatest_b28 N r4 k1 x3 S))
theorem bX12_greatest_19 {N : Nat} {r4 : Nat → Int32 → Int32 → gS → Option (Int32 × gS)} {k1 : Nat} {x2 : Int32} {x3 : Int32} {S : gS} {H : Heap} {locs : List Loc} {ls : Array Slot} {o : Int32 × gS} (C : gC p s m args meth c cX12_greatest 4 RX12 ((some .int)) D (mtys cI cS) mord g Am) (O : gO (mcell g cI cS sa) mord g) (K4 : ∀ (k1 : Nat) (x2 : Int32) (x3 : Int32) (hk_k1 : mI k1 = true) (S : gS) (H : Heap) (locs : List Loc) (ls : Array Slot), gX D (mcell g cI cS sa) mord g S s H locs → lv_has ls 4 [(0, .ref (g 99)), (1, .ref (g k1)), (2, .int x2), (3, .int x3)] → r4 k1 x2 x3 S = some o → W p l e (rmd 0) s m args below meth c H locs 0 0 (gE below args s D (mtys cI cS) (mcell g cI cS sa) mord g (some (.int o.1)) o.2) (F0 m 4 ls [])) (hk_k1 : mI k1 = true) (X : gX D (mcell g cI cS sa) mord g S s H locs) (hl : lv_has ls 4 [(0, .ref (g 99)), (1, .ref (g k1)), (2, .int x2), (3, .int x3)]) (hF : fX12_greatest_b19 N r4 k1 x2 x3 S = some o) : W p l e (rmd 0) s m args below meth c H locs 0 0 (gE below args s D (mtys cI cS) (mcell g cI cS sa) mord g (some (.int o.1)) o.2) (F0 m 19 ls []) := by
  unfold fX12_greatest_b19 at hF
  refine lv_aload_n C.1.1 C.1.2.1 dX12_greatest_19 rfl (lv_at hl 1 rfl) ?_
  refine lv_iload_n C.1.1 C.1.2.1 dX12_greatest_20 rfl (lv_at hl 3 rfl) ?_
  obtain ⟨h_1, hF⟩ := chk_some hF
  refine m_rv C X (k := k1) hk_k1  (inb_vp h_1) rfl dX12_greatest_21 ?_
  refine lv_aload_n C.1.1 C.1.2.1 dX12_greatest_22 rfl (lv_at hl 1 rfl) ?_
  refine lv_iload_n C.1.1 C.1.2.1 dX12_greatest_23 rfl (lv_at hl 2 rfl) ?_
  obtain ⟨h_2, hF⟩ := chk_some hF
  refine m_rv C X (k := k1) hk_k1  (inb_vp h_2) rfl dX12_greatest_24 ?_
  refine lv_icmp_le (tgt := 30) C.1.1 C.1.2.1 dX12_greatest_25 (by decide) (fun h_z => ?_) (fun h_z => ?_)
  · rw [if_pos h_z] at hF
    exact bX12_greatest_30 C O K4 hk_k1 X (lv_sub hl [0, 1, 2, 3] rfl) hF
  · rw [if_neg h_z] at hF
    exact bX12_greatest_28 C O K4 hk_k1 X (lv_sub hl [0, 1, 3] rfl) hF
noncomputable def fX12_greatest_b14 (N : Nat) (r4 : Nat → Int32 → Int32 → gS → Option (Int32 × gS)) (k1 : Nat) (x2 : Int32) (x3 : Int32) (S : gS) : Option (Int32 × gS) := if x2 = ((-1)) then fX12_greatest_b28 N r4 k1 x3 S else fX12_greatest_b19 N r4 k1 x2 x3 S
theorem bX12_greatest_14 {N : Nat} {r4 : Nat → Int32 → Int32 → gS → Option (Int32 × gS)} {k1 : Nat} {x2 : Int32} {x3 : Int32} {S : gS} {H : Heap} {locs : List Loc} {ls : Array Slot} {o : Int32 × gS} (C : gC p s m args meth c cX12_greatest 4 RX12 ((some .int)) D (mtys cI cS) mord g Am) (O : gO (mcell g cI cS sa) mord g) (K4 : ∀ (k1 : Nat) (x2 : Int32) (x3 : Int32) (hk_k1 : mI k1 = true) (S : gS) (H : Heap) (locs : List Loc) (ls : Array Slot), gX D (mcell g cI cS sa) mord g S s H locs → lv_has ls 4 [(0, .ref (g 99)), (1, .ref (g k1)), (2, .int x2), (3, .int x3)] → r4 k1 x2 x3 S = some o → W p l e (rmd 0) s m args below meth c H locs 0 0 (gE below args s D (mtys cI cS) (mcell g cI cS sa) mord g (some (.int o.1)) o.2) (F0 m 4 ls [])) (hk_k1 : mI k1 = true) (X : gX D (mcell g cI cS sa) mord g S s H locs) (hl : lv_has ls 4 [(0, .ref (g 99)), (1, .ref (g k1)), (2, .int x2), (3, .int x3)]) (hF : fX12_greatest_b14 N r4 k1 x2 x3 S = some o) : W p l e (rmd 0) s m args below meth c H locs 0 0 (gE below args s D (mtys cI cS) (mcell g cI cS sa) mord g (some (.int o.1)) o.2) (F0 m 14 ls []) := by
  unfold fX12_greatest_b14 at hF
  refine lv_iload_n C.1.1 C.1.2.1 dX12_greatest_14 rfl (lv_at hl 2 rfl) ?_
  refine lv_iconst (v := (-1)) C.1.1 C.1.2.1 dX12_greatest_15 (by decide) ?_
  refine lv_icmp_eq (tgt := 28) C.1.1 C.1.2.1 dX12_greatest_16 (by decide) (fun h_z => ?_) (fun h_z => ?_)
  · rw [if_pos h_z] at hF
    exact bX12_greatest_28 C O K4 hk_k1 X (lv_sub hl [0, 1, 3] rfl) hF
  · rw [if_neg h_z] at hF
    exact bX12_greatest_19 C O K4 hk_k1 X (lv_sub hl [0, 1, 2, 3] rfl) hF
noncomputable def fX12_greatest_b4 (N : Nat) (r4 : Nat → Int32 → Int32 → gS → Option (Int32 × gS)) (k1 : Nat) (x2 : Int32) (x3 : Int32) (S : gS) : Option (Int32 × gS) := if (S 5 1) ≤ x3 then fX12_greatest_b36 N x2 S else fX12_greatest_b14 N r4 k1 x2 x3 S
theorem bX12_greatest_4 {N : Nat} {r4 : Nat → Int32 → Int32 → gS → Option (Int32 × gS)} {k1 : Nat} {x2 : Int32} {x3 : Int32} {S : gS} {H : Heap} {locs : List Loc} {ls : Array Slot} {o : Int32 × gS} (C : gC p s m args meth c cX12_greatest 4 RX12 ((some .int)) D (mtys cI cS) mord g Am) (O : gO (mcell g cI cS sa) mord g) (K4 : ∀ (k1 : Nat) (x2 : Int32) (x3 : Int32) (hk_k1 : mI k1 = true) (S : gS) (H : Heap) (locs : List Loc) (ls : Array Slot), gX D (mcell g cI cS sa) mord g S s H locs → lv_has ls 4 [(0, .ref (g 99)), (1, .ref (g k1)), (2, .int x2), (3, .int x3)] → r4 k1 x2 x3 S = some o → W p l e (rmd 0) s m args below meth c H locs 0 0 (gE below args s D (mtys cI cS) (mcell g cI cS sa) mord g (some (.int o.1)) o.2) (F0 m 4 ls [])) (hk_k1 : mI k1 = true) (X : gX D (mcell g cI cS sa) mord g S s H locs) (hl : lv_has ls 4 [(0, .ref (g 99)), (1, .ref (g k1)), (2, .int x2), (3, .int x3)]) (hF : fX12_greatest_b4 N r4 k1 x2 x3 S = some o) : W p l e (rmd 0) s m args below meth c H locs 0 0 (gE below args s D (mtys cI cS) (mcell g cI cS sa) mord g (some (.int o.1)) o.2) (F0 m 4 ls []) := by
  unfold fX12_greatest_b4 at hF
  refine lv_iload_n C.1.1 C.1.2.1 dX12_greatest_4 rfl (lv_at hl 3 rfl) ?_
  refine lv_aload_n C.1.1 C.1.2.1 dX12_greatest_5 rfl (lv_at hl 0 rfl) ?_
  refine m_g5 C X dX12_greatest_6 ?_
  refine lv_iconst (v := 1) C.1.1 C.1.2.1 dX12_greatest_9 (by decide) ?_
  refine m_r5 C X (j := 1) (inb_vp (by decide)) (by decide) dX12_greatest_10 ?_
  refine lv_icmp_ge (tgt := 36) C.1.1 C.1.2.1 dX12_greatest_11 (by decide) (fun h_z => ?_) (fun h_z => ?_)
  · rw [if_pos h_z] at hF
    exact bX12_greatest_36 C O X (lv_sub hl [2] rfl) hF
  · rw [if_neg h_z] at hF
    exact bX12_greatest_14 C O K4 hk_k1 X (lv_sub hl [0, 1, 2, 3] rfl) hF
noncomputable def fX12_greatest_h4 (N : Nat) : Nat → Nat → Int32 → Int32 → gS → Option (Int32 × gS)
  | 0, _, _, _, _ => none
  | n + 1, k1, x2, x3, S => fX12_greatest_b4 N (fX12_greatest_h4 N n) k1 x2 x3 S
theorem hX12_greatest_4 {N : Nat} {o : Int32 × gS} (C : gC p s m args meth c cX12_greatest 4 RX12 ((some .int)) D (mtys cI cS) mord g Am) (O : gO (mcell g cI cS sa) mord g) : ∀ (n : Nat) (k1 : Nat) (x2 : Int32) (x3 : Int32) (hk_k1 : mI k1 = true) (S : gS) (H : Heap) (locs : List Loc) (ls : Array Slot), gX D (mcell g cI cS sa) mord g S s H locs → lv_has ls 4 [(0, .ref (g 99)), (1, .ref (g k1)), (2, .int x2), (3, .int x3)] → fX12_greatest_h4 N n k1 x2 x3 S = some o → W p l e (rmd 0) s m args below meth c H locs 0 0 (gE below args s D (mtys cI cS) (mcell g cI cS sa) mord g (some (.int o.1)) o.2) (F0 m 4 ls []) := by
  intro n
  induction n with
  | zero =>
    intro k1 x2 x3 hk_k1 S H locs ls X hl hF
    exact absurd (show (none : Option (Int32 × gS)) = some o from hF) (by simp)
  | succ n ih =>
    intro k1 x2 x3 hk_k1 S H locs ls X hl hF
    have hF : fX12_greatest_b4 N (fX12_greatest_h4 N n) k1 x2 x3 S = some o := hF
    exact bX12_greatest_4 C O ih hk_k1 X hl hF
noncomputable def fX12_greatest_b0 (N : Nat) (k1 : Nat) (S : gS) : Option (Int32 × gS) := fX12_greatest_h4 N N k1 ((-1)) 0 S
theorem bX12_greatest_0 {N : Nat} {k1 : Nat} {S : gS} {H : Heap} {locs : List Loc} {ls : Array Slot} {o : Int32 × gS} (C : gC p s m args meth c cX12_greatest 4 RX12 ((some .int)) D (mtys cI cS) mord g Am) (O : gO (mcell g cI cS sa) mord g) (hk_k1 : mI k1 = true) (X : gX D (mcell g cI cS sa) mord g S s H locs) (hl : lv_has ls 4 [(0, .ref (g 99)), (1, .ref (g k1))]) (hF : fX12_greatest_b0 N k1 S = some o) : W p l e (rmd 0) s m args below meth c H locs 0 0 (gE below args s D (mtys cI cS) (mcell g cI cS sa) mord g (some (.int o.1)) o.2) (F0 m 0 ls []) := by
  unfold fX12_greatest_b0 at hF
  refine lv_iconst (v := (-1)) C.1.1 C.1.2.1 dX12_greatest_0 (by decide) ?_
  refine lv_istore_n (lv' := [(2, .int ((-1))), (0, .ref (g 99)), (1, .ref (g k1))]) C.1.1 C.1.2.1 dX12_greatest_1 rfl hl (by decide) rfl (fun ls hl => ?_)
  refine lv_iconst (v := 0) C.1.1 C.1.2.1 dX12_greatest_2 (by decide) ?_
  refine lv_istore_n (lv' := [(3, .int 0), (2, .int ((-1))), (0, .ref (g 99)), (1, .ref (g k1))]) C.1.1 C.1.2.1 dX12_greatest_3 rfl hl (by decide) rfl (fun ls hl => ?_)
  exact hX12_greatest_4 C O N _ _ _ hk_k1 _ _ _ _ X (lv_sub hl [2, 3, 1, 0] rfl) hF
noncomputable def fX12_greatest (N : Nat) (k1 : Nat) (S : gS) : Option (Int32 × gS) := fX12_greatest_b0 N k1 S
theorem kX12_greatest {l : Launch} {D : va_G} {g : Nat → Nat} {cI cS : ClassId} {sa : Nat → Nat → Option Nat} {Am : (Nat → Prop) → State → Heap → Prop} (O : gO (mcell g cI cS sa) mord g) (P : gAm Am) (N : Nat) (k1 : Nat) (hk_k1 : mI k1 = true) (S : gS) (o : Int32 × gS) (hF : fX12_greatest N k1 S = some o) : gM l yX12_greatest cX12_greatest 4 ((some .int)) 0 D (mtys cI cS) (mcell g cI cS sa) mord g Am [.ref (g 99), .ref (g k1)] S (some (.int o.1)) o.2 :=
  gM_of O P (by decide) (Nat.le_of_ble_eq_true rfl) (fun p e s m args below meth c ls C X hl => bX12_greatest_0 C O hk_k1 X (lv_sub hl [0, 1] rfl) hF)
-- most
noncomputable def fX12_most_b68 (N : Nat) (u1 : Nat) (S : gS) : Option (Int32 × gS) := bnd (fX12_greatest N u1 S) fun q1 => (bnd (fX12_unpack N 46 0 q1.2) fun q2 => (some (q1.1, q2.2)))
theorem bX12_most_68 {N : Nat} {u1 : Nat} {S : gS} {H : Heap} {locs : List Loc} {ls : Array Slot} {o : Int32 × gS} (C : gC p s m args meth c cX12_most 4 RX12 ((some .int)) D (mtys cI cS) mord g Am) (O : gO (mcell g cI cS sa) mord g) (hk_u1 : mI u1 = true) (X : gX D (mcell g cI cS sa) mord g S s H locs) (hl : lv_has ls 4 [(0, .ref (g 99))]) (hF : fX12_most_b68 N u1 S = some o) : W p l e (rmd 7) s m args below meth c H locs 0 0 (gE below args s D (mtys cI cS) (mcell g cI cS sa) mord g (some (.int o.1)) o.2) (F0 m 68 ls [.ref (g u1), .ref (g 99)]) := by
  unfold fX12_most_b68 at hF
  obtain ⟨q1, hq1, hF⟩ := bnd_some hF
  refine m_callVi C X vX12_greatest rfl (kX12_greatest O C.2.2.2.2.1 N u1 hk_u1 S q1 hq1) (Nat.le_of_ble_eq_true rfl) (Nat.le_of_ble_eq_true rfl) (Nat.le_of_ble_eq_true rfl) (Nat.le_of_ble_eq_true rfl) rfl hl.1 rfl (Nat.le_of_ble_eq_true rfl) dX12_most_68 (fun H locs X => ?_)
  refine lv_istore_n (lv' := [(3, .int q1.1), (0, .ref (g 99))]) C.1.1 C.1.2.1 dX12_most_71 rfl hl (by decide) rfl (fun ls hl => ?_)
  refine lv_aload_n C.1.1 C.1.2.1 dX12_most_72 rfl (lv_at hl 1 rfl) ?_
  refine lv_aload_n C.1.1 C.1.2.1 dX12_most_73 rfl (lv_at hl 1 rfl) ?_
  refine m_g46 C X dX12_most_74 ?_
  refine lv_iconst (v := 0) C.1.1 C.1.2.1 dX12_most_77 (by decide) ?_
  obtain ⟨q2, hq2, hF⟩ := bnd_some hF
  refine m_callV C X vX12_unpack rfl (kX12_unpack O C.2.2.2.2.1 N 46 0 (rfl : mI 46 = true) q1.2 q2 hq2) (Nat.le_of_ble_eq_true rfl) (Nat.le_of_ble_eq_true rfl) (Nat.le_of_ble_eq_true rfl) (Nat.le_of_ble_eq_true rfl) rfl hl.1 rfl (Nat.le_of_ble_eq_true rfl) dX12_most_78 (fun H locs X => ?_)
  refine lv_iload_n C.1.1 C.1.2.1 dX12_most_81 rfl (lv_at hl 0 rfl) ?_
  cases hF
  exact g_iret C X dX12_most_82
noncomputable def fX12_most_b64 (N : Nat) (S : gS) : Option (Int32 × gS) := fX12_most_b68 N 32 S
theorem bX12_most_64 {N : Nat} {S : gS} {H : Heap} {locs : List Loc} {ls : Array Slot} {o : Int32 × gS} (C : gC p s m args meth c cX12_most 4 RX12 ((some .int)) D (mtys cI cS) mord g Am) (O : gO (mcell g cI cS sa) mord g) (X : gX D (mcell g cI cS sa) mord g S s H locs) (hl : lv_has ls 4 [(0, .ref (g 99))]) (hF : fX12_most_b64 N S = some o) : W p l e (rmd 7) s m args below meth c H locs 0 0 (gE below args s D (mtys cI cS) (mcell g cI cS sa) mord g (some (.int o.1)) o.2) (F0 m 64 ls [.ref (g 99)]) := by
  unfold fX12_most_b64 at hF
  refine lv_aload_n C.1.1 C.1.2.1 dX12_most_64 rfl (lv_at hl 0 rfl) ?_
  refine m_g32 C X dX12_most_65 ?_
  exact bX12_most_68 C O (rfl : mI 32 = true) X (lv_sub hl [0] rfl) hF
noncomputable def fX12_most_b57 (N : Nat) (S : gS) : Option (Int32 × gS) := fX12_most_b68 N 33 S
theorem bX12_most_57 {N : Nat} {S : gS} {H : Heap} {locs : List Loc} {ls : Array Slot} {o : Int32 × gS} (C : gC p s m args meth c cX12_most 4 RX12 ((some .int)) D (mtys cI cS) mord g Am) (O : gO (mcell g cI cS sa) mord g) (X : gX D (mcell g cI cS sa) mord g S s H locs) (hl : lv_has ls 4 [(0, .ref (g 99))]) (hF : fX12_most_b57 N S = some o) : W p l e (rmd 7) s m args below meth c H locs 0 0 (gE below args s D (mtys cI cS) (mcell g cI cS sa) mord g (some (.int o.1)) o.2) (F0 m 57 ls [.ref (g 99)]) := by
  unfold fX12_most_b57 at hF
  refine lv_aload_n C.1.1 C.1.2.1 dX12_most_57 rfl (lv_at hl 0 rfl) ?_
  refine m_g33 C X dX12_most_58 ?_
  refine lv_goto (tgt := 68) C.1.1 C.1.2.1 dX12_most_61 (by decide) ?_
  exact bX12_most_68 C O (rfl : mI 33 = true) X (lv_sub hl [0] rfl) hF
noncomputable def fX12_most_b38 (N : Nat) (x1 : Int32) (x2 : Int32) (S : gS) : Option (Int32 × gS) := bnd (fX12_pack N 46 0 S) fun q1 => (bnd (fX12_goOn N x1 q1.2) fun q2 => (if x2 = 0 then fX12_most_b57 N q2.2 else fX12_most_b64 N q2.2))
theorem bX12_most_38 {N : Nat} {x1 : Int32} {x2 : Int32} {S : gS} {H : Heap} {locs : List Loc} {ls : Array Slot} {o : Int32 × gS} (C : gC p s m args meth c cX12_most 4 RX12 ((some .int)) D (mtys cI cS) mord g Am) (O : gO (mcell g cI cS sa) mord g) (X : gX D (mcell g cI cS sa) mord g S s H locs) (hl : lv_has ls 4 [(0, .ref (g 99)), (1, .int x1), (2, .int x2)]) (hF : fX12_most_b38 N x1 x2 S = some o) : W p l e (rmd 7) s m args below meth c H locs 0 0 (gE below args s D (mtys cI cS) (mcell g cI cS sa) mord g (some (.int o.1)) o.2) (F0 m 38 ls []) := by
  unfold fX12_most_b38 at hF
  refine lv_aload_n C.1.1 C.1.2.1 dX12_most_38 rfl (lv_at hl 0 rfl) ?_
  refine lv_aload_n C.1.1 C.1.2.1 dX12_most_39 rfl (lv_at hl 0 rfl) ?_
  refine m_g46 C X dX12_most_40 ?_
  refine lv_iconst (v := 0) C.1.1 C.1.2.1 dX12_most_43 (by decide) ?_
  obtain ⟨q1, hq1, hF⟩ := bnd_some hF
  refine m_callV C X vX12_pack rfl (kX12_pack O C.2.2.2.2.1 N 46 0 (rfl : mI 46 = true) S q1 hq1) (Nat.le_of_ble_eq_true rfl) (Nat.le_of_ble_eq_true rfl) (Nat.le_of_ble_eq_true rfl) (Nat.le_of_ble_eq_true rfl) rfl hl.1 rfl (Nat.le_of_ble_eq_true rfl) dX12_most_44 (fun H locs X => ?_)
  refine lv_aload_n C.1.1 C.1.2.1 dX12_most_47 rfl (lv_at hl 0 rfl) ?_
  refine lv_iload_n C.1.1 C.1.2.1 dX12_most_48 rfl (lv_at hl 1 rfl) ?_
  obtain ⟨q2, hq2, hF⟩ := bnd_some hF
  refine m_callV C X vX12_goOn rfl (kX12_goOn O C.2.2.2.2.1 N x1  q1.2 q2 hq2) (Nat.le_of_ble_eq_true rfl) (Nat.le_of_ble_eq_true rfl) (Nat.le_of_ble_eq_true rfl) (Nat.le_of_ble_eq_true rfl) rfl hl.1 rfl (Nat.le_of_ble_eq_true rfl) dX12_most_49 (fun H locs X => ?_)
  refine lv_aload_n C.1.1 C.1.2.1 dX12_most_52 rfl (lv_at hl 0 rfl) ?_
  refine lv_iload_n C.1.1 C.1.2.1 dX12_most_53 rfl (lv_at hl 2 rfl) ?_
  refine lv_if_ne (tgt := 64) C.1.1 C.1.2.1 dX12_most_54 (by decide) (fun h_z => ?_) (fun h_z => ?_)
  · rw [if_neg h_z] at hF
    exact bX12_most_64 C O X (lv_sub hl [0] rfl) hF
  · rw [if_pos h_z] at hF
    exact bX12_most_57 C O X (lv_sub hl [0] rfl) hF
noncomputable def fX12_most_b32 (N : Nat) (S : gS) : Option (Int32 × gS) := bnd (fX12_fail N 2 S) fun q1 => (some (q1.1, q1.2))
theorem bX12_most_32 {N : Nat} {S : gS} {H : Heap} {locs : List Loc} {ls : Array Slot} {o : Int32 × gS} (C : gC p s m args meth c cX12_most 4 RX12 ((some .int)) D (mtys cI cS) mord g Am) (O : gO (mcell g cI cS sa) mord g) (X : gX D (mcell g cI cS sa) mord g S s H locs) (hl : lv_has ls 4 [(0, .ref (g 99))]) (hF : fX12_most_b32 N S = some o) : W p l e (rmd 7) s m args below meth c H locs 0 0 (gE below args s D (mtys cI cS) (mcell g cI cS sa) mord g (some (.int o.1)) o.2) (F0 m 32 ls []) := by
  unfold fX12_most_b32 at hF
  refine lv_aload_n C.1.1 C.1.2.1 dX12_most_32 rfl (lv_at hl 0 rfl) ?_
  refine lv_iconst (v := 2) C.1.1 C.1.2.1 dX12_most_33 (by decide) ?_
  obtain ⟨q1, hq1, hF⟩ := bnd_some hF
  refine m_callVi C X vX12_fail rfl (kX12_fail O C.2.2.2.2.1 N 2  S q1 hq1) (Nat.le_of_ble_eq_true rfl) (Nat.le_of_ble_eq_true rfl) (Nat.le_of_ble_eq_true rfl) (Nat.le_of_ble_eq_true rfl) rfl hl.1 rfl (Nat.le_of_ble_eq_true rfl) dX12_most_34 (fun H locs X => ?_)
  cases hF
  exact g_iret C X dX12_most_37
noncomputable def fX12_most_b20 (N : Nat) (x1 : Int32) (x2 : Int32) (S : gS) : Option (Int32 × gS) := bnd (fX12_isIn N (Int32.toInt64 x1) 0 60 S) fun q1 => (if q1.1 = 0 then fX12_most_b32 N q1.2 else fX12_most_b38 N x1 x2 q1.2)
theorem bX12_most_20 {N : Nat} {x1 : Int32} {x2 : Int32} {S : gS} {H : Heap} {locs : List Loc} {ls : Array Slot} {o : Int32 × gS} (C : gC p s m args meth c cX12_most 4 RX12 ((some .int)) D (mtys cI cS) mord g Am) (O : gO (mcell g cI cS sa) mord g) (X : gX D (mcell g cI cS sa) mord g S s H locs) (hl : lv_has ls 4 [(0, .ref (g 99)), (1, .int x1), (2, .int x2)]) (hF : fX12_most_b20 N x1 x2 S = some o) : W p l e (rmd 7) s m args below meth c H locs 0 0 (gE below args s D (mtys cI cS) (mcell g cI cS sa) mord g (some (.int o.1)) o.2) (F0 m 20 ls []) := by
  unfold fX12_most_b20 at hF
  refine lv_iload_n C.1.1 C.1.2.1 dX12_most_20 rfl (lv_at hl 1 rfl) ?_
  refine lv_i2l (v := Int32.toInt64 x1) C.1.1 C.1.2.1 dX12_most_21 rfl ?_
  refine lv_lconst (v := 0) C.1.1 C.1.2.1 dX12_most_22 (by decide) ?_
  refine lv_ldc2 C.1.1 C.1.2.1 C.1.2.2.2.1 (C.1.2.2.2.2 _ mKL432) dX12_most_23 ?_
  obtain ⟨q1, hq1, hF⟩ := bnd_some hF
  refine g_callSi C X vX12_isIn (kX12_isIn O C.2.2.2.2.1 N (Int32.toInt64 x1) 0 60  S q1 hq1) (Nat.le_of_ble_eq_true rfl) (Nat.le_of_ble_eq_true rfl) (Nat.le_of_ble_eq_true rfl) (Nat.le_of_ble_eq_true rfl) rfl hl.1 rfl (Nat.le_of_ble_eq_true rfl) dX12_most_26 (fun H locs X => ?_)
  refine lv_if_ne (tgt := 38) C.1.1 C.1.2.1 dX12_most_29 (by decide) (fun h_z => ?_) (fun h_z => ?_)
  · rw [if_neg h_z] at hF
    exact bX12_most_38 C O X (lv_sub hl [0, 1, 2] rfl) hF
  · rw [if_pos h_z] at hF
    exact bX12_most_32 C O X (lv_sub hl [0] rfl) hF
noncomputable def fX12_most_b14 (N : Nat) (S : gS) : Option (Int32 × gS) := bnd (fX12_fail N 1 S) fun q1 => (some (q1.1, q1.2))
theorem bX12_most_14 {N : Nat} {S : gS} {H : Heap} {locs : List Loc} {ls : Array Slot} {o : Int32 × gS} (C : gC p s m args meth c cX12_most 4 RX12 ((some .int)) D (mtys cI cS) mord g Am) (O : gO (mcell g cI cS sa) mord g) (X : gX D (mcell g cI cS sa) mord g S s H locs) (hl : lv_has ls 4 [(0, .ref (g 99))]) (hF : fX12_most_b14 N S = some o) : W p l e (rmd 7) s m args below meth c H locs 0 0 (gE below args s D (mtys cI cS) (mcell g cI cS sa) mord g (some (.int o.1)) o.2) (F0 m 14 ls []) := by
  unfold fX12_most_b14 at hF
  refine lv_aload_n C.1.1 C.1.2.1 dX12_most_14 rfl (lv_at hl 0 rfl) ?_
  refine lv_iconst (v := 1) C.1.1 C.1.2.1 dX12_most_15 (by decide) ?_
  obtain ⟨q1, hq1, hF⟩ := bnd_some hF
  refine m_callVi C X vX12_fail rfl (kX12_fail O C.2.2.2.2.1 N 1  S q1 hq1) (Nat.le_of_ble_eq_true rfl) (Nat.le_of_ble_eq_true rfl) (Nat.le_of_ble_eq_true rfl) (Nat.le_of_ble_eq_true rfl) rfl hl.1 rfl (Nat.le_of_ble_eq_true rfl) dX12_most_16 (fun H locs X => ?_)
  cases hF
  exact g_iret C X dX12_most_19
noncomputable def fX12_most_b9 (N : Nat) (x1 : Int32) (x2 : Int32) (S : gS) : Option (Int32 × gS) := if x2 ≤ 1 then fX12_most_b20 N x1 x2 S else fX12_most_b14 N S
theorem bX12_most_9 {N : Nat} {x1 : Int32} {x2 : Int32} {S : gS} {H : Heap} {locs : List Loc} {ls : Array Slot} {o : Int32 × gS} (C : gC p s m args meth c cX12_most 4 RX12 ((some .int)) D (mtys cI cS) mord g Am) (O : gO (mcell g cI cS sa) mord g) (X : gX D (mcell g cI cS sa) mord g S s H locs) (hl : lv_has ls 4 [(0, .ref (g 99)), (1, .int x1), (2, .int x2)]) (hF : fX12_most_b9 N x1 x2 S = some o) : W p l e (rmd 7) s m args below meth c H locs 0 0 (gE below args s D (mtys cI cS) (mcell g cI cS sa) mord g (some (.int o.1)) o.2) (F0 m 9 ls []) := by
  unfold fX12_most_b9 at hF
  refine lv_iload_n C.1.1 C.1.2.1 dX12_most_9 rfl (lv_at hl 2 rfl) ?_
  refine lv_iconst (v := 1) C.1.1 C.1.2.1 dX12_most_10 (by decide) ?_
  refine lv_icmp_le (tgt := 20) C.1.1 C.1.2.1 dX12_most_11 (by decide) (fun h_z => ?_) (fun h_z => ?_)
  · rw [if_pos h_z] at hF
    exact bX12_most_20 C O X (lv_sub hl [0, 1, 2] rfl) hF
  · rw [if_neg h_z] at hF
    exact bX12_most_14 C O X (lv_sub hl [0] rfl) hF
noncomputable def fX12_most_b0 (N : Nat) (x1 : Int32) (x2 : Int32) (S : gS) : Option (Int32 × gS) := lt (sU S 99 4 0) fun S1 => (if x2 < 0 then fX12_most_b14 N S1 else fX12_most_b9 N x1 x2 S1)
theorem bX12_most_0 {N : Nat} {x1 : Int32} {x2 : Int32} {S : gS} {H : Heap} {locs : List Loc} {ls : Array Slot} {o : Int32 × gS} (C : gC p s m args meth c cX12_most 4 RX12 ((some .int)) D (mtys cI cS) mord g Am) (O : gO (mcell g cI cS sa) mord g) (X : gX D (mcell g cI cS sa) mord g S s H locs) (hl : lv_has ls 4 [(0, .ref (g 99)), (1, .int x1), (2, .int x2)]) (hF : fX12_most_b0 N x1 x2 S = some o) : W p l e (rmd 7) s m args below meth c H locs 0 0 (gE below args s D (mtys cI cS) (mcell g cI cS sa) mord g (some (.int o.1)) o.2) (F0 m 0 ls []) := by
  unfold fX12_most_b0 at hF
  refine lv_aload_n C.1.1 C.1.2.1 dX12_most_0 rfl (lv_at hl 0 rfl) ?_
  refine lv_iconst (v := 0) C.1.1 C.1.2.1 dX12_most_1 (by decide) ?_
  obtain ⟨S1, eS1, hF⟩ := lt_some hF
  refine m_p4 C O X eS1 dX12_most_2 (fun H locs X => ?_)
  refine lv_iload_n C.1.1 C.1.2.1 dX12_most_5 rfl (lv_at hl 2 rfl) ?_
  refine lv_if_lt (tgt := 14) C.1.1 C.1.2.1 dX12_most_6 (by decide) (fun h_z => ?_) (fun h_z => ?_)
  · rw [if_pos h_z] at hF
    exact bX12_most_14 C O X (lv_sub hl [0] rfl) hF
  · rw [if_neg h_z] at hF
    exact bX12_most_9 C O X (lv_sub hl [0, 1, 2] rfl) hF
noncomputable def fX12_most (N : Nat) (x1 : Int32) (x2 : Int32) (S : gS) : Option (Int32 × gS) := fX12_most_b0 N x1 x2 S
theorem kX12_most {l : Launch} {D : va_G} {g : Nat → Nat} {cI cS : ClassId} {sa : Nat → Nat → Option Nat} {Am : (Nat → Prop) → State → Heap → Prop} (O : gO (mcell g cI cS sa) mord g) (P : gAm Am) (N : Nat) (x1 : Int32) (x2 : Int32) (S : gS) (o : Int32 × gS) (hF : fX12_most N x1 x2 S = some o) : gM l yX12_most cX12_most 4 ((some .int)) 7 D (mtys cI cS) (mcell g cI cS sa) mord g Am [.ref (g 99), .int x1, .int x2] S (some (.int o.1)) o.2 :=
  gM_of O P (by decide) (Nat.le_of_ble_eq_true rfl) (fun p e s m args below meth c ls C X hl => bX12_most_0 C O X (lv_sub hl [0, 1, 2] rfl) hF)
-- hush
noncomputable def fX12_hush_b82 (N : Nat) (x3 : Int32) (S : gS) : Option (Int32 × gS) := bnd (fX12_unpack N 46 0 S) fun q1 => (some (x3, q1.2))
theorem bX12_hush_82 {N : Nat} {x3 : Int32} {S : gS} {H : Heap} {locs : List Loc} {ls : Array Slot} {o : Int32 × gS} (C : gC p s m args meth c cX12_hush 5 RX12 ((some .int)) D (mtys cI cS) mord g Am) (O : gO (mcell g cI cS sa) mord g) (X : gX D (mcell g cI cS sa) mord g S s H locs) (hl : lv_has ls 5 [(0, .ref (g 99)), (3, .int x3)]) (hF : fX12_hush_b82 N x3 S = some o) : W p l e (rmd 2) s m args below meth c H locs 0 0 (gE below args s D (mtys cI cS) (mcell g cI cS sa) mord g (some (.int o.1)) o.2) (F0 m 82 ls []) := by
  unfold fX12_hush_b82 at hF
  refine lv_aload_n C.1.1 C.1.2.1 dX12_hush_82 rfl (lv_at hl 0 rfl) ?_
  refine lv_aload_n C.1.1 C.1.2.1 dX12_hush_83 rfl (lv_at hl 0 rfl) ?_
  refine m_g46 C X dX12_hush_84 ?_
  refine lv_iconst (v := 0) C.1.1 C.1.2.1 dX12_hush_87 (by decide) ?_
  obtain ⟨q1, hq1, hF⟩ := bnd_some hF
  refine m_callV C X vX12_unpack rfl (kX12_unpack O C.2.2.2.2.1 N 46 0 (rfl : mI 46 = true) S q1 hq1) (Nat.le_of_ble_eq_true rfl) (Nat.le_of_ble_eq_true rfl) (Nat.le_of_ble_eq_true rfl) (Nat.le_of_ble_eq_true rfl) rfl hl.1 rfl (Nat.le_of_ble_eq_true rfl) dX12_hush_88 (fun H locs X => ?_)
  refine lv_iload_n C.1.1 C.1.2.1 dX12_hush_91 rfl (lv_at hl 1 rfl) ?_
  cases hF
  exact g_iret C X dX12_hush_92
noncomputable def fX12_hush_b59 (N : Nat) (r39 : Int32 → Int32 → Int32 → Int32 → gS → Option (Int32 × gS)) (x1 : Int32) (x3 : Int32) (x4 : Int32) (t0 : Int32) (S : gS) : Option (Int32 × gS) := lt (sU S 99 37 (((S 99 37) + 1 : Int32))) fun S1 => (r39 x1 t0 (if x3 < t0 then t0 else x3) ((x4 + 1 : Int32)) S1)
theorem bX12_hush_59 {N : Nat} {r39 : Int32 → Int32 → Int32 → Int32 → gS → Option (Int32 × gS)} {x1 : Int32} {x3 : Int32} {x4 : Int32} {t0 : Int32} {S : gS} {H : Heap} {locs : List Loc} {ls : Array Slot} {o : Int32 × gS} (C : gC p s m args meth c cX12_hush 5 RX12 ((some .int)) D (mtys cI cS) mord g Am) (O : gO (mcell g cI cS sa) mord g) (K39 : ∀ (x1 : Int32) (x2 : Int32) (x3 : Int32) (x4 : Int32) (S : gS) (H : Heap) (locs : List Loc) (ls : Array Slot), gX D (mcell g cI cS sa) mord g S s H locs → lv_has ls 5 [(0, .ref (g 99)), (1, .int x1), (2, .int x2), (3, .int x3), (4, .int x4)] → r39 x1 x2 x3 x4 S = some o → W p l e (rmd 2) s m args below meth c H locs 0 0 (gE below args s D (mtys cI cS) (mcell g cI cS sa) mord g (some (.int o.1)) o.2) (F0 m 39 ls [])) (X : gX D (mcell g cI cS sa) mord g S s H locs) (hl : lv_has ls 5 [(0, .ref (g 99)), (1, .int x1), (3, .int x3), (4, .int x4)]) (hF : fX12_hush_b59 N r39 x1 x3 x4 t0 S = some o) : W p l e (rmd 2) s m args below meth c H locs 0 0 (gE below args s D (mtys cI cS) (mcell g cI cS sa) mord g (some (.int o.1)) o.2) (F0 m 59 ls [.int t0]) := by
  unfold fX12_hush_b59 at hF
  refine lv_istore_n (lv' := [(2, .int t0), (0, .ref (g 99)), (1, .int x1), (3, .int x3), (4, .int x4)]) C.1.1 C.1.2.1 dX12_hush_59 rfl hl (by decide) rfl (fun ls hl => ?_)
  refine lv_iload_n C.1.1 C.1.2.1 dX12_hush_60 rfl (lv_at hl 3 rfl) ?_
  refine lv_iload_n C.1.1 C.1.2.1 dX12_hush_61 rfl (lv_at hl 0 rfl) ?_
  refine g_max C hl.1 mMmax354 ⟨Nat.le_of_ble_eq_true rfl, Nat.le_of_ble_eq_true rfl⟩ (Nat.le_of_ble_eq_true rfl) (Nat.le_of_ble_eq_true rfl) dX12_hush_62 ?_
  refine lv_istore_n (lv' := [(3, .int (if x3 < t0 then t0 else x3)), (2, .int t0), (0, .ref (g 99)), (1, .int x1), (4, .int x4)]) C.1.1 C.1.2.1 dX12_hush_65 rfl hl (by decide) rfl (fun ls hl => ?_)
  refine lv_aload_n C.1.1 C.1.2.1 dX12_hush_66 rfl (lv_at hl 2 rfl) ?_
  refine lv_dup C.1.1 C.1.2.1 dX12_hush_67 rfl ?_
  refine m_g37 C X dX12_hush_68 ?_
  refine lv_iconst (v := 1) C.1.1 C.1.2.1 dX12_hush_71 (by decide) ?_
  refine lv_iadd C.1.1 C.1.2.1 dX12_hush_72 ?_
  obtain ⟨S1, eS1, hF⟩ := lt_some hF
  refine m_p37 C O X eS1 dX12_hush_73 (fun H locs X => ?_)
  refine lv_iinc (v := (x4 + 1 : Int32)) (lv' := [(4, .int ((x4 + 1 : Int32))), (3, .int (if x3 < t0 then t0 else x3)), (2, .int t0), (0, .ref (g 99)), (1, .int x1)]) C.1.1 C.1.2.1 dX12_hush_76 hl (k := 4) rfl rfl (by decide) rfl (fun ls hl => ?_)
  refine lv_goto (tgt := 39) C.1.1 C.1.2.1 dX12_hush_79 (by decide) ?_
  exact K39 _ _ _ _ _ _ _ _ X (lv_sub hl [3, 4, 2, 1, 0] rfl) hF
noncomputable def fX12_hush_b58 (N : Nat) (r39 : Int32 → Int32 → Int32 → Int32 → gS → Option (Int32 × gS)) (x1 : Int32) (x3 : Int32) (x4 : Int32) (S : gS) : Option (Int32 × gS) := fX12_hush_b59 N r39 x1 x3 x4 0 S
theorem bX12_hush_58 {N : Nat} {r39 : Int32 → Int32 → Int32 → Int32 → gS → Option (Int32 × gS)} {x1 : Int32} {x3 : Int32} {x4 : Int32} {S : gS} {H : Heap} {locs : List Loc} {ls : Array Slot} {o : Int32 × gS} (C : gC p s m args meth c cX12_hush 5 RX12 ((some .int)) D (mtys cI cS) mord g Am) (O : gO (mcell g cI cS sa) mord g) (K39 : ∀ (x1 : Int32) (x2 : Int32) (x3 : Int32) (x4 : Int32) (S : gS) (H : Heap) (locs : List Loc) (ls : Array Slot), gX D (mcell g cI cS sa) mord g S s H locs → lv_has ls 5 [(0, .ref (g 99)), (1, .int x1), (2, .int x2), (3, .int x3), (4, .int x4)] → r39 x1 x2 x3 x4 S = some o → W p l e (rmd 2) s m args below meth c H locs 0 0 (gE below args s D (mtys cI cS) (mcell g cI cS sa) mord g (some (.int o.1)) o.2) (F0 m 39 ls [])) (X : gX D (mcell g cI cS sa) mord g S s H locs) (hl : lv_has ls 5 [(0, .ref (g 99)), (1, .int x1), (3, .int x3), (4, .int x4)]) (hF : fX12_hush_b58 N r39 x1 x3 x4 S = some o) : W p l e (rmd 2) s m args below meth c H locs 0 0 (gE below args s D (mtys cI cS) (mcell g cI cS sa) mord g (some (.int o.1)) o.2) (F0 m 58 ls []) := by
  unfold fX12_hush_b58 at hF
  refine lv_iconst (v := 0) C.1.1 C.1.2.1 dX12_hush_58 (by decide) ?_
  exact bX12_hush_59 C O K39 X (lv_sub hl [0, 1, 2, 3] rfl) hF
noncomputable def fX12_hush_b52 (N : Nat) (r39 : Int32 → Int32 → Int32 → Int32 → gS → Option (Int32 × gS)) (x1 : Int32) (x2 : Int32) (x3 : Int32) (x4 : Int32) (S : gS) : Option (Int32 × gS) := fX12_hush_b59 N r39 x1 x3 x4 ((x2 + 1 : Int32)) S
theorem bX12_hush_52 {N : Nat} {r39 : Int32 → Int32 → Int32 → Int32 → gS → Option (Int32 × gS)} {x1 : Int32} {x2 : Int32} {x3 : Int32} {x4 : Int32} {S : gS} {H : Heap} {locs : List Loc} {ls : Array Slot} {o : Int32 × gS} (C : gC p s m args meth c cX12_hush 5 RX12 ((some .int)) D (mtys cI cS) mord g Am) (O : gO (mcell g cI cS sa) mord g) (K39 : ∀ (x1 : Int32) (x2 : Int32) (x3 : Int32) (x4 : Int32) (S : gS) (H : Heap) (locs : List Loc) (ls : Array Slot), gX D (mcell g cI cS sa) mord g S s H locs → lv_has ls 5 [(0, .ref (g 99)), (1, .int x1), (2, .int x2), (3, .int x3), (4, .int x4)] → r39 x1 x2 x3 x4 S = some o → W p l e (rmd 2) s m args below meth c H locs 0 0 (gE below args s D (mtys cI cS) (mcell g cI cS sa) mord g (some (.int o.1)) o.2) (F0 m 39 ls [])) (X : gX D (mcell g cI cS sa) mord g S s H locs) (hl : lv_has ls 5 [(0, .ref (g 99)), (1, .int x1), (2, .int x2), (3, .int x3), (4, .int x4)]) (hF : fX12_hush_b52 N r39 x1 x2 x3 x4 S = some o) : W p l e (rmd 2) s m args below meth c H locs 0 0 (gE below args s D (mtys cI cS) (mcell g cI cS sa) mord g (some (.int o.1)) o.2) (F0 m 52 ls []) := by
  unfold fX12_hush_b52 at hF
  refine lv_iload_n C.1.1 C.1.2.1 dX12_hush_52 rfl (lv_at hl 2 rfl) ?_
  refine lv_iconst (v := 1) C.1.1 C.1.2.1 dX12_hush_53 (by decide) ?_
  refine lv_iadd C.1.1 C.1.2.1 dX12_hush_54 ?_
  refine lv_goto (tgt := 59) C.1.1 C.1.2.1 dX12_hush_55 (by decide) ?_
  exact bX12_hush_59 C O K39 X (lv_sub hl [0, 1, 3, 4] rfl) hF
noncomputable def fX12_hush_b45 (N : Nat) (r39 : Int32 → Int32 → Int32 → Int32 → gS → Option (Int32 × gS)) (x1 : Int32) (x2 : Int32) (x3 : Int32) (x4 : Int32) (S : gS) : Option (Int32 × gS) := bnd (fX12_drippingNow N  S) fun q1 => (if q1.1 = 0 then fX12_hush_b52 N r39 x1 x2 x3 x4 q1.2 else fX12_hush_b58 N r39 x1 x3 x4 q1.2)
theorem bX12_hush_45 {N : Nat} {r39 : Int32 → Int32 → Int32 → Int32 → gS → Option (Int32 × gS)} {x1 : Int32} {x2 : Int32} {x3 : Int32} {x4 : Int32} {S : gS} {H : Heap} {locs : List Loc} {ls : Array Slot} {o : Int32 × gS} (C : gC p s m args meth c cX12_hush 5 RX12 ((some .int)) D (mtys cI cS) mord g Am) (O : gO (mcell g cI cS sa) mord g) (K39 : ∀ (x1 : Int32) (x2 : Int32) (x3 : Int32) (x4 : Int32) (S : gS) (H : Heap) (locs : List Loc) (ls : Array Slot), gX D (mcell g cI cS sa) mord g S s H locs → lv_has ls 5 [(0, .ref (g 99)), (1, .int x1), (2, .int x2), (3, .int x3), (4, .int x4)] → r39 x1 x2 x3 x4 S = some o → W p l e (rmd 2) s m args below meth c H locs 0 0 (gE below args s D (mtys cI cS) (mcell g cI cS sa) mord g (some (.int o.1)) o.2) (F0 m 39 ls [])) (X : gX D (mcell g cI cS sa) mord g S s H locs) (hl : lv_has ls 5 [(0, .ref (g 99)), (1, .int x1), (2, .int x2), (3, .int x3), (4, .int x4)]) (hF : fX12_hush_b45 N r39 x1 x2 x3 x4 S = some o) : W p l e (rmd 2) s m args below meth c H locs 0 0 (gE below args s D (mtys cI cS) (mcell g cI cS sa) mord g (some (.int o.1)) o.2) (F0 m 45 ls []) := by
  unfold fX12_hush_b45 at hF
  refine lv_aload_n C.1.1 C.1.2.1 dX12_hush_45 rfl (lv_at hl 0 rfl) ?_
  obtain ⟨q1, hq1, hF⟩ := bnd_some hF
  refine m_callVi C X vX12_drippingNow rfl (kX12_drippingNow O C.2.2.2.2.1 N   S q1 hq1) (Nat.le_of_ble_eq_true rfl) (Nat.le_of_ble_eq_true rfl) (Nat.le_of_ble_eq_true rfl) (Nat.le_of_ble_eq_true rfl) rfl hl.1 rfl (Nat.le_of_ble_eq_true rfl) dX12_hush_46 (fun H locs X => ?_)
  refine lv_if_ne (tgt := 58) C.1.1 C.1.2.1 dX12_hush_49 (by decide) (fun h_z => ?_) (fun h_z => ?_)
  · rw [if_neg h_z] at hF
    exact bX12_hush_58 C O K39 X (lv_sub hl [0, 1, 3, 4] rfl) hF
  · rw [if_pos h_z] at hF
    exact bX12_hush_52 C O K39 X (lv_sub hl [0, 1, 2, 3, 4] rfl) hF
noncomputable def fX12_hush_b39 (N : Nat) (r39 : Int32 → Int32 → Int32 → Int32 → gS → Option (Int32 × gS)) (x1 : Int32) (x2 : Int32) (x3 : Int32) (x4 : Int32) (S : gS) : Option (Int32 × gS) := if x1 ≤ x4 then fX12_hush_b82 N x3 S else fX12_hush_b45 N r39 x1 x2 x3 x4 S
theorem bX12_hush_39 {N : Nat} {r39 : Int32 → Int32 → Int32 → Int32 → gS → Option (Int32 × gS)} {x1 : Int32} {x2 : Int32} {x3 : Int32} {x4 : Int32} {S : gS} {H : Heap} {locs : List Loc} {ls : Array Slot} {o : Int32 × gS} (C : gC p s m args meth c cX12_hush 5 RX12 ((some .int)) D (mtys cI cS) mord g Am) (O : gO (mcell g cI cS sa) mord g) (K39 : ∀ (x1 : Int32) (x2 : Int32) (x3 : Int32) (x4 : Int32) (S : gS) (H : Heap) (locs : List Loc) (ls : Array Slot), gX D (mcell g cI cS sa) mord g S s H locs → lv_has ls 5 [(0, .ref (g 99)), (1, .int x1), (2, .int x2), (3, .int x3), (4, .int x4)] → r39 x1 x2 x3 x4 S = some o → W p l e (rmd 2) s m args below meth c H locs 0 0 (gE below args s D (mtys cI cS) (mcell g cI cS sa) mord g (some (.int o.1)) o.2) (F0 m 39 ls [])) (X : gX D (mcell g cI cS sa) mord g S s H locs) (hl : lv_has ls 5 [(0, .ref (g 99)), (1, .int x1), (2, .int x2), (3, .int x3), (4, .int x4)]) (hF : fX12_hush_b39 N r39 x1 x2 x3 x4 S = some o) : W p l e (rmd 2) s m args below meth c H locs 0 0 (gE below args s D (mtys cI cS) (mcell g cI cS sa) mord g (some (.int o.1)) o.2) (F0 m 39 ls []) := by
  unfold fX12_hush_b39 at hF
  refine lv_iload C.1.1 C.1.2.1 dX12_hush_39 (lv_at hl 4 rfl) ?_
  refine lv_iload_n C.1.1 C.1.2.1 dX12_hush_41 rfl (lv_at hl 1 rfl) ?_
  refine lv_icmp_ge (tgt := 82) C.1.1 C.1.2.1 dX12_hush_42 (by decide) (fun h_z => ?_) (fun h_z => ?_)
  · rw [if_pos h_z] at hF
    exact bX12_hush_82 C O X (lv_sub hl [0, 3] rfl) hF
  · rw [if_neg h_z] at hF
    exact bX12_hush_45 C O K39 X (lv_sub hl [0, 1, 2, 3, 4] rfl) hF
noncomputable def fX12_hush_h39 (N : Nat) : Nat → Int32 → Int32 → Int32 → Int32 → gS → Option (Int32 × gS)
  | 0, _, _, _, _, _ => none
  | n + 1, x1, x2, x3, x4, S => fX12_hush_b39 N (fX12_hush_h39 N n) x1 x2 x3 x4 S
theorem hX12_hush_39 {N : Nat} {o : Int32 × gS} (C : gC p s m args meth c cX12_hush 5 RX12 ((some .int)) D (mtys cI cS) mord g Am) (O : gO (mcell g cI cS sa) mord g) : ∀ (n : Nat) (x1 : Int32) (x2 : Int32) (x3 : Int32) (x4 : Int32) (S : gS) (H : Heap) (locs : List Loc) (ls : Array Slot), gX D (mcell g cI cS sa) mord g S s H locs → lv_has ls 5 [(0, .ref (g 99)), (1, .int x1), (2, .int x2), (3, .int x3), (4, .int x4)] → fX12_hush_h39 N n x1 x2 x3 x4 S = some o → W p l e (rmd 2) s m args below meth c H locs 0 0 (gE below args s D (mtys cI cS) (mcell g cI cS sa) mord g (some (.int o.1)) o.2) (F0 m 39 ls []) := by
  intro n
  induction n with
  | zero =>
    intro x1 x2 x3 x4 S H locs ls X hl hF
    exact absurd (show (none : Option (Int32 × gS)) = some o from hF) (by simp)
  | succ n ih =>
    intro x1 x2 x3 x4 S H locs ls X hl hF
    have hF : fX12_hush_b39 N (fX12_hush_h39 N n) x1 x2 x3 x4 S = some o := hF
    exact bX12_hush_39 C O ih X hl hF
noncomputable def fX12_hush_b23 (N : Nat) (x1 : Int32) (S : gS) : Option (Int32 × gS) := bnd (fX12_pack N 46 0 S) fun q1 => (fX12_hush_h39 N N x1 0 0 0 q1.2)
theorem bX12_hush_23 {N : Nat} {x1 : Int32} {S : gS} {H : Heap} {locs : List Loc} {ls : Array Slot} {o : Int32 × gS} (C : gC p s m args meth c cX12_hush 5 RX12 ((some .int)) D (mtys cI cS) mord g Am) (O : gO (mcell g cI cS sa) mord g) (X : gX D (mcell g cI cS sa) mord g S s H locs) (hl : lv_has ls 5 [(0, .ref (g 99)), (1, .int x1)]) (hF : fX12_hush_b23 N x1 S = some o) : W p l e (rmd 2) s m args below meth c H locs 0 0 (gE below args s D (mtys cI cS) (mcell g cI cS sa) mord g (some (.int o.1)) o.2) (F0 m 23 ls []) := by
  unfold fX12_hush_b23 at hF
  refine lv_aload_n C.1.1 C.1.2.1 dX12_hush_23 rfl (lv_at hl 0 rfl) ?_
  refine lv_aload_n C.1.1 C.1.2.1 dX12_hush_24 rfl (lv_at hl 0 rfl) ?_
  refine m_g46 C X dX12_hush_25 ?_
  refine lv_iconst (v := 0) C.1.1 C.1.2.1 dX12_hush_28 (by decide) ?_
  obtain ⟨q1, hq1, hF⟩ := bnd_some hF
  refine m_callV C X vX12_pack rfl (kX12_pack O C.2.2.2.2.1 N 46 0 (rfl : mI 46 = true) S q1 hq1) (Nat.le_of_ble_eq_true rfl) (Nat.le_of_ble_eq_true rfl) (Nat.le_of_ble_eq_true rfl) (Nat.le_of_ble_eq_true rfl) rfl hl.1 rfl (Nat.le_of_ble_eq_true rfl) dX12_hush_29 (fun H locs X => ?_)
  refine lv_iconst (v := 0) C.1.1 C.1.2.1 dX12_hush_32 (by decide) ?_
  refine lv_istore_n (lv' := [(2, .int 0), (0, .ref (g 99)), (1, .int x1)]) C.1.1 C.1.2.1 dX12_hush_33 rfl hl (by decide) rfl (fun ls hl => ?_)
  refine lv_iconst (v := 0) C.1.1 C.1.2.1 dX12_hush_34 (by decide) ?_
  refine lv_istore_n (lv' := [(3, .int 0), (2, .int 0), (0, .ref (g 99)), (1, .int x1)]) C.1.1 C.1.2.1 dX12_hush_35 rfl hl (by decide) rfl (fun ls hl => ?_)
  refine lv_iconst (v := 0) C.1.1 C.1.2.1 dX12_hush_36 (by decide) ?_
  refine lv_istore (lv' := [(4, .int 0), (3, .int 0), (2, .int 0), (0, .ref (g 99)), (1, .int x1)]) C.1.1 C.1.2.1 dX12_hush_37 hl (by decide) rfl (fun ls hl => ?_)
  exact hX12_hush_39 C O N _ _ _ _ _ _ _ _ X (lv_sub hl [3, 4, 2, 1, 0] rfl) hF
noncomputable def fX12_hush_b17 (N : Nat) (S : gS) : Option (Int32 × gS) := bnd (fX12_fail N 1 S) fun q1 => (some (q1.1, q1.2))
theorem bX12_hush_17 {N : Nat} {S : gS} {H : Heap} {locs : List Loc} {ls : Array Slot} {o : Int32 × gS} (C : gC p s m args meth c cX12_hush 5 RX12 ((some .int)) D (mtys cI cS) mord g Am) (O : gO (mcell g cI cS sa) mord g) (X : gX D (mcell g cI cS sa) mord g S s H locs) (hl : lv_has ls 5 [(0, .ref (g 99))]) (hF : fX12_hush_b17 N S = some o) : W p l e (rmd 2) s m args below meth c H locs 0 0 (gE below args s D (mtys cI cS) (mcell g cI cS sa) mord g (some (.int o.1)) o.2) (F0 m 17 ls []) := by
  unfold fX12_hush_b17 at hF
  refine lv_aload_n C.1.1 C.1.2.1 dX12_hush_17 rfl (lv_at hl 0 rfl) ?_
  refine lv_iconst (v := 1) C.1.1 C.1.2.1 dX12_hush_18 (by decide) ?_
  obtain ⟨q1, hq1, hF⟩ := bnd_some hF
  refine m_callVi C X vX12_fail rfl (kX12_fail O C.2.2.2.2.1 N 1  S q1 hq1) (Nat.le_of_ble_eq_true rfl) (Nat.le_of_ble_eq_true rfl) (Nat.le_of_ble_eq_true rfl) (Nat.le_of_ble_eq_true rfl) rfl hl.1 rfl (Nat.le_of_ble_eq_true rfl) dX12_hush_19 (fun H locs X => ?_)
  cases hF
  exact g_iret C X dX12_hush_22
noncomputable def fX12_hush_b0 (N : Nat) (x1 : Int32) (S : gS) : Option (Int32 × gS) := lt (sU S 99 4 0) fun S1 => (bnd (fX12_isIn N (Int32.toInt64 x1) 1 60 S1) fun q1 => (if q1.1 = 0 then fX12_hush_b17 N q1.2 else fX12_hush_b23 N x1 q1.2))
theorem bX12_hush_0 {N : Nat} {x1 : Int32} {S : gS} {H : Heap} {locs : List Loc} {ls : Array Slot} {o : Int32 × gS} (C : gC p s m args meth c cX12_hush 5 RX12 ((some .int)) D (mtys cI cS) mord g Am) (O : gO (mcell g cI cS sa) mord g) (X : gX D (mcell g cI cS sa) mord g S s H locs) (hl : lv_has ls 5 [(0, .ref (g 99)), (1, .int x1)]) (hF : fX12_hush_b0 N x1 S = some o) : W p l e (rmd 2) s m args below meth c H locs 0 0 (gE below args s D (mtys cI cS) (mcell g cI cS sa) mord g (some (.int o.1)) o.2) (F0 m 0 ls []) := by
  unfold fX12_hush_b0 at hF
  refine lv_aload_n C.1.1 C.1.2.1 dX12_hush_0 rfl (lv_at hl 0 rfl) ?_
  refine lv_iconst (v := 0) C.1.1 C.1.2.1 dX12_hush_1 (by decide) ?_
  obtain ⟨S1, eS1, hF⟩ := lt_some hF
  refine m_p4 C O X eS1 dX12_hush_2 (fun H locs X => ?_)
  refine lv_iload_n C.1.1 C.1.2.1 dX12_hush_5 rfl (lv_at hl 1 rfl) ?_
  refine lv_i2l (v := Int32.toInt64 x1) C.1.1 C.1.2.1 dX12_hush_6 rfl ?_
  refine lv_lconst (v := 1) C.1.1 C.1.2.1 dX12_hush_7 (by decide) ?_
  refine lv_ldc2 C.1.1 C.1.2.1 C.1.2.2.2.1 (C.1.2.2.2.2 _ mKL432) dX12_hush_8 ?_
  obtain ⟨q1, hq1, hF⟩ := bnd_some hF
  refine g_callSi C X vX12_isIn (kX12_isIn O C.2.2.2.2.1 N (Int32.toInt64 x1) 1 60  S1 q1 hq1) (Nat.le_of_ble_eq_true rfl) (Nat.le_of_ble_eq_true rfl) (Nat.le_of_ble_eq_true rfl) (Nat.le_of_ble_eq_true rfl) rfl hl.1 rfl (Nat.le_of_ble_eq_true rfl) dX12_hush_11 (fun H locs X => ?_)
  refine lv_if_ne (tgt := 23) C.1.1 C.1.2.1 dX12_hush_14 (by decide) (fun h_z => ?_) (fun h_z => ?_)
  · rw [if_neg h_z] at hF
    exact bX12_hush_23 C O X (lv_sub hl [0, 1] rfl) hF
  · rw [if_pos h_z] at hF
    exact bX12_hush_17 C O X (lv_sub hl [0] rfl) hF
noncomputable def fX12_hush (N : Nat) (x1 : Int32) (S : gS) : Option (Int32 × gS) := fX12_hush_b0 N x1 S
theorem kX12_hush {l : Launch} {D : va_G} {g : Nat → Nat} {cI cS : ClassId} {sa : Nat → Nat → Option Nat} {Am : (Nat → Prop) → State → Heap → Prop} (O : gO (mcell g cI cS sa) mord g) (P : gAm Am) (N : Nat) (x1 : Int32) (S : gS) (o : Int32 × gS) (hF : fX12_hush N x1 S = some o) : gM l yX12_hush cX12_hush 5 ((some .int)) 2 D (mtys cI cS) (mcell g cI cS sa) mord g Am [.ref (g 99), .int x1] S (some (.int o.1)) o.2 :=
  gM_of O P (by decide) (Nat.le_of_ble_eq_true rfl) (fun p e s m args below meth c ls C X hl => bX12_hush_0 C O X (lv_sub hl [0, 1] rfl) hF)
end
end

/-! the reference's methods as maps of states, and their walks (printed by wip/whole/mkm.py) -/
section
variable {p : Program} {l : Launch} {e : Env} {s : State} {m : MethodId} {args : Array Value} {below : List Frame} {meth : Method} {c : Code} {D : va_G} {g : Nat → Nat} {cI cS : ClassId} {sa : Nat → Nat → Option Nat} {Am : (Nat → Prop) → State → Heap → Prop}
-- mark
noncomputable def fX12_mark_b31 (N : Nat) (S : gS) : Option (Int32 × gS) := some (0, S)
theorem bX12_mark_31 {N : Nat} {S : gS} {H : Heap} {locs : List Loc} {ls : Array Slot} {o : Int32 × gS} (C : gC p s m args meth c cX12_mark 2 RX12 none D (mtys cI cS) mord g Am) (O : gO (mcell g cI cS sa) mord g) (X : gX D (mcell g cI cS sa) mord g S s H locs) (hl : lv_has ls 2 []) (hF : fX12_mark_b31 N S = some o) : W p l e (rmd 2) s m args below meth c H locs 0 0 (gE below args s D (mtys cI cS) (mcell g cI cS sa) mord g none o.2) (F0 m 31 ls []) := by
  unfold fX12_mark_b31 at hF
  cases hF
  exact g_vret C X dX12_mark_31
noncomputable def fX12_mark_b27 (N : Nat) (S : gS) : Option (Int32 × gS) := bnd (fX12_stepOn N  S) fun q1 => (fX12_mark_b31 N q1.2)
theorem bX12_mark_27 {N : Nat} {S : gS} {H : Heap} {locs : List Loc} {ls : Array Slot} {o : Int32 × gS} (C : gC p s m args meth c cX12_mark 2 RX12 none D (mtys cI cS) mord g Am) (O : gO (mcell g cI cS sa) mord g) (X : gX D (mcell g cI cS sa) mord g S s H locs) (hl : lv_has ls 2 [(0, .ref (g 99))]) (hF : fX12_mark_b27 N S = some o) : W p l e (rmd 2) s m args below meth c H locs 0 0 (gE below args s D (mtys cI cS) (mcell g cI cS sa) mord g none o.2) (F0 m 27 ls []) := by
  unfold fX12_mark_b27 at hF
  refine lv_aload_n C.1.1 C.1.2.1 dX12_mark_27 rfl (lv_at hl 0 rfl) ?_
  obtain ⟨q1, hq1, hF⟩ := bnd_some hF
  refine m_callV C X vX12_stepOn rfl (kX12_stepOn O C.2.2.2.2.1 N   S q1 hq1) (Nat.le_of_ble_eq_true rfl) (Nat.le_of_ble_eq_true rfl) (Nat.le_of_ble_eq_true rfl) (Nat.le_of_ble_eq_true rfl) rfl hl.1 rfl (Nat.le_of_ble_eq_true rfl) dX12_mark_28 (fun H locs X => ?_)
  exact bX12_mark_31 C O X (lv_sub hl [] rfl) hF
noncomputable def fX12_mark_b20 (N : Nat) (S : gS) : Option (Int32 × gS) := if (S 99 27) = 0 then fX12_mark_b27 N S else fX12_mark_b31 N S
theorem bX12_mark_20 {N : Nat} {S : gS} {H : Heap} {locs : List Loc} {ls : Array Slot} {o : Int32 × gS} (C : gC p s m args meth c cX12_mark 2 RX12 none D (mtys cI cS) mord g Am) (O : gO (mcell g cI cS sa) mord g) (X : gX D (mcell g cI cS sa) mord g S s H locs) (hl : lv_has ls 2 [(0, .ref (g 99))]) (hF : fX12_mark_b20 N S = some o) : W p l e (rmd 2) s m args below meth c H locs 0 0 (gE below args s D (mtys cI cS) (mcell g cI cS sa) mord g none o.2) (F0 m 20 ls []) := by
  unfold fX12_mark_b20 at hF
  refine lv_aload_n C.1.1 C.1.2.1 dX12_mark_20 rfl (lv_at hl 0 rfl) ?_
  refine m_g27 C X dX12_mark_21 ?_
  refine lv_if_ne (tgt := 31) C.1.1 C.1.2.1 dX12_mark_24 (by decide) (fun h_z => ?_) (fun h_z => ?_)
  · rw [if_neg h_z] at hF
    exact bX12_mark_31 C O X (lv_sub hl [] rfl) hF
  · rw [if_pos h_z] at hF
    exact bX12_mark_27 C O X (lv_sub hl [0] rfl) hF
noncomputable def fX12_mark_b15 (N : Nat) (S : gS) : Option (Int32 × gS) := bnd (fX12_wrong N 1 S) fun q1 => (fX12_mark_b20 N q1.2)
theorem bX12_mark_15 {N : Nat} {S : gS} {H : Heap} {locs : List Loc} {ls : Array Slot} {o : Int32 × gS} (C : gC p s m args meth c cX12_mark 2 RX12 none D (mtys cI cS) mord g Am) (O : gO (mcell g cI cS sa) mord g) (X : gX D (mcell g cI cS sa) mord g S s H locs) (hl : lv_has ls 2 [(0, .ref (g 99))]) (hF : fX12_mark_b15 N S = some o) : W p l e (rmd 2) s m args below meth c H locs 0 0 (gE below args s D (mtys cI cS) (mcell g cI cS sa) mord g none o.2) (F0 m 15 ls []) := by
  unfold fX12_mark_b15 at hF
  refine lv_aload_n C.1.1 C.1.2.1 dX12_mark_15 rfl (lv_at hl 0 rfl) ?_
  refine lv_iconst (v := 1) C.1.1 C.1.2.1 dX12_mark_16 (by decide) ?_
  obtain ⟨q1, hq1, hF⟩ := bnd_some hF
  refine m_callV C X vX12_wrong rfl (kX12_wrong O C.2.2.2.2.1 N 1  S q1 hq1) (Nat.le_of_ble_eq_true rfl) (Nat.le_of_ble_eq_true rfl) (Nat.le_of_ble_eq_true rfl) (Nat.le_of_ble_eq_true rfl) rfl hl.1 rfl (Nat.le_of_ble_eq_true rfl) dX12_mark_17 (fun H locs X => ?_)
  exact bX12_mark_20 C O X (lv_sub hl [0] rfl) hF
noncomputable def fX12_mark_b7 (N : Nat) (x1 : Int32) (S : gS) : Option (Int32 × gS) := bnd (fX12_isMarked N x1 S) fun q1 => (if q1.1 = 0 then fX12_mark_b15 N q1.2 else fX12_mark_b20 N q1.2)
theorem bX12_mark_7 {N : Nat} {x1 : Int32} {S : gS} {H : Heap} {locs : List Loc} {ls : Array Slot} {o : Int32 × gS} (C : gC p s m args meth c cX12_mark 2 RX12 none D (mtys cI cS) mord g Am) (O : gO (mcell g cI cS sa) mord g) (X : gX D (mcell g cI cS sa) mord g S s H locs) (hl : lv_has ls 2 [(0, .ref (g 99)), (1, .int x1)]) (hF : fX12_mark_b7 N x1 S = some o) : W p l e (rmd 2) s m args below meth c H locs 0 0 (gE below args s D (mtys cI cS) (mcell g cI cS sa) mord g none o.2) (F0 m 7 ls []) := by
  unfold fX12_mark_b7 at hF
  refine lv_aload_n C.1.1 C.1.2.1 dX12_mark_7 rfl (lv_at hl 0 rfl) ?_
  refine lv_iload_n C.1.1 C.1.2.1 dX12_mark_8 rfl (lv_at hl 1 rfl) ?_
  obtain ⟨q1, hq1, hF⟩ := bnd_some hF
  refine m_callVi C X vX12_isMarked rfl (kX12_isMarked O C.2.2.2.2.1 N x1  S q1 hq1) (Nat.le_of_ble_eq_true rfl) (Nat.le_of_ble_eq_true rfl) (Nat.le_of_ble_eq_true rfl) (Nat.le_of_ble_eq_true rfl) rfl hl.1 rfl (Nat.le_of_ble_eq_true rfl) dX12_mark_9 (fun H locs X => ?_)
  refine lv_if_ne (tgt := 20) C.1.1 C.1.2.1 dX12_mark_12 (by decide) (fun h_z => ?_) (fun h_z => ?_)
  · rw [if_neg h_z] at hF
    exact bX12_mark_20 C O X (lv_sub hl [0] rfl) hF
  · rw [if_pos h_z] at hF
    exact bX12_mark_15 C O X (lv_sub hl [0] rfl) hF
noncomputable def fX12_mark_b0 (N : Nat) (x1 : Int32) (S : gS) : Option (Int32 × gS) := if (S 99 27) = 0 then fX12_mark_b7 N x1 S else fX12_mark_b20 N S
theorem bX12_mark_0 {N : Nat} {x1 : Int32} {S : gS} {H : Heap} {locs : List Loc} {ls : Array Slot} {o : Int32 × gS} (C : gC p s m args meth c cX12_mark 2 RX12 none D (mtys cI cS) mord g Am) (O : gO (mcell g cI cS sa) mord g) (X : gX D (mcell g cI cS sa) mord g S s H locs) (hl : lv_has ls 2 [(0, .ref (g 99)), (1, .int x1)]) (hF : fX12_mark_b0 N x1 S = some o) : W p l e (rmd 2) s m args below meth c H locs 0 0 (gE below args s D (mtys cI cS) (mcell g cI cS sa) mord g none o.2) (F0 m 0 ls []) := by
  unfold fX12_mark_b0 at hF
  refine lv_aload_n C.1.1 C.1.2.1 dX12_mark_0 rfl (lv_at hl 0 rfl) ?_
  refine m_g27 C X dX12_mark_1 ?_
  refine lv_if_ne (tgt := 20) C.1.1 C.1.2.1 dX12_mark_4 (by decide) (fun h_z => ?_) (fun h_z => ?_)
  · rw [if_neg h_z] at hF
    exact bX12_mark_20 C O X (lv_sub hl [0] rfl) hF
  · rw [if_pos h_z] at hF
    exact bX12_mark_7 C O X (lv_sub hl [0, 1] rfl) hF
noncomputable def fX12_mark (N : Nat) (x1 : Int32) (S : gS) : Option (Int32 × gS) := fX12_mark_b0 N x1 S
theorem kX12_mark {l : Launch} {D : va_G} {g : Nat → Nat} {cI cS : ClassId} {sa : Nat → Nat → Option Nat} {Am : (Nat → Prop) → State → Heap → Prop} (O : gO (mcell g cI cS sa) mord g) (P : gAm Am) (N : Nat) (x1 : Int32) (S : gS) (o : Int32 × gS) (hF : fX12_mark N x1 S = some o) : gM l yX12_mark cX12_mark 2 none 2 D (mtys cI cS) (mcell g cI cS sa) mord g Am [.ref (g 99), .int x1] S none o.2 :=
  gM_of O P (by decide) (Nat.le_of_ble_eq_true rfl) (fun p e s m args below meth c ls C X hl => bX12_mark_0 C O X (lv_sub hl [0, 1] rfl) hF)
-- numberNow
noncomputable def fX12_numberNow_b74 (N : Nat) (t0 : Int32) (S : gS) : Option (Int32 × gS) := some (t0, S)
theorem bX12_numberNow_74 {N : Nat} {t0 : Int32} {S : gS} {H : Heap} {locs : List Loc} {ls : Array Slot} {o : Int32 × gS} (C : gC p s m args meth c cX12_numberNow 3 RX12 ((some .int)) D (mtys cI cS) mord g Am) (O : gO (mcell g cI cS sa) mord g) (X : gX D (mcell g cI cS sa) mord g S s H locs) (hl : lv_has ls 3 []) (hF : fX12_numberNow_b74 N t0 S = some o) : W p l e (rmd 1) s m args below meth c H locs 0 0 (gE below args s D (mtys cI cS) (mcell g cI cS sa) mord g (some (.int o.1)) o.2) (F0 m 74 ls [.int t0]) := by
  unfold fX12_numberNow_b74 at hF
  cases hF
  exact g_iret C X dX12_numberNow_74
noncomputable def fX12_numberNow_b73 (N : Nat) (S : gS) : Option (Int32 × gS) := fX12_numberNow_b74 N 0 S
theorem bX12_numberNow_73 {N : Nat} {S : gS} {H : Heap} {locs : List Loc} {ls : Array Slot} {o : Int32 × gS} (C : gC p s m args meth c cX12_numberNow 3 RX12 ((some .int)) D (mtys cI cS) mord g Am) (O : gO (mcell g cI cS sa) mord g) (X : gX D (mcell g cI cS sa) mord g S s H locs) (hl : lv_has ls 3 []) (hF : fX12_numberNow_b73 N S = some o) : W p l e (rmd 1) s m args below meth c H locs 0 0 (gE below args s D (mtys cI cS) (mcell g cI cS sa) mord g (some (.int o.1)) o.2) (F0 m 73 ls []) := by
  unfold fX12_numberNow_b73 at hF
  refine lv_iconst (v := 0) C.1.1 C.1.2.1 dX12_numberNow_73 (by decide) ?_
  exact bX12_numberNow_74 C O X (lv_sub hl [] rfl) hF
noncomputable def fX12_numberNow_b66 (N : Nat) (S : gS) : Option (Int32 × gS) := fX12_numberNow_b74 N (S 99 24) S
theorem bX12_numberNow_66 {N : Nat} {S : gS} {H : Heap} {locs : List Loc} {ls : Array Slot} {o : Int32 × gS} (C : gC p s m args meth c cX12_numberNow 3 RX12 ((some .int)) D (mtys cI cS) mord g Am) (O : gO (mcell g cI cS sa) mord g) (X : gX D (mcell g cI cS sa) mord g S s H locs) (hl : lv_has ls 3 [(0, .ref (g 99))]) (hF : fX12_numberNow_b66 N S = some o) : W p l e (rmd 1) s m args below meth c H locs 0 0 (gE below args s D (mtys cI cS) (mcell g cI cS sa) mord g (some (.int o.1)) o.2) (F0 m 66 ls []) := by
  unfold fX12_numberNow_b66 at hF
  refine lv_aload_n C.1.1 C.1.2.1 dX12_numberNow_66 rfl (lv_at hl 0 rfl) ?_
  refine m_g24 C X dX12_numberNow_67 ?_
  refine lv_goto (tgt := 74) C.1.1 C.1.2.1 dX12_numberNow_70 (by decide) ?_
  exact bX12_numberNow_74 C O X (lv_sub hl [] rfl) hF
noncomputable def fX12_numberNow_b59 (N : Nat) (S : gS) : Option (Int32 × gS) := if (S 99 27) = 0 then fX12_numberNow_b66 N S else fX12_numberNow_b73 N S
theorem bX12_numberNow_59 {N : Nat} {S : gS} {H : Heap} {locs : List Loc} {ls : Array Slot} {o : Int32 × gS} (C : gC p s m args meth c cX12_numberNow 3 RX12 ((some .int)) D (mtys cI cS) mord g Am) (O : gO (mcell g cI cS sa) mord g) (X : gX D (mcell g cI cS sa) mord g S s H locs) (hl : lv_has ls 3 [(0, .ref (g 99))]) (hF : fX12_numberNow_b59 N S = some o) : W p l e (rmd 1) s m args below meth c H locs 0 0 (gE below args s D (mtys cI cS) (mcell g cI cS sa) mord g (some (.int o.1)) o.2) (F0 m 59 ls []) := by
  unfold fX12_numberNow_b59 at hF
  refine lv_aload_n C.1.1 C.1.2.1 dX12_numberNow_59 rfl (lv_at hl 0 rfl) ?_
  refine m_g27 C X dX12_numberNow_60 ?_
  refine lv_if_ne (tgt := 73) C.1.1 C.1.2.1 dX12_numberNow_63 (by decide) (fun h_z => ?_) (fun h_z => ?_)
  · rw [if_neg h_z] at hF
    exact bX12_numberNow_73 C O X (lv_sub hl [] rfl) hF
  · rw [if_pos h_z] at hF
    exact bX12_numberNow_66 C O X (lv_sub hl [0] rfl) hF
noncomputable def fX12_numberNow_b54 (N : Nat) (S : gS) : Option (Int32 × gS) := bnd (fX12_wrong N 2 S) fun q1 => (fX12_numberNow_b59 N q1.2)
theorem bX12_numberNow_54 {N : Nat} {S : gS} {H : Heap} {locs : List Loc} {ls : Array Slot} {o : Int32 × gS} (C : gC p s m args meth c cX12_numberNow 3 RX12 ((some .int)) D (mtys cI cS) mord g Am) (O : gO (mcell g cI cS sa) mord g) (X : gX D (mcell g cI cS sa) mord g S s H locs) (hl : lv_has ls 3 [(0, .ref (g 99))]) (hF : fX12_numberNow_b54 N S = some o) : W p l e (rmd 1) s m args below meth c H locs 0 0 (gE below args s D (mtys cI cS) (mcell g cI cS sa) mord g (some (.int o.1)) o.2) (F0 m 54 ls []) := by
  unfold fX12_numberNow_b54 at hF
  refine lv_aload_n C.1.1 C.1.2.1 dX12_numberNow_54 rfl (lv_at hl 0 rfl) ?_
  refine lv_iconst (v := 2) C.1.1 C.1.2.1 dX12_numberNow_55 (by decide) ?_
  obtain ⟨q1, hq1, hF⟩ := bnd_some hF
  refine m_callV C X vX12_wrong rfl (kX12_wrong O C.2.2.2.2.1 N 2  S q1 hq1) (Nat.le_of_ble_eq_true rfl) (Nat.le_of_ble_eq_true rfl) (Nat.le_of_ble_eq_true rfl) (Nat.le_of_ble_eq_true rfl) rfl hl.1 rfl (Nat.le_of_ble_eq_true rfl) dX12_numberNow_56 (fun H locs X => ?_)
  exact bX12_numberNow_59 C O X (lv_sub hl [0] rfl) hF
noncomputable def fX12_numberNow_b46 (N : Nat) (x2 : Int32) (S : gS) : Option (Int32 × gS) := if (S 99 24) ≤ x2 then fX12_numberNow_b59 N S else fX12_numberNow_b54 N S
theorem bX12_numberNow_46 {N : Nat} {x2 : Int32} {S : gS} {H : Heap} {locs : List Loc} {ls : Array Slot} {o : Int32 × gS} (C : gC p s m args meth c cX12_numberNow 3 RX12 ((some .int)) D (mtys cI cS) mord g Am) (O : gO (mcell g cI cS sa) mord g) (X : gX D (mcell g cI cS sa) mord g S s H locs) (hl : lv_has ls 3 [(0, .ref (g 99)), (2, .int x2)]) (hF : fX12_numberNow_b46 N x2 S = some o) : W p l e (rmd 1) s m args below meth c H locs 0 0 (gE below args s D (mtys cI cS) (mcell g cI cS sa) mord g (some (.int o.1)) o.2) (F0 m 46 ls []) := by
  unfold fX12_numberNow_b46 at hF
  refine lv_aload_n C.1.1 C.1.2.1 dX12_numberNow_46 rfl (lv_at hl 0 rfl) ?_
  refine m_g24 C X dX12_numberNow_47 ?_
  refine lv_iload_n C.1.1 C.1.2.1 dX12_numberNow_50 rfl (lv_at hl 1 rfl) ?_
  refine lv_icmp_le (tgt := 59) C.1.1 C.1.2.1 dX12_numberNow_51 (by decide) (fun h_z => ?_) (fun h_z => ?_)
  · rw [if_pos h_z] at hF
    exact bX12_numberNow_59 C O X (lv_sub hl [0] rfl) hF
  · rw [if_neg h_z] at hF
    exact bX12_numberNow_54 C O X (lv_sub hl [0] rfl) hF
noncomputable def fX12_numberNow_b38 (N : Nat) (x1 : Int32) (x2 : Int32) (S : gS) : Option (Int32 × gS) := if (S 99 24) < x1 then fX12_numberNow_b54 N S else fX12_numberNow_b46 N x2 S
theorem bX12_numberNow_38 {N : Nat} {x1 : Int32} {x2 : Int32} {S : gS} {H : Heap} {locs : List Loc} {ls : Array Slot} {o : Int32 × gS} (C : gC p s m args meth c cX12_numberNow 3 RX12 ((some .int)) D (mtys cI cS) mord g Am) (O : gO (mcell g cI cS sa) mord g) (X : gX D (mcell g cI cS sa) mord g S s H locs) (hl : lv_has ls 3 [(0, .ref (g 99)), (1, .int x1), (2, .int x2)]) (hF : fX12_numberNow_b38 N x1 x2 S = some o) : W p l e (rmd 1) s m args below meth c H locs 0 0 (gE below args s D (mtys cI cS) (mcell g cI cS sa) mord g (some (.int o.1)) o.2) (F0 m 38 ls []) := by
  unfold fX12_numberNow_b38 at hF
  refine lv_aload_n C.1.1 C.1.2.1 dX12_numberNow_38 rfl (lv_at hl 0 rfl) ?_
  refine m_g24 C X dX12_numberNow_39 ?_
  refine lv_iload_n C.1.1 C.1.2.1 dX12_numberNow_42 rfl (lv_at hl 1 rfl) ?_
  refine lv_icmp_lt (tgt := 54) C.1.1 C.1.2.1 dX12_numberNow_43 (by decide) (fun h_z => ?_) (fun h_z => ?_)
  · rw [if_pos h_z] at hF
    exact bX12_numberNow_54 C O X (lv_sub hl [0] rfl) hF
  · rw [if_neg h_z] at hF
    exact bX12_numberNow_46 C O X (lv_sub hl [0, 2] rfl) hF
noncomputable def fX12_numberNow_b25 (N : Nat) (x1 : Int32) (x2 : Int32) (S : gS) : Option (Int32 × gS) := if 4 < (((S 99 26) - (S 99 25) : Int32)) then fX12_numberNow_b54 N S else fX12_numberNow_b38 N x1 x2 S
theorem bX12_numberNow_25 {N : Nat} {x1 : Int32} {x2 : Int32} {S : gS} {H : Heap} {locs : List Loc} {ls : Array Slot} {o : Int32 × gS} (C : gC p s m args meth c cX12_numberNow 3 RX12 ((some .int)) D (mtys cI cS) mord g Am) (O : gO (mcell g cI cS sa) mord g) (X : gX D (mcell g cI cS sa) mord g S s H locs) (hl : lv_has ls 3 [(0, .ref (g 99)), (1, .int x1), (2, .int x2)]) (hF : fX12_numberNow_b25 N x1 x2 S = some o) : W p l e (rmd 1) s m args below meth c H locs 0 0 (gE below args s D (mtys cI cS) (mcell g cI cS sa) mord g (some (.int o.1)) o.2) (F0 m 25 ls []) := by
  unfold fX12_numberNow_b25 at hF
  refine lv_aload_n C.1.1 C.1.2.1 dX12_numberNow_25 rfl (lv_at hl 0 rfl) ?_
  refine m_g26 C X dX12_numberNow_26 ?_
  refine lv_aload_n C.1.1 C.1.2.1 dX12_numberNow_29 rfl (lv_at hl 0 rfl) ?_
  refine m_g25 C X dX12_numberNow_30 ?_
  refine lv_isub C.1.1 C.1.2.1 dX12_numberNow_33 ?_
  refine lv_iconst (v := 4) C.1.1 C.1.2.1 dX12_numberNow_34 (by decide) ?_
  refine lv_icmp_gt (tgt := 54) C.1.1 C.1.2.1 dX12_numberNow_35 (by decide) (fun h_z => ?_) (fun h_z => ?_)
  · rw [if_pos h_z] at hF
    exact bX12_numberNow_54 C O X (lv_sub hl [0] rfl) hF
  · rw [if_neg h_z] at hF
    exact bX12_numberNow_38 C O X (lv_sub hl [0, 1, 2] rfl) hF
noncomputable def fX12_numberNow_b17 (N : Nat) (S : gS) : Option (Int32 × gS) := bnd (fX12_wrong N 1 S) fun q1 => (fX12_numberNow_b59 N q1.2)
theorem bX12_numberNow_17 {N : Nat} {S : gS} {H : Heap} {locs : List Loc} {ls : Array Slot} {o : Int32 × gS} (C : gC p s m args meth c cX12_numberNow 3 RX12 ((some .int)) D (mtys cI cS) mord g Am) (O : gO (mcell g cI cS sa) mord g) (X : gX D (mcell g cI cS sa) mord g S s H locs) (hl : lv_has ls 3 [(0, .ref (g 99))]) (hF : fX12_numberNow_b17 N S = some o) : W p l e (rmd 1) s m args below meth c H locs 0 0 (gE below args s D (mtys cI cS) (mcell g cI cS sa) mord g (some (.int o.1)) o.2) (F0 m 17 ls []) := by
  unfold fX12_numberNow_b17 at hF
  refine lv_aload_n C.1.1 C.1.2.1 dX12_numberNow_17 rfl (lv_at hl 0 rfl) ?_
  refine lv_iconst (v := 1) C.1.1 C.1.2.1 dX12_numberNow_18 (by decide) ?_
  obtain ⟨q1, hq1, hF⟩ := bnd_some hF
  refine m_callV C X vX12_wrong rfl (kX12_wrong O C.2.2.2.2.1 N 1  S q1 hq1) (Nat.le_of_ble_eq_true rfl) (Nat.le_of_ble_eq_true rfl) (Nat.le_of_ble_eq_true rfl) (Nat.le_of_ble_eq_true rfl) rfl hl.1 rfl (Nat.le_of_ble_eq_true rfl) dX12_numberNow_19 (fun H locs X => ?_)
  refine lv_goto (tgt := 59) C.1.1 C.1.2.1 dX12_numberNow_22 (by decide) ?_
  exact bX12_numberNow_59 C O X (lv_sub hl [0] rfl) hF
noncomputable def fX12_numberNow_b9 (N : Nat) (x1 : Int32) (x2 : Int32) (S : gS) : Option (Int32 × gS) := if (S 99 23) = 2 then fX12_numberNow_b25 N x1 x2 S else fX12_numberNow_b17 N S
theorem bX12_numberNow_9 {N : Nat} {x1 : Int32} {x2 : Int32} {S : gS} {H : Heap} {locs : List Loc} {ls : Array Slot} {o : Int32 × gS} (C : gC p s m args meth c cX12_numberNow 3 RX12 ((some .int)) D (mtys cI cS) mord g Am) (O : gO (mcell g cI cS sa) mord g) (X : gX D (mcell g cI cS sa) mord g S s H locs) (hl : lv_has ls 3 [(0, .ref (g 99)), (1, .int x1), (2, .int x2)]) (hF : fX12_numberNow_b9 N x1 x2 S = some o) : W p l e (rmd 1) s m args below meth c H locs 0 0 (gE below args s D (mtys cI cS) (mcell g cI cS sa) mord g (some (.int o.1)) o.2) (F0 m 9 ls []) := by
  unfold fX12_numberNow_b9 at hF
  refine lv_aload_n C.1.1 C.1.2.1 dX12_numberNow_9 rfl (lv_at hl 0 rfl) ?_
  refine m_g23 C X dX12_numberNow_10 ?_
  refine lv_iconst (v := 2) C.1.1 C.1.2.1 dX12_numberNow_13 (by decide) ?_
  refine lv_icmp_eq (tgt := 25) C.1.1 C.1.2.1 dX12_numberNow_14 (by decide) (fun h_z => ?_) (fun h_z => ?_)
  · rw [if_pos h_z] at hF
    exact bX12_numberNow_25 C O X (lv_sub hl [0, 1, 2] rfl) hF
  · rw [if_neg h_z] at hF
    exact bX12_numberNow_17 C O X (lv_sub hl [0] rfl) hF
noncomputable def fX12_numberNow_b7 (N : Nat) (S : gS) : Option (Int32 × gS) := some (0, S)
theorem bX12_numberNow_7 {N : Nat} {S : gS} {H : Heap} {locs : List Loc} {ls : Array Slot} {o : Int32 × gS} (C : gC p s m args meth c cX12_numberNow 3 RX12 ((some .int)) D (mtys cI cS) mord g Am) (O : gO (mcell g cI cS sa) mord g) (X : gX D (mcell g cI cS sa) mord g S s H locs) (hl : lv_has ls 3 []) (hF : fX12_numberNow_b7 N S = some o) : W p l e (rmd 1) s m args below meth c H locs 0 0 (gE below args s D (mtys cI cS) (mcell g cI cS sa) mord g (some (.int o.1)) o.2) (F0 m 7 ls []) := by
  unfold fX12_numberNow_b7 at hF
  refine lv_iconst (v := 0) C.1.1 C.1.2.1 dX12_numberNow_7 (by decide) ?_
  cases hF
  exact g_iret C X dX12_numberNow_8
noncomputable def fX12_numberNow_b0 (N : Nat) (x1 : Int32) (x2 : Int32) (S : gS) : Option (Int32 × gS) := if (S 99 27) = 0 then fX12_numberNow_b9 N x1 x2 S else fX12_numberNow_b7 N S
theorem bX12_numberNow_0 {N : Nat} {x1 : Int32} {x2 : Int32} {S : gS} {H : Heap} {locs : List Loc} {ls : Array Slot} {o : Int32 × gS} (C : gC p s m args meth c cX12_numberNow 3 RX12 ((some .int)) D (mtys cI cS) mord g Am) (O : gO (mcell g cI cS sa) mord g) (X : gX D (mcell g cI cS sa) mord g S s H locs) (hl : lv_has ls 3 [(0, .ref (g 99)), (1, .int x1), (2, .int x2)]) (hF : fX12_numberNow_b0 N x1 x2 S = some o) : W p l e (rmd 1) s m args below meth c H locs 0 0 (gE below args s D (mtys cI cS) (mcell g cI cS sa) mord g (some (.int o.1)) o.2) (F0 m 0 ls []) := by
  unfold fX12_numberNow_b0 at hF
  refine lv_aload_n C.1.1 C.1.2.1 dX12_numberNow_0 rfl (lv_at hl 0 rfl) ?_
  refine m_g27 C X dX12_numberNow_1 ?_
  refine lv_if_eq (tgt := 9) C.1.1 C.1.2.1 dX12_numberNow_4 (by decide) (fun h_z => ?_) (fun h_z => ?_)
  · rw [if_pos h_z] at hF
    exact bX12_numberNow_9 C O X (lv_sub hl [0, 1, 2] rfl) hF
  · rw [if_neg h_z] at hF
    exact bX12_numberNow_7 C O X (lv_sub hl [] rfl) hF
noncomputable def fX12_numberNow (N : Nat) (x1 : Int32) (x2 : Int32) (S : gS) : Option (Int32 × gS) := fX12_numberNow_b0 N x1 x2 S
theorem kX12_numberNow {l : Launch} {D : va_G} {g : Nat → Nat} {cI cS : ClassId} {sa : Nat → Nat → Option Nat} {Am : (Nat → Prop) → State → Heap → Prop} (O : gO (mcell g cI cS sa) mord g) (P : gAm Am) (N : Nat) (x1 : Int32) (x2 : Int32) (S : gS) (o : Int32 × gS) (hF : fX12_numberNow N x1 x2 S = some o) : gM l yX12_numberNow cX12_numberNow 3 ((some .int)) 1 D (mtys cI cS) (mcell g cI cS sa) mord g Am [.ref (g 99), .int x1, .int x2] S (some (.int o.1)) o.2 :=
  gM_of O P (by decide) (Nat.le_of_ble_eq_true rfl) (fun p e s m args below meth c ls C X hl => bX12_numberNow_0 C O X (lv_sub hl [0, 1, 2] rfl) hF)
-- readNumber
noncomputable def fX12_readNumber_b18 (N : Nat) (x3 : Int32) (S : gS) : Option (Int32 × gS) := some (x3, S)
theorem bX12_readNumber_18 {N : Nat} {x3 : Int32} {S : gS} {H : Heap} {locs : List Loc} {ls : Array Slot} {o : Int32 × gS} (C : gC p s m args meth c cX12_readNumber 4 RX12 ((some .int)) D (mtys cI cS) mord g Am) (O : gO (mcell g cI cS sa) mord g) (X : gX D (mcell g cI cS sa) mord g S s H locs) (hl : lv_has ls 4 [(3, .int x3)]) (hF : fX12_readNumber_b18 N x3 S = some o) : W p l e (rmd 2) s m args below meth c H locs 0 0 (gE below args s D (mtys cI cS) (mcell g cI cS sa) mord g (some (.int o.1)) o.2) (F0 m 18 ls []) := by
  unfold fX12_readNumber_b18 at hF
  refine lv_iload_n C.1.1 C.1.2.1 dX12_readNumber_18 rfl (lv_at hl 0 rfl) ?_
  cases hF
  exact g_iret C X dX12_readNumber_19
noncomputable def fX12_readNumber_b14 (N : Nat) (x3 : Int32) (S : gS) : Option (Int32 × gS) := bnd (fX12_stepOn N  S) fun q1 => (fX12_readNumber_b18 N x3 q1.2)
theorem bX12_readNumber_14 {N : Nat} {x3 : Int32} {S : gS} {H : Heap} {locs : List Loc} {ls : Array Slot} {o : Int32 × gS} (C : gC p s m args meth c cX12_readNumber 4 RX12 ((some .int)) D (mtys cI cS) mord g Am) (O : gO (mcell g cI cS sa) mord g) (X : gX D (mcell g cI cS sa) mord g S s H locs) (hl : lv_has ls 4 [(0, .ref (g 99)), (3, .int x3)]) (hF : fX12_readNumber_b14 N x3 S = some o) : W p l e (rmd 2) s m args below meth c H locs 0 0 (gE below args s D (mtys cI cS) (mcell g cI cS sa) mord g (some (.int o.1)) o.2) (F0 m 14 ls []) := by
  unfold fX12_readNumber_b14 at hF
  refine lv_aload_n C.1.1 C.1.2.1 dX12_readNumber_14 rfl (lv_at hl 0 rfl) ?_
  obtain ⟨q1, hq1, hF⟩ := bnd_some hF
  refine m_callV C X vX12_stepOn rfl (kX12_stepOn O C.2.2.2.2.1 N   S q1 hq1) (Nat.le_of_ble_eq_true rfl) (Nat.le_of_ble_eq_true rfl) (Nat.le_of_ble_eq_true rfl) (Nat.le_of_ble_eq_true rfl) rfl hl.1 rfl (Nat.le_of_ble_eq_true rfl) dX12_readNumber_15 (fun H locs X => ?_)
  exact bX12_readNumber_18 C O X (lv_sub hl [1] rfl) hF
noncomputable def fX12_readNumber_b0 (N : Nat) (x1 : Int32) (x2 : Int32) (S : gS) : Option (Int32 × gS) := bnd (fX12_numberNow N x1 x2 S) fun q1 => (if (q1.2 99 27) = 0 then fX12_readNumber_b14 N q1.1 q1.2 else fX12_readNumber_b18 N q1.1 q1.2)
theorem bX12_readNumber_0 {N : Nat} {x1 : Int32} {x2 : Int32} {S : gS} {H : Heap} {locs : List Loc} {ls : Array Slot} {o : Int32 × gS} (C : gC p s m args meth c cX12_readNumber 4 RX12 ((some .int)) D (mtys cI cS) mord g Am) (O : gO (mcell g cI cS sa) mord g) (X : gX D (mcell g cI cS sa) mord g S s H locs) (hl : lv_has ls 4 [(0, .ref (g 99)), (1, .int x1), (2, .int x2)]) (hF : fX12_readNumber_b0 N x1 x2 S = some o) : W p l e (rmd 2) s m args below meth c H locs 0 0 (gE below args s D (mtys cI cS) (mcell g cI cS sa) mord g (some (.int o.1)) o.2) (F0 m 0 ls []) := by
  unfold fX12_readNumber_b0 at hF
  refine lv_aload_n C.1.1 C.1.2.1 dX12_readNumber_0 rfl (lv_at hl 0 rfl) ?_
  refine lv_iload_n C.1.1 C.1.2.1 dX12_readNumber_1 rfl (lv_at hl 1 rfl) ?_
  refine lv_iload_n C.1.1 C.1.2.1 dX12_readNumber_2 rfl (lv_at hl 2 rfl) ?_
  obtain ⟨q1, hq1, hF⟩ := bnd_some hF
  refine m_callVi C X vX12_numberNow rfl (kX12_numberNow O C.2.2.2.2.1 N x1 x2  S q1 hq1) (Nat.le_of_ble_eq_true rfl) (Nat.le_of_ble_eq_true rfl) (Nat.le_of_ble_eq_true rfl) (Nat.le_of_ble_eq_true rfl) rfl hl.1 rfl (Nat.le_of_ble_eq_true rfl) dX12_readNumber_3 (fun H locs X => ?_)
  refine lv_istore_n (lv' := [(3, .int q1.1), (0, .ref (g 99)), (1, .int x1), (2, .int x2)]) C.1.1 C.1.2.1 dX12_readNumber_6 rfl hl (by decide) rfl (fun ls hl => ?_)
  refine lv_aload_n C.1.1 C.1.2.1 dX12_readNumber_7 rfl (lv_at hl 1 rfl) ?_
  refine m_g27 C X dX12_readNumber_8 ?_
  refine lv_if_ne (tgt := 18) C.1.1 C.1.2.1 dX12_readNumber_11 (by decide) (fun h_z => ?_) (fun h_z => ?_)
  · rw [if_neg h_z] at hF
    exact bX12_readNumber_18 C O X (lv_sub hl [0] rfl) hF
  · rw [if_pos h_z] at hF
    exact bX12_readNumber_14 C O X (lv_sub hl [1, 0] rfl) hF
noncomputable def fX12_readNumber (N : Nat) (x1 : Int32) (x2 : Int32) (S : gS) : Option (Int32 × gS) := fX12_readNumber_b0 N x1 x2 S
theorem kX12_readNumber {l : Launch} {D : va_G} {g : Nat → Nat} {cI cS : ClassId} {sa : Nat → Nat → Option Nat} {Am : (Nat → Prop) → State → Heap → Prop} (O : gO (mcell g cI cS sa) mord g) (P : gAm Am) (N : Nat) (x1 : Int32) (x2 : Int32) (S : gS) (o : Int32 × gS) (hF : fX12_readNumber N x1 x2 S = some o) : gM l yX12_readNumber cX12_readNumber 4 ((some .int)) 2 D (mtys cI cS) (mcell g cI cS sa) mord g Am [.ref (g 99), .int x1, .int x2] S (some (.int o.1)) o.2 :=
  gM_of O P (by decide) (Nat.le_of_ble_eq_true rfl) (fun p e s m args below meth c ls C X hl => bX12_readNumber_0 C O X (lv_sub hl [0, 1, 2] rfl) hF)
-- lay
noncomputable def fX12_lay_b42 (N : Nat) (x1 : Int32) (x2 : Int32) (u0 : Nat) (S : gS) : Option (Int32 × gS) := chk (inb x2 (12)) (chk (inb ((700 + (S 5 (Int32.toNatClampNeg x2)) : Int32)) (mN u0)) (lt (sU S u0 (Int32.toNatClampNeg ((700 + (S 5 (Int32.toNatClampNeg x2)) : Int32))) x1) fun S1 => (chk (inb x2 (12)) (chk (inb x2 (12)) (lt (sU S1 5 (Int32.toNatClampNeg x2) (((S1 5 (Int32.toNatClampNeg x2)) + 1 : Int32))) fun S2 => (some (0, S2)))))))
theorem bX12_lay_42 {N : Nat} {x1 : Int32} {x2 : Int32} {u0 : Nat} {S : gS} {H : Heap} {locs : List Loc} {ls : Array Slot} {o : Int32 × gS} (C : gC p s m args meth c cX12_lay 4 RX12 none D (mtys cI cS) mord g Am) (O : gO (mcell g cI cS sa) mord g) (hk_u0 : mI u0 = true) (X : gX D (mcell g cI cS sa) mord g S s H locs) (hl : lv_has ls 4 [(0, .ref (g 99)), (1, .int x1), (2, .int x2)]) (hF : fX12_lay_b42 N x1 x2 u0 S = some o) : W p l e (rmd 0) s m args below meth c H locs 0 0 (gE below args s D (mtys cI cS) (mcell g cI cS sa) mord g none o.2) (F0 m 42 ls [.ref (g u0)]) := by
  unfold fX12_lay_b42 at hF
  refine lv_astore_n (lv' := [(3, .ref (g u0)), (0, .ref (g 99)), (1, .int x1), (2, .int x2)]) C.1.1 C.1.2.1 dX12_lay_42 rfl hl (by decide) rfl (fun ls hl => ?_)
  refine lv_aload_n C.1.1 C.1.2.1 dX12_lay_43 rfl (lv_at hl 0 rfl) ?_
  refine lv_sipush (v := 700) C.1.1 C.1.2.1 dX12_lay_44 (by decide) ?_
  refine lv_aload_n C.1.1 C.1.2.1 dX12_lay_47 rfl (lv_at hl 1 rfl) ?_
  refine m_g5 C X dX12_lay_48 ?_
  refine lv_iload_n C.1.1 C.1.2.1 dX12_lay_51 rfl (lv_at hl 3 rfl) ?_
  obtain ⟨h_1, hF⟩ := chk_some hF
  refine m_r5 C X  (inb_vp h_1) rfl dX12_lay_52 ?_
  refine lv_iadd C.1.1 C.1.2.1 dX12_lay_53 ?_
  refine lv_iload_n C.1.1 C.1.2.1 dX12_lay_54 rfl (lv_at hl 2 rfl) ?_
  obtain ⟨h_2, hF⟩ := chk_some hF
  obtain ⟨S1, eS1, hF⟩ := lt_some hF
  refine m_wv C O X (k := u0) hk_u0  (inb_vp h_2) rfl eS1 dX12_lay_55 (fun H locs X => ?_)
  refine lv_aload_n C.1.1 C.1.2.1 dX12_lay_56 rfl (lv_at hl 1 rfl) ?_
  refine m_g5 C X dX12_lay_57 ?_
  refine lv_iload_n C.1.1 C.1.2.1 dX12_lay_60 rfl (lv_at hl 3 rfl) ?_
  refine lv_dup2_11 C.1.1 C.1.2.1 dX12_lay_61 rfl rfl ?_
  obtain ⟨h_3, hF⟩ := chk_some hF
  refine m_r5 C X  (inb_vp h_3) rfl dX12_lay_62 ?_
  refine lv_iconst (v := 1) C.1.1 C.1.2.1 dX12_lay_63 (by decide) ?_
  refine lv_iadd C.1.1 C.1.2.1 dX12_lay_64 ?_
  obtain ⟨h_4, hF⟩ := chk_some hF
  obtain ⟨S2, eS2, hF⟩ := lt_some hF
  refine m_w5 C O X  (inb_vp h_4) rfl eS2 dX12_lay_65 (fun H locs X => ?_)
  cases hF
  exact g_vret C X dX12_lay_66
noncomputable def fX12_lay_b38 (N : Nat) (x1 : Int32) (x2 : Int32) (S : gS) : Option (Int32 × gS) := fX12_lay_b42 N x1 x2 15 S
theorem bX12_lay_38 {N : Nat} {x1 : Int32} {x2 : Int32} {S : gS} {H : Heap} {locs : List Loc} {ls : Array Slot} {o : Int32 × gS} (C : gC p s m args meth c cX12_lay 4 RX12 none D (mtys cI cS) mord g Am) (O : gO (mcell g cI cS sa) mord g) (X : gX D (mcell g cI cS sa) mord g S s H locs) (hl : lv_has ls 4 [(0, .ref (g 99)), (1, .int x1), (2, .int x2)]) (hF : fX12_lay_b38 N x1 x2 S = some o) : W p l e (rmd 0) s m args below meth c H locs 0 0 (gE below args s D (mtys cI cS) (mcell g cI cS sa) mord g none o.2) (F0 m 38 ls []) := by
  unfold fX12_lay_b38 at hF
  refine lv_aload_n C.1.1 C.1.2.1 dX12_lay_38 rfl (lv_at hl 0 rfl) ?_
  refine m_g15 C X dX12_lay_39 ?_
  exact bX12_lay_42 C O (rfl : mI 15 = true) X (lv_sub hl [0, 1, 2] rfl) hF
noncomputable def fX12_lay_b31 (N : Nat) (x1 : Int32) (x2 : Int32) (S : gS) : Option (Int32 × gS) := fX12_lay_b42 N x1 x2 16 S
theorem bX12_lay_31 {N : Nat} {x1 : Int32} {x2 : Int32} {S : gS} {H : Heap} {locs : List Loc} {ls : Array Slot} {o : Int32 × gS} (C : gC p s m args meth c cX12_lay 4 RX12 none D (mtys cI cS) mord g Am) (O : gO (mcell g cI cS sa) mord g) (X : gX D (mcell g cI cS sa) mord g S s H locs) (hl : lv_has ls 4 [(0, .ref (g 99)), (1, .int x1), (2, .int x2)]) (hF : fX12_lay_b31 N x1 x2 S = some o) : W p l e (rmd 0) s m args below meth c H locs 0 0 (gE below args s D (mtys cI cS) (mcell g cI cS sa) mord g none o.2) (F0 m 31 ls []) := by
  unfold fX12_lay_b31 at hF
  refine lv_aload_n C.1.1 C.1.2.1 dX12_lay_31 rfl (lv_at hl 0 rfl) ?_
  refine m_g16 C X dX12_lay_32 ?_
  refine lv_goto (tgt := 42) C.1.1 C.1.2.1 dX12_lay_35 (by decide) ?_
  exact bX12_lay_42 C O (rfl : mI 16 = true) X (lv_sub hl [0, 1, 2] rfl) hF
noncomputable def fX12_lay_b22 (N : Nat) (x1 : Int32) (t0 : Int32) (t1 : Int32) (S : gS) : Option (Int32 × gS) := if (S 99 31) = 0 then fX12_lay_b38 N x1 ((t0 + t1 : Int32)) S else fX12_lay_b31 N x1 ((t0 + t1 : Int32)) S
theorem bX12_lay_22 {N : Nat} {x1 : Int32} {t0 : Int32} {t1 : Int32} {S : gS} {H : Heap} {locs : List Loc} {ls : Array Slot} {o : Int32 × gS} (C : gC p s m args meth c cX12_lay 4 RX12 none D (mtys cI cS) mord g Am) (O : gO (mcell g cI cS sa) mord g) (X : gX D (mcell g cI cS sa) mord g S s H locs) (hl : lv_has ls 4 [(0, .ref (g 99)), (1, .int x1)]) (hF : fX12_lay_b22 N x1 t0 t1 S = some o) : W p l e (rmd 0) s m args below meth c H locs 0 0 (gE below args s D (mtys cI cS) (mcell g cI cS sa) mord g none o.2) (F0 m 22 ls [.int t1, .int t0]) := by
  unfold fX12_lay_b22 at hF
  refine lv_iadd C.1.1 C.1.2.1 dX12_lay_22 ?_
  refine lv_istore_n (lv' := [(2, .int ((t0 + t1 : Int32))), (0, .ref (g 99)), (1, .int x1)]) C.1.1 C.1.2.1 dX12_lay_23 rfl hl (by decide) rfl (fun ls hl => ?_)
  refine lv_aload_n C.1.1 C.1.2.1 dX12_lay_24 rfl (lv_at hl 1 rfl) ?_
  refine m_g31 C X dX12_lay_25 ?_
  refine lv_if_eq (tgt := 38) C.1.1 C.1.2.1 dX12_lay_28 (by decide) (fun h_z => ?_) (fun h_z => ?_)
  · rw [if_pos h_z] at hF
    exact bX12_lay_38 C O X (lv_sub hl [1, 2, 0] rfl) hF
  · rw [if_neg h_z] at hF
    exact bX12_lay_31 C O X (lv_sub hl [1, 2, 0] rfl) hF
noncomputable def fX12_lay_b21 (N : Nat) (x1 : Int32) (t0 : Int32) (S : gS) : Option (Int32 × gS) := fX12_lay_b22 N x1 t0 4 S
theorem bX12_lay_21 {N : Nat} {x1 : Int32} {t0 : Int32} {S : gS} {H : Heap} {locs : List Loc} {ls : Array Slot} {o : Int32 × gS} (C : gC p s m args meth c cX12_lay 4 RX12 none D (mtys cI cS) mord g Am) (O : gO (mcell g cI cS sa) mord g) (X : gX D (mcell g cI cS sa) mord g S s H locs) (hl : lv_has ls 4 [(0, .ref (g 99)), (1, .int x1)]) (hF : fX12_lay_b21 N x1 t0 S = some o) : W p l e (rmd 0) s m args below meth c H locs 0 0 (gE below args s D (mtys cI cS) (mcell g cI cS sa) mord g none o.2) (F0 m 21 ls [.int t0]) := by
  unfold fX12_lay_b21 at hF
  refine lv_iconst (v := 4) C.1.1 C.1.2.1 dX12_lay_21 (by decide) ?_
  exact bX12_lay_22 C O X (lv_sub hl [0, 1] rfl) hF
noncomputable def fX12_lay_b17 (N : Nat) (x1 : Int32) (t0 : Int32) (S : gS) : Option (Int32 × gS) := fX12_lay_b22 N x1 t0 5 S
theorem bX12_lay_17 {N : Nat} {x1 : Int32} {t0 : Int32} {S : gS} {H : Heap} {locs : List Loc} {ls : Array Slot} {o : Int32 × gS} (C : gC p s m args meth c cX12_lay 4 RX12 none D (mtys cI cS) mord g Am) (O : gO (mcell g cI cS sa) mord g) (X : gX D (mcell g cI cS sa) mord g S s H locs) (hl : lv_has ls 4 [(0, .ref (g 99)), (1, .int x1)]) (hF : fX12_lay_b17 N x1 t0 S = some o) : W p l e (rmd 0) s m args below meth c H locs 0 0 (gE below args s D (mtys cI cS) (mcell g cI cS sa) mord g none o.2) (F0 m 17 ls [.int t0]) := by
  unfold fX12_lay_b17 at hF
  refine lv_iconst (v := 5) C.1.1 C.1.2.1 dX12_lay_17 (by decide) ?_
  refine lv_goto (tgt := 22) C.1.1 C.1.2.1 dX12_lay_18 (by decide) ?_
  exact bX12_lay_22 C O X (lv_sub hl [0, 1] rfl) hF
noncomputable def fX12_lay_b8 (N : Nat) (x1 : Int32) (S : gS) : Option (Int32 × gS) := if (S 99 31) = 0 then fX12_lay_b21 N x1 6 S else fX12_lay_b17 N x1 6 S
theorem bX12_lay_8 {N : Nat} {x1 : Int32} {S : gS} {H : Heap} {locs : List Loc} {ls : Array Slot} {o : Int32 × gS} (C : gC p s m args meth c cX12_lay 4 RX12 none D (mtys cI cS) mord g Am) (O : gO (mcell g cI cS sa) mord g) (X : gX D (mcell g cI cS sa) mord g S s H locs) (hl : lv_has ls 4 [(0, .ref (g 99)), (1, .int x1)]) (hF : fX12_lay_b8 N x1 S = some o) : W p l e (rmd 0) s m args below meth c H locs 0 0 (gE below args s D (mtys cI cS) (mcell g cI cS sa) mord g none o.2) (F0 m 8 ls []) := by
  unfold fX12_lay_b8 at hF
  refine lv_bipush (v := 6) C.1.1 C.1.2.1 dX12_lay_8 (by decide) ?_
  refine lv_aload_n C.1.1 C.1.2.1 dX12_lay_10 rfl (lv_at hl 0 rfl) ?_
  refine m_g31 C X dX12_lay_11 ?_
  refine lv_if_eq (tgt := 21) C.1.1 C.1.2.1 dX12_lay_14 (by decide) (fun h_z => ?_) (fun h_z => ?_)
  · rw [if_pos h_z] at hF
    exact bX12_lay_21 C O X (lv_sub hl [0, 1] rfl) hF
  · rw [if_neg h_z] at hF
    exact bX12_lay_17 C O X (lv_sub hl [0, 1] rfl) hF
noncomputable def fX12_lay_b7 (N : Nat) (S : gS) : Option (Int32 × gS) := some (0, S)
theorem bX12_lay_7 {N : Nat} {S : gS} {H : Heap} {locs : List Loc} {ls : Array Slot} {o : Int32 × gS} (C : gC p s m args meth c cX12_lay 4 RX12 none D (mtys cI cS) mord g Am) (O : gO (mcell g cI cS sa) mord g) (X : gX D (mcell g cI cS sa) mord g S s H locs) (hl : lv_has ls 4 []) (hF : fX12_lay_b7 N S = some o) : W p l e (rmd 0) s m args below meth c H locs 0 0 (gE below args s D (mtys cI cS) (mcell g cI cS sa) mord g none o.2) (F0 m 7 ls []) := by
  unfold fX12_lay_b7 at hF
  cases hF
  exact g_vret C X dX12_lay_7
noncomputable def fX12_lay_b0 (N : Nat) (x1 : Int32) (S : gS) : Option (Int32 × gS) := if (S 99 27) = 0 then fX12_lay_b8 N x1 S else fX12_lay_b7 N S
theorem bX12_lay_0 {N : Nat} {x1 : Int32} {S : gS} {H : Heap} {locs : List Loc} {ls : Array Slot} {o : Int32 × gS} (C : gC p s m args meth c cX12_lay 4 RX12 none D (mtys cI cS) mord g Am) (O : gO (mcell g cI cS sa) mord g) (X : gX D (mcell g cI cS sa) mord g S s H locs) (hl : lv_has ls 4 [(0, .ref (g 99)), (1, .int x1)]) (hF : fX12_lay_b0 N x1 S = some o) : W p l e (rmd 0) s m args below meth c H locs 0 0 (gE below args s D (mtys cI cS) (mcell g cI cS sa) mord g none o.2) (F0 m 0 ls []) := by
  unfold fX12_lay_b0 at hF
  refine lv_aload_n C.1.1 C.1.2.1 dX12_lay_0 rfl (lv_at hl 0 rfl) ?_
  refine m_g27 C X dX12_lay_1 ?_
  refine lv_if_eq (tgt := 8) C.1.1 C.1.2.1 dX12_lay_4 (by decide) (fun h_z => ?_) (fun h_z => ?_)
  · rw [if_pos h_z] at hF
    exact bX12_lay_8 C O X (lv_sub hl [0, 1] rfl) hF
  · rw [if_neg h_z] at hF
    exact bX12_lay_7 C O X (lv_sub hl [] rfl) hF
noncomputable def fX12_lay (N : Nat) (x1 : Int32) (S : gS) : Option (Int32 × gS) := fX12_lay_b0 N x1 S
theorem kX12_lay {l : Launch} {D : va_G} {g : Nat → Nat} {cI cS : ClassId} {sa : Nat → Nat → Option Nat} {Am : (Nat → Prop) → State → Heap → Prop} (O : gO (mcell g cI cS sa) mord g) (P : gAm Am) (N : Nat) (x1 : Int32) (S : gS) (o : Int32 × gS) (hF : fX12_lay N x1 S = some o) : gM l yX12_lay cX12_lay 4 none 0 D (mtys cI cS) (mcell g cI cS sa) mord g Am [.ref (g 99), .int x1] S none o.2 :=
  gM_of O P (by decide) (Nat.le_of_ble_eq_true rfl) (fun p e s m args below meth c ls C X hl => bX12_lay_0 C O X (lv_sub hl [0, 1] rfl) hF)
-- another
noncomputable def fX12_another_b27 (N : Nat) (S : gS) : Option (Int32 × gS) := bnd (fX12_stepOn N  S) fun q1 => (some (1, q1.2))
theorem bX12_another_27 {N : Nat} {S : gS} {H : Heap} {locs : List Loc} {ls : Array Slot} {o : Int32 × gS} (C : gC p s m args meth c cX12_another 3 RX12 ((some .boolean)) D (mtys cI cS) mord g Am) (O : gO (mcell g cI cS sa) mord g) (X : gX D (mcell g cI cS sa) mord g S s H locs) (hl : lv_has ls 3 [(0, .ref (g 99))]) (hF : fX12_another_b27 N S = some o) : W p l e (rmd 2) s m args below meth c H locs 0 0 (gE below args s D (mtys cI cS) (mcell g cI cS sa) mord g (some (.int o.1)) o.2) (F0 m 27 ls []) := by
  unfold fX12_another_b27 at hF
  refine lv_aload_n C.1.1 C.1.2.1 dX12_another_27 rfl (lv_at hl 0 rfl) ?_
  obtain ⟨q1, hq1, hF⟩ := bnd_some hF
  refine m_callV C X vX12_stepOn rfl (kX12_stepOn O C.2.2.2.2.1 N   S q1 hq1) (Nat.le_of_ble_eq_true rfl) (Nat.le_of_ble_eq_true rfl) (Nat.le_of_ble_eq_true rfl) (Nat.le_of_ble_eq_true rfl) rfl hl.1 rfl (Nat.le_of_ble_eq_true rfl) dX12_another_28 (fun H locs X => ?_)
  refine lv_iconst (v := 1) C.1.1 C.1.2.1 dX12_another_31 (by decide) ?_
  cases hF
  exact g_zret (x := 1) C X (by decide) dX12_another_32
noncomputable def fX12_another_b25 (N : Nat) (S : gS) : Option (Int32 × gS) := some (0, S)
theorem bX12_another_25 {N : Nat} {S : gS} {H : Heap} {locs : List Loc} {ls : Array Slot} {o : Int32 × gS} (C : gC p s m args meth c cX12_another 3 RX12 ((some .boolean)) D (mtys cI cS) mord g Am) (O : gO (mcell g cI cS sa) mord g) (X : gX D (mcell g cI cS sa) mord g S s H locs) (hl : lv_has ls 3 []) (hF : fX12_another_b25 N S = some o) : W p l e (rmd 2) s m args below meth c H locs 0 0 (gE below args s D (mtys cI cS) (mcell g cI cS sa) mord g (some (.int o.1)) o.2) (F0 m 25 ls []) := by
  unfold fX12_another_b25 at hF
  refine lv_iconst (v := 0) C.1.1 C.1.2.1 dX12_another_25 (by decide) ?_
  cases hF
  exact g_zret (x := 0) C X (by decide) dX12_another_26
noncomputable def fX12_another_b18 (N : Nat) (S : gS) : Option (Int32 × gS) := if (S 99 27) = 0 then fX12_another_b27 N S else fX12_another_b25 N S
theorem bX12_another_18 {N : Nat} {S : gS} {H : Heap} {locs : List Loc} {ls : Array Slot} {o : Int32 × gS} (C : gC p s m args meth c cX12_another 3 RX12 ((some .boolean)) D (mtys cI cS) mord g Am) (O : gO (mcell g cI cS sa) mord g) (X : gX D (mcell g cI cS sa) mord g S s H locs) (hl : lv_has ls 3 [(0, .ref (g 99))]) (hF : fX12_another_b18 N S = some o) : W p l e (rmd 2) s m args below meth c H locs 0 0 (gE below args s D (mtys cI cS) (mcell g cI cS sa) mord g (some (.int o.1)) o.2) (F0 m 18 ls []) := by
  unfold fX12_another_b18 at hF
  refine lv_aload_n C.1.1 C.1.2.1 dX12_another_18 rfl (lv_at hl 0 rfl) ?_
  refine m_g27 C X dX12_another_19 ?_
  refine lv_if_eq (tgt := 27) C.1.1 C.1.2.1 dX12_another_22 (by decide) (fun h_z => ?_) (fun h_z => ?_)
  · rw [if_pos h_z] at hF
    exact bX12_another_27 C O X (lv_sub hl [0] rfl) hF
  · rw [if_neg h_z] at hF
    exact bX12_another_25 C O X (lv_sub hl [] rfl) hF
noncomputable def fX12_another_b13 (N : Nat) (S : gS) : Option (Int32 × gS) := bnd (fX12_wrong N 2 S) fun q1 => (fX12_another_b18 N q1.2)
theorem bX12_another_13 {N : Nat} {S : gS} {H : Heap} {locs : List Loc} {ls : Array Slot} {o : Int32 × gS} (C : gC p s m args meth c cX12_another 3 RX12 ((some .boolean)) D (mtys cI cS) mord g Am) (O : gO (mcell g cI cS sa) mord g) (X : gX D (mcell g cI cS sa) mord g S s H locs) (hl : lv_has ls 3 [(0, .ref (g 99))]) (hF : fX12_another_b13 N S = some o) : W p l e (rmd 2) s m args below meth c H locs 0 0 (gE below args s D (mtys cI cS) (mcell g cI cS sa) mord g (some (.int o.1)) o.2) (F0 m 13 ls []) := by
  unfold fX12_another_b13 at hF
  refine lv_aload_n C.1.1 C.1.2.1 dX12_another_13 rfl (lv_at hl 0 rfl) ?_
  refine lv_iconst (v := 2) C.1.1 C.1.2.1 dX12_another_14 (by decide) ?_
  obtain ⟨q1, hq1, hF⟩ := bnd_some hF
  refine m_callV C X vX12_wrong rfl (kX12_wrong O C.2.2.2.2.1 N 2  S q1 hq1) (Nat.le_of_ble_eq_true rfl) (Nat.le_of_ble_eq_true rfl) (Nat.le_of_ble_eq_true rfl) (Nat.le_of_ble_eq_true rfl) rfl hl.1 rfl (Nat.le_of_ble_eq_true rfl) dX12_another_15 (fun H locs X => ?_)
  exact bX12_another_18 C O X (lv_sub hl [0] rfl) hF
noncomputable def fX12_another_b0 (N : Nat) (x1 : Int32) (x2 : Int32) (S : gS) : Option (Int32 × gS) := chk (inb ((6 + x1 : Int32)) (12)) (if (S 5 (Int32.toNatClampNeg ((6 + x1 : Int32)))) = x2 then fX12_another_b13 N S else fX12_another_b18 N S)
theorem bX12_another_0 {N : Nat} {x1 : Int32} {x2 : Int32} {S : gS} {H : Heap} {locs : List Loc} {ls : Array Slot} {o : Int32 × gS} (C : gC p s m args meth c cX12_another 3 RX12 ((some .boolean)) D (mtys cI cS) mord g Am) (O : gO (mcell g cI cS sa) mord g) (X : gX D (mcell g cI cS sa) mord g S s H locs) (hl : lv_has ls 3 [(0, .ref (g 99)), (1, .int x1), (2, .int x2)]) (hF : fX12_another_b0 N x1 x2 S = some o) : W p l e (rmd 2) s m args below meth c H locs 0 0 (gE below args s D (mtys cI cS) (mcell g cI cS sa) mord g (some (.int o.1)) o.2) (F0 m 0 ls []) := by
  unfold fX12_another_b0 at hF
  refine lv_aload_n C.1.1 C.1.2.1 dX12_another_0 rfl (lv_at hl 0 rfl) ?_
  refine m_g5 C X dX12_another_1 ?_
  refine lv_bipush (v := 6) C.1.1 C.1.2.1 dX12_another_4 (by decide) ?_
  refine lv_iload_n C.1.1 C.1.2.1 dX12_another_6 rfl (lv_at hl 1 rfl) ?_
  refine lv_iadd C.1.1 C.1.2.1 dX12_another_7 ?_
  obtain ⟨h_1, hF⟩ := chk_some hF
  refine m_r5 C X  (inb_vp h_1) rfl dX12_another_8 ?_
  refine lv_iload_n C.1.1 C.1.2.1 dX12_another_9 rfl (lv_at hl 2 rfl) ?_
  refine lv_icmp_ne (tgt := 18) C.1.1 C.1.2.1 dX12_another_10 (by decide) (fun h_z => ?_) (fun h_z => ?_)
  · rw [if_neg h_z] at hF
    exact bX12_another_18 C O X (lv_sub hl [0] rfl) hF
  · rw [if_pos h_z] at hF
    exact bX12_another_13 C O X (lv_sub hl [0] rfl) hF
noncomputable def fX12_another (N : Nat) (x1 : Int32) (x2 : Int32) (S : gS) : Option (Int32 × gS) := fX12_another_b0 N x1 x2 S
theorem kX12_another {l : Launch} {D : va_G} {g : Nat → Nat} {cI cS : ClassId} {sa : Nat → Nat → Option Nat} {Am : (Nat → Prop) → State → Heap → Prop} (O : gO (mcell g cI cS sa) mord g) (P : gAm Am) (N : Nat) (x1 : Int32) (x2 : Int32) (S : gS) (o : Int32 × gS) (hF : fX12_another N x1 x2 S = some o) : gM l yX12_another cX12_another 3 ((some .boolean)) 2 D (mtys cI cS) (mcell g cI cS sa) mord g Am [.ref (g 99), .int x1, .int x2] S (some (.int o.1)) o.2 :=
  gM_of O P (by decide) (Nat.le_of_ble_eq_true rfl) (fun p e s m args below meth c ls C X hl => bX12_another_0 C O X (lv_sub hl [0, 1, 2] rfl) hF)
-- sayCave
noncomputable def fX12_sayCave_b11 (N : Nat) (x1 : Int32) (S : gS) : Option (Int32 × gS) := chk (inb ((8 + (S 5 6) : Int32)) (16)) (lt (sU S 6 (Int32.toNatClampNeg ((8 + (S 5 6) : Int32))) x1) fun S1 => (bnd (fX12_readNumber N 1 12 S1) fun q1 => (chk (inb ((8 + (S 5 6) : Int32)) (16)) (lt (sU q1.2 7 (Int32.toNatClampNeg ((8 + (S 5 6) : Int32))) q1.1) fun S3 => (bnd (fX12_readNumber N 0 11 S3) fun q2 => (chk (inb ((8 + (S 5 6) : Int32)) (16)) (lt (sU q2.2 8 (Int32.toNatClampNeg ((8 + (S 5 6) : Int32))) q2.1) fun S5 => (bnd (fX12_readNumber N 0 20 S5) fun q3 => (chk (inb ((8 + (S 5 6) : Int32)) (16)) (lt (sU q3.2 9 (Int32.toNatClampNeg ((8 + (S 5 6) : Int32))) q3.1) fun S7 => (lt (sU S7 5 6 (((S7 5 6) + 1 : Int32))) fun S8 => (some (0, S8)))))))))))))
theorem bX12_sayCave_11 {N : Nat} {x1 : Int32} {S : gS} {H : Heap} {locs : List Loc} {ls : Array Slot} {o : Int32 × gS} (C : gC p s m args meth c cX12_sayCave 3 RX12 none D (mtys cI cS) mord g Am) (O : gO (mcell g cI cS sa) mord g) (X : gX D (mcell g cI cS sa) mord g S s H locs) (hl : lv_has ls 3 [(0, .ref (g 99)), (1, .int x1)]) (hF : fX12_sayCave_b11 N x1 S = some o) : W p l e (rmd 3) s m args below meth c H locs 0 0 (gE below args s D (mtys cI cS) (mcell g cI cS sa) mord g none o.2) (F0 m 11 ls []) := by
  unfold fX12_sayCave_b11 at hF
  refine lv_bipush (v := 8) C.1.1 C.1.2.1 dX12_sayCave_11 (by decide) ?_
  refine lv_aload_n C.1.1 C.1.2.1 dX12_sayCave_13 rfl (lv_at hl 0 rfl) ?_
  refine m_g5 C X dX12_sayCave_14 ?_
  refine lv_bipush (v := 6) C.1.1 C.1.2.1 dX12_sayCave_17 (by decide) ?_
  refine m_r5 C X (j := 6) (inb_vp (by decide)) (by decide) dX12_sayCave_19 ?_
  refine lv_iadd C.1.1 C.1.2.1 dX12_sayCave_20 ?_
  refine lv_istore_n (lv' := [(2, .int ((8 + (S 5 6) : Int32))), (0, .ref (g 99)), (1, .int x1)]) C.1.1 C.1.2.1 dX12_sayCave_21 rfl hl (by decide) rfl (fun ls hl => ?_)
  refine lv_aload_n C.1.1 C.1.2.1 dX12_sayCave_22 rfl (lv_at hl 1 rfl) ?_
  refine m_g6 C X dX12_sayCave_23 ?_
  refine lv_iload_n C.1.1 C.1.2.1 dX12_sayCave_26 rfl (lv_at hl 0 rfl) ?_
  refine lv_iload_n C.1.1 C.1.2.1 dX12_sayCave_27 rfl (lv_at hl 2 rfl) ?_
  obtain ⟨h_1, hF⟩ := chk_some hF
  obtain ⟨S1, eS1, hF⟩ := lt_some hF
  refine m_w6 C O X  (inb_vp h_1) rfl eS1 dX12_sayCave_28 (fun H locs X => ?_)
  refine lv_aload_n C.1.1 C.1.2.1 dX12_sayCave_29 rfl (lv_at hl 1 rfl) ?_
  refine m_g7 C X dX12_sayCave_30 ?_
  refine lv_iload_n C.1.1 C.1.2.1 dX12_sayCave_33 rfl (lv_at hl 0 rfl) ?_
  refine lv_aload_n C.1.1 C.1.2.1 dX12_sayCave_34 rfl (lv_at hl 1 rfl) ?_
  refine lv_iconst (v := 1) C.1.1 C.1.2.1 dX12_sayCave_35 (by decide) ?_
  refine lv_bipush (v := 12) C.1.1 C.1.2.1 dX12_sayCave_36 (by decide) ?_
  obtain ⟨q1, hq1, hF⟩ := bnd_some hF
  refine m_callVi C X vX12_readNumber rfl (kX12_readNumber O C.2.2.2.2.1 N 1 12  S1 q1 hq1) (Nat.le_of_ble_eq_true rfl) (Nat.le_of_ble_eq_true rfl) (Nat.le_of_ble_eq_true rfl) (Nat.le_of_ble_eq_true rfl) rfl hl.1 rfl (Nat.le_of_ble_eq_true rfl) dX12_sayCave_38 (fun H locs X => ?_)
  obtain ⟨h_2, hF⟩ := chk_some hF
  obtain ⟨S3, eS3, hF⟩ := lt_some hF
  refine m_w7 C O X  (inb_vp h_2) rfl eS3 dX12_sayCave_41 (fun H locs X => ?_)
  refine lv_aload_n C.1.1 C.1.2.1 dX12_sayCave_42 rfl (lv_at hl 1 rfl) ?_
  refine m_g8 C X dX12_sayCave_43 ?_
  refine lv_iload_n C.1.1 C.1.2.1 dX12_sayCave_46 rfl (lv_at hl 0 rfl) ?_
  refine lv_aload_n C.1.1 C.1.2.1 dX12_sayCave_47 rfl (lv_at hl 1 rfl) ?_
  refine lv_iconst (v := 0) C.1.1 C.1.2.1 dX12_sayCave_48 (by decide) ?_
  refine lv_bipush (v := 11) C.1.1 C.1.2.1 dX12_sayCave_49 (by decide) ?_
  obtain ⟨q2, hq2, hF⟩ := bnd_some hF
  refine m_callVi C X vX12_readNumber rfl (kX12_readNumber O C.2.2.2.2.1 N 0 11  S3 q2 hq2) (Nat.le_of_ble_eq_true rfl) (Nat.le_of_ble_eq_true rfl) (Nat.le_of_ble_eq_true rfl) (Nat.le_of_ble_eq_true rfl) rfl hl.1 rfl (Nat.le_of_ble_eq_true rfl) dX12_sayCave_51 (fun H locs X => ?_)
  obtain ⟨h_3, hF⟩ := chk_some hF
  obtain ⟨S5, eS5, hF⟩ := lt_some hF
  refine m_w8 C O X  (inb_vp h_3) rfl eS5 dX12_sayCave_54 (fun H locs X => ?_)
  refine lv_aload_n C.1.1 C.1.2.1 dX12_sayCave_55 rfl (lv_at hl 1 rfl) ?_
  refine m_g9 C X dX12_sayCave_56 ?_
  refine lv_iload_n C.1.1 C.1.2.1 dX12_sayCave_59 rfl (lv_at hl 0 rfl) ?_
  refine lv_aload_n C.1.1 C.1.2.1 dX12_sayCave_60 rfl (lv_at hl 1 rfl) ?_
  refine lv_iconst (v := 0) C.1.1 C.1.2.1 dX12_sayCave_61 (by decide) ?_
  refine lv_bipush (v := 20) C.1.1 C.1.2.1 dX12_sayCave_62 (by decide) ?_
  obtain ⟨q3, hq3, hF⟩ := bnd_some hF
  refine m_callVi C X vX12_readNumber rfl (kX12_readNumber O C.2.2.2.2.1 N 0 20  S5 q3 hq3) (Nat.le_of_ble_eq_true rfl) (Nat.le_of_ble_eq_true rfl) (Nat.le_of_ble_eq_true rfl) (Nat.le_of_ble_eq_true rfl) rfl hl.1 rfl (Nat.le_of_ble_eq_true rfl) dX12_sayCave_64 (fun H locs X => ?_)
  obtain ⟨h_4, hF⟩ := chk_some hF
  obtain ⟨S7, eS7, hF⟩ := lt_some hF
  refine m_w9 C O X  (inb_vp h_4) rfl eS7 dX12_sayCave_67 (fun H locs X => ?_)
  refine lv_aload_n C.1.1 C.1.2.1 dX12_sayCave_68 rfl (lv_at hl 1 rfl) ?_
  refine m_g5 C X dX12_sayCave_69 ?_
  refine lv_bipush (v := 6) C.1.1 C.1.2.1 dX12_sayCave_72 (by decide) ?_
  refine lv_dup2_11 C.1.1 C.1.2.1 dX12_sayCave_74 rfl rfl ?_
  refine m_r5 C X (j := 6) (inb_vp (by decide)) (by decide) dX12_sayCave_75 ?_
  refine lv_iconst (v := 1) C.1.1 C.1.2.1 dX12_sayCave_76 (by decide) ?_
  refine lv_iadd C.1.1 C.1.2.1 dX12_sayCave_77 ?_
  obtain ⟨S8, eS8, hF⟩ := lt_some hF
  refine m_w5 C O X (j := 6) (inb_vp (by decide)) (by decide) eS8 dX12_sayCave_78 (fun H locs X => ?_)
  cases hF
  exact g_vret C X dX12_sayCave_79
noncomputable def fX12_sayCave_b10 (N : Nat) (S : gS) : Option (Int32 × gS) := some (0, S)
theorem bX12_sayCave_10 {N : Nat} {S : gS} {H : Heap} {locs : List Loc} {ls : Array Slot} {o : Int32 × gS} (C : gC p s m args meth c cX12_sayCave 3 RX12 none D (mtys cI cS) mord g Am) (O : gO (mcell g cI cS sa) mord g) (X : gX D (mcell g cI cS sa) mord g S s H locs) (hl : lv_has ls 3 []) (hF : fX12_sayCave_b10 N S = some o) : W p l e (rmd 3) s m args below meth c H locs 0 0 (gE below args s D (mtys cI cS) (mcell g cI cS sa) mord g none o.2) (F0 m 10 ls []) := by
  unfold fX12_sayCave_b10 at hF
  cases hF
  exact g_vret C X dX12_sayCave_10
noncomputable def fX12_sayCave_b0 (N : Nat) (x1 : Int32) (S : gS) : Option (Int32 × gS) := bnd (fX12_another N 0 8 S) fun q1 => (if q1.1 = 0 then fX12_sayCave_b10 N q1.2 else fX12_sayCave_b11 N x1 q1.2)
theorem bX12_sayCave_0 {N : Nat} {x1 : Int32} {S : gS} {H : Heap} {locs : List Loc} {ls : Array Slot} {o : Int32 × gS} (C : gC p s m args meth c cX12_sayCave 3 RX12 none D (mtys cI cS) mord g Am) (O : gO (mcell g cI cS sa) mord g) (X : gX D (mcell g cI cS sa) mord g S s H locs) (hl : lv_has ls 3 [(0, .ref (g 99)), (1, .int x1)]) (hF : fX12_sayCave_b0 N x1 S = some o) : W p l e (rmd 3) s m args below meth c H locs 0 0 (gE below args s D (mtys cI cS) (mcell g cI cS sa) mord g none o.2) (F0 m 0 ls []) := by
  unfold fX12_sayCave_b0 at hF
  refine lv_aload_n C.1.1 C.1.2.1 dX12_sayCave_0 rfl (lv_at hl 0 rfl) ?_
  refine lv_iconst (v := 0) C.1.1 C.1.2.1 dX12_sayCave_1 (by decide) ?_
  refine lv_bipush (v := 8) C.1.1 C.1.2.1 dX12_sayCave_2 (by decide) ?_
  obtain ⟨q1, hq1, hF⟩ := bnd_some hF
  refine m_callVi C X vX12_another rfl (kX12_another O C.2.2.2.2.1 N 0 8  S q1 hq1) (Nat.le_of_ble_eq_true rfl) (Nat.le_of_ble_eq_true rfl) (Nat.le_of_ble_eq_true rfl) (Nat.le_of_ble_eq_true rfl) rfl hl.1 rfl (Nat.le_of_ble_eq_true rfl) dX12_sayCave_4 (fun H locs X => ?_)
  refine lv_if_ne (tgt := 11) C.1.1 C.1.2.1 dX12_sayCave_7 (by decide) (fun h_z => ?_) (fun h_z => ?_)
  · rw [if_neg h_z] at hF
    exact bX12_sayCave_11 C O X (lv_sub hl [0, 1] rfl) hF
  · rw [if_pos h_z] at hF
    exact bX12_sayCave_10 C O X (lv_sub hl [] rfl) hF
noncomputable def fX12_sayCave (N : Nat) (x1 : Int32) (S : gS) : Option (Int32 × gS) := fX12_sayCave_b0 N x1 S
theorem kX12_sayCave {l : Launch} {D : va_G} {g : Nat → Nat} {cI cS : ClassId} {sa : Nat → Nat → Option Nat} {Am : (Nat → Prop) → State → Heap → Prop} (O : gO (mcell g cI cS sa) mord g) (P : gAm Am) (N : Nat) (x1 : Int32) (S : gS) (o : Int32 × gS) (hF : fX12_sayCave N x1 S = some o) : gM l yX12_sayCave cX12_sayCave 3 none 3 D (mtys cI cS) (mcell g cI cS sa) mord g Am [.ref (g 99), .int x1] S none o.2 :=
  gM_of O P (by decide) (Nat.le_of_ble_eq_true rfl) (fun p e s m args below meth c ls C X hl => bX12_sayCave_0 C O X (lv_sub hl [0, 1] rfl) hF)
-- sayWets
noncomputable def fX12_sayWets_b80 (N : Nat) (x1 : Int32) (S : gS) : Option (Int32 × gS) := lt (sU S 5 9 x1) fun S1 => (some (0, S1))
theorem bX12_sayWets_80 {N : Nat} {x1 : Int32} {S : gS} {H : Heap} {locs : List Loc} {ls : Array Slot} {o : Int32 × gS} (C : gC p s m args meth c cX12_sayWets 3 RX12 none D (mtys cI cS) mord g Am) (O : gO (mcell g cI cS sa) mord g) (X : gX D (mcell g cI cS sa) mord g S s H locs) (hl : lv_has ls 3 [(0, .ref (g 99)), (1, .int x1)]) (hF : fX12_sayWets_b80 N x1 S = some o) : W p l e (rmd 3) s m args below meth c H locs 0 0 (gE below args s D (mtys cI cS) (mcell g cI cS sa) mord g none o.2) (F0 m 80 ls []) := by
  unfold fX12_sayWets_b80 at hF
  refine lv_aload_n C.1.1 C.1.2.1 dX12_sayWets_80 rfl (lv_at hl 0 rfl) ?_
  refine m_g5 C X dX12_sayWets_81 ?_
  refine lv_bipush (v := 9) C.1.1 C.1.2.1 dX12_sayWets_84 (by decide) ?_
  refine lv_iload_n C.1.1 C.1.2.1 dX12_sayWets_86 rfl (lv_at hl 1 rfl) ?_
  obtain ⟨S1, eS1, hF⟩ := lt_some hF
  refine m_w5 C O X (j := 9) (inb_vp (by decide)) (by decide) eS1 dX12_sayWets_87 (fun H locs X => ?_)
  cases hF
  exact g_vret C X dX12_sayWets_88
noncomputable def fX12_sayWets_b64 (N : Nat) (r22 : Int32 → gS → Option (Int32 × gS)) (x1 : Int32) (x2 : Int32) (S : gS) : Option (Int32 × gS) := chk (inb ((8 + x1 : Int32)) (16)) (lt (sU S 14 (Int32.toNatClampNeg ((8 + x1 : Int32))) x2) fun S1 => (r22 ((x1 + 1 : Int32)) S1))
theorem bX12_sayWets_64 {N : Nat} {r22 : Int32 → gS → Option (Int32 × gS)} {x1 : Int32} {x2 : Int32} {S : gS} {H : Heap} {locs : List Loc} {ls : Array Slot} {o : Int32 × gS} (C : gC p s m args meth c cX12_sayWets 3 RX12 none D (mtys cI cS) mord g Am) (O : gO (mcell g cI cS sa) mord g) (K22 : ∀ (x1 : Int32) (S : gS) (H : Heap) (locs : List Loc) (ls : Array Slot), gX D (mcell g cI cS sa) mord g S s H locs → lv_has ls 3 [(0, .ref (g 99)), (1, .int x1)] → r22 x1 S = some o → W p l e (rmd 3) s m args below meth c H locs 0 0 (gE below args s D (mtys cI cS) (mcell g cI cS sa) mord g none o.2) (F0 m 22 ls [])) (X : gX D (mcell g cI cS sa) mord g S s H locs) (hl : lv_has ls 3 [(0, .ref (g 99)), (1, .int x1), (2, .int x2)]) (hF : fX12_sayWets_b64 N r22 x1 x2 S = some o) : W p l e (rmd 3) s m args below meth c H locs 0 0 (gE below args s D (mtys cI cS) (mcell g cI cS sa) mord g none o.2) (F0 m 64 ls []) := by
  unfold fX12_sayWets_b64 at hF
  refine lv_aload_n C.1.1 C.1.2.1 dX12_sayWets_64 rfl (lv_at hl 0 rfl) ?_
  refine m_g14 C X dX12_sayWets_65 ?_
  refine lv_bipush (v := 8) C.1.1 C.1.2.1 dX12_sayWets_68 (by decide) ?_
  refine lv_iload_n C.1.1 C.1.2.1 dX12_sayWets_70 rfl (lv_at hl 1 rfl) ?_
  refine lv_iadd C.1.1 C.1.2.1 dX12_sayWets_71 ?_
  refine lv_iload_n C.1.1 C.1.2.1 dX12_sayWets_72 rfl (lv_at hl 2 rfl) ?_
  obtain ⟨h_1, hF⟩ := chk_some hF
  obtain ⟨S1, eS1, hF⟩ := lt_some hF
  refine m_w14 C O X  (inb_vp h_1) rfl eS1 dX12_sayWets_73 (fun H locs X => ?_)
  refine lv_iinc (v := (x1 + 1 : Int32)) (lv' := [(1, .int ((x1 + 1 : Int32))), (0, .ref (g 99)), (2, .int x2)]) C.1.1 C.1.2.1 dX12_sayWets_74 hl (k := 1) rfl rfl (by decide) rfl (fun ls hl => ?_)
  refine lv_goto (tgt := 22) C.1.1 C.1.2.1 dX12_sayWets_77 (by decide) ?_
  exact K22 _ _ _ _ _ X (lv_sub hl [1, 0] rfl) hF
noncomputable def fX12_sayWets_b63 (N : Nat) (S : gS) : Option (Int32 × gS) := some (0, S)
theorem bX12_sayWets_63 {N : Nat} {S : gS} {H : Heap} {locs : List Loc} {ls : Array Slot} {o : Int32 × gS} (C : gC p s m args meth c cX12_sayWets 3 RX12 none D (mtys cI cS) mord g Am) (O : gO (mcell g cI cS sa) mord g) (X : gX D (mcell g cI cS sa) mord g S s H locs) (hl : lv_has ls 3 []) (hF : fX12_sayWets_b63 N S = some o) : W p l e (rmd 3) s m args below meth c H locs 0 0 (gE below args s D (mtys cI cS) (mcell g cI cS sa) mord g none o.2) (F0 m 63 ls []) := by
  unfold fX12_sayWets_b63 at hF
  cases hF
  exact g_vret C X dX12_sayWets_63
noncomputable def fX12_sayWets_b48 (N : Nat) (r22 : Int32 → gS → Option (Int32 × gS)) (x1 : Int32) (S : gS) : Option (Int32 × gS) := bnd (fX12_readNumber N 0 9 S) fun q1 => (if (q1.2 99 27) = 0 then fX12_sayWets_b64 N r22 x1 q1.1 q1.2 else fX12_sayWets_b63 N q1.2)
theorem bX12_sayWets_48 {N : Nat} {r22 : Int32 → gS → Option (Int32 × gS)} {x1 : Int32} {S : gS} {H : Heap} {locs : List Loc} {ls : Array Slot} {o : Int32 × gS} (C : gC p s m args meth c cX12_sayWets 3 RX12 none D (mtys cI cS) mord g Am) (O : gO (mcell g cI cS sa) mord g) (K22 : ∀ (x1 : Int32) (S : gS) (H : Heap) (locs : List Loc) (ls : Array Slot), gX D (mcell g cI cS sa) mord g S s H locs → lv_has ls 3 [(0, .ref (g 99)), (1, .int x1)] → r22 x1 S = some o → W p l e (rmd 3) s m args below meth c H locs 0 0 (gE below args s D (mtys cI cS) (mcell g cI cS sa) mord g none o.2) (F0 m 22 ls [])) (X : gX D (mcell g cI cS sa) mord g S s H locs) (hl : lv_has ls 3 [(0, .ref (g 99)), (1, .int x1)]) (hF : fX12_sayWets_b48 N r22 x1 S = some o) : W p l e (rmd 3) s m args below meth c H locs 0 0 (gE below args s D (mtys cI cS) (mcell g cI cS sa) mord g none o.2) (F0 m 48 ls []) := by
  unfold fX12_sayWets_b48 at hF
  refine lv_aload_n C.1.1 C.1.2.1 dX12_sayWets_48 rfl (lv_at hl 0 rfl) ?_
  refine lv_iconst (v := 0) C.1.1 C.1.2.1 dX12_sayWets_49 (by decide) ?_
  refine lv_bipush (v := 9) C.1.1 C.1.2.1 dX12_sayWets_50 (by decide) ?_
  obtain ⟨q1, hq1, hF⟩ := bnd_some hF
  refine m_callVi C X vX12_readNumber rfl (kX12_readNumber O C.2.2.2.2.1 N 0 9  S q1 hq1) (Nat.le_of_ble_eq_true rfl) (Nat.le_of_ble_eq_true rfl) (Nat.le_of_ble_eq_true rfl) (Nat.le_of_ble_eq_true rfl) rfl hl.1 rfl (Nat.le_of_ble_eq_true rfl) dX12_sayWets_52 (fun H locs X => ?_)
  refine lv_istore_n (lv' := [(2, .int q1.1), (0, .ref (g 99)), (1, .int x1)]) C.1.1 C.1.2.1 dX12_sayWets_55 rfl hl (by decide) rfl (fun ls hl => ?_)
  refine lv_aload_n C.1.1 C.1.2.1 dX12_sayWets_56 rfl (lv_at hl 1 rfl) ?_
  refine m_g27 C X dX12_sayWets_57 ?_
  refine lv_if_eq (tgt := 64) C.1.1 C.1.2.1 dX12_sayWets_60 (by decide) (fun h_z => ?_) (fun h_z => ?_)
  · rw [if_pos h_z] at hF
    exact bX12_sayWets_64 C O K22 X (lv_sub hl [1, 2, 0] rfl) hF
  · rw [if_neg h_z] at hF
    exact bX12_sayWets_63 C O X (lv_sub hl [] rfl) hF
noncomputable def fX12_sayWets_b43 (N : Nat) (r22 : Int32 → gS → Option (Int32 × gS)) (x1 : Int32) (S : gS) : Option (Int32 × gS) := bnd (fX12_wrong N 2 S) fun q1 => (fX12_sayWets_b48 N r22 x1 q1.2)
theorem bX12_sayWets_43 {N : Nat} {r22 : Int32 → gS → Option (Int32 × gS)} {x1 : Int32} {S : gS} {H : Heap} {locs : List Loc} {ls : Array Slot} {o : Int32 × gS} (C : gC p s m args meth c cX12_sayWets 3 RX12 none D (mtys cI cS) mord g Am) (O : gO (mcell g cI cS sa) mord g) (K22 : ∀ (x1 : Int32) (S : gS) (H : Heap) (locs : List Loc) (ls : Array Slot), gX D (mcell g cI cS sa) mord g S s H locs → lv_has ls 3 [(0, .ref (g 99)), (1, .int x1)] → r22 x1 S = some o → W p l e (rmd 3) s m args below meth c H locs 0 0 (gE below args s D (mtys cI cS) (mcell g cI cS sa) mord g none o.2) (F0 m 22 ls [])) (X : gX D (mcell g cI cS sa) mord g S s H locs) (hl : lv_has ls 3 [(0, .ref (g 99)), (1, .int x1)]) (hF : fX12_sayWets_b43 N r22 x1 S = some o) : W p l e (rmd 3) s m args below meth c H locs 0 0 (gE below args s D (mtys cI cS) (mcell g cI cS sa) mord g none o.2) (F0 m 43 ls []) := by
  unfold fX12_sayWets_b43 at hF
  refine lv_aload_n C.1.1 C.1.2.1 dX12_sayWets_43 rfl (lv_at hl 0 rfl) ?_
  refine lv_iconst (v := 2) C.1.1 C.1.2.1 dX12_sayWets_44 (by decide) ?_
  obtain ⟨q1, hq1, hF⟩ := bnd_some hF
  refine m_callV C X vX12_wrong rfl (kX12_wrong O C.2.2.2.2.1 N 2  S q1 hq1) (Nat.le_of_ble_eq_true rfl) (Nat.le_of_ble_eq_true rfl) (Nat.le_of_ble_eq_true rfl) (Nat.le_of_ble_eq_true rfl) rfl hl.1 rfl (Nat.le_of_ble_eq_true rfl) dX12_sayWets_45 (fun H locs X => ?_)
  exact bX12_sayWets_48 C O K22 X (lv_sub hl [0, 1] rfl) hF
noncomputable def fX12_sayWets_b37 (N : Nat) (r22 : Int32 → gS → Option (Int32 × gS)) (x1 : Int32) (S : gS) : Option (Int32 × gS) := if x1 = 8 then fX12_sayWets_b43 N r22 x1 S else fX12_sayWets_b48 N r22 x1 S
theorem bX12_sayWets_37 {N : Nat} {r22 : Int32 → gS → Option (Int32 × gS)} {x1 : Int32} {S : gS} {H : Heap} {locs : List Loc} {ls : Array Slot} {o : Int32 × gS} (C : gC p s m args meth c cX12_sayWets 3 RX12 none D (mtys cI cS) mord g Am) (O : gO (mcell g cI cS sa) mord g) (K22 : ∀ (x1 : Int32) (S : gS) (H : Heap) (locs : List Loc) (ls : Array Slot), gX D (mcell g cI cS sa) mord g S s H locs → lv_has ls 3 [(0, .ref (g 99)), (1, .int x1)] → r22 x1 S = some o → W p l e (rmd 3) s m args below meth c H locs 0 0 (gE below args s D (mtys cI cS) (mcell g cI cS sa) mord g none o.2) (F0 m 22 ls [])) (X : gX D (mcell g cI cS sa) mord g S s H locs) (hl : lv_has ls 3 [(0, .ref (g 99)), (1, .int x1)]) (hF : fX12_sayWets_b37 N r22 x1 S = some o) : W p l e (rmd 3) s m args below meth c H locs 0 0 (gE below args s D (mtys cI cS) (mcell g cI cS sa) mord g none o.2) (F0 m 37 ls []) := by
  unfold fX12_sayWets_b37 at hF
  refine lv_iload_n C.1.1 C.1.2.1 dX12_sayWets_37 rfl (lv_at hl 1 rfl) ?_
  refine lv_bipush (v := 8) C.1.1 C.1.2.1 dX12_sayWets_38 (by decide) ?_
  refine lv_icmp_ne (tgt := 48) C.1.1 C.1.2.1 dX12_sayWets_40 (by decide) (fun h_z => ?_) (fun h_z => ?_)
  · rw [if_neg h_z] at hF
    exact bX12_sayWets_48 C O K22 X (lv_sub hl [0, 1] rfl) hF
  · rw [if_pos h_z] at hF
    exact bX12_sayWets_43 C O K22 X (lv_sub hl [0, 1] rfl) hF
noncomputable def fX12_sayWets_b29 (N : Nat) (r22 : Int32 → gS → Option (Int32 × gS)) (x1 : Int32) (S : gS) : Option (Int32 × gS) := if (S 99 23) = 2 then fX12_sayWets_b37 N r22 x1 S else fX12_sayWets_b80 N x1 S
theorem bX12_sayWets_29 {N : Nat} {r22 : Int32 → gS → Option (Int32 × gS)} {x1 : Int32} {S : gS} {H : Heap} {locs : List Loc} {ls : Array Slot} {o : Int32 × gS} (C : gC p s m args meth c cX12_sayWets 3 RX12 none D (mtys cI cS) mord g Am) (O : gO (mcell g cI cS sa) mord g) (K22 : ∀ (x1 : Int32) (S : gS) (H : Heap) (locs : List Loc) (ls : Array Slot), gX D (mcell g cI cS sa) mord g S s H locs → lv_has ls 3 [(0, .ref (g 99)), (1, .int x1)] → r22 x1 S = some o → W p l e (rmd 3) s m args below meth c H locs 0 0 (gE below args s D (mtys cI cS) (mcell g cI cS sa) mord g none o.2) (F0 m 22 ls [])) (X : gX D (mcell g cI cS sa) mord g S s H locs) (hl : lv_has ls 3 [(0, .ref (g 99)), (1, .int x1)]) (hF : fX12_sayWets_b29 N r22 x1 S = some o) : W p l e (rmd 3) s m args below meth c H locs 0 0 (gE below args s D (mtys cI cS) (mcell g cI cS sa) mord g none o.2) (F0 m 29 ls []) := by
  unfold fX12_sayWets_b29 at hF
  refine lv_aload_n C.1.1 C.1.2.1 dX12_sayWets_29 rfl (lv_at hl 0 rfl) ?_
  refine m_g23 C X dX12_sayWets_30 ?_
  refine lv_iconst (v := 2) C.1.1 C.1.2.1 dX12_sayWets_33 (by decide) ?_
  refine lv_icmp_ne (tgt := 80) C.1.1 C.1.2.1 dX12_sayWets_34 (by decide) (fun h_z => ?_) (fun h_z => ?_)
  · rw [if_neg h_z] at hF
    exact bX12_sayWets_80 C O X (lv_sub hl [0, 1] rfl) hF
  · rw [if_pos h_z] at hF
    exact bX12_sayWets_37 C O K22 X (lv_sub hl [0, 1] rfl) hF
noncomputable def fX12_sayWets_b22 (N : Nat) (r22 : Int32 → gS → Option (Int32 × gS)) (x1 : Int32) (S : gS) : Option (Int32 × gS) := if (S 99 27) = 0 then fX12_sayWets_b29 N r22 x1 S else fX12_sayWets_b80 N x1 S
theorem bX12_sayWets_22 {N : Nat} {r22 : Int32 → gS → Option (Int32 × gS)} {x1 : Int32} {S : gS} {H : Heap} {locs : List Loc} {ls : Array Slot} {o : Int32 × gS} (C : gC p s m args meth c cX12_sayWets 3 RX12 none D (mtys cI cS) mord g Am) (O : gO (mcell g cI cS sa) mord g) (K22 : ∀ (x1 : Int32) (S : gS) (H : Heap) (locs : List Loc) (ls : Array Slot), gX D (mcell g cI cS sa) mord g S s H locs → lv_has ls 3 [(0, .ref (g 99)), (1, .int x1)] → r22 x1 S = some o → W p l e (rmd 3) s m args below meth c H locs 0 0 (gE below args s D (mtys cI cS) (mcell g cI cS sa) mord g none o.2) (F0 m 22 ls [])) (X : gX D (mcell g cI cS sa) mord g S s H locs) (hl : lv_has ls 3 [(0, .ref (g 99)), (1, .int x1)]) (hF : fX12_sayWets_b22 N r22 x1 S = some o) : W p l e (rmd 3) s m args below meth c H locs 0 0 (gE below args s D (mtys cI cS) (mcell g cI cS sa) mord g none o.2) (F0 m 22 ls []) := by
  unfold fX12_sayWets_b22 at hF
  refine lv_aload_n C.1.1 C.1.2.1 dX12_sayWets_22 rfl (lv_at hl 0 rfl) ?_
  refine m_g27 C X dX12_sayWets_23 ?_
  refine lv_if_ne (tgt := 80) C.1.1 C.1.2.1 dX12_sayWets_26 (by decide) (fun h_z => ?_) (fun h_z => ?_)
  · rw [if_neg h_z] at hF
    exact bX12_sayWets_80 C O X (lv_sub hl [0, 1] rfl) hF
  · rw [if_pos h_z] at hF
    exact bX12_sayWets_29 C O K22 X (lv_sub hl [0, 1] rfl) hF
noncomputable def fX12_sayWets_h22 (N : Nat) : Nat → Int32 → gS → Option (Int32 × gS)
  | 0, _, _ => none
  | n + 1, x1, S => fX12_sayWets_b22 N (fX12_sayWets_h22 N n) x1 S
theorem hX12_sayWets_22 {N : Nat} {o : Int32 × gS} (C : gC p s m args meth c cX12_sayWets 3 RX12 none D (mtys cI cS) mord g Am) (O : gO (mcell g cI cS sa) mord g) : ∀ (n : Nat) (x1 : Int32) (S : gS) (H : Heap) (locs : List Loc) (ls : Array Slot), gX D (mcell g cI cS sa) mord g S s H locs → lv_has ls 3 [(0, .ref (g 99)), (1, .int x1)] → fX12_sayWets_h22 N n x1 S = some o → W p l e (rmd 3) s m args below meth c H locs 0 0 (gE below args s D (mtys cI cS) (mcell g cI cS sa) mord g none o.2) (F0 m 22 ls []) := by
  intro n
  induction n with
  | zero =>
    intro x1 S H locs ls X hl hF
    exact absurd (show (none : Option (Int32 × gS)) = some o from hF) (by simp)
  | succ n ih =>
    intro x1 S H locs ls X hl hF
    have hF : fX12_sayWets_b22 N (fX12_sayWets_h22 N n) x1 S = some o := hF
    exact bX12_sayWets_22 C O ih X hl hF
noncomputable def fX12_sayWets_b17 (N : Nat) (x1 : Int32) (S : gS) : Option (Int32 × gS) := bnd (fX12_wrong N 1 S) fun q1 => (fX12_sayWets_h22 N N x1 q1.2)
theorem bX12_sayWets_17 {N : Nat} {x1 : Int32} {S : gS} {H : Heap} {locs : List Loc} {ls : Array Slot} {o : Int32 × gS} (C : gC p s m args meth c cX12_sayWets 3 RX12 none D (mtys cI cS) mord g Am) (O : gO (mcell g cI cS sa) mord g) (X : gX D (mcell g cI cS sa) mord g S s H locs) (hl : lv_has ls 3 [(0, .ref (g 99)), (1, .int x1)]) (hF : fX12_sayWets_b17 N x1 S = some o) : W p l e (rmd 3) s m args below meth c H locs 0 0 (gE below args s D (mtys cI cS) (mcell g cI cS sa) mord g none o.2) (F0 m 17 ls []) := by
  unfold fX12_sayWets_b17 at hF
  refine lv_aload_n C.1.1 C.1.2.1 dX12_sayWets_17 rfl (lv_at hl 0 rfl) ?_
  refine lv_iconst (v := 1) C.1.1 C.1.2.1 dX12_sayWets_18 (by decide) ?_
  obtain ⟨q1, hq1, hF⟩ := bnd_some hF
  refine m_callV C X vX12_wrong rfl (kX12_wrong O C.2.2.2.2.1 N 1  S q1 hq1) (Nat.le_of_ble_eq_true rfl) (Nat.le_of_ble_eq_true rfl) (Nat.le_of_ble_eq_true rfl) (Nat.le_of_ble_eq_true rfl) rfl hl.1 rfl (Nat.le_of_ble_eq_true rfl) dX12_sayWets_19 (fun H locs X => ?_)
  exact hX12_sayWets_22 C O N _ _ _ _ _ X (lv_sub hl [0, 1] rfl) hF
noncomputable def fX12_sayWets_b9 (N : Nat) (x1 : Int32) (S : gS) : Option (Int32 × gS) := if (S 99 23) = 2 then fX12_sayWets_h22 N N x1 S else fX12_sayWets_b17 N x1 S
theorem bX12_sayWets_9 {N : Nat} {x1 : Int32} {S : gS} {H : Heap} {locs : List Loc} {ls : Array Slot} {o : Int32 × gS} (C : gC p s m args meth c cX12_sayWets 3 RX12 none D (mtys cI cS) mord g Am) (O : gO (mcell g cI cS sa) mord g) (X : gX D (mcell g cI cS sa) mord g S s H locs) (hl : lv_has ls 3 [(0, .ref (g 99)), (1, .int x1)]) (hF : fX12_sayWets_b9 N x1 S = some o) : W p l e (rmd 3) s m args below meth c H locs 0 0 (gE below args s D (mtys cI cS) (mcell g cI cS sa) mord g none o.2) (F0 m 9 ls []) := by
  unfold fX12_sayWets_b9 at hF
  refine lv_aload_n C.1.1 C.1.2.1 dX12_sayWets_9 rfl (lv_at hl 0 rfl) ?_
  refine m_g23 C X dX12_sayWets_10 ?_
  refine lv_iconst (v := 2) C.1.1 C.1.2.1 dX12_sayWets_13 (by decide) ?_
  refine lv_icmp_eq (tgt := 22) C.1.1 C.1.2.1 dX12_sayWets_14 (by decide) (fun h_z => ?_) (fun h_z => ?_)
  · rw [if_pos h_z] at hF
    exact hX12_sayWets_22 C O N _ _ _ _ _ X (lv_sub hl [0, 1] rfl) hF
  · rw [if_neg h_z] at hF
    exact bX12_sayWets_17 C O X (lv_sub hl [0, 1] rfl) hF
noncomputable def fX12_sayWets_b0 (N : Nat) (S : gS) : Option (Int32 × gS) := if (S 99 27) = 0 then fX12_sayWets_b9 N 0 S else fX12_sayWets_h22 N N 0 S
theorem bX12_sayWets_0 {N : Nat} {S : gS} {H : Heap} {locs : List Loc} {ls : Array Slot} {o : Int32 × gS} (C : gC p s m args meth c cX12_sayWets 3 RX12 none D (mtys cI cS) mord g Am) (O : gO (mcell g cI cS sa) mord g) (X : gX D (mcell g cI cS sa) mord g S s H locs) (hl : lv_has ls 3 [(0, .ref (g 99))]) (hF : fX12_sayWets_b0 N S = some o) : W p l e (rmd 3) s m args below meth c H locs 0 0 (gE below args s D (mtys cI cS) (mcell g cI cS sa) mord g none o.2) (F0 m 0 ls []) := by
  unfold fX12_sayWets_b0 at hF
  refine lv_iconst (v := 0) C.1.1 C.1.2.1 dX12_sayWets_0 (by decide) ?_
  refine lv_istore_n (lv' := [(1, .int 0), (0, .ref (g 99))]) C.1.1 C.1.2.1 dX12_sayWets_1 rfl hl (by decide) rfl (fun ls hl => ?_)
  refine lv_aload_n C.1.1 C.1.2.1 dX12_sayWets_2 rfl (lv_at hl 1 rfl) ?_
  refine m_g27 C X dX12_sayWets_3 ?_
  refine lv_if_ne (tgt := 22) C.1.1 C.1.2.1 dX12_sayWets_6 (by decide) (fun h_z => ?_) (fun h_z => ?_)
  · rw [if_neg h_z] at hF
    exact hX12_sayWets_22 C O N _ _ _ _ _ X (lv_sub hl [1, 0] rfl) hF
  · rw [if_pos h_z] at hF
    exact bX12_sayWets_9 C O X (lv_sub hl [1, 0] rfl) hF
noncomputable def fX12_sayWets (N : Nat) (S : gS) : Option (Int32 × gS) := fX12_sayWets_b0 N S
theorem kX12_sayWets {l : Launch} {D : va_G} {g : Nat → Nat} {cI cS : ClassId} {sa : Nat → Nat → Option Nat} {Am : (Nat → Prop) → State → Heap → Prop} (O : gO (mcell g cI cS sa) mord g) (P : gAm Am) (N : Nat) (S : gS) (o : Int32 × gS) (hF : fX12_sayWets N S = some o) : gM l yX12_sayWets cX12_sayWets 3 none 3 D (mtys cI cS) (mcell g cI cS sa) mord g Am [.ref (g 99)] S none o.2 :=
  gM_of O P (by decide) (Nat.le_of_ble_eq_true rfl) (fun p e s m args below meth c ls C X hl => bX12_sayWets_0 C O X (lv_sub hl [0] rfl) hF)
-- takeHalf
noncomputable def fX12_takeHalf_b27 (N : Nat) (S : gS) : Option (Int32 × gS) := some (0, S)
theorem bX12_takeHalf_27 {N : Nat} {S : gS} {H : Heap} {locs : List Loc} {ls : Array Slot} {o : Int32 × gS} (C : gC p s m args meth c cX12_takeHalf 2 RX12 none D (mtys cI cS) mord g Am) (O : gO (mcell g cI cS sa) mord g) (X : gX D (mcell g cI cS sa) mord g S s H locs) (hl : lv_has ls 2 []) (hF : fX12_takeHalf_b27 N S = some o) : W p l e (rmd 0) s m args below meth c H locs 0 0 (gE below args s D (mtys cI cS) (mcell g cI cS sa) mord g none o.2) (F0 m 27 ls []) := by
  unfold fX12_takeHalf_b27 at hF
  cases hF
  exact g_vret C X dX12_takeHalf_27
noncomputable def fX12_takeHalf_b10 (N : Nat) (r2 : Nat → Int32 → gS → Option (Int32 × gS)) (k0 : Nat) (x1 : Int32) (S : gS) : Option (Int32 × gS) := chk (inb (((((Int32.ofNat (mN k0)) / 2 : Int32)) + x1 : Int32)) (mN k0)) (chk (inb x1 (mN k0)) (lt (sU S k0 (Int32.toNatClampNeg x1) (S k0 (Int32.toNatClampNeg (((((Int32.ofNat (mN k0)) / 2 : Int32)) + x1 : Int32))))) fun S1 => (r2 k0 ((x1 + 1 : Int32)) S1)))
theorem bX12_takeHalf_10 {N : Nat} {r2 : Nat → Int32 → gS → Option (Int32 × gS)} {k0 : Nat} {x1 : Int32} {S : gS} {H : Heap} {locs : List Loc} {ls : Array Slot} {o : Int32 × gS} (C : gC p s m args meth c cX12_takeHalf 2 RX12 none D (mtys cI cS) mord g Am) (O : gO (mcell g cI cS sa) mord g) (K2 : ∀ (k0 : Nat) (x1 : Int32) (hk_k0 : mI k0 = true) (S : gS) (H : Heap) (locs : List Loc) (ls : Array Slot), gX D (mcell g cI cS sa) mord g S s H locs → lv_has ls 2 [(0, .ref (g k0)), (1, .int x1)] → r2 k0 x1 S = some o → W p l e (rmd 0) s m args below meth c H locs 0 0 (gE below args s D (mtys cI cS) (mcell g cI cS sa) mord g none o.2) (F0 m 2 ls [])) (hk_k0 : mI k0 = true) (X : gX D (mcell g cI cS sa) mord g S s H locs) (hl : lv_has ls 2 [(0, .ref (g k0)), (1, .int x1)]) (hF : fX12_takeHalf_b10 N r2 k0 x1 S = some o) : W p l e (rmd 0) s m args below meth c H locs 0 0 (gE below args s D (mtys cI cS) (mcell g cI cS sa) mord g none o.2) (F0 m 10 ls []) := by
  unfold fX12_takeHalf_b10 at hF
  refine lv_aload_n C.1.1 C.1.2.1 dX12_takeHalf_10 rfl (lv_at hl 0 rfl) ?_
  refine lv_iload_n C.1.1 C.1.2.1 dX12_takeHalf_11 rfl (lv_at hl 1 rfl) ?_
  refine lv_aload_n C.1.1 C.1.2.1 dX12_takeHalf_12 rfl (lv_at hl 0 rfl) ?_
  refine lv_aload_n C.1.1 C.1.2.1 dX12_takeHalf_13 rfl (lv_at hl 0 rfl) ?_
  refine m_lv C X (k := k0) hk_k0 (x := Int32.ofNat (mN k0)) rfl dX12_takeHalf_14 ?_
  refine lv_iconst (v := 2) C.1.1 C.1.2.1 dX12_takeHalf_15 (by decide) ?_
  refine lv_idiv C.1.1 C.1.2.1 dX12_takeHalf_16 (by decide) ?_
  refine lv_iload_n C.1.1 C.1.2.1 dX12_takeHalf_17 rfl (lv_at hl 1 rfl) ?_
  refine lv_iadd C.1.1 C.1.2.1 dX12_takeHalf_18 ?_
  obtain ⟨h_1, hF⟩ := chk_some hF
  refine m_rv C X (k := k0) hk_k0  (inb_vp h_1) rfl dX12_takeHalf_19 ?_
  obtain ⟨h_2, hF⟩ := chk_some hF
  obtain ⟨S1, eS1, hF⟩ := lt_some hF
  refine m_wv C O X (k := k0) hk_k0  (inb_vp h_2) rfl eS1 dX12_takeHalf_20 (fun H locs X => ?_)
  refine lv_iinc (v := (x1 + 1 : Int32)) (lv' := [(1, .int ((x1 + 1 : Int32))), (0, .ref (g k0))]) C.1.1 C.1.2.1 dX12_takeHalf_21 hl (k := 1) rfl rfl (by decide) rfl (fun ls hl => ?_)
  refine lv_goto (tgt := 2) C.1.1 C.1.2.1 dX12_takeHalf_24 (by decide) ?_
  exact K2 _ _ hk_k0 _ _ _ _ X (lv_sub hl [1, 0] rfl) hF
noncomputable def fX12_takeHalf_b2 (N : Nat) (r2 : Nat → Int32 → gS → Option (Int32 × gS)) (k0 : Nat) (x1 : Int32) (S : gS) : Option (Int32 × gS) := if (((Int32.ofNat (mN k0)) / 2 : Int32)) ≤ x1 then fX12_takeHalf_b27 N S else fX12_takeHalf_b10 N r2 k0 x1 S
theorem bX12_takeHalf_2 {N : Nat} {r2 : Nat → Int32 → gS → Option (Int32 × gS)} {k0 : Nat} {x1 : Int32} {S : gS} {H : Heap} {locs : List Loc} {ls : Array Slot} {o : Int32 × gS} (C : gC p s m args meth c cX12_takeHalf 2 RX12 none D (mtys cI cS) mord g Am) (O : gO (mcell g cI cS sa) mord g) (K2 : ∀ (k0 : Nat) (x1 : Int32) (hk_k0 : mI k0 = true) (S : gS) (H : Heap) (locs : List Loc) (ls : Array Slot), gX D (mcell g cI cS sa) mord g S s H locs → lv_has ls 2 [(0, .ref (g k0)), (1, .int x1)] → r2 k0 x1 S = some o → W p l e (rmd 0) s m args below meth c H locs 0 0 (gE below args s D (mtys cI cS) (mcell g cI cS sa) mord g none o.2) (F0 m 2 ls [])) (hk_k0 : mI k0 = true) (X : gX D (mcell g cI cS sa) mord g S s H locs) (hl : lv_has ls 2 [(0, .ref (g k0)), (1, .int x1)]) (hF : fX12_takeHalf_b2 N r2 k0 x1 S = some o) : W p l e (rmd 0) s m args below meth c H locs 0 0 (gE below args s D (mtys cI cS) (mcell g cI cS sa) mord g none o.2) (F0 m 2 ls []) := by
  unfold fX12_takeHalf_b2 at hF
  refine lv_iload_n C.1.1 C.1.2.1 dX12_takeHalf_2 rfl (lv_at hl 1 rfl) ?_
  refine lv_aload_n C.1.1 C.1.2.1 dX12_takeHalf_3 rfl (lv_at hl 0 rfl) ?_
  refine m_lv C X (k := k0) hk_k0 (x := Int32.ofNat (mN k0)) rfl dX12_takeHalf_4 ?_
  refine lv_iconst (v := 2) C.1.1 C.1.2.1 dX12_takeHalf_5 (by decide) ?_
  refine lv_idiv C.1.1 C.1.2.1 dX12_takeHalf_6 (by decide) ?_
  refine lv_icmp_ge (tgt := 27) C.1.1 C.1.2.1 dX12_takeHalf_7 (by decide) (fun h_z => ?_) (fun h_z => ?_)
  · rw [if_pos h_z] at hF
    exact bX12_takeHalf_27 C O X (lv_sub hl [] rfl) hF
  · rw [if_neg h_z] at hF
    exact bX12_takeHalf_10 C O K2 hk_k0 X (lv_sub hl [0, 1] rfl) hF
noncomputable def fX12_takeHalf_h2 (N : Nat) : Nat → Nat → Int32 → gS → Option (Int32 × gS)
  | 0, _, _, _ => none
  | n + 1, k0, x1, S => fX12_takeHalf_b2 N (fX12_takeHalf_h2 N n) k0 x1 S
theorem hX12_takeHalf_2 {N : Nat} {o : Int32 × gS} (C : gC p s m args meth c cX12_takeHalf 2 RX12 none D (mtys cI cS) mord g Am) (O : gO (mcell g cI cS sa) mord g) : ∀ (n : Nat) (k0 : Nat) (x1 : Int32) (hk_k0 : mI k0 = true) (S : gS) (H : Heap) (locs : List Loc) (ls : Array Slot), gX D (mcell g cI cS sa) mord g S s H locs → lv_has ls 2 [(0, .ref (g k0)), (1, .int x1)] → fX12_takeHalf_h2 N n k0 x1 S = some o → W p l e (rmd 0) s m args below meth c H locs 0 0 (gE below args s D (mtys cI cS) (mcell g cI cS sa) mord g none o.2) (F0 m 2 ls []) := by
  intro n
  induction n with
  | zero =>
    intro k0 x1 hk_k0 S H locs ls X hl hF
    exact absurd (show (none : Option (Int32 × gS)) = some o from hF) (by simp)
  | succ n ih =>
    intro k0 x1 hk_k0 S H locs ls X hl hF
    have hF : fX12_takeHalf_b2 N (fX12_takeHalf_h2 N n) k0 x1 S = some o := hF
    exact bX12_takeHalf_2 C O ih hk_k0 X hl hF
noncomputable def fX12_takeHalf_b0 (N : Nat) (k0 : Nat) (S : gS) : Option (Int32 × gS) := fX12_takeHalf_h2 N N k0 0 S
theorem bX12_takeHalf_0 {N : Nat} {k0 : Nat} {S : gS} {H : Heap} {locs : List Loc} {ls : Array Slot} {o : Int32 × gS} (C : gC p s m args meth c cX12_takeHalf 2 RX12 none D (mtys cI cS) mord g Am) (O : gO (mcell g cI cS sa) mord g) (hk_k0 : mI k0 = true) (X : gX D (mcell g cI cS sa) mord g S s H locs) (hl : lv_has ls 2 [(0, .ref (g k0))]) (hF : fX12_takeHalf_b0 N k0 S = some o) : W p l e (rmd 0) s m args below meth c H locs 0 0 (gE below args s D (mtys cI cS) (mcell g cI cS sa) mord g none o.2) (F0 m 0 ls []) := by
  unfold fX12_takeHalf_b0 at hF
  refine lv_iconst (v := 0) C.1.1 C.1.2.1 dX12_takeHalf_0 (by decide) ?_
  refine lv_istore_n (lv' := [(1, .int 0), (0, .ref (g k0))]) C.1.1 C.1.2.1 dX12_takeHalf_1 rfl hl (by decide) rfl (fun ls hl => ?_)
  exact hX12_takeHalf_2 C O N _ _ hk_k0 _ _ _ _ X (lv_sub hl [1, 0] rfl) hF
noncomputable def fX12_takeHalf (N : Nat) (k0 : Nat) (S : gS) : Option (Int32 × gS) := fX12_takeHalf_b0 N k0 S
theorem kX12_takeHalf {l : Launch} {D : va_G} {g : Nat → Nat} {cI cS : ClassId} {sa : Nat → Nat → Option Nat} {Am : (Nat → Prop) → State → Heap → Prop} (O : gO (mcell g cI cS sa) mord g) (P : gAm Am) (N : Nat) (k0 : Nat) (hk_k0 : mI k0 = true) (S : gS) (o : Int32 × gS) (hF : fX12_takeHalf N k0 S = some o) : gM l yX12_takeHalf cX12_takeHalf 2 none 0 D (mtys cI cS) (mcell g cI cS sa) mord g Am [.ref (g k0)] S none o.2 :=
  gM_of O P (by decide) (Nat.le_of_ble_eq_true rfl) (fun p e s m args below meth c ls C X hl => bX12_takeHalf_0 C O hk_k0 X (lv_sub hl [0] rfl) hF)
-- takeOver
noncomputable def fX12_takeOver_b211 (N : Nat) (S : gS) : Option (Int32 × gS) := lt (sU S 99 39 0) fun S1 => (lt (sU S1 99 40 0) fun S2 => (lt (sU S2 99 57 0) fun S3 => (some (0, S3))))
theorem bX12_takeOver_211 {N : Nat} {S : gS} {H : Heap} {locs : List Loc} {ls : Array Slot} {o : Int32 × gS} (C : gC p s m args meth c cX12_takeOver 3 RX12 none D (mtys cI cS) mord g Am) (O : gO (mcell g cI cS sa) mord g) (X : gX D (mcell g cI cS sa) mord g S s H locs) (hl : lv_has ls 3 [(0, .ref (g 99))]) (hF : fX12_takeOver_b211 N S = some o) : W p l e (rmd 1) s m args below meth c H locs 0 0 (gE below args s D (mtys cI cS) (mcell g cI cS sa) mord g none o.2) (F0 m 211 ls []) := by
  unfold fX12_takeOver_b211 at hF
  refine lv_aload_n C.1.1 C.1.2.1 dX12_takeOver_211 rfl (lv_at hl 0 rfl) ?_
  refine lv_iconst (v := 0) C.1.1 C.1.2.1 dX12_takeOver_212 (by decide) ?_
  obtain ⟨S1, eS1, hF⟩ := lt_some hF
  refine m_p39 C O X eS1 dX12_takeOver_213 (fun H locs X => ?_)
  refine lv_aload_n C.1.1 C.1.2.1 dX12_takeOver_216 rfl (lv_at hl 0 rfl) ?_
  refine lv_iconst (v := 0) C.1.1 C.1.2.1 dX12_takeOver_217 (by decide) ?_
  obtain ⟨S2, eS2, hF⟩ := lt_some hF
  refine m_p40 C O X eS2 dX12_takeOver_218 (fun H locs X => ?_)
  refine lv_aload_n C.1.1 C.1.2.1 dX12_takeOver_221 rfl (lv_at hl 0 rfl) ?_
  refine lv_iconst (v := 0) C.1.1 C.1.2.1 dX12_takeOver_222 (by decide) ?_
  obtain ⟨S3, eS3, hF⟩ := lt_some hF
  refine m_p57 C O X (by decide) eS3 dX12_takeOver_223 (fun H locs X => ?_)
  cases hF
  exact g_vret C X dX12_takeOver_226
noncomputable def fX12_takeOver_b204 (N : Nat) (r96 : Int32 → gS → Option (Int32 × gS)) (x1 : Int32) (t1 : Int32) (t2 : Int32) (S : gS) : Option (Int32 × gS) := chk (inb t1 (6)) (lt (sU S 35 (Int32.toNatClampNeg t1) t2) fun S1 => (r96 ((x1 + 1 : Int32)) S1))
theorem bX12_takeOver_204 {N : Nat} {r96 : Int32 → gS → Option (Int32 × gS)} {x1 : Int32} {t1 : Int32} {t2 : Int32} {S : gS} {H : Heap} {locs : List Loc} {ls : Array Slot} {o : Int32 × gS} (C : gC p s m args meth c cX12_takeOver 3 RX12 none D (mtys cI cS) mord g Am) (O : gO (mcell g cI cS sa) mord g) (K96 : ∀ (x1 : Int32) (S : gS) (H : Heap) (locs : List Loc) (ls : Array Slot), gX D (mcell g cI cS sa) mord g S s H locs → lv_has ls 3 [(0, .ref (g 99)), (1, .int x1)] → r96 x1 S = some o → W p l e (rmd 1) s m args below meth c H locs 0 0 (gE below args s D (mtys cI cS) (mcell g cI cS sa) mord g none o.2) (F0 m 96 ls [])) (X : gX D (mcell g cI cS sa) mord g S s H locs) (hl : lv_has ls 3 [(0, .ref (g 99)), (1, .int x1)]) (hF : fX12_takeOver_b204 N r96 x1 t1 t2 S = some o) : W p l e (rmd 1) s m args below meth c H locs 0 0 (gE below args s D (mtys cI cS) (mcell g cI cS sa) mord g none o.2) (F0 m 204 ls [.int t2, .int t1, .ref (g 35)]) := by
  unfold fX12_takeOver_b204 at hF
  obtain ⟨h_1, hF⟩ := chk_some hF
  obtain ⟨S1, eS1, hF⟩ := lt_some hF
  refine m_w35 C O X  (inb_vp h_1) rfl eS1 dX12_takeOver_204 (fun H locs X => ?_)
  refine lv_iinc (v := (x1 + 1 : Int32)) (lv' := [(1, .int ((x1 + 1 : Int32))), (0, .ref (g 99))]) C.1.1 C.1.2.1 dX12_takeOver_205 hl (k := 1) rfl rfl (by decide) rfl (fun ls hl => ?_)
  refine lv_goto (tgt := 96) C.1.1 C.1.2.1 dX12_takeOver_208 (by decide) ?_
  exact K96 _ _ _ _ _ X (lv_sub hl [1, 0] rfl) hF
noncomputable def fX12_takeOver_b203 (N : Nat) (r96 : Int32 → gS → Option (Int32 × gS)) (x1 : Int32) (t1 : Int32) (S : gS) : Option (Int32 × gS) := fX12_takeOver_b204 N r96 x1 t1 ((-1)) S
theorem bX12_takeOver_203 {N : Nat} {r96 : Int32 → gS → Option (Int32 × gS)} {x1 : Int32} {t1 : Int32} {S : gS} {H : Heap} {locs : List Loc} {ls : Array Slot} {o : Int32 × gS} (C : gC p s m args meth c cX12_takeOver 3 RX12 none D (mtys cI cS) mord g Am) (O : gO (mcell g cI cS sa) mord g) (K96 : ∀ (x1 : Int32) (S : gS) (H : Heap) (locs : List Loc) (ls : Array Slot), gX D (mcell g cI cS sa) mord g S s H locs → lv_has ls 3 [(0, .ref (g 99)), (1, .int x1)] → r96 x1 S = some o → W p l e (rmd 1) s m args below meth c H locs 0 0 (gE below args s D (mtys cI cS) (mcell g cI cS sa) mord g none o.2) (F0 m 96 ls [])) (X : gX D (mcell g cI cS sa) mord g S s H locs) (hl : lv_has ls 3 [(0, .ref (g 99)), (1, .int x1)]) (hF : fX12_takeOver_b203 N r96 x1 t1 S = some o) : W p l e (rmd 1) s m args below meth c H locs 0 0 (gE below args s D (mtys cI cS) (mcell g cI cS sa) mord g none o.2) (F0 m 203 ls [.int t1, .ref (g 35)]) := by
  unfold fX12_takeOver_b203 at hF
  refine lv_iconst (v := (-1)) C.1.1 C.1.2.1 dX12_takeOver_203 (by decide) ?_
  exact bX12_takeOver_204 C O K96 X (lv_sub hl [0, 1] rfl) hF
noncomputable def fX12_takeOver_b194 (N : Nat) (r96 : Int32 → gS → Option (Int32 × gS)) (x1 : Int32) (t1 : Int32) (S : gS) : Option (Int32 × gS) := chk (inb x1 (12)) (fX12_takeOver_b204 N r96 x1 t1 (S 13 (Int32.toNatClampNeg x1)) S)
theorem bX12_takeOver_194 {N : Nat} {r96 : Int32 → gS → Option (Int32 × gS)} {x1 : Int32} {t1 : Int32} {S : gS} {H : Heap} {locs : List Loc} {ls : Array Slot} {o : Int32 × gS} (C : gC p s m args meth c cX12_takeOver 3 RX12 none D (mtys cI cS) mord g Am) (O : gO (mcell g cI cS sa) mord g) (K96 : ∀ (x1 : Int32) (S : gS) (H : Heap) (locs : List Loc) (ls : Array Slot), gX D (mcell g cI cS sa) mord g S s H locs → lv_has ls 3 [(0, .ref (g 99)), (1, .int x1)] → r96 x1 S = some o → W p l e (rmd 1) s m args below meth c H locs 0 0 (gE below args s D (mtys cI cS) (mcell g cI cS sa) mord g none o.2) (F0 m 96 ls [])) (X : gX D (mcell g cI cS sa) mord g S s H locs) (hl : lv_has ls 3 [(0, .ref (g 99)), (1, .int x1)]) (hF : fX12_takeOver_b194 N r96 x1 t1 S = some o) : W p l e (rmd 1) s m args below meth c H locs 0 0 (gE below args s D (mtys cI cS) (mcell g cI cS sa) mord g none o.2) (F0 m 194 ls [.int t1, .ref (g 35)]) := by
  unfold fX12_takeOver_b194 at hF
  refine lv_aload_n C.1.1 C.1.2.1 dX12_takeOver_194 rfl (lv_at hl 0 rfl) ?_
  refine m_g13 C X dX12_takeOver_195 ?_
  refine lv_iload_n C.1.1 C.1.2.1 dX12_takeOver_198 rfl (lv_at hl 1 rfl) ?_
  obtain ⟨h_1, hF⟩ := chk_some hF
  refine m_r13 C X  (inb_vp h_1) rfl dX12_takeOver_199 ?_
  refine lv_goto (tgt := 204) C.1.1 C.1.2.1 dX12_takeOver_200 (by decide) ?_
  exact bX12_takeOver_204 C O K96 X (lv_sub hl [0, 1] rfl) hF
noncomputable def fX12_takeOver_b177 (N : Nat) (r96 : Int32 → gS → Option (Int32 × gS)) (x1 : Int32) (x2 : Int32) (t1 : Int32) (t2 : Int32) (S : gS) : Option (Int32 × gS) := chk (inb t1 (6)) (lt (sU S 33 (Int32.toNatClampNeg t1) t2) fun S1 => (chk (inb x1 (6)) (lt (sU S1 34 (Int32.toNatClampNeg x1) 0) fun S2 => (if x2 = 0 then fX12_takeOver_b203 N r96 x1 x1 S2 else fX12_takeOver_b194 N r96 x1 x1 S2))))
theorem bX12_takeOver_177 {N : Nat} {r96 : Int32 → gS → Option (Int32 × gS)} {x1 : Int32} {x2 : Int32} {t1 : Int32} {t2 : Int32} {S : gS} {H : Heap} {locs : List Loc} {ls : Array Slot} {o : Int32 × gS} (C : gC p s m args meth c cX12_takeOver 3 RX12 none D (mtys cI cS) mord g Am) (O : gO (mcell g cI cS sa) mord g) (K96 : ∀ (x1 : Int32) (S : gS) (H : Heap) (locs : List Loc) (ls : Array Slot), gX D (mcell g cI cS sa) mord g S s H locs → lv_has ls 3 [(0, .ref (g 99)), (1, .int x1)] → r96 x1 S = some o → W p l e (rmd 1) s m args below meth c H locs 0 0 (gE below args s D (mtys cI cS) (mcell g cI cS sa) mord g none o.2) (F0 m 96 ls [])) (X : gX D (mcell g cI cS sa) mord g S s H locs) (hl : lv_has ls 3 [(0, .ref (g 99)), (1, .int x1), (2, .int x2)]) (hF : fX12_takeOver_b177 N r96 x1 x2 t1 t2 S = some o) : W p l e (rmd 1) s m args below meth c H locs 0 0 (gE below args s D (mtys cI cS) (mcell g cI cS sa) mord g none o.2) (F0 m 177 ls [.int t2, .int t1, .ref (g 33)]) := by
  unfold fX12_takeOver_b177 at hF
  obtain ⟨h_1, hF⟩ := chk_some hF
  obtain ⟨S1, eS1, hF⟩ := lt_some hF
  refine m_w33 C O X  (inb_vp h_1) rfl eS1 dX12_takeOver_177 (fun H locs X => ?_)
  refine lv_aload_n C.1.1 C.1.2.1 dX12_takeOver_178 rfl (lv_at hl 0 rfl) ?_
  refine m_g34 C X dX12_takeOver_179 ?_
  refine lv_iload_n C.1.1 C.1.2.1 dX12_takeOver_182 rfl (lv_at hl 1 rfl) ?_
  refine lv_iconst (v := 0) C.1.1 C.1.2.1 dX12_takeOver_183 (by decide) ?_
  obtain ⟨h_2, hF⟩ := chk_some hF
  obtain ⟨S2, eS2, hF⟩ := lt_some hF
  refine m_w34 C O X  (inb_vp h_2) rfl eS2 dX12_takeOver_184 (fun H locs X => ?_)
  refine lv_aload_n C.1.1 C.1.2.1 dX12_takeOver_185 rfl (lv_at hl 0 rfl) ?_
  refine m_g35 C X dX12_takeOver_186 ?_
  refine lv_iload_n C.1.1 C.1.2.1 dX12_takeOver_189 rfl (lv_at hl 1 rfl) ?_
  refine lv_iload_n C.1.1 C.1.2.1 dX12_takeOver_190 rfl (lv_at hl 2 rfl) ?_
  refine lv_if_eq (tgt := 203) C.1.1 C.1.2.1 dX12_takeOver_191 (by decide) (fun h_z => ?_) (fun h_z => ?_)
  · rw [if_pos h_z] at hF
    exact bX12_takeOver_203 C O K96 X (lv_sub hl [0, 1] rfl) hF
  · rw [if_neg h_z] at hF
    exact bX12_takeOver_194 C O K96 X (lv_sub hl [0, 1] rfl) hF
noncomputable def fX12_takeOver_b176 (N : Nat) (r96 : Int32 → gS → Option (Int32 × gS)) (x1 : Int32) (x2 : Int32) (t1 : Int32) (S : gS) : Option (Int32 × gS) := fX12_takeOver_b177 N r96 x1 x2 t1 0 S
theorem bX12_takeOver_176 {N : Nat} {r96 : Int32 → gS → Option (Int32 × gS)} {x1 : Int32} {x2 : Int32} {t1 : Int32} {S : gS} {H : Heap} {locs : List Loc} {ls : Array Slot} {o : Int32 × gS} (C : gC p s m args meth c cX12_takeOver 3 RX12 none D (mtys cI cS) mord g Am) (O : gO (mcell g cI cS sa) mord g) (K96 : ∀ (x1 : Int32) (S : gS) (H : Heap) (locs : List Loc) (ls : Array Slot), gX D (mcell g cI cS sa) mord g S s H locs → lv_has ls 3 [(0, .ref (g 99)), (1, .int x1)] → r96 x1 S = some o → W p l e (rmd 1) s m args below meth c H locs 0 0 (gE below args s D (mtys cI cS) (mcell g cI cS sa) mord g none o.2) (F0 m 96 ls [])) (X : gX D (mcell g cI cS sa) mord g S s H locs) (hl : lv_has ls 3 [(0, .ref (g 99)), (1, .int x1), (2, .int x2)]) (hF : fX12_takeOver_b176 N r96 x1 x2 t1 S = some o) : W p l e (rmd 1) s m args below meth c H locs 0 0 (gE below args s D (mtys cI cS) (mcell g cI cS sa) mord g none o.2) (F0 m 176 ls [.int t1, .ref (g 33)]) := by
  unfold fX12_takeOver_b176 at hF
  refine lv_iconst (v := 0) C.1.1 C.1.2.1 dX12_takeOver_176 (by decide) ?_
  exact bX12_takeOver_177 C O K96 X (lv_sub hl [0, 1, 2] rfl) hF
noncomputable def fX12_takeOver_b167 (N : Nat) (r96 : Int32 → gS → Option (Int32 × gS)) (x1 : Int32) (x2 : Int32) (t1 : Int32) (S : gS) : Option (Int32 × gS) := chk (inb x1 (12)) (fX12_takeOver_b177 N r96 x1 x2 t1 (S 12 (Int32.toNatClampNeg x1)) S)
theorem bX12_takeOver_167 {N : Nat} {r96 : Int32 → gS → Option (Int32 × gS)} {x1 : Int32} {x2 : Int32} {t1 : Int32} {S : gS} {H : Heap} {locs : List Loc} {ls : Array Slot} {o : Int32 × gS} (C : gC p s m args meth c cX12_takeOver 3 RX12 none D (mtys cI cS) mord g Am) (O : gO (mcell g cI cS sa) mord g) (K96 : ∀ (x1 : Int32) (S : gS) (H : Heap) (locs : List Loc) (ls : Array Slot), gX D (mcell g cI cS sa) mord g S s H locs → lv_has ls 3 [(0, .ref (g 99)), (1, .int x1)] → r96 x1 S = some o → W p l e (rmd 1) s m args below meth c H locs 0 0 (gE below args s D (mtys cI cS) (mcell g cI cS sa) mord g none o.2) (F0 m 96 ls [])) (X : gX D (mcell g cI cS sa) mord g S s H locs) (hl : lv_has ls 3 [(0, .ref (g 99)), (1, .int x1), (2, .int x2)]) (hF : fX12_takeOver_b167 N r96 x1 x2 t1 S = some o) : W p l e (rmd 1) s m args below meth c H locs 0 0 (gE below args s D (mtys cI cS) (mcell g cI cS sa) mord g none o.2) (F0 m 167 ls [.int t1, .ref (g 33)]) := by
  unfold fX12_takeOver_b167 at hF
  refine lv_aload_n C.1.1 C.1.2.1 dX12_takeOver_167 rfl (lv_at hl 0 rfl) ?_
  refine m_g12 C X dX12_takeOver_168 ?_
  refine lv_iload_n C.1.1 C.1.2.1 dX12_takeOver_171 rfl (lv_at hl 1 rfl) ?_
  obtain ⟨h_1, hF⟩ := chk_some hF
  refine m_r12 C X  (inb_vp h_1) rfl dX12_takeOver_172 ?_
  refine lv_goto (tgt := 177) C.1.1 C.1.2.1 dX12_takeOver_173 (by decide) ?_
  exact bX12_takeOver_177 C O K96 X (lv_sub hl [0, 1, 2] rfl) hF
noncomputable def fX12_takeOver_b157 (N : Nat) (r96 : Int32 → gS → Option (Int32 × gS)) (x1 : Int32) (x2 : Int32) (t1 : Int32) (t2 : Int32) (S : gS) : Option (Int32 × gS) := chk (inb t1 (6)) (lt (sU S 32 (Int32.toNatClampNeg t1) t2) fun S1 => (if x2 = 0 then fX12_takeOver_b176 N r96 x1 x2 x1 S1 else fX12_takeOver_b167 N r96 x1 x2 x1 S1))
theorem bX12_takeOver_157 {N : Nat} {r96 : Int32 → gS → Option (Int32 × gS)} {x1 : Int32} {x2 : Int32} {t1 : Int32} {t2 : Int32} {S : gS} {H : Heap} {locs : List Loc} {ls : Array Slot} {o : Int32 × gS} (C : gC p s m args meth c cX12_takeOver 3 RX12 none D (mtys cI cS) mord g Am) (O : gO (mcell g cI cS sa) mord g) (K96 : ∀ (x1 : Int32) (S : gS) (H : Heap) (locs : List Loc) (ls : Array Slot), gX D (mcell g cI cS sa) mord g S s H locs → lv_has ls 3 [(0, .ref (g 99)), (1, .int x1)] → r96 x1 S = some o → W p l e (rmd 1) s m args below meth c H locs 0 0 (gE below args s D (mtys cI cS) (mcell g cI cS sa) mord g none o.2) (F0 m 96 ls [])) (X : gX D (mcell g cI cS sa) mord g S s H locs) (hl : lv_has ls 3 [(0, .ref (g 99)), (1, .int x1), (2, .int x2)]) (hF : fX12_takeOver_b157 N r96 x1 x2 t1 t2 S = some o) : W p l e (rmd 1) s m args below meth c H locs 0 0 (gE below args s D (mtys cI cS) (mcell g cI cS sa) mord g none o.2) (F0 m 157 ls [.int t2, .int t1, .ref (g 32)]) := by
  unfold fX12_takeOver_b157 at hF
  obtain ⟨h_1, hF⟩ := chk_some hF
  obtain ⟨S1, eS1, hF⟩ := lt_some hF
  refine m_w32 C O X  (inb_vp h_1) rfl eS1 dX12_takeOver_157 (fun H locs X => ?_)
  refine lv_aload_n C.1.1 C.1.2.1 dX12_takeOver_158 rfl (lv_at hl 0 rfl) ?_
  refine m_g33 C X dX12_takeOver_159 ?_
  refine lv_iload_n C.1.1 C.1.2.1 dX12_takeOver_162 rfl (lv_at hl 1 rfl) ?_
  refine lv_iload_n C.1.1 C.1.2.1 dX12_takeOver_163 rfl (lv_at hl 2 rfl) ?_
  refine lv_if_eq (tgt := 176) C.1.1 C.1.2.1 dX12_takeOver_164 (by decide) (fun h_z => ?_) (fun h_z => ?_)
  · rw [if_pos h_z] at hF
    exact bX12_takeOver_176 C O K96 X (lv_sub hl [0, 1, 2] rfl) hF
  · rw [if_neg h_z] at hF
    exact bX12_takeOver_167 C O K96 X (lv_sub hl [0, 1, 2] rfl) hF
noncomputable def fX12_takeOver_b156 (N : Nat) (r96 : Int32 → gS → Option (Int32 × gS)) (x1 : Int32) (x2 : Int32) (t1 : Int32) (S : gS) : Option (Int32 × gS) := fX12_takeOver_b157 N r96 x1 x2 t1 0 S
theorem bX12_takeOver_156 {N : Nat} {r96 : Int32 → gS → Option (Int32 × gS)} {x1 : Int32} {x2 : Int32} {t1 : Int32} {S : gS} {H : Heap} {locs : List Loc} {ls : Array Slot} {o : Int32 × gS} (C : gC p s m args meth c cX12_takeOver 3 RX12 none D (mtys cI cS) mord g Am) (O : gO (mcell g cI cS sa) mord g) (K96 : ∀ (x1 : Int32) (S : gS) (H : Heap) (locs : List Loc) (ls : Array Slot), gX D (mcell g cI cS sa) mord g S s H locs → lv_has ls 3 [(0, .ref (g 99)), (1, .int x1)] → r96 x1 S = some o → W p l e (rmd 1) s m args below meth c H locs 0 0 (gE below args s D (mtys cI cS) (mcell g cI cS sa) mord g none o.2) (F0 m 96 ls [])) (X : gX D (mcell g cI cS sa) mord g S s H locs) (hl : lv_has ls 3 [(0, .ref (g 99)), (1, .int x1), (2, .int x2)]) (hF : fX12_takeOver_b156 N r96 x1 x2 t1 S = some o) : W p l e (rmd 1) s m args below meth c H locs 0 0 (gE below args s D (mtys cI cS) (mcell g cI cS sa) mord g none o.2) (F0 m 156 ls [.int t1, .ref (g 32)]) := by
  unfold fX12_takeOver_b156 at hF
  refine lv_iconst (v := 0) C.1.1 C.1.2.1 dX12_takeOver_156 (by decide) ?_
  exact bX12_takeOver_157 C O K96 X (lv_sub hl [0, 1, 2] rfl) hF
noncomputable def fX12_takeOver_b147 (N : Nat) (r96 : Int32 → gS → Option (Int32 × gS)) (x1 : Int32) (x2 : Int32) (t1 : Int32) (S : gS) : Option (Int32 × gS) := chk (inb x1 (12)) (fX12_takeOver_b157 N r96 x1 x2 t1 (S 11 (Int32.toNatClampNeg x1)) S)
theorem bX12_takeOver_147 {N : Nat} {r96 : Int32 → gS → Option (Int32 × gS)} {x1 : Int32} {x2 : Int32} {t1 : Int32} {S : gS} {H : Heap} {locs : List Loc} {ls : Array Slot} {o : Int32 × gS} (C : gC p s m args meth c cX12_takeOver 3 RX12 none D (mtys cI cS) mord g Am) (O : gO (mcell g cI cS sa) mord g) (K96 : ∀ (x1 : Int32) (S : gS) (H : Heap) (locs : List Loc) (ls : Array Slot), gX D (mcell g cI cS sa) mord g S s H locs → lv_has ls 3 [(0, .ref (g 99)), (1, .int x1)] → r96 x1 S = some o → W p l e (rmd 1) s m args below meth c H locs 0 0 (gE below args s D (mtys cI cS) (mcell g cI cS sa) mord g none o.2) (F0 m 96 ls [])) (X : gX D (mcell g cI cS sa) mord g S s H locs) (hl : lv_has ls 3 [(0, .ref (g 99)), (1, .int x1), (2, .int x2)]) (hF : fX12_takeOver_b147 N r96 x1 x2 t1 S = some o) : W p l e (rmd 1) s m args below meth c H locs 0 0 (gE below args s D (mtys cI cS) (mcell g cI cS sa) mord g none o.2) (F0 m 147 ls [.int t1, .ref (g 32)]) := by
  unfold fX12_takeOver_b147 at hF
  refine lv_aload_n C.1.1 C.1.2.1 dX12_takeOver_147 rfl (lv_at hl 0 rfl) ?_
  refine m_g11 C X dX12_takeOver_148 ?_
  refine lv_iload_n C.1.1 C.1.2.1 dX12_takeOver_151 rfl (lv_at hl 1 rfl) ?_
  obtain ⟨h_1, hF⟩ := chk_some hF
  refine m_r11 C X  (inb_vp h_1) rfl dX12_takeOver_152 ?_
  refine lv_goto (tgt := 157) C.1.1 C.1.2.1 dX12_takeOver_153 (by decide) ?_
  exact bX12_takeOver_157 C O K96 X (lv_sub hl [0, 1, 2] rfl) hF
noncomputable def fX12_takeOver_b137 (N : Nat) (r96 : Int32 → gS → Option (Int32 × gS)) (x1 : Int32) (x2 : Int32) (t1 : Int32) (t2 : Int32) (S : gS) : Option (Int32 × gS) := chk (inb t1 (6)) (lt (sU S 18 (Int32.toNatClampNeg t1) t2) fun S1 => (if x2 = 0 then fX12_takeOver_b156 N r96 x1 x2 x1 S1 else fX12_takeOver_b147 N r96 x1 x2 x1 S1))
theorem bX12_takeOver_137 {N : Nat} {r96 : Int32 → gS → Option (Int32 × gS)} {x1 : Int32} {x2 : Int32} {t1 : Int32} {t2 : Int32} {S : gS} {H : Heap} {locs : List Loc} {ls : Array Slot} {o : Int32 × gS} (C : gC p s m args meth c cX12_takeOver 3 RX12 none D (mtys cI cS) mord g Am) (O : gO (mcell g cI cS sa) mord g) (K96 : ∀ (x1 : Int32) (S : gS) (H : Heap) (locs : List Loc) (ls : Array Slot), gX D (mcell g cI cS sa) mord g S s H locs → lv_has ls 3 [(0, .ref (g 99)), (1, .int x1)] → r96 x1 S = some o → W p l e (rmd 1) s m args below meth c H locs 0 0 (gE below args s D (mtys cI cS) (mcell g cI cS sa) mord g none o.2) (F0 m 96 ls [])) (X : gX D (mcell g cI cS sa) mord g S s H locs) (hl : lv_has ls 3 [(0, .ref (g 99)), (1, .int x1), (2, .int x2)]) (hF : fX12_takeOver_b137 N r96 x1 x2 t1 t2 S = some o) : W p l e (rmd 1) s m args below meth c H locs 0 0 (gE below args s D (mtys cI cS) (mcell g cI cS sa) mord g none o.2) (F0 m 137 ls [.int t2, .int t1, .ref (g 18)]) := by
  unfold fX12_takeOver_b137 at hF
  obtain ⟨h_1, hF⟩ := chk_some hF
  obtain ⟨S1, eS1, hF⟩ := lt_some hF
  refine m_w18 C O X  (inb_vp h_1) rfl eS1 dX12_takeOver_137 (fun H locs X => ?_)
  refine lv_aload_n C.1.1 C.1.2.1 dX12_takeOver_138 rfl (lv_at hl 0 rfl) ?_
  refine m_g32 C X dX12_takeOver_139 ?_
  refine lv_iload_n C.1.1 C.1.2.1 dX12_takeOver_142 rfl (lv_at hl 1 rfl) ?_
  refine lv_iload_n C.1.1 C.1.2.1 dX12_takeOver_143 rfl (lv_at hl 2 rfl) ?_
  refine lv_if_eq (tgt := 156) C.1.1 C.1.2.1 dX12_takeOver_144 (by decide) (fun h_z => ?_) (fun h_z => ?_)
  · rw [if_pos h_z] at hF
    exact bX12_takeOver_156 C O K96 X (lv_sub hl [0, 1, 2] rfl) hF
  · rw [if_neg h_z] at hF
    exact bX12_takeOver_147 C O K96 X (lv_sub hl [0, 1, 2] rfl) hF
noncomputable def fX12_takeOver_b136 (N : Nat) (r96 : Int32 → gS → Option (Int32 × gS)) (x1 : Int32) (x2 : Int32) (t1 : Int32) (S : gS) : Option (Int32 × gS) := fX12_takeOver_b137 N r96 x1 x2 t1 0 S
theorem bX12_takeOver_136 {N : Nat} {r96 : Int32 → gS → Option (Int32 × gS)} {x1 : Int32} {x2 : Int32} {t1 : Int32} {S : gS} {H : Heap} {locs : List Loc} {ls : Array Slot} {o : Int32 × gS} (C : gC p s m args meth c cX12_takeOver 3 RX12 none D (mtys cI cS) mord g Am) (O : gO (mcell g cI cS sa) mord g) (K96 : ∀ (x1 : Int32) (S : gS) (H : Heap) (locs : List Loc) (ls : Array Slot), gX D (mcell g cI cS sa) mord g S s H locs → lv_has ls 3 [(0, .ref (g 99)), (1, .int x1)] → r96 x1 S = some o → W p l e (rmd 1) s m args below meth c H locs 0 0 (gE below args s D (mtys cI cS) (mcell g cI cS sa) mord g none o.2) (F0 m 96 ls [])) (X : gX D (mcell g cI cS sa) mord g S s H locs) (hl : lv_has ls 3 [(0, .ref (g 99)), (1, .int x1), (2, .int x2)]) (hF : fX12_takeOver_b136 N r96 x1 x2 t1 S = some o) : W p l e (rmd 1) s m args below meth c H locs 0 0 (gE below args s D (mtys cI cS) (mcell g cI cS sa) mord g none o.2) (F0 m 136 ls [.int t1, .ref (g 18)]) := by
  unfold fX12_takeOver_b136 at hF
  refine lv_iconst (v := 0) C.1.1 C.1.2.1 dX12_takeOver_136 (by decide) ?_
  exact bX12_takeOver_137 C O K96 X (lv_sub hl [0, 1, 2] rfl) hF
noncomputable def fX12_takeOver_b127 (N : Nat) (r96 : Int32 → gS → Option (Int32 × gS)) (x1 : Int32) (x2 : Int32) (t1 : Int32) (S : gS) : Option (Int32 × gS) := chk (inb x1 (12)) (fX12_takeOver_b137 N r96 x1 x2 t1 (S 10 (Int32.toNatClampNeg x1)) S)
theorem bX12_takeOver_127 {N : Nat} {r96 : Int32 → gS → Option (Int32 × gS)} {x1 : Int32} {x2 : Int32} {t1 : Int32} {S : gS} {H : Heap} {locs : List Loc} {ls : Array Slot} {o : Int32 × gS} (C : gC p s m args meth c cX12_takeOver 3 RX12 none D (mtys cI cS) mord g Am) (O : gO (mcell g cI cS sa) mord g) (K96 : ∀ (x1 : Int32) (S : gS) (H : Heap) (locs : List Loc) (ls : Array Slot), gX D (mcell g cI cS sa) mord g S s H locs → lv_has ls 3 [(0, .ref (g 99)), (1, .int x1)] → r96 x1 S = some o → W p l e (rmd 1) s m args below meth c H locs 0 0 (gE below args s D (mtys cI cS) (mcell g cI cS sa) mord g none o.2) (F0 m 96 ls [])) (X : gX D (mcell g cI cS sa) mord g S s H locs) (hl : lv_has ls 3 [(0, .ref (g 99)), (1, .int x1), (2, .int x2)]) (hF : fX12_takeOver_b127 N r96 x1 x2 t1 S = some o) : W p l e (rmd 1) s m args below meth c H locs 0 0 (gE below args s D (mtys cI cS) (mcell g cI cS sa) mord g none o.2) (F0 m 127 ls [.int t1, .ref (g 18)]) := by
  unfold fX12_takeOver_b127 at hF
  refine lv_aload_n C.1.1 C.1.2.1 dX12_takeOver_127 rfl (lv_at hl 0 rfl) ?_
  refine m_g10 C X dX12_takeOver_128 ?_
  refine lv_iload_n C.1.1 C.1.2.1 dX12_takeOver_131 rfl (lv_at hl 1 rfl) ?_
  obtain ⟨h_1, hF⟩ := chk_some hF
  refine m_r10 C X  (inb_vp h_1) rfl dX12_takeOver_132 ?_
  refine lv_goto (tgt := 137) C.1.1 C.1.2.1 dX12_takeOver_133 (by decide) ?_
  exact bX12_takeOver_137 C O K96 X (lv_sub hl [0, 1, 2] rfl) hF
noncomputable def fX12_takeOver_b117 (N : Nat) (r96 : Int32 → gS → Option (Int32 × gS)) (x1 : Int32) (t0 : Int32) (S : gS) : Option (Int32 × gS) := if t0 = 0 then fX12_takeOver_b136 N r96 x1 t0 x1 S else fX12_takeOver_b127 N r96 x1 t0 x1 S
theorem bX12_takeOver_117 {N : Nat} {r96 : Int32 → gS → Option (Int32 × gS)} {x1 : Int32} {t0 : Int32} {S : gS} {H : Heap} {locs : List Loc} {ls : Array Slot} {o : Int32 × gS} (C : gC p s m args meth c cX12_takeOver 3 RX12 none D (mtys cI cS) mord g Am) (O : gO (mcell g cI cS sa) mord g) (K96 : ∀ (x1 : Int32) (S : gS) (H : Heap) (locs : List Loc) (ls : Array Slot), gX D (mcell g cI cS sa) mord g S s H locs → lv_has ls 3 [(0, .ref (g 99)), (1, .int x1)] → r96 x1 S = some o → W p l e (rmd 1) s m args below meth c H locs 0 0 (gE below args s D (mtys cI cS) (mcell g cI cS sa) mord g none o.2) (F0 m 96 ls [])) (X : gX D (mcell g cI cS sa) mord g S s H locs) (hl : lv_has ls 3 [(0, .ref (g 99)), (1, .int x1)]) (hF : fX12_takeOver_b117 N r96 x1 t0 S = some o) : W p l e (rmd 1) s m args below meth c H locs 0 0 (gE below args s D (mtys cI cS) (mcell g cI cS sa) mord g none o.2) (F0 m 117 ls [.int t0]) := by
  unfold fX12_takeOver_b117 at hF
  refine lv_istore_n (lv' := [(2, .int t0), (0, .ref (g 99)), (1, .int x1)]) C.1.1 C.1.2.1 dX12_takeOver_117 rfl hl (by decide) rfl (fun ls hl => ?_)
  refine lv_aload_n C.1.1 C.1.2.1 dX12_takeOver_118 rfl (lv_at hl 1 rfl) ?_
  refine m_g18 C X dX12_takeOver_119 ?_
  refine lv_iload_n C.1.1 C.1.2.1 dX12_takeOver_122 rfl (lv_at hl 2 rfl) ?_
  refine lv_iload_n C.1.1 C.1.2.1 dX12_takeOver_123 rfl (lv_at hl 0 rfl) ?_
  refine lv_if_eq (tgt := 136) C.1.1 C.1.2.1 dX12_takeOver_124 (by decide) (fun h_z => ?_) (fun h_z => ?_)
  · rw [if_pos h_z] at hF
    exact bX12_takeOver_136 C O K96 X (lv_sub hl [1, 2, 0] rfl) hF
  · rw [if_neg h_z] at hF
    exact bX12_takeOver_127 C O K96 X (lv_sub hl [1, 2, 0] rfl) hF
noncomputable def fX12_takeOver_b116 (N : Nat) (r96 : Int32 → gS → Option (Int32 × gS)) (x1 : Int32) (S : gS) : Option (Int32 × gS) := fX12_takeOver_b117 N r96 x1 0 S
theorem bX12_takeOver_116 {N : Nat} {r96 : Int32 → gS → Option (Int32 × gS)} {x1 : Int32} {S : gS} {H : Heap} {locs : List Loc} {ls : Array Slot} {o : Int32 × gS} (C : gC p s m args meth c cX12_takeOver 3 RX12 none D (mtys cI cS) mord g Am) (O : gO (mcell g cI cS sa) mord g) (K96 : ∀ (x1 : Int32) (S : gS) (H : Heap) (locs : List Loc) (ls : Array Slot), gX D (mcell g cI cS sa) mord g S s H locs → lv_has ls 3 [(0, .ref (g 99)), (1, .int x1)] → r96 x1 S = some o → W p l e (rmd 1) s m args below meth c H locs 0 0 (gE below args s D (mtys cI cS) (mcell g cI cS sa) mord g none o.2) (F0 m 96 ls [])) (X : gX D (mcell g cI cS sa) mord g S s H locs) (hl : lv_has ls 3 [(0, .ref (g 99)), (1, .int x1)]) (hF : fX12_takeOver_b116 N r96 x1 S = some o) : W p l e (rmd 1) s m args below meth c H locs 0 0 (gE below args s D (mtys cI cS) (mcell g cI cS sa) mord g none o.2) (F0 m 116 ls []) := by
  unfold fX12_takeOver_b116 at hF
  refine lv_iconst (v := 0) C.1.1 C.1.2.1 dX12_takeOver_116 (by decide) ?_
  exact bX12_takeOver_117 C O K96 X (lv_sub hl [0, 1] rfl) hF
noncomputable def fX12_takeOver_b112 (N : Nat) (r96 : Int32 → gS → Option (Int32 × gS)) (x1 : Int32) (S : gS) : Option (Int32 × gS) := fX12_takeOver_b117 N r96 x1 1 S
theorem bX12_takeOver_112 {N : Nat} {r96 : Int32 → gS → Option (Int32 × gS)} {x1 : Int32} {S : gS} {H : Heap} {locs : List Loc} {ls : Array Slot} {o : Int32 × gS} (C : gC p s m args meth c cX12_takeOver 3 RX12 none D (mtys cI cS) mord g Am) (O : gO (mcell g cI cS sa) mord g) (K96 : ∀ (x1 : Int32) (S : gS) (H : Heap) (locs : List Loc) (ls : Array Slot), gX D (mcell g cI cS sa) mord g S s H locs → lv_has ls 3 [(0, .ref (g 99)), (1, .int x1)] → r96 x1 S = some o → W p l e (rmd 1) s m args below meth c H locs 0 0 (gE below args s D (mtys cI cS) (mcell g cI cS sa) mord g none o.2) (F0 m 96 ls [])) (X : gX D (mcell g cI cS sa) mord g S s H locs) (hl : lv_has ls 3 [(0, .ref (g 99)), (1, .int x1)]) (hF : fX12_takeOver_b112 N r96 x1 S = some o) : W p l e (rmd 1) s m args below meth c H locs 0 0 (gE below args s D (mtys cI cS) (mcell g cI cS sa) mord g none o.2) (F0 m 112 ls []) := by
  unfold fX12_takeOver_b112 at hF
  refine lv_iconst (v := 1) C.1.1 C.1.2.1 dX12_takeOver_112 (by decide) ?_
  refine lv_goto (tgt := 117) C.1.1 C.1.2.1 dX12_takeOver_113 (by decide) ?_
  exact bX12_takeOver_117 C O K96 X (lv_sub hl [0, 1] rfl) hF
noncomputable def fX12_takeOver_b102 (N : Nat) (r96 : Int32 → gS → Option (Int32 × gS)) (x1 : Int32) (S : gS) : Option (Int32 × gS) := if (S 5 1) ≤ x1 then fX12_takeOver_b116 N r96 x1 S else fX12_takeOver_b112 N r96 x1 S
theorem bX12_takeOver_102 {N : Nat} {r96 : Int32 → gS → Option (Int32 × gS)} {x1 : Int32} {S : gS} {H : Heap} {locs : List Loc} {ls : Array Slot} {o : Int32 × gS} (C : gC p s m args meth c cX12_takeOver 3 RX12 none D (mtys cI cS) mord g Am) (O : gO (mcell g cI cS sa) mord g) (K96 : ∀ (x1 : Int32) (S : gS) (H : Heap) (locs : List Loc) (ls : Array Slot), gX D (mcell g cI cS sa) mord g S s H locs → lv_has ls 3 [(0, .ref (g 99)), (1, .int x1)] → r96 x1 S = some o → W p l e (rmd 1) s m args below meth c H locs 0 0 (gE below args s D (mtys cI cS) (mcell g cI cS sa) mord g none o.2) (F0 m 96 ls [])) (X : gX D (mcell g cI cS sa) mord g S s H locs) (hl : lv_has ls 3 [(0, .ref (g 99)), (1, .int x1)]) (hF : fX12_takeOver_b102 N r96 x1 S = some o) : W p l e (rmd 1) s m args below meth c H locs 0 0 (gE below args s D (mtys cI cS) (mcell g cI cS sa) mord g none o.2) (F0 m 102 ls []) := by
  unfold fX12_takeOver_b102 at hF
  refine lv_iload_n C.1.1 C.1.2.1 dX12_takeOver_102 rfl (lv_at hl 1 rfl) ?_
  refine lv_aload_n C.1.1 C.1.2.1 dX12_takeOver_103 rfl (lv_at hl 0 rfl) ?_
  refine m_g5 C X dX12_takeOver_104 ?_
  refine lv_iconst (v := 1) C.1.1 C.1.2.1 dX12_takeOver_107 (by decide) ?_
  refine m_r5 C X (j := 1) (inb_vp (by decide)) (by decide) dX12_takeOver_108 ?_
  refine lv_icmp_ge (tgt := 116) C.1.1 C.1.2.1 dX12_takeOver_109 (by decide) (fun h_z => ?_) (fun h_z => ?_)
  · rw [if_pos h_z] at hF
    exact bX12_takeOver_116 C O K96 X (lv_sub hl [0, 1] rfl) hF
  · rw [if_neg h_z] at hF
    exact bX12_takeOver_112 C O K96 X (lv_sub hl [0, 1] rfl) hF
noncomputable def fX12_takeOver_b96 (N : Nat) (r96 : Int32 → gS → Option (Int32 × gS)) (x1 : Int32) (S : gS) : Option (Int32 × gS) := if 6 ≤ x1 then fX12_takeOver_b211 N S else fX12_takeOver_b102 N r96 x1 S
theorem bX12_takeOver_96 {N : Nat} {r96 : Int32 → gS → Option (Int32 × gS)} {x1 : Int32} {S : gS} {H : Heap} {locs : List Loc} {ls : Array Slot} {o : Int32 × gS} (C : gC p s m args meth c cX12_takeOver 3 RX12 none D (mtys cI cS) mord g Am) (O : gO (mcell g cI cS sa) mord g) (K96 : ∀ (x1 : Int32) (S : gS) (H : Heap) (locs : List Loc) (ls : Array Slot), gX D (mcell g cI cS sa) mord g S s H locs → lv_has ls 3 [(0, .ref (g 99)), (1, .int x1)] → r96 x1 S = some o → W p l e (rmd 1) s m args below meth c H locs 0 0 (gE below args s D (mtys cI cS) (mcell g cI cS sa) mord g none o.2) (F0 m 96 ls [])) (X : gX D (mcell g cI cS sa) mord g S s H locs) (hl : lv_has ls 3 [(0, .ref (g 99)), (1, .int x1)]) (hF : fX12_takeOver_b96 N r96 x1 S = some o) : W p l e (rmd 1) s m args below meth c H locs 0 0 (gE below args s D (mtys cI cS) (mcell g cI cS sa) mord g none o.2) (F0 m 96 ls []) := by
  unfold fX12_takeOver_b96 at hF
  refine lv_iload_n C.1.1 C.1.2.1 dX12_takeOver_96 rfl (lv_at hl 1 rfl) ?_
  refine lv_bipush (v := 6) C.1.1 C.1.2.1 dX12_takeOver_97 (by decide) ?_
  refine lv_icmp_ge (tgt := 211) C.1.1 C.1.2.1 dX12_takeOver_99 (by decide) (fun h_z => ?_) (fun h_z => ?_)
  · rw [if_pos h_z] at hF
    exact bX12_takeOver_211 C O X (lv_sub hl [0] rfl) hF
  · rw [if_neg h_z] at hF
    exact bX12_takeOver_102 C O K96 X (lv_sub hl [0, 1] rfl) hF
noncomputable def fX12_takeOver_h96 (N : Nat) : Nat → Int32 → gS → Option (Int32 × gS)
  | 0, _, _ => none
  | n + 1, x1, S => fX12_takeOver_b96 N (fX12_takeOver_h96 N n) x1 S
theorem hX12_takeOver_96 {N : Nat} {o : Int32 × gS} (C : gC p s m args meth c cX12_takeOver 3 RX12 none D (mtys cI cS) mord g Am) (O : gO (mcell g cI cS sa) mord g) : ∀ (n : Nat) (x1 : Int32) (S : gS) (H : Heap) (locs : List Loc) (ls : Array Slot), gX D (mcell g cI cS sa) mord g S s H locs → lv_has ls 3 [(0, .ref (g 99)), (1, .int x1)] → fX12_takeOver_h96 N n x1 S = some o → W p l e (rmd 1) s m args below meth c H locs 0 0 (gE below args s D (mtys cI cS) (mcell g cI cS sa) mord g none o.2) (F0 m 96 ls []) := by
  intro n
  induction n with
  | zero =>
    intro x1 S H locs ls X hl hF
    exact absurd (show (none : Option (Int32 × gS)) = some o from hF) (by simp)
  | succ n ih =>
    intro x1 S H locs ls X hl hF
    have hF : fX12_takeOver_b96 N (fX12_takeOver_h96 N n) x1 S = some o := hF
    exact bX12_takeOver_96 C O ih X hl hF
noncomputable def fX12_takeOver_b0 (N : Nat) (S : gS) : Option (Int32 × gS) := bnd (fX12_takeHalf N 5 S) fun q1 => (bnd (fX12_takeHalf N 6 q1.2) fun q2 => (bnd (fX12_takeHalf N 7 q2.2) fun q3 => (bnd (fX12_takeHalf N 8 q3.2) fun q4 => (bnd (fX12_takeHalf N 9 q4.2) fun q5 => (bnd (fX12_takeHalf N 10 q5.2) fun q6 => (bnd (fX12_takeHalf N 11 q6.2) fun q7 => (bnd (fX12_takeHalf N 12 q7.2) fun q8 => (bnd (fX12_takeHalf N 13 q8.2) fun q9 => (bnd (fX12_takeHalf N 14 q9.2) fun q10 => (bnd (fX12_takeHalf N 15 q10.2) fun q11 => (bnd (fX12_takeHalf N 16 q11.2) fun q12 => (lt (sU q12.2 99 37 0) fun S13 => (lt (sU S13 99 38 0) fun S14 => (fX12_takeOver_h96 N N 0 S14))))))))))))))
theorem bX12_takeOver_0 {N : Nat} {S : gS} {H : Heap} {locs : List Loc} {ls : Array Slot} {o : Int32 × gS} (C : gC p s m args meth c cX12_takeOver 3 RX12 none D (mtys cI cS) mord g Am) (O : gO (mcell g cI cS sa) mord g) (X : gX D (mcell g cI cS sa) mord g S s H locs) (hl : lv_has ls 3 [(0, .ref (g 99))]) (hF : fX12_takeOver_b0 N S = some o) : W p l e (rmd 1) s m args below meth c H locs 0 0 (gE below args s D (mtys cI cS) (mcell g cI cS sa) mord g none o.2) (F0 m 0 ls []) := by
  unfold fX12_takeOver_b0 at hF
  refine lv_aload_n C.1.1 C.1.2.1 dX12_takeOver_0 rfl (lv_at hl 0 rfl) ?_
  refine m_g5 C X dX12_takeOver_1 ?_
  obtain ⟨q1, hq1, hF⟩ := bnd_some hF
  refine g_callS C X vX12_takeHalf (kX12_takeHalf O C.2.2.2.2.1 N 5 (rfl : mI 5 = true) S q1 hq1) (Nat.le_of_ble_eq_true rfl) (Nat.le_of_ble_eq_true rfl) (Nat.le_of_ble_eq_true rfl) (Nat.le_of_ble_eq_true rfl) rfl hl.1 rfl (Nat.le_of_ble_eq_true rfl) dX12_takeOver_4 (fun H locs X => ?_)
  refine lv_aload_n C.1.1 C.1.2.1 dX12_takeOver_7 rfl (lv_at hl 0 rfl) ?_
  refine m_g6 C X dX12_takeOver_8 ?_
  obtain ⟨q2, hq2, hF⟩ := bnd_some hF
  refine g_callS C X vX12_takeHalf (kX12_takeHalf O C.2.2.2.2.1 N 6 (rfl : mI 6 = true) q1.2 q2 hq2) (Nat.le_of_ble_eq_true rfl) (Nat.le_of_ble_eq_true rfl) (Nat.le_of_ble_eq_true rfl) (Nat.le_of_ble_eq_true rfl) rfl hl.1 rfl (Nat.le_of_ble_eq_true rfl) dX12_takeOver_11 (fun H locs X => ?_)
  refine lv_aload_n C.1.1 C.1.2.1 dX12_takeOver_14 rfl (lv_at hl 0 rfl) ?_
  refine m_g7 C X dX12_takeOver_15 ?_
  obtain ⟨q3, hq3, hF⟩ := bnd_some hF
  refine g_callS C X vX12_takeHalf (kX12_takeHalf O C.2.2.2.2.1 N 7 (rfl : mI 7 = true) q2.2 q3 hq3) (Nat.le_of_ble_eq_true rfl) (Nat.le_of_ble_eq_true rfl) (Nat.le_of_ble_eq_true rfl) (Nat.le_of_ble_eq_true rfl) rfl hl.1 rfl (Nat.le_of_ble_eq_true rfl) dX12_takeOver_18 (fun H locs X => ?_)
  refine lv_aload_n C.1.1 C.1.2.1 dX12_takeOver_21 rfl (lv_at hl 0 rfl) ?_
  refine m_g8 C X dX12_takeOver_22 ?_
  obtain ⟨q4, hq4, hF⟩ := bnd_some hF
  refine g_callS C X vX12_takeHalf (kX12_takeHalf O C.2.2.2.2.1 N 8 (rfl : mI 8 = true) q3.2 q4 hq4) (Nat.le_of_ble_eq_true rfl) (Nat.le_of_ble_eq_true rfl) (Nat.le_of_ble_eq_true rfl) (Nat.le_of_ble_eq_true rfl) rfl hl.1 rfl (Nat.le_of_ble_eq_true rfl) dX12_takeOver_25 (fun H locs X => ?_)
  refine lv_aload_n C.1.1 C.1.2.1 dX12_takeOver_28 rfl (lv_at hl 0 rfl) ?_
  refine m_g9 C X dX12_takeOver_29 ?_
  obtain ⟨q5, hq5, hF⟩ := bnd_some hF
  refine g_callS C X vX12_takeHalf (kX12_takeHalf O C.2.2.2.2.1 N 9 (rfl : mI 9 = true) q4.2 q5 hq5) (Nat.le_of_ble_eq_true rfl) (Nat.le_of_ble_eq_true rfl) (Nat.le_of_ble_eq_true rfl) (Nat.le_of_ble_eq_true rfl) rfl hl.1 rfl (Nat.le_of_ble_eq_true rfl) dX12_takeOver_32 (fun H locs X => ?_)
  refine lv_aload_n C.1.1 C.1.2.1 dX12_takeOver_35 rfl (lv_at hl 0 rfl) ?_
  refine m_g10 C X dX12_takeOver_36 ?_
  obtain ⟨q6, hq6, hF⟩ := bnd_some hF
  refine g_callS C X vX12_takeHalf (kX12_takeHalf O C.2.2.2.2.1 N 10 (rfl : mI 10 = true) q5.2 q6 hq6) (Nat.le_of_ble_eq_true rfl) (Nat.le_of_ble_eq_true rfl) (Nat.le_of_ble_eq_true rfl) (Nat.le_of_ble_eq_true rfl) rfl hl.1 rfl (Nat.le_of_ble_eq_true rfl) dX12_takeOver_39 (fun H locs X => ?_)
  refine lv_aload_n C.1.1 C.1.2.1 dX12_takeOver_42 rfl (lv_at hl 0 rfl) ?_
  refine m_g11 C X dX12_takeOver_43 ?_
  obtain ⟨q7, hq7, hF⟩ := bnd_some hF
  refine g_callS C X vX12_takeHalf (kX12_takeHalf O C.2.2.2.2.1 N 11 (rfl : mI 11 = true) q6.2 q7 hq7) (Nat.le_of_ble_eq_true rfl) (Nat.le_of_ble_eq_true rfl) (Nat.le_of_ble_eq_true rfl) (Nat.le_of_ble_eq_true rfl) rfl hl.1 rfl (Nat.le_of_ble_eq_true rfl) dX12_takeOver_46 (fun H locs X => ?_)
  refine lv_aload_n C.1.1 C.1.2.1 dX12_takeOver_49 rfl (lv_at hl 0 rfl) ?_
  refine m_g12 C X dX12_takeOver_50 ?_
  obtain ⟨q8, hq8, hF⟩ := bnd_some hF
  refine g_callS C X vX12_takeHalf (kX12_takeHalf O C.2.2.2.2.1 N 12 (rfl : mI 12 = true) q7.2 q8 hq8) (Nat.le_of_ble_eq_true rfl) (Nat.le_of_ble_eq_true rfl) (Nat.le_of_ble_eq_true rfl) (Nat.le_of_ble_eq_true rfl) rfl hl.1 rfl (Nat.le_of_ble_eq_true rfl) dX12_takeOver_53 (fun H locs X => ?_)
  refine lv_aload_n C.1.1 C.1.2.1 dX12_takeOver_56 rfl (lv_at hl 0 rfl) ?_
  refine m_g13 C X dX12_takeOver_57 ?_
  obtain ⟨q9, hq9, hF⟩ := bnd_some hF
  refine g_callS C X vX12_takeHalf (kX12_takeHalf O C.2.2.2.2.1 N 13 (rfl : mI 13 = true) q8.2 q9 hq9) (Nat.le_of_ble_eq_true rfl) (Nat.le_of_ble_eq_true rfl) (Nat.le_of_ble_eq_true rfl) (Nat.le_of_ble_eq_true rfl) rfl hl.1 rfl (Nat.le_of_ble_eq_true rfl) dX12_takeOver_60 (fun H locs X => ?_)
  refine lv_aload_n C.1.1 C.1.2.1 dX12_takeOver_63 rfl (lv_at hl 0 rfl) ?_
  refine m_g14 C X dX12_takeOver_64 ?_
  obtain ⟨q10, hq10, hF⟩ := bnd_some hF
  refine g_callS C X vX12_takeHalf (kX12_takeHalf O C.2.2.2.2.1 N 14 (rfl : mI 14 = true) q9.2 q10 hq10) (Nat.le_of_ble_eq_true rfl) (Nat.le_of_ble_eq_true rfl) (Nat.le_of_ble_eq_true rfl) (Nat.le_of_ble_eq_true rfl) rfl hl.1 rfl (Nat.le_of_ble_eq_true rfl) dX12_takeOver_67 (fun H locs X => ?_)
  refine lv_aload_n C.1.1 C.1.2.1 dX12_takeOver_70 rfl (lv_at hl 0 rfl) ?_
  refine m_g15 C X dX12_takeOver_71 ?_
  obtain ⟨q11, hq11, hF⟩ := bnd_some hF
  refine g_callS C X vX12_takeHalf (kX12_takeHalf O C.2.2.2.2.1 N 15 (rfl : mI 15 = true) q10.2 q11 hq11) (Nat.le_of_ble_eq_true rfl) (Nat.le_of_ble_eq_true rfl) (Nat.le_of_ble_eq_true rfl) (Nat.le_of_ble_eq_true rfl) rfl hl.1 rfl (Nat.le_of_ble_eq_true rfl) dX12_takeOver_74 (fun H locs X => ?_)
  refine lv_aload_n C.1.1 C.1.2.1 dX12_takeOver_77 rfl (lv_at hl 0 rfl) ?_
  refine m_g16 C X dX12_takeOver_78 ?_
  obtain ⟨q12, hq12, hF⟩ := bnd_some hF
  refine g_callS C X vX12_takeHalf (kX12_takeHalf O C.2.2.2.2.1 N 16 (rfl : mI 16 = true) q11.2 q12 hq12) (Nat.le_of_ble_eq_true rfl) (Nat.le_of_ble_eq_true rfl) (Nat.le_of_ble_eq_true rfl) (Nat.le_of_ble_eq_true rfl) rfl hl.1 rfl (Nat.le_of_ble_eq_true rfl) dX12_takeOver_81 (fun H locs X => ?_)
  refine lv_aload_n C.1.1 C.1.2.1 dX12_takeOver_84 rfl (lv_at hl 0 rfl) ?_
  refine lv_iconst (v := 0) C.1.1 C.1.2.1 dX12_takeOver_85 (by decide) ?_
  obtain ⟨S13, eS13, hF⟩ := lt_some hF
  refine m_p37 C O X eS13 dX12_takeOver_86 (fun H locs X => ?_)
  refine lv_aload_n C.1.1 C.1.2.1 dX12_takeOver_89 rfl (lv_at hl 0 rfl) ?_
  refine lv_iconst (v := 0) C.1.1 C.1.2.1 dX12_takeOver_90 (by decide) ?_
  obtain ⟨S14, eS14, hF⟩ := lt_some hF
  refine m_p38 C O X eS14 dX12_takeOver_91 (fun H locs X => ?_)
  refine lv_iconst (v := 0) C.1.1 C.1.2.1 dX12_takeOver_94 (by decide) ?_
  refine lv_istore_n (lv' := [(1, .int 0), (0, .ref (g 99))]) C.1.1 C.1.2.1 dX12_takeOver_95 rfl hl (by decide) rfl (fun ls hl => ?_)
  exact hX12_takeOver_96 C O N _ _ _ _ _ X (lv_sub hl [1, 0] rfl) hF
noncomputable def fX12_takeOver (N : Nat) (S : gS) : Option (Int32 × gS) := fX12_takeOver_b0 N S
theorem kX12_takeOver {l : Launch} {D : va_G} {g : Nat → Nat} {cI cS : ClassId} {sa : Nat → Nat → Option Nat} {Am : (Nat → Prop) → State → Heap → Prop} (O : gO (mcell g cI cS sa) mord g) (P : gAm Am) (N : Nat) (S : gS) (o : Int32 × gS) (hF : fX12_takeOver N S = some o) : gM l yX12_takeOver cX12_takeOver 3 none 1 D (mtys cI cS) (mcell g cI cS sa) mord g Am [.ref (g 99)] S none o.2 :=
  gM_of O P (by decide) (Nat.le_of_ble_eq_true rfl) (fun p e s m args below meth c ls C X hl => bX12_takeOver_0 C O X (lv_sub hl [0] rfl) hF)
-- fault
noncomputable def fX12_fault_b0 (N : Nat) (S : gS) : Option (Int32 × gS) := lt (sU S 99 4 0) fun S1 => (some (S1 99 29, S1))
theorem bX12_fault_0 {N : Nat} {S : gS} {H : Heap} {locs : List Loc} {ls : Array Slot} {o : Int32 × gS} (C : gC p s m args meth c cX12_fault 1 RX12 ((some .int)) D (mtys cI cS) mord g Am) (O : gO (mcell g cI cS sa) mord g) (X : gX D (mcell g cI cS sa) mord g S s H locs) (hl : lv_has ls 1 [(0, .ref (g 99))]) (hF : fX12_fault_b0 N S = some o) : W p l e (rmd 0) s m args below meth c H locs 0 0 (gE below args s D (mtys cI cS) (mcell g cI cS sa) mord g (some (.int o.1)) o.2) (F0 m 0 ls []) := by
  unfold fX12_fault_b0 at hF
  refine lv_aload_n C.1.1 C.1.2.1 dX12_fault_0 rfl (lv_at hl 0 rfl) ?_
  refine lv_iconst (v := 0) C.1.1 C.1.2.1 dX12_fault_1 (by decide) ?_
  obtain ⟨S1, eS1, hF⟩ := lt_some hF
  refine m_p4 C O X eS1 dX12_fault_2 (fun H locs X => ?_)
  refine lv_aload_n C.1.1 C.1.2.1 dX12_fault_5 rfl (lv_at hl 0 rfl) ?_
  refine m_g29 C X dX12_fault_6 ?_
  cases hF
  exact g_iret C X dX12_fault_9
noncomputable def fX12_fault (N : Nat) (S : gS) : Option (Int32 × gS) := fX12_fault_b0 N S
theorem kX12_fault {l : Launch} {D : va_G} {g : Nat → Nat} {cI cS : ClassId} {sa : Nat → Nat → Option Nat} {Am : (Nat → Prop) → State → Heap → Prop} (O : gO (mcell g cI cS sa) mord g) (P : gAm Am) (N : Nat) (S : gS) (o : Int32 × gS) (hF : fX12_fault N S = some o) : gM l yX12_fault cX12_fault 1 ((some .int)) 0 D (mtys cI cS) (mcell g cI cS sa) mord g Am [.ref (g 99)] S (some (.int o.1)) o.2 :=
  gM_of O P (by decide) (Nat.le_of_ble_eq_true rfl) (fun p e s m args below meth c ls C X hl => bX12_fault_0 C O X (lv_sub hl [0] rfl) hF)
-- pack
noncomputable def fX12_pack_b91 (N : Nat) (S : gS) : Option (Int32 × gS) := some (0, S)
theorem bX12_pack_91 {N : Nat} {S : gS} {H : Heap} {locs : List Loc} {ls : Array Slot} {o : Int32 × gS} (C : gC p s m args meth c cX12_pack 4 RX12 none D (mtys cI cS) mord g Am) (O : gO (mcell g cI cS sa) mord g) (X : gX D (mcell g cI cS sa) mord g S s H locs) (hl : lv_has ls 4 []) (hF : fX12_pack_b91 N S = some o) : W p l e (rmd 0) s m args below meth c H locs 0 0 (gE below args s D (mtys cI cS) (mcell g cI cS sa) mord g none o.2) (F0 m 91 ls []) := by
  unfold fX12_pack_b91 at hF
  cases hF
  exact g_vret C X dX12_pack_91
noncomputable def fX12_pack_b24 (N : Nat) (r18 : Nat → Int32 → Int32 → gS → Option (Int32 × gS)) (k1 : Nat) (x2 : Int32) (x3 : Int32) (S : gS) : Option (Int32 × gS) := chk (inb x3 (6)) (chk (inb ((((x2 + 2 : Int32)) + x3 : Int32)) (mN k1)) (lt (sU S k1 (Int32.toNatClampNeg ((((x2 + 2 : Int32)) + x3 : Int32))) (S 32 (Int32.toNatClampNeg x3))) fun S1 => (chk (inb x3 (6)) (chk (inb ((((((x2 + 2 : Int32)) + 6 : Int32)) + x3 : Int32)) (mN k1)) (lt (sU S1 k1 (Int32.toNatClampNeg ((((((x2 + 2 : Int32)) + 6 : Int32)) + x3 : Int32))) (S1 33 (Int32.toNatClampNeg x3))) fun S2 => (chk (inb x3 (6)) (chk (inb ((((((x2 + 2 : Int32)) + 12 : Int32)) + x3 : Int32)) (mN k1)) (lt (sU S2 k1 (Int32.toNatClampNeg ((((((x2 + 2 : Int32)) + 12 : Int32)) + x3 : Int32))) (S2 34 (Int32.toNatClampNeg x3))) fun S3 => (chk (inb x3 (6)) (chk (inb ((((((x2 + 2 : Int32)) + 18 : Int32)) + x3 : Int32)) (mN k1)) (lt (sU S3 k1 (Int32.toNatClampNeg ((((((x2 + 2 : Int32)) + 18 : Int32)) + x3 : Int32))) (S3 35 (Int32.toNatClampNeg x3))) fun S4 => (r18 k1 x2 ((x3 + 1 : Int32)) S4))))))))))))
theorem bX12_pack_24 {N : Nat} {r18 : Nat → Int32 → Int32 → gS → Option (Int32 × gS)} {k1 : Nat} {x2 : Int32} {x3 : Int32} {S : gS} {H : Heap} {locs : List Loc} {ls : Array Slot} {o : Int32 × gS} (C : gC p s m args meth c cX12_pack 4 RX12 none D (mtys cI cS) mord g Am) (O : gO (mcell g cI cS sa) mord g) (K18 : ∀ (k1 : Nat) (x2 : Int32) (x3 : Int32) (hk_k1 : mI k1 = true) (S : gS) (H : Heap) (locs : List Loc) (ls : Array Slot), gX D (mcell g cI cS sa) mord g S s H locs → lv_has ls 4 [(0, .ref (g 99)), (1, .ref (g k1)), (2, .int x2), (3, .int x3)] → r18 k1 x2 x3 S = some o → W p l e (rmd 0) s m args below meth c H locs 0 0 (gE below args s D (mtys cI cS) (mcell g cI cS sa) mord g none o.2) (F0 m 18 ls [])) (hk_k1 : mI k1 = true) (X : gX D (mcell g cI cS sa) mord g S s H locs) (hl : lv_has ls 4 [(0, .ref (g 99)), (1, .ref (g k1)), (2, .int x2), (3, .int x3)]) (hF : fX12_pack_b24 N r18 k1 x2 x3 S = some o) : W p l e (rmd 0) s m args below meth c H locs 0 0 (gE below args s D (mtys cI cS) (mcell g cI cS sa) mord g none o.2) (F0 m 24 ls []) := by
  unfold fX12_pack_b24 at hF
  refine lv_aload_n C.1.1 C.1.2.1 dX12_pack_24 rfl (lv_at hl 1 rfl) ?_
  refine lv_iload_n C.1.1 C.1.2.1 dX12_pack_25 rfl (lv_at hl 2 rfl) ?_
  refine lv_iconst (v := 2) C.1.1 C.1.2.1 dX12_pack_26 (by decide) ?_
  refine lv_iadd C.1.1 C.1.2.1 dX12_pack_27 ?_
  refine lv_iload_n C.1.1 C.1.2.1 dX12_pack_28 rfl (lv_at hl 3 rfl) ?_
  refine lv_iadd C.1.1 C.1.2.1 dX12_pack_29 ?_
  refine lv_aload_n C.1.1 C.1.2.1 dX12_pack_30 rfl (lv_at hl 0 rfl) ?_
  refine m_g32 C X dX12_pack_31 ?_
  refine lv_iload_n C.1.1 C.1.2.1 dX12_pack_34 rfl (lv_at hl 3 rfl) ?_
  obtain ⟨h_1, hF⟩ := chk_some hF
  refine m_r32 C X  (inb_vp h_1) rfl dX12_pack_35 ?_
  obtain ⟨h_2, hF⟩ := chk_some hF
  obtain ⟨S1, eS1, hF⟩ := lt_some hF
  refine m_wv C O X (k := k1) hk_k1  (inb_vp h_2) rfl eS1 dX12_pack_36 (fun H locs X => ?_)
  refine lv_aload_n C.1.1 C.1.2.1 dX12_pack_37 rfl (lv_at hl 1 rfl) ?_
  refine lv_iload_n C.1.1 C.1.2.1 dX12_pack_38 rfl (lv_at hl 2 rfl) ?_
  refine lv_iconst (v := 2) C.1.1 C.1.2.1 dX12_pack_39 (by decide) ?_
  refine lv_iadd C.1.1 C.1.2.1 dX12_pack_40 ?_
  refine lv_bipush (v := 6) C.1.1 C.1.2.1 dX12_pack_41 (by decide) ?_
  refine lv_iadd C.1.1 C.1.2.1 dX12_pack_43 ?_
  refine lv_iload_n C.1.1 C.1.2.1 dX12_pack_44 rfl (lv_at hl 3 rfl) ?_
  refine lv_iadd C.1.1 C.1.2.1 dX12_pack_45 ?_
  refine lv_aload_n C.1.1 C.1.2.1 dX12_pack_46 rfl (lv_at hl 0 rfl) ?_
  refine m_g33 C X dX12_pack_47 ?_
  refine lv_iload_n C.1.1 C.1.2.1 dX12_pack_50 rfl (lv_at hl 3 rfl) ?_
  obtain ⟨h_3, hF⟩ := chk_some hF
  refine m_r33 C X  (inb_vp h_3) rfl dX12_pack_51 ?_
  obtain ⟨h_4, hF⟩ := chk_some hF
  obtain ⟨S2, eS2, hF⟩ := lt_some hF
  refine m_wv C O X (k := k1) hk_k1  (inb_vp h_4) rfl eS2 dX12_pack_52 (fun H locs X => ?_)
  refine lv_aload_n C.1.1 C.1.2.1 dX12_pack_53 rfl (lv_at hl 1 rfl) ?_
  refine lv_iload_n C.1.1 C.1.2.1 dX12_pack_54 rfl (lv_at hl 2 rfl) ?_
  refine lv_iconst (v := 2) C.1.1 C.1.2.1 dX12_pack_55 (by decide) ?_
  refine lv_iadd C.1.1 C.1.2.1 dX12_pack_56 ?_
  refine lv_bipush (v := 12) C.1.1 C.1.2.1 dX12_pack_57 (by decide) ?_
  refine lv_iadd C.1.1 C.1.2.1 dX12_pack_59 ?_
  refine lv_iload_n C.1.1 C.1.2.1 dX12_pack_60 rfl (lv_at hl 3 rfl) ?_
  refine lv_iadd C.1.1 C.1.2.1 dX12_pack_61 ?_
  refine lv_aload_n C.1.1 C.1.2.1 dX12_pack_62 rfl (lv_at hl 0 rfl) ?_
  refine m_g34 C X dX12_pack_63 ?_
  refine lv_iload_n C.1.1 C.1.2.1 dX12_pack_66 rfl (lv_at hl 3 rfl) ?_
  obtain ⟨h_5, hF⟩ := chk_some hF
  refine m_r34 C X  (inb_vp h_5) rfl dX12_pack_67 ?_
  obtain ⟨h_6, hF⟩ := chk_some hF
  obtain ⟨S3, eS3, hF⟩ := lt_some hF
  refine m_wv C O X (k := k1) hk_k1  (inb_vp h_6) rfl eS3 dX12_pack_68 (fun H locs X => ?_)
  refine lv_aload_n C.1.1 C.1.2.1 dX12_pack_69 rfl (lv_at hl 1 rfl) ?_
  refine lv_iload_n C.1.1 C.1.2.1 dX12_pack_70 rfl (lv_at hl 2 rfl) ?_
  refine lv_iconst (v := 2) C.1.1 C.1.2.1 dX12_pack_71 (by decide) ?_
  refine lv_iadd C.1.1 C.1.2.1 dX12_pack_72 ?_
  refine lv_bipush (v := 18) C.1.1 C.1.2.1 dX12_pack_73 (by decide) ?_
  refine lv_iadd C.1.1 C.1.2.1 dX12_pack_75 ?_
  refine lv_iload_n C.1.1 C.1.2.1 dX12_pack_76 rfl (lv_at hl 3 rfl) ?_
  refine lv_iadd C.1.1 C.1.2.1 dX12_pack_77 ?_
  refine lv_aload_n C.1.1 C.1.2.1 dX12_pack_78 rfl (lv_at hl 0 rfl) ?_
  refine m_g35 C X dX12_pack_79 ?_
  refine lv_iload_n C.1.1 C.1.2.1 dX12_pack_82 rfl (lv_at hl 3 rfl) ?_
  obtain ⟨h_7, hF⟩ := chk_some hF
  refine m_r35 C X  (inb_vp h_7) rfl dX12_pack_83 ?_
  obtain ⟨h_8, hF⟩ := chk_some hF
  obtain ⟨S4, eS4, hF⟩ := lt_some hF
  refine m_wv C O X (k := k1) hk_k1  (inb_vp h_8) rfl eS4 dX12_pack_84 (fun H locs X => ?_)
  refine lv_iinc (v := (x3 + 1 : Int32)) (lv' := [(3, .int ((x3 + 1 : Int32))), (0, .ref (g 99)), (1, .ref (g k1)), (2, .int x2)]) C.1.1 C.1.2.1 dX12_pack_85 hl (k := 3) rfl rfl (by decide) rfl (fun ls hl => ?_)
  refine lv_goto (tgt := 18) C.1.1 C.1.2.1 dX12_pack_88 (by decide) ?_
  exact K18 _ _ _ hk_k1 _ _ _ _ X (lv_sub hl [1, 2, 3, 0] rfl) hF
noncomputable def fX12_pack_b18 (N : Nat) (r18 : Nat → Int32 → Int32 → gS → Option (Int32 × gS)) (k1 : Nat) (x2 : Int32) (x3 : Int32) (S : gS) : Option (Int32 × gS) := if 6 ≤ x3 then fX12_pack_b91 N S else fX12_pack_b24 N r18 k1 x2 x3 S
theorem bX12_pack_18 {N : Nat} {r18 : Nat → Int32 → Int32 → gS → Option (Int32 × gS)} {k1 : Nat} {x2 : Int32} {x3 : Int32} {S : gS} {H : Heap} {locs : List Loc} {ls : Array Slot} {o : Int32 × gS} (C : gC p s m args meth c cX12_pack 4 RX12 none D (mtys cI cS) mord g Am) (O : gO (mcell g cI cS sa) mord g) (K18 : ∀ (k1 : Nat) (x2 : Int32) (x3 : Int32) (hk_k1 : mI k1 = true) (S : gS) (H : Heap) (locs : List Loc) (ls : Array Slot), gX D (mcell g cI cS sa) mord g S s H locs → lv_has ls 4 [(0, .ref (g 99)), (1, .ref (g k1)), (2, .int x2), (3, .int x3)] → r18 k1 x2 x3 S = some o → W p l e (rmd 0) s m args below meth c H locs 0 0 (gE below args s D (mtys cI cS) (mcell g cI cS sa) mord g none o.2) (F0 m 18 ls [])) (hk_k1 : mI k1 = true) (X : gX D (mcell g cI cS sa) mord g S s H locs) (hl : lv_has ls 4 [(0, .ref (g 99)), (1, .ref (g k1)), (2, .int x2), (3, .int x3)]) (hF : fX12_pack_b18 N r18 k1 x2 x3 S = some o) : W p l e (rmd 0) s m args below meth c H locs 0 0 (gE below args s D (mtys cI cS) (mcell g cI cS sa) mord g none o.2) (F0 m 18 ls []) := by
  unfold fX12_pack_b18 at hF
  refine lv_iload_n C.1.1 C.1.2.1 dX12_pack_18 rfl (lv_at hl 3 rfl) ?_
  refine lv_bipush (v := 6) C.1.1 C.1.2.1 dX12_pack_19 (by decide) ?_
  refine lv_icmp_ge (tgt := 91) C.1.1 C.1.2.1 dX12_pack_21 (by decide) (fun h_z => ?_) (fun h_z => ?_)
  · rw [if_pos h_z] at hF
    exact bX12_pack_91 C O X (lv_sub hl [] rfl) hF
  · rw [if_neg h_z] at hF
    exact bX12_pack_24 C O K18 hk_k1 X (lv_sub hl [0, 1, 2, 3] rfl) hF
noncomputable def fX12_pack_h18 (N : Nat) : Nat → Nat → Int32 → Int32 → gS → Option (Int32 × gS)
  | 0, _, _, _, _ => none
  | n + 1, k1, x2, x3, S => fX12_pack_b18 N (fX12_pack_h18 N n) k1 x2 x3 S
theorem hX12_pack_18 {N : Nat} {o : Int32 × gS} (C : gC p s m args meth c cX12_pack 4 RX12 none D (mtys cI cS) mord g Am) (O : gO (mcell g cI cS sa) mord g) : ∀ (n : Nat) (k1 : Nat) (x2 : Int32) (x3 : Int32) (hk_k1 : mI k1 = true) (S : gS) (H : Heap) (locs : List Loc) (ls : Array Slot), gX D (mcell g cI cS sa) mord g S s H locs → lv_has ls 4 [(0, .ref (g 99)), (1, .ref (g k1)), (2, .int x2), (3, .int x3)] → fX12_pack_h18 N n k1 x2 x3 S = some o → W p l e (rmd 0) s m args below meth c H locs 0 0 (gE below args s D (mtys cI cS) (mcell g cI cS sa) mord g none o.2) (F0 m 18 ls []) := by
  intro n
  induction n with
  | zero =>
    intro k1 x2 x3 hk_k1 S H locs ls X hl hF
    exact absurd (show (none : Option (Int32 × gS)) = some o from hF) (by simp)
  | succ n ih =>
    intro k1 x2 x3 hk_k1 S H locs ls X hl hF
    have hF : fX12_pack_b18 N (fX12_pack_h18 N n) k1 x2 x3 S = some o := hF
    exact bX12_pack_18 C O ih hk_k1 X hl hF
noncomputable def fX12_pack_b0 (N : Nat) (k1 : Nat) (x2 : Int32) (S : gS) : Option (Int32 × gS) := chk (inb x2 (mN k1)) (lt (sU S k1 (Int32.toNatClampNeg x2) (S 99 37)) fun S1 => (chk (inb ((x2 + 1 : Int32)) (mN k1)) (lt (sU S1 k1 (Int32.toNatClampNeg ((x2 + 1 : Int32))) (S1 99 38)) fun S2 => (fX12_pack_h18 N N k1 x2 0 S2))))
theorem bX12_pack_0 {N : Nat} {k1 : Nat} {x2 : Int32} {S : gS} {H : Heap} {locs : List Loc} {ls : Array Slot} {o : Int32 × gS} (C : gC p s m args meth c cX12_pack 4 RX12 none D (mtys cI cS) mord g Am) (O : gO (mcell g cI cS sa) mord g) (hk_k1 : mI k1 = true) (X : gX D (mcell g cI cS sa) mord g S s H locs) (hl : lv_has ls 4 [(0, .ref (g 99)), (1, .ref (g k1)), (2, .int x2)]) (hF : fX12_pack_b0 N k1 x2 S = some o) : W p l e (rmd 0) s m args below meth c H locs 0 0 (gE below args s D (mtys cI cS) (mcell g cI cS sa) mord g none o.2) (F0 m 0 ls []) := by
  unfold fX12_pack_b0 at hF
  refine lv_aload_n C.1.1 C.1.2.1 dX12_pack_0 rfl (lv_at hl 1 rfl) ?_
  refine lv_iload_n C.1.1 C.1.2.1 dX12_pack_1 rfl (lv_at hl 2 rfl) ?_
  refine lv_aload_n C.1.1 C.1.2.1 dX12_pack_2 rfl (lv_at hl 0 rfl) ?_
  refine m_g37 C X dX12_pack_3 ?_
  obtain ⟨h_1, hF⟩ := chk_some hF
  obtain ⟨S1, eS1, hF⟩ := lt_some hF
  refine m_wv C O X (k := k1) hk_k1  (inb_vp h_1) rfl eS1 dX12_pack_6 (fun H locs X => ?_)
  refine lv_aload_n C.1.1 C.1.2.1 dX12_pack_7 rfl (lv_at hl 1 rfl) ?_
  refine lv_iload_n C.1.1 C.1.2.1 dX12_pack_8 rfl (lv_at hl 2 rfl) ?_
  refine lv_iconst (v := 1) C.1.1 C.1.2.1 dX12_pack_9 (by decide) ?_
  refine lv_iadd C.1.1 C.1.2.1 dX12_pack_10 ?_
  refine lv_aload_n C.1.1 C.1.2.1 dX12_pack_11 rfl (lv_at hl 0 rfl) ?_
  refine m_g38 C X dX12_pack_12 ?_
  obtain ⟨h_2, hF⟩ := chk_some hF
  obtain ⟨S2, eS2, hF⟩ := lt_some hF
  refine m_wv C O X (k := k1) hk_k1  (inb_vp h_2) rfl eS2 dX12_pack_15 (fun H locs X => ?_)
  refine lv_iconst (v := 0) C.1.1 C.1.2.1 dX12_pack_16 (by decide) ?_
  refine lv_istore_n (lv' := [(3, .int 0), (0, .ref (g 99)), (1, .ref (g k1)), (2, .int x2)]) C.1.1 C.1.2.1 dX12_pack_17 rfl hl (by decide) rfl (fun ls hl => ?_)
  exact hX12_pack_18 C O N _ _ _ hk_k1 _ _ _ _ X (lv_sub hl [1, 2, 3, 0] rfl) hF
noncomputable def fX12_pack (N : Nat) (k1 : Nat) (x2 : Int32) (S : gS) : Option (Int32 × gS) := fX12_pack_b0 N k1 x2 S
theorem kX12_pack {l : Launch} {D : va_G} {g : Nat → Nat} {cI cS : ClassId} {sa : Nat → Nat → Option Nat} {Am : (Nat → Prop) → State → Heap → Prop} (O : gO (mcell g cI cS sa) mord g) (P : gAm Am) (N : Nat) (k1 : Nat) (x2 : Int32) (hk_k1 : mI k1 = true) (S : gS) (o : Int32 × gS) (hF : fX12_pack N k1 x2 S = some o) : gM l yX12_pack cX12_pack 4 none 0 D (mtys cI cS) (mcell g cI cS sa) mord g Am [.ref (g 99), .ref (g k1), .int x2] S none o.2 :=
  gM_of O P (by decide) (Nat.le_of_ble_eq_true rfl) (fun p e s m args below meth c ls C X hl => bX12_pack_0 C O hk_k1 X (lv_sub hl [0, 1, 2] rfl) hF)
-- unpack
noncomputable def fX12_unpack_b91 (N : Nat) (S : gS) : Option (Int32 × gS) := some (0, S)
theorem bX12_unpack_91 {N : Nat} {S : gS} {H : Heap} {locs : List Loc} {ls : Array Slot} {o : Int32 × gS} (C : gC p s m args meth c cX12_unpack 4 RX12 none D (mtys cI cS) mord g Am) (O : gO (mcell g cI cS sa) mord g) (X : gX D (mcell g cI cS sa) mord g S s H locs) (hl : lv_has ls 4 []) (hF : fX12_unpack_b91 N S = some o) : W p l e (rmd 0) s m args below meth c H locs 0 0 (gE below args s D (mtys cI cS) (mcell g cI cS sa) mord g none o.2) (F0 m 91 ls []) := by
  unfold fX12_unpack_b91 at hF
  cases hF
  exact g_vret C X dX12_unpack_91
noncomputable def fX12_unpack_b24 (N : Nat) (r18 : Nat → Int32 → Int32 → gS → Option (Int32 × gS)) (k1 : Nat) (x2 : Int32) (x3 : Int32) (S : gS) : Option (Int32 × gS) := chk (inb ((((x2 + 2 : Int32)) + x3 : Int32)) (mN k1)) (chk (inb x3 (6)) (lt (sU S 32 (Int32.toNatClampNeg x3) (S k1 (Int32.toNatClampNeg ((((x2 + 2 : Int32)) + x3 : Int32))))) fun S1 => (chk (inb ((((((x2 + 2 : Int32)) + 6 : Int32)) + x3 : Int32)) (mN k1)) (chk (inb x3 (6)) (lt (sU S1 33 (Int32.toNatClampNeg x3) (S1 k1 (Int32.toNatClampNeg ((((((x2 + 2 : Int32)) + 6 : Int32)) + x3 : Int32))))) fun S2 => (chk (inb ((((((x2 + 2 : Int32)) + 12 : Int32)) + x3 : Int32)) (mN k1)) (chk (inb x3 (6)) (lt (sU S2 34 (Int32.toNatClampNeg x3) (S2 k1 (Int32.toNatClampNeg ((((((x2 + 2 : Int32)) + 12 : Int32)) + x3 : Int32))))) fun S3 => (chk (inb ((((((x2 + 2 : Int32)) + 18 : Int32)) + x3 : Int32)) (mN k1)) (chk (inb x3 (6)) (lt (sU S3 35 (Int32.toNatClampNeg x3) (S3 k1 (Int32.toNatClampNeg ((((((x2 + 2 : Int32)) + 18 : Int32)) + x3 : Int32))))) fun S4 => (r18 k1 x2 ((x3 + 1 : Int32)) S4))))))))))))
theorem bX12_unpack_24 {N : Nat} {r18 : Nat → Int32 → Int32 → gS → Option (Int32 × gS)} {k1 : Nat} {x2 : Int32} {x3 : Int32} {S : gS} {H : Heap} {locs : List Loc} {ls : Array Slot} {o : Int32 × gS} (C : gC p s m args meth c cX12_unpack 4 RX12 none D (mtys cI cS) mord g Am) (O : gO (mcell g cI cS sa) mord g) (K18 : ∀ (k1 : Nat) (x2 : Int32) (x3 : Int32) (hk_k1 : mI k1 = true) (S : gS) (H : Heap) (locs : List Loc) (ls : Array Slot), gX D (mcell g cI cS sa) mord g S s H locs → lv_has ls 4 [(0, .ref (g 99)), (1, .ref (g k1)), (2, .int x2), (3, .int x3)] → r18 k1 x2 x3 S = some o → W p l e (rmd 0) s m args below meth c H locs 0 0 (gE below args s D (mtys cI cS) (mcell g cI cS sa) mord g none o.2) (F0 m 18 ls [])) (hk_k1 : mI k1 = true) (X : gX D (mcell g cI cS sa) mord g S s H locs) (hl : lv_has ls 4 [(0, .ref (g 99)), (1, .ref (g k1)), (2, .int x2), (3, .int x3)]) (hF : fX12_unpack_b24 N r18 k1 x2 x3 S = some o) : W p l e (rmd 0) s m args below meth c H locs 0 0 (gE below args s D (mtys cI cS) (mcell g cI cS sa) mord g none o.2) (F0 m 24 ls []) := by
  unfold fX12_unpack_b24 at hF
  refine lv_aload_n C.1.1 C.1.2.1 dX12_unpack_24 rfl (lv_at hl 0 rfl) ?_
  refine m_g32 C X dX12_unpack_25 ?_
  refine lv_iload_n C.1.1 C.1.2.1 dX12_unpack_28 rfl (lv_at hl 3 rfl) ?_
  refine lv_aload_n C.1.1 C.1.2.1 dX12_unpack_29 rfl (lv_at hl 1 rfl) ?_
  refine lv_iload_n C.1.1 C.1.2.1 dX12_unpack_30 rfl (lv_at hl 2 rfl) ?_
  refine lv_iconst (v := 2) C.1.1 C.1.2.1 dX12_unpack_31 (by decide) ?_
  refine lv_iadd C.1.1 C.1.2.1 dX12_unpack_32 ?_
  refine lv_iload_n C.1.1 C.1.2.1 dX12_unpack_33 rfl (lv_at hl 3 rfl) ?_
  refine lv_iadd C.1.1 C.1.2.1 dX12_unpack_34 ?_
  obtain ⟨h_1, hF⟩ := chk_some hF
  refine m_rv C X (k := k1) hk_k1  (inb_vp h_1) rfl dX12_unpack_35 ?_
  obtain ⟨h_2, hF⟩ := chk_some hF
  obtain ⟨S1, eS1, hF⟩ := lt_some hF
  refine m_w32 C O X  (inb_vp h_2) rfl eS1 dX12_unpack_36 (fun H locs X => ?_)
  refine lv_aload_n C.1.1 C.1.2.1 dX12_unpack_37 rfl (lv_at hl 0 rfl) ?_
  refine m_g33 C X dX12_unpack_38 ?_
  refine lv_iload_n C.1.1 C.1.2.1 dX12_unpack_41 rfl (lv_at hl 3 rfl) ?_
  refine lv_aload_n C.1.1 C.1.2.1 dX12_unpack_42 rfl (lv_at hl 1 rfl) ?_
  refine lv_iload_n C.1.1 C.1.2.1 dX12_unpack_43 rfl (lv_at hl 2 rfl) ?_
  refine lv_iconst (v := 2) C.1.1 C.1.2.1 dX12_unpack_44 (by decide) ?_
  refine lv_iadd C.1.1 C.1.2.1 dX12_unpack_45 ?_
  refine lv_bipush (v := 6) C.1.1 C.1.2.1 dX12_unpack_46 (by decide) ?_
  refine lv_iadd C.1.1 C.1.2.1 dX12_unpack_48 ?_
  refine lv_iload_n C.1.1 C.1.2.1 dX12_unpack_49 rfl (lv_at hl 3 rfl) ?_
  refine lv_iadd C.1.1 C.1.2.1 dX12_unpack_50 ?_
  obtain ⟨h_3, hF⟩ := chk_some hF
  refine m_rv C X (k := k1) hk_k1  (inb_vp h_3) rfl dX12_unpack_51 ?_
  obtain ⟨h_4, hF⟩ := chk_some hF
  obtain ⟨S2, eS2, hF⟩ := lt_some hF
  refine m_w33 C O X  (inb_vp h_4) rfl eS2 dX12_unpack_52 (fun H locs X => ?_)
  refine lv_aload_n C.1.1 C.1.2.1 dX12_unpack_53 rfl (lv_at hl 0 rfl) ?_
  refine m_g34 C X dX12_unpack_54 ?_
  refine lv_iload_n C.1.1 C.1.2.1 dX12_unpack_57 rfl (lv_at hl 3 rfl) ?_
  refine lv_aload_n C.1.1 C.1.2.1 dX12_unpack_58 rfl (lv_at hl 1 rfl) ?_
  refine lv_iload_n C.1.1 C.1.2.1 dX12_unpack_59 rfl (lv_at hl 2 rfl) ?_
  refine lv_iconst (v := 2) C.1.1 C.1.2.1 dX12_unpack_60 (by decide) ?_
  refine lv_iadd C.1.1 C.1.2.1 dX12_unpack_61 ?_
  refine lv_bipush (v := 12) C.1.1 C.1.2.1 dX12_unpack_62 (by decide) ?_
  refine lv_iadd C.1.1 C.1.2.1 dX12_unpack_64 ?_
  refine lv_iload_n C.1.1 C.1.2.1 dX12_unpack_65 rfl (lv_at hl 3 rfl) ?_
  refine lv_iadd C.1.1 C.1.2.1 dX12_unpack_66 ?_
  obtain ⟨h_5, hF⟩ := chk_some hF
  refine m_rv C X (k := k1) hk_k1  (inb_vp h_5) rfl dX12_unpack_67 ?_
  obtain ⟨h_6, hF⟩ := chk_some hF
  obtain ⟨S3, eS3, hF⟩ := lt_some hF
  refine m_w34 C O X  (inb_vp h_6) rfl eS3 dX12_unpack_68 (fun H locs X => ?_)
  refine lv_aload_n C.1.1 C.1.2.1 dX12_unpack_69 rfl (lv_at hl 0 rfl) ?_
  refine m_g35 C X dX12_unpack_70 ?_
  refine lv_iload_n C.1.1 C.1.2.1 dX12_unpack_73 rfl (lv_at hl 3 rfl) ?_
  refine lv_aload_n C.1.1 C.1.2.1 dX12_unpack_74 rfl (lv_at hl 1 rfl) ?_
  refine lv_iload_n C.1.1 C.1.2.1 dX12_unpack_75 rfl (lv_at hl 2 rfl) ?_
  refine lv_iconst (v := 2) C.1.1 C.1.2.1 dX12_unpack_76 (by decide) ?_
  refine lv_iadd C.1.1 C.1.2.1 dX12_unpack_77 ?_
  refine lv_bipush (v := 18) C.1.1 C.1.2.1 dX12_unpack_78 (by decide) ?_
  refine lv_iadd C.1.1 C.1.2.1 dX12_unpack_80 ?_
  refine lv_iload_n C.1.1 C.1.2.1 dX12_unpack_81 rfl (lv_at hl 3 rfl) ?_
  refine lv_iadd C.1.1 C.1.2.1 dX12_unpack_82 ?_
  obtain ⟨h_7, hF⟩ := chk_some hF
  refine m_rv C X (k := k1) hk_k1  (inb_vp h_7) rfl dX12_unpack_83 ?_
  obtain ⟨h_8, hF⟩ := chk_some hF
  obtain ⟨S4, eS4, hF⟩ := lt_some hF
  refine m_w35 C O X  (inb_vp h_8) rfl eS4 dX12_unpack_84 (fun H locs X => ?_)
  refine lv_iinc (v := (x3 + 1 : Int32)) (lv' := [(3, .int ((x3 + 1 : Int32))), (0, .ref (g 99)), (1, .ref (g k1)), (2, .int x2)]) C.1.1 C.1.2.1 dX12_unpack_85 hl (k := 3) rfl rfl (by decide) rfl (fun ls hl => ?_)
  refine lv_goto (tgt := 18) C.1.1 C.1.2.1 dX12_unpack_88 (by decide) ?_
  exact K18 _ _ _ hk_k1 _ _ _ _ X (lv_sub hl [1, 2, 3, 0] rfl) hF
noncomputable def fX12_unpack_b18 (N : Nat) (r18 : Nat → Int32 → Int32 → gS → Option (Int32 × gS)) (k1 : Nat) (x2 : Int32) (x3 : Int32) (S : gS) : Option (Int32 × gS) := if 6 ≤ x3 then fX12_unpack_b91 N S else fX12_unpack_b24 N r18 k1 x2 x3 S
theorem bX12_unpack_18 {N : Nat} {r18 : Nat → Int32 → Int32 → gS → Option (Int32 × gS)} {k1 : Nat} {x2 : Int32} {x3 : Int32} {S : gS} {H : Heap} {locs : List Loc} {ls : Array Slot} {o : Int32 × gS} (C : gC p s m args meth c cX12_unpack 4 RX12 none D (mtys cI cS) mord g Am) (O : gO (mcell g cI cS sa) mord g) (K18 : ∀ (k1 : Nat) (x2 : Int32) (x3 : Int32) (hk_k1 : mI k1 = true) (S : gS) (H : Heap) (locs : List Loc) (ls : Array Slot), gX D (mcell g cI cS sa) mord g S s H locs → lv_has ls 4 [(0, .ref (g 99)), (1, .ref (g k1)), (2, .int x2), (3, .int x3)] → r18 k1 x2 x3 S = some o → W p l e (rmd 0) s m args below meth c H locs 0 0 (gE below args s D (mtys cI cS) (mcell g cI cS sa) mord g none o.2) (F0 m 18 ls [])) (hk_k1 : mI k1 = true) (X : gX D (mcell g cI cS sa) mord g S s H locs) (hl : lv_has ls 4 [(0, .ref (g 99)), (1, .ref (g k1)), (2, .int x2), (3, .int x3)]) (hF : fX12_unpack_b18 N r18 k1 x2 x3 S = some o) : W p l e (rmd 0) s m args below meth c H locs 0 0 (gE below args s D (mtys cI cS) (mcell g cI cS sa) mord g none o.2) (F0 m 18 ls []) := by
  unfold fX12_unpack_b18 at hF
  refine lv_iload_n C.1.1 C.1.2.1 dX12_unpack_18 rfl (lv_at hl 3 rfl) ?_
  refine lv_bipush (v := 6) C.1.1 C.1.2.1 dX12_unpack_19 (by decide) ?_
  refine lv_icmp_ge (tgt := 91) C.1.1 C.1.2.1 dX12_unpack_21 (by decide) (fun h_z => ?_) (fun h_z => ?_)
  · rw [if_pos h_z] at hF
    exact bX12_unpack_91 C O X (lv_sub hl [] rfl) hF
  · rw [if_neg h_z] at hF
    exact bX12_unpack_24 C O K18 hk_k1 X (lv_sub hl [0, 1, 2, 3] rfl) hF
noncomputable def fX12_unpack_h18 (N : Nat) : Nat → Nat → Int32 → Int32 → gS → Option (Int32 × gS)
  | 0, _, _, _, _ => none
  | n + 1, k1, x2, x3, S => fX12_unpack_b18 N (fX12_unpack_h18 N n) k1 x2 x3 S
theorem hX12_unpack_18 {N : Nat} {o : Int32 × gS} (C : gC p s m args meth c cX12_unpack 4 RX12 none D (mtys cI cS) mord g Am) (O : gO (mcell g cI cS sa) mord g) : ∀ (n : Nat) (k1 : Nat) (x2 : Int32) (x3 : Int32) (hk_k1 : mI k1 = true) (S : gS) (H : Heap) (locs : List Loc) (ls : Array Slot), gX D (mcell g cI cS sa) mord g S s H locs → lv_has ls 4 [(0, .ref (g 99)), (1, .ref (g k1)), (2, .int x2), (3, .int x3)] → fX12_unpack_h18 N n k1 x2 x3 S = some o → W p l e (rmd 0) s m args below meth c H locs 0 0 (gE below args s D (mtys cI cS) (mcell g cI cS sa) mord g none o.2) (F0 m 18 ls []) := by
  intro n
  induction n with
  | zero =>
    intro k1 x2 x3 hk_k1 S H locs ls X hl hF
    exact absurd (show (none : Option (Int32 × gS)) = some o from hF) (by simp)
  | succ n ih =>
    intro k1 x2 x3 hk_k1 S H locs ls X hl hF
    have hF : fX12_unpack_b18 N (fX12_unpack_h18 N n) k1 x2 x3 S = some o := hF
    exact bX12_unpack_18 C O ih hk_k1 X hl hF
noncomputable def fX12_unpack_b0 (N : Nat) (k1 : Nat) (x2 : Int32) (S : gS) : Option (Int32 × gS) := chk (inb x2 (mN k1)) (lt (sU S 99 37 (S k1 (Int32.toNatClampNeg x2))) fun S1 => (chk (inb ((x2 + 1 : Int32)) (mN k1)) (lt (sU S1 99 38 (S1 k1 (Int32.toNatClampNeg ((x2 + 1 : Int32))))) fun S2 => (fX12_unpack_h18 N N k1 x2 0 S2))))
theorem bX12_unpack_0 {N : Nat} {k1 : Nat} {x2 : Int32} {S : gS} {H : Heap} {locs : List Loc} {ls : Array Slot} {o : Int32 × gS} (C : gC p s m args meth c cX12_unpack 4 RX12 none D (mtys cI cS) mord g Am) (O : gO (mcell g cI cS sa) mord g) (hk_k1 : mI k1 = true) (X : gX D (mcell g cI cS sa) mord g S s H locs) (hl : lv_has ls 4 [(0, .ref (g 99)), (1, .ref (g k1)), (2, .int x2)]) (hF : fX12_unpack_b0 N k1 x2 S = some o) : W p l e (rmd 0) s m args below meth c H locs 0 0 (gE below args s D (mtys cI cS) (mcell g cI cS sa) mord g none o.2) (F0 m 0 ls []) := by
  unfold fX12_unpack_b0 at hF
  refine lv_aload_n C.1.1 C.1.2.1 dX12_unpack_0 rfl (lv_at hl 0 rfl) ?_
  refine lv_aload_n C.1.1 C.1.2.1 dX12_unpack_1 rfl (lv_at hl 1 rfl) ?_
  refine lv_iload_n C.1.1 C.1.2.1 dX12_unpack_2 rfl (lv_at hl 2 rfl) ?_
  obtain ⟨h_1, hF⟩ := chk_some hF
  refine m_rv C X (k := k1) hk_k1  (inb_vp h_1) rfl dX12_unpack_3 ?_
  obtain ⟨S1, eS1, hF⟩ := lt_some hF
  refine m_p37 C O X eS1 dX12_unpack_4 (fun H locs X => ?_)
  refine lv_aload_n C.1.1 C.1.2.1 dX12_unpack_7 rfl (lv_at hl 0 rfl) ?_
  refine lv_aload_n C.1.1 C.1.2.1 dX12_unpack_8 rfl (lv_at hl 1 rfl) ?_
  refine lv_iload_n C.1.1 C.1.2.1 dX12_unpack_9 rfl (lv_at hl 2 rfl) ?_
  refine lv_iconst (v := 1) C.1.1 C.1.2.1 dX12_unpack_10 (by decide) ?_
  refine lv_iadd C.1.1 C.1.2.1 dX12_unpack_11 ?_
  obtain ⟨h_2, hF⟩ := chk_some hF
  refine m_rv C X (k := k1) hk_k1  (inb_vp h_2) rfl dX12_unpack_12 ?_
  obtain ⟨S2, eS2, hF⟩ := lt_some hF
  refine m_p38 C O X eS2 dX12_unpack_13 (fun H locs X => ?_)
  refine lv_iconst (v := 0) C.1.1 C.1.2.1 dX12_unpack_16 (by decide) ?_
  refine lv_istore_n (lv' := [(3, .int 0), (0, .ref (g 99)), (1, .ref (g k1)), (2, .int x2)]) C.1.1 C.1.2.1 dX12_unpack_17 rfl hl (by decide) rfl (fun ls hl => ?_)
  exact hX12_unpack_18 C O N _ _ _ hk_k1 _ _ _ _ X (lv_sub hl [1, 2, 3, 0] rfl) hF
noncomputable def fX12_unpack (N : Nat) (k1 : Nat) (x2 : Int32) (S : gS) : Option (Int32 × gS) := fX12_unpack_b0 N k1 x2 S
theorem kX12_unpack {l : Launch} {D : va_G} {g : Nat → Nat} {cI cS : ClassId} {sa : Nat → Nat → Option Nat} {Am : (Nat → Prop) → State → Heap → Prop} (O : gO (mcell g cI cS sa) mord g) (P : gAm Am) (N : Nat) (k1 : Nat) (x2 : Int32) (hk_k1 : mI k1 = true) (S : gS) (o : Int32 × gS) (hF : fX12_unpack N k1 x2 S = some o) : gM l yX12_unpack cX12_unpack 4 none 0 D (mtys cI cS) (mcell g cI cS sa) mord g Am [.ref (g 99), .ref (g k1), .int x2] S none o.2 :=
  gM_of O P (by decide) (Nat.le_of_ble_eq_true rfl) (fun p e s m args below meth c ls C X hl => bX12_unpack_0 C O hk_k1 X (lv_sub hl [0, 1, 2] rfl) hF)
-- wetOf
noncomputable def fX12_wetOf_b44 (N : Nat) (t0 : Int32) (S : gS) : Option (Int32 × gS) := some (t0, S)
theorem bX12_wetOf_44 {N : Nat} {t0 : Int32} {S : gS} {H : Heap} {locs : List Loc} {ls : Array Slot} {o : Int32 × gS} (C : gC p s m args meth c cX12_wetOf 1 RX12 ((some .int)) D (mtys cI cS) mord g Am) (O : gO (mcell g cI cS sa) mord g) (X : gX D (mcell g cI cS sa) mord g S s H locs) (hl : lv_has ls 1 []) (hF : fX12_wetOf_b44 N t0 S = some o) : W p l e (rmd 0) s m args below meth c H locs 0 0 (gE below args s D (mtys cI cS) (mcell g cI cS sa) mord g (some (.int o.1)) o.2) (F0 m 44 ls [.int t0]) := by
  unfold fX12_wetOf_b44 at hF
  cases hF
  exact g_iret C X dX12_wetOf_44
noncomputable def fX12_wetOf_b28 (N : Nat) (S : gS) : Option (Int32 × gS) := chk (nz (S 5 3)) (chk (inb (((S 99 37) - (S 99 37) / (S 5 3) * (S 5 3) : Int32)) (16)) (fX12_wetOf_b44 N (S 14 (Int32.toNatClampNeg (((S 99 37) - (S 99 37) / (S 5 3) * (S 5 3) : Int32)))) S))
theorem bX12_wetOf_28 {N : Nat} {S : gS} {H : Heap} {locs : List Loc} {ls : Array Slot} {o : Int32 × gS} (C : gC p s m args meth c cX12_wetOf 1 RX12 ((some .int)) D (mtys cI cS) mord g Am) (O : gO (mcell g cI cS sa) mord g) (X : gX D (mcell g cI cS sa) mord g S s H locs) (hl : lv_has ls 1 [(0, .ref (g 99))]) (hF : fX12_wetOf_b28 N S = some o) : W p l e (rmd 0) s m args below meth c H locs 0 0 (gE below args s D (mtys cI cS) (mcell g cI cS sa) mord g (some (.int o.1)) o.2) (F0 m 28 ls []) := by
  unfold fX12_wetOf_b28 at hF
  refine lv_aload_n C.1.1 C.1.2.1 dX12_wetOf_28 rfl (lv_at hl 0 rfl) ?_
  refine m_g14 C X dX12_wetOf_29 ?_
  refine lv_aload_n C.1.1 C.1.2.1 dX12_wetOf_32 rfl (lv_at hl 0 rfl) ?_
  refine m_g37 C X dX12_wetOf_33 ?_
  refine lv_aload_n C.1.1 C.1.2.1 dX12_wetOf_36 rfl (lv_at hl 0 rfl) ?_
  refine m_g5 C X dX12_wetOf_37 ?_
  refine lv_iconst (v := 3) C.1.1 C.1.2.1 dX12_wetOf_40 (by decide) ?_
  refine m_r5 C X (j := 3) (inb_vp (by decide)) (by decide) dX12_wetOf_41 ?_
  obtain ⟨h_1, hF⟩ := chk_some hF
  refine lv_irem C.1.1 C.1.2.1 dX12_wetOf_42 (nz_ne h_1) ?_
  obtain ⟨h_2, hF⟩ := chk_some hF
  refine m_r14 C X  (inb_vp h_2) rfl dX12_wetOf_43 ?_
  exact bX12_wetOf_44 C O X (lv_sub hl [] rfl) hF
noncomputable def fX12_wetOf_b24 (N : Nat) (S : gS) : Option (Int32 × gS) := fX12_wetOf_b44 N 5 S
theorem bX12_wetOf_24 {N : Nat} {S : gS} {H : Heap} {locs : List Loc} {ls : Array Slot} {o : Int32 × gS} (C : gC p s m args meth c cX12_wetOf 1 RX12 ((some .int)) D (mtys cI cS) mord g Am) (O : gO (mcell g cI cS sa) mord g) (X : gX D (mcell g cI cS sa) mord g S s H locs) (hl : lv_has ls 1 []) (hF : fX12_wetOf_b24 N S = some o) : W p l e (rmd 0) s m args below meth c H locs 0 0 (gE below args s D (mtys cI cS) (mcell g cI cS sa) mord g (some (.int o.1)) o.2) (F0 m 24 ls []) := by
  unfold fX12_wetOf_b24 at hF
  refine lv_iconst (v := 5) C.1.1 C.1.2.1 dX12_wetOf_24 (by decide) ?_
  refine lv_goto (tgt := 44) C.1.1 C.1.2.1 dX12_wetOf_25 (by decide) ?_
  exact bX12_wetOf_44 C O X (lv_sub hl [] rfl) hF
noncomputable def fX12_wetOf_b15 (N : Nat) (S : gS) : Option (Int32 × gS) := if (S 5 3) = 0 then fX12_wetOf_b24 N S else fX12_wetOf_b28 N S
theorem bX12_wetOf_15 {N : Nat} {S : gS} {H : Heap} {locs : List Loc} {ls : Array Slot} {o : Int32 × gS} (C : gC p s m args meth c cX12_wetOf 1 RX12 ((some .int)) D (mtys cI cS) mord g Am) (O : gO (mcell g cI cS sa) mord g) (X : gX D (mcell g cI cS sa) mord g S s H locs) (hl : lv_has ls 1 [(0, .ref (g 99))]) (hF : fX12_wetOf_b15 N S = some o) : W p l e (rmd 0) s m args below meth c H locs 0 0 (gE below args s D (mtys cI cS) (mcell g cI cS sa) mord g (some (.int o.1)) o.2) (F0 m 15 ls []) := by
  unfold fX12_wetOf_b15 at hF
  refine lv_aload_n C.1.1 C.1.2.1 dX12_wetOf_15 rfl (lv_at hl 0 rfl) ?_
  refine m_g5 C X dX12_wetOf_16 ?_
  refine lv_iconst (v := 3) C.1.1 C.1.2.1 dX12_wetOf_19 (by decide) ?_
  refine m_r5 C X (j := 3) (inb_vp (by decide)) (by decide) dX12_wetOf_20 ?_
  refine lv_if_ne (tgt := 28) C.1.1 C.1.2.1 dX12_wetOf_21 (by decide) (fun h_z => ?_) (fun h_z => ?_)
  · rw [if_neg h_z] at hF
    exact bX12_wetOf_28 C O X (lv_sub hl [0] rfl) hF
  · rw [if_pos h_z] at hF
    exact bX12_wetOf_24 C O X (lv_sub hl [] rfl) hF
noncomputable def fX12_wetOf_b8 (N : Nat) (S : gS) : Option (Int32 × gS) := fX12_wetOf_b44 N (S 99 41) S
theorem bX12_wetOf_8 {N : Nat} {S : gS} {H : Heap} {locs : List Loc} {ls : Array Slot} {o : Int32 × gS} (C : gC p s m args meth c cX12_wetOf 1 RX12 ((some .int)) D (mtys cI cS) mord g Am) (O : gO (mcell g cI cS sa) mord g) (X : gX D (mcell g cI cS sa) mord g S s H locs) (hl : lv_has ls 1 [(0, .ref (g 99))]) (hF : fX12_wetOf_b8 N S = some o) : W p l e (rmd 0) s m args below meth c H locs 0 0 (gE below args s D (mtys cI cS) (mcell g cI cS sa) mord g (some (.int o.1)) o.2) (F0 m 8 ls []) := by
  unfold fX12_wetOf_b8 at hF
  refine lv_aload_n C.1.1 C.1.2.1 dX12_wetOf_8 rfl (lv_at hl 0 rfl) ?_
  refine m_g41 C X dX12_wetOf_9 ?_
  refine lv_goto (tgt := 44) C.1.1 C.1.2.1 dX12_wetOf_12 (by decide) ?_
  exact bX12_wetOf_44 C O X (lv_sub hl [] rfl) hF
noncomputable def fX12_wetOf_b0 (N : Nat) (S : gS) : Option (Int32 × gS) := if (S 99 41) = ((-1)) then fX12_wetOf_b15 N S else fX12_wetOf_b8 N S
theorem bX12_wetOf_0 {N : Nat} {S : gS} {H : Heap} {locs : List Loc} {ls : Array Slot} {o : Int32 × gS} (C : gC p s m args meth c cX12_wetOf 1 RX12 ((some .int)) D (mtys cI cS) mord g Am) (O : gO (mcell g cI cS sa) mord g) (X : gX D (mcell g cI cS sa) mord g S s H locs) (hl : lv_has ls 1 [(0, .ref (g 99))]) (hF : fX12_wetOf_b0 N S = some o) : W p l e (rmd 0) s m args below meth c H locs 0 0 (gE below args s D (mtys cI cS) (mcell g cI cS sa) mord g (some (.int o.1)) o.2) (F0 m 0 ls []) := by
  unfold fX12_wetOf_b0 at hF
  refine lv_aload_n C.1.1 C.1.2.1 dX12_wetOf_0 rfl (lv_at hl 0 rfl) ?_
  refine m_g41 C X dX12_wetOf_1 ?_
  refine lv_iconst (v := (-1)) C.1.1 C.1.2.1 dX12_wetOf_4 (by decide) ?_
  refine lv_icmp_eq (tgt := 15) C.1.1 C.1.2.1 dX12_wetOf_5 (by decide) (fun h_z => ?_) (fun h_z => ?_)
  · rw [if_pos h_z] at hF
    exact bX12_wetOf_15 C O X (lv_sub hl [0] rfl) hF
  · rw [if_neg h_z] at hF
    exact bX12_wetOf_8 C O X (lv_sub hl [0] rfl) hF
noncomputable def fX12_wetOf (N : Nat) (S : gS) : Option (Int32 × gS) := fX12_wetOf_b0 N S
theorem kX12_wetOf {l : Launch} {D : va_G} {g : Nat → Nat} {cI cS : ClassId} {sa : Nat → Nat → Option Nat} {Am : (Nat → Prop) → State → Heap → Prop} (O : gO (mcell g cI cS sa) mord g) (P : gAm Am) (N : Nat) (S : gS) (o : Int32 × gS) (hF : fX12_wetOf N S = some o) : gM l yX12_wetOf cX12_wetOf 1 ((some .int)) 0 D (mtys cI cS) (mcell g cI cS sa) mord g Am [.ref (g 99)] S (some (.int o.1)) o.2 :=
  gM_of O P (by decide) (Nat.le_of_ble_eq_true rfl) (fun p e s m args below meth c ls C X hl => bX12_wetOf_0 C O X (lv_sub hl [0] rfl) hF)
-- comesAt
noncomputable def fX12_comesAt_b23 (N : Nat) (t0 : Int32) (S : gS) : Option (Int32 × gS) := chk (zb t0) (some (t0, S))
theorem bX12_comesAt_23 {N : Nat} {t0 : Int32} {S : gS} {H : Heap} {locs : List Loc} {ls : Array Slot} {o : Int32 × gS} (C : gC p s m args meth c cX12_comesAt 3 RX12 ((some .boolean)) D (mtys cI cS) mord g Am) (O : gO (mcell g cI cS sa) mord g) (X : gX D (mcell g cI cS sa) mord g S s H locs) (hl : lv_has ls 3 []) (hF : fX12_comesAt_b23 N t0 S = some o) : W p l e (rmd 0) s m args below meth c H locs 0 0 (gE below args s D (mtys cI cS) (mcell g cI cS sa) mord g (some (.int o.1)) o.2) (F0 m 23 ls [.int t0]) := by
  unfold fX12_comesAt_b23 at hF
  obtain ⟨h_1, hF⟩ := chk_some hF
  cases hF
  exact g_zret C X h_1 dX12_comesAt_23
noncomputable def fX12_comesAt_b22 (N : Nat) (S : gS) : Option (Int32 × gS) := fX12_comesAt_b23 N 0 S
theorem bX12_comesAt_22 {N : Nat} {S : gS} {H : Heap} {locs : List Loc} {ls : Array Slot} {o : Int32 × gS} (C : gC p s m args meth c cX12_comesAt 3 RX12 ((some .boolean)) D (mtys cI cS) mord g Am) (O : gO (mcell g cI cS sa) mord g) (X : gX D (mcell g cI cS sa) mord g S s H locs) (hl : lv_has ls 3 []) (hF : fX12_comesAt_b22 N S = some o) : W p l e (rmd 0) s m args below meth c H locs 0 0 (gE below args s D (mtys cI cS) (mcell g cI cS sa) mord g (some (.int o.1)) o.2) (F0 m 22 ls []) := by
  unfold fX12_comesAt_b22 at hF
  refine lv_iconst (v := 0) C.1.1 C.1.2.1 dX12_comesAt_22 (by decide) ?_
  exact bX12_comesAt_23 C O X (lv_sub hl [] rfl) hF
noncomputable def fX12_comesAt_b18 (N : Nat) (S : gS) : Option (Int32 × gS) := fX12_comesAt_b23 N 1 S
theorem bX12_comesAt_18 {N : Nat} {S : gS} {H : Heap} {locs : List Loc} {ls : Array Slot} {o : Int32 × gS} (C : gC p s m args meth c cX12_comesAt 3 RX12 ((some .boolean)) D (mtys cI cS) mord g Am) (O : gO (mcell g cI cS sa) mord g) (X : gX D (mcell g cI cS sa) mord g S s H locs) (hl : lv_has ls 3 []) (hF : fX12_comesAt_b18 N S = some o) : W p l e (rmd 0) s m args below meth c H locs 0 0 (gE below args s D (mtys cI cS) (mcell g cI cS sa) mord g (some (.int o.1)) o.2) (F0 m 18 ls []) := by
  unfold fX12_comesAt_b18 at hF
  refine lv_iconst (v := 1) C.1.1 C.1.2.1 dX12_comesAt_18 (by decide) ?_
  refine lv_goto (tgt := 23) C.1.1 C.1.2.1 dX12_comesAt_19 (by decide) ?_
  exact bX12_comesAt_23 C O X (lv_sub hl [] rfl) hF
noncomputable def fX12_comesAt_b0 (N : Nat) (x1 : Int32) (x2 : Int32) (S : gS) : Option (Int32 × gS) := chk (inb x1 (16)) (chk (inb x1 (16)) (chk (nz (S 7 (Int32.toNatClampNeg x1))) (if ((((x2 + (S 8 (Int32.toNatClampNeg x1)) : Int32)) - ((x2 + (S 8 (Int32.toNatClampNeg x1)) : Int32)) / (S 7 (Int32.toNatClampNeg x1)) * (S 7 (Int32.toNatClampNeg x1)) : Int32)) = 0 then fX12_comesAt_b18 N S else fX12_comesAt_b22 N S)))
theorem bX12_comesAt_0 {N : Nat} {x1 : Int32} {x2 : Int32} {S : gS} {H : Heap} {locs : List Loc} {ls : Array Slot} {o : Int32 × gS} (C : gC p s m args meth c cX12_comesAt 3 RX12 ((some .boolean)) D (mtys cI cS) mord g Am) (O : gO (mcell g cI cS sa) mord g) (X : gX D (mcell g cI cS sa) mord g S s H locs) (hl : lv_has ls 3 [(0, .ref (g 99)), (1, .int x1), (2, .int x2)]) (hF : fX12_comesAt_b0 N x1 x2 S = some o) : W p l e (rmd 0) s m args below meth c H locs 0 0 (gE below args s D (mtys cI cS) (mcell g cI cS sa) mord g (some (.int o.1)) o.2) (F0 m 0 ls []) := by
  unfold fX12_comesAt_b0 at hF
  refine lv_iload_n C.1.1 C.1.2.1 dX12_comesAt_0 rfl (lv_at hl 2 rfl) ?_
  refine lv_aload_n C.1.1 C.1.2.1 dX12_comesAt_1 rfl (lv_at hl 0 rfl) ?_
  refine m_g8 C X dX12_comesAt_2 ?_
  refine lv_iload_n C.1.1 C.1.2.1 dX12_comesAt_5 rfl (lv_at hl 1 rfl) ?_
  obtain ⟨h_1, hF⟩ := chk_some hF
  refine m_r8 C X  (inb_vp h_1) rfl dX12_comesAt_6 ?_
  refine lv_iadd C.1.1 C.1.2.1 dX12_comesAt_7 ?_
  refine lv_aload_n C.1.1 C.1.2.1 dX12_comesAt_8 rfl (lv_at hl 0 rfl) ?_
  refine m_g7 C X dX12_comesAt_9 ?_
  refine lv_iload_n C.1.1 C.1.2.1 dX12_comesAt_12 rfl (lv_at hl 1 rfl) ?_
  obtain ⟨h_2, hF⟩ := chk_some hF
  refine m_r7 C X  (inb_vp h_2) rfl dX12_comesAt_13 ?_
  obtain ⟨h_3, hF⟩ := chk_some hF
  refine lv_irem C.1.1 C.1.2.1 dX12_comesAt_14 (nz_ne h_3) ?_
  refine lv_if_ne (tgt := 22) C.1.1 C.1.2.1 dX12_comesAt_15 (by decide) (fun h_z => ?_) (fun h_z => ?_)
  · rw [if_neg h_z] at hF
    exact bX12_comesAt_22 C O X (lv_sub hl [] rfl) hF
  · rw [if_pos h_z] at hF
    exact bX12_comesAt_18 C O X (lv_sub hl [] rfl) hF
noncomputable def fX12_comesAt (N : Nat) (x1 : Int32) (x2 : Int32) (S : gS) : Option (Int32 × gS) := fX12_comesAt_b0 N x1 x2 S
theorem kX12_comesAt {l : Launch} {D : va_G} {g : Nat → Nat} {cI cS : ClassId} {sa : Nat → Nat → Option Nat} {Am : (Nat → Prop) → State → Heap → Prop} (O : gO (mcell g cI cS sa) mord g) (P : gAm Am) (N : Nat) (x1 : Int32) (x2 : Int32) (S : gS) (o : Int32 × gS) (hF : fX12_comesAt N x1 x2 S = some o) : gM l yX12_comesAt cX12_comesAt 3 ((some .boolean)) 0 D (mtys cI cS) (mcell g cI cS sa) mord g Am [.ref (g 99), .int x1, .int x2] S (some (.int o.1)) o.2 :=
  gM_of O P (by decide) (Nat.le_of_ble_eq_true rfl) (fun p e s m args below meth c ls C X hl => bX12_comesAt_0 C O X (lv_sub hl [0, 1, 2] rfl) hF)
-- drippingNow
noncomputable def fX12_drippingNow_b49 (N : Nat) (x1 : Int32) (S : gS) : Option (Int32 × gS) := some ((x1 &&& (((S 99 38) ^^^ ((-1)) : Int32)) : Int32), S)
theorem bX12_drippingNow_49 {N : Nat} {x1 : Int32} {S : gS} {H : Heap} {locs : List Loc} {ls : Array Slot} {o : Int32 × gS} (C : gC p s m args meth c cX12_drippingNow 3 RX12 ((some .int)) D (mtys cI cS) mord g Am) (O : gO (mcell g cI cS sa) mord g) (X : gX D (mcell g cI cS sa) mord g S s H locs) (hl : lv_has ls 3 [(0, .ref (g 99)), (1, .int x1)]) (hF : fX12_drippingNow_b49 N x1 S = some o) : W p l e (rmd 1) s m args below meth c H locs 0 0 (gE below args s D (mtys cI cS) (mcell g cI cS sa) mord g (some (.int o.1)) o.2) (F0 m 49 ls []) := by
  unfold fX12_drippingNow_b49 at hF
  refine lv_iload_n C.1.1 C.1.2.1 dX12_drippingNow_49 rfl (lv_at hl 1 rfl) ?_
  refine lv_aload_n C.1.1 C.1.2.1 dX12_drippingNow_50 rfl (lv_at hl 0 rfl) ?_
  refine m_g38 C X dX12_drippingNow_51 ?_
  refine lv_iconst (v := (-1)) C.1.1 C.1.2.1 dX12_drippingNow_54 (by decide) ?_
  refine lv_ixor C.1.1 C.1.2.1 dX12_drippingNow_55 ?_
  refine lv_iand C.1.1 C.1.2.1 dX12_drippingNow_56 ?_
  cases hF
  exact g_iret C X dX12_drippingNow_57
noncomputable def fX12_drippingNow_b41 (N : Nat) (r4 : Int32 → Int32 → gS → Option (Int32 × gS)) (x2 : Int32) (t0 : Int32) (t1 : Int32) (S : gS) : Option (Int32 × gS) := r4 ((t0 ||| t1 : Int32)) ((x2 + 1 : Int32)) S
theorem bX12_drippingNow_41 {N : Nat} {r4 : Int32 → Int32 → gS → Option (Int32 × gS)} {x2 : Int32} {t0 : Int32} {t1 : Int32} {S : gS} {H : Heap} {locs : List Loc} {ls : Array Slot} {o : Int32 × gS} (C : gC p s m args meth c cX12_drippingNow 3 RX12 ((some .int)) D (mtys cI cS) mord g Am) (O : gO (mcell g cI cS sa) mord g) (K4 : ∀ (x1 : Int32) (x2 : Int32) (S : gS) (H : Heap) (locs : List Loc) (ls : Array Slot), gX D (mcell g cI cS sa) mord g S s H locs → lv_has ls 3 [(0, .ref (g 99)), (1, .int x1), (2, .int x2)] → r4 x1 x2 S = some o → W p l e (rmd 1) s m args below meth c H locs 0 0 (gE below args s D (mtys cI cS) (mcell g cI cS sa) mord g (some (.int o.1)) o.2) (F0 m 4 ls [])) (X : gX D (mcell g cI cS sa) mord g S s H locs) (hl : lv_has ls 3 [(0, .ref (g 99)), (2, .int x2)]) (hF : fX12_drippingNow_b41 N r4 x2 t0 t1 S = some o) : W p l e (rmd 1) s m args below meth c H locs 0 0 (gE below args s D (mtys cI cS) (mcell g cI cS sa) mord g (some (.int o.1)) o.2) (F0 m 41 ls [.int t1, .int t0]) := by
  unfold fX12_drippingNow_b41 at hF
  refine lv_ior C.1.1 C.1.2.1 dX12_drippingNow_41 ?_
  refine lv_istore_n (lv' := [(1, .int ((t0 ||| t1 : Int32))), (0, .ref (g 99)), (2, .int x2)]) C.1.1 C.1.2.1 dX12_drippingNow_42 rfl hl (by decide) rfl (fun ls hl => ?_)
  refine lv_iinc (v := (x2 + 1 : Int32)) (lv' := [(2, .int ((x2 + 1 : Int32))), (1, .int ((t0 ||| t1 : Int32))), (0, .ref (g 99))]) C.1.1 C.1.2.1 dX12_drippingNow_43 hl (k := 2) rfl rfl (by decide) rfl (fun ls hl => ?_)
  refine lv_goto (tgt := 4) C.1.1 C.1.2.1 dX12_drippingNow_46 (by decide) ?_
  exact K4 _ _ _ _ _ _ X (lv_sub hl [2, 1, 0] rfl) hF
noncomputable def fX12_drippingNow_b40 (N : Nat) (r4 : Int32 → Int32 → gS → Option (Int32 × gS)) (x2 : Int32) (t0 : Int32) (S : gS) : Option (Int32 × gS) := fX12_drippingNow_b41 N r4 x2 t0 0 S
theorem bX12_drippingNow_40 {N : Nat} {r4 : Int32 → Int32 → gS → Option (Int32 × gS)} {x2 : Int32} {t0 : Int32} {S : gS} {H : Heap} {locs : List Loc} {ls : Array Slot} {o : Int32 × gS} (C : gC p s m args meth c cX12_drippingNow 3 RX12 ((some .int)) D (mtys cI cS) mord g Am) (O : gO (mcell g cI cS sa) mord g) (K4 : ∀ (x1 : Int32) (x2 : Int32) (S : gS) (H : Heap) (locs : List Loc) (ls : Array Slot), gX D (mcell g cI cS sa) mord g S s H locs → lv_has ls 3 [(0, .ref (g 99)), (1, .int x1), (2, .int x2)] → r4 x1 x2 S = some o → W p l e (rmd 1) s m args below meth c H locs 0 0 (gE below args s D (mtys cI cS) (mcell g cI cS sa) mord g (some (.int o.1)) o.2) (F0 m 4 ls [])) (X : gX D (mcell g cI cS sa) mord g S s H locs) (hl : lv_has ls 3 [(0, .ref (g 99)), (2, .int x2)]) (hF : fX12_drippingNow_b40 N r4 x2 t0 S = some o) : W p l e (rmd 1) s m args below meth c H locs 0 0 (gE below args s D (mtys cI cS) (mcell g cI cS sa) mord g (some (.int o.1)) o.2) (F0 m 40 ls [.int t0]) := by
  unfold fX12_drippingNow_b40 at hF
  refine lv_iconst (v := 0) C.1.1 C.1.2.1 dX12_drippingNow_40 (by decide) ?_
  exact bX12_drippingNow_41 C O K4 X (lv_sub hl [0, 1] rfl) hF
noncomputable def fX12_drippingNow_b34 (N : Nat) (r4 : Int32 → Int32 → gS → Option (Int32 × gS)) (x2 : Int32) (t0 : Int32) (S : gS) : Option (Int32 × gS) := fX12_drippingNow_b41 N r4 x2 t0 (((1 : Int32) <<< (x2 &&& 31) : Int32)) S
theorem bX12_drippingNow_34 {N : Nat} {r4 : Int32 → Int32 → gS → Option (Int32 × gS)} {x2 : Int32} {t0 : Int32} {S : gS} {H : Heap} {locs : List Loc} {ls : Array Slot} {o : Int32 × gS} (C : gC p s m args meth c cX12_drippingNow 3 RX12 ((some .int)) D (mtys cI cS) mord g Am) (O : gO (mcell g cI cS sa) mord g) (K4 : ∀ (x1 : Int32) (x2 : Int32) (S : gS) (H : Heap) (locs : List Loc) (ls : Array Slot), gX D (mcell g cI cS sa) mord g S s H locs → lv_has ls 3 [(0, .ref (g 99)), (1, .int x1), (2, .int x2)] → r4 x1 x2 S = some o → W p l e (rmd 1) s m args below meth c H locs 0 0 (gE below args s D (mtys cI cS) (mcell g cI cS sa) mord g (some (.int o.1)) o.2) (F0 m 4 ls [])) (X : gX D (mcell g cI cS sa) mord g S s H locs) (hl : lv_has ls 3 [(0, .ref (g 99)), (2, .int x2)]) (hF : fX12_drippingNow_b34 N r4 x2 t0 S = some o) : W p l e (rmd 1) s m args below meth c H locs 0 0 (gE below args s D (mtys cI cS) (mcell g cI cS sa) mord g (some (.int o.1)) o.2) (F0 m 34 ls [.int t0]) := by
  unfold fX12_drippingNow_b34 at hF
  refine lv_iconst (v := 1) C.1.1 C.1.2.1 dX12_drippingNow_34 (by decide) ?_
  refine lv_iload_n C.1.1 C.1.2.1 dX12_drippingNow_35 rfl (lv_at hl 1 rfl) ?_
  refine lv_ishl C.1.1 C.1.2.1 dX12_drippingNow_36 ?_
  refine lv_goto (tgt := 41) C.1.1 C.1.2.1 dX12_drippingNow_37 (by decide) ?_
  exact bX12_drippingNow_41 C O K4 X (lv_sub hl [0, 1] rfl) hF
noncomputable def fX12_drippingNow_b21 (N : Nat) (r4 : Int32 → Int32 → gS → Option (Int32 × gS)) (x1 : Int32) (x2 : Int32) (S : gS) : Option (Int32 × gS) := bnd (fX12_comesAt N x2 (S 99 37) S) fun q1 => (if q1.1 = 0 then fX12_drippingNow_b40 N r4 x2 x1 q1.2 else fX12_drippingNow_b34 N r4 x2 x1 q1.2)
theorem bX12_drippingNow_21 {N : Nat} {r4 : Int32 → Int32 → gS → Option (Int32 × gS)} {x1 : Int32} {x2 : Int32} {S : gS} {H : Heap} {locs : List Loc} {ls : Array Slot} {o : Int32 × gS} (C : gC p s m args meth c cX12_drippingNow 3 RX12 ((some .int)) D (mtys cI cS) mord g Am) (O : gO (mcell g cI cS sa) mord g) (K4 : ∀ (x1 : Int32) (x2 : Int32) (S : gS) (H : Heap) (locs : List Loc) (ls : Array Slot), gX D (mcell g cI cS sa) mord g S s H locs → lv_has ls 3 [(0, .ref (g 99)), (1, .int x1), (2, .int x2)] → r4 x1 x2 S = some o → W p l e (rmd 1) s m args below meth c H locs 0 0 (gE below args s D (mtys cI cS) (mcell g cI cS sa) mord g (some (.int o.1)) o.2) (F0 m 4 ls [])) (X : gX D (mcell g cI cS sa) mord g S s H locs) (hl : lv_has ls 3 [(0, .ref (g 99)), (1, .int x1), (2, .int x2)]) (hF : fX12_drippingNow_b21 N r4 x1 x2 S = some o) : W p l e (rmd 1) s m args below meth c H locs 0 0 (gE below args s D (mtys cI cS) (mcell g cI cS sa) mord g (some (.int o.1)) o.2) (F0 m 21 ls []) := by
  unfold fX12_drippingNow_b21 at hF
  refine lv_iload_n C.1.1 C.1.2.1 dX12_drippingNow_21 rfl (lv_at hl 1 rfl) ?_
  refine lv_aload_n C.1.1 C.1.2.1 dX12_drippingNow_22 rfl (lv_at hl 0 rfl) ?_
  refine lv_iload_n C.1.1 C.1.2.1 dX12_drippingNow_23 rfl (lv_at hl 2 rfl) ?_
  refine lv_aload_n C.1.1 C.1.2.1 dX12_drippingNow_24 rfl (lv_at hl 0 rfl) ?_
  refine m_g37 C X dX12_drippingNow_25 ?_
  obtain ⟨q1, hq1, hF⟩ := bnd_some hF
  refine m_callVi C X vX12_comesAt rfl (kX12_comesAt O C.2.2.2.2.1 N x2 (S 99 37)  S q1 hq1) (Nat.le_of_ble_eq_true rfl) (Nat.le_of_ble_eq_true rfl) (Nat.le_of_ble_eq_true rfl) (Nat.le_of_ble_eq_true rfl) rfl hl.1 rfl (Nat.le_of_ble_eq_true rfl) dX12_drippingNow_28 (fun H locs X => ?_)
  refine lv_if_eq (tgt := 40) C.1.1 C.1.2.1 dX12_drippingNow_31 (by decide) (fun h_z => ?_) (fun h_z => ?_)
  · rw [if_pos h_z] at hF
    exact bX12_drippingNow_40 C O K4 X (lv_sub hl [0, 2] rfl) hF
  · rw [if_neg h_z] at hF
    exact bX12_drippingNow_34 C O K4 X (lv_sub hl [0, 2] rfl) hF
noncomputable def fX12_drippingNow_b14 (N : Nat) (r4 : Int32 → Int32 → gS → Option (Int32 × gS)) (x1 : Int32) (x2 : Int32) (S : gS) : Option (Int32 × gS) := bnd (fX12_wetOf N  S) fun q1 => (if q1.1 ≤ 0 then fX12_drippingNow_b49 N x1 q1.2 else fX12_drippingNow_b21 N r4 x1 x2 q1.2)
theorem bX12_drippingNow_14 {N : Nat} {r4 : Int32 → Int32 → gS → Option (Int32 × gS)} {x1 : Int32} {x2 : Int32} {S : gS} {H : Heap} {locs : List Loc} {ls : Array Slot} {o : Int32 × gS} (C : gC p s m args meth c cX12_drippingNow 3 RX12 ((some .int)) D (mtys cI cS) mord g Am) (O : gO (mcell g cI cS sa) mord g) (K4 : ∀ (x1 : Int32) (x2 : Int32) (S : gS) (H : Heap) (locs : List Loc) (ls : Array Slot), gX D (mcell g cI cS sa) mord g S s H locs → lv_has ls 3 [(0, .ref (g 99)), (1, .int x1), (2, .int x2)] → r4 x1 x2 S = some o → W p l e (rmd 1) s m args below meth c H locs 0 0 (gE below args s D (mtys cI cS) (mcell g cI cS sa) mord g (some (.int o.1)) o.2) (F0 m 4 ls [])) (X : gX D (mcell g cI cS sa) mord g S s H locs) (hl : lv_has ls 3 [(0, .ref (g 99)), (1, .int x1), (2, .int x2)]) (hF : fX12_drippingNow_b14 N r4 x1 x2 S = some o) : W p l e (rmd 1) s m args below meth c H locs 0 0 (gE below args s D (mtys cI cS) (mcell g cI cS sa) mord g (some (.int o.1)) o.2) (F0 m 14 ls []) := by
  unfold fX12_drippingNow_b14 at hF
  refine lv_aload_n C.1.1 C.1.2.1 dX12_drippingNow_14 rfl (lv_at hl 0 rfl) ?_
  obtain ⟨q1, hq1, hF⟩ := bnd_some hF
  refine m_callVi C X vX12_wetOf rfl (kX12_wetOf O C.2.2.2.2.1 N   S q1 hq1) (Nat.le_of_ble_eq_true rfl) (Nat.le_of_ble_eq_true rfl) (Nat.le_of_ble_eq_true rfl) (Nat.le_of_ble_eq_true rfl) rfl hl.1 rfl (Nat.le_of_ble_eq_true rfl) dX12_drippingNow_15 (fun H locs X => ?_)
  refine lv_if_le (tgt := 49) C.1.1 C.1.2.1 dX12_drippingNow_18 (by decide) (fun h_z => ?_) (fun h_z => ?_)
  · rw [if_pos h_z] at hF
    exact bX12_drippingNow_49 C O X (lv_sub hl [0, 1] rfl) hF
  · rw [if_neg h_z] at hF
    exact bX12_drippingNow_21 C O K4 X (lv_sub hl [0, 1, 2] rfl) hF
noncomputable def fX12_drippingNow_b4 (N : Nat) (r4 : Int32 → Int32 → gS → Option (Int32 × gS)) (x1 : Int32) (x2 : Int32) (S : gS) : Option (Int32 × gS) := if (S 5 0) ≤ x2 then fX12_drippingNow_b49 N x1 S else fX12_drippingNow_b14 N r4 x1 x2 S
theorem bX12_drippingNow_4 {N : Nat} {r4 : Int32 → Int32 → gS → Option (Int32 × gS)} {x1 : Int32} {x2 : Int32} {S : gS} {H : Heap} {locs : List Loc} {ls : Array Slot} {o : Int32 × gS} (C : gC p s m args meth c cX12_drippingNow 3 RX12 ((some .int)) D (mtys cI cS) mord g Am) (O : gO (mcell g cI cS sa) mord g) (K4 : ∀ (x1 : Int32) (x2 : Int32) (S : gS) (H : Heap) (locs : List Loc) (ls : Array Slot), gX D (mcell g cI cS sa) mord g S s H locs → lv_has ls 3 [(0, .ref (g 99)), (1, .int x1), (2, .int x2)] → r4 x1 x2 S = some o → W p l e (rmd 1) s m args below meth c H locs 0 0 (gE below args s D (mtys cI cS) (mcell g cI cS sa) mord g (some (.int o.1)) o.2) (F0 m 4 ls [])) (X : gX D (mcell g cI cS sa) mord g S s H locs) (hl : lv_has ls 3 [(0, .ref (g 99)), (1, .int x1), (2, .int x2)]) (hF : fX12_drippingNow_b4 N r4 x1 x2 S = some o) : W p l e (rmd 1) s m args below meth c H locs 0 0 (gE below args s D (mtys cI cS) (mcell g cI cS sa) mord g (some (.int o.1)) o.2) (F0 m 4 ls []) := by
  unfold fX12_drippingNow_b4 at hF
  refine lv_iload_n C.1.1 C.1.2.1 dX12_drippingNow_4 rfl (lv_at hl 2 rfl) ?_
  refine lv_aload_n C.1.1 C.1.2.1 dX12_drippingNow_5 rfl (lv_at hl 0 rfl) ?_
  refine m_g5 C X dX12_drippingNow_6 ?_
  refine lv_iconst (v := 0) C.1.1 C.1.2.1 dX12_drippingNow_9 (by decide) ?_
  refine m_r5 C X (j := 0) (inb_vp (by decide)) (by decide) dX12_drippingNow_10 ?_
  refine lv_icmp_ge (tgt := 49) C.1.1 C.1.2.1 dX12_drippingNow_11 (by decide) (fun h_z => ?_) (fun h_z => ?_)
  · rw [if_pos h_z] at hF
    exact bX12_drippingNow_49 C O X (lv_sub hl [0, 1] rfl) hF
  · rw [if_neg h_z] at hF
    exact bX12_drippingNow_14 C O K4 X (lv_sub hl [0, 1, 2] rfl) hF
noncomputable def fX12_drippingNow_h4 (N : Nat) : Nat → Int32 → Int32 → gS → Option (Int32 × gS)
  | 0, _, _, _ => none
  | n + 1, x1, x2, S => fX12_drippingNow_b4 N (fX12_drippingNow_h4 N n) x1 x2 S
theorem hX12_drippingNow_4 {N : Nat} {o : Int32 × gS} (C : gC p s m args meth c cX12_drippingNow 3 RX12 ((some .int)) D (mtys cI cS) mord g Am) (O : gO (mcell g cI cS sa) mord g) : ∀ (n : Nat) (x1 : Int32) (x2 : Int32) (S : gS) (H : Heap) (locs : List Loc) (ls : Array Slot), gX D (mcell g cI cS sa) mord g S s H locs → lv_has ls 3 [(0, .ref (g 99)), (1, .int x1), (2, .int x2)] → fX12_drippingNow_h4 N n x1 x2 S = some o → W p l e (rmd 1) s m args below meth c H locs 0 0 (gE below args s D (mtys cI cS) (mcell g cI cS sa) mord g (some (.int o.1)) o.2) (F0 m 4 ls []) := by
  intro n
  induction n with
  | zero =>
    intro x1 x2 S H locs ls X hl hF
    exact absurd (show (none : Option (Int32 × gS)) = some o from hF) (by simp)
  | succ n ih =>
    intro x1 x2 S H locs ls X hl hF
    have hF : fX12_drippingNow_b4 N (fX12_drippingNow_h4 N n) x1 x2 S = some o := hF
    exact bX12_drippingNow_4 C O ih X hl hF
noncomputable def fX12_drippingNow_b0 (N : Nat) (S : gS) : Option (Int32 × gS) := fX12_drippingNow_h4 N N 0 0 S
theorem bX12_drippingNow_0 {N : Nat} {S : gS} {H : Heap} {locs : List Loc} {ls : Array Slot} {o : Int32 × gS} (C : gC p s m args meth c cX12_drippingNow 3 RX12 ((some .int)) D (mtys cI cS) mord g Am) (O : gO (mcell g cI cS sa) mord g) (X : gX D (mcell g cI cS sa) mord g S s H locs) (hl : lv_has ls 3 [(0, .ref (g 99))]) (hF : fX12_drippingNow_b0 N S = some o) : W p l e (rmd 1) s m args below meth c H locs 0 0 (gE below args s D (mtys cI cS) (mcell g cI cS sa) mord g (some (.int o.1)) o.2) (F0 m 0 ls []) := by
  unfold fX12_drippingNow_b0 at hF
  refine lv_iconst (v := 0) C.1.1 C.1.2.1 dX12_drippingNow_0 (by decide) ?_
  refine lv_istore_n (lv' := [(1, .int 0), (0, .ref (g 99))]) C.1.1 C.1.2.1 dX12_drippingNow_1 rfl hl (by decide) rfl (fun ls hl => ?_)
  refine lv_iconst (v := 0) C.1.1 C.1.2.1 dX12_drippingNow_2 (by decide) ?_
  refine lv_istore_n (lv' := [(2, .int 0), (1, .int 0), (0, .ref (g 99))]) C.1.1 C.1.2.1 dX12_drippingNow_3 rfl hl (by decide) rfl (fun ls hl => ?_)
  exact hX12_drippingNow_4 C O N _ _ _ _ _ _ X (lv_sub hl [2, 1, 0] rfl) hF
noncomputable def fX12_drippingNow (N : Nat) (S : gS) : Option (Int32 × gS) := fX12_drippingNow_b0 N S
theorem kX12_drippingNow {l : Launch} {D : va_G} {g : Nat → Nat} {cI cS : ClassId} {sa : Nat → Nat → Option Nat} {Am : (Nat → Prop) → State → Heap → Prop} (O : gO (mcell g cI cS sa) mord g) (P : gAm Am) (N : Nat) (S : gS) (o : Int32 × gS) (hF : fX12_drippingNow N S = some o) : gM l yX12_drippingNow cX12_drippingNow 3 ((some .int)) 1 D (mtys cI cS) (mcell g cI cS sa) mord g Am [.ref (g 99)] S (some (.int o.1)) o.2 :=
  gM_of O P (by decide) (Nat.le_of_ble_eq_true rfl) (fun p e s m args below meth c ls C X hl => bX12_drippingNow_0 C O X (lv_sub hl [0] rfl) hF)
-- hirerOf
noncomputable def fX12_hirerOf_b30 (N : Nat) (S : gS) : Option (Int32 × gS) := some ((-1), S)
theorem bX12_hirerOf_30 {N : Nat} {S : gS} {H : Heap} {locs : List Loc} {ls : Array Slot} {o : Int32 × gS} (C : gC p s m args meth c cX12_hirerOf 3 RX12 ((some .int)) D (mtys cI cS) mord g Am) (O : gO (mcell g cI cS sa) mord g) (X : gX D (mcell g cI cS sa) mord g S s H locs) (hl : lv_has ls 3 []) (hF : fX12_hirerOf_b30 N S = some o) : W p l e (rmd 0) s m args below meth c H locs 0 0 (gE below args s D (mtys cI cS) (mcell g cI cS sa) mord g (some (.int o.1)) o.2) (F0 m 30 ls []) := by
  unfold fX12_hirerOf_b30 at hF
  refine lv_iconst (v := (-1)) C.1.1 C.1.2.1 dX12_hirerOf_30 (by decide) ?_
  cases hF
  exact g_iret C X dX12_hirerOf_31
noncomputable def fX12_hirerOf_b24 (N : Nat) (r2 : Int32 → Int32 → gS → Option (Int32 × gS)) (x1 : Int32) (x2 : Int32) (S : gS) : Option (Int32 × gS) := r2 x1 ((x2 + 1 : Int32)) S
theorem bX12_hirerOf_24 {N : Nat} {r2 : Int32 → Int32 → gS → Option (Int32 × gS)} {x1 : Int32} {x2 : Int32} {S : gS} {H : Heap} {locs : List Loc} {ls : Array Slot} {o : Int32 × gS} (C : gC p s m args meth c cX12_hirerOf 3 RX12 ((some .int)) D (mtys cI cS) mord g Am) (O : gO (mcell g cI cS sa) mord g) (K2 : ∀ (x1 : Int32) (x2 : Int32) (S : gS) (H : Heap) (locs : List Loc) (ls : Array Slot), gX D (mcell g cI cS sa) mord g S s H locs → lv_has ls 3 [(0, .ref (g 99)), (1, .int x1), (2, .int x2)] → r2 x1 x2 S = some o → W p l e (rmd 0) s m args below meth c H locs 0 0 (gE below args s D (mtys cI cS) (mcell g cI cS sa) mord g (some (.int o.1)) o.2) (F0 m 2 ls [])) (X : gX D (mcell g cI cS sa) mord g S s H locs) (hl : lv_has ls 3 [(0, .ref (g 99)), (1, .int x1), (2, .int x2)]) (hF : fX12_hirerOf_b24 N r2 x1 x2 S = some o) : W p l e (rmd 0) s m args below meth c H locs 0 0 (gE below args s D (mtys cI cS) (mcell g cI cS sa) mord g (some (.int o.1)) o.2) (F0 m 24 ls []) := by
  unfold fX12_hirerOf_b24 at hF
  refine lv_iinc (v := (x2 + 1 : Int32)) (lv' := [(2, .int ((x2 + 1 : Int32))), (0, .ref (g 99)), (1, .int x1)]) C.1.1 C.1.2.1 dX12_hirerOf_24 hl (k := 2) rfl rfl (by decide) rfl (fun ls hl => ?_)
  refine lv_goto (tgt := 2) C.1.1 C.1.2.1 dX12_hirerOf_27 (by decide) ?_
  exact K2 _ _ _ _ _ _ X (lv_sub hl [1, 2, 0] rfl) hF
noncomputable def fX12_hirerOf_b22 (N : Nat) (x2 : Int32) (S : gS) : Option (Int32 × gS) := some (x2, S)
theorem bX12_hirerOf_22 {N : Nat} {x2 : Int32} {S : gS} {H : Heap} {locs : List Loc} {ls : Array Slot} {o : Int32 × gS} (C : gC p s m args meth c cX12_hirerOf 3 RX12 ((some .int)) D (mtys cI cS) mord g Am) (O : gO (mcell g cI cS sa) mord g) (X : gX D (mcell g cI cS sa) mord g S s H locs) (hl : lv_has ls 3 [(2, .int x2)]) (hF : fX12_hirerOf_b22 N x2 S = some o) : W p l e (rmd 0) s m args below meth c H locs 0 0 (gE below args s D (mtys cI cS) (mcell g cI cS sa) mord g (some (.int o.1)) o.2) (F0 m 22 ls []) := by
  unfold fX12_hirerOf_b22 at hF
  refine lv_iload_n C.1.1 C.1.2.1 dX12_hirerOf_22 rfl (lv_at hl 0 rfl) ?_
  cases hF
  exact g_iret C X dX12_hirerOf_23
noncomputable def fX12_hirerOf_b12 (N : Nat) (r2 : Int32 → Int32 → gS → Option (Int32 × gS)) (x1 : Int32) (x2 : Int32) (S : gS) : Option (Int32 × gS) := chk (inb x2 (6)) (if (S 35 (Int32.toNatClampNeg x2)) = x1 then fX12_hirerOf_b22 N x2 S else fX12_hirerOf_b24 N r2 x1 x2 S)
theorem bX12_hirerOf_12 {N : Nat} {r2 : Int32 → Int32 → gS → Option (Int32 × gS)} {x1 : Int32} {x2 : Int32} {S : gS} {H : Heap} {locs : List Loc} {ls : Array Slot} {o : Int32 × gS} (C : gC p s m args meth c cX12_hirerOf 3 RX12 ((some .int)) D (mtys cI cS) mord g Am) (O : gO (mcell g cI cS sa) mord g) (K2 : ∀ (x1 : Int32) (x2 : Int32) (S : gS) (H : Heap) (locs : List Loc) (ls : Array Slot), gX D (mcell g cI cS sa) mord g S s H locs → lv_has ls 3 [(0, .ref (g 99)), (1, .int x1), (2, .int x2)] → r2 x1 x2 S = some o → W p l e (rmd 0) s m args below meth c H locs 0 0 (gE below args s D (mtys cI cS) (mcell g cI cS sa) mord g (some (.int o.1)) o.2) (F0 m 2 ls [])) (X : gX D (mcell g cI cS sa) mord g S s H locs) (hl : lv_has ls 3 [(0, .ref (g 99)), (1, .int x1), (2, .int x2)]) (hF : fX12_hirerOf_b12 N r2 x1 x2 S = some o) : W p l e (rmd 0) s m args below meth c H locs 0 0 (gE below args s D (mtys cI cS) (mcell g cI cS sa) mord g (some (.int o.1)) o.2) (F0 m 12 ls []) := by
  unfold fX12_hirerOf_b12 at hF
  refine lv_aload_n C.1.1 C.1.2.1 dX12_hirerOf_12 rfl (lv_at hl 0 rfl) ?_
  refine m_g35 C X dX12_hirerOf_13 ?_
  refine lv_iload_n C.1.1 C.1.2.1 dX12_hirerOf_16 rfl (lv_at hl 2 rfl) ?_
  obtain ⟨h_1, hF⟩ := chk_some hF
  refine m_r35 C X  (inb_vp h_1) rfl dX12_hirerOf_17 ?_
  refine lv_iload_n C.1.1 C.1.2.1 dX12_hirerOf_18 rfl (lv_at hl 1 rfl) ?_
  refine lv_icmp_ne (tgt := 24) C.1.1 C.1.2.1 dX12_hirerOf_19 (by decide) (fun h_z => ?_) (fun h_z => ?_)
  · rw [if_neg h_z] at hF
    exact bX12_hirerOf_24 C O K2 X (lv_sub hl [0, 1, 2] rfl) hF
  · rw [if_pos h_z] at hF
    exact bX12_hirerOf_22 C O X (lv_sub hl [2] rfl) hF
noncomputable def fX12_hirerOf_b2 (N : Nat) (r2 : Int32 → Int32 → gS → Option (Int32 × gS)) (x1 : Int32) (x2 : Int32) (S : gS) : Option (Int32 × gS) := if (S 5 1) ≤ x2 then fX12_hirerOf_b30 N S else fX12_hirerOf_b12 N r2 x1 x2 S
theorem bX12_hirerOf_2 {N : Nat} {r2 : Int32 → Int32 → gS → Option (Int32 × gS)} {x1 : Int32} {x2 : Int32} {S : gS} {H : Heap} {locs : List Loc} {ls : Array Slot} {o : Int32 × gS} (C : gC p s m args meth c cX12_hirerOf 3 RX12 ((some .int)) D (mtys cI cS) mord g Am) (O : gO (mcell g cI cS sa) mord g) (K2 : ∀ (x1 : Int32) (x2 : Int32) (S : gS) (H : Heap) (locs : List Loc) (ls : Array Slot), gX D (mcell g cI cS sa) mord g S s H locs → lv_has ls 3 [(0, .ref (g 99)), (1, .int x1), (2, .int x2)] → r2 x1 x2 S = some o → W p l e (rmd 0) s m args below meth c H locs 0 0 (gE below args s D (mtys cI cS) (mcell g cI cS sa) mord g (some (.int o.1)) o.2) (F0 m 2 ls [])) (X : gX D (mcell g cI cS sa) mord g S s H locs) (hl : lv_has ls 3 [(0, .ref (g 99)), (1, .int x1), (2, .int x2)]) (hF : fX12_hirerOf_b2 N r2 x1 x2 S = some o) : W p l e (rmd 0) s m args below meth c H locs 0 0 (gE below args s D (mtys cI cS) (mcell g cI cS sa) mord g (some (.int o.1)) o.2) (F0 m 2 ls []) := by
  unfold fX12_hirerOf_b2 at hF
  refine lv_iload_n C.1.1 C.1.2.1 dX12_hirerOf_2 rfl (lv_at hl 2 rfl) ?_
  refine lv_aload_n C.1.1 C.1.2.1 dX12_hirerOf_3 rfl (lv_at hl 0 rfl) ?_
  refine m_g5 C X dX12_hirerOf_4 ?_
  refine lv_iconst (v := 1) C.1.1 C.1.2.1 dX12_hirerOf_7 (by decide) ?_
  refine m_r5 C X (j := 1) (inb_vp (by decide)) (by decide) dX12_hirerOf_8 ?_
  refine lv_icmp_ge (tgt := 30) C.1.1 C.1.2.1 dX12_hirerOf_9 (by decide) (fun h_z => ?_) (fun h_z => ?_)
  · rw [if_pos h_z] at hF
    exact bX12_hirerOf_30 C O X (lv_sub hl [] rfl) hF
  · rw [if_neg h_z] at hF
    exact bX12_hirerOf_12 C O K2 X (lv_sub hl [0, 1, 2] rfl) hF
noncomputable def fX12_hirerOf_h2 (N : Nat) : Nat → Int32 → Int32 → gS → Option (Int32 × gS)
  | 0, _, _, _ => none
  | n + 1, x1, x2, S => fX12_hirerOf_b2 N (fX12_hirerOf_h2 N n) x1 x2 S
theorem hX12_hirerOf_2 {N : Nat} {o : Int32 × gS} (C : gC p s m args meth c cX12_hirerOf 3 RX12 ((some .int)) D (mtys cI cS) mord g Am) (O : gO (mcell g cI cS sa) mord g) : ∀ (n : Nat) (x1 : Int32) (x2 : Int32) (S : gS) (H : Heap) (locs : List Loc) (ls : Array Slot), gX D (mcell g cI cS sa) mord g S s H locs → lv_has ls 3 [(0, .ref (g 99)), (1, .int x1), (2, .int x2)] → fX12_hirerOf_h2 N n x1 x2 S = some o → W p l e (rmd 0) s m args below meth c H locs 0 0 (gE below args s D (mtys cI cS) (mcell g cI cS sa) mord g (some (.int o.1)) o.2) (F0 m 2 ls []) := by
  intro n
  induction n with
  | zero =>
    intro x1 x2 S H locs ls X hl hF
    exact absurd (show (none : Option (Int32 × gS)) = some o from hF) (by simp)
  | succ n ih =>
    intro x1 x2 S H locs ls X hl hF
    have hF : fX12_hirerOf_b2 N (fX12_hirerOf_h2 N n) x1 x2 S = some o := hF
    exact bX12_hirerOf_2 C O ih X hl hF
noncomputable def fX12_hirerOf_b0 (N : Nat) (x1 : Int32) (S : gS) : Option (Int32 × gS) := fX12_hirerOf_h2 N N x1 0 S
theorem bX12_hirerOf_0 {N : Nat} {x1 : Int32} {S : gS} {H : Heap} {locs : List Loc} {ls : Array Slot} {o : Int32 × gS} (C : gC p s m args meth c cX12_hirerOf 3 RX12 ((some .int)) D (mtys cI cS) mord g Am) (O : gO (mcell g cI cS sa) mord g) (X : gX D (mcell g cI cS sa) mord g S s H locs) (hl : lv_has ls 3 [(0, .ref (g 99)), (1, .int x1)]) (hF : fX12_hirerOf_b0 N x1 S = some o) : W p l e (rmd 0) s m args below meth c H locs 0 0 (gE below args s D (mtys cI cS) (mcell g cI cS sa) mord g (some (.int o.1)) o.2) (F0 m 0 ls []) := by
  unfold fX12_hirerOf_b0 at hF
  refine lv_iconst (v := 0) C.1.1 C.1.2.1 dX12_hirerOf_0 (by decide) ?_
  refine lv_istore_n (lv' := [(2, .int 0), (0, .ref (g 99)), (1, .int x1)]) C.1.1 C.1.2.1 dX12_hirerOf_1 rfl hl (by decide) rfl (fun ls hl => ?_)
  exact hX12_hirerOf_2 C O N _ _ _ _ _ _ X (lv_sub hl [1, 2, 0] rfl) hF
noncomputable def fX12_hirerOf (N : Nat) (x1 : Int32) (S : gS) : Option (Int32 × gS) := fX12_hirerOf_b0 N x1 S
theorem kX12_hirerOf {l : Launch} {D : va_G} {g : Nat → Nat} {cI cS : ClassId} {sa : Nat → Nat → Option Nat} {Am : (Nat → Prop) → State → Heap → Prop} (O : gO (mcell g cI cS sa) mord g) (P : gAm Am) (N : Nat) (x1 : Int32) (S : gS) (o : Int32 × gS) (hF : fX12_hirerOf N x1 S = some o) : gM l yX12_hirerOf cX12_hirerOf 3 ((some .int)) 0 D (mtys cI cS) (mcell g cI cS sa) mord g Am [.ref (g 99), .int x1] S (some (.int o.1)) o.2 :=
  gM_of O P (by decide) (Nat.le_of_ble_eq_true rfl) (fun p e s m args below meth c ls C X hl => bX12_hirerOf_0 C O X (lv_sub hl [0, 1] rfl) hF)
end

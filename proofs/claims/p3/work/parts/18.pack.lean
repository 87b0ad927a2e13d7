/-! part 13.x02 -/
section
/-! the class's methods as maps of states, and their walks (printed by wip/whole/mkx.py) -/
section
variable {p : Program} {l : Launch} {e : Env} {s : State} {m : MethodId} {args : Array Value} {below : List Frame} {meth : Method} {c : Code} {D : va_G} {g : Nat → Nat} {cI cB cZ cQ : ClassId} {Am : (Nat → Prop) → State → Heap → Prop}
-- X11.isWithin
noncomputable def fX11_isWithin_b15 (N : Nat) (t0 : Int32) (S : gS) : Option (Int32 × gS) := chk (zb t0) (some (t0, S))
theorem bX11_isWithin_15 {N : Nat} {t0 : Int32} {S : gS} {H : Heap} {locs : List Loc} {ls : Array Slot} {o : Int32 × gS} (C : gC p s m args meth c cX11_isWithin 3 RX11 ((some .boolean)) D (xtys cI cB cZ cQ) xord g Am) (O : xO g cI cB cZ cQ Am) (X : gX D (xcell g cI cB cZ cQ) xord g S s H locs) (hl : lv_has ls 3 []) (hF : fX11_isWithin_b15 N t0 S = some o) : W p l e (rmd 0) s m args below meth c H locs 0 0 (gE below args s D (xtys cI cB cZ cQ) (xcell g cI cB cZ cQ) xord g (some (.int o.1)) o.2) (F0 m 15 ls [.int t0]) := by
  unfold fX11_isWithin_b15 at hF
  obtain ⟨h_1, hF⟩ := chk_some hF
  cases hF
  exact g_zret C X h_1 dX11_isWithin_15
noncomputable def fX11_isWithin_b14 (N : Nat) (S : gS) : Option (Int32 × gS) := fX11_isWithin_b15 N 0 S
theorem bX11_isWithin_14 {N : Nat} {S : gS} {H : Heap} {locs : List Loc} {ls : Array Slot} {o : Int32 × gS} (C : gC p s m args meth c cX11_isWithin 3 RX11 ((some .boolean)) D (xtys cI cB cZ cQ) xord g Am) (O : xO g cI cB cZ cQ Am) (X : gX D (xcell g cI cB cZ cQ) xord g S s H locs) (hl : lv_has ls 3 []) (hF : fX11_isWithin_b14 N S = some o) : W p l e (rmd 0) s m args below meth c H locs 0 0 (gE below args s D (xtys cI cB cZ cQ) (xcell g cI cB cZ cQ) xord g (some (.int o.1)) o.2) (F0 m 14 ls []) := by
  unfold fX11_isWithin_b14 at hF
  refine lv_iconst (v := 0) C.1.1 C.1.2.1 dX11_isWithin_14 (by decide) ?_
  exact bX11_isWithin_15 C O X (lv_sub hl [] rfl) hF
noncomputable def fX11_isWithin_b10 (N : Nat) (S : gS) : Option (Int32 × gS) := fX11_isWithin_b15 N 1 S
theorem bX11_isWithin_10 {N : Nat} {S : gS} {H : Heap} {locs : List Loc} {ls : Array Slot} {o : Int32 × gS} (C : gC p s m args meth c cX11_isWithin 3 RX11 ((some .boolean)) D (xtys cI cB cZ cQ) xord g Am) (O : xO g cI cB cZ cQ Am) (X : gX D (xcell g cI cB cZ cQ) xord g S s H locs) (hl : lv_has ls 3 []) (hF : fX11_isWithin_b10 N S = some o) : W p l e (rmd 0) s m args below meth c H locs 0 0 (gE below args s D (xtys cI cB cZ cQ) (xcell g cI cB cZ cQ) xord g (some (.int o.1)) o.2) (F0 m 10 ls []) := by
  unfold fX11_isWithin_b10 at hF
  refine lv_iconst (v := 1) C.1.1 C.1.2.1 dX11_isWithin_10 (by decide) ?_
  refine lv_goto (tgt := 15) C.1.1 C.1.2.1 dX11_isWithin_11 (by decide) ?_
  exact bX11_isWithin_15 C O X (lv_sub hl [] rfl) hF
noncomputable def fX11_isWithin_b5 (N : Nat) (x0 : Int32) (x2 : Int32) (S : gS) : Option (Int32 × gS) := if x2 < x0 then fX11_isWithin_b14 N S else fX11_isWithin_b10 N S
theorem bX11_isWithin_5 {N : Nat} {x0 : Int32} {x2 : Int32} {S : gS} {H : Heap} {locs : List Loc} {ls : Array Slot} {o : Int32 × gS} (C : gC p s m args meth c cX11_isWithin 3 RX11 ((some .boolean)) D (xtys cI cB cZ cQ) xord g Am) (O : xO g cI cB cZ cQ Am) (X : gX D (xcell g cI cB cZ cQ) xord g S s H locs) (hl : lv_has ls 3 [(0, .int x0), (2, .int x2)]) (hF : fX11_isWithin_b5 N x0 x2 S = some o) : W p l e (rmd 0) s m args below meth c H locs 0 0 (gE below args s D (xtys cI cB cZ cQ) (xcell g cI cB cZ cQ) xord g (some (.int o.1)) o.2) (F0 m 5 ls []) := by
  unfold fX11_isWithin_b5 at hF
  refine lv_iload_n C.1.1 C.1.2.1 dX11_isWithin_5 rfl (lv_at hl 0 rfl) ?_
  refine lv_iload_n C.1.1 C.1.2.1 dX11_isWithin_6 rfl (lv_at hl 1 rfl) ?_
  refine lv_icmp_gt (tgt := 14) C.1.1 C.1.2.1 dX11_isWithin_7 (by decide) (fun h_z => ?_) (fun h_z => ?_)
  · rw [if_pos h_z] at hF
    exact bX11_isWithin_14 C O X (lv_sub hl [] rfl) hF
  · rw [if_neg h_z] at hF
    exact bX11_isWithin_10 C O X (lv_sub hl [] rfl) hF
noncomputable def fX11_isWithin_b0 (N : Nat) (x0 : Int32) (x1 : Int32) (x2 : Int32) (S : gS) : Option (Int32 × gS) := if x0 < x1 then fX11_isWithin_b14 N S else fX11_isWithin_b5 N x0 x2 S
theorem bX11_isWithin_0 {N : Nat} {x0 : Int32} {x1 : Int32} {x2 : Int32} {S : gS} {H : Heap} {locs : List Loc} {ls : Array Slot} {o : Int32 × gS} (C : gC p s m args meth c cX11_isWithin 3 RX11 ((some .boolean)) D (xtys cI cB cZ cQ) xord g Am) (O : xO g cI cB cZ cQ Am) (X : gX D (xcell g cI cB cZ cQ) xord g S s H locs) (hl : lv_has ls 3 [(0, .int x0), (1, .int x1), (2, .int x2)]) (hF : fX11_isWithin_b0 N x0 x1 x2 S = some o) : W p l e (rmd 0) s m args below meth c H locs 0 0 (gE below args s D (xtys cI cB cZ cQ) (xcell g cI cB cZ cQ) xord g (some (.int o.1)) o.2) (F0 m 0 ls []) := by
  unfold fX11_isWithin_b0 at hF
  refine lv_iload_n C.1.1 C.1.2.1 dX11_isWithin_0 rfl (lv_at hl 0 rfl) ?_
  refine lv_iload_n C.1.1 C.1.2.1 dX11_isWithin_1 rfl (lv_at hl 1 rfl) ?_
  refine lv_icmp_lt (tgt := 14) C.1.1 C.1.2.1 dX11_isWithin_2 (by decide) (fun h_z => ?_) (fun h_z => ?_)
  · rw [if_pos h_z] at hF
    exact bX11_isWithin_14 C O X (lv_sub hl [] rfl) hF
  · rw [if_neg h_z] at hF
    exact bX11_isWithin_5 C O X (lv_sub hl [0, 2] rfl) hF
noncomputable def fX11_isWithin (N : Nat) (x0 : Int32) (x1 : Int32) (x2 : Int32) (S : gS) : Option (Int32 × gS) := fX11_isWithin_b0 N x0 x1 x2 S
theorem kX11_isWithin {l : Launch} {D : va_G} {g : Nat → Nat} {cI cB cZ cQ : ClassId} {Am : (Nat → Prop) → State → Heap → Prop} (O : xO g cI cB cZ cQ Am) (P : gAm Am) (N : Nat) (x0 : Int32) (x1 : Int32) (x2 : Int32) (S : gS) (o : Int32 × gS) (hF : fX11_isWithin N x0 x1 x2 S = some o) : gM l yX11_isWithin cX11_isWithin 3 ((some .boolean)) 0 D (xtys cI cB cZ cQ) (xcell g cI cB cZ cQ) xord g Am [.int x0, .int x1, .int x2] S (some (.int o.1)) o.2 :=
  gM_of O.1 P (by decide) (Nat.le_of_ble_eq_true rfl) (fun p e s m args below meth c ls C X hl => bX11_isWithin_0 C O X (lv_sub hl [0, 1, 2] rfl) hF)
-- X11.isOneOf
noncomputable def fX11_isOneOf_b13 (N : Nat) (t0 : Int32) (S : gS) : Option (Int32 × gS) := chk (zb t0) (some (t0, S))
theorem bX11_isOneOf_13 {N : Nat} {t0 : Int32} {S : gS} {H : Heap} {locs : List Loc} {ls : Array Slot} {o : Int32 × gS} (C : gC p s m args meth c cX11_isOneOf 2 RX11 ((some .boolean)) D (xtys cI cB cZ cQ) xord g Am) (O : xO g cI cB cZ cQ Am) (X : gX D (xcell g cI cB cZ cQ) xord g S s H locs) (hl : lv_has ls 2 []) (hF : fX11_isOneOf_b13 N t0 S = some o) : W p l e (rmd 0) s m args below meth c H locs 0 0 (gE below args s D (xtys cI cB cZ cQ) (xcell g cI cB cZ cQ) xord g (some (.int o.1)) o.2) (F0 m 13 ls [.int t0]) := by
  unfold fX11_isOneOf_b13 at hF
  obtain ⟨h_1, hF⟩ := chk_some hF
  cases hF
  exact g_zret C X h_1 dX11_isOneOf_13
noncomputable def fX11_isOneOf_b12 (N : Nat) (S : gS) : Option (Int32 × gS) := fX11_isOneOf_b13 N 0 S
theorem bX11_isOneOf_12 {N : Nat} {S : gS} {H : Heap} {locs : List Loc} {ls : Array Slot} {o : Int32 × gS} (C : gC p s m args meth c cX11_isOneOf 2 RX11 ((some .boolean)) D (xtys cI cB cZ cQ) xord g Am) (O : xO g cI cB cZ cQ Am) (X : gX D (xcell g cI cB cZ cQ) xord g S s H locs) (hl : lv_has ls 2 []) (hF : fX11_isOneOf_b12 N S = some o) : W p l e (rmd 0) s m args below meth c H locs 0 0 (gE below args s D (xtys cI cB cZ cQ) (xcell g cI cB cZ cQ) xord g (some (.int o.1)) o.2) (F0 m 12 ls []) := by
  unfold fX11_isOneOf_b12 at hF
  refine lv_iconst (v := 0) C.1.1 C.1.2.1 dX11_isOneOf_12 (by decide) ?_
  exact bX11_isOneOf_13 C O X (lv_sub hl [] rfl) hF
noncomputable def fX11_isOneOf_b8 (N : Nat) (S : gS) : Option (Int32 × gS) := fX11_isOneOf_b13 N 1 S
theorem bX11_isOneOf_8 {N : Nat} {S : gS} {H : Heap} {locs : List Loc} {ls : Array Slot} {o : Int32 × gS} (C : gC p s m args meth c cX11_isOneOf 2 RX11 ((some .boolean)) D (xtys cI cB cZ cQ) xord g Am) (O : xO g cI cB cZ cQ Am) (X : gX D (xcell g cI cB cZ cQ) xord g S s H locs) (hl : lv_has ls 2 []) (hF : fX11_isOneOf_b8 N S = some o) : W p l e (rmd 0) s m args below meth c H locs 0 0 (gE below args s D (xtys cI cB cZ cQ) (xcell g cI cB cZ cQ) xord g (some (.int o.1)) o.2) (F0 m 8 ls []) := by
  unfold fX11_isOneOf_b8 at hF
  refine lv_iconst (v := 1) C.1.1 C.1.2.1 dX11_isOneOf_8 (by decide) ?_
  refine lv_goto (tgt := 13) C.1.1 C.1.2.1 dX11_isOneOf_9 (by decide) ?_
  exact bX11_isOneOf_13 C O X (lv_sub hl [] rfl) hF
noncomputable def fX11_isOneOf_b0 (N : Nat) (x0 : Int32) (x1 : Int32) (S : gS) : Option (Int32 × gS) := if ((((x0 >>> (x1 &&& 31) : Int32)) &&& 1 : Int32)) = 0 then fX11_isOneOf_b12 N S else fX11_isOneOf_b8 N S
theorem bX11_isOneOf_0 {N : Nat} {x0 : Int32} {x1 : Int32} {S : gS} {H : Heap} {locs : List Loc} {ls : Array Slot} {o : Int32 × gS} (C : gC p s m args meth c cX11_isOneOf 2 RX11 ((some .boolean)) D (xtys cI cB cZ cQ) xord g Am) (O : xO g cI cB cZ cQ Am) (X : gX D (xcell g cI cB cZ cQ) xord g S s H locs) (hl : lv_has ls 2 [(0, .int x0), (1, .int x1)]) (hF : fX11_isOneOf_b0 N x0 x1 S = some o) : W p l e (rmd 0) s m args below meth c H locs 0 0 (gE below args s D (xtys cI cB cZ cQ) (xcell g cI cB cZ cQ) xord g (some (.int o.1)) o.2) (F0 m 0 ls []) := by
  unfold fX11_isOneOf_b0 at hF
  refine lv_iload_n C.1.1 C.1.2.1 dX11_isOneOf_0 rfl (lv_at hl 0 rfl) ?_
  refine lv_iload_n C.1.1 C.1.2.1 dX11_isOneOf_1 rfl (lv_at hl 1 rfl) ?_
  refine lv_ishr C.1.1 C.1.2.1 dX11_isOneOf_2 ?_
  refine lv_iconst (v := 1) C.1.1 C.1.2.1 dX11_isOneOf_3 (by decide) ?_
  refine lv_iand C.1.1 C.1.2.1 dX11_isOneOf_4 ?_
  refine lv_if_eq (tgt := 12) C.1.1 C.1.2.1 dX11_isOneOf_5 (by decide) (fun h_z => ?_) (fun h_z => ?_)
  · rw [if_pos h_z] at hF
    exact bX11_isOneOf_12 C O X (lv_sub hl [] rfl) hF
  · rw [if_neg h_z] at hF
    exact bX11_isOneOf_8 C O X (lv_sub hl [] rfl) hF
noncomputable def fX11_isOneOf (N : Nat) (x0 : Int32) (x1 : Int32) (S : gS) : Option (Int32 × gS) := fX11_isOneOf_b0 N x0 x1 S
theorem kX11_isOneOf {l : Launch} {D : va_G} {g : Nat → Nat} {cI cB cZ cQ : ClassId} {Am : (Nat → Prop) → State → Heap → Prop} (O : xO g cI cB cZ cQ Am) (P : gAm Am) (N : Nat) (x0 : Int32) (x1 : Int32) (S : gS) (o : Int32 × gS) (hF : fX11_isOneOf N x0 x1 S = some o) : gM l yX11_isOneOf cX11_isOneOf 2 ((some .boolean)) 0 D (xtys cI cB cZ cQ) (xcell g cI cB cZ cQ) xord g Am [.int x0, .int x1] S (some (.int o.1)) o.2 :=
  gM_of O.1 P (by decide) (Nat.le_of_ble_eq_true rfl) (fun p e s m args below meth c ls C X hl => bX11_isOneOf_0 C O X (lv_sub hl [0, 1] rfl) hF)
-- X11.nextOf
noncomputable def fX11_nextOf_b60 (N : Nat) (S : gS) : Option (Int32 × gS) := some ((-1), S)
theorem bX11_nextOf_60 {N : Nat} {S : gS} {H : Heap} {locs : List Loc} {ls : Array Slot} {o : Int32 × gS} (C : gC p s m args meth c cX11_nextOf 6 RX11 ((some .int)) D (xtys cI cB cZ cQ) xord g Am) (O : xO g cI cB cZ cQ Am) (X : gX D (xcell g cI cB cZ cQ) xord g S s H locs) (hl : lv_has ls 6 []) (hF : fX11_nextOf_b60 N S = some o) : W p l e (rmd 2) s m args below meth c H locs 0 0 (gE below args s D (xtys cI cB cZ cQ) (xcell g cI cB cZ cQ) xord g (some (.int o.1)) o.2) (F0 m 60 ls []) := by
  unfold fX11_nextOf_b60 at hF
  refine lv_iconst (v := (-1)) C.1.1 C.1.2.1 dX11_nextOf_60 (by decide) ?_
  cases hF
  exact g_iret C X dX11_nextOf_61
noncomputable def fX11_nextOf_b54 (N : Nat) (r3 : Int32 → Int32 → Int32 → Int32 → gS → Option (Int32 × gS)) (x1 : Int32) (x2 : Int32) (x3 : Int32) (x4 : Int32) (S : gS) : Option (Int32 × gS) := r3 x1 x2 x3 ((x4 + 1 : Int32)) S
theorem bX11_nextOf_54 {N : Nat} {r3 : Int32 → Int32 → Int32 → Int32 → gS → Option (Int32 × gS)} {x1 : Int32} {x2 : Int32} {x3 : Int32} {x4 : Int32} {S : gS} {H : Heap} {locs : List Loc} {ls : Array Slot} {o : Int32 × gS} (C : gC p s m args meth c cX11_nextOf 6 RX11 ((some .int)) D (xtys cI cB cZ cQ) xord g Am) (O : xO g cI cB cZ cQ Am) (K3 : ∀ (x1 : Int32) (x2 : Int32) (x3 : Int32) (x4 : Int32) (S : gS) (H : Heap) (locs : List Loc) (ls : Array Slot), gX D (xcell g cI cB cZ cQ) xord g S s H locs → lv_has ls 6 [(0, .ref (g 0)), (1, .int x1), (2, .int x2), (3, .int x3), (4, .int x4)] → r3 x1 x2 x3 x4 S = some o → W p l e (rmd 2) s m args below meth c H locs 0 0 (gE below args s D (xtys cI cB cZ cQ) (xcell g cI cB cZ cQ) xord g (some (.int o.1)) o.2) (F0 m 3 ls [])) (X : gX D (xcell g cI cB cZ cQ) xord g S s H locs) (hl : lv_has ls 6 [(0, .ref (g 0)), (1, .int x1), (2, .int x2), (3, .int x3), (4, .int x4)]) (hF : fX11_nextOf_b54 N r3 x1 x2 x3 x4 S = some o) : W p l e (rmd 2) s m args below meth c H locs 0 0 (gE below args s D (xtys cI cB cZ cQ) (xcell g cI cB cZ cQ) xord g (some (.int o.1)) o.2) (F0 m 54 ls []) := by
  unfold fX11_nextOf_b54 at hF
  refine lv_iinc (v := (x4 + 1 : Int32)) (lv' := [(4, .int ((x4 + 1 : Int32))), (0, .ref (g 0)), (1, .int x1), (2, .int x2), (3, .int x3)]) C.1.1 C.1.2.1 dX11_nextOf_54 hl (k := 4) rfl rfl (by decide) rfl (fun ls hl => ?_)
  refine lv_goto (tgt := 3) C.1.1 C.1.2.1 dX11_nextOf_57 (by decide) ?_
  exact K3 _ _ _ _ _ _ _ _ X (lv_sub hl [1, 2, 3, 4, 0] rfl) hF
noncomputable def fX11_nextOf_b51 (N : Nat) (x5 : Int32) (S : gS) : Option (Int32 × gS) := some (x5, S)
theorem bX11_nextOf_51 {N : Nat} {x5 : Int32} {S : gS} {H : Heap} {locs : List Loc} {ls : Array Slot} {o : Int32 × gS} (C : gC p s m args meth c cX11_nextOf 6 RX11 ((some .int)) D (xtys cI cB cZ cQ) xord g Am) (O : xO g cI cB cZ cQ Am) (X : gX D (xcell g cI cB cZ cQ) xord g S s H locs) (hl : lv_has ls 6 [(5, .int x5)]) (hF : fX11_nextOf_b51 N x5 S = some o) : W p l e (rmd 2) s m args below meth c H locs 0 0 (gE below args s D (xtys cI cB cZ cQ) (xcell g cI cB cZ cQ) xord g (some (.int o.1)) o.2) (F0 m 51 ls []) := by
  unfold fX11_nextOf_b51 at hF
  refine lv_iload C.1.1 C.1.2.1 dX11_nextOf_51 (lv_at hl 0 rfl) ?_
  cases hF
  exact g_iret C X dX11_nextOf_53
noncomputable def fX11_nextOf_b17 (N : Nat) (r3 : Int32 → Int32 → Int32 → Int32 → gS → Option (Int32 × gS)) (x1 : Int32) (x2 : Int32) (x3 : Int32) (x4 : Int32) (S : gS) : Option (Int32 × gS) := lt (xtw S) fun T1 => (bnd (fX9_comesRound N T1 x1 (((((S 21 0) + ((x2 + ((x4 * x3 : Int32)) : Int32)) : Int32)) - 1 : Int32)) S) fun q1 => (if q1.1 = 0 then fX11_nextOf_b54 N r3 x1 x2 x3 x4 q1.2 else fX11_nextOf_b51 N ((x2 + ((x4 * x3 : Int32)) : Int32)) q1.2))
theorem bX11_nextOf_17 {N : Nat} {r3 : Int32 → Int32 → Int32 → Int32 → gS → Option (Int32 × gS)} {x1 : Int32} {x2 : Int32} {x3 : Int32} {x4 : Int32} {S : gS} {H : Heap} {locs : List Loc} {ls : Array Slot} {o : Int32 × gS} (C : gC p s m args meth c cX11_nextOf 6 RX11 ((some .int)) D (xtys cI cB cZ cQ) xord g Am) (O : xO g cI cB cZ cQ Am) (K3 : ∀ (x1 : Int32) (x2 : Int32) (x3 : Int32) (x4 : Int32) (S : gS) (H : Heap) (locs : List Loc) (ls : Array Slot), gX D (xcell g cI cB cZ cQ) xord g S s H locs → lv_has ls 6 [(0, .ref (g 0)), (1, .int x1), (2, .int x2), (3, .int x3), (4, .int x4)] → r3 x1 x2 x3 x4 S = some o → W p l e (rmd 2) s m args below meth c H locs 0 0 (gE below args s D (xtys cI cB cZ cQ) (xcell g cI cB cZ cQ) xord g (some (.int o.1)) o.2) (F0 m 3 ls [])) (X : gX D (xcell g cI cB cZ cQ) xord g S s H locs) (hl : lv_has ls 6 [(0, .ref (g 0)), (1, .int x1), (2, .int x2), (3, .int x3), (4, .int x4)]) (hF : fX11_nextOf_b17 N r3 x1 x2 x3 x4 S = some o) : W p l e (rmd 2) s m args below meth c H locs 0 0 (gE below args s D (xtys cI cB cZ cQ) (xcell g cI cB cZ cQ) xord g (some (.int o.1)) o.2) (F0 m 17 ls []) := by
  unfold fX11_nextOf_b17 at hF
  refine lv_iload_n C.1.1 C.1.2.1 dX11_nextOf_17 rfl (lv_at hl 2 rfl) ?_
  refine lv_iload C.1.1 C.1.2.1 dX11_nextOf_18 (lv_at hl 4 rfl) ?_
  refine lv_iload_n C.1.1 C.1.2.1 dX11_nextOf_20 rfl (lv_at hl 3 rfl) ?_
  refine lv_imul C.1.1 C.1.2.1 dX11_nextOf_21 ?_
  refine lv_iadd C.1.1 C.1.2.1 dX11_nextOf_22 ?_
  refine lv_istore (lv' := [(5, .int ((x2 + ((x4 * x3 : Int32)) : Int32))), (0, .ref (g 0)), (1, .int x1), (2, .int x2), (3, .int x3), (4, .int x4)]) C.1.1 C.1.2.1 dX11_nextOf_23 hl (by decide) rfl (fun ls hl => ?_)
  refine lv_aload_n C.1.1 C.1.2.1 dX11_nextOf_25 rfl (lv_at hl 1 rfl) ?_
  obtain ⟨T1, eT1, hF⟩ := lt_some hF
  have hk_T1 := xtw_k eT1
  refine xg_X11_57 C O X (T := T1) eT1 (k := 0) rfl dX11_nextOf_26 ?_
  refine lv_iload_n C.1.1 C.1.2.1 dX11_nextOf_29 rfl (lv_at hl 2 rfl) ?_
  refine lv_aload_n C.1.1 C.1.2.1 dX11_nextOf_30 rfl (lv_at hl 1 rfl) ?_
  refine xg_X11_19 C O X (k := 0) rfl (j := 20) rfl dX11_nextOf_31 ?_
  refine xg_X11_105 C O X (k := 20) rfl (j := 21) rfl dX11_nextOf_34 ?_
  refine xg_X11_114 C O X (k := 21) rfl dX11_nextOf_37 ?_
  refine lv_iload C.1.1 C.1.2.1 dX11_nextOf_40 (lv_at hl 0 rfl) ?_
  refine lv_iadd C.1.1 C.1.2.1 dX11_nextOf_42 ?_
  refine lv_iconst (v := 1) C.1.1 C.1.2.1 dX11_nextOf_43 (by decide) ?_
  refine lv_isub C.1.1 C.1.2.1 dX11_nextOf_44 ?_
  obtain ⟨q1, hq1, hF⟩ := bnd_some hF
  refine x_callVi C X (k := T1) xv_X11_392 hk_T1 rfl rfl (by decide) (kX9_comesRound O C.2.2.2.2.1 N T1 x1 (((((S 21 0) + ((x2 + ((x4 * x3 : Int32)) : Int32)) : Int32)) - 1 : Int32)) (hk_T1 : xk T1 = 9) S q1 hq1) (Nat.le_of_ble_eq_true rfl) (Nat.le_of_ble_eq_true rfl) (Nat.le_of_ble_eq_true rfl) (Nat.le_of_ble_eq_true rfl) rfl hl.1 rfl (Nat.le_of_ble_eq_true rfl) dX11_nextOf_45 (fun H locs X => ?_)
  refine lv_if_eq (tgt := 54) C.1.1 C.1.2.1 dX11_nextOf_48 (by decide) (fun h_z => ?_) (fun h_z => ?_)
  · rw [if_pos h_z] at hF
    exact bX11_nextOf_54 C O K3 X (lv_sub hl [1, 2, 3, 4, 5] rfl) hF
  · rw [if_neg h_z] at hF
    exact bX11_nextOf_51 C O X (lv_sub hl [0] rfl) hF
noncomputable def fX11_nextOf_b3 (N : Nat) (r3 : Int32 → Int32 → Int32 → Int32 → gS → Option (Int32 × gS)) (x1 : Int32) (x2 : Int32) (x3 : Int32) (x4 : Int32) (S : gS) : Option (Int32 × gS) := lt (xtw S) fun T1 => (chk (inb x1 8) (if (S (T1 + 1) (Int32.toNatClampNeg x1)) ≤ x4 then fX11_nextOf_b60 N S else fX11_nextOf_b17 N r3 x1 x2 x3 x4 S))
theorem bX11_nextOf_3 {N : Nat} {r3 : Int32 → Int32 → Int32 → Int32 → gS → Option (Int32 × gS)} {x1 : Int32} {x2 : Int32} {x3 : Int32} {x4 : Int32} {S : gS} {H : Heap} {locs : List Loc} {ls : Array Slot} {o : Int32 × gS} (C : gC p s m args meth c cX11_nextOf 6 RX11 ((some .int)) D (xtys cI cB cZ cQ) xord g Am) (O : xO g cI cB cZ cQ Am) (K3 : ∀ (x1 : Int32) (x2 : Int32) (x3 : Int32) (x4 : Int32) (S : gS) (H : Heap) (locs : List Loc) (ls : Array Slot), gX D (xcell g cI cB cZ cQ) xord g S s H locs → lv_has ls 6 [(0, .ref (g 0)), (1, .int x1), (2, .int x2), (3, .int x3), (4, .int x4)] → r3 x1 x2 x3 x4 S = some o → W p l e (rmd 2) s m args below meth c H locs 0 0 (gE below args s D (xtys cI cB cZ cQ) (xcell g cI cB cZ cQ) xord g (some (.int o.1)) o.2) (F0 m 3 ls [])) (X : gX D (xcell g cI cB cZ cQ) xord g S s H locs) (hl : lv_has ls 6 [(0, .ref (g 0)), (1, .int x1), (2, .int x2), (3, .int x3), (4, .int x4)]) (hF : fX11_nextOf_b3 N r3 x1 x2 x3 x4 S = some o) : W p l e (rmd 2) s m args below meth c H locs 0 0 (gE below args s D (xtys cI cB cZ cQ) (xcell g cI cB cZ cQ) xord g (some (.int o.1)) o.2) (F0 m 3 ls []) := by
  unfold fX11_nextOf_b3 at hF
  refine lv_iload C.1.1 C.1.2.1 dX11_nextOf_3 (lv_at hl 4 rfl) ?_
  refine lv_aload_n C.1.1 C.1.2.1 dX11_nextOf_5 rfl (lv_at hl 0 rfl) ?_
  obtain ⟨T1, eT1, hF⟩ := lt_some hF
  have hk_T1 := xtw_k eT1
  refine xg_X11_57 C O X (T := T1) eT1 (k := 0) rfl dX11_nextOf_6 ?_
  refine xg_X11_165 C O X (k := T1) hk_T1 (j := T1 + 1) rfl dX11_nextOf_9 ?_
  refine lv_iload_n C.1.1 C.1.2.1 dX11_nextOf_12 rfl (lv_at hl 1 rfl) ?_
  obtain ⟨h_1, hF⟩ := chk_some hF
  refine x_rI C X (k := T1 + 1) (xs_9_1 hk_T1).1 (n := 8) (xs_9_1 hk_T1).2  (inb_vp h_1) rfl dX11_nextOf_13 ?_
  refine lv_icmp_ge (tgt := 60) C.1.1 C.1.2.1 dX11_nextOf_14 (by decide) (fun h_z => ?_) (fun h_z => ?_)
  · rw [if_pos h_z] at hF
    exact bX11_nextOf_60 C O X (lv_sub hl [] rfl) hF
  · rw [if_neg h_z] at hF
    exact bX11_nextOf_17 C O K3 X (lv_sub hl [0, 1, 2, 3, 4] rfl) hF
noncomputable def fX11_nextOf_h3 (N : Nat) : Nat → Int32 → Int32 → Int32 → Int32 → gS → Option (Int32 × gS)
  | 0, _, _, _, _, _ => none
  | n + 1, x1, x2, x3, x4, S => fX11_nextOf_b3 N (fX11_nextOf_h3 N n) x1 x2 x3 x4 S
theorem hX11_nextOf_3 {N : Nat} {o : Int32 × gS} (C : gC p s m args meth c cX11_nextOf 6 RX11 ((some .int)) D (xtys cI cB cZ cQ) xord g Am) (O : xO g cI cB cZ cQ Am) : ∀ (n : Nat) (x1 : Int32) (x2 : Int32) (x3 : Int32) (x4 : Int32) (S : gS) (H : Heap) (locs : List Loc) (ls : Array Slot), gX D (xcell g cI cB cZ cQ) xord g S s H locs → lv_has ls 6 [(0, .ref (g 0)), (1, .int x1), (2, .int x2), (3, .int x3), (4, .int x4)] → fX11_nextOf_h3 N n x1 x2 x3 x4 S = some o → W p l e (rmd 2) s m args below meth c H locs 0 0 (gE below args s D (xtys cI cB cZ cQ) (xcell g cI cB cZ cQ) xord g (some (.int o.1)) o.2) (F0 m 3 ls []) := by
  intro n
  induction n with
  | zero =>
    intro x1 x2 x3 x4 S H locs ls X hl hF
    exact absurd (show (none : Option (Int32 × gS)) = some o from hF) (by simp)
  | succ n ih =>
    intro x1 x2 x3 x4 S H locs ls X hl hF
    have hF : fX11_nextOf_b3 N (fX11_nextOf_h3 N n) x1 x2 x3 x4 S = some o := hF
    exact bX11_nextOf_3 C O ih X hl hF
noncomputable def fX11_nextOf_b0 (N : Nat) (x1 : Int32) (x2 : Int32) (x3 : Int32) (S : gS) : Option (Int32 × gS) := fX11_nextOf_h3 N N x1 x2 x3 0 S
theorem bX11_nextOf_0 {N : Nat} {x1 : Int32} {x2 : Int32} {x3 : Int32} {S : gS} {H : Heap} {locs : List Loc} {ls : Array Slot} {o : Int32 × gS} (C : gC p s m args meth c cX11_nextOf 6 RX11 ((some .int)) D (xtys cI cB cZ cQ) xord g Am) (O : xO g cI cB cZ cQ Am) (X : gX D (xcell g cI cB cZ cQ) xord g S s H locs) (hl : lv_has ls 6 [(0, .ref (g 0)), (1, .int x1), (2, .int x2), (3, .int x3)]) (hF : fX11_nextOf_b0 N x1 x2 x3 S = some o) : W p l e (rmd 2) s m args below meth c H locs 0 0 (gE below args s D (xtys cI cB cZ cQ) (xcell g cI cB cZ cQ) xord g (some (.int o.1)) o.2) (F0 m 0 ls []) := by
  unfold fX11_nextOf_b0 at hF
  refine lv_iconst (v := 0) C.1.1 C.1.2.1 dX11_nextOf_0 (by decide) ?_
  refine lv_istore (lv' := [(4, .int 0), (0, .ref (g 0)), (1, .int x1), (2, .int x2), (3, .int x3)]) C.1.1 C.1.2.1 dX11_nextOf_1 hl (by decide) rfl (fun ls hl => ?_)
  exact hX11_nextOf_3 C O N _ _ _ _ _ _ _ _ X (lv_sub hl [1, 2, 3, 4, 0] rfl) hF
noncomputable def fX11_nextOf (N : Nat) (x1 : Int32) (x2 : Int32) (x3 : Int32) (S : gS) : Option (Int32 × gS) := fX11_nextOf_b0 N x1 x2 x3 S
theorem kX11_nextOf {l : Launch} {D : va_G} {g : Nat → Nat} {cI cB cZ cQ : ClassId} {Am : (Nat → Prop) → State → Heap → Prop} (O : xO g cI cB cZ cQ Am) (P : gAm Am) (N : Nat) (x1 : Int32) (x2 : Int32) (x3 : Int32) (S : gS) (o : Int32 × gS) (hF : fX11_nextOf N x1 x2 x3 S = some o) : gM l yX11_nextOf cX11_nextOf 6 ((some .int)) 2 D (xtys cI cB cZ cQ) (xcell g cI cB cZ cQ) xord g Am [.ref (g 0), .int x1, .int x2, .int x3] S (some (.int o.1)) o.2 :=
  gM_of O.1 P (by decide) (Nat.le_of_ble_eq_true rfl) (fun p e s m args below meth c ls C X hl => bX11_nextOf_0 C O X (lv_sub hl [0, 1, 2, 3] rfl) hF)
-- X11.leastCommon
noncomputable def fX11_leastCommon_b25 (N : Nat) (x2 : Int32) (S : gS) : Option (Int32 × gS) := some (x2, S)
theorem bX11_leastCommon_25 {N : Nat} {x2 : Int32} {S : gS} {H : Heap} {locs : List Loc} {ls : Array Slot} {o : Int32 × gS} (C : gC p s m args meth c cX11_leastCommon 4 RX11 ((some .int)) D (xtys cI cB cZ cQ) xord g Am) (O : xO g cI cB cZ cQ Am) (X : gX D (xcell g cI cB cZ cQ) xord g S s H locs) (hl : lv_has ls 4 [(2, .int x2)]) (hF : fX11_leastCommon_b25 N x2 S = some o) : W p l e (rmd 0) s m args below meth c H locs 0 0 (gE below args s D (xtys cI cB cZ cQ) (xcell g cI cB cZ cQ) xord g (some (.int o.1)) o.2) (F0 m 25 ls []) := by
  unfold fX11_leastCommon_b25 at hF
  refine lv_iload_n C.1.1 C.1.2.1 dX11_leastCommon_25 rfl (lv_at hl 0 rfl) ?_
  cases hF
  exact g_iret C X dX11_leastCommon_26
noncomputable def fX11_leastCommon_b15 (N : Nat) (r4 : Int32 → Int32 → Int32 → Int32 → gS → Option (Int32 × gS)) (x0 : Int32) (x1 : Int32) (x2 : Int32) (x3 : Int32) (S : gS) : Option (Int32 × gS) := r4 x0 x1 ((x2 + x0 : Int32)) ((x3 + 1 : Int32)) S
theorem bX11_leastCommon_15 {N : Nat} {r4 : Int32 → Int32 → Int32 → Int32 → gS → Option (Int32 × gS)} {x0 : Int32} {x1 : Int32} {x2 : Int32} {x3 : Int32} {S : gS} {H : Heap} {locs : List Loc} {ls : Array Slot} {o : Int32 × gS} (C : gC p s m args meth c cX11_leastCommon 4 RX11 ((some .int)) D (xtys cI cB cZ cQ) xord g Am) (O : xO g cI cB cZ cQ Am) (K4 : ∀ (x0 : Int32) (x1 : Int32) (x2 : Int32) (x3 : Int32) (S : gS) (H : Heap) (locs : List Loc) (ls : Array Slot), gX D (xcell g cI cB cZ cQ) xord g S s H locs → lv_has ls 4 [(0, .int x0), (1, .int x1), (2, .int x2), (3, .int x3)] → r4 x0 x1 x2 x3 S = some o → W p l e (rmd 0) s m args below meth c H locs 0 0 (gE below args s D (xtys cI cB cZ cQ) (xcell g cI cB cZ cQ) xord g (some (.int o.1)) o.2) (F0 m 4 ls [])) (X : gX D (xcell g cI cB cZ cQ) xord g S s H locs) (hl : lv_has ls 4 [(0, .int x0), (1, .int x1), (2, .int x2), (3, .int x3)]) (hF : fX11_leastCommon_b15 N r4 x0 x1 x2 x3 S = some o) : W p l e (rmd 0) s m args below meth c H locs 0 0 (gE below args s D (xtys cI cB cZ cQ) (xcell g cI cB cZ cQ) xord g (some (.int o.1)) o.2) (F0 m 15 ls []) := by
  unfold fX11_leastCommon_b15 at hF
  refine lv_iload_n C.1.1 C.1.2.1 dX11_leastCommon_15 rfl (lv_at hl 2 rfl) ?_
  refine lv_iload_n C.1.1 C.1.2.1 dX11_leastCommon_16 rfl (lv_at hl 0 rfl) ?_
  refine lv_iadd C.1.1 C.1.2.1 dX11_leastCommon_17 ?_
  refine lv_istore_n (lv' := [(2, .int ((x2 + x0 : Int32))), (0, .int x0), (1, .int x1), (3, .int x3)]) C.1.1 C.1.2.1 dX11_leastCommon_18 rfl hl (by decide) rfl (fun ls hl => ?_)
  refine lv_iinc (v := (x3 + 1 : Int32)) (lv' := [(3, .int ((x3 + 1 : Int32))), (2, .int ((x2 + x0 : Int32))), (0, .int x0), (1, .int x1)]) C.1.1 C.1.2.1 dX11_leastCommon_19 hl (k := 3) rfl rfl (by decide) rfl (fun ls hl => ?_)
  refine lv_goto (tgt := 4) C.1.1 C.1.2.1 dX11_leastCommon_22 (by decide) ?_
  exact K4 _ _ _ _ _ _ _ _ X (lv_sub hl [2, 3, 1, 0] rfl) hF
noncomputable def fX11_leastCommon_b9 (N : Nat) (r4 : Int32 → Int32 → Int32 → Int32 → gS → Option (Int32 × gS)) (x0 : Int32) (x1 : Int32) (x2 : Int32) (x3 : Int32) (S : gS) : Option (Int32 × gS) := chk (nz x1) (if ((x2 - x2 / x1 * x1 : Int32)) = 0 then fX11_leastCommon_b25 N x2 S else fX11_leastCommon_b15 N r4 x0 x1 x2 x3 S)
theorem bX11_leastCommon_9 {N : Nat} {r4 : Int32 → Int32 → Int32 → Int32 → gS → Option (Int32 × gS)} {x0 : Int32} {x1 : Int32} {x2 : Int32} {x3 : Int32} {S : gS} {H : Heap} {locs : List Loc} {ls : Array Slot} {o : Int32 × gS} (C : gC p s m args meth c cX11_leastCommon 4 RX11 ((some .int)) D (xtys cI cB cZ cQ) xord g Am) (O : xO g cI cB cZ cQ Am) (K4 : ∀ (x0 : Int32) (x1 : Int32) (x2 : Int32) (x3 : Int32) (S : gS) (H : Heap) (locs : List Loc) (ls : Array Slot), gX D (xcell g cI cB cZ cQ) xord g S s H locs → lv_has ls 4 [(0, .int x0), (1, .int x1), (2, .int x2), (3, .int x3)] → r4 x0 x1 x2 x3 S = some o → W p l e (rmd 0) s m args below meth c H locs 0 0 (gE below args s D (xtys cI cB cZ cQ) (xcell g cI cB cZ cQ) xord g (some (.int o.1)) o.2) (F0 m 4 ls [])) (X : gX D (xcell g cI cB cZ cQ) xord g S s H locs) (hl : lv_has ls 4 [(0, .int x0), (1, .int x1), (2, .int x2), (3, .int x3)]) (hF : fX11_leastCommon_b9 N r4 x0 x1 x2 x3 S = some o) : W p l e (rmd 0) s m args below meth c H locs 0 0 (gE below args s D (xtys cI cB cZ cQ) (xcell g cI cB cZ cQ) xord g (some (.int o.1)) o.2) (F0 m 9 ls []) := by
  unfold fX11_leastCommon_b9 at hF
  refine lv_iload_n C.1.1 C.1.2.1 dX11_leastCommon_9 rfl (lv_at hl 2 rfl) ?_
  refine lv_iload_n C.1.1 C.1.2.1 dX11_leastCommon_10 rfl (lv_at hl 1 rfl) ?_
  obtain ⟨h_1, hF⟩ := chk_some hF
  refine lv_irem C.1.1 C.1.2.1 dX11_leastCommon_11 (nz_ne h_1) ?_
  refine lv_if_eq (tgt := 25) C.1.1 C.1.2.1 dX11_leastCommon_12 (by decide) (fun h_z => ?_) (fun h_z => ?_)
  · rw [if_pos h_z] at hF
    exact bX11_leastCommon_25 C O X (lv_sub hl [2] rfl) hF
  · rw [if_neg h_z] at hF
    exact bX11_leastCommon_15 C O K4 X (lv_sub hl [0, 1, 2, 3] rfl) hF
noncomputable def fX11_leastCommon_b4 (N : Nat) (r4 : Int32 → Int32 → Int32 → Int32 → gS → Option (Int32 × gS)) (x0 : Int32) (x1 : Int32) (x2 : Int32) (x3 : Int32) (S : gS) : Option (Int32 × gS) := if x1 ≤ x3 then fX11_leastCommon_b25 N x2 S else fX11_leastCommon_b9 N r4 x0 x1 x2 x3 S
theorem bX11_leastCommon_4 {N : Nat} {r4 : Int32 → Int32 → Int32 → Int32 → gS → Option (Int32 × gS)} {x0 : Int32} {x1 : Int32} {x2 : Int32} {x3 : Int32} {S : gS} {H : Heap} {locs : List Loc} {ls : Array Slot} {o : Int32 × gS} (C : gC p s m args meth c cX11_leastCommon 4 RX11 ((some .int)) D (xtys cI cB cZ cQ) xord g Am) (O : xO g cI cB cZ cQ Am) (K4 : ∀ (x0 : Int32) (x1 : Int32) (x2 : Int32) (x3 : Int32) (S : gS) (H : Heap) (locs : List Loc) (ls : Array Slot), gX D (xcell g cI cB cZ cQ) xord g S s H locs → lv_has ls 4 [(0, .int x0), (1, .int x1), (2, .int x2), (3, .int x3)] → r4 x0 x1 x2 x3 S = some o → W p l e (rmd 0) s m args below meth c H locs 0 0 (gE below args s D (xtys cI cB cZ cQ) (xcell g cI cB cZ cQ) xord g (some (.int o.1)) o.2) (F0 m 4 ls [])) (X : gX D (xcell g cI cB cZ cQ) xord g S s H locs) (hl : lv_has ls 4 [(0, .int x0), (1, .int x1), (2, .int x2), (3, .int x3)]) (hF : fX11_leastCommon_b4 N r4 x0 x1 x2 x3 S = some o) : W p l e (rmd 0) s m args below meth c H locs 0 0 (gE below args s D (xtys cI cB cZ cQ) (xcell g cI cB cZ cQ) xord g (some (.int o.1)) o.2) (F0 m 4 ls []) := by
  unfold fX11_leastCommon_b4 at hF
  refine lv_iload_n C.1.1 C.1.2.1 dX11_leastCommon_4 rfl (lv_at hl 3 rfl) ?_
  refine lv_iload_n C.1.1 C.1.2.1 dX11_leastCommon_5 rfl (lv_at hl 1 rfl) ?_
  refine lv_icmp_ge (tgt := 25) C.1.1 C.1.2.1 dX11_leastCommon_6 (by decide) (fun h_z => ?_) (fun h_z => ?_)
  · rw [if_pos h_z] at hF
    exact bX11_leastCommon_25 C O X (lv_sub hl [2] rfl) hF
  · rw [if_neg h_z] at hF
    exact bX11_leastCommon_9 C O K4 X (lv_sub hl [0, 1, 2, 3] rfl) hF
noncomputable def fX11_leastCommon_h4 (N : Nat) : Nat → Int32 → Int32 → Int32 → Int32 → gS → Option (Int32 × gS)
  | 0, _, _, _, _, _ => none
  | n + 1, x0, x1, x2, x3, S => fX11_leastCommon_b4 N (fX11_leastCommon_h4 N n) x0 x1 x2 x3 S
theorem hX11_leastCommon_4 {N : Nat} {o : Int32 × gS} (C : gC p s m args meth c cX11_leastCommon 4 RX11 ((some .int)) D (xtys cI cB cZ cQ) xord g Am) (O : xO g cI cB cZ cQ Am) : ∀ (n : Nat) (x0 : Int32) (x1 : Int32) (x2 : Int32) (x3 : Int32) (S : gS) (H : Heap) (locs : List Loc) (ls : Array Slot), gX D (xcell g cI cB cZ cQ) xord g S s H locs → lv_has ls 4 [(0, .int x0), (1, .int x1), (2, .int x2), (3, .int x3)] → fX11_leastCommon_h4 N n x0 x1 x2 x3 S = some o → W p l e (rmd 0) s m args below meth c H locs 0 0 (gE below args s D (xtys cI cB cZ cQ) (xcell g cI cB cZ cQ) xord g (some (.int o.1)) o.2) (F0 m 4 ls []) := by
  intro n
  induction n with
  | zero =>
    intro x0 x1 x2 x3 S H locs ls X hl hF
    exact absurd (show (none : Option (Int32 × gS)) = some o from hF) (by simp)
  | succ n ih =>
    intro x0 x1 x2 x3 S H locs ls X hl hF
    have hF : fX11_leastCommon_b4 N (fX11_leastCommon_h4 N n) x0 x1 x2 x3 S = some o := hF
    exact bX11_leastCommon_4 C O ih X hl hF
noncomputable def fX11_leastCommon_b0 (N : Nat) (x0 : Int32) (x1 : Int32) (S : gS) : Option (Int32 × gS) := fX11_leastCommon_h4 N N x0 x1 x0 1 S
theorem bX11_leastCommon_0 {N : Nat} {x0 : Int32} {x1 : Int32} {S : gS} {H : Heap} {locs : List Loc} {ls : Array Slot} {o : Int32 × gS} (C : gC p s m args meth c cX11_leastCommon 4 RX11 ((some .int)) D (xtys cI cB cZ cQ) xord g Am) (O : xO g cI cB cZ cQ Am) (X : gX D (xcell g cI cB cZ cQ) xord g S s H locs) (hl : lv_has ls 4 [(0, .int x0), (1, .int x1)]) (hF : fX11_leastCommon_b0 N x0 x1 S = some o) : W p l e (rmd 0) s m args below meth c H locs 0 0 (gE below args s D (xtys cI cB cZ cQ) (xcell g cI cB cZ cQ) xord g (some (.int o.1)) o.2) (F0 m 0 ls []) := by
  unfold fX11_leastCommon_b0 at hF
  refine lv_iload_n C.1.1 C.1.2.1 dX11_leastCommon_0 rfl (lv_at hl 0 rfl) ?_
  refine lv_istore_n (lv' := [(2, .int x0), (0, .int x0), (1, .int x1)]) C.1.1 C.1.2.1 dX11_leastCommon_1 rfl hl (by decide) rfl (fun ls hl => ?_)
  refine lv_iconst (v := 1) C.1.1 C.1.2.1 dX11_leastCommon_2 (by decide) ?_
  refine lv_istore_n (lv' := [(3, .int 1), (2, .int x0), (0, .int x0), (1, .int x1)]) C.1.1 C.1.2.1 dX11_leastCommon_3 rfl hl (by decide) rfl (fun ls hl => ?_)
  exact hX11_leastCommon_4 C O N _ _ _ _ _ _ _ _ X (lv_sub hl [2, 3, 1, 0] rfl) hF
noncomputable def fX11_leastCommon (N : Nat) (x0 : Int32) (x1 : Int32) (S : gS) : Option (Int32 × gS) := fX11_leastCommon_b0 N x0 x1 S
theorem kX11_leastCommon {l : Launch} {D : va_G} {g : Nat → Nat} {cI cB cZ cQ : ClassId} {Am : (Nat → Prop) → State → Heap → Prop} (O : xO g cI cB cZ cQ Am) (P : gAm Am) (N : Nat) (x0 : Int32) (x1 : Int32) (S : gS) (o : Int32 × gS) (hF : fX11_leastCommon N x0 x1 S = some o) : gM l yX11_leastCommon cX11_leastCommon 4 ((some .int)) 0 D (xtys cI cB cZ cQ) (xcell g cI cB cZ cQ) xord g Am [.int x0, .int x1] S (some (.int o.1)) o.2 :=
  gM_of O.1 P (by decide) (Nat.le_of_ble_eq_true rfl) (fun p e s m args below meth c ls C X hl => bX11_leastCommon_0 C O X (lv_sub hl [0, 1] rfl) hF)
-- X11.mostChoice
noncomputable def fX11_mostChoice_b22 (N : Nat) (t0 : Int32) (S : gS) : Option (Int32 × gS) := some (t0, S)
theorem bX11_mostChoice_22 {N : Nat} {t0 : Int32} {S : gS} {H : Heap} {locs : List Loc} {ls : Array Slot} {o : Int32 × gS} (C : gC p s m args meth c cX11_mostChoice 2 RX11 ((some .int)) D (xtys cI cB cZ cQ) xord g Am) (O : xO g cI cB cZ cQ Am) (X : gX D (xcell g cI cB cZ cQ) xord g S s H locs) (hl : lv_has ls 2 []) (hF : fX11_mostChoice_b22 N t0 S = some o) : W p l e (rmd 0) s m args below meth c H locs 0 0 (gE below args s D (xtys cI cB cZ cQ) (xcell g cI cB cZ cQ) xord g (some (.int o.1)) o.2) (F0 m 22 ls [.int t0]) := by
  unfold fX11_mostChoice_b22 at hF
  cases hF
  exact g_iret C X dX11_mostChoice_22
noncomputable def fX11_mostChoice_b21 (N : Nat) (S : gS) : Option (Int32 × gS) := fX11_mostChoice_b22 N 1 S
theorem bX11_mostChoice_21 {N : Nat} {S : gS} {H : Heap} {locs : List Loc} {ls : Array Slot} {o : Int32 × gS} (C : gC p s m args meth c cX11_mostChoice 2 RX11 ((some .int)) D (xtys cI cB cZ cQ) xord g Am) (O : xO g cI cB cZ cQ Am) (X : gX D (xcell g cI cB cZ cQ) xord g S s H locs) (hl : lv_has ls 2 []) (hF : fX11_mostChoice_b21 N S = some o) : W p l e (rmd 0) s m args below meth c H locs 0 0 (gE below args s D (xtys cI cB cZ cQ) (xcell g cI cB cZ cQ) xord g (some (.int o.1)) o.2) (F0 m 21 ls []) := by
  unfold fX11_mostChoice_b21 at hF
  refine lv_iconst (v := 1) C.1.1 C.1.2.1 dX11_mostChoice_21 (by decide) ?_
  exact bX11_mostChoice_22 C O X (lv_sub hl [] rfl) hF
noncomputable def fX11_mostChoice_b17 (N : Nat) (S : gS) : Option (Int32 × gS) := fX11_mostChoice_b22 N 0 S
theorem bX11_mostChoice_17 {N : Nat} {S : gS} {H : Heap} {locs : List Loc} {ls : Array Slot} {o : Int32 × gS} (C : gC p s m args meth c cX11_mostChoice 2 RX11 ((some .int)) D (xtys cI cB cZ cQ) xord g Am) (O : xO g cI cB cZ cQ Am) (X : gX D (xcell g cI cB cZ cQ) xord g S s H locs) (hl : lv_has ls 2 []) (hF : fX11_mostChoice_b17 N S = some o) : W p l e (rmd 0) s m args below meth c H locs 0 0 (gE below args s D (xtys cI cB cZ cQ) (xcell g cI cB cZ cQ) xord g (some (.int o.1)) o.2) (F0 m 17 ls []) := by
  unfold fX11_mostChoice_b17 at hF
  refine lv_iconst (v := 0) C.1.1 C.1.2.1 dX11_mostChoice_17 (by decide) ?_
  refine lv_goto (tgt := 22) C.1.1 C.1.2.1 dX11_mostChoice_18 (by decide) ?_
  exact bX11_mostChoice_22 C O X (lv_sub hl [] rfl) hF
noncomputable def fX11_mostChoice_b0 (N : Nat) (x1 : Int32) (S : gS) : Option (Int32 × gS) := chk (inb x1 6) (if 50 ≤ (S 23 (Int32.toNatClampNeg x1)) then fX11_mostChoice_b21 N S else fX11_mostChoice_b17 N S)
theorem bX11_mostChoice_0 {N : Nat} {x1 : Int32} {S : gS} {H : Heap} {locs : List Loc} {ls : Array Slot} {o : Int32 × gS} (C : gC p s m args meth c cX11_mostChoice 2 RX11 ((some .int)) D (xtys cI cB cZ cQ) xord g Am) (O : xO g cI cB cZ cQ Am) (X : gX D (xcell g cI cB cZ cQ) xord g S s H locs) (hl : lv_has ls 2 [(0, .ref (g 0)), (1, .int x1)]) (hF : fX11_mostChoice_b0 N x1 S = some o) : W p l e (rmd 0) s m args below meth c H locs 0 0 (gE below args s D (xtys cI cB cZ cQ) (xcell g cI cB cZ cQ) xord g (some (.int o.1)) o.2) (F0 m 0 ls []) := by
  unfold fX11_mostChoice_b0 at hF
  refine lv_aload_n C.1.1 C.1.2.1 dX11_mostChoice_0 rfl (lv_at hl 0 rfl) ?_
  refine xg_X11_19 C O X (k := 0) rfl (j := 20) rfl dX11_mostChoice_1 ?_
  refine xg_X11_105 C O X (k := 20) rfl (j := 21) rfl dX11_mostChoice_4 ?_
  refine xg_X11_200 C O X (k := 21) rfl (j := 23) rfl dX11_mostChoice_7 ?_
  refine lv_iload_n C.1.1 C.1.2.1 dX11_mostChoice_10 rfl (lv_at hl 1 rfl) ?_
  obtain ⟨h_1, hF⟩ := chk_some hF
  refine x_rI C X (k := 23) rfl (n := 6) rfl  (inb_vp h_1) rfl dX11_mostChoice_11 ?_
  refine lv_bipush (v := 50) C.1.1 C.1.2.1 dX11_mostChoice_12 (by decide) ?_
  refine lv_icmp_ge (tgt := 21) C.1.1 C.1.2.1 dX11_mostChoice_14 (by decide) (fun h_z => ?_) (fun h_z => ?_)
  · rw [if_pos h_z] at hF
    exact bX11_mostChoice_21 C O X (lv_sub hl [] rfl) hF
  · rw [if_neg h_z] at hF
    exact bX11_mostChoice_17 C O X (lv_sub hl [] rfl) hF
noncomputable def fX11_mostChoice (N : Nat) (x1 : Int32) (S : gS) : Option (Int32 × gS) := fX11_mostChoice_b0 N x1 S
theorem kX11_mostChoice {l : Launch} {D : va_G} {g : Nat → Nat} {cI cB cZ cQ : ClassId} {Am : (Nat → Prop) → State → Heap → Prop} (O : xO g cI cB cZ cQ Am) (P : gAm Am) (N : Nat) (x1 : Int32) (S : gS) (o : Int32 × gS) (hF : fX11_mostChoice N x1 S = some o) : gM l yX11_mostChoice cX11_mostChoice 2 ((some .int)) 0 D (xtys cI cB cZ cQ) (xcell g cI cB cZ cQ) xord g Am [.ref (g 0), .int x1] S (some (.int o.1)) o.2 :=
  gM_of O.1 P (by decide) (Nat.le_of_ble_eq_true rfl) (fun p e s m args below meth c ls C X hl => bX11_mostChoice_0 C O X (lv_sub hl [0, 1] rfl) hF)
-- X11.draw
noncomputable def fX11_draw_b38 (N : Nat) (t0 : Int32) (S : gS) : Option (Int32 × gS) := some (t0, S)
theorem bX11_draw_38 {N : Nat} {t0 : Int32} {S : gS} {H : Heap} {locs : List Loc} {ls : Array Slot} {o : Int32 × gS} (C : gC p s m args meth c cX11_draw 2 RX11 ((some .int)) D (xtys cI cB cZ cQ) xord g Am) (O : xO g cI cB cZ cQ Am) (X : gX D (xcell g cI cB cZ cQ) xord g S s H locs) (hl : lv_has ls 2 []) (hF : fX11_draw_b38 N t0 S = some o) : W p l e (rmd 0) s m args below meth c H locs 0 0 (gE below args s D (xtys cI cB cZ cQ) (xcell g cI cB cZ cQ) xord g (some (.int o.1)) o.2) (F0 m 38 ls [.int t0]) := by
  unfold fX11_draw_b38 at hF
  cases hF
  exact g_iret C X dX11_draw_38
noncomputable def fX11_draw_b25 (N : Nat) (x1 : Int32) (S : gS) : Option (Int32 × gS) := chk (nz x1) (fX11_draw_b38 N ((((((((S 0 9).toUInt32 >>> ((16 : Int32).toUInt32 &&& Int32.toUInt32 31)).toInt32 : Int32)) &&& 32767 : Int32)) - ((((((S 0 9).toUInt32 >>> ((16 : Int32).toUInt32 &&& Int32.toUInt32 31)).toInt32 : Int32)) &&& 32767 : Int32)) / x1 * x1 : Int32)) S)
theorem bX11_draw_25 {N : Nat} {x1 : Int32} {S : gS} {H : Heap} {locs : List Loc} {ls : Array Slot} {o : Int32 × gS} (C : gC p s m args meth c cX11_draw 2 RX11 ((some .int)) D (xtys cI cB cZ cQ) xord g Am) (O : xO g cI cB cZ cQ Am) (X : gX D (xcell g cI cB cZ cQ) xord g S s H locs) (hl : lv_has ls 2 [(0, .ref (g 0)), (1, .int x1)]) (hF : fX11_draw_b25 N x1 S = some o) : W p l e (rmd 0) s m args below meth c H locs 0 0 (gE below args s D (xtys cI cB cZ cQ) (xcell g cI cB cZ cQ) xord g (some (.int o.1)) o.2) (F0 m 25 ls []) := by
  unfold fX11_draw_b25 at hF
  refine lv_aload_n C.1.1 C.1.2.1 dX11_draw_25 rfl (lv_at hl 0 rfl) ?_
  refine xg_X11_65 C O X (k := 0) rfl dX11_draw_26 ?_
  refine lv_bipush (v := 16) C.1.1 C.1.2.1 dX11_draw_29 (by decide) ?_
  refine lv_iushr C.1.1 C.1.2.1 dX11_draw_31 rfl ?_
  refine lv_sipush (v := 32767) C.1.1 C.1.2.1 dX11_draw_32 (by decide) ?_
  refine lv_iand C.1.1 C.1.2.1 dX11_draw_35 ?_
  refine lv_iload_n C.1.1 C.1.2.1 dX11_draw_36 rfl (lv_at hl 1 rfl) ?_
  obtain ⟨h_1, hF⟩ := chk_some hF
  refine lv_irem C.1.1 C.1.2.1 dX11_draw_37 (nz_ne h_1) ?_
  exact bX11_draw_38 C O X (lv_sub hl [] rfl) hF
noncomputable def fX11_draw_b21 (N : Nat) (S : gS) : Option (Int32 × gS) := fX11_draw_b38 N 0 S
theorem bX11_draw_21 {N : Nat} {S : gS} {H : Heap} {locs : List Loc} {ls : Array Slot} {o : Int32 × gS} (C : gC p s m args meth c cX11_draw 2 RX11 ((some .int)) D (xtys cI cB cZ cQ) xord g Am) (O : xO g cI cB cZ cQ Am) (X : gX D (xcell g cI cB cZ cQ) xord g S s H locs) (hl : lv_has ls 2 []) (hF : fX11_draw_b21 N S = some o) : W p l e (rmd 0) s m args below meth c H locs 0 0 (gE below args s D (xtys cI cB cZ cQ) (xcell g cI cB cZ cQ) xord g (some (.int o.1)) o.2) (F0 m 21 ls []) := by
  unfold fX11_draw_b21 at hF
  refine lv_iconst (v := 0) C.1.1 C.1.2.1 dX11_draw_21 (by decide) ?_
  refine lv_goto (tgt := 38) C.1.1 C.1.2.1 dX11_draw_22 (by decide) ?_
  exact bX11_draw_38 C O X (lv_sub hl [] rfl) hF
noncomputable def fX11_draw_b0 (N : Nat) (x1 : Int32) (S : gS) : Option (Int32 × gS) := lt (sU S 0 9 (((((S 0 9) * 1103515245 : Int32)) + 12345 : Int32))) fun S1 => (if 1 ≤ x1 then fX11_draw_b25 N x1 S1 else fX11_draw_b21 N S1)
theorem bX11_draw_0 {N : Nat} {x1 : Int32} {S : gS} {H : Heap} {locs : List Loc} {ls : Array Slot} {o : Int32 × gS} (C : gC p s m args meth c cX11_draw 2 RX11 ((some .int)) D (xtys cI cB cZ cQ) xord g Am) (O : xO g cI cB cZ cQ Am) (X : gX D (xcell g cI cB cZ cQ) xord g S s H locs) (hl : lv_has ls 2 [(0, .ref (g 0)), (1, .int x1)]) (hF : fX11_draw_b0 N x1 S = some o) : W p l e (rmd 0) s m args below meth c H locs 0 0 (gE below args s D (xtys cI cB cZ cQ) (xcell g cI cB cZ cQ) xord g (some (.int o.1)) o.2) (F0 m 0 ls []) := by
  unfold fX11_draw_b0 at hF
  refine lv_aload_n C.1.1 C.1.2.1 dX11_draw_0 rfl (lv_at hl 0 rfl) ?_
  refine lv_aload_n C.1.1 C.1.2.1 dX11_draw_1 rfl (lv_at hl 0 rfl) ?_
  refine xg_X11_65 C O X (k := 0) rfl dX11_draw_2 ?_
  refine lv_ldcw C.1.1 C.1.2.1 C.1.2.2.2.1 (C.1.2.2.2.2 _ xKI_X11_405) dX11_draw_5 ?_
  refine lv_imul C.1.1 C.1.2.1 dX11_draw_8 ?_
  refine lv_sipush (v := 12345) C.1.1 C.1.2.1 dX11_draw_9 (by decide) ?_
  refine lv_iadd C.1.1 C.1.2.1 dX11_draw_12 ?_
  obtain ⟨S1, eS1, hF⟩ := lt_some hF
  refine xp_X11_65 C O X (k := 0) rfl eS1 dX11_draw_13 (fun H locs X => ?_)
  refine lv_iload_n C.1.1 C.1.2.1 dX11_draw_16 rfl (lv_at hl 1 rfl) ?_
  refine lv_iconst (v := 1) C.1.1 C.1.2.1 dX11_draw_17 (by decide) ?_
  refine lv_icmp_ge (tgt := 25) C.1.1 C.1.2.1 dX11_draw_18 (by decide) (fun h_z => ?_) (fun h_z => ?_)
  · rw [if_pos h_z] at hF
    exact bX11_draw_25 C O X (lv_sub hl [0, 1] rfl) hF
  · rw [if_neg h_z] at hF
    exact bX11_draw_21 C O X (lv_sub hl [] rfl) hF
noncomputable def fX11_draw (N : Nat) (x1 : Int32) (S : gS) : Option (Int32 × gS) := fX11_draw_b0 N x1 S
theorem kX11_draw {l : Launch} {D : va_G} {g : Nat → Nat} {cI cB cZ cQ : ClassId} {Am : (Nat → Prop) → State → Heap → Prop} (O : xO g cI cB cZ cQ Am) (P : gAm Am) (N : Nat) (x1 : Int32) (S : gS) (o : Int32 × gS) (hF : fX11_draw N x1 S = some o) : gM l yX11_draw cX11_draw 2 ((some .int)) 0 D (xtys cI cB cZ cQ) (xcell g cI cB cZ cQ) xord g Am [.ref (g 0), .int x1] S (some (.int o.1)) o.2 :=
  gM_of O.1 P (by decide) (Nat.le_of_ble_eq_true rfl) (fun p e s m args below meth c ls C X hl => bX11_draw_0 C O X (lv_sub hl [0, 1] rfl) hF)
-- X11.chance
noncomputable def fX11_chance_b129 (N : Nat) (S : gS) : Option (Int32 × gS) := some (0, S)
theorem bX11_chance_129 {N : Nat} {S : gS} {H : Heap} {locs : List Loc} {ls : Array Slot} {o : Int32 × gS} (C : gC p s m args meth c cX11_chance 4 RX11 none D (xtys cI cB cZ cQ) xord g Am) (O : xO g cI cB cZ cQ Am) (X : gX D (xcell g cI cB cZ cQ) xord g S s H locs) (hl : lv_has ls 4 []) (hF : fX11_chance_b129 N S = some o) : W p l e (rmd 2) s m args below meth c H locs 0 0 (gE below args s D (xtys cI cB cZ cQ) (xcell g cI cB cZ cQ) xord g none o.2) (F0 m 129 ls []) := by
  unfold fX11_chance_b129 at hF
  cases hF
  exact g_vret C X dX11_chance_129
noncomputable def fX11_chance_b109 (N : Nat) (S : gS) : Option (Int32 × gS) := lt (xtw S) fun T1 => (bnd (fX11_draw N (S T1 5) S) fun q1 => (bnd (fX7_enrich N 46 q1.1 20 q1.2) fun q2 => (fX11_chance_b129 N q2.2)))
theorem bX11_chance_109 {N : Nat} {S : gS} {H : Heap} {locs : List Loc} {ls : Array Slot} {o : Int32 × gS} (C : gC p s m args meth c cX11_chance 4 RX11 none D (xtys cI cB cZ cQ) xord g Am) (O : xO g cI cB cZ cQ Am) (X : gX D (xcell g cI cB cZ cQ) xord g S s H locs) (hl : lv_has ls 4 [(0, .ref (g 0))]) (hF : fX11_chance_b109 N S = some o) : W p l e (rmd 2) s m args below meth c H locs 0 0 (gE below args s D (xtys cI cB cZ cQ) (xcell g cI cB cZ cQ) xord g none o.2) (F0 m 109 ls []) := by
  unfold fX11_chance_b109 at hF
  refine lv_aload_n C.1.1 C.1.2.1 dX11_chance_109 rfl (lv_at hl 0 rfl) ?_
  refine xg_X11_29 C O X (k := 0) rfl (j := 46) rfl dX11_chance_110 ?_
  refine lv_aload_n C.1.1 C.1.2.1 dX11_chance_113 rfl (lv_at hl 0 rfl) ?_
  refine lv_aload_n C.1.1 C.1.2.1 dX11_chance_114 rfl (lv_at hl 0 rfl) ?_
  obtain ⟨T1, eT1, hF⟩ := lt_some hF
  have hk_T1 := xtw_k eT1
  refine xg_X11_57 C O X (T := T1) eT1 (k := 0) rfl dX11_chance_115 ?_
  refine xg_X11_111 C O X (k := T1) hk_T1 dX11_chance_118 ?_
  obtain ⟨q1, hq1, hF⟩ := bnd_some hF
  refine x_callVi C X (k := 0) xv_X11_357 (rfl : xk 0 = 11) rfl rfl (by decide) (kX11_draw O C.2.2.2.2.1 N (S T1 5) S q1 hq1) (Nat.le_of_ble_eq_true rfl) (Nat.le_of_ble_eq_true rfl) (Nat.le_of_ble_eq_true rfl) (Nat.le_of_ble_eq_true rfl) rfl hl.1 rfl (Nat.le_of_ble_eq_true rfl) dX11_chance_121 (fun H locs X => ?_)
  refine lv_bipush (v := 20) C.1.1 C.1.2.1 dX11_chance_124 (by decide) ?_
  obtain ⟨q2, hq2, hF⟩ := bnd_some hF
  refine x_callV C X (k := 46) xv_X11_228 (rfl : xk 46 = 7) rfl rfl (by decide) (kX7_enrich O C.2.2.2.2.1 N 46 q1.1 20 (rfl : xk 46 = 7) q1.2 q2 hq2) (Nat.le_of_ble_eq_true rfl) (Nat.le_of_ble_eq_true rfl) (Nat.le_of_ble_eq_true rfl) (Nat.le_of_ble_eq_true rfl) rfl hl.1 rfl (Nat.le_of_ble_eq_true rfl) dX11_chance_126 (fun H locs X => ?_)
  exact bX11_chance_129 C O X (lv_sub hl [] rfl) hF
noncomputable def fX11_chance_b104 (N : Nat) (x1 : Int32) (S : gS) : Option (Int32 × gS) := if x1 = 2 then fX11_chance_b109 N S else fX11_chance_b129 N S
theorem bX11_chance_104 {N : Nat} {x1 : Int32} {S : gS} {H : Heap} {locs : List Loc} {ls : Array Slot} {o : Int32 × gS} (C : gC p s m args meth c cX11_chance 4 RX11 none D (xtys cI cB cZ cQ) xord g Am) (O : xO g cI cB cZ cQ Am) (X : gX D (xcell g cI cB cZ cQ) xord g S s H locs) (hl : lv_has ls 4 [(0, .ref (g 0)), (1, .int x1)]) (hF : fX11_chance_b104 N x1 S = some o) : W p l e (rmd 2) s m args below meth c H locs 0 0 (gE below args s D (xtys cI cB cZ cQ) (xcell g cI cB cZ cQ) xord g none o.2) (F0 m 104 ls []) := by
  unfold fX11_chance_b104 at hF
  refine lv_iload_n C.1.1 C.1.2.1 dX11_chance_104 rfl (lv_at hl 1 rfl) ?_
  refine lv_iconst (v := 2) C.1.1 C.1.2.1 dX11_chance_105 (by decide) ?_
  refine lv_icmp_ne (tgt := 129) C.1.1 C.1.2.1 dX11_chance_106 (by decide) (fun h_z => ?_) (fun h_z => ?_)
  · rw [if_neg h_z] at hF
    exact bX11_chance_129 C O X (lv_sub hl [] rfl) hF
  · rw [if_pos h_z] at hF
    exact bX11_chance_109 C O X (lv_sub hl [0] rfl) hF
noncomputable def fX11_chance_b83 (N : Nat) (S : gS) : Option (Int32 × gS) := lt (xtw S) fun T1 => (bnd (fX11_draw N (S T1 0) S) fun q1 => (bnd (fX7_turn N 46 q1.1 q1.2) fun q2 => (fX11_chance_b129 N q2.2)))
theorem bX11_chance_83 {N : Nat} {S : gS} {H : Heap} {locs : List Loc} {ls : Array Slot} {o : Int32 × gS} (C : gC p s m args meth c cX11_chance 4 RX11 none D (xtys cI cB cZ cQ) xord g Am) (O : xO g cI cB cZ cQ Am) (X : gX D (xcell g cI cB cZ cQ) xord g S s H locs) (hl : lv_has ls 4 [(0, .ref (g 0))]) (hF : fX11_chance_b83 N S = some o) : W p l e (rmd 2) s m args below meth c H locs 0 0 (gE below args s D (xtys cI cB cZ cQ) (xcell g cI cB cZ cQ) xord g none o.2) (F0 m 83 ls []) := by
  unfold fX11_chance_b83 at hF
  refine lv_aload_n C.1.1 C.1.2.1 dX11_chance_83 rfl (lv_at hl 0 rfl) ?_
  refine xg_X11_29 C O X (k := 0) rfl (j := 46) rfl dX11_chance_84 ?_
  refine lv_aload_n C.1.1 C.1.2.1 dX11_chance_87 rfl (lv_at hl 0 rfl) ?_
  refine lv_aload_n C.1.1 C.1.2.1 dX11_chance_88 rfl (lv_at hl 0 rfl) ?_
  obtain ⟨T1, eT1, hF⟩ := lt_some hF
  have hk_T1 := xtw_k eT1
  refine xg_X11_57 C O X (T := T1) eT1 (k := 0) rfl dX11_chance_89 ?_
  refine xg_X11_108 C O X (k := T1) hk_T1 dX11_chance_92 ?_
  obtain ⟨q1, hq1, hF⟩ := bnd_some hF
  refine x_callVi C X (k := 0) xv_X11_357 (rfl : xk 0 = 11) rfl rfl (by decide) (kX11_draw O C.2.2.2.2.1 N (S T1 0) S q1 hq1) (Nat.le_of_ble_eq_true rfl) (Nat.le_of_ble_eq_true rfl) (Nat.le_of_ble_eq_true rfl) (Nat.le_of_ble_eq_true rfl) rfl hl.1 rfl (Nat.le_of_ble_eq_true rfl) dX11_chance_95 (fun H locs X => ?_)
  obtain ⟨q2, hq2, hF⟩ := bnd_some hF
  refine x_callV C X (k := 46) xv_X11_225 (rfl : xk 46 = 7) rfl rfl (by decide) (kX7_turn O C.2.2.2.2.1 N 46 q1.1 (rfl : xk 46 = 7) q1.2 q2 hq2) (Nat.le_of_ble_eq_true rfl) (Nat.le_of_ble_eq_true rfl) (Nat.le_of_ble_eq_true rfl) (Nat.le_of_ble_eq_true rfl) rfl hl.1 rfl (Nat.le_of_ble_eq_true rfl) dX11_chance_98 (fun H locs X => ?_)
  refine lv_goto (tgt := 129) C.1.1 C.1.2.1 dX11_chance_101 (by decide) ?_
  exact bX11_chance_129 C O X (lv_sub hl [] rfl) hF
noncomputable def fX11_chance_b78 (N : Nat) (x1 : Int32) (S : gS) : Option (Int32 × gS) := if x1 = 1 then fX11_chance_b83 N S else fX11_chance_b104 N x1 S
theorem bX11_chance_78 {N : Nat} {x1 : Int32} {S : gS} {H : Heap} {locs : List Loc} {ls : Array Slot} {o : Int32 × gS} (C : gC p s m args meth c cX11_chance 4 RX11 none D (xtys cI cB cZ cQ) xord g Am) (O : xO g cI cB cZ cQ Am) (X : gX D (xcell g cI cB cZ cQ) xord g S s H locs) (hl : lv_has ls 4 [(0, .ref (g 0)), (1, .int x1)]) (hF : fX11_chance_b78 N x1 S = some o) : W p l e (rmd 2) s m args below meth c H locs 0 0 (gE below args s D (xtys cI cB cZ cQ) (xcell g cI cB cZ cQ) xord g none o.2) (F0 m 78 ls []) := by
  unfold fX11_chance_b78 at hF
  refine lv_iload_n C.1.1 C.1.2.1 dX11_chance_78 rfl (lv_at hl 1 rfl) ?_
  refine lv_iconst (v := 1) C.1.1 C.1.2.1 dX11_chance_79 (by decide) ?_
  refine lv_icmp_ne (tgt := 104) C.1.1 C.1.2.1 dX11_chance_80 (by decide) (fun h_z => ?_) (fun h_z => ?_)
  · rw [if_neg h_z] at hF
    exact bX11_chance_104 C O X (lv_sub hl [0, 1] rfl) hF
  · rw [if_pos h_z] at hF
    exact bX11_chance_83 C O X (lv_sub hl [0] rfl) hF
noncomputable def fX11_chance_b75 (N : Nat) (S : gS) : Option (Int32 × gS) := fX11_chance_b129 N S
theorem bX11_chance_75 {N : Nat} {S : gS} {H : Heap} {locs : List Loc} {ls : Array Slot} {o : Int32 × gS} (C : gC p s m args meth c cX11_chance 4 RX11 none D (xtys cI cB cZ cQ) xord g Am) (O : xO g cI cB cZ cQ Am) (X : gX D (xcell g cI cB cZ cQ) xord g S s H locs) (hl : lv_has ls 4 []) (hF : fX11_chance_b75 N S = some o) : W p l e (rmd 2) s m args below meth c H locs 0 0 (gE below args s D (xtys cI cB cZ cQ) (xcell g cI cB cZ cQ) xord g none o.2) (F0 m 75 ls []) := by
  unfold fX11_chance_b75 at hF
  refine lv_goto (tgt := 129) C.1.1 C.1.2.1 dX11_chance_75 (by decide) ?_
  exact bX11_chance_129 C O X (lv_sub hl [] rfl) hF
noncomputable def fX11_chance_b65 (N : Nat) (x2 : Int32) (x3 : Int32) (S : gS) : Option (Int32 × gS) := chk (inb x2 6) (lt (sU S 50 (Int32.toNatClampNeg x2) x3) fun S1 => (fX11_chance_b75 N S1))
theorem bX11_chance_65 {N : Nat} {x2 : Int32} {x3 : Int32} {S : gS} {H : Heap} {locs : List Loc} {ls : Array Slot} {o : Int32 × gS} (C : gC p s m args meth c cX11_chance 4 RX11 none D (xtys cI cB cZ cQ) xord g Am) (O : xO g cI cB cZ cQ Am) (X : gX D (xcell g cI cB cZ cQ) xord g S s H locs) (hl : lv_has ls 4 [(0, .ref (g 0)), (2, .int x2), (3, .int x3)]) (hF : fX11_chance_b65 N x2 x3 S = some o) : W p l e (rmd 2) s m args below meth c H locs 0 0 (gE below args s D (xtys cI cB cZ cQ) (xcell g cI cB cZ cQ) xord g none o.2) (F0 m 65 ls []) := by
  unfold fX11_chance_b65 at hF
  refine lv_aload_n C.1.1 C.1.2.1 dX11_chance_65 rfl (lv_at hl 0 rfl) ?_
  refine xg_X11_29 C O X (k := 0) rfl (j := 46) rfl dX11_chance_66 ?_
  refine xg_X11_206 C O X (k := 46) rfl (j := 50) rfl dX11_chance_69 ?_
  refine lv_iload_n C.1.1 C.1.2.1 dX11_chance_72 rfl (lv_at hl 1 rfl) ?_
  refine lv_iload_n C.1.1 C.1.2.1 dX11_chance_73 rfl (lv_at hl 2 rfl) ?_
  obtain ⟨h_1, hF⟩ := chk_some hF
  obtain ⟨S1, eS1, hF⟩ := lt_some hF
  refine x_wI C O X (k := 50) rfl (n := 6) rfl  (inb_vp h_1) rfl eS1 dX11_chance_74 (fun H locs X => ?_)
  exact bX11_chance_75 C O X (lv_sub hl [] rfl) hF
noncomputable def fX11_chance_b25 (N : Nat) (S : gS) : Option (Int32 × gS) := lt (xtw S) fun T1 => (bnd (fX11_draw N (S T1 5) S) fun q1 => (lt (xtw q1.2) fun T2 => (bnd (fX11_draw N (q1.2 T2 0) q1.2) fun q2 => (lt (xtw q2.2) fun T3 => (bnd (fX7_holderOf N 46 T3 q2.1 q2.2) fun q3 => (if q3.1 = ((-1)) then fX11_chance_b65 N q1.1 q2.1 q3.2 else fX11_chance_b75 N q3.2))))))
theorem bX11_chance_25 {N : Nat} {S : gS} {H : Heap} {locs : List Loc} {ls : Array Slot} {o : Int32 × gS} (C : gC p s m args meth c cX11_chance 4 RX11 none D (xtys cI cB cZ cQ) xord g Am) (O : xO g cI cB cZ cQ Am) (X : gX D (xcell g cI cB cZ cQ) xord g S s H locs) (hl : lv_has ls 4 [(0, .ref (g 0))]) (hF : fX11_chance_b25 N S = some o) : W p l e (rmd 2) s m args below meth c H locs 0 0 (gE below args s D (xtys cI cB cZ cQ) (xcell g cI cB cZ cQ) xord g none o.2) (F0 m 25 ls []) := by
  unfold fX11_chance_b25 at hF
  refine lv_aload_n C.1.1 C.1.2.1 dX11_chance_25 rfl (lv_at hl 0 rfl) ?_
  refine lv_aload_n C.1.1 C.1.2.1 dX11_chance_26 rfl (lv_at hl 0 rfl) ?_
  obtain ⟨T1, eT1, hF⟩ := lt_some hF
  have hk_T1 := xtw_k eT1
  refine xg_X11_57 C O X (T := T1) eT1 (k := 0) rfl dX11_chance_27 ?_
  refine xg_X11_111 C O X (k := T1) hk_T1 dX11_chance_30 ?_
  obtain ⟨q1, hq1, hF⟩ := bnd_some hF
  refine x_callVi C X (k := 0) xv_X11_357 (rfl : xk 0 = 11) rfl rfl (by decide) (kX11_draw O C.2.2.2.2.1 N (S T1 5) S q1 hq1) (Nat.le_of_ble_eq_true rfl) (Nat.le_of_ble_eq_true rfl) (Nat.le_of_ble_eq_true rfl) (Nat.le_of_ble_eq_true rfl) rfl hl.1 rfl (Nat.le_of_ble_eq_true rfl) dX11_chance_33 (fun H locs X => ?_)
  refine lv_istore_n (lv' := [(2, .int q1.1), (0, .ref (g 0))]) C.1.1 C.1.2.1 dX11_chance_36 rfl hl (by decide) rfl (fun ls hl => ?_)
  refine lv_aload_n C.1.1 C.1.2.1 dX11_chance_37 rfl (lv_at hl 1 rfl) ?_
  refine lv_aload_n C.1.1 C.1.2.1 dX11_chance_38 rfl (lv_at hl 1 rfl) ?_
  obtain ⟨T2, eT2, hF⟩ := lt_some hF
  have hk_T2 := xtw_k eT2
  refine xg_X11_57 C O X (T := T2) eT2 (k := 0) rfl dX11_chance_39 ?_
  refine xg_X11_108 C O X (k := T2) hk_T2 dX11_chance_42 ?_
  obtain ⟨q2, hq2, hF⟩ := bnd_some hF
  refine x_callVi C X (k := 0) xv_X11_357 (rfl : xk 0 = 11) rfl rfl (by decide) (kX11_draw O C.2.2.2.2.1 N (q1.2 T2 0) q1.2 q2 hq2) (Nat.le_of_ble_eq_true rfl) (Nat.le_of_ble_eq_true rfl) (Nat.le_of_ble_eq_true rfl) (Nat.le_of_ble_eq_true rfl) rfl hl.1 rfl (Nat.le_of_ble_eq_true rfl) dX11_chance_45 (fun H locs X => ?_)
  refine lv_istore_n (lv' := [(3, .int q2.1), (2, .int q1.1), (0, .ref (g 0))]) C.1.1 C.1.2.1 dX11_chance_48 rfl hl (by decide) rfl (fun ls hl => ?_)
  refine lv_aload_n C.1.1 C.1.2.1 dX11_chance_49 rfl (lv_at hl 2 rfl) ?_
  refine xg_X11_29 C O X (k := 0) rfl (j := 46) rfl dX11_chance_50 ?_
  refine lv_aload_n C.1.1 C.1.2.1 dX11_chance_53 rfl (lv_at hl 2 rfl) ?_
  obtain ⟨T3, eT3, hF⟩ := lt_some hF
  have hk_T3 := xtw_k eT3
  refine xg_X11_57 C O X (T := T3) eT3 (k := 0) rfl dX11_chance_54 ?_
  refine lv_iload_n C.1.1 C.1.2.1 dX11_chance_57 rfl (lv_at hl 0 rfl) ?_
  obtain ⟨q3, hq3, hF⟩ := bnd_some hF
  refine x_callVi C X (k := 46) xv_X11_182 (rfl : xk 46 = 7) rfl rfl (by decide) (kX7_holderOf O C.2.2.2.2.1 N 46 T3 q2.1 (rfl : xk 46 = 7) (hk_T3 : xk T3 = 9) q2.2 q3 hq3) (Nat.le_of_ble_eq_true rfl) (Nat.le_of_ble_eq_true rfl) (Nat.le_of_ble_eq_true rfl) (Nat.le_of_ble_eq_true rfl) rfl hl.1 rfl (Nat.le_of_ble_eq_true rfl) dX11_chance_58 (fun H locs X => ?_)
  refine lv_iconst (v := (-1)) C.1.1 C.1.2.1 dX11_chance_61 (by decide) ?_
  refine lv_icmp_ne (tgt := 75) C.1.1 C.1.2.1 dX11_chance_62 (by decide) (fun h_z => ?_) (fun h_z => ?_)
  · rw [if_neg h_z] at hF
    exact bX11_chance_75 C O X (lv_sub hl [] rfl) hF
  · rw [if_pos h_z] at hF
    exact bX11_chance_65 C O X (lv_sub hl [2, 1, 0] rfl) hF
noncomputable def fX11_chance_b21 (N : Nat) (x1 : Int32) (S : gS) : Option (Int32 × gS) := if x1 = 0 then fX11_chance_b25 N S else fX11_chance_b78 N x1 S
theorem bX11_chance_21 {N : Nat} {x1 : Int32} {S : gS} {H : Heap} {locs : List Loc} {ls : Array Slot} {o : Int32 × gS} (C : gC p s m args meth c cX11_chance 4 RX11 none D (xtys cI cB cZ cQ) xord g Am) (O : xO g cI cB cZ cQ Am) (X : gX D (xcell g cI cB cZ cQ) xord g S s H locs) (hl : lv_has ls 4 [(0, .ref (g 0)), (1, .int x1)]) (hF : fX11_chance_b21 N x1 S = some o) : W p l e (rmd 2) s m args below meth c H locs 0 0 (gE below args s D (xtys cI cB cZ cQ) (xcell g cI cB cZ cQ) xord g none o.2) (F0 m 21 ls []) := by
  unfold fX11_chance_b21 at hF
  refine lv_iload_n C.1.1 C.1.2.1 dX11_chance_21 rfl (lv_at hl 1 rfl) ?_
  refine lv_if_ne (tgt := 78) C.1.1 C.1.2.1 dX11_chance_22 (by decide) (fun h_z => ?_) (fun h_z => ?_)
  · rw [if_neg h_z] at hF
    exact bX11_chance_78 C O X (lv_sub hl [0, 1] rfl) hF
  · rw [if_pos h_z] at hF
    exact bX11_chance_25 C O X (lv_sub hl [0] rfl) hF
noncomputable def fX11_chance_b20 (N : Nat) (S : gS) : Option (Int32 × gS) := some (0, S)
theorem bX11_chance_20 {N : Nat} {S : gS} {H : Heap} {locs : List Loc} {ls : Array Slot} {o : Int32 × gS} (C : gC p s m args meth c cX11_chance 4 RX11 none D (xtys cI cB cZ cQ) xord g Am) (O : xO g cI cB cZ cQ Am) (X : gX D (xcell g cI cB cZ cQ) xord g S s H locs) (hl : lv_has ls 4 []) (hF : fX11_chance_b20 N S = some o) : W p l e (rmd 2) s m args below meth c H locs 0 0 (gE below args s D (xtys cI cB cZ cQ) (xcell g cI cB cZ cQ) xord g none o.2) (F0 m 20 ls []) := by
  unfold fX11_chance_b20 at hF
  cases hF
  exact g_vret C X dX11_chance_20
noncomputable def fX11_chance_b10 (N : Nat) (x1 : Int32) (S : gS) : Option (Int32 × gS) := lt (xtw S) fun T1 => (if (S T1 0) = 0 then fX11_chance_b20 N S else fX11_chance_b21 N x1 S)
theorem bX11_chance_10 {N : Nat} {x1 : Int32} {S : gS} {H : Heap} {locs : List Loc} {ls : Array Slot} {o : Int32 × gS} (C : gC p s m args meth c cX11_chance 4 RX11 none D (xtys cI cB cZ cQ) xord g Am) (O : xO g cI cB cZ cQ Am) (X : gX D (xcell g cI cB cZ cQ) xord g S s H locs) (hl : lv_has ls 4 [(0, .ref (g 0)), (1, .int x1)]) (hF : fX11_chance_b10 N x1 S = some o) : W p l e (rmd 2) s m args below meth c H locs 0 0 (gE below args s D (xtys cI cB cZ cQ) (xcell g cI cB cZ cQ) xord g none o.2) (F0 m 10 ls []) := by
  unfold fX11_chance_b10 at hF
  refine lv_aload_n C.1.1 C.1.2.1 dX11_chance_10 rfl (lv_at hl 0 rfl) ?_
  obtain ⟨T1, eT1, hF⟩ := lt_some hF
  have hk_T1 := xtw_k eT1
  refine xg_X11_57 C O X (T := T1) eT1 (k := 0) rfl dX11_chance_11 ?_
  refine xg_X11_108 C O X (k := T1) hk_T1 dX11_chance_14 ?_
  refine lv_if_ne (tgt := 21) C.1.1 C.1.2.1 dX11_chance_17 (by decide) (fun h_z => ?_) (fun h_z => ?_)
  · rw [if_neg h_z] at hF
    exact bX11_chance_21 C O X (lv_sub hl [0, 1] rfl) hF
  · rw [if_pos h_z] at hF
    exact bX11_chance_20 C O X (lv_sub hl [] rfl) hF
noncomputable def fX11_chance_b0 (N : Nat) (x1 : Int32) (S : gS) : Option (Int32 × gS) := lt (xtw S) fun T1 => (if (S T1 5) = 0 then fX11_chance_b20 N S else fX11_chance_b10 N x1 S)
theorem bX11_chance_0 {N : Nat} {x1 : Int32} {S : gS} {H : Heap} {locs : List Loc} {ls : Array Slot} {o : Int32 × gS} (C : gC p s m args meth c cX11_chance 4 RX11 none D (xtys cI cB cZ cQ) xord g Am) (O : xO g cI cB cZ cQ Am) (X : gX D (xcell g cI cB cZ cQ) xord g S s H locs) (hl : lv_has ls 4 [(0, .ref (g 0)), (1, .int x1)]) (hF : fX11_chance_b0 N x1 S = some o) : W p l e (rmd 2) s m args below meth c H locs 0 0 (gE below args s D (xtys cI cB cZ cQ) (xcell g cI cB cZ cQ) xord g none o.2) (F0 m 0 ls []) := by
  unfold fX11_chance_b0 at hF
  refine lv_aload_n C.1.1 C.1.2.1 dX11_chance_0 rfl (lv_at hl 0 rfl) ?_
  obtain ⟨T1, eT1, hF⟩ := lt_some hF
  have hk_T1 := xtw_k eT1
  refine xg_X11_57 C O X (T := T1) eT1 (k := 0) rfl dX11_chance_1 ?_
  refine xg_X11_111 C O X (k := T1) hk_T1 dX11_chance_4 ?_
  refine lv_if_eq (tgt := 20) C.1.1 C.1.2.1 dX11_chance_7 (by decide) (fun h_z => ?_) (fun h_z => ?_)
  · rw [if_pos h_z] at hF
    exact bX11_chance_20 C O X (lv_sub hl [] rfl) hF
  · rw [if_neg h_z] at hF
    exact bX11_chance_10 C O X (lv_sub hl [0, 1] rfl) hF
noncomputable def fX11_chance (N : Nat) (x1 : Int32) (S : gS) : Option (Int32 × gS) := fX11_chance_b0 N x1 S
theorem kX11_chance {l : Launch} {D : va_G} {g : Nat → Nat} {cI cB cZ cQ : ClassId} {Am : (Nat → Prop) → State → Heap → Prop} (O : xO g cI cB cZ cQ Am) (P : gAm Am) (N : Nat) (x1 : Int32) (S : gS) (o : Int32 × gS) (hF : fX11_chance N x1 S = some o) : gM l yX11_chance cX11_chance 4 none 2 D (xtys cI cB cZ cQ) (xcell g cI cB cZ cQ) xord g Am [.ref (g 0), .int x1] S none o.2 :=
  gM_of O.1 P (by decide) (Nat.le_of_ble_eq_true rfl) (fun p e s m args below meth c ls C X hl => bX11_chance_0 C O X (lv_sub hl [0, 1] rfl) hF)
-- X0.takeBack
noncomputable def fX0_takeBack_b10 (N : Nat) (k0 : Nat) (k1 : Nat) (S : gS) : Option (Int32 × gS) := lt (sU S k0 1 (((S k0 1) - 1 : Int32))) fun S1 => (bnd (fX7_read N k1 (k0 + 1) (((S1 k0 1) * 26 : Int32)) S1) fun q1 => (some (q1.2 k0 1, q1.2)))
theorem bX0_takeBack_10 {N : Nat} {k0 : Nat} {k1 : Nat} {S : gS} {H : Heap} {locs : List Loc} {ls : Array Slot} {o : Int32 × gS} (C : gC p s m args meth c cX0_takeBack 2 RX0 ((some .int)) D (xtys cI cB cZ cQ) xord g Am) (O : xO g cI cB cZ cQ Am) (hk_k0 : xk k0 = 0) (hk_k1 : xk k1 = 7) (X : gX D (xcell g cI cB cZ cQ) xord g S s H locs) (hl : lv_has ls 2 [(0, .ref (g k0)), (1, .ref (g k1))]) (hF : fX0_takeBack_b10 N k0 k1 S = some o) : W p l e (rmd 1) s m args below meth c H locs 0 0 (gE below args s D (xtys cI cB cZ cQ) (xcell g cI cB cZ cQ) xord g (some (.int o.1)) o.2) (F0 m 10 ls []) := by
  unfold fX0_takeBack_b10 at hF
  refine lv_aload_n C.1.1 C.1.2.1 dX0_takeBack_10 rfl (lv_at hl 0 rfl) ?_
  refine lv_dup C.1.1 C.1.2.1 dX0_takeBack_11 rfl ?_
  refine xg_X0_17 C O X (k := k0) hk_k0 dX0_takeBack_12 ?_
  refine lv_iconst (v := 1) C.1.1 C.1.2.1 dX0_takeBack_15 (by decide) ?_
  refine lv_isub C.1.1 C.1.2.1 dX0_takeBack_16 ?_
  obtain ⟨S1, eS1, hF⟩ := lt_some hF
  refine xp_X0_17 C O X (k := k0) hk_k0 eS1 dX0_takeBack_17 (fun H locs X => ?_)
  refine lv_aload_n C.1.1 C.1.2.1 dX0_takeBack_20 rfl (lv_at hl 1 rfl) ?_
  refine lv_aload_n C.1.1 C.1.2.1 dX0_takeBack_21 rfl (lv_at hl 0 rfl) ?_
  refine xg_X0_11 C O X (k := k0) hk_k0 (j := k0 + 1) rfl dX0_takeBack_22 ?_
  refine lv_aload_n C.1.1 C.1.2.1 dX0_takeBack_25 rfl (lv_at hl 0 rfl) ?_
  refine xg_X0_17 C O X (k := k0) hk_k0 dX0_takeBack_26 ?_
  refine lv_bipush (v := 26) C.1.1 C.1.2.1 dX0_takeBack_29 (by decide) ?_
  refine lv_imul C.1.1 C.1.2.1 dX0_takeBack_31 ?_
  obtain ⟨q1, hq1, hF⟩ := bnd_some hF
  refine x_callV C X (k := k1) xv_X0_31 hk_k1 rfl rfl (by decide) (kX7_read O C.2.2.2.2.1 N k1 (k0 + 1) (((S1 k0 1) * 26 : Int32)) (hk_k1 : xk k1 = 7) ((xs_0_0 hk_k0).1 : xk (k0 + 1) = 20) S1 q1 hq1) (Nat.le_of_ble_eq_true rfl) (Nat.le_of_ble_eq_true rfl) (Nat.le_of_ble_eq_true rfl) (Nat.le_of_ble_eq_true rfl) rfl hl.1 rfl (Nat.le_of_ble_eq_true rfl) dX0_takeBack_32 (fun H locs X => ?_)
  refine lv_aload_n C.1.1 C.1.2.1 dX0_takeBack_35 rfl (lv_at hl 0 rfl) ?_
  refine xg_X0_17 C O X (k := k0) hk_k0 dX0_takeBack_36 ?_
  cases hF
  exact g_iret C X dX0_takeBack_39
noncomputable def fX0_takeBack_b8 (N : Nat) (S : gS) : Option (Int32 × gS) := some ((-1), S)
theorem bX0_takeBack_8 {N : Nat} {S : gS} {H : Heap} {locs : List Loc} {ls : Array Slot} {o : Int32 × gS} (C : gC p s m args meth c cX0_takeBack 2 RX0 ((some .int)) D (xtys cI cB cZ cQ) xord g Am) (O : xO g cI cB cZ cQ Am) (X : gX D (xcell g cI cB cZ cQ) xord g S s H locs) (hl : lv_has ls 2 []) (hF : fX0_takeBack_b8 N S = some o) : W p l e (rmd 1) s m args below meth c H locs 0 0 (gE below args s D (xtys cI cB cZ cQ) (xcell g cI cB cZ cQ) xord g (some (.int o.1)) o.2) (F0 m 8 ls []) := by
  unfold fX0_takeBack_b8 at hF
  refine lv_iconst (v := (-1)) C.1.1 C.1.2.1 dX0_takeBack_8 (by decide) ?_
  cases hF
  exact g_iret C X dX0_takeBack_9
noncomputable def fX0_takeBack_b0 (N : Nat) (k0 : Nat) (k1 : Nat) (S : gS) : Option (Int32 × gS) := if 1 ≤ (S k0 1) then fX0_takeBack_b10 N k0 k1 S else fX0_takeBack_b8 N S
theorem bX0_takeBack_0 {N : Nat} {k0 : Nat} {k1 : Nat} {S : gS} {H : Heap} {locs : List Loc} {ls : Array Slot} {o : Int32 × gS} (C : gC p s m args meth c cX0_takeBack 2 RX0 ((some .int)) D (xtys cI cB cZ cQ) xord g Am) (O : xO g cI cB cZ cQ Am) (hk_k0 : xk k0 = 0) (hk_k1 : xk k1 = 7) (X : gX D (xcell g cI cB cZ cQ) xord g S s H locs) (hl : lv_has ls 2 [(0, .ref (g k0)), (1, .ref (g k1))]) (hF : fX0_takeBack_b0 N k0 k1 S = some o) : W p l e (rmd 1) s m args below meth c H locs 0 0 (gE below args s D (xtys cI cB cZ cQ) (xcell g cI cB cZ cQ) xord g (some (.int o.1)) o.2) (F0 m 0 ls []) := by
  unfold fX0_takeBack_b0 at hF
  refine lv_aload_n C.1.1 C.1.2.1 dX0_takeBack_0 rfl (lv_at hl 0 rfl) ?_
  refine xg_X0_17 C O X (k := k0) hk_k0 dX0_takeBack_1 ?_
  refine lv_iconst (v := 1) C.1.1 C.1.2.1 dX0_takeBack_4 (by decide) ?_
  refine lv_icmp_ge (tgt := 10) C.1.1 C.1.2.1 dX0_takeBack_5 (by decide) (fun h_z => ?_) (fun h_z => ?_)
  · rw [if_pos h_z] at hF
    exact bX0_takeBack_10 C O (hk_k0 : xk k0 = 0) (hk_k1 : xk k1 = 7) X (lv_sub hl [0, 1] rfl) hF
  · rw [if_neg h_z] at hF
    exact bX0_takeBack_8 C O X (lv_sub hl [] rfl) hF
noncomputable def fX0_takeBack (N : Nat) (k0 : Nat) (k1 : Nat) (S : gS) : Option (Int32 × gS) := fX0_takeBack_b0 N k0 k1 S
theorem kX0_takeBack {l : Launch} {D : va_G} {g : Nat → Nat} {cI cB cZ cQ : ClassId} {Am : (Nat → Prop) → State → Heap → Prop} (O : xO g cI cB cZ cQ Am) (P : gAm Am) (N : Nat) (k0 : Nat) (k1 : Nat) (hk_k0 : xk k0 = 0) (hk_k1 : xk k1 = 7) (S : gS) (o : Int32 × gS) (hF : fX0_takeBack N k0 k1 S = some o) : gM l yX0_takeBack cX0_takeBack 2 ((some .int)) 1 D (xtys cI cB cZ cQ) (xcell g cI cB cZ cQ) xord g Am [.ref (g k0), .ref (g k1)] S (some (.int o.1)) o.2 :=
  gM_of O.1 P (by decide) (Nat.le_of_ble_eq_true rfl) (fun p e s m args below meth c ls C X hl => bX0_takeBack_0 C O hk_k0 hk_k1 X (lv_sub hl [0, 1] rfl) hF)
-- X1.begin
noncomputable def fX1_begin_b0 (N : Nat) (k0 : Nat) (k1 : Nat) (S : gS) : Option (Int32 × gS) := bnd (fX7_begin N (k0 + 1) k1 S) fun q1 => (lt (sU q1.2 (k0 + 6) 1 0) fun S1 => (lt (sU S1 (k0 + 8) 3 0) fun S2 => (some (0, S2))))
theorem bX1_begin_0 {N : Nat} {k0 : Nat} {k1 : Nat} {S : gS} {H : Heap} {locs : List Loc} {ls : Array Slot} {o : Int32 × gS} (C : gC p s m args meth c cX1_begin 2 RX1 none D (xtys cI cB cZ cQ) xord g Am) (O : xO g cI cB cZ cQ Am) (hk_k0 : xk k0 = 1) (hk_k1 : xk k1 = 9) (X : gX D (xcell g cI cB cZ cQ) xord g S s H locs) (hl : lv_has ls 2 [(0, .ref (g k0)), (1, .ref (g k1))]) (hF : fX1_begin_b0 N k0 k1 S = some o) : W p l e (rmd 1) s m args below meth c H locs 0 0 (gE below args s D (xtys cI cB cZ cQ) (xcell g cI cB cZ cQ) xord g none o.2) (F0 m 0 ls []) := by
  unfold fX1_begin_b0 at hF
  refine lv_aload_n C.1.1 C.1.2.1 dX1_begin_0 rfl (lv_at hl 0 rfl) ?_
  refine xg_X1_12 C O X (k := k0) hk_k0 (j := k0 + 1) rfl dX1_begin_1 ?_
  refine lv_aload_n C.1.1 C.1.2.1 dX1_begin_4 rfl (lv_at hl 1 rfl) ?_
  obtain ⟨q1, hq1, hF⟩ := bnd_some hF
  refine x_callV C X (k := k0 + 1) xv_X1_36 (xs_1_0 hk_k0) rfl rfl (by decide) (kX7_begin O C.2.2.2.2.1 N (k0 + 1) k1 ((xs_1_0 hk_k0) : xk (k0 + 1) = 7) (hk_k1 : xk k1 = 9) S q1 hq1) (Nat.le_of_ble_eq_true rfl) (Nat.le_of_ble_eq_true rfl) (Nat.le_of_ble_eq_true rfl) (Nat.le_of_ble_eq_true rfl) rfl hl.1 rfl (Nat.le_of_ble_eq_true rfl) dX1_begin_5 (fun H locs X => ?_)
  refine lv_aload_n C.1.1 C.1.2.1 dX1_begin_8 rfl (lv_at hl 0 rfl) ?_
  refine xg_X1_21 C O X (k := k0) hk_k0 (j := k0 + 6) rfl dX1_begin_9 ?_
  refine lv_iconst (v := 0) C.1.1 C.1.2.1 dX1_begin_12 (by decide) ?_
  obtain ⟨S1, eS1, hF⟩ := lt_some hF
  refine xp_X1_40 C O X (k := k0 + 6) (xs_1_1 hk_k0) eS1 dX1_begin_13 (fun H locs X => ?_)
  refine lv_aload_n C.1.1 C.1.2.1 dX1_begin_16 rfl (lv_at hl 0 rfl) ?_
  refine xg_X1_28 C O X (k := k0) hk_k0 (j := k0 + 8) rfl dX1_begin_17 ?_
  refine lv_iconst (v := 0) C.1.1 C.1.2.1 dX1_begin_20 (by decide) ?_
  obtain ⟨S2, eS2, hF⟩ := lt_some hF
  refine xp_X1_44 C O X (k := k0 + 8) (xs_1_2 hk_k0) eS2 dX1_begin_21 (fun H locs X => ?_)
  cases hF
  exact g_vret C X dX1_begin_24
noncomputable def fX1_begin (N : Nat) (k0 : Nat) (k1 : Nat) (S : gS) : Option (Int32 × gS) := fX1_begin_b0 N k0 k1 S
theorem kX1_begin {l : Launch} {D : va_G} {g : Nat → Nat} {cI cB cZ cQ : ClassId} {Am : (Nat → Prop) → State → Heap → Prop} (O : xO g cI cB cZ cQ Am) (P : gAm Am) (N : Nat) (k0 : Nat) (k1 : Nat) (hk_k0 : xk k0 = 1) (hk_k1 : xk k1 = 9) (S : gS) (o : Int32 × gS) (hF : fX1_begin N k0 k1 S = some o) : gM l yX1_begin cX1_begin 2 none 1 D (xtys cI cB cZ cQ) (xcell g cI cB cZ cQ) xord g Am [.ref (g k0), .ref (g k1)] S none o.2 :=
  gM_of O.1 P (by decide) (Nat.le_of_ble_eq_true rfl) (fun p e s m args below meth c ls C X hl => bX1_begin_0 C O hk_k0 hk_k1 X (lv_sub hl [0, 1] rfl) hF)
-- X2.doOthersSuit
noncomputable def fX2_doOthersSuit_b42 (N : Nat) (S : gS) : Option (Int32 × gS) := some (1, S)
theorem bX2_doOthersSuit_42 {N : Nat} {S : gS} {H : Heap} {locs : List Loc} {ls : Array Slot} {o : Int32 × gS} (C : gC p s m args meth c cX2_doOthersSuit 5 RX2 ((some .boolean)) D (xtys cI cB cZ cQ) xord g Am) (O : xO g cI cB cZ cQ Am) (X : gX D (xcell g cI cB cZ cQ) xord g S s H locs) (hl : lv_has ls 5 []) (hF : fX2_doOthersSuit_b42 N S = some o) : W p l e (rmd 1) s m args below meth c H locs 0 0 (gE below args s D (xtys cI cB cZ cQ) (xcell g cI cB cZ cQ) xord g (some (.int o.1)) o.2) (F0 m 42 ls []) := by
  unfold fX2_doOthersSuit_b42 at hF
  refine lv_iconst (v := 1) C.1.1 C.1.2.1 dX2_doOthersSuit_42 (by decide) ?_
  cases hF
  exact g_zret (x := 1) C X (by decide) dX2_doOthersSuit_43
noncomputable def fX2_doOthersSuit_b36 (N : Nat) (r3 : Nat → Nat → Int32 → Int32 → gS → Option (Int32 × gS)) (k1 : Nat) (k2 : Nat) (x3 : Int32) (x4 : Int32) (S : gS) : Option (Int32 × gS) := r3 k1 k2 x3 ((x4 + 1 : Int32)) S
theorem bX2_doOthersSuit_36 {N : Nat} {r3 : Nat → Nat → Int32 → Int32 → gS → Option (Int32 × gS)} {k1 : Nat} {k2 : Nat} {x3 : Int32} {x4 : Int32} {S : gS} {H : Heap} {locs : List Loc} {ls : Array Slot} {o : Int32 × gS} (C : gC p s m args meth c cX2_doOthersSuit 5 RX2 ((some .boolean)) D (xtys cI cB cZ cQ) xord g Am) (O : xO g cI cB cZ cQ Am) (K3 : ∀ (k1 : Nat) (k2 : Nat) (x3 : Int32) (x4 : Int32) (hk_k1 : xk k1 = 9) (hk_k2 : xk k2 = 5) (S : gS) (H : Heap) (locs : List Loc) (ls : Array Slot), gX D (xcell g cI cB cZ cQ) xord g S s H locs → lv_has ls 5 [(0, .ref (g 62)), (1, .ref (g k1)), (2, .ref (g k2)), (3, .int x3), (4, .int x4)] → r3 k1 k2 x3 x4 S = some o → W p l e (rmd 1) s m args below meth c H locs 0 0 (gE below args s D (xtys cI cB cZ cQ) (xcell g cI cB cZ cQ) xord g (some (.int o.1)) o.2) (F0 m 3 ls [])) (hk_k1 : xk k1 = 9) (hk_k2 : xk k2 = 5) (X : gX D (xcell g cI cB cZ cQ) xord g S s H locs) (hl : lv_has ls 5 [(0, .ref (g 62)), (1, .ref (g k1)), (2, .ref (g k2)), (3, .int x3), (4, .int x4)]) (hF : fX2_doOthersSuit_b36 N r3 k1 k2 x3 x4 S = some o) : W p l e (rmd 1) s m args below meth c H locs 0 0 (gE below args s D (xtys cI cB cZ cQ) (xcell g cI cB cZ cQ) xord g (some (.int o.1)) o.2) (F0 m 36 ls []) := by
  unfold fX2_doOthersSuit_b36 at hF
  refine lv_iinc (v := (x4 + 1 : Int32)) (lv' := [(4, .int ((x4 + 1 : Int32))), (0, .ref (g 62)), (1, .ref (g k1)), (2, .ref (g k2)), (3, .int x3)]) C.1.1 C.1.2.1 dX2_doOthersSuit_36 hl (k := 4) rfl rfl (by decide) rfl (fun ls hl => ?_)
  refine lv_goto (tgt := 3) C.1.1 C.1.2.1 dX2_doOthersSuit_39 (by decide) ?_
  exact K3 _ _ _ _ (hk_k1 : xk k1 = 9) (hk_k2 : xk k2 = 5) _ _ _ _ X (lv_sub hl [1, 2, 3, 4, 0] rfl) hF
noncomputable def fX2_doOthersSuit_b34 (N : Nat) (S : gS) : Option (Int32 × gS) := some (0, S)
theorem bX2_doOthersSuit_34 {N : Nat} {S : gS} {H : Heap} {locs : List Loc} {ls : Array Slot} {o : Int32 × gS} (C : gC p s m args meth c cX2_doOthersSuit 5 RX2 ((some .boolean)) D (xtys cI cB cZ cQ) xord g Am) (O : xO g cI cB cZ cQ Am) (X : gX D (xcell g cI cB cZ cQ) xord g S s H locs) (hl : lv_has ls 5 []) (hF : fX2_doOthersSuit_b34 N S = some o) : W p l e (rmd 1) s m args below meth c H locs 0 0 (gE below args s D (xtys cI cB cZ cQ) (xcell g cI cB cZ cQ) xord g (some (.int o.1)) o.2) (F0 m 34 ls []) := by
  unfold fX2_doOthersSuit_b34 at hF
  refine lv_iconst (v := 0) C.1.1 C.1.2.1 dX2_doOthersSuit_34 (by decide) ?_
  cases hF
  exact g_zret (x := 0) C X (by decide) dX2_doOthersSuit_35
noncomputable def fX2_doOthersSuit_b18 (N : Nat) (r3 : Nat → Nat → Int32 → Int32 → gS → Option (Int32 × gS)) (k1 : Nat) (k2 : Nat) (x3 : Int32) (x4 : Int32) (S : gS) : Option (Int32 × gS) := chk (inb x4 6) (lt (63 + 1 + Int32.toNatClampNeg x4) fun T1 => (bnd (fX5_suits N k2 x4 T1 S) fun q1 => (if q1.1 = 0 then fX2_doOthersSuit_b34 N q1.2 else fX2_doOthersSuit_b36 N r3 k1 k2 x3 x4 q1.2)))
theorem bX2_doOthersSuit_18 {N : Nat} {r3 : Nat → Nat → Int32 → Int32 → gS → Option (Int32 × gS)} {k1 : Nat} {k2 : Nat} {x3 : Int32} {x4 : Int32} {S : gS} {H : Heap} {locs : List Loc} {ls : Array Slot} {o : Int32 × gS} (C : gC p s m args meth c cX2_doOthersSuit 5 RX2 ((some .boolean)) D (xtys cI cB cZ cQ) xord g Am) (O : xO g cI cB cZ cQ Am) (K3 : ∀ (k1 : Nat) (k2 : Nat) (x3 : Int32) (x4 : Int32) (hk_k1 : xk k1 = 9) (hk_k2 : xk k2 = 5) (S : gS) (H : Heap) (locs : List Loc) (ls : Array Slot), gX D (xcell g cI cB cZ cQ) xord g S s H locs → lv_has ls 5 [(0, .ref (g 62)), (1, .ref (g k1)), (2, .ref (g k2)), (3, .int x3), (4, .int x4)] → r3 k1 k2 x3 x4 S = some o → W p l e (rmd 1) s m args below meth c H locs 0 0 (gE below args s D (xtys cI cB cZ cQ) (xcell g cI cB cZ cQ) xord g (some (.int o.1)) o.2) (F0 m 3 ls [])) (hk_k1 : xk k1 = 9) (hk_k2 : xk k2 = 5) (X : gX D (xcell g cI cB cZ cQ) xord g S s H locs) (hl : lv_has ls 5 [(0, .ref (g 62)), (1, .ref (g k1)), (2, .ref (g k2)), (3, .int x3), (4, .int x4)]) (hF : fX2_doOthersSuit_b18 N r3 k1 k2 x3 x4 S = some o) : W p l e (rmd 1) s m args below meth c H locs 0 0 (gE below args s D (xtys cI cB cZ cQ) (xcell g cI cB cZ cQ) xord g (some (.int o.1)) o.2) (F0 m 18 ls []) := by
  unfold fX2_doOthersSuit_b18 at hF
  refine lv_aload_n C.1.1 C.1.2.1 dX2_doOthersSuit_18 rfl (lv_at hl 2 rfl) ?_
  refine lv_iload C.1.1 C.1.2.1 dX2_doOthersSuit_19 (lv_at hl 4 rfl) ?_
  refine lv_aload_n C.1.1 C.1.2.1 dX2_doOthersSuit_21 rfl (lv_at hl 0 rfl) ?_
  refine xg_X2_11 C O X (k := 62) rfl (j := 63) rfl dX2_doOthersSuit_22 ?_
  refine lv_iload C.1.1 C.1.2.1 dX2_doOthersSuit_25 (lv_at hl 4 rfl) ?_
  obtain ⟨h_1, hF⟩ := chk_some hF
  obtain ⟨T1, eT1, hF⟩ := lt_some hF
  have hk_T1 : xk T1 = 20 ∧ xN T1 = 21 := xq_63 (inb_vp h_1) eT1
  refine x_rQ C X (k := 63) rfl (n := 6) rfl (inb_vp h_1) eT1.symm dX2_doOthersSuit_27 ?_
  obtain ⟨q1, hq1, hF⟩ := bnd_some hF
  refine x_callVi C X (k := k2) xv_X2_81 hk_k2 rfl rfl (by decide) (kX5_suits O C.2.2.2.2.1 N k2 x4 T1 (hk_k2 : xk k2 = 5) (hk_T1.1 : xk T1 = 20) S q1 hq1) (Nat.le_of_ble_eq_true rfl) (Nat.le_of_ble_eq_true rfl) (Nat.le_of_ble_eq_true rfl) (Nat.le_of_ble_eq_true rfl) rfl hl.1 rfl (Nat.le_of_ble_eq_true rfl) dX2_doOthersSuit_28 (fun H locs X => ?_)
  refine lv_if_ne (tgt := 36) C.1.1 C.1.2.1 dX2_doOthersSuit_31 (by decide) (fun h_z => ?_) (fun h_z => ?_)
  · rw [if_neg h_z] at hF
    exact bX2_doOthersSuit_36 C O K3 (hk_k1 : xk k1 = 9) (hk_k2 : xk k2 = 5) X (lv_sub hl [0, 1, 2, 3, 4] rfl) hF
  · rw [if_pos h_z] at hF
    exact bX2_doOthersSuit_34 C O X (lv_sub hl [] rfl) hF
noncomputable def fX2_doOthersSuit_b12 (N : Nat) (r3 : Nat → Nat → Int32 → Int32 → gS → Option (Int32 × gS)) (k1 : Nat) (k2 : Nat) (x3 : Int32) (x4 : Int32) (S : gS) : Option (Int32 × gS) := if x4 = x3 then fX2_doOthersSuit_b36 N r3 k1 k2 x3 x4 S else fX2_doOthersSuit_b18 N r3 k1 k2 x3 x4 S
theorem bX2_doOthersSuit_12 {N : Nat} {r3 : Nat → Nat → Int32 → Int32 → gS → Option (Int32 × gS)} {k1 : Nat} {k2 : Nat} {x3 : Int32} {x4 : Int32} {S : gS} {H : Heap} {locs : List Loc} {ls : Array Slot} {o : Int32 × gS} (C : gC p s m args meth c cX2_doOthersSuit 5 RX2 ((some .boolean)) D (xtys cI cB cZ cQ) xord g Am) (O : xO g cI cB cZ cQ Am) (K3 : ∀ (k1 : Nat) (k2 : Nat) (x3 : Int32) (x4 : Int32) (hk_k1 : xk k1 = 9) (hk_k2 : xk k2 = 5) (S : gS) (H : Heap) (locs : List Loc) (ls : Array Slot), gX D (xcell g cI cB cZ cQ) xord g S s H locs → lv_has ls 5 [(0, .ref (g 62)), (1, .ref (g k1)), (2, .ref (g k2)), (3, .int x3), (4, .int x4)] → r3 k1 k2 x3 x4 S = some o → W p l e (rmd 1) s m args below meth c H locs 0 0 (gE below args s D (xtys cI cB cZ cQ) (xcell g cI cB cZ cQ) xord g (some (.int o.1)) o.2) (F0 m 3 ls [])) (hk_k1 : xk k1 = 9) (hk_k2 : xk k2 = 5) (X : gX D (xcell g cI cB cZ cQ) xord g S s H locs) (hl : lv_has ls 5 [(0, .ref (g 62)), (1, .ref (g k1)), (2, .ref (g k2)), (3, .int x3), (4, .int x4)]) (hF : fX2_doOthersSuit_b12 N r3 k1 k2 x3 x4 S = some o) : W p l e (rmd 1) s m args below meth c H locs 0 0 (gE below args s D (xtys cI cB cZ cQ) (xcell g cI cB cZ cQ) xord g (some (.int o.1)) o.2) (F0 m 12 ls []) := by
  unfold fX2_doOthersSuit_b12 at hF
  refine lv_iload C.1.1 C.1.2.1 dX2_doOthersSuit_12 (lv_at hl 4 rfl) ?_
  refine lv_iload_n C.1.1 C.1.2.1 dX2_doOthersSuit_14 rfl (lv_at hl 3 rfl) ?_
  refine lv_icmp_eq (tgt := 36) C.1.1 C.1.2.1 dX2_doOthersSuit_15 (by decide) (fun h_z => ?_) (fun h_z => ?_)
  · rw [if_pos h_z] at hF
    exact bX2_doOthersSuit_36 C O K3 (hk_k1 : xk k1 = 9) (hk_k2 : xk k2 = 5) X (lv_sub hl [0, 1, 2, 3, 4] rfl) hF
  · rw [if_neg h_z] at hF
    exact bX2_doOthersSuit_18 C O K3 (hk_k1 : xk k1 = 9) (hk_k2 : xk k2 = 5) X (lv_sub hl [0, 1, 2, 3, 4] rfl) hF
noncomputable def fX2_doOthersSuit_b3 (N : Nat) (r3 : Nat → Nat → Int32 → Int32 → gS → Option (Int32 × gS)) (k1 : Nat) (k2 : Nat) (x3 : Int32) (x4 : Int32) (S : gS) : Option (Int32 × gS) := if (S k1 5) ≤ x4 then fX2_doOthersSuit_b42 N S else fX2_doOthersSuit_b12 N r3 k1 k2 x3 x4 S
theorem bX2_doOthersSuit_3 {N : Nat} {r3 : Nat → Nat → Int32 → Int32 → gS → Option (Int32 × gS)} {k1 : Nat} {k2 : Nat} {x3 : Int32} {x4 : Int32} {S : gS} {H : Heap} {locs : List Loc} {ls : Array Slot} {o : Int32 × gS} (C : gC p s m args meth c cX2_doOthersSuit 5 RX2 ((some .boolean)) D (xtys cI cB cZ cQ) xord g Am) (O : xO g cI cB cZ cQ Am) (K3 : ∀ (k1 : Nat) (k2 : Nat) (x3 : Int32) (x4 : Int32) (hk_k1 : xk k1 = 9) (hk_k2 : xk k2 = 5) (S : gS) (H : Heap) (locs : List Loc) (ls : Array Slot), gX D (xcell g cI cB cZ cQ) xord g S s H locs → lv_has ls 5 [(0, .ref (g 62)), (1, .ref (g k1)), (2, .ref (g k2)), (3, .int x3), (4, .int x4)] → r3 k1 k2 x3 x4 S = some o → W p l e (rmd 1) s m args below meth c H locs 0 0 (gE below args s D (xtys cI cB cZ cQ) (xcell g cI cB cZ cQ) xord g (some (.int o.1)) o.2) (F0 m 3 ls [])) (hk_k1 : xk k1 = 9) (hk_k2 : xk k2 = 5) (X : gX D (xcell g cI cB cZ cQ) xord g S s H locs) (hl : lv_has ls 5 [(0, .ref (g 62)), (1, .ref (g k1)), (2, .ref (g k2)), (3, .int x3), (4, .int x4)]) (hF : fX2_doOthersSuit_b3 N r3 k1 k2 x3 x4 S = some o) : W p l e (rmd 1) s m args below meth c H locs 0 0 (gE below args s D (xtys cI cB cZ cQ) (xcell g cI cB cZ cQ) xord g (some (.int o.1)) o.2) (F0 m 3 ls []) := by
  unfold fX2_doOthersSuit_b3 at hF
  refine lv_iload C.1.1 C.1.2.1 dX2_doOthersSuit_3 (lv_at hl 4 rfl) ?_
  refine lv_aload_n C.1.1 C.1.2.1 dX2_doOthersSuit_5 rfl (lv_at hl 1 rfl) ?_
  refine xg_X2_34 C O X (k := k1) hk_k1 dX2_doOthersSuit_6 ?_
  refine lv_icmp_ge (tgt := 42) C.1.1 C.1.2.1 dX2_doOthersSuit_9 (by decide) (fun h_z => ?_) (fun h_z => ?_)
  · rw [if_pos h_z] at hF
    exact bX2_doOthersSuit_42 C O X (lv_sub hl [] rfl) hF
  · rw [if_neg h_z] at hF
    exact bX2_doOthersSuit_12 C O K3 (hk_k1 : xk k1 = 9) (hk_k2 : xk k2 = 5) X (lv_sub hl [0, 1, 2, 3, 4] rfl) hF
noncomputable def fX2_doOthersSuit_h3 (N : Nat) : Nat → Nat → Nat → Int32 → Int32 → gS → Option (Int32 × gS)
  | 0, _, _, _, _, _ => none
  | n + 1, k1, k2, x3, x4, S => fX2_doOthersSuit_b3 N (fX2_doOthersSuit_h3 N n) k1 k2 x3 x4 S
theorem hX2_doOthersSuit_3 {N : Nat} {o : Int32 × gS} (C : gC p s m args meth c cX2_doOthersSuit 5 RX2 ((some .boolean)) D (xtys cI cB cZ cQ) xord g Am) (O : xO g cI cB cZ cQ Am) : ∀ (n : Nat) (k1 : Nat) (k2 : Nat) (x3 : Int32) (x4 : Int32) (hk_k1 : xk k1 = 9) (hk_k2 : xk k2 = 5) (S : gS) (H : Heap) (locs : List Loc) (ls : Array Slot), gX D (xcell g cI cB cZ cQ) xord g S s H locs → lv_has ls 5 [(0, .ref (g 62)), (1, .ref (g k1)), (2, .ref (g k2)), (3, .int x3), (4, .int x4)] → fX2_doOthersSuit_h3 N n k1 k2 x3 x4 S = some o → W p l e (rmd 1) s m args below meth c H locs 0 0 (gE below args s D (xtys cI cB cZ cQ) (xcell g cI cB cZ cQ) xord g (some (.int o.1)) o.2) (F0 m 3 ls []) := by
  intro n
  induction n with
  | zero =>
    intro k1 k2 x3 x4 hk_k1 hk_k2 S H locs ls X hl hF
    exact absurd (show (none : Option (Int32 × gS)) = some o from hF) (by simp)
  | succ n ih =>
    intro k1 k2 x3 x4 hk_k1 hk_k2 S H locs ls X hl hF
    have hF : fX2_doOthersSuit_b3 N (fX2_doOthersSuit_h3 N n) k1 k2 x3 x4 S = some o := hF
    exact bX2_doOthersSuit_3 C O ih hk_k1 hk_k2 X hl hF
noncomputable def fX2_doOthersSuit_b0 (N : Nat) (k1 : Nat) (k2 : Nat) (x3 : Int32) (S : gS) : Option (Int32 × gS) := fX2_doOthersSuit_h3 N N k1 k2 x3 0 S
theorem bX2_doOthersSuit_0 {N : Nat} {k1 : Nat} {k2 : Nat} {x3 : Int32} {S : gS} {H : Heap} {locs : List Loc} {ls : Array Slot} {o : Int32 × gS} (C : gC p s m args meth c cX2_doOthersSuit 5 RX2 ((some .boolean)) D (xtys cI cB cZ cQ) xord g Am) (O : xO g cI cB cZ cQ Am) (hk_k1 : xk k1 = 9) (hk_k2 : xk k2 = 5) (X : gX D (xcell g cI cB cZ cQ) xord g S s H locs) (hl : lv_has ls 5 [(0, .ref (g 62)), (1, .ref (g k1)), (2, .ref (g k2)), (3, .int x3)]) (hF : fX2_doOthersSuit_b0 N k1 k2 x3 S = some o) : W p l e (rmd 1) s m args below meth c H locs 0 0 (gE below args s D (xtys cI cB cZ cQ) (xcell g cI cB cZ cQ) xord g (some (.int o.1)) o.2) (F0 m 0 ls []) := by
  unfold fX2_doOthersSuit_b0 at hF
  refine lv_iconst (v := 0) C.1.1 C.1.2.1 dX2_doOthersSuit_0 (by decide) ?_
  refine lv_istore (lv' := [(4, .int 0), (0, .ref (g 62)), (1, .ref (g k1)), (2, .ref (g k2)), (3, .int x3)]) C.1.1 C.1.2.1 dX2_doOthersSuit_1 hl (by decide) rfl (fun ls hl => ?_)
  exact hX2_doOthersSuit_3 C O N _ _ _ _ (hk_k1 : xk k1 = 9) (hk_k2 : xk k2 = 5) _ _ _ _ X (lv_sub hl [1, 2, 3, 4, 0] rfl) hF
noncomputable def fX2_doOthersSuit (N : Nat) (k1 : Nat) (k2 : Nat) (x3 : Int32) (S : gS) : Option (Int32 × gS) := fX2_doOthersSuit_b0 N k1 k2 x3 S
theorem kX2_doOthersSuit {l : Launch} {D : va_G} {g : Nat → Nat} {cI cB cZ cQ : ClassId} {Am : (Nat → Prop) → State → Heap → Prop} (O : xO g cI cB cZ cQ Am) (P : gAm Am) (N : Nat) (k1 : Nat) (k2 : Nat) (x3 : Int32) (hk_k1 : xk k1 = 9) (hk_k2 : xk k2 = 5) (S : gS) (o : Int32 × gS) (hF : fX2_doOthersSuit N k1 k2 x3 S = some o) : gM l yX2_doOthersSuit cX2_doOthersSuit 5 ((some .boolean)) 1 D (xtys cI cB cZ cQ) (xcell g cI cB cZ cQ) xord g Am [.ref (g 62), .ref (g k1), .ref (g k2), .int x3] S (some (.int o.1)) o.2 :=
  gM_of O.1 P (by decide) (Nat.le_of_ble_eq_true rfl) (fun p e s m args below meth c ls C X hl => bX2_doOthersSuit_0 C O hk_k1 hk_k2 X (lv_sub hl [0, 1, 2, 3] rfl) hF)
-- X4.worth
noncomputable def fX4_worth_b175 (N : Nat) (t0 : Int32) (S : gS) : Option (Int32 × gS) := some (t0, S)
theorem bX4_worth_175 {N : Nat} {t0 : Int32} {S : gS} {H : Heap} {locs : List Loc} {ls : Array Slot} {o : Int32 × gS} (C : gC p s m args meth c cX4_worth 6 RX4 ((some .int)) D (xtys cI cB cZ cQ) xord g Am) (O : xO g cI cB cZ cQ Am) (X : gX D (xcell g cI cB cZ cQ) xord g S s H locs) (hl : lv_has ls 6 []) (hF : fX4_worth_b175 N t0 S = some o) : W p l e (rmd 1) s m args below meth c H locs 0 0 (gE below args s D (xtys cI cB cZ cQ) (xcell g cI cB cZ cQ) xord g (some (.int o.1)) o.2) (F0 m 175 ls [.int t0]) := by
  unfold fX4_worth_b175 at hF
  cases hF
  exact g_iret C X dX4_worth_175
noncomputable def fX4_worth_b169 (N : Nat) (k0 : Nat) (S : gS) : Option (Int32 × gS) := fX4_worth_b175 N (S (k0 + 2) 0) S
theorem bX4_worth_169 {N : Nat} {k0 : Nat} {S : gS} {H : Heap} {locs : List Loc} {ls : Array Slot} {o : Int32 × gS} (C : gC p s m args meth c cX4_worth 6 RX4 ((some .int)) D (xtys cI cB cZ cQ) xord g Am) (O : xO g cI cB cZ cQ Am) (hk_k0 : xk k0 = 4) (X : gX D (xcell g cI cB cZ cQ) xord g S s H locs) (hl : lv_has ls 6 [(0, .ref (g k0))]) (hF : fX4_worth_b169 N k0 S = some o) : W p l e (rmd 1) s m args below meth c H locs 0 0 (gE below args s D (xtys cI cB cZ cQ) (xcell g cI cB cZ cQ) xord g (some (.int o.1)) o.2) (F0 m 169 ls []) := by
  unfold fX4_worth_b169 at hF
  refine lv_aload_n C.1.1 C.1.2.1 dX4_worth_169 rfl (lv_at hl 0 rfl) ?_
  refine xg_X4_15 C O X (k := k0) hk_k0 (j := k0 + 2) rfl dX4_worth_170 ?_
  refine lv_iconst (v := 0) C.1.1 C.1.2.1 dX4_worth_173 (by decide) ?_
  refine x_rI C X (k := k0 + 2) (xs_4_1 hk_k0).1 (n := 31) (xs_4_1 hk_k0).2 (j := 0) (inb_vp (by decide)) (by decide) dX4_worth_174 ?_
  exact bX4_worth_175 C O X (lv_sub hl [] rfl) hF
noncomputable def fX4_worth_b165 (N : Nat) (S : gS) : Option (Int32 × gS) := fX4_worth_b175 N 0 S
theorem bX4_worth_165 {N : Nat} {S : gS} {H : Heap} {locs : List Loc} {ls : Array Slot} {o : Int32 × gS} (C : gC p s m args meth c cX4_worth 6 RX4 ((some .int)) D (xtys cI cB cZ cQ) xord g Am) (O : xO g cI cB cZ cQ Am) (X : gX D (xcell g cI cB cZ cQ) xord g S s H locs) (hl : lv_has ls 6 []) (hF : fX4_worth_b165 N S = some o) : W p l e (rmd 1) s m args below meth c H locs 0 0 (gE below args s D (xtys cI cB cZ cQ) (xcell g cI cB cZ cQ) xord g (some (.int o.1)) o.2) (F0 m 165 ls []) := by
  unfold fX4_worth_b165 at hF
  refine lv_iconst (v := 0) C.1.1 C.1.2.1 dX4_worth_165 (by decide) ?_
  refine lv_goto (tgt := 175) C.1.1 C.1.2.1 dX4_worth_166 (by decide) ?_
  exact bX4_worth_175 C O X (lv_sub hl [] rfl) hF
noncomputable def fX4_worth_b161 (N : Nat) (k0 : Nat) (x3 : Int32) (S : gS) : Option (Int32 × gS) := if x3 = 0 then fX4_worth_b165 N S else fX4_worth_b169 N k0 S
theorem bX4_worth_161 {N : Nat} {k0 : Nat} {x3 : Int32} {S : gS} {H : Heap} {locs : List Loc} {ls : Array Slot} {o : Int32 × gS} (C : gC p s m args meth c cX4_worth 6 RX4 ((some .int)) D (xtys cI cB cZ cQ) xord g Am) (O : xO g cI cB cZ cQ Am) (hk_k0 : xk k0 = 4) (X : gX D (xcell g cI cB cZ cQ) xord g S s H locs) (hl : lv_has ls 6 [(0, .ref (g k0)), (3, .int x3)]) (hF : fX4_worth_b161 N k0 x3 S = some o) : W p l e (rmd 1) s m args below meth c H locs 0 0 (gE below args s D (xtys cI cB cZ cQ) (xcell g cI cB cZ cQ) xord g (some (.int o.1)) o.2) (F0 m 161 ls []) := by
  unfold fX4_worth_b161 at hF
  refine lv_iload_n C.1.1 C.1.2.1 dX4_worth_161 rfl (lv_at hl 1 rfl) ?_
  refine lv_if_ne (tgt := 169) C.1.1 C.1.2.1 dX4_worth_162 (by decide) (fun h_z => ?_) (fun h_z => ?_)
  · rw [if_neg h_z] at hF
    exact bX4_worth_169 C O (hk_k0 : xk k0 = 4) X (lv_sub hl [0] rfl) hF
  · rw [if_pos h_z] at hF
    exact bX4_worth_165 C O X (lv_sub hl [] rfl) hF
noncomputable def fX4_worth_b155 (N : Nat) (r5 : Nat → Nat → Int32 → Int32 → gS → Option (Int32 × gS)) (k0 : Nat) (k1 : Nat) (x3 : Int32) (x4 : Int32) (S : gS) : Option (Int32 × gS) := r5 k0 k1 x3 ((x4 + 1 : Int32)) S
theorem bX4_worth_155 {N : Nat} {r5 : Nat → Nat → Int32 → Int32 → gS → Option (Int32 × gS)} {k0 : Nat} {k1 : Nat} {x3 : Int32} {x4 : Int32} {S : gS} {H : Heap} {locs : List Loc} {ls : Array Slot} {o : Int32 × gS} (C : gC p s m args meth c cX4_worth 6 RX4 ((some .int)) D (xtys cI cB cZ cQ) xord g Am) (O : xO g cI cB cZ cQ Am) (K5 : ∀ (k0 : Nat) (k1 : Nat) (x3 : Int32) (x4 : Int32) (hk_k0 : xk k0 = 4) (hk_k1 : xk k1 = 9) (S : gS) (H : Heap) (locs : List Loc) (ls : Array Slot), gX D (xcell g cI cB cZ cQ) xord g S s H locs → lv_has ls 6 [(0, .ref (g k0)), (1, .ref (g k1)), (2, .ref (g 51)), (3, .int x3), (4, .int x4)] → r5 k0 k1 x3 x4 S = some o → W p l e (rmd 1) s m args below meth c H locs 0 0 (gE below args s D (xtys cI cB cZ cQ) (xcell g cI cB cZ cQ) xord g (some (.int o.1)) o.2) (F0 m 5 ls [])) (hk_k0 : xk k0 = 4) (hk_k1 : xk k1 = 9) (X : gX D (xcell g cI cB cZ cQ) xord g S s H locs) (hl : lv_has ls 6 [(0, .ref (g k0)), (1, .ref (g k1)), (2, .ref (g 51)), (3, .int x3), (4, .int x4)]) (hF : fX4_worth_b155 N r5 k0 k1 x3 x4 S = some o) : W p l e (rmd 1) s m args below meth c H locs 0 0 (gE below args s D (xtys cI cB cZ cQ) (xcell g cI cB cZ cQ) xord g (some (.int o.1)) o.2) (F0 m 155 ls []) := by
  unfold fX4_worth_b155 at hF
  refine lv_iinc (v := (x4 + 1 : Int32)) (lv' := [(4, .int ((x4 + 1 : Int32))), (0, .ref (g k0)), (1, .ref (g k1)), (2, .ref (g 51)), (3, .int x3)]) C.1.1 C.1.2.1 dX4_worth_155 hl (k := 4) rfl rfl (by decide) rfl (fun ls hl => ?_)
  refine lv_goto (tgt := 5) C.1.1 C.1.2.1 dX4_worth_158 (by decide) ?_
  exact K5 _ _ _ _ (hk_k0 : xk k0 = 4) (hk_k1 : xk k1 = 9) _ _ _ _ X (lv_sub hl [1, 2, 3, 4, 0] rfl) hF
noncomputable def fX4_worth_b125 (N : Nat) (r5 : Nat → Nat → Int32 → Int32 → gS → Option (Int32 × gS)) (k0 : Nat) (k1 : Nat) (x3 : Int32) (x4 : Int32) (x5 : Int32) (S : gS) : Option (Int32 × gS) := chk (inb ((((x3 + (-1) : Int32)) - 1 : Int32)) 31) (chk (inb ((x3 + (-1) : Int32)) 31) (bnd (fX4_join N x5 (S (k0 + 2) (Int32.toNatClampNeg ((((x3 + (-1) : Int32)) - 1 : Int32)))) (S (k0 + 2) (Int32.toNatClampNeg ((x3 + (-1) : Int32)))) S) fun q1 => (chk (inb ((((x3 + (-1) : Int32)) - 1 : Int32)) 31) (lt (sU q1.2 (k0 + 2) (Int32.toNatClampNeg ((((x3 + (-1) : Int32)) - 1 : Int32))) q1.1) fun S1 => (fX4_worth_b155 N r5 k0 k1 ((x3 + (-1) : Int32)) x4 S1)))))
theorem bX4_worth_125 {N : Nat} {r5 : Nat → Nat → Int32 → Int32 → gS → Option (Int32 × gS)} {k0 : Nat} {k1 : Nat} {x3 : Int32} {x4 : Int32} {x5 : Int32} {S : gS} {H : Heap} {locs : List Loc} {ls : Array Slot} {o : Int32 × gS} (C : gC p s m args meth c cX4_worth 6 RX4 ((some .int)) D (xtys cI cB cZ cQ) xord g Am) (O : xO g cI cB cZ cQ Am) (K5 : ∀ (k0 : Nat) (k1 : Nat) (x3 : Int32) (x4 : Int32) (hk_k0 : xk k0 = 4) (hk_k1 : xk k1 = 9) (S : gS) (H : Heap) (locs : List Loc) (ls : Array Slot), gX D (xcell g cI cB cZ cQ) xord g S s H locs → lv_has ls 6 [(0, .ref (g k0)), (1, .ref (g k1)), (2, .ref (g 51)), (3, .int x3), (4, .int x4)] → r5 k0 k1 x3 x4 S = some o → W p l e (rmd 1) s m args below meth c H locs 0 0 (gE below args s D (xtys cI cB cZ cQ) (xcell g cI cB cZ cQ) xord g (some (.int o.1)) o.2) (F0 m 5 ls [])) (hk_k0 : xk k0 = 4) (hk_k1 : xk k1 = 9) (X : gX D (xcell g cI cB cZ cQ) xord g S s H locs) (hl : lv_has ls 6 [(0, .ref (g k0)), (1, .ref (g k1)), (2, .ref (g 51)), (3, .int x3), (4, .int x4), (5, .int x5)]) (hF : fX4_worth_b125 N r5 k0 k1 x3 x4 x5 S = some o) : W p l e (rmd 1) s m args below meth c H locs 0 0 (gE below args s D (xtys cI cB cZ cQ) (xcell g cI cB cZ cQ) xord g (some (.int o.1)) o.2) (F0 m 125 ls []) := by
  unfold fX4_worth_b125 at hF
  refine lv_iinc (v := (x3 + (-1) : Int32)) (lv' := [(3, .int ((x3 + (-1) : Int32))), (0, .ref (g k0)), (1, .ref (g k1)), (2, .ref (g 51)), (4, .int x4), (5, .int x5)]) C.1.1 C.1.2.1 dX4_worth_125 hl (k := 3) rfl rfl (by decide) rfl (fun ls hl => ?_)
  refine lv_aload_n C.1.1 C.1.2.1 dX4_worth_128 rfl (lv_at hl 1 rfl) ?_
  refine xg_X4_15 C O X (k := k0) hk_k0 (j := k0 + 2) rfl dX4_worth_129 ?_
  refine lv_iload_n C.1.1 C.1.2.1 dX4_worth_132 rfl (lv_at hl 0 rfl) ?_
  refine lv_iconst (v := 1) C.1.1 C.1.2.1 dX4_worth_133 (by decide) ?_
  refine lv_isub C.1.1 C.1.2.1 dX4_worth_134 ?_
  refine lv_iload C.1.1 C.1.2.1 dX4_worth_135 (lv_at hl 5 rfl) ?_
  refine lv_aload_n C.1.1 C.1.2.1 dX4_worth_137 rfl (lv_at hl 1 rfl) ?_
  refine xg_X4_15 C O X (k := k0) hk_k0 (j := k0 + 2) rfl dX4_worth_138 ?_
  refine lv_iload_n C.1.1 C.1.2.1 dX4_worth_141 rfl (lv_at hl 0 rfl) ?_
  refine lv_iconst (v := 1) C.1.1 C.1.2.1 dX4_worth_142 (by decide) ?_
  refine lv_isub C.1.1 C.1.2.1 dX4_worth_143 ?_
  obtain ⟨h_1, hF⟩ := chk_some hF
  refine x_rI C X (k := k0 + 2) (xs_4_1 hk_k0).1 (n := 31) (xs_4_1 hk_k0).2  (inb_vp h_1) rfl dX4_worth_144 ?_
  refine lv_aload_n C.1.1 C.1.2.1 dX4_worth_145 rfl (lv_at hl 1 rfl) ?_
  refine xg_X4_15 C O X (k := k0) hk_k0 (j := k0 + 2) rfl dX4_worth_146 ?_
  refine lv_iload_n C.1.1 C.1.2.1 dX4_worth_149 rfl (lv_at hl 0 rfl) ?_
  obtain ⟨h_2, hF⟩ := chk_some hF
  refine x_rI C X (k := k0 + 2) (xs_4_1 hk_k0).1 (n := 31) (xs_4_1 hk_k0).2  (inb_vp h_2) rfl dX4_worth_150 ?_
  obtain ⟨q1, hq1, hF⟩ := bnd_some hF
  refine g_callSi C X xv_X4_32 (kX4_join O C.2.2.2.2.1 N x5 (S (k0 + 2) (Int32.toNatClampNeg ((((x3 + (-1) : Int32)) - 1 : Int32)))) (S (k0 + 2) (Int32.toNatClampNeg ((x3 + (-1) : Int32)))) S q1 hq1) (Nat.le_of_ble_eq_true rfl) (Nat.le_of_ble_eq_true rfl) (Nat.le_of_ble_eq_true rfl) (Nat.le_of_ble_eq_true rfl) rfl hl.1 rfl (Nat.le_of_ble_eq_true rfl) dX4_worth_151 (fun H locs X => ?_)
  obtain ⟨h_3, hF⟩ := chk_some hF
  obtain ⟨S1, eS1, hF⟩ := lt_some hF
  refine x_wI C O X (k := k0 + 2) (xs_4_1 hk_k0).1 (n := 31) (xs_4_1 hk_k0).2  (inb_vp h_3) rfl eS1 dX4_worth_154 (fun H locs X => ?_)
  exact bX4_worth_155 C O K5 (hk_k0 : xk k0 = 4) (hk_k1 : xk k1 = 9) X (lv_sub hl [1, 2, 3, 0, 4] rfl) hF
noncomputable def fX4_worth_b120 (N : Nat) (r5 : Nat → Nat → Int32 → Int32 → gS → Option (Int32 × gS)) (k0 : Nat) (k1 : Nat) (x3 : Int32) (x4 : Int32) (x5 : Int32) (S : gS) : Option (Int32 × gS) := if x3 < 2 then fX4_worth_b155 N r5 k0 k1 x3 x4 S else fX4_worth_b125 N r5 k0 k1 x3 x4 x5 S
theorem bX4_worth_120 {N : Nat} {r5 : Nat → Nat → Int32 → Int32 → gS → Option (Int32 × gS)} {k0 : Nat} {k1 : Nat} {x3 : Int32} {x4 : Int32} {x5 : Int32} {S : gS} {H : Heap} {locs : List Loc} {ls : Array Slot} {o : Int32 × gS} (C : gC p s m args meth c cX4_worth 6 RX4 ((some .int)) D (xtys cI cB cZ cQ) xord g Am) (O : xO g cI cB cZ cQ Am) (K5 : ∀ (k0 : Nat) (k1 : Nat) (x3 : Int32) (x4 : Int32) (hk_k0 : xk k0 = 4) (hk_k1 : xk k1 = 9) (S : gS) (H : Heap) (locs : List Loc) (ls : Array Slot), gX D (xcell g cI cB cZ cQ) xord g S s H locs → lv_has ls 6 [(0, .ref (g k0)), (1, .ref (g k1)), (2, .ref (g 51)), (3, .int x3), (4, .int x4)] → r5 k0 k1 x3 x4 S = some o → W p l e (rmd 1) s m args below meth c H locs 0 0 (gE below args s D (xtys cI cB cZ cQ) (xcell g cI cB cZ cQ) xord g (some (.int o.1)) o.2) (F0 m 5 ls [])) (hk_k0 : xk k0 = 4) (hk_k1 : xk k1 = 9) (X : gX D (xcell g cI cB cZ cQ) xord g S s H locs) (hl : lv_has ls 6 [(0, .ref (g k0)), (1, .ref (g k1)), (2, .ref (g 51)), (3, .int x3), (4, .int x4), (5, .int x5)]) (hF : fX4_worth_b120 N r5 k0 k1 x3 x4 x5 S = some o) : W p l e (rmd 1) s m args below meth c H locs 0 0 (gE below args s D (xtys cI cB cZ cQ) (xcell g cI cB cZ cQ) xord g (some (.int o.1)) o.2) (F0 m 120 ls []) := by
  unfold fX4_worth_b120 at hF
  refine lv_iload_n C.1.1 C.1.2.1 dX4_worth_120 rfl (lv_at hl 3 rfl) ?_
  refine lv_iconst (v := 2) C.1.1 C.1.2.1 dX4_worth_121 (by decide) ?_
  refine lv_icmp_lt (tgt := 155) C.1.1 C.1.2.1 dX4_worth_122 (by decide) (fun h_z => ?_) (fun h_z => ?_)
  · rw [if_pos h_z] at hF
    exact bX4_worth_155 C O K5 (hk_k0 : xk k0 = 4) (hk_k1 : xk k1 = 9) X (lv_sub hl [0, 1, 2, 3, 4] rfl) hF
  · rw [if_neg h_z] at hF
    exact bX4_worth_125 C O K5 (hk_k0 : xk k0 = 4) (hk_k1 : xk k1 = 9) X (lv_sub hl [0, 1, 2, 3, 4, 5] rfl) hF
noncomputable def fX4_worth_b112 (N : Nat) (r5 : Nat → Nat → Int32 → Int32 → gS → Option (Int32 × gS)) (k0 : Nat) (k1 : Nat) (x3 : Int32) (x4 : Int32) (x5 : Int32) (S : gS) : Option (Int32 × gS) := if x5 ≤ 10010 then fX4_worth_b155 N r5 k0 k1 x3 x4 S else fX4_worth_b120 N r5 k0 k1 x3 x4 x5 S
theorem bX4_worth_112 {N : Nat} {r5 : Nat → Nat → Int32 → Int32 → gS → Option (Int32 × gS)} {k0 : Nat} {k1 : Nat} {x3 : Int32} {x4 : Int32} {x5 : Int32} {S : gS} {H : Heap} {locs : List Loc} {ls : Array Slot} {o : Int32 × gS} (C : gC p s m args meth c cX4_worth 6 RX4 ((some .int)) D (xtys cI cB cZ cQ) xord g Am) (O : xO g cI cB cZ cQ Am) (K5 : ∀ (k0 : Nat) (k1 : Nat) (x3 : Int32) (x4 : Int32) (hk_k0 : xk k0 = 4) (hk_k1 : xk k1 = 9) (S : gS) (H : Heap) (locs : List Loc) (ls : Array Slot), gX D (xcell g cI cB cZ cQ) xord g S s H locs → lv_has ls 6 [(0, .ref (g k0)), (1, .ref (g k1)), (2, .ref (g 51)), (3, .int x3), (4, .int x4)] → r5 k0 k1 x3 x4 S = some o → W p l e (rmd 1) s m args below meth c H locs 0 0 (gE below args s D (xtys cI cB cZ cQ) (xcell g cI cB cZ cQ) xord g (some (.int o.1)) o.2) (F0 m 5 ls [])) (hk_k0 : xk k0 = 4) (hk_k1 : xk k1 = 9) (X : gX D (xcell g cI cB cZ cQ) xord g S s H locs) (hl : lv_has ls 6 [(0, .ref (g k0)), (1, .ref (g k1)), (2, .ref (g 51)), (3, .int x3), (4, .int x4), (5, .int x5)]) (hF : fX4_worth_b112 N r5 k0 k1 x3 x4 x5 S = some o) : W p l e (rmd 1) s m args below meth c H locs 0 0 (gE below args s D (xtys cI cB cZ cQ) (xcell g cI cB cZ cQ) xord g (some (.int o.1)) o.2) (F0 m 112 ls []) := by
  unfold fX4_worth_b112 at hF
  refine lv_iload C.1.1 C.1.2.1 dX4_worth_112 (lv_at hl 5 rfl) ?_
  refine lv_sipush (v := 10010) C.1.1 C.1.2.1 dX4_worth_114 (by decide) ?_
  refine lv_icmp_le (tgt := 155) C.1.1 C.1.2.1 dX4_worth_117 (by decide) (fun h_z => ?_) (fun h_z => ?_)
  · rw [if_pos h_z] at hF
    exact bX4_worth_155 C O K5 (hk_k0 : xk k0 = 4) (hk_k1 : xk k1 = 9) X (lv_sub hl [0, 1, 2, 3, 4] rfl) hF
  · rw [if_neg h_z] at hF
    exact bX4_worth_120 C O K5 (hk_k0 : xk k0 = 4) (hk_k1 : xk k1 = 9) X (lv_sub hl [0, 1, 2, 3, 4, 5] rfl) hF
noncomputable def fX4_worth_b108 (N : Nat) (r5 : Nat → Nat → Int32 → Int32 → gS → Option (Int32 × gS)) (k0 : Nat) (k1 : Nat) (x3 : Int32) (x4 : Int32) (u0 : Nat) (t1 : Int32) (t2 : Int32) (S : gS) : Option (Int32 × gS) := chk (inb t1 (xN u0)) (lt (sU S u0 (Int32.toNatClampNeg t1) t2) fun S1 => (fX4_worth_b155 N r5 k0 k1 x3 x4 S1))
theorem bX4_worth_108 {N : Nat} {r5 : Nat → Nat → Int32 → Int32 → gS → Option (Int32 × gS)} {k0 : Nat} {k1 : Nat} {x3 : Int32} {x4 : Int32} {u0 : Nat} {t1 : Int32} {t2 : Int32} {S : gS} {H : Heap} {locs : List Loc} {ls : Array Slot} {o : Int32 × gS} (C : gC p s m args meth c cX4_worth 6 RX4 ((some .int)) D (xtys cI cB cZ cQ) xord g Am) (O : xO g cI cB cZ cQ Am) (K5 : ∀ (k0 : Nat) (k1 : Nat) (x3 : Int32) (x4 : Int32) (hk_k0 : xk k0 = 4) (hk_k1 : xk k1 = 9) (S : gS) (H : Heap) (locs : List Loc) (ls : Array Slot), gX D (xcell g cI cB cZ cQ) xord g S s H locs → lv_has ls 6 [(0, .ref (g k0)), (1, .ref (g k1)), (2, .ref (g 51)), (3, .int x3), (4, .int x4)] → r5 k0 k1 x3 x4 S = some o → W p l e (rmd 1) s m args below meth c H locs 0 0 (gE below args s D (xtys cI cB cZ cQ) (xcell g cI cB cZ cQ) xord g (some (.int o.1)) o.2) (F0 m 5 ls [])) (hk_k0 : xk k0 = 4) (hk_k1 : xk k1 = 9) (hk_u0 : xk u0 = 20) (X : gX D (xcell g cI cB cZ cQ) xord g S s H locs) (hl : lv_has ls 6 [(0, .ref (g k0)), (1, .ref (g k1)), (2, .ref (g 51)), (3, .int x3), (4, .int x4)]) (hF : fX4_worth_b108 N r5 k0 k1 x3 x4 u0 t1 t2 S = some o) : W p l e (rmd 1) s m args below meth c H locs 0 0 (gE below args s D (xtys cI cB cZ cQ) (xcell g cI cB cZ cQ) xord g (some (.int o.1)) o.2) (F0 m 108 ls [.int t2, .int t1, .ref (g u0)]) := by
  unfold fX4_worth_b108 at hF
  obtain ⟨h_1, hF⟩ := chk_some hF
  obtain ⟨S1, eS1, hF⟩ := lt_some hF
  refine x_wI C O X (k := u0) hk_u0 (n := xN u0) rfl  (inb_vp h_1) rfl eS1 dX4_worth_108 (fun H locs X => ?_)
  refine lv_goto (tgt := 155) C.1.1 C.1.2.1 dX4_worth_109 (by decide) ?_
  exact bX4_worth_155 C O K5 (hk_k0 : xk k0 = 4) (hk_k1 : xk k1 = 9) X (lv_sub hl [0, 1, 2, 3, 4] rfl) hF
noncomputable def fX4_worth_b107 (N : Nat) (r5 : Nat → Nat → Int32 → Int32 → gS → Option (Int32 × gS)) (k0 : Nat) (k1 : Nat) (x3 : Int32) (x4 : Int32) (u0 : Nat) (t1 : Int32) (S : gS) : Option (Int32 × gS) := fX4_worth_b108 N r5 k0 k1 x3 x4 u0 t1 0 S
theorem bX4_worth_107 {N : Nat} {r5 : Nat → Nat → Int32 → Int32 → gS → Option (Int32 × gS)} {k0 : Nat} {k1 : Nat} {x3 : Int32} {x4 : Int32} {u0 : Nat} {t1 : Int32} {S : gS} {H : Heap} {locs : List Loc} {ls : Array Slot} {o : Int32 × gS} (C : gC p s m args meth c cX4_worth 6 RX4 ((some .int)) D (xtys cI cB cZ cQ) xord g Am) (O : xO g cI cB cZ cQ Am) (K5 : ∀ (k0 : Nat) (k1 : Nat) (x3 : Int32) (x4 : Int32) (hk_k0 : xk k0 = 4) (hk_k1 : xk k1 = 9) (S : gS) (H : Heap) (locs : List Loc) (ls : Array Slot), gX D (xcell g cI cB cZ cQ) xord g S s H locs → lv_has ls 6 [(0, .ref (g k0)), (1, .ref (g k1)), (2, .ref (g 51)), (3, .int x3), (4, .int x4)] → r5 k0 k1 x3 x4 S = some o → W p l e (rmd 1) s m args below meth c H locs 0 0 (gE below args s D (xtys cI cB cZ cQ) (xcell g cI cB cZ cQ) xord g (some (.int o.1)) o.2) (F0 m 5 ls [])) (hk_k0 : xk k0 = 4) (hk_k1 : xk k1 = 9) (hk_u0 : xk u0 = 20) (X : gX D (xcell g cI cB cZ cQ) xord g S s H locs) (hl : lv_has ls 6 [(0, .ref (g k0)), (1, .ref (g k1)), (2, .ref (g 51)), (3, .int x3), (4, .int x4)]) (hF : fX4_worth_b107 N r5 k0 k1 x3 x4 u0 t1 S = some o) : W p l e (rmd 1) s m args below meth c H locs 0 0 (gE below args s D (xtys cI cB cZ cQ) (xcell g cI cB cZ cQ) xord g (some (.int o.1)) o.2) (F0 m 107 ls [.int t1, .ref (g u0)]) := by
  unfold fX4_worth_b107 at hF
  refine lv_iconst (v := 0) C.1.1 C.1.2.1 dX4_worth_107 (by decide) ?_
  exact bX4_worth_108 C O K5 (hk_k0 : xk k0 = 4) (hk_k1 : xk k1 = 9) (hk_u0 : xk u0 = 20) X (lv_sub hl [0, 1, 2, 3, 4] rfl) hF
noncomputable def fX4_worth_b103 (N : Nat) (r5 : Nat → Nat → Int32 → Int32 → gS → Option (Int32 × gS)) (k0 : Nat) (k1 : Nat) (x3 : Int32) (x4 : Int32) (u0 : Nat) (t1 : Int32) (S : gS) : Option (Int32 × gS) := fX4_worth_b108 N r5 k0 k1 x3 x4 u0 t1 1 S
theorem bX4_worth_103 {N : Nat} {r5 : Nat → Nat → Int32 → Int32 → gS → Option (Int32 × gS)} {k0 : Nat} {k1 : Nat} {x3 : Int32} {x4 : Int32} {u0 : Nat} {t1 : Int32} {S : gS} {H : Heap} {locs : List Loc} {ls : Array Slot} {o : Int32 × gS} (C : gC p s m args meth c cX4_worth 6 RX4 ((some .int)) D (xtys cI cB cZ cQ) xord g Am) (O : xO g cI cB cZ cQ Am) (K5 : ∀ (k0 : Nat) (k1 : Nat) (x3 : Int32) (x4 : Int32) (hk_k0 : xk k0 = 4) (hk_k1 : xk k1 = 9) (S : gS) (H : Heap) (locs : List Loc) (ls : Array Slot), gX D (xcell g cI cB cZ cQ) xord g S s H locs → lv_has ls 6 [(0, .ref (g k0)), (1, .ref (g k1)), (2, .ref (g 51)), (3, .int x3), (4, .int x4)] → r5 k0 k1 x3 x4 S = some o → W p l e (rmd 1) s m args below meth c H locs 0 0 (gE below args s D (xtys cI cB cZ cQ) (xcell g cI cB cZ cQ) xord g (some (.int o.1)) o.2) (F0 m 5 ls [])) (hk_k0 : xk k0 = 4) (hk_k1 : xk k1 = 9) (hk_u0 : xk u0 = 20) (X : gX D (xcell g cI cB cZ cQ) xord g S s H locs) (hl : lv_has ls 6 [(0, .ref (g k0)), (1, .ref (g k1)), (2, .ref (g 51)), (3, .int x3), (4, .int x4)]) (hF : fX4_worth_b103 N r5 k0 k1 x3 x4 u0 t1 S = some o) : W p l e (rmd 1) s m args below meth c H locs 0 0 (gE below args s D (xtys cI cB cZ cQ) (xcell g cI cB cZ cQ) xord g (some (.int o.1)) o.2) (F0 m 103 ls [.int t1, .ref (g u0)]) := by
  unfold fX4_worth_b103 at hF
  refine lv_iconst (v := 1) C.1.1 C.1.2.1 dX4_worth_103 (by decide) ?_
  refine lv_goto (tgt := 108) C.1.1 C.1.2.1 dX4_worth_104 (by decide) ?_
  exact bX4_worth_108 C O K5 (hk_k0 : xk k0 = 4) (hk_k1 : xk k1 = 9) (hk_u0 : xk u0 = 20) X (lv_sub hl [0, 1, 2, 3, 4] rfl) hF
noncomputable def fX4_worth_b85 (N : Nat) (r5 : Nat → Nat → Int32 → Int32 → gS → Option (Int32 × gS)) (k0 : Nat) (k1 : Nat) (x3 : Int32) (x4 : Int32) (S : gS) : Option (Int32 × gS) := chk (inb ((x3 - 1 : Int32)) 31) (if (S (k0 + 2) (Int32.toNatClampNeg ((x3 - 1 : Int32)))) = 0 then fX4_worth_b103 N r5 k0 k1 x3 x4 (k0 + 2) ((x3 - 1 : Int32)) S else fX4_worth_b107 N r5 k0 k1 x3 x4 (k0 + 2) ((x3 - 1 : Int32)) S)
theorem bX4_worth_85 {N : Nat} {r5 : Nat → Nat → Int32 → Int32 → gS → Option (Int32 × gS)} {k0 : Nat} {k1 : Nat} {x3 : Int32} {x4 : Int32} {S : gS} {H : Heap} {locs : List Loc} {ls : Array Slot} {o : Int32 × gS} (C : gC p s m args meth c cX4_worth 6 RX4 ((some .int)) D (xtys cI cB cZ cQ) xord g Am) (O : xO g cI cB cZ cQ Am) (K5 : ∀ (k0 : Nat) (k1 : Nat) (x3 : Int32) (x4 : Int32) (hk_k0 : xk k0 = 4) (hk_k1 : xk k1 = 9) (S : gS) (H : Heap) (locs : List Loc) (ls : Array Slot), gX D (xcell g cI cB cZ cQ) xord g S s H locs → lv_has ls 6 [(0, .ref (g k0)), (1, .ref (g k1)), (2, .ref (g 51)), (3, .int x3), (4, .int x4)] → r5 k0 k1 x3 x4 S = some o → W p l e (rmd 1) s m args below meth c H locs 0 0 (gE below args s D (xtys cI cB cZ cQ) (xcell g cI cB cZ cQ) xord g (some (.int o.1)) o.2) (F0 m 5 ls [])) (hk_k0 : xk k0 = 4) (hk_k1 : xk k1 = 9) (X : gX D (xcell g cI cB cZ cQ) xord g S s H locs) (hl : lv_has ls 6 [(0, .ref (g k0)), (1, .ref (g k1)), (2, .ref (g 51)), (3, .int x3), (4, .int x4)]) (hF : fX4_worth_b85 N r5 k0 k1 x3 x4 S = some o) : W p l e (rmd 1) s m args below meth c H locs 0 0 (gE below args s D (xtys cI cB cZ cQ) (xcell g cI cB cZ cQ) xord g (some (.int o.1)) o.2) (F0 m 85 ls []) := by
  unfold fX4_worth_b85 at hF
  refine lv_aload_n C.1.1 C.1.2.1 dX4_worth_85 rfl (lv_at hl 0 rfl) ?_
  refine xg_X4_15 C O X (k := k0) hk_k0 (j := k0 + 2) rfl dX4_worth_86 ?_
  refine lv_iload_n C.1.1 C.1.2.1 dX4_worth_89 rfl (lv_at hl 3 rfl) ?_
  refine lv_iconst (v := 1) C.1.1 C.1.2.1 dX4_worth_90 (by decide) ?_
  refine lv_isub C.1.1 C.1.2.1 dX4_worth_91 ?_
  refine lv_aload_n C.1.1 C.1.2.1 dX4_worth_92 rfl (lv_at hl 0 rfl) ?_
  refine xg_X4_15 C O X (k := k0) hk_k0 (j := k0 + 2) rfl dX4_worth_93 ?_
  refine lv_iload_n C.1.1 C.1.2.1 dX4_worth_96 rfl (lv_at hl 3 rfl) ?_
  refine lv_iconst (v := 1) C.1.1 C.1.2.1 dX4_worth_97 (by decide) ?_
  refine lv_isub C.1.1 C.1.2.1 dX4_worth_98 ?_
  obtain ⟨h_1, hF⟩ := chk_some hF
  refine x_rI C X (k := k0 + 2) (xs_4_1 hk_k0).1 (n := 31) (xs_4_1 hk_k0).2  (inb_vp h_1) rfl dX4_worth_99 ?_
  refine lv_if_ne (tgt := 107) C.1.1 C.1.2.1 dX4_worth_100 (by decide) (fun h_z => ?_) (fun h_z => ?_)
  · rw [if_neg h_z] at hF
    exact bX4_worth_107 C O K5 (hk_k0 : xk k0 = 4) (hk_k1 : xk k1 = 9) ((xs_4_1 hk_k0).1 : xk (k0 + 2) = 20) X (lv_sub hl [0, 1, 2, 3, 4] rfl) hF
  · rw [if_pos h_z] at hF
    exact bX4_worth_103 C O K5 (hk_k0 : xk k0 = 4) (hk_k1 : xk k1 = 9) ((xs_4_1 hk_k0).1 : xk (k0 + 2) = 20) X (lv_sub hl [0, 1, 2, 3, 4] rfl) hF
noncomputable def fX4_worth_b80 (N : Nat) (r5 : Nat → Nat → Int32 → Int32 → gS → Option (Int32 × gS)) (k0 : Nat) (k1 : Nat) (x3 : Int32) (x4 : Int32) (x5 : Int32) (S : gS) : Option (Int32 × gS) := if x3 < 1 then fX4_worth_b112 N r5 k0 k1 x3 x4 x5 S else fX4_worth_b85 N r5 k0 k1 x3 x4 S
theorem bX4_worth_80 {N : Nat} {r5 : Nat → Nat → Int32 → Int32 → gS → Option (Int32 × gS)} {k0 : Nat} {k1 : Nat} {x3 : Int32} {x4 : Int32} {x5 : Int32} {S : gS} {H : Heap} {locs : List Loc} {ls : Array Slot} {o : Int32 × gS} (C : gC p s m args meth c cX4_worth 6 RX4 ((some .int)) D (xtys cI cB cZ cQ) xord g Am) (O : xO g cI cB cZ cQ Am) (K5 : ∀ (k0 : Nat) (k1 : Nat) (x3 : Int32) (x4 : Int32) (hk_k0 : xk k0 = 4) (hk_k1 : xk k1 = 9) (S : gS) (H : Heap) (locs : List Loc) (ls : Array Slot), gX D (xcell g cI cB cZ cQ) xord g S s H locs → lv_has ls 6 [(0, .ref (g k0)), (1, .ref (g k1)), (2, .ref (g 51)), (3, .int x3), (4, .int x4)] → r5 k0 k1 x3 x4 S = some o → W p l e (rmd 1) s m args below meth c H locs 0 0 (gE below args s D (xtys cI cB cZ cQ) (xcell g cI cB cZ cQ) xord g (some (.int o.1)) o.2) (F0 m 5 ls [])) (hk_k0 : xk k0 = 4) (hk_k1 : xk k1 = 9) (X : gX D (xcell g cI cB cZ cQ) xord g S s H locs) (hl : lv_has ls 6 [(0, .ref (g k0)), (1, .ref (g k1)), (2, .ref (g 51)), (3, .int x3), (4, .int x4), (5, .int x5)]) (hF : fX4_worth_b80 N r5 k0 k1 x3 x4 x5 S = some o) : W p l e (rmd 1) s m args below meth c H locs 0 0 (gE below args s D (xtys cI cB cZ cQ) (xcell g cI cB cZ cQ) xord g (some (.int o.1)) o.2) (F0 m 80 ls []) := by
  unfold fX4_worth_b80 at hF
  refine lv_iload_n C.1.1 C.1.2.1 dX4_worth_80 rfl (lv_at hl 3 rfl) ?_
  refine lv_iconst (v := 1) C.1.1 C.1.2.1 dX4_worth_81 (by decide) ?_
  refine lv_icmp_lt (tgt := 112) C.1.1 C.1.2.1 dX4_worth_82 (by decide) (fun h_z => ?_) (fun h_z => ?_)
  · rw [if_pos h_z] at hF
    exact bX4_worth_112 C O K5 (hk_k0 : xk k0 = 4) (hk_k1 : xk k1 = 9) X (lv_sub hl [0, 1, 2, 3, 4, 5] rfl) hF
  · rw [if_neg h_z] at hF
    exact bX4_worth_85 C O K5 (hk_k0 : xk k0 = 4) (hk_k1 : xk k1 = 9) X (lv_sub hl [0, 1, 2, 3, 4] rfl) hF
noncomputable def fX4_worth_b72 (N : Nat) (r5 : Nat → Nat → Int32 → Int32 → gS → Option (Int32 × gS)) (k0 : Nat) (k1 : Nat) (x3 : Int32) (x4 : Int32) (x5 : Int32) (S : gS) : Option (Int32 × gS) := if x5 = 10010 then fX4_worth_b80 N r5 k0 k1 x3 x4 x5 S else fX4_worth_b112 N r5 k0 k1 x3 x4 x5 S
theorem bX4_worth_72 {N : Nat} {r5 : Nat → Nat → Int32 → Int32 → gS → Option (Int32 × gS)} {k0 : Nat} {k1 : Nat} {x3 : Int32} {x4 : Int32} {x5 : Int32} {S : gS} {H : Heap} {locs : List Loc} {ls : Array Slot} {o : Int32 × gS} (C : gC p s m args meth c cX4_worth 6 RX4 ((some .int)) D (xtys cI cB cZ cQ) xord g Am) (O : xO g cI cB cZ cQ Am) (K5 : ∀ (k0 : Nat) (k1 : Nat) (x3 : Int32) (x4 : Int32) (hk_k0 : xk k0 = 4) (hk_k1 : xk k1 = 9) (S : gS) (H : Heap) (locs : List Loc) (ls : Array Slot), gX D (xcell g cI cB cZ cQ) xord g S s H locs → lv_has ls 6 [(0, .ref (g k0)), (1, .ref (g k1)), (2, .ref (g 51)), (3, .int x3), (4, .int x4)] → r5 k0 k1 x3 x4 S = some o → W p l e (rmd 1) s m args below meth c H locs 0 0 (gE below args s D (xtys cI cB cZ cQ) (xcell g cI cB cZ cQ) xord g (some (.int o.1)) o.2) (F0 m 5 ls [])) (hk_k0 : xk k0 = 4) (hk_k1 : xk k1 = 9) (X : gX D (xcell g cI cB cZ cQ) xord g S s H locs) (hl : lv_has ls 6 [(0, .ref (g k0)), (1, .ref (g k1)), (2, .ref (g 51)), (3, .int x3), (4, .int x4), (5, .int x5)]) (hF : fX4_worth_b72 N r5 k0 k1 x3 x4 x5 S = some o) : W p l e (rmd 1) s m args below meth c H locs 0 0 (gE below args s D (xtys cI cB cZ cQ) (xcell g cI cB cZ cQ) xord g (some (.int o.1)) o.2) (F0 m 72 ls []) := by
  unfold fX4_worth_b72 at hF
  refine lv_iload C.1.1 C.1.2.1 dX4_worth_72 (lv_at hl 5 rfl) ?_
  refine lv_sipush (v := 10010) C.1.1 C.1.2.1 dX4_worth_74 (by decide) ?_
  refine lv_icmp_ne (tgt := 112) C.1.1 C.1.2.1 dX4_worth_77 (by decide) (fun h_z => ?_) (fun h_z => ?_)
  · rw [if_neg h_z] at hF
    exact bX4_worth_112 C O K5 (hk_k0 : xk k0 = 4) (hk_k1 : xk k1 = 9) X (lv_sub hl [0, 1, 2, 3, 4, 5] rfl) hF
  · rw [if_pos h_z] at hF
    exact bX4_worth_80 C O K5 (hk_k0 : xk k0 = 4) (hk_k1 : xk k1 = 9) X (lv_sub hl [0, 1, 2, 3, 4, 5] rfl) hF
noncomputable def fX4_worth_b65 (N : Nat) (r5 : Nat → Nat → Int32 → Int32 → gS → Option (Int32 × gS)) (k0 : Nat) (k1 : Nat) (x3 : Int32) (x4 : Int32) (u0 : Nat) (t1 : Int32) (t2 : Int32) (S : gS) : Option (Int32 × gS) := chk (inb t1 (xN u0)) (lt (sU S u0 (Int32.toNatClampNeg t1) t2) fun S1 => (fX4_worth_b155 N r5 k0 k1 ((x3 + 1 : Int32)) x4 S1))
theorem bX4_worth_65 {N : Nat} {r5 : Nat → Nat → Int32 → Int32 → gS → Option (Int32 × gS)} {k0 : Nat} {k1 : Nat} {x3 : Int32} {x4 : Int32} {u0 : Nat} {t1 : Int32} {t2 : Int32} {S : gS} {H : Heap} {locs : List Loc} {ls : Array Slot} {o : Int32 × gS} (C : gC p s m args meth c cX4_worth 6 RX4 ((some .int)) D (xtys cI cB cZ cQ) xord g Am) (O : xO g cI cB cZ cQ Am) (K5 : ∀ (k0 : Nat) (k1 : Nat) (x3 : Int32) (x4 : Int32) (hk_k0 : xk k0 = 4) (hk_k1 : xk k1 = 9) (S : gS) (H : Heap) (locs : List Loc) (ls : Array Slot), gX D (xcell g cI cB cZ cQ) xord g S s H locs → lv_has ls 6 [(0, .ref (g k0)), (1, .ref (g k1)), (2, .ref (g 51)), (3, .int x3), (4, .int x4)] → r5 k0 k1 x3 x4 S = some o → W p l e (rmd 1) s m args below meth c H locs 0 0 (gE below args s D (xtys cI cB cZ cQ) (xcell g cI cB cZ cQ) xord g (some (.int o.1)) o.2) (F0 m 5 ls [])) (hk_k0 : xk k0 = 4) (hk_k1 : xk k1 = 9) (hk_u0 : xk u0 = 20) (X : gX D (xcell g cI cB cZ cQ) xord g S s H locs) (hl : lv_has ls 6 [(0, .ref (g k0)), (1, .ref (g k1)), (2, .ref (g 51)), (3, .int x3), (4, .int x4)]) (hF : fX4_worth_b65 N r5 k0 k1 x3 x4 u0 t1 t2 S = some o) : W p l e (rmd 1) s m args below meth c H locs 0 0 (gE below args s D (xtys cI cB cZ cQ) (xcell g cI cB cZ cQ) xord g (some (.int o.1)) o.2) (F0 m 65 ls [.int t2, .int t1, .ref (g u0)]) := by
  unfold fX4_worth_b65 at hF
  obtain ⟨h_1, hF⟩ := chk_some hF
  obtain ⟨S1, eS1, hF⟩ := lt_some hF
  refine x_wI C O X (k := u0) hk_u0 (n := xN u0) rfl  (inb_vp h_1) rfl eS1 dX4_worth_65 (fun H locs X => ?_)
  refine lv_iinc (v := (x3 + 1 : Int32)) (lv' := [(3, .int ((x3 + 1 : Int32))), (0, .ref (g k0)), (1, .ref (g k1)), (2, .ref (g 51)), (4, .int x4)]) C.1.1 C.1.2.1 dX4_worth_66 hl (k := 3) rfl rfl (by decide) rfl (fun ls hl => ?_)
  refine lv_goto (tgt := 155) C.1.1 C.1.2.1 dX4_worth_69 (by decide) ?_
  exact bX4_worth_155 C O K5 (hk_k0 : xk k0 = 4) (hk_k1 : xk k1 = 9) X (lv_sub hl [1, 2, 3, 0, 4] rfl) hF
noncomputable def fX4_worth_b58 (N : Nat) (r5 : Nat → Nat → Int32 → Int32 → gS → Option (Int32 × gS)) (k0 : Nat) (k1 : Nat) (x3 : Int32) (x4 : Int32) (x5 : Int32) (u0 : Nat) (t1 : Int32) (S : gS) : Option (Int32 × gS) := bnd (fX10_valueOf N k1 x5 S) fun q1 => (fX4_worth_b65 N r5 k0 k1 x3 x4 u0 t1 q1.1 q1.2)
theorem bX4_worth_58 {N : Nat} {r5 : Nat → Nat → Int32 → Int32 → gS → Option (Int32 × gS)} {k0 : Nat} {k1 : Nat} {x3 : Int32} {x4 : Int32} {x5 : Int32} {u0 : Nat} {t1 : Int32} {S : gS} {H : Heap} {locs : List Loc} {ls : Array Slot} {o : Int32 × gS} (C : gC p s m args meth c cX4_worth 6 RX4 ((some .int)) D (xtys cI cB cZ cQ) xord g Am) (O : xO g cI cB cZ cQ Am) (K5 : ∀ (k0 : Nat) (k1 : Nat) (x3 : Int32) (x4 : Int32) (hk_k0 : xk k0 = 4) (hk_k1 : xk k1 = 9) (S : gS) (H : Heap) (locs : List Loc) (ls : Array Slot), gX D (xcell g cI cB cZ cQ) xord g S s H locs → lv_has ls 6 [(0, .ref (g k0)), (1, .ref (g k1)), (2, .ref (g 51)), (3, .int x3), (4, .int x4)] → r5 k0 k1 x3 x4 S = some o → W p l e (rmd 1) s m args below meth c H locs 0 0 (gE below args s D (xtys cI cB cZ cQ) (xcell g cI cB cZ cQ) xord g (some (.int o.1)) o.2) (F0 m 5 ls [])) (hk_k0 : xk k0 = 4) (hk_k1 : xk k1 = 9) (hk_u0 : xk u0 = 20) (X : gX D (xcell g cI cB cZ cQ) xord g S s H locs) (hl : lv_has ls 6 [(0, .ref (g k0)), (1, .ref (g k1)), (2, .ref (g 51)), (3, .int x3), (4, .int x4), (5, .int x5)]) (hF : fX4_worth_b58 N r5 k0 k1 x3 x4 x5 u0 t1 S = some o) : W p l e (rmd 1) s m args below meth c H locs 0 0 (gE below args s D (xtys cI cB cZ cQ) (xcell g cI cB cZ cQ) xord g (some (.int o.1)) o.2) (F0 m 58 ls [.int t1, .ref (g u0)]) := by
  unfold fX4_worth_b58 at hF
  refine lv_aload_n C.1.1 C.1.2.1 dX4_worth_58 rfl (lv_at hl 2 rfl) ?_
  refine lv_aload_n C.1.1 C.1.2.1 dX4_worth_59 rfl (lv_at hl 1 rfl) ?_
  refine lv_iload C.1.1 C.1.2.1 dX4_worth_60 (lv_at hl 5 rfl) ?_
  obtain ⟨q1, hq1, hF⟩ := bnd_some hF
  refine x_callVi C X (k := 51) xv_X4_26 (rfl : xk 51 = 10) rfl rfl (by decide) (kX10_valueOf O C.2.2.2.2.1 N k1 x5 (hk_k1 : xk k1 = 9) S q1 hq1) (Nat.le_of_ble_eq_true rfl) (Nat.le_of_ble_eq_true rfl) (Nat.le_of_ble_eq_true rfl) (Nat.le_of_ble_eq_true rfl) rfl hl.1 rfl (Nat.le_of_ble_eq_true rfl) dX4_worth_62 (fun H locs X => ?_)
  exact bX4_worth_65 C O K5 (hk_k0 : xk k0 = 4) (hk_k1 : xk k1 = 9) (hk_u0 : xk u0 = 20) X (lv_sub hl [0, 1, 2, 3, 4] rfl) hF
noncomputable def fX4_worth_b53 (N : Nat) (r5 : Nat → Nat → Int32 → Int32 → gS → Option (Int32 × gS)) (k0 : Nat) (k1 : Nat) (x3 : Int32) (x4 : Int32) (x5 : Int32) (u0 : Nat) (t1 : Int32) (S : gS) : Option (Int32 × gS) := fX4_worth_b65 N r5 k0 k1 x3 x4 u0 t1 x5 S
theorem bX4_worth_53 {N : Nat} {r5 : Nat → Nat → Int32 → Int32 → gS → Option (Int32 × gS)} {k0 : Nat} {k1 : Nat} {x3 : Int32} {x4 : Int32} {x5 : Int32} {u0 : Nat} {t1 : Int32} {S : gS} {H : Heap} {locs : List Loc} {ls : Array Slot} {o : Int32 × gS} (C : gC p s m args meth c cX4_worth 6 RX4 ((some .int)) D (xtys cI cB cZ cQ) xord g Am) (O : xO g cI cB cZ cQ Am) (K5 : ∀ (k0 : Nat) (k1 : Nat) (x3 : Int32) (x4 : Int32) (hk_k0 : xk k0 = 4) (hk_k1 : xk k1 = 9) (S : gS) (H : Heap) (locs : List Loc) (ls : Array Slot), gX D (xcell g cI cB cZ cQ) xord g S s H locs → lv_has ls 6 [(0, .ref (g k0)), (1, .ref (g k1)), (2, .ref (g 51)), (3, .int x3), (4, .int x4)] → r5 k0 k1 x3 x4 S = some o → W p l e (rmd 1) s m args below meth c H locs 0 0 (gE below args s D (xtys cI cB cZ cQ) (xcell g cI cB cZ cQ) xord g (some (.int o.1)) o.2) (F0 m 5 ls [])) (hk_k0 : xk k0 = 4) (hk_k1 : xk k1 = 9) (hk_u0 : xk u0 = 20) (X : gX D (xcell g cI cB cZ cQ) xord g S s H locs) (hl : lv_has ls 6 [(0, .ref (g k0)), (1, .ref (g k1)), (2, .ref (g 51)), (3, .int x3), (4, .int x4), (5, .int x5)]) (hF : fX4_worth_b53 N r5 k0 k1 x3 x4 x5 u0 t1 S = some o) : W p l e (rmd 1) s m args below meth c H locs 0 0 (gE below args s D (xtys cI cB cZ cQ) (xcell g cI cB cZ cQ) xord g (some (.int o.1)) o.2) (F0 m 53 ls [.int t1, .ref (g u0)]) := by
  unfold fX4_worth_b53 at hF
  refine lv_iload C.1.1 C.1.2.1 dX4_worth_53 (lv_at hl 5 rfl) ?_
  refine lv_goto (tgt := 65) C.1.1 C.1.2.1 dX4_worth_55 (by decide) ?_
  exact bX4_worth_65 C O K5 (hk_k0 : xk k0 = 4) (hk_k1 : xk k1 = 9) (hk_u0 : xk u0 = 20) X (lv_sub hl [0, 1, 2, 3, 4] rfl) hF
noncomputable def fX4_worth_b40 (N : Nat) (r5 : Nat → Nat → Int32 → Int32 → gS → Option (Int32 × gS)) (k0 : Nat) (k1 : Nat) (x3 : Int32) (x4 : Int32) (x5 : Int32) (S : gS) : Option (Int32 × gS) := if 9999 < x5 then fX4_worth_b58 N r5 k0 k1 x3 x4 x5 (k0 + 2) x3 S else fX4_worth_b53 N r5 k0 k1 x3 x4 x5 (k0 + 2) x3 S
theorem bX4_worth_40 {N : Nat} {r5 : Nat → Nat → Int32 → Int32 → gS → Option (Int32 × gS)} {k0 : Nat} {k1 : Nat} {x3 : Int32} {x4 : Int32} {x5 : Int32} {S : gS} {H : Heap} {locs : List Loc} {ls : Array Slot} {o : Int32 × gS} (C : gC p s m args meth c cX4_worth 6 RX4 ((some .int)) D (xtys cI cB cZ cQ) xord g Am) (O : xO g cI cB cZ cQ Am) (K5 : ∀ (k0 : Nat) (k1 : Nat) (x3 : Int32) (x4 : Int32) (hk_k0 : xk k0 = 4) (hk_k1 : xk k1 = 9) (S : gS) (H : Heap) (locs : List Loc) (ls : Array Slot), gX D (xcell g cI cB cZ cQ) xord g S s H locs → lv_has ls 6 [(0, .ref (g k0)), (1, .ref (g k1)), (2, .ref (g 51)), (3, .int x3), (4, .int x4)] → r5 k0 k1 x3 x4 S = some o → W p l e (rmd 1) s m args below meth c H locs 0 0 (gE below args s D (xtys cI cB cZ cQ) (xcell g cI cB cZ cQ) xord g (some (.int o.1)) o.2) (F0 m 5 ls [])) (hk_k0 : xk k0 = 4) (hk_k1 : xk k1 = 9) (X : gX D (xcell g cI cB cZ cQ) xord g S s H locs) (hl : lv_has ls 6 [(0, .ref (g k0)), (1, .ref (g k1)), (2, .ref (g 51)), (3, .int x3), (4, .int x4), (5, .int x5)]) (hF : fX4_worth_b40 N r5 k0 k1 x3 x4 x5 S = some o) : W p l e (rmd 1) s m args below meth c H locs 0 0 (gE below args s D (xtys cI cB cZ cQ) (xcell g cI cB cZ cQ) xord g (some (.int o.1)) o.2) (F0 m 40 ls []) := by
  unfold fX4_worth_b40 at hF
  refine lv_aload_n C.1.1 C.1.2.1 dX4_worth_40 rfl (lv_at hl 0 rfl) ?_
  refine xg_X4_15 C O X (k := k0) hk_k0 (j := k0 + 2) rfl dX4_worth_41 ?_
  refine lv_iload_n C.1.1 C.1.2.1 dX4_worth_44 rfl (lv_at hl 3 rfl) ?_
  refine lv_iload C.1.1 C.1.2.1 dX4_worth_45 (lv_at hl 5 rfl) ?_
  refine lv_sipush (v := 9999) C.1.1 C.1.2.1 dX4_worth_47 (by decide) ?_
  refine lv_icmp_gt (tgt := 58) C.1.1 C.1.2.1 dX4_worth_50 (by decide) (fun h_z => ?_) (fun h_z => ?_)
  · rw [if_pos h_z] at hF
    exact bX4_worth_58 C O K5 (hk_k0 : xk k0 = 4) (hk_k1 : xk k1 = 9) ((xs_4_1 hk_k0).1 : xk (k0 + 2) = 20) X (lv_sub hl [0, 1, 2, 3, 4, 5] rfl) hF
  · rw [if_neg h_z] at hF
    exact bX4_worth_53 C O K5 (hk_k0 : xk k0 = 4) (hk_k1 : xk k1 = 9) ((xs_4_1 hk_k0).1 : xk (k0 + 2) = 20) X (lv_sub hl [0, 1, 2, 3, 4, 5] rfl) hF
noncomputable def fX4_worth_b31 (N : Nat) (r5 : Nat → Nat → Int32 → Int32 → gS → Option (Int32 × gS)) (k0 : Nat) (k1 : Nat) (x3 : Int32) (x4 : Int32) (x5 : Int32) (S : gS) : Option (Int32 × gS) := if 31 ≤ x3 then fX4_worth_b72 N r5 k0 k1 x3 x4 x5 S else fX4_worth_b40 N r5 k0 k1 x3 x4 x5 S
theorem bX4_worth_31 {N : Nat} {r5 : Nat → Nat → Int32 → Int32 → gS → Option (Int32 × gS)} {k0 : Nat} {k1 : Nat} {x3 : Int32} {x4 : Int32} {x5 : Int32} {S : gS} {H : Heap} {locs : List Loc} {ls : Array Slot} {o : Int32 × gS} (C : gC p s m args meth c cX4_worth 6 RX4 ((some .int)) D (xtys cI cB cZ cQ) xord g Am) (O : xO g cI cB cZ cQ Am) (K5 : ∀ (k0 : Nat) (k1 : Nat) (x3 : Int32) (x4 : Int32) (hk_k0 : xk k0 = 4) (hk_k1 : xk k1 = 9) (S : gS) (H : Heap) (locs : List Loc) (ls : Array Slot), gX D (xcell g cI cB cZ cQ) xord g S s H locs → lv_has ls 6 [(0, .ref (g k0)), (1, .ref (g k1)), (2, .ref (g 51)), (3, .int x3), (4, .int x4)] → r5 k0 k1 x3 x4 S = some o → W p l e (rmd 1) s m args below meth c H locs 0 0 (gE below args s D (xtys cI cB cZ cQ) (xcell g cI cB cZ cQ) xord g (some (.int o.1)) o.2) (F0 m 5 ls [])) (hk_k0 : xk k0 = 4) (hk_k1 : xk k1 = 9) (X : gX D (xcell g cI cB cZ cQ) xord g S s H locs) (hl : lv_has ls 6 [(0, .ref (g k0)), (1, .ref (g k1)), (2, .ref (g 51)), (3, .int x3), (4, .int x4), (5, .int x5)]) (hF : fX4_worth_b31 N r5 k0 k1 x3 x4 x5 S = some o) : W p l e (rmd 1) s m args below meth c H locs 0 0 (gE below args s D (xtys cI cB cZ cQ) (xcell g cI cB cZ cQ) xord g (some (.int o.1)) o.2) (F0 m 31 ls []) := by
  unfold fX4_worth_b31 at hF
  refine lv_iload_n C.1.1 C.1.2.1 dX4_worth_31 rfl (lv_at hl 3 rfl) ?_
  refine lv_aload_n C.1.1 C.1.2.1 dX4_worth_32 rfl (lv_at hl 0 rfl) ?_
  refine xg_X4_15 C O X (k := k0) hk_k0 (j := k0 + 2) rfl dX4_worth_33 ?_
  refine x_lI C X (k := k0 + 2) (xs_4_1 hk_k0).1 (n := 31) (xs_4_1 hk_k0).2 (x := 31) (by decide) dX4_worth_36 ?_
  refine lv_icmp_ge (tgt := 72) C.1.1 C.1.2.1 dX4_worth_37 (by decide) (fun h_z => ?_) (fun h_z => ?_)
  · rw [if_pos h_z] at hF
    exact bX4_worth_72 C O K5 (hk_k0 : xk k0 = 4) (hk_k1 : xk k1 = 9) X (lv_sub hl [0, 1, 2, 3, 4, 5] rfl) hF
  · rw [if_neg h_z] at hF
    exact bX4_worth_40 C O K5 (hk_k0 : xk k0 = 4) (hk_k1 : xk k1 = 9) X (lv_sub hl [0, 1, 2, 3, 4, 5] rfl) hF
noncomputable def fX4_worth_b14 (N : Nat) (r5 : Nat → Nat → Int32 → Int32 → gS → Option (Int32 × gS)) (k0 : Nat) (k1 : Nat) (x3 : Int32) (x4 : Int32) (S : gS) : Option (Int32 × gS) := chk (inb x4 700) (if 10010 ≤ (S (k0 + 1) (Int32.toNatClampNeg x4)) then fX4_worth_b72 N r5 k0 k1 x3 x4 (S (k0 + 1) (Int32.toNatClampNeg x4)) S else fX4_worth_b31 N r5 k0 k1 x3 x4 (S (k0 + 1) (Int32.toNatClampNeg x4)) S)
theorem bX4_worth_14 {N : Nat} {r5 : Nat → Nat → Int32 → Int32 → gS → Option (Int32 × gS)} {k0 : Nat} {k1 : Nat} {x3 : Int32} {x4 : Int32} {S : gS} {H : Heap} {locs : List Loc} {ls : Array Slot} {o : Int32 × gS} (C : gC p s m args meth c cX4_worth 6 RX4 ((some .int)) D (xtys cI cB cZ cQ) xord g Am) (O : xO g cI cB cZ cQ Am) (K5 : ∀ (k0 : Nat) (k1 : Nat) (x3 : Int32) (x4 : Int32) (hk_k0 : xk k0 = 4) (hk_k1 : xk k1 = 9) (S : gS) (H : Heap) (locs : List Loc) (ls : Array Slot), gX D (xcell g cI cB cZ cQ) xord g S s H locs → lv_has ls 6 [(0, .ref (g k0)), (1, .ref (g k1)), (2, .ref (g 51)), (3, .int x3), (4, .int x4)] → r5 k0 k1 x3 x4 S = some o → W p l e (rmd 1) s m args below meth c H locs 0 0 (gE below args s D (xtys cI cB cZ cQ) (xcell g cI cB cZ cQ) xord g (some (.int o.1)) o.2) (F0 m 5 ls [])) (hk_k0 : xk k0 = 4) (hk_k1 : xk k1 = 9) (X : gX D (xcell g cI cB cZ cQ) xord g S s H locs) (hl : lv_has ls 6 [(0, .ref (g k0)), (1, .ref (g k1)), (2, .ref (g 51)), (3, .int x3), (4, .int x4)]) (hF : fX4_worth_b14 N r5 k0 k1 x3 x4 S = some o) : W p l e (rmd 1) s m args below meth c H locs 0 0 (gE below args s D (xtys cI cB cZ cQ) (xcell g cI cB cZ cQ) xord g (some (.int o.1)) o.2) (F0 m 14 ls []) := by
  unfold fX4_worth_b14 at hF
  refine lv_aload_n C.1.1 C.1.2.1 dX4_worth_14 rfl (lv_at hl 0 rfl) ?_
  refine xg_X4_9 C O X (k := k0) hk_k0 (j := k0 + 1) rfl dX4_worth_15 ?_
  refine lv_iload C.1.1 C.1.2.1 dX4_worth_18 (lv_at hl 4 rfl) ?_
  obtain ⟨h_1, hF⟩ := chk_some hF
  refine x_rI C X (k := k0 + 1) (xs_4_0 hk_k0).1 (n := 700) (xs_4_0 hk_k0).2  (inb_vp h_1) rfl dX4_worth_20 ?_
  refine lv_istore (lv' := [(5, .int (S (k0 + 1) (Int32.toNatClampNeg x4))), (0, .ref (g k0)), (1, .ref (g k1)), (2, .ref (g 51)), (3, .int x3), (4, .int x4)]) C.1.1 C.1.2.1 dX4_worth_21 hl (by decide) rfl (fun ls hl => ?_)
  refine lv_iload C.1.1 C.1.2.1 dX4_worth_23 (lv_at hl 0 rfl) ?_
  refine lv_sipush (v := 10010) C.1.1 C.1.2.1 dX4_worth_25 (by decide) ?_
  refine lv_icmp_ge (tgt := 72) C.1.1 C.1.2.1 dX4_worth_28 (by decide) (fun h_z => ?_) (fun h_z => ?_)
  · rw [if_pos h_z] at hF
    exact bX4_worth_72 C O K5 (hk_k0 : xk k0 = 4) (hk_k1 : xk k1 = 9) X (lv_sub hl [1, 2, 3, 4, 5, 0] rfl) hF
  · rw [if_neg h_z] at hF
    exact bX4_worth_31 C O K5 (hk_k0 : xk k0 = 4) (hk_k1 : xk k1 = 9) X (lv_sub hl [1, 2, 3, 4, 5, 0] rfl) hF
noncomputable def fX4_worth_b5 (N : Nat) (r5 : Nat → Nat → Int32 → Int32 → gS → Option (Int32 × gS)) (k0 : Nat) (k1 : Nat) (x3 : Int32) (x4 : Int32) (S : gS) : Option (Int32 × gS) := if (S k0 3) ≤ x4 then fX4_worth_b161 N k0 x3 S else fX4_worth_b14 N r5 k0 k1 x3 x4 S
theorem bX4_worth_5 {N : Nat} {r5 : Nat → Nat → Int32 → Int32 → gS → Option (Int32 × gS)} {k0 : Nat} {k1 : Nat} {x3 : Int32} {x4 : Int32} {S : gS} {H : Heap} {locs : List Loc} {ls : Array Slot} {o : Int32 × gS} (C : gC p s m args meth c cX4_worth 6 RX4 ((some .int)) D (xtys cI cB cZ cQ) xord g Am) (O : xO g cI cB cZ cQ Am) (K5 : ∀ (k0 : Nat) (k1 : Nat) (x3 : Int32) (x4 : Int32) (hk_k0 : xk k0 = 4) (hk_k1 : xk k1 = 9) (S : gS) (H : Heap) (locs : List Loc) (ls : Array Slot), gX D (xcell g cI cB cZ cQ) xord g S s H locs → lv_has ls 6 [(0, .ref (g k0)), (1, .ref (g k1)), (2, .ref (g 51)), (3, .int x3), (4, .int x4)] → r5 k0 k1 x3 x4 S = some o → W p l e (rmd 1) s m args below meth c H locs 0 0 (gE below args s D (xtys cI cB cZ cQ) (xcell g cI cB cZ cQ) xord g (some (.int o.1)) o.2) (F0 m 5 ls [])) (hk_k0 : xk k0 = 4) (hk_k1 : xk k1 = 9) (X : gX D (xcell g cI cB cZ cQ) xord g S s H locs) (hl : lv_has ls 6 [(0, .ref (g k0)), (1, .ref (g k1)), (2, .ref (g 51)), (3, .int x3), (4, .int x4)]) (hF : fX4_worth_b5 N r5 k0 k1 x3 x4 S = some o) : W p l e (rmd 1) s m args below meth c H locs 0 0 (gE below args s D (xtys cI cB cZ cQ) (xcell g cI cB cZ cQ) xord g (some (.int o.1)) o.2) (F0 m 5 ls []) := by
  unfold fX4_worth_b5 at hF
  refine lv_iload C.1.1 C.1.2.1 dX4_worth_5 (lv_at hl 4 rfl) ?_
  refine lv_aload_n C.1.1 C.1.2.1 dX4_worth_7 rfl (lv_at hl 0 rfl) ?_
  refine xg_X4_18 C O X (k := k0) hk_k0 dX4_worth_8 ?_
  refine lv_icmp_ge (tgt := 161) C.1.1 C.1.2.1 dX4_worth_11 (by decide) (fun h_z => ?_) (fun h_z => ?_)
  · rw [if_pos h_z] at hF
    exact bX4_worth_161 C O (hk_k0 : xk k0 = 4) X (lv_sub hl [0, 3] rfl) hF
  · rw [if_neg h_z] at hF
    exact bX4_worth_14 C O K5 (hk_k0 : xk k0 = 4) (hk_k1 : xk k1 = 9) X (lv_sub hl [0, 1, 2, 3, 4] rfl) hF
noncomputable def fX4_worth_h5 (N : Nat) : Nat → Nat → Nat → Int32 → Int32 → gS → Option (Int32 × gS)
  | 0, _, _, _, _, _ => none
  | n + 1, k0, k1, x3, x4, S => fX4_worth_b5 N (fX4_worth_h5 N n) k0 k1 x3 x4 S
theorem hX4_worth_5 {N : Nat} {o : Int32 × gS} (C : gC p s m args meth c cX4_worth 6 RX4 ((some .int)) D (xtys cI cB cZ cQ) xord g Am) (O : xO g cI cB cZ cQ Am) : ∀ (n : Nat) (k0 : Nat) (k1 : Nat) (x3 : Int32) (x4 : Int32) (hk_k0 : xk k0 = 4) (hk_k1 : xk k1 = 9) (S : gS) (H : Heap) (locs : List Loc) (ls : Array Slot), gX D (xcell g cI cB cZ cQ) xord g S s H locs → lv_has ls 6 [(0, .ref (g k0)), (1, .ref (g k1)), (2, .ref (g 51)), (3, .int x3), (4, .int x4)] → fX4_worth_h5 N n k0 k1 x3 x4 S = some o → W p l e (rmd 1) s m args below meth c H locs 0 0 (gE below args s D (xtys cI cB cZ cQ) (xcell g cI cB cZ cQ) xord g (some (.int o.1)) o.2) (F0 m 5 ls []) := by
  intro n
  induction n with
  | zero =>
    intro k0 k1 x3 x4 hk_k0 hk_k1 S H locs ls X hl hF
    exact absurd (show (none : Option (Int32 × gS)) = some o from hF) (by simp)
  | succ n ih =>
    intro k0 k1 x3 x4 hk_k0 hk_k1 S H locs ls X hl hF
    have hF : fX4_worth_b5 N (fX4_worth_h5 N n) k0 k1 x3 x4 S = some o := hF
    exact bX4_worth_5 C O ih hk_k0 hk_k1 X hl hF
noncomputable def fX4_worth_b0 (N : Nat) (k0 : Nat) (k1 : Nat) (S : gS) : Option (Int32 × gS) := fX4_worth_h5 N N k0 k1 0 0 S
theorem bX4_worth_0 {N : Nat} {k0 : Nat} {k1 : Nat} {S : gS} {H : Heap} {locs : List Loc} {ls : Array Slot} {o : Int32 × gS} (C : gC p s m args meth c cX4_worth 6 RX4 ((some .int)) D (xtys cI cB cZ cQ) xord g Am) (O : xO g cI cB cZ cQ Am) (hk_k0 : xk k0 = 4) (hk_k1 : xk k1 = 9) (X : gX D (xcell g cI cB cZ cQ) xord g S s H locs) (hl : lv_has ls 6 [(0, .ref (g k0)), (1, .ref (g k1)), (2, .ref (g 51))]) (hF : fX4_worth_b0 N k0 k1 S = some o) : W p l e (rmd 1) s m args below meth c H locs 0 0 (gE below args s D (xtys cI cB cZ cQ) (xcell g cI cB cZ cQ) xord g (some (.int o.1)) o.2) (F0 m 0 ls []) := by
  unfold fX4_worth_b0 at hF
  refine lv_iconst (v := 0) C.1.1 C.1.2.1 dX4_worth_0 (by decide) ?_
  refine lv_istore_n (lv' := [(3, .int 0), (0, .ref (g k0)), (1, .ref (g k1)), (2, .ref (g 51))]) C.1.1 C.1.2.1 dX4_worth_1 rfl hl (by decide) rfl (fun ls hl => ?_)
  refine lv_iconst (v := 0) C.1.1 C.1.2.1 dX4_worth_2 (by decide) ?_
  refine lv_istore (lv' := [(4, .int 0), (3, .int 0), (0, .ref (g k0)), (1, .ref (g k1)), (2, .ref (g 51))]) C.1.1 C.1.2.1 dX4_worth_3 hl (by decide) rfl (fun ls hl => ?_)
  exact hX4_worth_5 C O N _ _ _ _ (hk_k0 : xk k0 = 4) (hk_k1 : xk k1 = 9) _ _ _ _ X (lv_sub hl [2, 3, 4, 1, 0] rfl) hF
noncomputable def fX4_worth (N : Nat) (k0 : Nat) (k1 : Nat) (S : gS) : Option (Int32 × gS) := fX4_worth_b0 N k0 k1 S
theorem kX4_worth {l : Launch} {D : va_G} {g : Nat → Nat} {cI cB cZ cQ : ClassId} {Am : (Nat → Prop) → State → Heap → Prop} (O : xO g cI cB cZ cQ Am) (P : gAm Am) (N : Nat) (k0 : Nat) (k1 : Nat) (hk_k0 : xk k0 = 4) (hk_k1 : xk k1 = 9) (S : gS) (o : Int32 × gS) (hF : fX4_worth N k0 k1 S = some o) : gM l yX4_worth cX4_worth 6 ((some .int)) 1 D (xtys cI cB cZ cQ) (xcell g cI cB cZ cQ) xord g Am [.ref (g k0), .ref (g k1), .ref (g 51)] S (some (.int o.1)) o.2 :=
  gM_of O.1 P (by decide) (Nat.le_of_ble_eq_true rfl) (fun p e s m args below meth c ls C X hl => bX4_worth_0 C O hk_k0 hk_k1 X (lv_sub hl [0, 1, 2] rfl) hF)
-- X6.worthOf
noncomputable def fX6_worthOf_b0 (N : Nat) (k1 : Nat) (x2 : Int32) (x3 : Int32) (x4 : Int32) (S : gS) : Option (Int32 × gS) := chk (inb x3 8) (bnd (fX6_behind N k1 x2 ((x4 ||| (((1 : Int32) <<< (x3 &&& 31) : Int32)) : Int32)) S) fun q1 => (some ((((1000 - (S (k1 + 3) (Int32.toNatClampNeg x3)) : Int32)) + q1.1 : Int32), q1.2)))
theorem bX6_worthOf_0 {N : Nat} {k1 : Nat} {x2 : Int32} {x3 : Int32} {x4 : Int32} {S : gS} {H : Heap} {locs : List Loc} {ls : Array Slot} {o : Int32 × gS} (C : gC p s m args meth c cX6_worthOf 5 RX6 ((some .int)) D (xtys cI cB cZ cQ) xord g Am) (O : xO g cI cB cZ cQ Am) (hk_k1 : xk k1 = 9) (X : gX D (xcell g cI cB cZ cQ) xord g S s H locs) (hl : lv_has ls 5 [(0, .ref (g 52)), (1, .ref (g k1)), (2, .int x2), (3, .int x3), (4, .int x4)]) (hF : fX6_worthOf_b0 N k1 x2 x3 x4 S = some o) : W p l e (rmd 1) s m args below meth c H locs 0 0 (gE below args s D (xtys cI cB cZ cQ) (xcell g cI cB cZ cQ) xord g (some (.int o.1)) o.2) (F0 m 0 ls []) := by
  unfold fX6_worthOf_b0 at hF
  refine lv_sipush (v := 1000) C.1.1 C.1.2.1 dX6_worthOf_0 (by decide) ?_
  refine lv_aload_n C.1.1 C.1.2.1 dX6_worthOf_3 rfl (lv_at hl 1 rfl) ?_
  refine xg_X6_52 C O X (k := k1) hk_k1 (j := k1 + 3) rfl dX6_worthOf_4 ?_
  refine lv_iload_n C.1.1 C.1.2.1 dX6_worthOf_7 rfl (lv_at hl 3 rfl) ?_
  obtain ⟨h_1, hF⟩ := chk_some hF
  refine x_rI C X (k := k1 + 3) (xs_9_3 hk_k1).1 (n := 8) (xs_9_3 hk_k1).2  (inb_vp h_1) rfl dX6_worthOf_8 ?_
  refine lv_isub C.1.1 C.1.2.1 dX6_worthOf_9 ?_
  refine lv_aload_n C.1.1 C.1.2.1 dX6_worthOf_10 rfl (lv_at hl 0 rfl) ?_
  refine lv_aload_n C.1.1 C.1.2.1 dX6_worthOf_11 rfl (lv_at hl 1 rfl) ?_
  refine lv_iload_n C.1.1 C.1.2.1 dX6_worthOf_12 rfl (lv_at hl 2 rfl) ?_
  refine lv_iload C.1.1 C.1.2.1 dX6_worthOf_13 (lv_at hl 4 rfl) ?_
  refine lv_iconst (v := 1) C.1.1 C.1.2.1 dX6_worthOf_15 (by decide) ?_
  refine lv_iload_n C.1.1 C.1.2.1 dX6_worthOf_16 rfl (lv_at hl 3 rfl) ?_
  refine lv_ishl C.1.1 C.1.2.1 dX6_worthOf_17 ?_
  refine lv_ior C.1.1 C.1.2.1 dX6_worthOf_18 ?_
  obtain ⟨q1, hq1, hF⟩ := bnd_some hF
  refine x_callVi C X (k := 52) xv_X6_55 (rfl : xk 52 = 6) rfl rfl (by decide) (kX6_behind O C.2.2.2.2.1 N k1 x2 ((x4 ||| (((1 : Int32) <<< (x3 &&& 31) : Int32)) : Int32)) (hk_k1 : xk k1 = 9) S q1 hq1) (Nat.le_of_ble_eq_true rfl) (Nat.le_of_ble_eq_true rfl) (Nat.le_of_ble_eq_true rfl) (Nat.le_of_ble_eq_true rfl) rfl hl.1 rfl (Nat.le_of_ble_eq_true rfl) dX6_worthOf_19 (fun H locs X => ?_)
  refine lv_iadd C.1.1 C.1.2.1 dX6_worthOf_22 ?_
  cases hF
  exact g_iret C X dX6_worthOf_23
noncomputable def fX6_worthOf (N : Nat) (k1 : Nat) (x2 : Int32) (x3 : Int32) (x4 : Int32) (S : gS) : Option (Int32 × gS) := fX6_worthOf_b0 N k1 x2 x3 x4 S
theorem kX6_worthOf {l : Launch} {D : va_G} {g : Nat → Nat} {cI cB cZ cQ : ClassId} {Am : (Nat → Prop) → State → Heap → Prop} (O : xO g cI cB cZ cQ Am) (P : gAm Am) (N : Nat) (k1 : Nat) (x2 : Int32) (x3 : Int32) (x4 : Int32) (hk_k1 : xk k1 = 9) (S : gS) (o : Int32 × gS) (hF : fX6_worthOf N k1 x2 x3 x4 S = some o) : gM l yX6_worthOf cX6_worthOf 5 ((some .int)) 1 D (xtys cI cB cZ cQ) (xcell g cI cB cZ cQ) xord g Am [.ref (g 52), .ref (g k1), .int x2, .int x3, .int x4] S (some (.int o.1)) o.2 :=
  gM_of O.1 P (by decide) (Nat.le_of_ble_eq_true rfl) (fun p e s m args below meth c ls C X hl => bX6_worthOf_0 C O hk_k1 X (lv_sub hl [0, 1, 2, 3, 4] rfl) hF)
-- X6.canHave
noncomputable def fX6_canHave_b32 (N : Nat) (t0 : Int32) (S : gS) : Option (Int32 × gS) := chk (zb t0) (some (t0, S))
theorem bX6_canHave_32 {N : Nat} {t0 : Int32} {S : gS} {H : Heap} {locs : List Loc} {ls : Array Slot} {o : Int32 × gS} (C : gC p s m args meth c cX6_canHave 5 RX6 ((some .boolean)) D (xtys cI cB cZ cQ) xord g Am) (O : xO g cI cB cZ cQ Am) (X : gX D (xcell g cI cB cZ cQ) xord g S s H locs) (hl : lv_has ls 5 []) (hF : fX6_canHave_b32 N t0 S = some o) : W p l e (rmd 1) s m args below meth c H locs 0 0 (gE below args s D (xtys cI cB cZ cQ) (xcell g cI cB cZ cQ) xord g (some (.int o.1)) o.2) (F0 m 32 ls [.int t0]) := by
  unfold fX6_canHave_b32 at hF
  obtain ⟨h_1, hF⟩ := chk_some hF
  cases hF
  exact g_zret C X h_1 dX6_canHave_32
noncomputable def fX6_canHave_b31 (N : Nat) (S : gS) : Option (Int32 × gS) := fX6_canHave_b32 N 0 S
theorem bX6_canHave_31 {N : Nat} {S : gS} {H : Heap} {locs : List Loc} {ls : Array Slot} {o : Int32 × gS} (C : gC p s m args meth c cX6_canHave 5 RX6 ((some .boolean)) D (xtys cI cB cZ cQ) xord g Am) (O : xO g cI cB cZ cQ Am) (X : gX D (xcell g cI cB cZ cQ) xord g S s H locs) (hl : lv_has ls 5 []) (hF : fX6_canHave_b31 N S = some o) : W p l e (rmd 1) s m args below meth c H locs 0 0 (gE below args s D (xtys cI cB cZ cQ) (xcell g cI cB cZ cQ) xord g (some (.int o.1)) o.2) (F0 m 31 ls []) := by
  unfold fX6_canHave_b31 at hF
  refine lv_iconst (v := 0) C.1.1 C.1.2.1 dX6_canHave_31 (by decide) ?_
  exact bX6_canHave_32 C O X (lv_sub hl [] rfl) hF
noncomputable def fX6_canHave_b27 (N : Nat) (S : gS) : Option (Int32 × gS) := fX6_canHave_b32 N 1 S
theorem bX6_canHave_27 {N : Nat} {S : gS} {H : Heap} {locs : List Loc} {ls : Array Slot} {o : Int32 × gS} (C : gC p s m args meth c cX6_canHave 5 RX6 ((some .boolean)) D (xtys cI cB cZ cQ) xord g Am) (O : xO g cI cB cZ cQ Am) (X : gX D (xcell g cI cB cZ cQ) xord g S s H locs) (hl : lv_has ls 5 []) (hF : fX6_canHave_b27 N S = some o) : W p l e (rmd 1) s m args below meth c H locs 0 0 (gE below args s D (xtys cI cB cZ cQ) (xcell g cI cB cZ cQ) xord g (some (.int o.1)) o.2) (F0 m 27 ls []) := by
  unfold fX6_canHave_b27 at hF
  refine lv_iconst (v := 1) C.1.1 C.1.2.1 dX6_canHave_27 (by decide) ?_
  refine lv_goto (tgt := 32) C.1.1 C.1.2.1 dX6_canHave_28 (by decide) ?_
  exact bX6_canHave_32 C O X (lv_sub hl [] rfl) hF
noncomputable def fX6_canHave_b9 (N : Nat) (k0 : Nat) (k1 : Nat) (x2 : Int32) (x3 : Int32) (S : gS) : Option (Int32 × gS) := chk (inb x2 6) (chk (inb x3 8) (if (S (k1 + 2) (Int32.toNatClampNeg x2)) < ((10 * (S (k0 + 3) (Int32.toNatClampNeg x3)) : Int32)) then fX6_canHave_b31 N S else fX6_canHave_b27 N S))
theorem bX6_canHave_9 {N : Nat} {k0 : Nat} {k1 : Nat} {x2 : Int32} {x3 : Int32} {S : gS} {H : Heap} {locs : List Loc} {ls : Array Slot} {o : Int32 × gS} (C : gC p s m args meth c cX6_canHave 5 RX6 ((some .boolean)) D (xtys cI cB cZ cQ) xord g Am) (O : xO g cI cB cZ cQ Am) (hk_k0 : xk k0 = 9) (hk_k1 : xk k1 = 7) (X : gX D (xcell g cI cB cZ cQ) xord g S s H locs) (hl : lv_has ls 5 [(0, .ref (g k0)), (1, .ref (g k1)), (2, .int x2), (3, .int x3)]) (hF : fX6_canHave_b9 N k0 k1 x2 x3 S = some o) : W p l e (rmd 1) s m args below meth c H locs 0 0 (gE below args s D (xtys cI cB cZ cQ) (xcell g cI cB cZ cQ) xord g (some (.int o.1)) o.2) (F0 m 9 ls []) := by
  unfold fX6_canHave_b9 at hF
  refine lv_aload_n C.1.1 C.1.2.1 dX6_canHave_9 rfl (lv_at hl 1 rfl) ?_
  refine xg_X6_77 C O X (k := k1) hk_k1 (j := k1 + 2) rfl dX6_canHave_10 ?_
  refine lv_iload_n C.1.1 C.1.2.1 dX6_canHave_13 rfl (lv_at hl 2 rfl) ?_
  obtain ⟨h_1, hF⟩ := chk_some hF
  refine x_rI C X (k := k1 + 2) (xs_7_3 hk_k1).1 (n := 6) (xs_7_3 hk_k1).2  (inb_vp h_1) rfl dX6_canHave_14 ?_
  refine lv_bipush (v := 10) C.1.1 C.1.2.1 dX6_canHave_15 (by decide) ?_
  refine lv_aload_n C.1.1 C.1.2.1 dX6_canHave_17 rfl (lv_at hl 0 rfl) ?_
  refine xg_X6_52 C O X (k := k0) hk_k0 (j := k0 + 3) rfl dX6_canHave_18 ?_
  refine lv_iload_n C.1.1 C.1.2.1 dX6_canHave_21 rfl (lv_at hl 3 rfl) ?_
  obtain ⟨h_2, hF⟩ := chk_some hF
  refine x_rI C X (k := k0 + 3) (xs_9_3 hk_k0).1 (n := 8) (xs_9_3 hk_k0).2  (inb_vp h_2) rfl dX6_canHave_22 ?_
  refine lv_imul C.1.1 C.1.2.1 dX6_canHave_23 ?_
  refine lv_icmp_lt (tgt := 31) C.1.1 C.1.2.1 dX6_canHave_24 (by decide) (fun h_z => ?_) (fun h_z => ?_)
  · rw [if_pos h_z] at hF
    exact bX6_canHave_31 C O X (lv_sub hl [] rfl) hF
  · rw [if_neg h_z] at hF
    exact bX6_canHave_27 C O X (lv_sub hl [] rfl) hF
noncomputable def fX6_canHave_b0 (N : Nat) (k0 : Nat) (k1 : Nat) (x2 : Int32) (x3 : Int32) (x4 : Int32) (S : gS) : Option (Int32 × gS) := bnd (fX11_isOneOf N x4 x3 S) fun q1 => (if q1.1 = 0 then fX6_canHave_b9 N k0 k1 x2 x3 q1.2 else fX6_canHave_b31 N q1.2)
theorem bX6_canHave_0 {N : Nat} {k0 : Nat} {k1 : Nat} {x2 : Int32} {x3 : Int32} {x4 : Int32} {S : gS} {H : Heap} {locs : List Loc} {ls : Array Slot} {o : Int32 × gS} (C : gC p s m args meth c cX6_canHave 5 RX6 ((some .boolean)) D (xtys cI cB cZ cQ) xord g Am) (O : xO g cI cB cZ cQ Am) (hk_k0 : xk k0 = 9) (hk_k1 : xk k1 = 7) (X : gX D (xcell g cI cB cZ cQ) xord g S s H locs) (hl : lv_has ls 5 [(0, .ref (g k0)), (1, .ref (g k1)), (2, .int x2), (3, .int x3), (4, .int x4)]) (hF : fX6_canHave_b0 N k0 k1 x2 x3 x4 S = some o) : W p l e (rmd 1) s m args below meth c H locs 0 0 (gE below args s D (xtys cI cB cZ cQ) (xcell g cI cB cZ cQ) xord g (some (.int o.1)) o.2) (F0 m 0 ls []) := by
  unfold fX6_canHave_b0 at hF
  refine lv_iload C.1.1 C.1.2.1 dX6_canHave_0 (lv_at hl 4 rfl) ?_
  refine lv_iload_n C.1.1 C.1.2.1 dX6_canHave_2 rfl (lv_at hl 3 rfl) ?_
  obtain ⟨q1, hq1, hF⟩ := bnd_some hF
  refine g_callSNi C X xv_X6_73 (O.2 _ _ _ C.2.2.2.2.2 _ xn_X6_73) (kX11_isOneOf O C.2.2.2.2.1 N x4 x3 S q1 hq1) (Nat.le_of_ble_eq_true rfl) (Nat.le_of_ble_eq_true rfl) (Nat.le_of_ble_eq_true rfl) (Nat.le_of_ble_eq_true rfl) rfl hl.1 rfl (Nat.le_of_ble_eq_true rfl) dX6_canHave_3 (fun H locs X => ?_)
  refine lv_if_ne (tgt := 31) C.1.1 C.1.2.1 dX6_canHave_6 (by decide) (fun h_z => ?_) (fun h_z => ?_)
  · rw [if_neg h_z] at hF
    exact bX6_canHave_31 C O X (lv_sub hl [] rfl) hF
  · rw [if_pos h_z] at hF
    exact bX6_canHave_9 C O (hk_k0 : xk k0 = 9) (hk_k1 : xk k1 = 7) X (lv_sub hl [0, 1, 2, 3] rfl) hF
noncomputable def fX6_canHave (N : Nat) (k0 : Nat) (k1 : Nat) (x2 : Int32) (x3 : Int32) (x4 : Int32) (S : gS) : Option (Int32 × gS) := fX6_canHave_b0 N k0 k1 x2 x3 x4 S
theorem kX6_canHave {l : Launch} {D : va_G} {g : Nat → Nat} {cI cB cZ cQ : ClassId} {Am : (Nat → Prop) → State → Heap → Prop} (O : xO g cI cB cZ cQ Am) (P : gAm Am) (N : Nat) (k0 : Nat) (k1 : Nat) (x2 : Int32) (x3 : Int32) (x4 : Int32) (hk_k0 : xk k0 = 9) (hk_k1 : xk k1 = 7) (S : gS) (o : Int32 × gS) (hF : fX6_canHave N k0 k1 x2 x3 x4 S = some o) : gM l yX6_canHave cX6_canHave 5 ((some .boolean)) 1 D (xtys cI cB cZ cQ) (xcell g cI cB cZ cQ) xord g Am [.ref (g k0), .ref (g k1), .int x2, .int x3, .int x4] S (some (.int o.1)) o.2 :=
  gM_of O.1 P (by decide) (Nat.le_of_ble_eq_true rfl) (fun p e s m args below meth c ls C X hl => bX6_canHave_0 C O hk_k0 hk_k1 X (lv_sub hl [0, 1, 2, 3, 4] rfl) hF)
-- X7.isDrained
noncomputable def fX7_isDrained_b0 (N : Nat) (k0 : Nat) (x1 : Int32) (S : gS) : Option (Int32 × gS) := bnd (fX11_isOneOf N (S k0 1) x1 S) fun q1 => (chk (zb q1.1) (some (q1.1, q1.2)))
theorem bX7_isDrained_0 {N : Nat} {k0 : Nat} {x1 : Int32} {S : gS} {H : Heap} {locs : List Loc} {ls : Array Slot} {o : Int32 × gS} (C : gC p s m args meth c cX7_isDrained 2 RX7 ((some .boolean)) D (xtys cI cB cZ cQ) xord g Am) (O : xO g cI cB cZ cQ Am) (hk_k0 : xk k0 = 7) (X : gX D (xcell g cI cB cZ cQ) xord g S s H locs) (hl : lv_has ls 2 [(0, .ref (g k0)), (1, .int x1)]) (hF : fX7_isDrained_b0 N k0 x1 S = some o) : W p l e (rmd 1) s m args below meth c H locs 0 0 (gE below args s D (xtys cI cB cZ cQ) (xcell g cI cB cZ cQ) xord g (some (.int o.1)) o.2) (F0 m 0 ls []) := by
  unfold fX7_isDrained_b0 at hF
  refine lv_aload_n C.1.1 C.1.2.1 dX7_isDrained_0 rfl (lv_at hl 0 rfl) ?_
  refine xg_X7_15 C O X (k := k0) hk_k0 dX7_isDrained_1 ?_
  refine lv_iload_n C.1.1 C.1.2.1 dX7_isDrained_4 rfl (lv_at hl 1 rfl) ?_
  obtain ⟨q1, hq1, hF⟩ := bnd_some hF
  refine g_callSNi C X xv_X7_39 (O.2 _ _ _ C.2.2.2.2.2 _ xn_X7_39) (kX11_isOneOf O C.2.2.2.2.1 N (S k0 1) x1 S q1 hq1) (Nat.le_of_ble_eq_true rfl) (Nat.le_of_ble_eq_true rfl) (Nat.le_of_ble_eq_true rfl) (Nat.le_of_ble_eq_true rfl) rfl hl.1 rfl (Nat.le_of_ble_eq_true rfl) dX7_isDrained_5 (fun H locs X => ?_)
  obtain ⟨h_1, hF⟩ := chk_some hF
  cases hF
  exact g_zret C X h_1 dX7_isDrained_8
noncomputable def fX7_isDrained (N : Nat) (k0 : Nat) (x1 : Int32) (S : gS) : Option (Int32 × gS) := fX7_isDrained_b0 N k0 x1 S
theorem kX7_isDrained {l : Launch} {D : va_G} {g : Nat → Nat} {cI cB cZ cQ : ClassId} {Am : (Nat → Prop) → State → Heap → Prop} (O : xO g cI cB cZ cQ Am) (P : gAm Am) (N : Nat) (k0 : Nat) (x1 : Int32) (hk_k0 : xk k0 = 7) (S : gS) (o : Int32 × gS) (hF : fX7_isDrained N k0 x1 S = some o) : gM l yX7_isDrained cX7_isDrained 2 ((some .boolean)) 1 D (xtys cI cB cZ cQ) (xcell g cI cB cZ cQ) xord g Am [.ref (g k0), .int x1] S (some (.int o.1)) o.2 :=
  gM_of O.1 P (by decide) (Nat.le_of_ble_eq_true rfl) (fun p e s m args below meth c ls C X hl => bX7_isDrained_0 C O hk_k0 X (lv_sub hl [0, 1] rfl) hF)
-- X8.isAtSign
noncomputable def fX8_isAtSign_b25 (N : Nat) (t0 : Int32) (S : gS) : Option (Int32 × gS) := chk (zb t0) (some (t0, S))
theorem bX8_isAtSign_25 {N : Nat} {t0 : Int32} {S : gS} {H : Heap} {locs : List Loc} {ls : Array Slot} {o : Int32 × gS} (C : gC p s m args meth c cX8_isAtSign 2 RX8 ((some .boolean)) D (xtys cI cB cZ cQ) xord g Am) (O : xO g cI cB cZ cQ Am) (X : gX D (xcell g cI cB cZ cQ) xord g S s H locs) (hl : lv_has ls 2 []) (hF : fX8_isAtSign_b25 N t0 S = some o) : W p l e (rmd 1) s m args below meth c H locs 0 0 (gE below args s D (xtys cI cB cZ cQ) (xcell g cI cB cZ cQ) xord g (some (.int o.1)) o.2) (F0 m 25 ls [.int t0]) := by
  unfold fX8_isAtSign_b25 at hF
  obtain ⟨h_1, hF⟩ := chk_some hF
  cases hF
  exact g_zret C X h_1 dX8_isAtSign_25
noncomputable def fX8_isAtSign_b24 (N : Nat) (S : gS) : Option (Int32 × gS) := fX8_isAtSign_b25 N 0 S
theorem bX8_isAtSign_24 {N : Nat} {S : gS} {H : Heap} {locs : List Loc} {ls : Array Slot} {o : Int32 × gS} (C : gC p s m args meth c cX8_isAtSign 2 RX8 ((some .boolean)) D (xtys cI cB cZ cQ) xord g Am) (O : xO g cI cB cZ cQ Am) (X : gX D (xcell g cI cB cZ cQ) xord g S s H locs) (hl : lv_has ls 2 []) (hF : fX8_isAtSign_b24 N S = some o) : W p l e (rmd 1) s m args below meth c H locs 0 0 (gE below args s D (xtys cI cB cZ cQ) (xcell g cI cB cZ cQ) xord g (some (.int o.1)) o.2) (F0 m 24 ls []) := by
  unfold fX8_isAtSign_b24 at hF
  refine lv_iconst (v := 0) C.1.1 C.1.2.1 dX8_isAtSign_24 (by decide) ?_
  exact bX8_isAtSign_25 C O X (lv_sub hl [] rfl) hF
noncomputable def fX8_isAtSign_b20 (N : Nat) (S : gS) : Option (Int32 × gS) := fX8_isAtSign_b25 N 1 S
theorem bX8_isAtSign_20 {N : Nat} {S : gS} {H : Heap} {locs : List Loc} {ls : Array Slot} {o : Int32 × gS} (C : gC p s m args meth c cX8_isAtSign 2 RX8 ((some .boolean)) D (xtys cI cB cZ cQ) xord g Am) (O : xO g cI cB cZ cQ Am) (X : gX D (xcell g cI cB cZ cQ) xord g S s H locs) (hl : lv_has ls 2 []) (hF : fX8_isAtSign_b20 N S = some o) : W p l e (rmd 1) s m args below meth c H locs 0 0 (gE below args s D (xtys cI cB cZ cQ) (xcell g cI cB cZ cQ) xord g (some (.int o.1)) o.2) (F0 m 20 ls []) := by
  unfold fX8_isAtSign_b20 at hF
  refine lv_iconst (v := 1) C.1.1 C.1.2.1 dX8_isAtSign_20 (by decide) ?_
  refine lv_goto (tgt := 25) C.1.1 C.1.2.1 dX8_isAtSign_21 (by decide) ?_
  exact bX8_isAtSign_25 C O X (lv_sub hl [] rfl) hF
noncomputable def fX8_isAtSign_b8 (N : Nat) (x1 : Int32) (S : gS) : Option (Int32 × gS) := bnd (fX8_at N (S 2 5) S) fun q1 => (if q1.1 = x1 then fX8_isAtSign_b20 N q1.2 else fX8_isAtSign_b24 N q1.2)
theorem bX8_isAtSign_8 {N : Nat} {x1 : Int32} {S : gS} {H : Heap} {locs : List Loc} {ls : Array Slot} {o : Int32 × gS} (C : gC p s m args meth c cX8_isAtSign 2 RX8 ((some .boolean)) D (xtys cI cB cZ cQ) xord g Am) (O : xO g cI cB cZ cQ Am) (X : gX D (xcell g cI cB cZ cQ) xord g S s H locs) (hl : lv_has ls 2 [(0, .ref (g 2)), (1, .int x1)]) (hF : fX8_isAtSign_b8 N x1 S = some o) : W p l e (rmd 1) s m args below meth c H locs 0 0 (gE below args s D (xtys cI cB cZ cQ) (xcell g cI cB cZ cQ) xord g (some (.int o.1)) o.2) (F0 m 8 ls []) := by
  unfold fX8_isAtSign_b8 at hF
  refine lv_aload_n C.1.1 C.1.2.1 dX8_isAtSign_8 rfl (lv_at hl 0 rfl) ?_
  refine lv_aload_n C.1.1 C.1.2.1 dX8_isAtSign_9 rfl (lv_at hl 0 rfl) ?_
  refine xg_X8_28 C O X (k := 2) rfl dX8_isAtSign_10 ?_
  obtain ⟨q1, hq1, hF⟩ := bnd_some hF
  refine x_callVi C X (k := 2) xv_X8_43 (rfl : xk 2 = 8) rfl rfl (by decide) (kX8_at O C.2.2.2.2.1 N (S 2 5) S q1 hq1) (Nat.le_of_ble_eq_true rfl) (Nat.le_of_ble_eq_true rfl) (Nat.le_of_ble_eq_true rfl) (Nat.le_of_ble_eq_true rfl) rfl hl.1 rfl (Nat.le_of_ble_eq_true rfl) dX8_isAtSign_13 (fun H locs X => ?_)
  refine lv_iload_n C.1.1 C.1.2.1 dX8_isAtSign_16 rfl (lv_at hl 1 rfl) ?_
  refine lv_icmp_ne (tgt := 24) C.1.1 C.1.2.1 dX8_isAtSign_17 (by decide) (fun h_z => ?_) (fun h_z => ?_)
  · rw [if_neg h_z] at hF
    exact bX8_isAtSign_24 C O X (lv_sub hl [] rfl) hF
  · rw [if_pos h_z] at hF
    exact bX8_isAtSign_20 C O X (lv_sub hl [] rfl) hF
noncomputable def fX8_isAtSign_b0 (N : Nat) (x1 : Int32) (S : gS) : Option (Int32 × gS) := if (S 2 4) = 3 then fX8_isAtSign_b8 N x1 S else fX8_isAtSign_b24 N S
theorem bX8_isAtSign_0 {N : Nat} {x1 : Int32} {S : gS} {H : Heap} {locs : List Loc} {ls : Array Slot} {o : Int32 × gS} (C : gC p s m args meth c cX8_isAtSign 2 RX8 ((some .boolean)) D (xtys cI cB cZ cQ) xord g Am) (O : xO g cI cB cZ cQ Am) (X : gX D (xcell g cI cB cZ cQ) xord g S s H locs) (hl : lv_has ls 2 [(0, .ref (g 2)), (1, .int x1)]) (hF : fX8_isAtSign_b0 N x1 S = some o) : W p l e (rmd 1) s m args below meth c H locs 0 0 (gE below args s D (xtys cI cB cZ cQ) (xcell g cI cB cZ cQ) xord g (some (.int o.1)) o.2) (F0 m 0 ls []) := by
  unfold fX8_isAtSign_b0 at hF
  refine lv_aload_n C.1.1 C.1.2.1 dX8_isAtSign_0 rfl (lv_at hl 0 rfl) ?_
  refine xg_X8_25 C O X (k := 2) rfl dX8_isAtSign_1 ?_
  refine lv_iconst (v := 3) C.1.1 C.1.2.1 dX8_isAtSign_4 (by decide) ?_
  refine lv_icmp_ne (tgt := 24) C.1.1 C.1.2.1 dX8_isAtSign_5 (by decide) (fun h_z => ?_) (fun h_z => ?_)
  · rw [if_neg h_z] at hF
    exact bX8_isAtSign_24 C O X (lv_sub hl [] rfl) hF
  · rw [if_pos h_z] at hF
    exact bX8_isAtSign_8 C O X (lv_sub hl [0, 1] rfl) hF
noncomputable def fX8_isAtSign (N : Nat) (x1 : Int32) (S : gS) : Option (Int32 × gS) := fX8_isAtSign_b0 N x1 S
theorem kX8_isAtSign {l : Launch} {D : va_G} {g : Nat → Nat} {cI cB cZ cQ : ClassId} {Am : (Nat → Prop) → State → Heap → Prop} (O : xO g cI cB cZ cQ Am) (P : gAm Am) (N : Nat) (x1 : Int32) (S : gS) (o : Int32 × gS) (hF : fX8_isAtSign N x1 S = some o) : gM l yX8_isAtSign cX8_isAtSign 2 ((some .boolean)) 1 D (xtys cI cB cZ cQ) (xcell g cI cB cZ cQ) xord g Am [.ref (g 2), .int x1] S (some (.int o.1)) o.2 :=
  gM_of O.1 P (by decide) (Nat.le_of_ble_eq_true rfl) (fun p e s m args below meth c ls C X hl => bX8_isAtSign_0 C O X (lv_sub hl [0, 1] rfl) hF)
-- X9.drips
noncomputable def fX9_drips_b27 (N : Nat) (t0 : Int32) (S : gS) : Option (Int32 × gS) := chk (zb t0) (some (t0, S))
theorem bX9_drips_27 {N : Nat} {t0 : Int32} {S : gS} {H : Heap} {locs : List Loc} {ls : Array Slot} {o : Int32 × gS} (C : gC p s m args meth c cX9_drips 5 RX9 ((some .boolean)) D (xtys cI cB cZ cQ) xord g Am) (O : xO g cI cB cZ cQ Am) (X : gX D (xcell g cI cB cZ cQ) xord g S s H locs) (hl : lv_has ls 5 []) (hF : fX9_drips_b27 N t0 S = some o) : W p l e (rmd 2) s m args below meth c H locs 0 0 (gE below args s D (xtys cI cB cZ cQ) (xcell g cI cB cZ cQ) xord g (some (.int o.1)) o.2) (F0 m 27 ls [.int t0]) := by
  unfold fX9_drips_b27 at hF
  obtain ⟨h_1, hF⟩ := chk_some hF
  cases hF
  exact g_zret C X h_1 dX9_drips_27
noncomputable def fX9_drips_b26 (N : Nat) (S : gS) : Option (Int32 × gS) := fX9_drips_b27 N 0 S
theorem bX9_drips_26 {N : Nat} {S : gS} {H : Heap} {locs : List Loc} {ls : Array Slot} {o : Int32 × gS} (C : gC p s m args meth c cX9_drips 5 RX9 ((some .boolean)) D (xtys cI cB cZ cQ) xord g Am) (O : xO g cI cB cZ cQ Am) (X : gX D (xcell g cI cB cZ cQ) xord g S s H locs) (hl : lv_has ls 5 []) (hF : fX9_drips_b26 N S = some o) : W p l e (rmd 2) s m args below meth c H locs 0 0 (gE below args s D (xtys cI cB cZ cQ) (xcell g cI cB cZ cQ) xord g (some (.int o.1)) o.2) (F0 m 26 ls []) := by
  unfold fX9_drips_b26 at hF
  refine lv_iconst (v := 0) C.1.1 C.1.2.1 dX9_drips_26 (by decide) ?_
  exact bX9_drips_27 C O X (lv_sub hl [] rfl) hF
noncomputable def fX9_drips_b22 (N : Nat) (S : gS) : Option (Int32 × gS) := fX9_drips_b27 N 1 S
theorem bX9_drips_22 {N : Nat} {S : gS} {H : Heap} {locs : List Loc} {ls : Array Slot} {o : Int32 × gS} (C : gC p s m args meth c cX9_drips 5 RX9 ((some .boolean)) D (xtys cI cB cZ cQ) xord g Am) (O : xO g cI cB cZ cQ Am) (X : gX D (xcell g cI cB cZ cQ) xord g S s H locs) (hl : lv_has ls 5 []) (hF : fX9_drips_b22 N S = some o) : W p l e (rmd 2) s m args below meth c H locs 0 0 (gE below args s D (xtys cI cB cZ cQ) (xcell g cI cB cZ cQ) xord g (some (.int o.1)) o.2) (F0 m 22 ls []) := by
  unfold fX9_drips_b22 at hF
  refine lv_iconst (v := 1) C.1.1 C.1.2.1 dX9_drips_22 (by decide) ?_
  refine lv_goto (tgt := 27) C.1.1 C.1.2.1 dX9_drips_23 (by decide) ?_
  exact bX9_drips_27 C O X (lv_sub hl [] rfl) hF
noncomputable def fX9_drips_b13 (N : Nat) (k0 : Nat) (x1 : Int32) (x2 : Int32) (S : gS) : Option (Int32 × gS) := bnd (fX9_comesRound N k0 x1 x2 S) fun q1 => (if q1.1 = 0 then fX9_drips_b26 N q1.2 else fX9_drips_b22 N q1.2)
theorem bX9_drips_13 {N : Nat} {k0 : Nat} {x1 : Int32} {x2 : Int32} {S : gS} {H : Heap} {locs : List Loc} {ls : Array Slot} {o : Int32 × gS} (C : gC p s m args meth c cX9_drips 5 RX9 ((some .boolean)) D (xtys cI cB cZ cQ) xord g Am) (O : xO g cI cB cZ cQ Am) (hk_k0 : xk k0 = 9) (X : gX D (xcell g cI cB cZ cQ) xord g S s H locs) (hl : lv_has ls 5 [(0, .ref (g k0)), (1, .int x1), (2, .int x2)]) (hF : fX9_drips_b13 N k0 x1 x2 S = some o) : W p l e (rmd 2) s m args below meth c H locs 0 0 (gE below args s D (xtys cI cB cZ cQ) (xcell g cI cB cZ cQ) xord g (some (.int o.1)) o.2) (F0 m 13 ls []) := by
  unfold fX9_drips_b13 at hF
  refine lv_aload_n C.1.1 C.1.2.1 dX9_drips_13 rfl (lv_at hl 0 rfl) ?_
  refine lv_iload_n C.1.1 C.1.2.1 dX9_drips_14 rfl (lv_at hl 1 rfl) ?_
  refine lv_iload_n C.1.1 C.1.2.1 dX9_drips_15 rfl (lv_at hl 2 rfl) ?_
  obtain ⟨q1, hq1, hF⟩ := bnd_some hF
  refine x_callVi C X (k := k0) xv_X9_80 hk_k0 rfl rfl (by decide) (kX9_comesRound O C.2.2.2.2.1 N k0 x1 x2 (hk_k0 : xk k0 = 9) S q1 hq1) (Nat.le_of_ble_eq_true rfl) (Nat.le_of_ble_eq_true rfl) (Nat.le_of_ble_eq_true rfl) (Nat.le_of_ble_eq_true rfl) rfl hl.1 rfl (Nat.le_of_ble_eq_true rfl) dX9_drips_16 (fun H locs X => ?_)
  refine lv_if_eq (tgt := 26) C.1.1 C.1.2.1 dX9_drips_19 (by decide) (fun h_z => ?_) (fun h_z => ?_)
  · rw [if_pos h_z] at hF
    exact bX9_drips_26 C O X (lv_sub hl [] rfl) hF
  · rw [if_neg h_z] at hF
    exact bX9_drips_22 C O X (lv_sub hl [] rfl) hF
noncomputable def fX9_drips_b4 (N : Nat) (k0 : Nat) (x1 : Int32) (x2 : Int32) (x4 : Int32) (S : gS) : Option (Int32 × gS) := bnd (fX11_isOneOf N x4 x1 S) fun q1 => (if q1.1 = 0 then fX9_drips_b13 N k0 x1 x2 q1.2 else fX9_drips_b26 N q1.2)
theorem bX9_drips_4 {N : Nat} {k0 : Nat} {x1 : Int32} {x2 : Int32} {x4 : Int32} {S : gS} {H : Heap} {locs : List Loc} {ls : Array Slot} {o : Int32 × gS} (C : gC p s m args meth c cX9_drips 5 RX9 ((some .boolean)) D (xtys cI cB cZ cQ) xord g Am) (O : xO g cI cB cZ cQ Am) (hk_k0 : xk k0 = 9) (X : gX D (xcell g cI cB cZ cQ) xord g S s H locs) (hl : lv_has ls 5 [(0, .ref (g k0)), (1, .int x1), (2, .int x2), (4, .int x4)]) (hF : fX9_drips_b4 N k0 x1 x2 x4 S = some o) : W p l e (rmd 2) s m args below meth c H locs 0 0 (gE below args s D (xtys cI cB cZ cQ) (xcell g cI cB cZ cQ) xord g (some (.int o.1)) o.2) (F0 m 4 ls []) := by
  unfold fX9_drips_b4 at hF
  refine lv_iload C.1.1 C.1.2.1 dX9_drips_4 (lv_at hl 3 rfl) ?_
  refine lv_iload_n C.1.1 C.1.2.1 dX9_drips_6 rfl (lv_at hl 1 rfl) ?_
  obtain ⟨q1, hq1, hF⟩ := bnd_some hF
  refine g_callSNi C X xv_X9_76 (O.2 _ _ _ C.2.2.2.2.2 _ xn_X9_76) (kX11_isOneOf O C.2.2.2.2.1 N x4 x1 S q1 hq1) (Nat.le_of_ble_eq_true rfl) (Nat.le_of_ble_eq_true rfl) (Nat.le_of_ble_eq_true rfl) (Nat.le_of_ble_eq_true rfl) rfl hl.1 rfl (Nat.le_of_ble_eq_true rfl) dX9_drips_7 (fun H locs X => ?_)
  refine lv_if_ne (tgt := 26) C.1.1 C.1.2.1 dX9_drips_10 (by decide) (fun h_z => ?_) (fun h_z => ?_)
  · rw [if_neg h_z] at hF
    exact bX9_drips_26 C O X (lv_sub hl [] rfl) hF
  · rw [if_pos h_z] at hF
    exact bX9_drips_13 C O (hk_k0 : xk k0 = 9) X (lv_sub hl [0, 1, 2] rfl) hF
noncomputable def fX9_drips_b0 (N : Nat) (k0 : Nat) (x1 : Int32) (x2 : Int32) (x3 : Int32) (x4 : Int32) (S : gS) : Option (Int32 × gS) := if x3 = 0 then fX9_drips_b26 N S else fX9_drips_b4 N k0 x1 x2 x4 S
theorem bX9_drips_0 {N : Nat} {k0 : Nat} {x1 : Int32} {x2 : Int32} {x3 : Int32} {x4 : Int32} {S : gS} {H : Heap} {locs : List Loc} {ls : Array Slot} {o : Int32 × gS} (C : gC p s m args meth c cX9_drips 5 RX9 ((some .boolean)) D (xtys cI cB cZ cQ) xord g Am) (O : xO g cI cB cZ cQ Am) (hk_k0 : xk k0 = 9) (X : gX D (xcell g cI cB cZ cQ) xord g S s H locs) (hl : lv_has ls 5 [(0, .ref (g k0)), (1, .int x1), (2, .int x2), (3, .int x3), (4, .int x4)]) (hF : fX9_drips_b0 N k0 x1 x2 x3 x4 S = some o) : W p l e (rmd 2) s m args below meth c H locs 0 0 (gE below args s D (xtys cI cB cZ cQ) (xcell g cI cB cZ cQ) xord g (some (.int o.1)) o.2) (F0 m 0 ls []) := by
  unfold fX9_drips_b0 at hF
  refine lv_iload_n C.1.1 C.1.2.1 dX9_drips_0 rfl (lv_at hl 3 rfl) ?_
  refine lv_if_eq (tgt := 26) C.1.1 C.1.2.1 dX9_drips_1 (by decide) (fun h_z => ?_) (fun h_z => ?_)
  · rw [if_pos h_z] at hF
    exact bX9_drips_26 C O X (lv_sub hl [] rfl) hF
  · rw [if_neg h_z] at hF
    exact bX9_drips_4 C O (hk_k0 : xk k0 = 9) X (lv_sub hl [0, 1, 2, 4] rfl) hF
noncomputable def fX9_drips (N : Nat) (k0 : Nat) (x1 : Int32) (x2 : Int32) (x3 : Int32) (x4 : Int32) (S : gS) : Option (Int32 × gS) := fX9_drips_b0 N k0 x1 x2 x3 x4 S
theorem kX9_drips {l : Launch} {D : va_G} {g : Nat → Nat} {cI cB cZ cQ : ClassId} {Am : (Nat → Prop) → State → Heap → Prop} (O : xO g cI cB cZ cQ Am) (P : gAm Am) (N : Nat) (k0 : Nat) (x1 : Int32) (x2 : Int32) (x3 : Int32) (x4 : Int32) (hk_k0 : xk k0 = 9) (S : gS) (o : Int32 × gS) (hF : fX9_drips N k0 x1 x2 x3 x4 S = some o) : gM l yX9_drips cX9_drips 5 ((some .boolean)) 2 D (xtys cI cB cZ cQ) (xcell g cI cB cZ cQ) xord g Am [.ref (g k0), .int x1, .int x2, .int x3, .int x4] S (some (.int o.1)) o.2 :=
  gM_of O.1 P (by decide) (Nat.le_of_ble_eq_true rfl) (fun p e s m args below meth c ls C X hl => bX9_drips_0 C O hk_k0 X (lv_sub hl [0, 1, 2, 3, 4] rfl) hF)
-- X10.cost
noncomputable def fX10_cost_b44 (N : Nat) (t0 : Int32) (S : gS) : Option (Int32 × gS) := some (if 0 < (if t0 < 50 then t0 else 50) then (if t0 < 50 then t0 else 50) else 0, S)
theorem bX10_cost_44 {N : Nat} {t0 : Int32} {S : gS} {H : Heap} {locs : List Loc} {ls : Array Slot} {o : Int32 × gS} (C : gC p s m args meth c cX10_cost 3 RX10 ((some .int)) D (xtys cI cB cZ cQ) xord g Am) (O : xO g cI cB cZ cQ Am) (X : gX D (xcell g cI cB cZ cQ) xord g S s H locs) (hl : lv_has ls 3 []) (hF : fX10_cost_b44 N t0 S = some o) : W p l e (rmd 2) s m args below meth c H locs 0 0 (gE below args s D (xtys cI cB cZ cQ) (xcell g cI cB cZ cQ) xord g (some (.int o.1)) o.2) (F0 m 44 ls [.int t0]) := by
  unfold fX10_cost_b44 at hF
  refine lv_istore_n (lv' := [(2, .int t0)]) C.1.1 C.1.2.1 dX10_cost_44 rfl hl (by decide) rfl (fun ls hl => ?_)
  refine lv_iconst (v := 0) C.1.1 C.1.2.1 dX10_cost_45 (by decide) ?_
  refine lv_bipush (v := 50) C.1.1 C.1.2.1 dX10_cost_46 (by decide) ?_
  refine lv_iload_n C.1.1 C.1.2.1 dX10_cost_48 rfl (lv_at hl 0 rfl) ?_
  refine g_min C hl.1 xMmin_X10_80 ⟨(Nat.le_of_ble_eq_true rfl), (Nat.le_of_ble_eq_true rfl)⟩ (Nat.le_of_ble_eq_true rfl) (Nat.le_of_ble_eq_true rfl) dX10_cost_49 ?_
  refine g_max C hl.1 xMmax_X10_111 ⟨(Nat.le_of_ble_eq_true rfl), (Nat.le_of_ble_eq_true rfl)⟩ (Nat.le_of_ble_eq_true rfl) (Nat.le_of_ble_eq_true rfl) dX10_cost_52 ?_
  cases hF
  exact g_iret C X dX10_cost_55
noncomputable def fX10_cost_b35 (N : Nat) (k1 : Nat) (S : gS) : Option (Int32 × gS) := chk (inb (S 51 4) 8) (fX10_cost_b44 N (S (k1 + 3) (Int32.toNatClampNeg (S 51 4))) S)
theorem bX10_cost_35 {N : Nat} {k1 : Nat} {S : gS} {H : Heap} {locs : List Loc} {ls : Array Slot} {o : Int32 × gS} (C : gC p s m args meth c cX10_cost 3 RX10 ((some .int)) D (xtys cI cB cZ cQ) xord g Am) (O : xO g cI cB cZ cQ Am) (hk_k1 : xk k1 = 9) (X : gX D (xcell g cI cB cZ cQ) xord g S s H locs) (hl : lv_has ls 3 [(0, .ref (g 51)), (1, .ref (g k1))]) (hF : fX10_cost_b35 N k1 S = some o) : W p l e (rmd 2) s m args below meth c H locs 0 0 (gE below args s D (xtys cI cB cZ cQ) (xcell g cI cB cZ cQ) xord g (some (.int o.1)) o.2) (F0 m 35 ls []) := by
  unfold fX10_cost_b35 at hF
  refine lv_aload_n C.1.1 C.1.2.1 dX10_cost_35 rfl (lv_at hl 1 rfl) ?_
  refine xg_X10_108 C O X (k := k1) hk_k1 (j := k1 + 3) rfl dX10_cost_36 ?_
  refine lv_aload_n C.1.1 C.1.2.1 dX10_cost_39 rfl (lv_at hl 0 rfl) ?_
  refine xg_X10_24 C O X (k := 51) rfl dX10_cost_40 ?_
  obtain ⟨h_1, hF⟩ := chk_some hF
  refine x_rI C X (k := k1 + 3) (xs_9_3 hk_k1).1 (n := 8) (xs_9_3 hk_k1).2  (inb_vp h_1) rfl dX10_cost_43 ?_
  exact bX10_cost_44 C O X (lv_sub hl [] rfl) hF
noncomputable def fX10_cost_b23 (N : Nat) (k1 : Nat) (S : gS) : Option (Int32 × gS) := bnd (fX4_worth N (k1 + 13) k1 S) fun q1 => (fX10_cost_b44 N q1.1 q1.2)
theorem bX10_cost_23 {N : Nat} {k1 : Nat} {S : gS} {H : Heap} {locs : List Loc} {ls : Array Slot} {o : Int32 × gS} (C : gC p s m args meth c cX10_cost 3 RX10 ((some .int)) D (xtys cI cB cZ cQ) xord g Am) (O : xO g cI cB cZ cQ Am) (hk_k1 : xk k1 = 9) (X : gX D (xcell g cI cB cZ cQ) xord g S s H locs) (hl : lv_has ls 3 [(0, .ref (g 51)), (1, .ref (g k1))]) (hF : fX10_cost_b23 N k1 S = some o) : W p l e (rmd 2) s m args below meth c H locs 0 0 (gE below args s D (xtys cI cB cZ cQ) (xcell g cI cB cZ cQ) xord g (some (.int o.1)) o.2) (F0 m 23 ls []) := by
  unfold fX10_cost_b23 at hF
  refine lv_aload_n C.1.1 C.1.2.1 dX10_cost_23 rfl (lv_at hl 1 rfl) ?_
  refine xg_X10_94 C O X (k := k1) hk_k1 (j := k1 + 13) rfl dX10_cost_24 ?_
  refine lv_aload_n C.1.1 C.1.2.1 dX10_cost_27 rfl (lv_at hl 1 rfl) ?_
  refine lv_aload_n C.1.1 C.1.2.1 dX10_cost_28 rfl (lv_at hl 0 rfl) ?_
  obtain ⟨q1, hq1, hF⟩ := bnd_some hF
  refine x_callVi C X (k := k1 + 13) xv_X10_104 (xs_9_14 hk_k1) rfl rfl (by decide) (kX4_worth O C.2.2.2.2.1 N (k1 + 13) k1 ((xs_9_14 hk_k1) : xk (k1 + 13) = 4) (hk_k1 : xk k1 = 9) S q1 hq1) (Nat.le_of_ble_eq_true rfl) (Nat.le_of_ble_eq_true rfl) (Nat.le_of_ble_eq_true rfl) (Nat.le_of_ble_eq_true rfl) rfl hl.1 rfl (Nat.le_of_ble_eq_true rfl) dX10_cost_29 (fun H locs X => ?_)
  refine lv_goto (tgt := 44) C.1.1 C.1.2.1 dX10_cost_32 (by decide) ?_
  exact bX10_cost_44 C O X (lv_sub hl [] rfl) hF
noncomputable def fX10_cost_b13 (N : Nat) (k1 : Nat) (S : gS) : Option (Int32 × gS) := bnd (fX4_isTold N (k1 + 13) S) fun q1 => (if q1.1 = 0 then fX10_cost_b35 N k1 q1.2 else fX10_cost_b23 N k1 q1.2)
theorem bX10_cost_13 {N : Nat} {k1 : Nat} {S : gS} {H : Heap} {locs : List Loc} {ls : Array Slot} {o : Int32 × gS} (C : gC p s m args meth c cX10_cost 3 RX10 ((some .int)) D (xtys cI cB cZ cQ) xord g Am) (O : xO g cI cB cZ cQ Am) (hk_k1 : xk k1 = 9) (X : gX D (xcell g cI cB cZ cQ) xord g S s H locs) (hl : lv_has ls 3 [(0, .ref (g 51)), (1, .ref (g k1))]) (hF : fX10_cost_b13 N k1 S = some o) : W p l e (rmd 2) s m args below meth c H locs 0 0 (gE below args s D (xtys cI cB cZ cQ) (xcell g cI cB cZ cQ) xord g (some (.int o.1)) o.2) (F0 m 13 ls []) := by
  unfold fX10_cost_b13 at hF
  refine lv_aload_n C.1.1 C.1.2.1 dX10_cost_13 rfl (lv_at hl 1 rfl) ?_
  refine xg_X10_94 C O X (k := k1) hk_k1 (j := k1 + 13) rfl dX10_cost_14 ?_
  obtain ⟨q1, hq1, hF⟩ := bnd_some hF
  refine x_callVi C X (k := k1 + 13) xv_X10_98 (xs_9_14 hk_k1) rfl rfl (by decide) (kX4_isTold O C.2.2.2.2.1 N (k1 + 13) ((xs_9_14 hk_k1) : xk (k1 + 13) = 4) S q1 hq1) (Nat.le_of_ble_eq_true rfl) (Nat.le_of_ble_eq_true rfl) (Nat.le_of_ble_eq_true rfl) (Nat.le_of_ble_eq_true rfl) rfl hl.1 rfl (Nat.le_of_ble_eq_true rfl) dX10_cost_17 (fun H locs X => ?_)
  refine lv_if_eq (tgt := 35) C.1.1 C.1.2.1 dX10_cost_20 (by decide) (fun h_z => ?_) (fun h_z => ?_)
  · rw [if_pos h_z] at hF
    exact bX10_cost_35 C O (hk_k1 : xk k1 = 9) X (lv_sub hl [0, 1] rfl) hF
  · rw [if_neg h_z] at hF
    exact bX10_cost_23 C O (hk_k1 : xk k1 = 9) X (lv_sub hl [0, 1] rfl) hF
noncomputable def fX10_cost_b11 (N : Nat) (S : gS) : Option (Int32 × gS) := some (0, S)
theorem bX10_cost_11 {N : Nat} {S : gS} {H : Heap} {locs : List Loc} {ls : Array Slot} {o : Int32 × gS} (C : gC p s m args meth c cX10_cost 3 RX10 ((some .int)) D (xtys cI cB cZ cQ) xord g Am) (O : xO g cI cB cZ cQ Am) (X : gX D (xcell g cI cB cZ cQ) xord g S s H locs) (hl : lv_has ls 3 []) (hF : fX10_cost_b11 N S = some o) : W p l e (rmd 2) s m args below meth c H locs 0 0 (gE below args s D (xtys cI cB cZ cQ) (xcell g cI cB cZ cQ) xord g (some (.int o.1)) o.2) (F0 m 11 ls []) := by
  unfold fX10_cost_b11 at hF
  refine lv_iconst (v := 0) C.1.1 C.1.2.1 dX10_cost_11 (by decide) ?_
  cases hF
  exact g_iret C X dX10_cost_12
noncomputable def fX10_cost_b0 (N : Nat) (k1 : Nat) (S : gS) : Option (Int32 × gS) := bnd (fX9_isGrotto N k1 (S 51 4) S) fun q1 => (if q1.1 = 0 then fX10_cost_b11 N q1.2 else fX10_cost_b13 N k1 q1.2)
theorem bX10_cost_0 {N : Nat} {k1 : Nat} {S : gS} {H : Heap} {locs : List Loc} {ls : Array Slot} {o : Int32 × gS} (C : gC p s m args meth c cX10_cost 3 RX10 ((some .int)) D (xtys cI cB cZ cQ) xord g Am) (O : xO g cI cB cZ cQ Am) (hk_k1 : xk k1 = 9) (X : gX D (xcell g cI cB cZ cQ) xord g S s H locs) (hl : lv_has ls 3 [(0, .ref (g 51)), (1, .ref (g k1))]) (hF : fX10_cost_b0 N k1 S = some o) : W p l e (rmd 2) s m args below meth c H locs 0 0 (gE below args s D (xtys cI cB cZ cQ) (xcell g cI cB cZ cQ) xord g (some (.int o.1)) o.2) (F0 m 0 ls []) := by
  unfold fX10_cost_b0 at hF
  refine lv_aload_n C.1.1 C.1.2.1 dX10_cost_0 rfl (lv_at hl 1 rfl) ?_
  refine lv_aload_n C.1.1 C.1.2.1 dX10_cost_1 rfl (lv_at hl 0 rfl) ?_
  refine xg_X10_24 C O X (k := 51) rfl dX10_cost_2 ?_
  obtain ⟨q1, hq1, hF⟩ := bnd_some hF
  refine x_callVi C X (k := k1) xv_X10_65 hk_k1 rfl rfl (by decide) (kX9_isGrotto O C.2.2.2.2.1 N k1 (S 51 4) (hk_k1 : xk k1 = 9) S q1 hq1) (Nat.le_of_ble_eq_true rfl) (Nat.le_of_ble_eq_true rfl) (Nat.le_of_ble_eq_true rfl) (Nat.le_of_ble_eq_true rfl) rfl hl.1 rfl (Nat.le_of_ble_eq_true rfl) dX10_cost_5 (fun H locs X => ?_)
  refine lv_if_ne (tgt := 13) C.1.1 C.1.2.1 dX10_cost_8 (by decide) (fun h_z => ?_) (fun h_z => ?_)
  · rw [if_neg h_z] at hF
    exact bX10_cost_13 C O (hk_k1 : xk k1 = 9) X (lv_sub hl [0, 1] rfl) hF
  · rw [if_pos h_z] at hF
    exact bX10_cost_11 C O X (lv_sub hl [] rfl) hF
noncomputable def fX10_cost (N : Nat) (k1 : Nat) (S : gS) : Option (Int32 × gS) := fX10_cost_b0 N k1 S
theorem kX10_cost {l : Launch} {D : va_G} {g : Nat → Nat} {cI cB cZ cQ : ClassId} {Am : (Nat → Prop) → State → Heap → Prop} (O : xO g cI cB cZ cQ Am) (P : gAm Am) (N : Nat) (k1 : Nat) (hk_k1 : xk k1 = 9) (S : gS) (o : Int32 × gS) (hF : fX10_cost N k1 S = some o) : gM l yX10_cost cX10_cost 3 ((some .int)) 2 D (xtys cI cB cZ cQ) (xcell g cI cB cZ cQ) xord g Am [.ref (g 51), .ref (g k1)] S (some (.int o.1)) o.2 :=
  gM_of O.1 P (by decide) (Nat.le_of_ble_eq_true rfl) (fun p e s m args below meth c ls C X hl => bX10_cost_0 C O hk_k1 X (lv_sub hl [0, 1] rfl) hF)
-- X10.pray
noncomputable def fX10_pray_b23 (N : Nat) (t0 : Int32) (S : gS) : Option (Int32 × gS) := lt (sU S 51 1 (((S 51 1) - (if 0 < (if t0 < (S 51 1) then t0 else (S 51 1)) then (if t0 < (S 51 1) then t0 else (S 51 1)) else 0) : Int32))) fun S1 => (some (0, S1))
theorem bX10_pray_23 {N : Nat} {t0 : Int32} {S : gS} {H : Heap} {locs : List Loc} {ls : Array Slot} {o : Int32 × gS} (C : gC p s m args meth c cX10_pray 3 RX10 none D (xtys cI cB cZ cQ) xord g Am) (O : xO g cI cB cZ cQ Am) (X : gX D (xcell g cI cB cZ cQ) xord g S s H locs) (hl : lv_has ls 3 [(0, .ref (g 51))]) (hF : fX10_pray_b23 N t0 S = some o) : W p l e (rmd 2) s m args below meth c H locs 0 0 (gE below args s D (xtys cI cB cZ cQ) (xcell g cI cB cZ cQ) xord g none o.2) (F0 m 23 ls [.int t0]) := by
  unfold fX10_pray_b23 at hF
  refine lv_istore_n (lv' := [(2, .int t0), (0, .ref (g 51))]) C.1.1 C.1.2.1 dX10_pray_23 rfl hl (by decide) rfl (fun ls hl => ?_)
  refine lv_aload_n C.1.1 C.1.2.1 dX10_pray_24 rfl (lv_at hl 1 rfl) ?_
  refine lv_dup C.1.1 C.1.2.1 dX10_pray_25 rfl ?_
  refine xg_X10_15 C O X (k := 51) rfl dX10_pray_26 ?_
  refine lv_iconst (v := 0) C.1.1 C.1.2.1 dX10_pray_29 (by decide) ?_
  refine lv_aload_n C.1.1 C.1.2.1 dX10_pray_30 rfl (lv_at hl 1 rfl) ?_
  refine xg_X10_15 C O X (k := 51) rfl dX10_pray_31 ?_
  refine lv_iload_n C.1.1 C.1.2.1 dX10_pray_34 rfl (lv_at hl 0 rfl) ?_
  refine g_min C hl.1 xMmin_X10_80 ⟨(Nat.le_of_ble_eq_true rfl), (Nat.le_of_ble_eq_true rfl)⟩ (Nat.le_of_ble_eq_true rfl) (Nat.le_of_ble_eq_true rfl) dX10_pray_35 ?_
  refine g_max C hl.1 xMmax_X10_111 ⟨(Nat.le_of_ble_eq_true rfl), (Nat.le_of_ble_eq_true rfl)⟩ (Nat.le_of_ble_eq_true rfl) (Nat.le_of_ble_eq_true rfl) dX10_pray_38 ?_
  refine lv_isub C.1.1 C.1.2.1 dX10_pray_41 ?_
  obtain ⟨S1, eS1, hF⟩ := lt_some hF
  refine xp_X10_15 C O X (k := 51) rfl eS1 dX10_pray_42 (fun H locs X => ?_)
  cases hF
  exact g_vret C X dX10_pray_45
noncomputable def fX10_pray_b22 (N : Nat) (S : gS) : Option (Int32 × gS) := fX10_pray_b23 N 5 S
theorem bX10_pray_22 {N : Nat} {S : gS} {H : Heap} {locs : List Loc} {ls : Array Slot} {o : Int32 × gS} (C : gC p s m args meth c cX10_pray 3 RX10 none D (xtys cI cB cZ cQ) xord g Am) (O : xO g cI cB cZ cQ Am) (X : gX D (xcell g cI cB cZ cQ) xord g S s H locs) (hl : lv_has ls 3 [(0, .ref (g 51))]) (hF : fX10_pray_b22 N S = some o) : W p l e (rmd 2) s m args below meth c H locs 0 0 (gE below args s D (xtys cI cB cZ cQ) (xcell g cI cB cZ cQ) xord g none o.2) (F0 m 22 ls []) := by
  unfold fX10_pray_b22 at hF
  refine lv_iconst (v := 5) C.1.1 C.1.2.1 dX10_pray_22 (by decide) ?_
  exact bX10_pray_23 C O X (lv_sub hl [0] rfl) hF
noncomputable def fX10_pray_b10 (N : Nat) (k1 : Nat) (S : gS) : Option (Int32 × gS) := bnd (fX4_worth N (k1 + 10) k1 S) fun q1 => (fX10_pray_b23 N q1.1 q1.2)
theorem bX10_pray_10 {N : Nat} {k1 : Nat} {S : gS} {H : Heap} {locs : List Loc} {ls : Array Slot} {o : Int32 × gS} (C : gC p s m args meth c cX10_pray 3 RX10 none D (xtys cI cB cZ cQ) xord g Am) (O : xO g cI cB cZ cQ Am) (hk_k1 : xk k1 = 9) (X : gX D (xcell g cI cB cZ cQ) xord g S s H locs) (hl : lv_has ls 3 [(0, .ref (g 51)), (1, .ref (g k1))]) (hF : fX10_pray_b10 N k1 S = some o) : W p l e (rmd 2) s m args below meth c H locs 0 0 (gE below args s D (xtys cI cB cZ cQ) (xcell g cI cB cZ cQ) xord g none o.2) (F0 m 10 ls []) := by
  unfold fX10_pray_b10 at hF
  refine lv_aload_n C.1.1 C.1.2.1 dX10_pray_10 rfl (lv_at hl 1 rfl) ?_
  refine xg_X10_117 C O X (k := k1) hk_k1 (j := k1 + 10) rfl dX10_pray_11 ?_
  refine lv_aload_n C.1.1 C.1.2.1 dX10_pray_14 rfl (lv_at hl 1 rfl) ?_
  refine lv_aload_n C.1.1 C.1.2.1 dX10_pray_15 rfl (lv_at hl 0 rfl) ?_
  obtain ⟨q1, hq1, hF⟩ := bnd_some hF
  refine x_callVi C X (k := k1 + 10) xv_X10_104 (xs_9_13 hk_k1) rfl rfl (by decide) (kX4_worth O C.2.2.2.2.1 N (k1 + 10) k1 ((xs_9_13 hk_k1) : xk (k1 + 10) = 4) (hk_k1 : xk k1 = 9) S q1 hq1) (Nat.le_of_ble_eq_true rfl) (Nat.le_of_ble_eq_true rfl) (Nat.le_of_ble_eq_true rfl) (Nat.le_of_ble_eq_true rfl) rfl hl.1 rfl (Nat.le_of_ble_eq_true rfl) dX10_pray_16 (fun H locs X => ?_)
  refine lv_goto (tgt := 23) C.1.1 C.1.2.1 dX10_pray_19 (by decide) ?_
  exact bX10_pray_23 C O X (lv_sub hl [0] rfl) hF
noncomputable def fX10_pray_b0 (N : Nat) (k1 : Nat) (S : gS) : Option (Int32 × gS) := bnd (fX4_isTold N (k1 + 10) S) fun q1 => (if q1.1 = 0 then fX10_pray_b22 N q1.2 else fX10_pray_b10 N k1 q1.2)
theorem bX10_pray_0 {N : Nat} {k1 : Nat} {S : gS} {H : Heap} {locs : List Loc} {ls : Array Slot} {o : Int32 × gS} (C : gC p s m args meth c cX10_pray 3 RX10 none D (xtys cI cB cZ cQ) xord g Am) (O : xO g cI cB cZ cQ Am) (hk_k1 : xk k1 = 9) (X : gX D (xcell g cI cB cZ cQ) xord g S s H locs) (hl : lv_has ls 3 [(0, .ref (g 51)), (1, .ref (g k1))]) (hF : fX10_pray_b0 N k1 S = some o) : W p l e (rmd 2) s m args below meth c H locs 0 0 (gE below args s D (xtys cI cB cZ cQ) (xcell g cI cB cZ cQ) xord g none o.2) (F0 m 0 ls []) := by
  unfold fX10_pray_b0 at hF
  refine lv_aload_n C.1.1 C.1.2.1 dX10_pray_0 rfl (lv_at hl 1 rfl) ?_
  refine xg_X10_117 C O X (k := k1) hk_k1 (j := k1 + 10) rfl dX10_pray_1 ?_
  obtain ⟨q1, hq1, hF⟩ := bnd_some hF
  refine x_callVi C X (k := k1 + 10) xv_X10_98 (xs_9_13 hk_k1) rfl rfl (by decide) (kX4_isTold O C.2.2.2.2.1 N (k1 + 10) ((xs_9_13 hk_k1) : xk (k1 + 10) = 4) S q1 hq1) (Nat.le_of_ble_eq_true rfl) (Nat.le_of_ble_eq_true rfl) (Nat.le_of_ble_eq_true rfl) (Nat.le_of_ble_eq_true rfl) rfl hl.1 rfl (Nat.le_of_ble_eq_true rfl) dX10_pray_4 (fun H locs X => ?_)
  refine lv_if_eq (tgt := 22) C.1.1 C.1.2.1 dX10_pray_7 (by decide) (fun h_z => ?_) (fun h_z => ?_)
  · rw [if_pos h_z] at hF
    exact bX10_pray_22 C O X (lv_sub hl [0] rfl) hF
  · rw [if_neg h_z] at hF
    exact bX10_pray_10 C O (hk_k1 : xk k1 = 9) X (lv_sub hl [0, 1] rfl) hF
noncomputable def fX10_pray (N : Nat) (k1 : Nat) (S : gS) : Option (Int32 × gS) := fX10_pray_b0 N k1 S
theorem kX10_pray {l : Launch} {D : va_G} {g : Nat → Nat} {cI cB cZ cQ : ClassId} {Am : (Nat → Prop) → State → Heap → Prop} (O : xO g cI cB cZ cQ Am) (P : gAm Am) (N : Nat) (k1 : Nat) (hk_k1 : xk k1 = 9) (S : gS) (o : Int32 × gS) (hF : fX10_pray N k1 S = some o) : gM l yX10_pray cX10_pray 3 none 2 D (xtys cI cB cZ cQ) (xcell g cI cB cZ cQ) xord g Am [.ref (g 51), .ref (g k1)] S none o.2 :=
  gM_of O.1 P (by decide) (Nat.le_of_ble_eq_true rfl) (fun p e s m args below meth c ls C X hl => bX10_pray_0 C O hk_k1 X (lv_sub hl [0, 1] rfl) hF)
-- X11.undo
noncomputable def fX11_undo_b0 (N : Nat) (S : gS) : Option (Int32 × gS) := bnd (fX0_takeBack N 26 21 S) fun q1 => (some (q1.1, q1.2))
theorem bX11_undo_0 {N : Nat} {S : gS} {H : Heap} {locs : List Loc} {ls : Array Slot} {o : Int32 × gS} (C : gC p s m args meth c cX11_undo 1 RX11 ((some .int)) D (xtys cI cB cZ cQ) xord g Am) (O : xO g cI cB cZ cQ Am) (X : gX D (xcell g cI cB cZ cQ) xord g S s H locs) (hl : lv_has ls 1 [(0, .ref (g 0))]) (hF : fX11_undo_b0 N S = some o) : W p l e (rmd 2) s m args below meth c H locs 0 0 (gE below args s D (xtys cI cB cZ cQ) (xcell g cI cB cZ cQ) xord g (some (.int o.1)) o.2) (F0 m 0 ls []) := by
  unfold fX11_undo_b0 at hF
  refine lv_aload_n C.1.1 C.1.2.1 dX11_undo_0 rfl (lv_at hl 0 rfl) ?_
  refine xg_X11_19 C O X (k := 0) rfl (j := 20) rfl dX11_undo_1 ?_
  refine xg_X11_137 C O X (k := 20) rfl (j := 26) rfl dX11_undo_4 ?_
  refine lv_aload_n C.1.1 C.1.2.1 dX11_undo_7 rfl (lv_at hl 0 rfl) ?_
  refine xg_X11_19 C O X (k := 0) rfl (j := 20) rfl dX11_undo_8 ?_
  refine xg_X11_105 C O X (k := 20) rfl (j := 21) rfl dX11_undo_11 ?_
  obtain ⟨q1, hq1, hF⟩ := bnd_some hF
  refine x_callVi C X (k := 26) xv_X11_232 (rfl : xk 26 = 0) rfl rfl (by decide) (kX0_takeBack O C.2.2.2.2.1 N 26 21 (rfl : xk 26 = 0) (rfl : xk 21 = 7) S q1 hq1) (Nat.le_of_ble_eq_true rfl) (Nat.le_of_ble_eq_true rfl) (Nat.le_of_ble_eq_true rfl) (Nat.le_of_ble_eq_true rfl) rfl hl.1 rfl (Nat.le_of_ble_eq_true rfl) dX11_undo_14 (fun H locs X => ?_)
  cases hF
  exact g_iret C X dX11_undo_17
noncomputable def fX11_undo (N : Nat) (S : gS) : Option (Int32 × gS) := fX11_undo_b0 N S
theorem kX11_undo {l : Launch} {D : va_G} {g : Nat → Nat} {cI cB cZ cQ : ClassId} {Am : (Nat → Prop) → State → Heap → Prop} (O : xO g cI cB cZ cQ Am) (P : gAm Am) (N : Nat) (S : gS) (o : Int32 × gS) (hF : fX11_undo N S = some o) : gM l yX11_undo cX11_undo 1 ((some .int)) 2 D (xtys cI cB cZ cQ) (xcell g cI cB cZ cQ) xord g Am [.ref (g 0)] S (some (.int o.1)) o.2 :=
  gM_of O.1 P (by decide) (Nat.le_of_ble_eq_true rfl) (fun p e s m args below meth c ls C X hl => bX11_undo_0 C O X (lv_sub hl [0] rfl) hF)
-- X11.dripsAhead
noncomputable def fX11_dripsAhead_b0 (N : Nat) (x1 : Int32) (x2 : Int32) (S : gS) : Option (Int32 × gS) := lt (xtw S) fun T1 => (lt (xtw S) fun T2 => (bnd (fX9_wetOf N T2 (((((S 21 0) + x2 : Int32)) - 1 : Int32)) S) fun q1 => (bnd (fX9_drips N T1 x1 (((((S 21 0) + x2 : Int32)) - 1 : Int32)) q1.1 (q1.2 21 1) q1.2) fun q2 => (chk (zb q2.1) (some (q2.1, q2.2))))))
theorem bX11_dripsAhead_0 {N : Nat} {x1 : Int32} {x2 : Int32} {S : gS} {H : Heap} {locs : List Loc} {ls : Array Slot} {o : Int32 × gS} (C : gC p s m args meth c cX11_dripsAhead 4 RX11 ((some .boolean)) D (xtys cI cB cZ cQ) xord g Am) (O : xO g cI cB cZ cQ Am) (X : gX D (xcell g cI cB cZ cQ) xord g S s H locs) (hl : lv_has ls 4 [(0, .ref (g 0)), (1, .int x1), (2, .int x2)]) (hF : fX11_dripsAhead_b0 N x1 x2 S = some o) : W p l e (rmd 3) s m args below meth c H locs 0 0 (gE below args s D (xtys cI cB cZ cQ) (xcell g cI cB cZ cQ) xord g (some (.int o.1)) o.2) (F0 m 0 ls []) := by
  unfold fX11_dripsAhead_b0 at hF
  refine lv_aload_n C.1.1 C.1.2.1 dX11_dripsAhead_0 rfl (lv_at hl 0 rfl) ?_
  refine xg_X11_19 C O X (k := 0) rfl (j := 20) rfl dX11_dripsAhead_1 ?_
  refine xg_X11_105 C O X (k := 20) rfl (j := 21) rfl dX11_dripsAhead_4 ?_
  refine xg_X11_114 C O X (k := 21) rfl dX11_dripsAhead_7 ?_
  refine lv_iload_n C.1.1 C.1.2.1 dX11_dripsAhead_10 rfl (lv_at hl 2 rfl) ?_
  refine lv_iadd C.1.1 C.1.2.1 dX11_dripsAhead_11 ?_
  refine lv_iconst (v := 1) C.1.1 C.1.2.1 dX11_dripsAhead_12 (by decide) ?_
  refine lv_isub C.1.1 C.1.2.1 dX11_dripsAhead_13 ?_
  refine lv_istore_n (lv' := [(3, .int (((((S 21 0) + x2 : Int32)) - 1 : Int32))), (0, .ref (g 0)), (1, .int x1), (2, .int x2)]) C.1.1 C.1.2.1 dX11_dripsAhead_14 rfl hl (by decide) rfl (fun ls hl => ?_)
  refine lv_aload_n C.1.1 C.1.2.1 dX11_dripsAhead_15 rfl (lv_at hl 1 rfl) ?_
  obtain ⟨T1, eT1, hF⟩ := lt_some hF
  have hk_T1 := xtw_k eT1
  refine xg_X11_57 C O X (T := T1) eT1 (k := 0) rfl dX11_dripsAhead_16 ?_
  refine lv_iload_n C.1.1 C.1.2.1 dX11_dripsAhead_19 rfl (lv_at hl 2 rfl) ?_
  refine lv_iload_n C.1.1 C.1.2.1 dX11_dripsAhead_20 rfl (lv_at hl 0 rfl) ?_
  refine lv_aload_n C.1.1 C.1.2.1 dX11_dripsAhead_21 rfl (lv_at hl 1 rfl) ?_
  obtain ⟨T2, eT2, hF⟩ := lt_some hF
  have hk_T2 := xtw_k eT2
  refine xg_X11_57 C O X (T := T2) eT2 (k := 0) rfl dX11_dripsAhead_22 ?_
  refine lv_iload_n C.1.1 C.1.2.1 dX11_dripsAhead_25 rfl (lv_at hl 0 rfl) ?_
  obtain ⟨q1, hq1, hF⟩ := bnd_some hF
  refine x_callVi C X (k := T2) xv_X11_117 hk_T2 rfl rfl (by decide) (kX9_wetOf O C.2.2.2.2.1 N T2 (((((S 21 0) + x2 : Int32)) - 1 : Int32)) (hk_T2 : xk T2 = 9) S q1 hq1) (Nat.le_of_ble_eq_true rfl) (Nat.le_of_ble_eq_true rfl) (Nat.le_of_ble_eq_true rfl) (Nat.le_of_ble_eq_true rfl) rfl hl.1 rfl (Nat.le_of_ble_eq_true rfl) dX11_dripsAhead_26 (fun H locs X => ?_)
  refine lv_aload_n C.1.1 C.1.2.1 dX11_dripsAhead_29 rfl (lv_at hl 1 rfl) ?_
  refine xg_X11_19 C O X (k := 0) rfl (j := 20) rfl dX11_dripsAhead_30 ?_
  refine xg_X11_105 C O X (k := 20) rfl (j := 21) rfl dX11_dripsAhead_33 ?_
  refine xg_X11_128 C O X (k := 21) rfl dX11_dripsAhead_36 ?_
  obtain ⟨q2, hq2, hF⟩ := bnd_some hF
  refine x_callVi C X (k := T1) xv_X11_382 hk_T1 rfl rfl (by decide) (kX9_drips O C.2.2.2.2.1 N T1 x1 (((((S 21 0) + x2 : Int32)) - 1 : Int32)) q1.1 (q1.2 21 1) (hk_T1 : xk T1 = 9) q1.2 q2 hq2) (Nat.le_of_ble_eq_true rfl) (Nat.le_of_ble_eq_true rfl) (Nat.le_of_ble_eq_true rfl) (Nat.le_of_ble_eq_true rfl) rfl hl.1 rfl (Nat.le_of_ble_eq_true rfl) dX11_dripsAhead_39 (fun H locs X => ?_)
  obtain ⟨h_1, hF⟩ := chk_some hF
  cases hF
  exact g_zret C X h_1 dX11_dripsAhead_42
noncomputable def fX11_dripsAhead (N : Nat) (x1 : Int32) (x2 : Int32) (S : gS) : Option (Int32 × gS) := fX11_dripsAhead_b0 N x1 x2 S
theorem kX11_dripsAhead {l : Launch} {D : va_G} {g : Nat → Nat} {cI cB cZ cQ : ClassId} {Am : (Nat → Prop) → State → Heap → Prop} (O : xO g cI cB cZ cQ Am) (P : gAm Am) (N : Nat) (x1 : Int32) (x2 : Int32) (S : gS) (o : Int32 × gS) (hF : fX11_dripsAhead N x1 x2 S = some o) : gM l yX11_dripsAhead cX11_dripsAhead 4 ((some .boolean)) 3 D (xtys cI cB cZ cQ) (xcell g cI cB cZ cQ) xord g Am [.ref (g 0), .int x1, .int x2] S (some (.int o.1)) o.2 :=
  gM_of O.1 P (by decide) (Nat.le_of_ble_eq_true rfl) (fun p e s m args below meth c ls C X hl => bX11_dripsAhead_0 C O X (lv_sub hl [0, 1, 2] rfl) hF)
-- X11.dripBits
noncomputable def fX11_dripBits_b36 (N : Nat) (x2 : Int32) (S : gS) : Option (Int32 × gS) := some (x2, S)
theorem bX11_dripBits_36 {N : Nat} {x2 : Int32} {S : gS} {H : Heap} {locs : List Loc} {ls : Array Slot} {o : Int32 × gS} (C : gC p s m args meth c cX11_dripBits 4 RX11 ((some .int)) D (xtys cI cB cZ cQ) xord g Am) (O : xO g cI cB cZ cQ Am) (X : gX D (xcell g cI cB cZ cQ) xord g S s H locs) (hl : lv_has ls 4 [(2, .int x2)]) (hF : fX11_dripBits_b36 N x2 S = some o) : W p l e (rmd 4) s m args below meth c H locs 0 0 (gE below args s D (xtys cI cB cZ cQ) (xcell g cI cB cZ cQ) xord g (some (.int o.1)) o.2) (F0 m 36 ls []) := by
  unfold fX11_dripBits_b36 at hF
  refine lv_iload_n C.1.1 C.1.2.1 dX11_dripBits_36 rfl (lv_at hl 0 rfl) ?_
  cases hF
  exact g_iret C X dX11_dripBits_37
noncomputable def fX11_dripBits_b30 (N : Nat) (r4 : Int32 → Int32 → Int32 → gS → Option (Int32 × gS)) (x1 : Int32) (x2 : Int32) (x3 : Int32) (S : gS) : Option (Int32 × gS) := r4 x1 x2 ((x3 + 1 : Int32)) S
theorem bX11_dripBits_30 {N : Nat} {r4 : Int32 → Int32 → Int32 → gS → Option (Int32 × gS)} {x1 : Int32} {x2 : Int32} {x3 : Int32} {S : gS} {H : Heap} {locs : List Loc} {ls : Array Slot} {o : Int32 × gS} (C : gC p s m args meth c cX11_dripBits 4 RX11 ((some .int)) D (xtys cI cB cZ cQ) xord g Am) (O : xO g cI cB cZ cQ Am) (K4 : ∀ (x1 : Int32) (x2 : Int32) (x3 : Int32) (S : gS) (H : Heap) (locs : List Loc) (ls : Array Slot), gX D (xcell g cI cB cZ cQ) xord g S s H locs → lv_has ls 4 [(0, .ref (g 0)), (1, .int x1), (2, .int x2), (3, .int x3)] → r4 x1 x2 x3 S = some o → W p l e (rmd 4) s m args below meth c H locs 0 0 (gE below args s D (xtys cI cB cZ cQ) (xcell g cI cB cZ cQ) xord g (some (.int o.1)) o.2) (F0 m 4 ls [])) (X : gX D (xcell g cI cB cZ cQ) xord g S s H locs) (hl : lv_has ls 4 [(0, .ref (g 0)), (1, .int x1), (2, .int x2), (3, .int x3)]) (hF : fX11_dripBits_b30 N r4 x1 x2 x3 S = some o) : W p l e (rmd 4) s m args below meth c H locs 0 0 (gE below args s D (xtys cI cB cZ cQ) (xcell g cI cB cZ cQ) xord g (some (.int o.1)) o.2) (F0 m 30 ls []) := by
  unfold fX11_dripBits_b30 at hF
  refine lv_iinc (v := (x3 + 1 : Int32)) (lv' := [(3, .int ((x3 + 1 : Int32))), (0, .ref (g 0)), (1, .int x1), (2, .int x2)]) C.1.1 C.1.2.1 dX11_dripBits_30 hl (k := 3) rfl rfl (by decide) rfl (fun ls hl => ?_)
  refine lv_goto (tgt := 4) C.1.1 C.1.2.1 dX11_dripBits_33 (by decide) ?_
  exact K4 _ _ _ _ _ _ _ X (lv_sub hl [1, 2, 3, 0] rfl) hF
noncomputable def fX11_dripBits_b24 (N : Nat) (r4 : Int32 → Int32 → Int32 → gS → Option (Int32 × gS)) (x1 : Int32) (x2 : Int32) (x3 : Int32) (S : gS) : Option (Int32 × gS) := fX11_dripBits_b30 N r4 x1 ((x2 ||| (((1 : Int32) <<< (x3 &&& 31) : Int32)) : Int32)) x3 S
theorem bX11_dripBits_24 {N : Nat} {r4 : Int32 → Int32 → Int32 → gS → Option (Int32 × gS)} {x1 : Int32} {x2 : Int32} {x3 : Int32} {S : gS} {H : Heap} {locs : List Loc} {ls : Array Slot} {o : Int32 × gS} (C : gC p s m args meth c cX11_dripBits 4 RX11 ((some .int)) D (xtys cI cB cZ cQ) xord g Am) (O : xO g cI cB cZ cQ Am) (K4 : ∀ (x1 : Int32) (x2 : Int32) (x3 : Int32) (S : gS) (H : Heap) (locs : List Loc) (ls : Array Slot), gX D (xcell g cI cB cZ cQ) xord g S s H locs → lv_has ls 4 [(0, .ref (g 0)), (1, .int x1), (2, .int x2), (3, .int x3)] → r4 x1 x2 x3 S = some o → W p l e (rmd 4) s m args below meth c H locs 0 0 (gE below args s D (xtys cI cB cZ cQ) (xcell g cI cB cZ cQ) xord g (some (.int o.1)) o.2) (F0 m 4 ls [])) (X : gX D (xcell g cI cB cZ cQ) xord g S s H locs) (hl : lv_has ls 4 [(0, .ref (g 0)), (1, .int x1), (2, .int x2), (3, .int x3)]) (hF : fX11_dripBits_b24 N r4 x1 x2 x3 S = some o) : W p l e (rmd 4) s m args below meth c H locs 0 0 (gE below args s D (xtys cI cB cZ cQ) (xcell g cI cB cZ cQ) xord g (some (.int o.1)) o.2) (F0 m 24 ls []) := by
  unfold fX11_dripBits_b24 at hF
  refine lv_iload_n C.1.1 C.1.2.1 dX11_dripBits_24 rfl (lv_at hl 2 rfl) ?_
  refine lv_iconst (v := 1) C.1.1 C.1.2.1 dX11_dripBits_25 (by decide) ?_
  refine lv_iload_n C.1.1 C.1.2.1 dX11_dripBits_26 rfl (lv_at hl 3 rfl) ?_
  refine lv_ishl C.1.1 C.1.2.1 dX11_dripBits_27 ?_
  refine lv_ior C.1.1 C.1.2.1 dX11_dripBits_28 ?_
  refine lv_istore_n (lv' := [(2, .int ((x2 ||| (((1 : Int32) <<< (x3 &&& 31) : Int32)) : Int32))), (0, .ref (g 0)), (1, .int x1), (3, .int x3)]) C.1.1 C.1.2.1 dX11_dripBits_29 rfl hl (by decide) rfl (fun ls hl => ?_)
  exact bX11_dripBits_30 C O K4 X (lv_sub hl [1, 2, 0, 3] rfl) hF
noncomputable def fX11_dripBits_b15 (N : Nat) (r4 : Int32 → Int32 → Int32 → gS → Option (Int32 × gS)) (x1 : Int32) (x2 : Int32) (x3 : Int32) (S : gS) : Option (Int32 × gS) := bnd (fX11_dripsAhead N x3 x1 S) fun q1 => (if q1.1 = 0 then fX11_dripBits_b30 N r4 x1 x2 x3 q1.2 else fX11_dripBits_b24 N r4 x1 x2 x3 q1.2)
theorem bX11_dripBits_15 {N : Nat} {r4 : Int32 → Int32 → Int32 → gS → Option (Int32 × gS)} {x1 : Int32} {x2 : Int32} {x3 : Int32} {S : gS} {H : Heap} {locs : List Loc} {ls : Array Slot} {o : Int32 × gS} (C : gC p s m args meth c cX11_dripBits 4 RX11 ((some .int)) D (xtys cI cB cZ cQ) xord g Am) (O : xO g cI cB cZ cQ Am) (K4 : ∀ (x1 : Int32) (x2 : Int32) (x3 : Int32) (S : gS) (H : Heap) (locs : List Loc) (ls : Array Slot), gX D (xcell g cI cB cZ cQ) xord g S s H locs → lv_has ls 4 [(0, .ref (g 0)), (1, .int x1), (2, .int x2), (3, .int x3)] → r4 x1 x2 x3 S = some o → W p l e (rmd 4) s m args below meth c H locs 0 0 (gE below args s D (xtys cI cB cZ cQ) (xcell g cI cB cZ cQ) xord g (some (.int o.1)) o.2) (F0 m 4 ls [])) (X : gX D (xcell g cI cB cZ cQ) xord g S s H locs) (hl : lv_has ls 4 [(0, .ref (g 0)), (1, .int x1), (2, .int x2), (3, .int x3)]) (hF : fX11_dripBits_b15 N r4 x1 x2 x3 S = some o) : W p l e (rmd 4) s m args below meth c H locs 0 0 (gE below args s D (xtys cI cB cZ cQ) (xcell g cI cB cZ cQ) xord g (some (.int o.1)) o.2) (F0 m 15 ls []) := by
  unfold fX11_dripBits_b15 at hF
  refine lv_aload_n C.1.1 C.1.2.1 dX11_dripBits_15 rfl (lv_at hl 0 rfl) ?_
  refine lv_iload_n C.1.1 C.1.2.1 dX11_dripBits_16 rfl (lv_at hl 3 rfl) ?_
  refine lv_iload_n C.1.1 C.1.2.1 dX11_dripBits_17 rfl (lv_at hl 1 rfl) ?_
  obtain ⟨q1, hq1, hF⟩ := bnd_some hF
  refine x_callVi C X (k := 0) xv_X11_290 (rfl : xk 0 = 11) rfl rfl (by decide) (kX11_dripsAhead O C.2.2.2.2.1 N x3 x1 S q1 hq1) (Nat.le_of_ble_eq_true rfl) (Nat.le_of_ble_eq_true rfl) (Nat.le_of_ble_eq_true rfl) (Nat.le_of_ble_eq_true rfl) rfl hl.1 rfl (Nat.le_of_ble_eq_true rfl) dX11_dripBits_18 (fun H locs X => ?_)
  refine lv_if_eq (tgt := 30) C.1.1 C.1.2.1 dX11_dripBits_21 (by decide) (fun h_z => ?_) (fun h_z => ?_)
  · rw [if_pos h_z] at hF
    exact bX11_dripBits_30 C O K4 X (lv_sub hl [0, 1, 2, 3] rfl) hF
  · rw [if_neg h_z] at hF
    exact bX11_dripBits_24 C O K4 X (lv_sub hl [0, 1, 2, 3] rfl) hF
noncomputable def fX11_dripBits_b4 (N : Nat) (r4 : Int32 → Int32 → Int32 → gS → Option (Int32 × gS)) (x1 : Int32) (x2 : Int32) (x3 : Int32) (S : gS) : Option (Int32 × gS) := lt (xtw S) fun T1 => (if (S T1 0) ≤ x3 then fX11_dripBits_b36 N x2 S else fX11_dripBits_b15 N r4 x1 x2 x3 S)
theorem bX11_dripBits_4 {N : Nat} {r4 : Int32 → Int32 → Int32 → gS → Option (Int32 × gS)} {x1 : Int32} {x2 : Int32} {x3 : Int32} {S : gS} {H : Heap} {locs : List Loc} {ls : Array Slot} {o : Int32 × gS} (C : gC p s m args meth c cX11_dripBits 4 RX11 ((some .int)) D (xtys cI cB cZ cQ) xord g Am) (O : xO g cI cB cZ cQ Am) (K4 : ∀ (x1 : Int32) (x2 : Int32) (x3 : Int32) (S : gS) (H : Heap) (locs : List Loc) (ls : Array Slot), gX D (xcell g cI cB cZ cQ) xord g S s H locs → lv_has ls 4 [(0, .ref (g 0)), (1, .int x1), (2, .int x2), (3, .int x3)] → r4 x1 x2 x3 S = some o → W p l e (rmd 4) s m args below meth c H locs 0 0 (gE below args s D (xtys cI cB cZ cQ) (xcell g cI cB cZ cQ) xord g (some (.int o.1)) o.2) (F0 m 4 ls [])) (X : gX D (xcell g cI cB cZ cQ) xord g S s H locs) (hl : lv_has ls 4 [(0, .ref (g 0)), (1, .int x1), (2, .int x2), (3, .int x3)]) (hF : fX11_dripBits_b4 N r4 x1 x2 x3 S = some o) : W p l e (rmd 4) s m args below meth c H locs 0 0 (gE below args s D (xtys cI cB cZ cQ) (xcell g cI cB cZ cQ) xord g (some (.int o.1)) o.2) (F0 m 4 ls []) := by
  unfold fX11_dripBits_b4 at hF
  refine lv_iload_n C.1.1 C.1.2.1 dX11_dripBits_4 rfl (lv_at hl 3 rfl) ?_
  refine lv_aload_n C.1.1 C.1.2.1 dX11_dripBits_5 rfl (lv_at hl 0 rfl) ?_
  obtain ⟨T1, eT1, hF⟩ := lt_some hF
  have hk_T1 := xtw_k eT1
  refine xg_X11_57 C O X (T := T1) eT1 (k := 0) rfl dX11_dripBits_6 ?_
  refine xg_X11_108 C O X (k := T1) hk_T1 dX11_dripBits_9 ?_
  refine lv_icmp_ge (tgt := 36) C.1.1 C.1.2.1 dX11_dripBits_12 (by decide) (fun h_z => ?_) (fun h_z => ?_)
  · rw [if_pos h_z] at hF
    exact bX11_dripBits_36 C O X (lv_sub hl [2] rfl) hF
  · rw [if_neg h_z] at hF
    exact bX11_dripBits_15 C O K4 X (lv_sub hl [0, 1, 2, 3] rfl) hF
noncomputable def fX11_dripBits_h4 (N : Nat) : Nat → Int32 → Int32 → Int32 → gS → Option (Int32 × gS)
  | 0, _, _, _, _ => none
  | n + 1, x1, x2, x3, S => fX11_dripBits_b4 N (fX11_dripBits_h4 N n) x1 x2 x3 S
theorem hX11_dripBits_4 {N : Nat} {o : Int32 × gS} (C : gC p s m args meth c cX11_dripBits 4 RX11 ((some .int)) D (xtys cI cB cZ cQ) xord g Am) (O : xO g cI cB cZ cQ Am) : ∀ (n : Nat) (x1 : Int32) (x2 : Int32) (x3 : Int32) (S : gS) (H : Heap) (locs : List Loc) (ls : Array Slot), gX D (xcell g cI cB cZ cQ) xord g S s H locs → lv_has ls 4 [(0, .ref (g 0)), (1, .int x1), (2, .int x2), (3, .int x3)] → fX11_dripBits_h4 N n x1 x2 x3 S = some o → W p l e (rmd 4) s m args below meth c H locs 0 0 (gE below args s D (xtys cI cB cZ cQ) (xcell g cI cB cZ cQ) xord g (some (.int o.1)) o.2) (F0 m 4 ls []) := by
  intro n
  induction n with
  | zero =>
    intro x1 x2 x3 S H locs ls X hl hF
    exact absurd (show (none : Option (Int32 × gS)) = some o from hF) (by simp)
  | succ n ih =>
    intro x1 x2 x3 S H locs ls X hl hF
    have hF : fX11_dripBits_b4 N (fX11_dripBits_h4 N n) x1 x2 x3 S = some o := hF
    exact bX11_dripBits_4 C O ih X hl hF
noncomputable def fX11_dripBits_b0 (N : Nat) (x1 : Int32) (S : gS) : Option (Int32 × gS) := fX11_dripBits_h4 N N x1 0 0 S
theorem bX11_dripBits_0 {N : Nat} {x1 : Int32} {S : gS} {H : Heap} {locs : List Loc} {ls : Array Slot} {o : Int32 × gS} (C : gC p s m args meth c cX11_dripBits 4 RX11 ((some .int)) D (xtys cI cB cZ cQ) xord g Am) (O : xO g cI cB cZ cQ Am) (X : gX D (xcell g cI cB cZ cQ) xord g S s H locs) (hl : lv_has ls 4 [(0, .ref (g 0)), (1, .int x1)]) (hF : fX11_dripBits_b0 N x1 S = some o) : W p l e (rmd 4) s m args below meth c H locs 0 0 (gE below args s D (xtys cI cB cZ cQ) (xcell g cI cB cZ cQ) xord g (some (.int o.1)) o.2) (F0 m 0 ls []) := by
  unfold fX11_dripBits_b0 at hF
  refine lv_iconst (v := 0) C.1.1 C.1.2.1 dX11_dripBits_0 (by decide) ?_
  refine lv_istore_n (lv' := [(2, .int 0), (0, .ref (g 0)), (1, .int x1)]) C.1.1 C.1.2.1 dX11_dripBits_1 rfl hl (by decide) rfl (fun ls hl => ?_)
  refine lv_iconst (v := 0) C.1.1 C.1.2.1 dX11_dripBits_2 (by decide) ?_
  refine lv_istore_n (lv' := [(3, .int 0), (2, .int 0), (0, .ref (g 0)), (1, .int x1)]) C.1.1 C.1.2.1 dX11_dripBits_3 rfl hl (by decide) rfl (fun ls hl => ?_)
  exact hX11_dripBits_4 C O N _ _ _ _ _ _ _ X (lv_sub hl [2, 3, 1, 0] rfl) hF
noncomputable def fX11_dripBits (N : Nat) (x1 : Int32) (S : gS) : Option (Int32 × gS) := fX11_dripBits_b0 N x1 S
theorem kX11_dripBits {l : Launch} {D : va_G} {g : Nat → Nat} {cI cB cZ cQ : ClassId} {Am : (Nat → Prop) → State → Heap → Prop} (O : xO g cI cB cZ cQ Am) (P : gAm Am) (N : Nat) (x1 : Int32) (S : gS) (o : Int32 × gS) (hF : fX11_dripBits N x1 S = some o) : gM l yX11_dripBits cX11_dripBits 4 ((some .int)) 4 D (xtys cI cB cZ cQ) (xcell g cI cB cZ cQ) xord g Am [.ref (g 0), .int x1] S (some (.int o.1)) o.2 :=
  gM_of O.1 P (by decide) (Nat.le_of_ble_eq_true rfl) (fun p e s m args below meth c ls C X hl => bX11_dripBits_0 C O X (lv_sub hl [0, 1] rfl) hF)
-- X11.nextDrip
noncomputable def fX11_nextDrip_b25 (N : Nat) (S : gS) : Option (Int32 × gS) := some ((-1), S)
theorem bX11_nextDrip_25 {N : Nat} {S : gS} {H : Heap} {locs : List Loc} {ls : Array Slot} {o : Int32 × gS} (C : gC p s m args meth c cX11_nextDrip 3 RX11 ((some .int)) D (xtys cI cB cZ cQ) xord g Am) (O : xO g cI cB cZ cQ Am) (X : gX D (xcell g cI cB cZ cQ) xord g S s H locs) (hl : lv_has ls 3 []) (hF : fX11_nextDrip_b25 N S = some o) : W p l e (rmd 4) s m args below meth c H locs 0 0 (gE below args s D (xtys cI cB cZ cQ) (xcell g cI cB cZ cQ) xord g (some (.int o.1)) o.2) (F0 m 25 ls []) := by
  unfold fX11_nextDrip_b25 at hF
  refine lv_iconst (v := (-1)) C.1.1 C.1.2.1 dX11_nextDrip_25 (by decide) ?_
  cases hF
  exact g_iret C X dX11_nextDrip_26
noncomputable def fX11_nextDrip_b19 (N : Nat) (r2 : Int32 → Int32 → gS → Option (Int32 × gS)) (x1 : Int32) (x2 : Int32) (S : gS) : Option (Int32 × gS) := r2 x1 ((x2 + 1 : Int32)) S
theorem bX11_nextDrip_19 {N : Nat} {r2 : Int32 → Int32 → gS → Option (Int32 × gS)} {x1 : Int32} {x2 : Int32} {S : gS} {H : Heap} {locs : List Loc} {ls : Array Slot} {o : Int32 × gS} (C : gC p s m args meth c cX11_nextDrip 3 RX11 ((some .int)) D (xtys cI cB cZ cQ) xord g Am) (O : xO g cI cB cZ cQ Am) (K2 : ∀ (x1 : Int32) (x2 : Int32) (S : gS) (H : Heap) (locs : List Loc) (ls : Array Slot), gX D (xcell g cI cB cZ cQ) xord g S s H locs → lv_has ls 3 [(0, .ref (g 0)), (1, .int x1), (2, .int x2)] → r2 x1 x2 S = some o → W p l e (rmd 4) s m args below meth c H locs 0 0 (gE below args s D (xtys cI cB cZ cQ) (xcell g cI cB cZ cQ) xord g (some (.int o.1)) o.2) (F0 m 2 ls [])) (X : gX D (xcell g cI cB cZ cQ) xord g S s H locs) (hl : lv_has ls 3 [(0, .ref (g 0)), (1, .int x1), (2, .int x2)]) (hF : fX11_nextDrip_b19 N r2 x1 x2 S = some o) : W p l e (rmd 4) s m args below meth c H locs 0 0 (gE below args s D (xtys cI cB cZ cQ) (xcell g cI cB cZ cQ) xord g (some (.int o.1)) o.2) (F0 m 19 ls []) := by
  unfold fX11_nextDrip_b19 at hF
  refine lv_iinc (v := (x2 + 1 : Int32)) (lv' := [(2, .int ((x2 + 1 : Int32))), (0, .ref (g 0)), (1, .int x1)]) C.1.1 C.1.2.1 dX11_nextDrip_19 hl (k := 2) rfl rfl (by decide) rfl (fun ls hl => ?_)
  refine lv_goto (tgt := 2) C.1.1 C.1.2.1 dX11_nextDrip_22 (by decide) ?_
  exact K2 _ _ _ _ _ _ X (lv_sub hl [1, 2, 0] rfl) hF
noncomputable def fX11_nextDrip_b17 (N : Nat) (x2 : Int32) (S : gS) : Option (Int32 × gS) := some (x2, S)
theorem bX11_nextDrip_17 {N : Nat} {x2 : Int32} {S : gS} {H : Heap} {locs : List Loc} {ls : Array Slot} {o : Int32 × gS} (C : gC p s m args meth c cX11_nextDrip 3 RX11 ((some .int)) D (xtys cI cB cZ cQ) xord g Am) (O : xO g cI cB cZ cQ Am) (X : gX D (xcell g cI cB cZ cQ) xord g S s H locs) (hl : lv_has ls 3 [(2, .int x2)]) (hF : fX11_nextDrip_b17 N x2 S = some o) : W p l e (rmd 4) s m args below meth c H locs 0 0 (gE below args s D (xtys cI cB cZ cQ) (xcell g cI cB cZ cQ) xord g (some (.int o.1)) o.2) (F0 m 17 ls []) := by
  unfold fX11_nextDrip_b17 at hF
  refine lv_iload_n C.1.1 C.1.2.1 dX11_nextDrip_17 rfl (lv_at hl 0 rfl) ?_
  cases hF
  exact g_iret C X dX11_nextDrip_18
noncomputable def fX11_nextDrip_b8 (N : Nat) (r2 : Int32 → Int32 → gS → Option (Int32 × gS)) (x1 : Int32) (x2 : Int32) (S : gS) : Option (Int32 × gS) := bnd (fX11_dripsAhead N x1 x2 S) fun q1 => (if q1.1 = 0 then fX11_nextDrip_b19 N r2 x1 x2 q1.2 else fX11_nextDrip_b17 N x2 q1.2)
theorem bX11_nextDrip_8 {N : Nat} {r2 : Int32 → Int32 → gS → Option (Int32 × gS)} {x1 : Int32} {x2 : Int32} {S : gS} {H : Heap} {locs : List Loc} {ls : Array Slot} {o : Int32 × gS} (C : gC p s m args meth c cX11_nextDrip 3 RX11 ((some .int)) D (xtys cI cB cZ cQ) xord g Am) (O : xO g cI cB cZ cQ Am) (K2 : ∀ (x1 : Int32) (x2 : Int32) (S : gS) (H : Heap) (locs : List Loc) (ls : Array Slot), gX D (xcell g cI cB cZ cQ) xord g S s H locs → lv_has ls 3 [(0, .ref (g 0)), (1, .int x1), (2, .int x2)] → r2 x1 x2 S = some o → W p l e (rmd 4) s m args below meth c H locs 0 0 (gE below args s D (xtys cI cB cZ cQ) (xcell g cI cB cZ cQ) xord g (some (.int o.1)) o.2) (F0 m 2 ls [])) (X : gX D (xcell g cI cB cZ cQ) xord g S s H locs) (hl : lv_has ls 3 [(0, .ref (g 0)), (1, .int x1), (2, .int x2)]) (hF : fX11_nextDrip_b8 N r2 x1 x2 S = some o) : W p l e (rmd 4) s m args below meth c H locs 0 0 (gE below args s D (xtys cI cB cZ cQ) (xcell g cI cB cZ cQ) xord g (some (.int o.1)) o.2) (F0 m 8 ls []) := by
  unfold fX11_nextDrip_b8 at hF
  refine lv_aload_n C.1.1 C.1.2.1 dX11_nextDrip_8 rfl (lv_at hl 0 rfl) ?_
  refine lv_iload_n C.1.1 C.1.2.1 dX11_nextDrip_9 rfl (lv_at hl 1 rfl) ?_
  refine lv_iload_n C.1.1 C.1.2.1 dX11_nextDrip_10 rfl (lv_at hl 2 rfl) ?_
  obtain ⟨q1, hq1, hF⟩ := bnd_some hF
  refine x_callVi C X (k := 0) xv_X11_290 (rfl : xk 0 = 11) rfl rfl (by decide) (kX11_dripsAhead O C.2.2.2.2.1 N x1 x2 S q1 hq1) (Nat.le_of_ble_eq_true rfl) (Nat.le_of_ble_eq_true rfl) (Nat.le_of_ble_eq_true rfl) (Nat.le_of_ble_eq_true rfl) rfl hl.1 rfl (Nat.le_of_ble_eq_true rfl) dX11_nextDrip_11 (fun H locs X => ?_)
  refine lv_if_eq (tgt := 19) C.1.1 C.1.2.1 dX11_nextDrip_14 (by decide) (fun h_z => ?_) (fun h_z => ?_)
  · rw [if_pos h_z] at hF
    exact bX11_nextDrip_19 C O K2 X (lv_sub hl [0, 1, 2] rfl) hF
  · rw [if_neg h_z] at hF
    exact bX11_nextDrip_17 C O X (lv_sub hl [2] rfl) hF
noncomputable def fX11_nextDrip_b2 (N : Nat) (r2 : Int32 → Int32 → gS → Option (Int32 × gS)) (x1 : Int32) (x2 : Int32) (S : gS) : Option (Int32 × gS) := if 60 < x2 then fX11_nextDrip_b25 N S else fX11_nextDrip_b8 N r2 x1 x2 S
theorem bX11_nextDrip_2 {N : Nat} {r2 : Int32 → Int32 → gS → Option (Int32 × gS)} {x1 : Int32} {x2 : Int32} {S : gS} {H : Heap} {locs : List Loc} {ls : Array Slot} {o : Int32 × gS} (C : gC p s m args meth c cX11_nextDrip 3 RX11 ((some .int)) D (xtys cI cB cZ cQ) xord g Am) (O : xO g cI cB cZ cQ Am) (K2 : ∀ (x1 : Int32) (x2 : Int32) (S : gS) (H : Heap) (locs : List Loc) (ls : Array Slot), gX D (xcell g cI cB cZ cQ) xord g S s H locs → lv_has ls 3 [(0, .ref (g 0)), (1, .int x1), (2, .int x2)] → r2 x1 x2 S = some o → W p l e (rmd 4) s m args below meth c H locs 0 0 (gE below args s D (xtys cI cB cZ cQ) (xcell g cI cB cZ cQ) xord g (some (.int o.1)) o.2) (F0 m 2 ls [])) (X : gX D (xcell g cI cB cZ cQ) xord g S s H locs) (hl : lv_has ls 3 [(0, .ref (g 0)), (1, .int x1), (2, .int x2)]) (hF : fX11_nextDrip_b2 N r2 x1 x2 S = some o) : W p l e (rmd 4) s m args below meth c H locs 0 0 (gE below args s D (xtys cI cB cZ cQ) (xcell g cI cB cZ cQ) xord g (some (.int o.1)) o.2) (F0 m 2 ls []) := by
  unfold fX11_nextDrip_b2 at hF
  refine lv_iload_n C.1.1 C.1.2.1 dX11_nextDrip_2 rfl (lv_at hl 2 rfl) ?_
  refine lv_bipush (v := 60) C.1.1 C.1.2.1 dX11_nextDrip_3 (by decide) ?_
  refine lv_icmp_gt (tgt := 25) C.1.1 C.1.2.1 dX11_nextDrip_5 (by decide) (fun h_z => ?_) (fun h_z => ?_)
  · rw [if_pos h_z] at hF
    exact bX11_nextDrip_25 C O X (lv_sub hl [] rfl) hF
  · rw [if_neg h_z] at hF
    exact bX11_nextDrip_8 C O K2 X (lv_sub hl [0, 1, 2] rfl) hF
noncomputable def fX11_nextDrip_h2 (N : Nat) : Nat → Int32 → Int32 → gS → Option (Int32 × gS)
  | 0, _, _, _ => none
  | n + 1, x1, x2, S => fX11_nextDrip_b2 N (fX11_nextDrip_h2 N n) x1 x2 S
theorem hX11_nextDrip_2 {N : Nat} {o : Int32 × gS} (C : gC p s m args meth c cX11_nextDrip 3 RX11 ((some .int)) D (xtys cI cB cZ cQ) xord g Am) (O : xO g cI cB cZ cQ Am) : ∀ (n : Nat) (x1 : Int32) (x2 : Int32) (S : gS) (H : Heap) (locs : List Loc) (ls : Array Slot), gX D (xcell g cI cB cZ cQ) xord g S s H locs → lv_has ls 3 [(0, .ref (g 0)), (1, .int x1), (2, .int x2)] → fX11_nextDrip_h2 N n x1 x2 S = some o → W p l e (rmd 4) s m args below meth c H locs 0 0 (gE below args s D (xtys cI cB cZ cQ) (xcell g cI cB cZ cQ) xord g (some (.int o.1)) o.2) (F0 m 2 ls []) := by
  intro n
  induction n with
  | zero =>
    intro x1 x2 S H locs ls X hl hF
    exact absurd (show (none : Option (Int32 × gS)) = some o from hF) (by simp)
  | succ n ih =>
    intro x1 x2 S H locs ls X hl hF
    have hF : fX11_nextDrip_b2 N (fX11_nextDrip_h2 N n) x1 x2 S = some o := hF
    exact bX11_nextDrip_2 C O ih X hl hF
noncomputable def fX11_nextDrip_b0 (N : Nat) (x1 : Int32) (S : gS) : Option (Int32 × gS) := fX11_nextDrip_h2 N N x1 1 S
theorem bX11_nextDrip_0 {N : Nat} {x1 : Int32} {S : gS} {H : Heap} {locs : List Loc} {ls : Array Slot} {o : Int32 × gS} (C : gC p s m args meth c cX11_nextDrip 3 RX11 ((some .int)) D (xtys cI cB cZ cQ) xord g Am) (O : xO g cI cB cZ cQ Am) (X : gX D (xcell g cI cB cZ cQ) xord g S s H locs) (hl : lv_has ls 3 [(0, .ref (g 0)), (1, .int x1)]) (hF : fX11_nextDrip_b0 N x1 S = some o) : W p l e (rmd 4) s m args below meth c H locs 0 0 (gE below args s D (xtys cI cB cZ cQ) (xcell g cI cB cZ cQ) xord g (some (.int o.1)) o.2) (F0 m 0 ls []) := by
  unfold fX11_nextDrip_b0 at hF
  refine lv_iconst (v := 1) C.1.1 C.1.2.1 dX11_nextDrip_0 (by decide) ?_
  refine lv_istore_n (lv' := [(2, .int 1), (0, .ref (g 0)), (1, .int x1)]) C.1.1 C.1.2.1 dX11_nextDrip_1 rfl hl (by decide) rfl (fun ls hl => ?_)
  exact hX11_nextDrip_2 C O N _ _ _ _ _ _ X (lv_sub hl [1, 2, 0] rfl) hF
noncomputable def fX11_nextDrip (N : Nat) (x1 : Int32) (S : gS) : Option (Int32 × gS) := fX11_nextDrip_b0 N x1 S
theorem kX11_nextDrip {l : Launch} {D : va_G} {g : Nat → Nat} {cI cB cZ cQ : ClassId} {Am : (Nat → Prop) → State → Heap → Prop} (O : xO g cI cB cZ cQ Am) (P : gAm Am) (N : Nat) (x1 : Int32) (S : gS) (o : Int32 × gS) (hF : fX11_nextDrip N x1 S = some o) : gM l yX11_nextDrip cX11_nextDrip 3 ((some .int)) 4 D (xtys cI cB cZ cQ) (xcell g cI cB cZ cQ) xord g Am [.ref (g 0), .int x1] S (some (.int o.1)) o.2 :=
  gM_of O.1 P (by decide) (Nat.le_of_ble_eq_true rfl) (fun p e s m args below meth c ls C X hl => bX11_nextDrip_0 C O X (lv_sub hl [0, 1] rfl) hF)
-- X11.costNow
noncomputable def fX11_costNow_b0 (N : Nat) (x1 : Int32) (S : gS) : Option (Int32 × gS) := lt (xtw S) fun T1 => (bnd (fX10_begin N T1 21 x1 S) fun q1 => (lt (xtw q1.2) fun T2 => (bnd (fX10_cost N T2 q1.2) fun q2 => (some (q2.1, q2.2)))))
theorem bX11_costNow_0 {N : Nat} {x1 : Int32} {S : gS} {H : Heap} {locs : List Loc} {ls : Array Slot} {o : Int32 × gS} (C : gC p s m args meth c cX11_costNow 2 RX11 ((some .int)) D (xtys cI cB cZ cQ) xord g Am) (O : xO g cI cB cZ cQ Am) (X : gX D (xcell g cI cB cZ cQ) xord g S s H locs) (hl : lv_has ls 2 [(0, .ref (g 0)), (1, .int x1)]) (hF : fX11_costNow_b0 N x1 S = some o) : W p l e (rmd 3) s m args below meth c H locs 0 0 (gE below args s D (xtys cI cB cZ cQ) (xcell g cI cB cZ cQ) xord g (some (.int o.1)) o.2) (F0 m 0 ls []) := by
  unfold fX11_costNow_b0 at hF
  refine lv_aload_n C.1.1 C.1.2.1 dX11_costNow_0 rfl (lv_at hl 0 rfl) ?_
  refine xg_X11_36 C O X (k := 0) rfl (j := 51) rfl dX11_costNow_1 ?_
  refine lv_aload_n C.1.1 C.1.2.1 dX11_costNow_4 rfl (lv_at hl 0 rfl) ?_
  obtain ⟨T1, eT1, hF⟩ := lt_some hF
  have hk_T1 := xtw_k eT1
  refine xg_X11_57 C O X (T := T1) eT1 (k := 0) rfl dX11_costNow_5 ?_
  refine lv_aload_n C.1.1 C.1.2.1 dX11_costNow_8 rfl (lv_at hl 0 rfl) ?_
  refine xg_X11_19 C O X (k := 0) rfl (j := 20) rfl dX11_costNow_9 ?_
  refine xg_X11_105 C O X (k := 20) rfl (j := 21) rfl dX11_costNow_12 ?_
  refine lv_iload_n C.1.1 C.1.2.1 dX11_costNow_15 rfl (lv_at hl 1 rfl) ?_
  obtain ⟨q1, hq1, hF⟩ := bnd_some hF
  refine x_callV C X (k := 51) xv_X11_243 (rfl : xk 51 = 10) rfl rfl (by decide) (kX10_begin O C.2.2.2.2.1 N T1 21 x1 (hk_T1 : xk T1 = 9) (rfl : xk 21 = 7) S q1 hq1) (Nat.le_of_ble_eq_true rfl) (Nat.le_of_ble_eq_true rfl) (Nat.le_of_ble_eq_true rfl) (Nat.le_of_ble_eq_true rfl) rfl hl.1 rfl (Nat.le_of_ble_eq_true rfl) dX11_costNow_16 (fun H locs X => ?_)
  refine lv_aload_n C.1.1 C.1.2.1 dX11_costNow_19 rfl (lv_at hl 0 rfl) ?_
  refine xg_X11_36 C O X (k := 0) rfl (j := 51) rfl dX11_costNow_20 ?_
  refine lv_aload_n C.1.1 C.1.2.1 dX11_costNow_23 rfl (lv_at hl 0 rfl) ?_
  obtain ⟨T2, eT2, hF⟩ := lt_some hF
  have hk_T2 := xtw_k eT2
  refine xg_X11_57 C O X (T := T2) eT2 (k := 0) rfl dX11_costNow_24 ?_
  obtain ⟨q2, hq2, hF⟩ := bnd_some hF
  refine x_callVi C X (k := 51) xv_X11_385 (rfl : xk 51 = 10) rfl rfl (by decide) (kX10_cost O C.2.2.2.2.1 N T2 (hk_T2 : xk T2 = 9) q1.2 q2 hq2) (Nat.le_of_ble_eq_true rfl) (Nat.le_of_ble_eq_true rfl) (Nat.le_of_ble_eq_true rfl) (Nat.le_of_ble_eq_true rfl) rfl hl.1 rfl (Nat.le_of_ble_eq_true rfl) dX11_costNow_27 (fun H locs X => ?_)
  cases hF
  exact g_iret C X dX11_costNow_30
noncomputable def fX11_costNow (N : Nat) (x1 : Int32) (S : gS) : Option (Int32 × gS) := fX11_costNow_b0 N x1 S
theorem kX11_costNow {l : Launch} {D : va_G} {g : Nat → Nat} {cI cB cZ cQ : ClassId} {Am : (Nat → Prop) → State → Heap → Prop} (O : xO g cI cB cZ cQ Am) (P : gAm Am) (N : Nat) (x1 : Int32) (S : gS) (o : Int32 × gS) (hF : fX11_costNow N x1 S = some o) : gM l yX11_costNow cX11_costNow 2 ((some .int)) 3 D (xtys cI cB cZ cQ) (xcell g cI cB cZ cQ) xord g Am [.ref (g 0), .int x1] S (some (.int o.1)) o.2 :=
  gM_of O.1 P (by decide) (Nat.le_of_ble_eq_true rfl) (fun p e s m args below meth c ls C X hl => bX11_costNow_0 C O X (lv_sub hl [0, 1] rfl) hF)
-- X6.bestOf
noncomputable def fX6_bestOf_b58 (N : Nat) (x5 : Int32) (S : gS) : Option (Int32 × gS) := some (x5, S)
theorem bX6_bestOf_58 {N : Nat} {x5 : Int32} {S : gS} {H : Heap} {locs : List Loc} {ls : Array Slot} {o : Int32 × gS} (C : gC p s m args meth c cX6_bestOf 7 RX6 ((some .int)) D (xtys cI cB cZ cQ) xord g Am) (O : xO g cI cB cZ cQ Am) (X : gX D (xcell g cI cB cZ cQ) xord g S s H locs) (hl : lv_has ls 7 [(5, .int x5)]) (hF : fX6_bestOf_b58 N x5 S = some o) : W p l e (rmd 2) s m args below meth c H locs 0 0 (gE below args s D (xtys cI cB cZ cQ) (xcell g cI cB cZ cQ) xord g (some (.int o.1)) o.2) (F0 m 58 ls []) := by
  unfold fX6_bestOf_b58 at hF
  refine lv_iload C.1.1 C.1.2.1 dX6_bestOf_58 (lv_at hl 0 rfl) ?_
  cases hF
  exact g_iret C X dX6_bestOf_60
noncomputable def fX6_bestOf_b52 (N : Nat) (r13 : Nat → Nat → Int32 → Int32 → Int32 → Int32 → gS → Option (Int32 × gS)) (k1 : Nat) (k2 : Nat) (x3 : Int32) (x4 : Int32) (x5 : Int32) (x6 : Int32) (S : gS) : Option (Int32 × gS) := r13 k1 k2 x3 x4 x5 ((x6 + 1 : Int32)) S
theorem bX6_bestOf_52 {N : Nat} {r13 : Nat → Nat → Int32 → Int32 → Int32 → Int32 → gS → Option (Int32 × gS)} {k1 : Nat} {k2 : Nat} {x3 : Int32} {x4 : Int32} {x5 : Int32} {x6 : Int32} {S : gS} {H : Heap} {locs : List Loc} {ls : Array Slot} {o : Int32 × gS} (C : gC p s m args meth c cX6_bestOf 7 RX6 ((some .int)) D (xtys cI cB cZ cQ) xord g Am) (O : xO g cI cB cZ cQ Am) (K13 : ∀ (k1 : Nat) (k2 : Nat) (x3 : Int32) (x4 : Int32) (x5 : Int32) (x6 : Int32) (hk_k1 : xk k1 = 9) (hk_k2 : xk k2 = 7) (S : gS) (H : Heap) (locs : List Loc) (ls : Array Slot), gX D (xcell g cI cB cZ cQ) xord g S s H locs → lv_has ls 7 [(0, .ref (g 52)), (1, .ref (g k1)), (2, .ref (g k2)), (3, .int x3), (4, .int x4), (5, .int x5), (6, .int x6)] → r13 k1 k2 x3 x4 x5 x6 S = some o → W p l e (rmd 2) s m args below meth c H locs 0 0 (gE below args s D (xtys cI cB cZ cQ) (xcell g cI cB cZ cQ) xord g (some (.int o.1)) o.2) (F0 m 13 ls [])) (hk_k1 : xk k1 = 9) (hk_k2 : xk k2 = 7) (X : gX D (xcell g cI cB cZ cQ) xord g S s H locs) (hl : lv_has ls 7 [(0, .ref (g 52)), (1, .ref (g k1)), (2, .ref (g k2)), (3, .int x3), (4, .int x4), (5, .int x5), (6, .int x6)]) (hF : fX6_bestOf_b52 N r13 k1 k2 x3 x4 x5 x6 S = some o) : W p l e (rmd 2) s m args below meth c H locs 0 0 (gE below args s D (xtys cI cB cZ cQ) (xcell g cI cB cZ cQ) xord g (some (.int o.1)) o.2) (F0 m 52 ls []) := by
  unfold fX6_bestOf_b52 at hF
  refine lv_iinc (v := (x6 + 1 : Int32)) (lv' := [(6, .int ((x6 + 1 : Int32))), (0, .ref (g 52)), (1, .ref (g k1)), (2, .ref (g k2)), (3, .int x3), (4, .int x4), (5, .int x5)]) C.1.1 C.1.2.1 dX6_bestOf_52 hl (k := 6) rfl rfl (by decide) rfl (fun ls hl => ?_)
  refine lv_goto (tgt := 13) C.1.1 C.1.2.1 dX6_bestOf_55 (by decide) ?_
  exact K13 _ _ _ _ _ _ (hk_k1 : xk k1 = 9) (hk_k2 : xk k2 = 7) _ _ _ _ X (lv_sub hl [1, 2, 3, 4, 5, 6, 0] rfl) hF
noncomputable def fX6_bestOf_b35 (N : Nat) (r13 : Nat → Nat → Int32 → Int32 → Int32 → Int32 → gS → Option (Int32 × gS)) (k1 : Nat) (k2 : Nat) (x3 : Int32) (x4 : Int32) (x5 : Int32) (x6 : Int32) (S : gS) : Option (Int32 × gS) := bnd (fX6_worthOf N k1 x3 x6 x4 S) fun q1 => (fX6_bestOf_b52 N r13 k1 k2 x3 x4 (if x5 < q1.1 then q1.1 else x5) x6 q1.2)
theorem bX6_bestOf_35 {N : Nat} {r13 : Nat → Nat → Int32 → Int32 → Int32 → Int32 → gS → Option (Int32 × gS)} {k1 : Nat} {k2 : Nat} {x3 : Int32} {x4 : Int32} {x5 : Int32} {x6 : Int32} {S : gS} {H : Heap} {locs : List Loc} {ls : Array Slot} {o : Int32 × gS} (C : gC p s m args meth c cX6_bestOf 7 RX6 ((some .int)) D (xtys cI cB cZ cQ) xord g Am) (O : xO g cI cB cZ cQ Am) (K13 : ∀ (k1 : Nat) (k2 : Nat) (x3 : Int32) (x4 : Int32) (x5 : Int32) (x6 : Int32) (hk_k1 : xk k1 = 9) (hk_k2 : xk k2 = 7) (S : gS) (H : Heap) (locs : List Loc) (ls : Array Slot), gX D (xcell g cI cB cZ cQ) xord g S s H locs → lv_has ls 7 [(0, .ref (g 52)), (1, .ref (g k1)), (2, .ref (g k2)), (3, .int x3), (4, .int x4), (5, .int x5), (6, .int x6)] → r13 k1 k2 x3 x4 x5 x6 S = some o → W p l e (rmd 2) s m args below meth c H locs 0 0 (gE below args s D (xtys cI cB cZ cQ) (xcell g cI cB cZ cQ) xord g (some (.int o.1)) o.2) (F0 m 13 ls [])) (hk_k1 : xk k1 = 9) (hk_k2 : xk k2 = 7) (X : gX D (xcell g cI cB cZ cQ) xord g S s H locs) (hl : lv_has ls 7 [(0, .ref (g 52)), (1, .ref (g k1)), (2, .ref (g k2)), (3, .int x3), (4, .int x4), (5, .int x5), (6, .int x6)]) (hF : fX6_bestOf_b35 N r13 k1 k2 x3 x4 x5 x6 S = some o) : W p l e (rmd 2) s m args below meth c H locs 0 0 (gE below args s D (xtys cI cB cZ cQ) (xcell g cI cB cZ cQ) xord g (some (.int o.1)) o.2) (F0 m 35 ls []) := by
  unfold fX6_bestOf_b35 at hF
  refine lv_iload C.1.1 C.1.2.1 dX6_bestOf_35 (lv_at hl 5 rfl) ?_
  refine lv_aload_n C.1.1 C.1.2.1 dX6_bestOf_37 rfl (lv_at hl 0 rfl) ?_
  refine lv_aload_n C.1.1 C.1.2.1 dX6_bestOf_38 rfl (lv_at hl 1 rfl) ?_
  refine lv_iload_n C.1.1 C.1.2.1 dX6_bestOf_39 rfl (lv_at hl 3 rfl) ?_
  refine lv_iload C.1.1 C.1.2.1 dX6_bestOf_40 (lv_at hl 6 rfl) ?_
  refine lv_iload C.1.1 C.1.2.1 dX6_bestOf_42 (lv_at hl 4 rfl) ?_
  obtain ⟨q1, hq1, hF⟩ := bnd_some hF
  refine x_callVi C X (k := 52) xv_X6_63 (rfl : xk 52 = 6) rfl rfl (by decide) (kX6_worthOf O C.2.2.2.2.1 N k1 x3 x6 x4 (hk_k1 : xk k1 = 9) S q1 hq1) (Nat.le_of_ble_eq_true rfl) (Nat.le_of_ble_eq_true rfl) (Nat.le_of_ble_eq_true rfl) (Nat.le_of_ble_eq_true rfl) rfl hl.1 rfl (Nat.le_of_ble_eq_true rfl) dX6_bestOf_44 (fun H locs X => ?_)
  refine g_max C hl.1 xMmax_X6_67 ⟨(Nat.le_of_ble_eq_true rfl), (Nat.le_of_ble_eq_true rfl)⟩ (Nat.le_of_ble_eq_true rfl) (Nat.le_of_ble_eq_true rfl) dX6_bestOf_47 ?_
  refine lv_istore (lv' := [(5, .int (if x5 < q1.1 then q1.1 else x5)), (0, .ref (g 52)), (1, .ref (g k1)), (2, .ref (g k2)), (3, .int x3), (4, .int x4), (6, .int x6)]) C.1.1 C.1.2.1 dX6_bestOf_50 hl (by decide) rfl (fun ls hl => ?_)
  exact bX6_bestOf_52 C O K13 (hk_k1 : xk k1 = 9) (hk_k2 : xk k2 = 7) X (lv_sub hl [1, 2, 3, 4, 5, 0, 6] rfl) hF
noncomputable def fX6_bestOf_b22 (N : Nat) (r13 : Nat → Nat → Int32 → Int32 → Int32 → Int32 → gS → Option (Int32 × gS)) (k1 : Nat) (k2 : Nat) (x3 : Int32) (x4 : Int32) (x5 : Int32) (x6 : Int32) (S : gS) : Option (Int32 × gS) := bnd (fX6_canHave N k1 k2 x3 x6 x4 S) fun q1 => (if q1.1 = 0 then fX6_bestOf_b52 N r13 k1 k2 x3 x4 x5 x6 q1.2 else fX6_bestOf_b35 N r13 k1 k2 x3 x4 x5 x6 q1.2)
theorem bX6_bestOf_22 {N : Nat} {r13 : Nat → Nat → Int32 → Int32 → Int32 → Int32 → gS → Option (Int32 × gS)} {k1 : Nat} {k2 : Nat} {x3 : Int32} {x4 : Int32} {x5 : Int32} {x6 : Int32} {S : gS} {H : Heap} {locs : List Loc} {ls : Array Slot} {o : Int32 × gS} (C : gC p s m args meth c cX6_bestOf 7 RX6 ((some .int)) D (xtys cI cB cZ cQ) xord g Am) (O : xO g cI cB cZ cQ Am) (K13 : ∀ (k1 : Nat) (k2 : Nat) (x3 : Int32) (x4 : Int32) (x5 : Int32) (x6 : Int32) (hk_k1 : xk k1 = 9) (hk_k2 : xk k2 = 7) (S : gS) (H : Heap) (locs : List Loc) (ls : Array Slot), gX D (xcell g cI cB cZ cQ) xord g S s H locs → lv_has ls 7 [(0, .ref (g 52)), (1, .ref (g k1)), (2, .ref (g k2)), (3, .int x3), (4, .int x4), (5, .int x5), (6, .int x6)] → r13 k1 k2 x3 x4 x5 x6 S = some o → W p l e (rmd 2) s m args below meth c H locs 0 0 (gE below args s D (xtys cI cB cZ cQ) (xcell g cI cB cZ cQ) xord g (some (.int o.1)) o.2) (F0 m 13 ls [])) (hk_k1 : xk k1 = 9) (hk_k2 : xk k2 = 7) (X : gX D (xcell g cI cB cZ cQ) xord g S s H locs) (hl : lv_has ls 7 [(0, .ref (g 52)), (1, .ref (g k1)), (2, .ref (g k2)), (3, .int x3), (4, .int x4), (5, .int x5), (6, .int x6)]) (hF : fX6_bestOf_b22 N r13 k1 k2 x3 x4 x5 x6 S = some o) : W p l e (rmd 2) s m args below meth c H locs 0 0 (gE below args s D (xtys cI cB cZ cQ) (xcell g cI cB cZ cQ) xord g (some (.int o.1)) o.2) (F0 m 22 ls []) := by
  unfold fX6_bestOf_b22 at hF
  refine lv_aload_n C.1.1 C.1.2.1 dX6_bestOf_22 rfl (lv_at hl 1 rfl) ?_
  refine lv_aload_n C.1.1 C.1.2.1 dX6_bestOf_23 rfl (lv_at hl 2 rfl) ?_
  refine lv_iload_n C.1.1 C.1.2.1 dX6_bestOf_24 rfl (lv_at hl 3 rfl) ?_
  refine lv_iload C.1.1 C.1.2.1 dX6_bestOf_25 (lv_at hl 6 rfl) ?_
  refine lv_iload C.1.1 C.1.2.1 dX6_bestOf_27 (lv_at hl 4 rfl) ?_
  obtain ⟨q1, hq1, hF⟩ := bnd_some hF
  refine g_callSi C X xv_X6_59 (kX6_canHave O C.2.2.2.2.1 N k1 k2 x3 x6 x4 (hk_k1 : xk k1 = 9) (hk_k2 : xk k2 = 7) S q1 hq1) (Nat.le_of_ble_eq_true rfl) (Nat.le_of_ble_eq_true rfl) (Nat.le_of_ble_eq_true rfl) (Nat.le_of_ble_eq_true rfl) rfl hl.1 rfl (Nat.le_of_ble_eq_true rfl) dX6_bestOf_29 (fun H locs X => ?_)
  refine lv_if_eq (tgt := 52) C.1.1 C.1.2.1 dX6_bestOf_32 (by decide) (fun h_z => ?_) (fun h_z => ?_)
  · rw [if_pos h_z] at hF
    exact bX6_bestOf_52 C O K13 (hk_k1 : xk k1 = 9) (hk_k2 : xk k2 = 7) X (lv_sub hl [0, 1, 2, 3, 4, 5, 6] rfl) hF
  · rw [if_neg h_z] at hF
    exact bX6_bestOf_35 C O K13 (hk_k1 : xk k1 = 9) (hk_k2 : xk k2 = 7) X (lv_sub hl [0, 1, 2, 3, 4, 5, 6] rfl) hF
noncomputable def fX6_bestOf_b13 (N : Nat) (r13 : Nat → Nat → Int32 → Int32 → Int32 → Int32 → gS → Option (Int32 × gS)) (k1 : Nat) (k2 : Nat) (x3 : Int32) (x4 : Int32) (x5 : Int32) (x6 : Int32) (S : gS) : Option (Int32 × gS) := if (S k1 0) ≤ x6 then fX6_bestOf_b58 N x5 S else fX6_bestOf_b22 N r13 k1 k2 x3 x4 x5 x6 S
theorem bX6_bestOf_13 {N : Nat} {r13 : Nat → Nat → Int32 → Int32 → Int32 → Int32 → gS → Option (Int32 × gS)} {k1 : Nat} {k2 : Nat} {x3 : Int32} {x4 : Int32} {x5 : Int32} {x6 : Int32} {S : gS} {H : Heap} {locs : List Loc} {ls : Array Slot} {o : Int32 × gS} (C : gC p s m args meth c cX6_bestOf 7 RX6 ((some .int)) D (xtys cI cB cZ cQ) xord g Am) (O : xO g cI cB cZ cQ Am) (K13 : ∀ (k1 : Nat) (k2 : Nat) (x3 : Int32) (x4 : Int32) (x5 : Int32) (x6 : Int32) (hk_k1 : xk k1 = 9) (hk_k2 : xk k2 = 7) (S : gS) (H : Heap) (locs : List Loc) (ls : Array Slot), gX D (xcell g cI cB cZ cQ) xord g S s H locs → lv_has ls 7 [(0, .ref (g 52)), (1, .ref (g k1)), (2, .ref (g k2)), (3, .int x3), (4, .int x4), (5, .int x5), (6, .int x6)] → r13 k1 k2 x3 x4 x5 x6 S = some o → W p l e (rmd 2) s m args below meth c H locs 0 0 (gE below args s D (xtys cI cB cZ cQ) (xcell g cI cB cZ cQ) xord g (some (.int o.1)) o.2) (F0 m 13 ls [])) (hk_k1 : xk k1 = 9) (hk_k2 : xk k2 = 7) (X : gX D (xcell g cI cB cZ cQ) xord g S s H locs) (hl : lv_has ls 7 [(0, .ref (g 52)), (1, .ref (g k1)), (2, .ref (g k2)), (3, .int x3), (4, .int x4), (5, .int x5), (6, .int x6)]) (hF : fX6_bestOf_b13 N r13 k1 k2 x3 x4 x5 x6 S = some o) : W p l e (rmd 2) s m args below meth c H locs 0 0 (gE below args s D (xtys cI cB cZ cQ) (xcell g cI cB cZ cQ) xord g (some (.int o.1)) o.2) (F0 m 13 ls []) := by
  unfold fX6_bestOf_b13 at hF
  refine lv_iload C.1.1 C.1.2.1 dX6_bestOf_13 (lv_at hl 6 rfl) ?_
  refine lv_aload_n C.1.1 C.1.2.1 dX6_bestOf_15 rfl (lv_at hl 1 rfl) ?_
  refine xg_X6_32 C O X (k := k1) hk_k1 dX6_bestOf_16 ?_
  refine lv_icmp_ge (tgt := 58) C.1.1 C.1.2.1 dX6_bestOf_19 (by decide) (fun h_z => ?_) (fun h_z => ?_)
  · rw [if_pos h_z] at hF
    exact bX6_bestOf_58 C O X (lv_sub hl [5] rfl) hF
  · rw [if_neg h_z] at hF
    exact bX6_bestOf_22 C O K13 (hk_k1 : xk k1 = 9) (hk_k2 : xk k2 = 7) X (lv_sub hl [0, 1, 2, 3, 4, 5, 6] rfl) hF
noncomputable def fX6_bestOf_h13 (N : Nat) : Nat → Nat → Nat → Int32 → Int32 → Int32 → Int32 → gS → Option (Int32 × gS)
  | 0, _, _, _, _, _, _, _ => none
  | n + 1, k1, k2, x3, x4, x5, x6, S => fX6_bestOf_b13 N (fX6_bestOf_h13 N n) k1 k2 x3 x4 x5 x6 S
theorem hX6_bestOf_13 {N : Nat} {o : Int32 × gS} (C : gC p s m args meth c cX6_bestOf 7 RX6 ((some .int)) D (xtys cI cB cZ cQ) xord g Am) (O : xO g cI cB cZ cQ Am) : ∀ (n : Nat) (k1 : Nat) (k2 : Nat) (x3 : Int32) (x4 : Int32) (x5 : Int32) (x6 : Int32) (hk_k1 : xk k1 = 9) (hk_k2 : xk k2 = 7) (S : gS) (H : Heap) (locs : List Loc) (ls : Array Slot), gX D (xcell g cI cB cZ cQ) xord g S s H locs → lv_has ls 7 [(0, .ref (g 52)), (1, .ref (g k1)), (2, .ref (g k2)), (3, .int x3), (4, .int x4), (5, .int x5), (6, .int x6)] → fX6_bestOf_h13 N n k1 k2 x3 x4 x5 x6 S = some o → W p l e (rmd 2) s m args below meth c H locs 0 0 (gE below args s D (xtys cI cB cZ cQ) (xcell g cI cB cZ cQ) xord g (some (.int o.1)) o.2) (F0 m 13 ls []) := by
  intro n
  induction n with
  | zero =>
    intro k1 k2 x3 x4 x5 x6 hk_k1 hk_k2 S H locs ls X hl hF
    exact absurd (show (none : Option (Int32 × gS)) = some o from hF) (by simp)
  | succ n ih =>
    intro k1 k2 x3 x4 x5 x6 hk_k1 hk_k2 S H locs ls X hl hF
    have hF : fX6_bestOf_b13 N (fX6_bestOf_h13 N n) k1 k2 x3 x4 x5 x6 S = some o := hF
    exact bX6_bestOf_13 C O ih hk_k1 hk_k2 X hl hF
noncomputable def fX6_bestOf_b0 (N : Nat) (k1 : Nat) (k2 : Nat) (x3 : Int32) (x4 : Int32) (S : gS) : Option (Int32 × gS) := bnd (fX6_behind N k1 x3 x4 S) fun q1 => (fX6_bestOf_h13 N N k1 k2 x3 x4 q1.1 0 q1.2)
theorem bX6_bestOf_0 {N : Nat} {k1 : Nat} {k2 : Nat} {x3 : Int32} {x4 : Int32} {S : gS} {H : Heap} {locs : List Loc} {ls : Array Slot} {o : Int32 × gS} (C : gC p s m args meth c cX6_bestOf 7 RX6 ((some .int)) D (xtys cI cB cZ cQ) xord g Am) (O : xO g cI cB cZ cQ Am) (hk_k1 : xk k1 = 9) (hk_k2 : xk k2 = 7) (X : gX D (xcell g cI cB cZ cQ) xord g S s H locs) (hl : lv_has ls 7 [(0, .ref (g 52)), (1, .ref (g k1)), (2, .ref (g k2)), (3, .int x3), (4, .int x4)]) (hF : fX6_bestOf_b0 N k1 k2 x3 x4 S = some o) : W p l e (rmd 2) s m args below meth c H locs 0 0 (gE below args s D (xtys cI cB cZ cQ) (xcell g cI cB cZ cQ) xord g (some (.int o.1)) o.2) (F0 m 0 ls []) := by
  unfold fX6_bestOf_b0 at hF
  refine lv_aload_n C.1.1 C.1.2.1 dX6_bestOf_0 rfl (lv_at hl 0 rfl) ?_
  refine lv_aload_n C.1.1 C.1.2.1 dX6_bestOf_1 rfl (lv_at hl 1 rfl) ?_
  refine lv_iload_n C.1.1 C.1.2.1 dX6_bestOf_2 rfl (lv_at hl 3 rfl) ?_
  refine lv_iload C.1.1 C.1.2.1 dX6_bestOf_3 (lv_at hl 4 rfl) ?_
  obtain ⟨q1, hq1, hF⟩ := bnd_some hF
  refine x_callVi C X (k := 52) xv_X6_55 (rfl : xk 52 = 6) rfl rfl (by decide) (kX6_behind O C.2.2.2.2.1 N k1 x3 x4 (hk_k1 : xk k1 = 9) S q1 hq1) (Nat.le_of_ble_eq_true rfl) (Nat.le_of_ble_eq_true rfl) (Nat.le_of_ble_eq_true rfl) (Nat.le_of_ble_eq_true rfl) rfl hl.1 rfl (Nat.le_of_ble_eq_true rfl) dX6_bestOf_5 (fun H locs X => ?_)
  refine lv_istore (lv' := [(5, .int q1.1), (0, .ref (g 52)), (1, .ref (g k1)), (2, .ref (g k2)), (3, .int x3), (4, .int x4)]) C.1.1 C.1.2.1 dX6_bestOf_8 hl (by decide) rfl (fun ls hl => ?_)
  refine lv_iconst (v := 0) C.1.1 C.1.2.1 dX6_bestOf_10 (by decide) ?_
  refine lv_istore (lv' := [(6, .int 0), (5, .int q1.1), (0, .ref (g 52)), (1, .ref (g k1)), (2, .ref (g k2)), (3, .int x3), (4, .int x4)]) C.1.1 C.1.2.1 dX6_bestOf_11 hl (by decide) rfl (fun ls hl => ?_)
  exact hX6_bestOf_13 C O N _ _ _ _ _ _ (hk_k1 : xk k1 = 9) (hk_k2 : xk k2 = 7) _ _ _ _ X (lv_sub hl [2, 3, 4, 5, 6, 1, 0] rfl) hF
noncomputable def fX6_bestOf (N : Nat) (k1 : Nat) (k2 : Nat) (x3 : Int32) (x4 : Int32) (S : gS) : Option (Int32 × gS) := fX6_bestOf_b0 N k1 k2 x3 x4 S
theorem kX6_bestOf {l : Launch} {D : va_G} {g : Nat → Nat} {cI cB cZ cQ : ClassId} {Am : (Nat → Prop) → State → Heap → Prop} (O : xO g cI cB cZ cQ Am) (P : gAm Am) (N : Nat) (k1 : Nat) (k2 : Nat) (x3 : Int32) (x4 : Int32) (hk_k1 : xk k1 = 9) (hk_k2 : xk k2 = 7) (S : gS) (o : Int32 × gS) (hF : fX6_bestOf N k1 k2 x3 x4 S = some o) : gM l yX6_bestOf cX6_bestOf 7 ((some .int)) 2 D (xtys cI cB cZ cQ) (xcell g cI cB cZ cQ) xord g Am [.ref (g 52), .ref (g k1), .ref (g k2), .int x3, .int x4] S (some (.int o.1)) o.2 :=
  gM_of O.1 P (by decide) (Nat.le_of_ble_eq_true rfl) (fun p e s m args below meth c ls C X hl => bX6_bestOf_0 C O hk_k1 hk_k2 X (lv_sub hl [0, 1, 2, 3, 4] rfl) hF)
-- X6.choice
noncomputable def fX6_choice_b56 (N : Nat) (S : gS) : Option (Int32 × gS) := some ((-1), S)
theorem bX6_choice_56 {N : Nat} {S : gS} {H : Heap} {locs : List Loc} {ls : Array Slot} {o : Int32 × gS} (C : gC p s m args meth c cX6_choice 6 RX6 ((some .int)) D (xtys cI cB cZ cQ) xord g Am) (O : xO g cI cB cZ cQ Am) (X : gX D (xcell g cI cB cZ cQ) xord g S s H locs) (hl : lv_has ls 6 []) (hF : fX6_choice_b56 N S = some o) : W p l e (rmd 2) s m args below meth c H locs 0 0 (gE below args s D (xtys cI cB cZ cQ) (xcell g cI cB cZ cQ) xord g (some (.int o.1)) o.2) (F0 m 56 ls []) := by
  unfold fX6_choice_b56 at hF
  refine lv_iconst (v := (-1)) C.1.1 C.1.2.1 dX6_choice_56 (by decide) ?_
  cases hF
  exact g_iret C X dX6_choice_57
noncomputable def fX6_choice_b50 (N : Nat) (r3 : Nat → Nat → Int32 → Int32 → Int32 → gS → Option (Int32 × gS)) (k1 : Nat) (k2 : Nat) (x3 : Int32) (x4 : Int32) (x5 : Int32) (S : gS) : Option (Int32 × gS) := r3 k1 k2 x3 x4 ((x5 + 1 : Int32)) S
theorem bX6_choice_50 {N : Nat} {r3 : Nat → Nat → Int32 → Int32 → Int32 → gS → Option (Int32 × gS)} {k1 : Nat} {k2 : Nat} {x3 : Int32} {x4 : Int32} {x5 : Int32} {S : gS} {H : Heap} {locs : List Loc} {ls : Array Slot} {o : Int32 × gS} (C : gC p s m args meth c cX6_choice 6 RX6 ((some .int)) D (xtys cI cB cZ cQ) xord g Am) (O : xO g cI cB cZ cQ Am) (K3 : ∀ (k1 : Nat) (k2 : Nat) (x3 : Int32) (x4 : Int32) (x5 : Int32) (hk_k1 : xk k1 = 9) (hk_k2 : xk k2 = 7) (S : gS) (H : Heap) (locs : List Loc) (ls : Array Slot), gX D (xcell g cI cB cZ cQ) xord g S s H locs → lv_has ls 6 [(0, .ref (g 52)), (1, .ref (g k1)), (2, .ref (g k2)), (3, .int x3), (4, .int x4), (5, .int x5)] → r3 k1 k2 x3 x4 x5 S = some o → W p l e (rmd 2) s m args below meth c H locs 0 0 (gE below args s D (xtys cI cB cZ cQ) (xcell g cI cB cZ cQ) xord g (some (.int o.1)) o.2) (F0 m 3 ls [])) (hk_k1 : xk k1 = 9) (hk_k2 : xk k2 = 7) (X : gX D (xcell g cI cB cZ cQ) xord g S s H locs) (hl : lv_has ls 6 [(0, .ref (g 52)), (1, .ref (g k1)), (2, .ref (g k2)), (3, .int x3), (4, .int x4), (5, .int x5)]) (hF : fX6_choice_b50 N r3 k1 k2 x3 x4 x5 S = some o) : W p l e (rmd 2) s m args below meth c H locs 0 0 (gE below args s D (xtys cI cB cZ cQ) (xcell g cI cB cZ cQ) xord g (some (.int o.1)) o.2) (F0 m 50 ls []) := by
  unfold fX6_choice_b50 at hF
  refine lv_iinc (v := (x5 + 1 : Int32)) (lv' := [(5, .int ((x5 + 1 : Int32))), (0, .ref (g 52)), (1, .ref (g k1)), (2, .ref (g k2)), (3, .int x3), (4, .int x4)]) C.1.1 C.1.2.1 dX6_choice_50 hl (k := 5) rfl rfl (by decide) rfl (fun ls hl => ?_)
  refine lv_goto (tgt := 3) C.1.1 C.1.2.1 dX6_choice_53 (by decide) ?_
  exact K3 _ _ _ _ _ (hk_k1 : xk k1 = 9) (hk_k2 : xk k2 = 7) _ _ _ _ X (lv_sub hl [1, 2, 3, 4, 5, 0] rfl) hF
noncomputable def fX6_choice_b47 (N : Nat) (x5 : Int32) (S : gS) : Option (Int32 × gS) := some (x5, S)
theorem bX6_choice_47 {N : Nat} {x5 : Int32} {S : gS} {H : Heap} {locs : List Loc} {ls : Array Slot} {o : Int32 × gS} (C : gC p s m args meth c cX6_choice 6 RX6 ((some .int)) D (xtys cI cB cZ cQ) xord g Am) (O : xO g cI cB cZ cQ Am) (X : gX D (xcell g cI cB cZ cQ) xord g S s H locs) (hl : lv_has ls 6 [(5, .int x5)]) (hF : fX6_choice_b47 N x5 S = some o) : W p l e (rmd 2) s m args below meth c H locs 0 0 (gE below args s D (xtys cI cB cZ cQ) (xcell g cI cB cZ cQ) xord g (some (.int o.1)) o.2) (F0 m 47 ls []) := by
  unfold fX6_choice_b47 at hF
  refine lv_iload C.1.1 C.1.2.1 dX6_choice_47 (lv_at hl 0 rfl) ?_
  cases hF
  exact g_iret C X dX6_choice_49
noncomputable def fX6_choice_b25 (N : Nat) (r3 : Nat → Nat → Int32 → Int32 → Int32 → gS → Option (Int32 × gS)) (k1 : Nat) (k2 : Nat) (x3 : Int32) (x4 : Int32) (x5 : Int32) (S : gS) : Option (Int32 × gS) := bnd (fX6_worthOf N k1 x3 x5 x4 S) fun q1 => (chk (inb x3 7) (lt (53 + 1 + Int32.toNatClampNeg x3) fun T1 => (chk (inb x4 256) (if q1.1 = (q1.2 T1 (Int32.toNatClampNeg x4)) then fX6_choice_b47 N x5 q1.2 else fX6_choice_b50 N r3 k1 k2 x3 x4 x5 q1.2))))
theorem bX6_choice_25 {N : Nat} {r3 : Nat → Nat → Int32 → Int32 → Int32 → gS → Option (Int32 × gS)} {k1 : Nat} {k2 : Nat} {x3 : Int32} {x4 : Int32} {x5 : Int32} {S : gS} {H : Heap} {locs : List Loc} {ls : Array Slot} {o : Int32 × gS} (C : gC p s m args meth c cX6_choice 6 RX6 ((some .int)) D (xtys cI cB cZ cQ) xord g Am) (O : xO g cI cB cZ cQ Am) (K3 : ∀ (k1 : Nat) (k2 : Nat) (x3 : Int32) (x4 : Int32) (x5 : Int32) (hk_k1 : xk k1 = 9) (hk_k2 : xk k2 = 7) (S : gS) (H : Heap) (locs : List Loc) (ls : Array Slot), gX D (xcell g cI cB cZ cQ) xord g S s H locs → lv_has ls 6 [(0, .ref (g 52)), (1, .ref (g k1)), (2, .ref (g k2)), (3, .int x3), (4, .int x4), (5, .int x5)] → r3 k1 k2 x3 x4 x5 S = some o → W p l e (rmd 2) s m args below meth c H locs 0 0 (gE below args s D (xtys cI cB cZ cQ) (xcell g cI cB cZ cQ) xord g (some (.int o.1)) o.2) (F0 m 3 ls [])) (hk_k1 : xk k1 = 9) (hk_k2 : xk k2 = 7) (X : gX D (xcell g cI cB cZ cQ) xord g S s H locs) (hl : lv_has ls 6 [(0, .ref (g 52)), (1, .ref (g k1)), (2, .ref (g k2)), (3, .int x3), (4, .int x4), (5, .int x5)]) (hF : fX6_choice_b25 N r3 k1 k2 x3 x4 x5 S = some o) : W p l e (rmd 2) s m args below meth c H locs 0 0 (gE below args s D (xtys cI cB cZ cQ) (xcell g cI cB cZ cQ) xord g (some (.int o.1)) o.2) (F0 m 25 ls []) := by
  unfold fX6_choice_b25 at hF
  refine lv_aload_n C.1.1 C.1.2.1 dX6_choice_25 rfl (lv_at hl 0 rfl) ?_
  refine lv_aload_n C.1.1 C.1.2.1 dX6_choice_26 rfl (lv_at hl 1 rfl) ?_
  refine lv_iload_n C.1.1 C.1.2.1 dX6_choice_27 rfl (lv_at hl 3 rfl) ?_
  refine lv_iload C.1.1 C.1.2.1 dX6_choice_28 (lv_at hl 5 rfl) ?_
  refine lv_iload C.1.1 C.1.2.1 dX6_choice_30 (lv_at hl 4 rfl) ?_
  obtain ⟨q1, hq1, hF⟩ := bnd_some hF
  refine x_callVi C X (k := 52) xv_X6_63 (rfl : xk 52 = 6) rfl rfl (by decide) (kX6_worthOf O C.2.2.2.2.1 N k1 x3 x5 x4 (hk_k1 : xk k1 = 9) S q1 hq1) (Nat.le_of_ble_eq_true rfl) (Nat.le_of_ble_eq_true rfl) (Nat.le_of_ble_eq_true rfl) (Nat.le_of_ble_eq_true rfl) rfl hl.1 rfl (Nat.le_of_ble_eq_true rfl) dX6_choice_32 (fun H locs X => ?_)
  refine lv_aload_n C.1.1 C.1.2.1 dX6_choice_35 rfl (lv_at hl 0 rfl) ?_
  refine xg_X6_13 C O X (k := 52) rfl (j := 53) rfl dX6_choice_36 ?_
  refine lv_iload_n C.1.1 C.1.2.1 dX6_choice_39 rfl (lv_at hl 3 rfl) ?_
  obtain ⟨h_1, hF⟩ := chk_some hF
  obtain ⟨T1, eT1, hF⟩ := lt_some hF
  have hk_T1 : xk T1 = 20 ∧ xN T1 = 256 := xq_53 (inb_vp h_1) eT1
  refine x_rQ C X (k := 53) rfl (n := 7) rfl (inb_vp h_1) eT1.symm dX6_choice_40 ?_
  refine lv_iload C.1.1 C.1.2.1 dX6_choice_41 (lv_at hl 4 rfl) ?_
  obtain ⟨h_2, hF⟩ := chk_some hF
  refine x_rI C X (k := T1) hk_T1.1 (n := 256) hk_T1.2  (inb_vp h_2) rfl dX6_choice_43 ?_
  refine lv_icmp_ne (tgt := 50) C.1.1 C.1.2.1 dX6_choice_44 (by decide) (fun h_z => ?_) (fun h_z => ?_)
  · rw [if_neg h_z] at hF
    exact bX6_choice_50 C O K3 (hk_k1 : xk k1 = 9) (hk_k2 : xk k2 = 7) X (lv_sub hl [0, 1, 2, 3, 4, 5] rfl) hF
  · rw [if_pos h_z] at hF
    exact bX6_choice_47 C O X (lv_sub hl [5] rfl) hF
noncomputable def fX6_choice_b12 (N : Nat) (r3 : Nat → Nat → Int32 → Int32 → Int32 → gS → Option (Int32 × gS)) (k1 : Nat) (k2 : Nat) (x3 : Int32) (x4 : Int32) (x5 : Int32) (S : gS) : Option (Int32 × gS) := bnd (fX6_canHave N k1 k2 x3 x5 x4 S) fun q1 => (if q1.1 = 0 then fX6_choice_b50 N r3 k1 k2 x3 x4 x5 q1.2 else fX6_choice_b25 N r3 k1 k2 x3 x4 x5 q1.2)
theorem bX6_choice_12 {N : Nat} {r3 : Nat → Nat → Int32 → Int32 → Int32 → gS → Option (Int32 × gS)} {k1 : Nat} {k2 : Nat} {x3 : Int32} {x4 : Int32} {x5 : Int32} {S : gS} {H : Heap} {locs : List Loc} {ls : Array Slot} {o : Int32 × gS} (C : gC p s m args meth c cX6_choice 6 RX6 ((some .int)) D (xtys cI cB cZ cQ) xord g Am) (O : xO g cI cB cZ cQ Am) (K3 : ∀ (k1 : Nat) (k2 : Nat) (x3 : Int32) (x4 : Int32) (x5 : Int32) (hk_k1 : xk k1 = 9) (hk_k2 : xk k2 = 7) (S : gS) (H : Heap) (locs : List Loc) (ls : Array Slot), gX D (xcell g cI cB cZ cQ) xord g S s H locs → lv_has ls 6 [(0, .ref (g 52)), (1, .ref (g k1)), (2, .ref (g k2)), (3, .int x3), (4, .int x4), (5, .int x5)] → r3 k1 k2 x3 x4 x5 S = some o → W p l e (rmd 2) s m args below meth c H locs 0 0 (gE below args s D (xtys cI cB cZ cQ) (xcell g cI cB cZ cQ) xord g (some (.int o.1)) o.2) (F0 m 3 ls [])) (hk_k1 : xk k1 = 9) (hk_k2 : xk k2 = 7) (X : gX D (xcell g cI cB cZ cQ) xord g S s H locs) (hl : lv_has ls 6 [(0, .ref (g 52)), (1, .ref (g k1)), (2, .ref (g k2)), (3, .int x3), (4, .int x4), (5, .int x5)]) (hF : fX6_choice_b12 N r3 k1 k2 x3 x4 x5 S = some o) : W p l e (rmd 2) s m args below meth c H locs 0 0 (gE below args s D (xtys cI cB cZ cQ) (xcell g cI cB cZ cQ) xord g (some (.int o.1)) o.2) (F0 m 12 ls []) := by
  unfold fX6_choice_b12 at hF
  refine lv_aload_n C.1.1 C.1.2.1 dX6_choice_12 rfl (lv_at hl 1 rfl) ?_
  refine lv_aload_n C.1.1 C.1.2.1 dX6_choice_13 rfl (lv_at hl 2 rfl) ?_
  refine lv_iload_n C.1.1 C.1.2.1 dX6_choice_14 rfl (lv_at hl 3 rfl) ?_
  refine lv_iload C.1.1 C.1.2.1 dX6_choice_15 (lv_at hl 5 rfl) ?_
  refine lv_iload C.1.1 C.1.2.1 dX6_choice_17 (lv_at hl 4 rfl) ?_
  obtain ⟨q1, hq1, hF⟩ := bnd_some hF
  refine g_callSi C X xv_X6_59 (kX6_canHave O C.2.2.2.2.1 N k1 k2 x3 x5 x4 (hk_k1 : xk k1 = 9) (hk_k2 : xk k2 = 7) S q1 hq1) (Nat.le_of_ble_eq_true rfl) (Nat.le_of_ble_eq_true rfl) (Nat.le_of_ble_eq_true rfl) (Nat.le_of_ble_eq_true rfl) rfl hl.1 rfl (Nat.le_of_ble_eq_true rfl) dX6_choice_19 (fun H locs X => ?_)
  refine lv_if_eq (tgt := 50) C.1.1 C.1.2.1 dX6_choice_22 (by decide) (fun h_z => ?_) (fun h_z => ?_)
  · rw [if_pos h_z] at hF
    exact bX6_choice_50 C O K3 (hk_k1 : xk k1 = 9) (hk_k2 : xk k2 = 7) X (lv_sub hl [0, 1, 2, 3, 4, 5] rfl) hF
  · rw [if_neg h_z] at hF
    exact bX6_choice_25 C O K3 (hk_k1 : xk k1 = 9) (hk_k2 : xk k2 = 7) X (lv_sub hl [0, 1, 2, 3, 4, 5] rfl) hF
noncomputable def fX6_choice_b3 (N : Nat) (r3 : Nat → Nat → Int32 → Int32 → Int32 → gS → Option (Int32 × gS)) (k1 : Nat) (k2 : Nat) (x3 : Int32) (x4 : Int32) (x5 : Int32) (S : gS) : Option (Int32 × gS) := if (S k1 0) ≤ x5 then fX6_choice_b56 N S else fX6_choice_b12 N r3 k1 k2 x3 x4 x5 S
theorem bX6_choice_3 {N : Nat} {r3 : Nat → Nat → Int32 → Int32 → Int32 → gS → Option (Int32 × gS)} {k1 : Nat} {k2 : Nat} {x3 : Int32} {x4 : Int32} {x5 : Int32} {S : gS} {H : Heap} {locs : List Loc} {ls : Array Slot} {o : Int32 × gS} (C : gC p s m args meth c cX6_choice 6 RX6 ((some .int)) D (xtys cI cB cZ cQ) xord g Am) (O : xO g cI cB cZ cQ Am) (K3 : ∀ (k1 : Nat) (k2 : Nat) (x3 : Int32) (x4 : Int32) (x5 : Int32) (hk_k1 : xk k1 = 9) (hk_k2 : xk k2 = 7) (S : gS) (H : Heap) (locs : List Loc) (ls : Array Slot), gX D (xcell g cI cB cZ cQ) xord g S s H locs → lv_has ls 6 [(0, .ref (g 52)), (1, .ref (g k1)), (2, .ref (g k2)), (3, .int x3), (4, .int x4), (5, .int x5)] → r3 k1 k2 x3 x4 x5 S = some o → W p l e (rmd 2) s m args below meth c H locs 0 0 (gE below args s D (xtys cI cB cZ cQ) (xcell g cI cB cZ cQ) xord g (some (.int o.1)) o.2) (F0 m 3 ls [])) (hk_k1 : xk k1 = 9) (hk_k2 : xk k2 = 7) (X : gX D (xcell g cI cB cZ cQ) xord g S s H locs) (hl : lv_has ls 6 [(0, .ref (g 52)), (1, .ref (g k1)), (2, .ref (g k2)), (3, .int x3), (4, .int x4), (5, .int x5)]) (hF : fX6_choice_b3 N r3 k1 k2 x3 x4 x5 S = some o) : W p l e (rmd 2) s m args below meth c H locs 0 0 (gE below args s D (xtys cI cB cZ cQ) (xcell g cI cB cZ cQ) xord g (some (.int o.1)) o.2) (F0 m 3 ls []) := by
  unfold fX6_choice_b3 at hF
  refine lv_iload C.1.1 C.1.2.1 dX6_choice_3 (lv_at hl 5 rfl) ?_
  refine lv_aload_n C.1.1 C.1.2.1 dX6_choice_5 rfl (lv_at hl 1 rfl) ?_
  refine xg_X6_32 C O X (k := k1) hk_k1 dX6_choice_6 ?_
  refine lv_icmp_ge (tgt := 56) C.1.1 C.1.2.1 dX6_choice_9 (by decide) (fun h_z => ?_) (fun h_z => ?_)
  · rw [if_pos h_z] at hF
    exact bX6_choice_56 C O X (lv_sub hl [] rfl) hF
  · rw [if_neg h_z] at hF
    exact bX6_choice_12 C O K3 (hk_k1 : xk k1 = 9) (hk_k2 : xk k2 = 7) X (lv_sub hl [0, 1, 2, 3, 4, 5] rfl) hF
noncomputable def fX6_choice_h3 (N : Nat) : Nat → Nat → Nat → Int32 → Int32 → Int32 → gS → Option (Int32 × gS)
  | 0, _, _, _, _, _, _ => none
  | n + 1, k1, k2, x3, x4, x5, S => fX6_choice_b3 N (fX6_choice_h3 N n) k1 k2 x3 x4 x5 S
theorem hX6_choice_3 {N : Nat} {o : Int32 × gS} (C : gC p s m args meth c cX6_choice 6 RX6 ((some .int)) D (xtys cI cB cZ cQ) xord g Am) (O : xO g cI cB cZ cQ Am) : ∀ (n : Nat) (k1 : Nat) (k2 : Nat) (x3 : Int32) (x4 : Int32) (x5 : Int32) (hk_k1 : xk k1 = 9) (hk_k2 : xk k2 = 7) (S : gS) (H : Heap) (locs : List Loc) (ls : Array Slot), gX D (xcell g cI cB cZ cQ) xord g S s H locs → lv_has ls 6 [(0, .ref (g 52)), (1, .ref (g k1)), (2, .ref (g k2)), (3, .int x3), (4, .int x4), (5, .int x5)] → fX6_choice_h3 N n k1 k2 x3 x4 x5 S = some o → W p l e (rmd 2) s m args below meth c H locs 0 0 (gE below args s D (xtys cI cB cZ cQ) (xcell g cI cB cZ cQ) xord g (some (.int o.1)) o.2) (F0 m 3 ls []) := by
  intro n
  induction n with
  | zero =>
    intro k1 k2 x3 x4 x5 hk_k1 hk_k2 S H locs ls X hl hF
    exact absurd (show (none : Option (Int32 × gS)) = some o from hF) (by simp)
  | succ n ih =>
    intro k1 k2 x3 x4 x5 hk_k1 hk_k2 S H locs ls X hl hF
    have hF : fX6_choice_b3 N (fX6_choice_h3 N n) k1 k2 x3 x4 x5 S = some o := hF
    exact bX6_choice_3 C O ih hk_k1 hk_k2 X hl hF
noncomputable def fX6_choice_b0 (N : Nat) (k1 : Nat) (k2 : Nat) (x3 : Int32) (x4 : Int32) (S : gS) : Option (Int32 × gS) := fX6_choice_h3 N N k1 k2 x3 x4 0 S
theorem bX6_choice_0 {N : Nat} {k1 : Nat} {k2 : Nat} {x3 : Int32} {x4 : Int32} {S : gS} {H : Heap} {locs : List Loc} {ls : Array Slot} {o : Int32 × gS} (C : gC p s m args meth c cX6_choice 6 RX6 ((some .int)) D (xtys cI cB cZ cQ) xord g Am) (O : xO g cI cB cZ cQ Am) (hk_k1 : xk k1 = 9) (hk_k2 : xk k2 = 7) (X : gX D (xcell g cI cB cZ cQ) xord g S s H locs) (hl : lv_has ls 6 [(0, .ref (g 52)), (1, .ref (g k1)), (2, .ref (g k2)), (3, .int x3), (4, .int x4)]) (hF : fX6_choice_b0 N k1 k2 x3 x4 S = some o) : W p l e (rmd 2) s m args below meth c H locs 0 0 (gE below args s D (xtys cI cB cZ cQ) (xcell g cI cB cZ cQ) xord g (some (.int o.1)) o.2) (F0 m 0 ls []) := by
  unfold fX6_choice_b0 at hF
  refine lv_iconst (v := 0) C.1.1 C.1.2.1 dX6_choice_0 (by decide) ?_
  refine lv_istore (lv' := [(5, .int 0), (0, .ref (g 52)), (1, .ref (g k1)), (2, .ref (g k2)), (3, .int x3), (4, .int x4)]) C.1.1 C.1.2.1 dX6_choice_1 hl (by decide) rfl (fun ls hl => ?_)
  exact hX6_choice_3 C O N _ _ _ _ _ (hk_k1 : xk k1 = 9) (hk_k2 : xk k2 = 7) _ _ _ _ X (lv_sub hl [1, 2, 3, 4, 5, 0] rfl) hF
noncomputable def fX6_choice (N : Nat) (k1 : Nat) (k2 : Nat) (x3 : Int32) (x4 : Int32) (S : gS) : Option (Int32 × gS) := fX6_choice_b0 N k1 k2 x3 x4 S
theorem kX6_choice {l : Launch} {D : va_G} {g : Nat → Nat} {cI cB cZ cQ : ClassId} {Am : (Nat → Prop) → State → Heap → Prop} (O : xO g cI cB cZ cQ Am) (P : gAm Am) (N : Nat) (k1 : Nat) (k2 : Nat) (x3 : Int32) (x4 : Int32) (hk_k1 : xk k1 = 9) (hk_k2 : xk k2 = 7) (S : gS) (o : Int32 × gS) (hF : fX6_choice N k1 k2 x3 x4 S = some o) : gM l yX6_choice cX6_choice 6 ((some .int)) 2 D (xtys cI cB cZ cQ) (xcell g cI cB cZ cQ) xord g Am [.ref (g 52), .ref (g k1), .ref (g k2), .int x3, .int x4] S (some (.int o.1)) o.2 :=
  gM_of O.1 P (by decide) (Nat.le_of_ble_eq_true rfl) (fun p e s m args below meth c ls C X hl => bX6_choice_0 C O hk_k1 hk_k2 X (lv_sub hl [0, 1, 2, 3, 4] rfl) hF)
-- X10.passHour
noncomputable def fX10_passHour_b181 (N : Nat) (x4 : Int32) (S : gS) : Option (Int32 × gS) := lt (sU S 51 5 (((S 51 5) + 1 : Int32))) fun S1 => (chk (zb x4) (some (x4, S1)))
theorem bX10_passHour_181 {N : Nat} {x4 : Int32} {S : gS} {H : Heap} {locs : List Loc} {ls : Array Slot} {o : Int32 × gS} (C : gC p s m args meth c cX10_passHour 5 RX10 ((some .boolean)) D (xtys cI cB cZ cQ) xord g Am) (O : xO g cI cB cZ cQ Am) (X : gX D (xcell g cI cB cZ cQ) xord g S s H locs) (hl : lv_has ls 5 [(0, .ref (g 51)), (4, .int x4)]) (hF : fX10_passHour_b181 N x4 S = some o) : W p l e (rmd 3) s m args below meth c H locs 0 0 (gE below args s D (xtys cI cB cZ cQ) (xcell g cI cB cZ cQ) xord g (some (.int o.1)) o.2) (F0 m 181 ls []) := by
  unfold fX10_passHour_b181 at hF
  refine lv_aload_n C.1.1 C.1.2.1 dX10_passHour_181 rfl (lv_at hl 0 rfl) ?_
  refine lv_dup C.1.1 C.1.2.1 dX10_passHour_182 rfl ?_
  refine xg_X10_27 C O X (k := 51) rfl dX10_passHour_183 ?_
  refine lv_iconst (v := 1) C.1.1 C.1.2.1 dX10_passHour_186 (by decide) ?_
  refine lv_iadd C.1.1 C.1.2.1 dX10_passHour_187 ?_
  obtain ⟨S1, eS1, hF⟩ := lt_some hF
  refine xp_X10_27 C O X (k := 51) rfl eS1 dX10_passHour_188 (fun H locs X => ?_)
  refine lv_iload C.1.1 C.1.2.1 dX10_passHour_191 (lv_at hl 1 rfl) ?_
  obtain ⟨h_1, hF⟩ := chk_some hF
  cases hF
  exact g_zret C X h_1 dX10_passHour_193
noncomputable def fX10_passHour_b155 (N : Nat) (x4 : Int32) (S : gS) : Option (Int32 × gS) := lt (sU S 51 2 (((S 51 2) / 2 : Int32))) fun S1 => (lt (sU S1 51 3 (if (((S1 51 3) + 1 : Int32)) < 999 then (((S1 51 3) + 1 : Int32)) else 999)) fun S2 => (fX10_passHour_b181 N x4 S2))
theorem bX10_passHour_155 {N : Nat} {x4 : Int32} {S : gS} {H : Heap} {locs : List Loc} {ls : Array Slot} {o : Int32 × gS} (C : gC p s m args meth c cX10_passHour 5 RX10 ((some .boolean)) D (xtys cI cB cZ cQ) xord g Am) (O : xO g cI cB cZ cQ Am) (X : gX D (xcell g cI cB cZ cQ) xord g S s H locs) (hl : lv_has ls 5 [(0, .ref (g 51)), (4, .int x4)]) (hF : fX10_passHour_b155 N x4 S = some o) : W p l e (rmd 3) s m args below meth c H locs 0 0 (gE below args s D (xtys cI cB cZ cQ) (xcell g cI cB cZ cQ) xord g (some (.int o.1)) o.2) (F0 m 155 ls []) := by
  unfold fX10_passHour_b155 at hF
  refine lv_aload_n C.1.1 C.1.2.1 dX10_passHour_155 rfl (lv_at hl 0 rfl) ?_
  refine lv_dup C.1.1 C.1.2.1 dX10_passHour_156 rfl ?_
  refine xg_X10_18 C O X (k := 51) rfl dX10_passHour_157 ?_
  refine lv_iconst (v := 2) C.1.1 C.1.2.1 dX10_passHour_160 (by decide) ?_
  refine lv_idiv C.1.1 C.1.2.1 dX10_passHour_161 (by decide) ?_
  obtain ⟨S1, eS1, hF⟩ := lt_some hF
  refine xp_X10_18 C O X (k := 51) rfl eS1 dX10_passHour_162 (fun H locs X => ?_)
  refine lv_aload_n C.1.1 C.1.2.1 dX10_passHour_165 rfl (lv_at hl 0 rfl) ?_
  refine lv_sipush (v := 999) C.1.1 C.1.2.1 dX10_passHour_166 (by decide) ?_
  refine lv_aload_n C.1.1 C.1.2.1 dX10_passHour_169 rfl (lv_at hl 0 rfl) ?_
  refine xg_X10_21 C O X (k := 51) rfl dX10_passHour_170 ?_
  refine lv_iconst (v := 1) C.1.1 C.1.2.1 dX10_passHour_173 (by decide) ?_
  refine lv_iadd C.1.1 C.1.2.1 dX10_passHour_174 ?_
  refine g_min C hl.1 xMmin_X10_80 ⟨(Nat.le_of_ble_eq_true rfl), (Nat.le_of_ble_eq_true rfl)⟩ (Nat.le_of_ble_eq_true rfl) (Nat.le_of_ble_eq_true rfl) dX10_passHour_175 ?_
  obtain ⟨S2, eS2, hF⟩ := lt_some hF
  refine xp_X10_21 C O X (k := 51) rfl eS2 dX10_passHour_178 (fun H locs X => ?_)
  exact bX10_passHour_181 C O X (lv_sub hl [0, 1] rfl) hF
noncomputable def fX10_passHour_b148 (N : Nat) (t0 : Int32) (S : gS) : Option (Int32 × gS) := if t0 = 0 then fX10_passHour_b181 N t0 S else fX10_passHour_b155 N t0 S
theorem bX10_passHour_148 {N : Nat} {t0 : Int32} {S : gS} {H : Heap} {locs : List Loc} {ls : Array Slot} {o : Int32 × gS} (C : gC p s m args meth c cX10_passHour 5 RX10 ((some .boolean)) D (xtys cI cB cZ cQ) xord g Am) (O : xO g cI cB cZ cQ Am) (X : gX D (xcell g cI cB cZ cQ) xord g S s H locs) (hl : lv_has ls 5 [(0, .ref (g 51))]) (hF : fX10_passHour_b148 N t0 S = some o) : W p l e (rmd 3) s m args below meth c H locs 0 0 (gE below args s D (xtys cI cB cZ cQ) (xcell g cI cB cZ cQ) xord g (some (.int o.1)) o.2) (F0 m 148 ls [.int t0]) := by
  unfold fX10_passHour_b148 at hF
  refine lv_istore (lv' := [(4, .int t0), (0, .ref (g 51))]) C.1.1 C.1.2.1 dX10_passHour_148 hl (by decide) rfl (fun ls hl => ?_)
  refine lv_iload C.1.1 C.1.2.1 dX10_passHour_150 (lv_at hl 0 rfl) ?_
  refine lv_if_eq (tgt := 181) C.1.1 C.1.2.1 dX10_passHour_152 (by decide) (fun h_z => ?_) (fun h_z => ?_)
  · rw [if_pos h_z] at hF
    exact bX10_passHour_181 C O X (lv_sub hl [1, 0] rfl) hF
  · rw [if_neg h_z] at hF
    exact bX10_passHour_155 C O X (lv_sub hl [1, 0] rfl) hF
noncomputable def fX10_passHour_b147 (N : Nat) (S : gS) : Option (Int32 × gS) := fX10_passHour_b148 N 0 S
theorem bX10_passHour_147 {N : Nat} {S : gS} {H : Heap} {locs : List Loc} {ls : Array Slot} {o : Int32 × gS} (C : gC p s m args meth c cX10_passHour 5 RX10 ((some .boolean)) D (xtys cI cB cZ cQ) xord g Am) (O : xO g cI cB cZ cQ Am) (X : gX D (xcell g cI cB cZ cQ) xord g S s H locs) (hl : lv_has ls 5 [(0, .ref (g 51))]) (hF : fX10_passHour_b147 N S = some o) : W p l e (rmd 3) s m args below meth c H locs 0 0 (gE below args s D (xtys cI cB cZ cQ) (xcell g cI cB cZ cQ) xord g (some (.int o.1)) o.2) (F0 m 147 ls []) := by
  unfold fX10_passHour_b147 at hF
  refine lv_iconst (v := 0) C.1.1 C.1.2.1 dX10_passHour_147 (by decide) ?_
  exact bX10_passHour_148 C O X (lv_sub hl [0] rfl) hF
noncomputable def fX10_passHour_b143 (N : Nat) (S : gS) : Option (Int32 × gS) := fX10_passHour_b148 N 1 S
theorem bX10_passHour_143 {N : Nat} {S : gS} {H : Heap} {locs : List Loc} {ls : Array Slot} {o : Int32 × gS} (C : gC p s m args meth c cX10_passHour 5 RX10 ((some .boolean)) D (xtys cI cB cZ cQ) xord g Am) (O : xO g cI cB cZ cQ Am) (X : gX D (xcell g cI cB cZ cQ) xord g S s H locs) (hl : lv_has ls 5 [(0, .ref (g 51))]) (hF : fX10_passHour_b143 N S = some o) : W p l e (rmd 3) s m args below meth c H locs 0 0 (gE below args s D (xtys cI cB cZ cQ) (xcell g cI cB cZ cQ) xord g (some (.int o.1)) o.2) (F0 m 143 ls []) := by
  unfold fX10_passHour_b143 at hF
  refine lv_iconst (v := 1) C.1.1 C.1.2.1 dX10_passHour_143 (by decide) ?_
  refine lv_goto (tgt := 148) C.1.1 C.1.2.1 dX10_passHour_144 (by decide) ?_
  exact bX10_passHour_148 C O X (lv_sub hl [0] rfl) hF
noncomputable def fX10_passHour_b132 (N : Nat) (k1 : Nat) (S : gS) : Option (Int32 × gS) := bnd (fX9_mostSin N k1 S) fun q1 => (if (S 51 1) ≤ q1.1 then fX10_passHour_b147 N q1.2 else fX10_passHour_b143 N q1.2)
theorem bX10_passHour_132 {N : Nat} {k1 : Nat} {S : gS} {H : Heap} {locs : List Loc} {ls : Array Slot} {o : Int32 × gS} (C : gC p s m args meth c cX10_passHour 5 RX10 ((some .boolean)) D (xtys cI cB cZ cQ) xord g Am) (O : xO g cI cB cZ cQ Am) (hk_k1 : xk k1 = 9) (X : gX D (xcell g cI cB cZ cQ) xord g S s H locs) (hl : lv_has ls 5 [(0, .ref (g 51)), (1, .ref (g k1))]) (hF : fX10_passHour_b132 N k1 S = some o) : W p l e (rmd 3) s m args below meth c H locs 0 0 (gE below args s D (xtys cI cB cZ cQ) (xcell g cI cB cZ cQ) xord g (some (.int o.1)) o.2) (F0 m 132 ls []) := by
  unfold fX10_passHour_b132 at hF
  refine lv_aload_n C.1.1 C.1.2.1 dX10_passHour_132 rfl (lv_at hl 0 rfl) ?_
  refine xg_X10_15 C O X (k := 51) rfl dX10_passHour_133 ?_
  refine lv_aload_n C.1.1 C.1.2.1 dX10_passHour_136 rfl (lv_at hl 1 rfl) ?_
  obtain ⟨q1, hq1, hF⟩ := bnd_some hF
  refine x_callVi C X (k := k1) xv_X10_90 hk_k1 rfl rfl (by decide) (kX9_mostSin O C.2.2.2.2.1 N k1 (hk_k1 : xk k1 = 9) S q1 hq1) (Nat.le_of_ble_eq_true rfl) (Nat.le_of_ble_eq_true rfl) (Nat.le_of_ble_eq_true rfl) (Nat.le_of_ble_eq_true rfl) rfl hl.1 rfl (Nat.le_of_ble_eq_true rfl) dX10_passHour_137 (fun H locs X => ?_)
  refine lv_icmp_le (tgt := 147) C.1.1 C.1.2.1 dX10_passHour_140 (by decide) (fun h_z => ?_) (fun h_z => ?_)
  · rw [if_pos h_z] at hF
    exact bX10_passHour_147 C O X (lv_sub hl [0] rfl) hF
  · rw [if_neg h_z] at hF
    exact bX10_passHour_143 C O X (lv_sub hl [0] rfl) hF
noncomputable def fX10_passHour_b127 (N : Nat) (k1 : Nat) (S : gS) : Option (Int32 × gS) := lt (sU S 51 4 ((-1))) fun S1 => (fX10_passHour_b132 N k1 S1)
theorem bX10_passHour_127 {N : Nat} {k1 : Nat} {S : gS} {H : Heap} {locs : List Loc} {ls : Array Slot} {o : Int32 × gS} (C : gC p s m args meth c cX10_passHour 5 RX10 ((some .boolean)) D (xtys cI cB cZ cQ) xord g Am) (O : xO g cI cB cZ cQ Am) (hk_k1 : xk k1 = 9) (X : gX D (xcell g cI cB cZ cQ) xord g S s H locs) (hl : lv_has ls 5 [(0, .ref (g 51)), (1, .ref (g k1))]) (hF : fX10_passHour_b127 N k1 S = some o) : W p l e (rmd 3) s m args below meth c H locs 0 0 (gE below args s D (xtys cI cB cZ cQ) (xcell g cI cB cZ cQ) xord g (some (.int o.1)) o.2) (F0 m 127 ls []) := by
  unfold fX10_passHour_b127 at hF
  refine lv_aload_n C.1.1 C.1.2.1 dX10_passHour_127 rfl (lv_at hl 0 rfl) ?_
  refine lv_iconst (v := (-1)) C.1.1 C.1.2.1 dX10_passHour_128 (by decide) ?_
  obtain ⟨S1, eS1, hF⟩ := lt_some hF
  refine xp_X10_24 C O X (k := 51) rfl eS1 dX10_passHour_129 (fun H locs X => ?_)
  exact bX10_passHour_132 C O (hk_k1 : xk k1 = 9) X (lv_sub hl [0, 1] rfl) hF
noncomputable def fX10_passHour_b114 (N : Nat) (k1 : Nat) (x3 : Int32) (S : gS) : Option (Int32 × gS) := lt (sU S 51 2 (((S 51 2) - x3 : Int32))) fun S1 => (fX10_passHour_b132 N k1 S1)
theorem bX10_passHour_114 {N : Nat} {k1 : Nat} {x3 : Int32} {S : gS} {H : Heap} {locs : List Loc} {ls : Array Slot} {o : Int32 × gS} (C : gC p s m args meth c cX10_passHour 5 RX10 ((some .boolean)) D (xtys cI cB cZ cQ) xord g Am) (O : xO g cI cB cZ cQ Am) (hk_k1 : xk k1 = 9) (X : gX D (xcell g cI cB cZ cQ) xord g S s H locs) (hl : lv_has ls 5 [(0, .ref (g 51)), (1, .ref (g k1)), (3, .int x3)]) (hF : fX10_passHour_b114 N k1 x3 S = some o) : W p l e (rmd 3) s m args below meth c H locs 0 0 (gE below args s D (xtys cI cB cZ cQ) (xcell g cI cB cZ cQ) xord g (some (.int o.1)) o.2) (F0 m 114 ls []) := by
  unfold fX10_passHour_b114 at hF
  refine lv_aload_n C.1.1 C.1.2.1 dX10_passHour_114 rfl (lv_at hl 0 rfl) ?_
  refine lv_dup C.1.1 C.1.2.1 dX10_passHour_115 rfl ?_
  refine xg_X10_18 C O X (k := 51) rfl dX10_passHour_116 ?_
  refine lv_iload_n C.1.1 C.1.2.1 dX10_passHour_119 rfl (lv_at hl 2 rfl) ?_
  refine lv_isub C.1.1 C.1.2.1 dX10_passHour_120 ?_
  obtain ⟨S1, eS1, hF⟩ := lt_some hF
  refine xp_X10_18 C O X (k := 51) rfl eS1 dX10_passHour_121 (fun H locs X => ?_)
  refine lv_goto (tgt := 132) C.1.1 C.1.2.1 dX10_passHour_124 (by decide) ?_
  exact bX10_passHour_132 C O (hk_k1 : xk k1 = 9) X (lv_sub hl [0, 1] rfl) hF
noncomputable def fX10_passHour_b61 (N : Nat) (k1 : Nat) (S : gS) : Option (Int32 × gS) := lt (sU S 51 2 (if (((S 51 2) + ((3 * (S 51 0) : Int32)) : Int32)) < 999 then (((S 51 2) + ((3 * (S 51 0) : Int32)) : Int32)) else 999)) fun S1 => (lt (sU S1 51 1 (if (((S1 51 1) + (S1 51 0) : Int32)) < 99 then (((S1 51 1) + (S1 51 0) : Int32)) else 99)) fun S2 => (bnd (fX10_cost N k1 S2) fun q1 => (if (q1.2 51 2) < q1.1 then fX10_passHour_b127 N k1 q1.2 else fX10_passHour_b114 N k1 q1.1 q1.2)))
theorem bX10_passHour_61 {N : Nat} {k1 : Nat} {S : gS} {H : Heap} {locs : List Loc} {ls : Array Slot} {o : Int32 × gS} (C : gC p s m args meth c cX10_passHour 5 RX10 ((some .boolean)) D (xtys cI cB cZ cQ) xord g Am) (O : xO g cI cB cZ cQ Am) (hk_k1 : xk k1 = 9) (X : gX D (xcell g cI cB cZ cQ) xord g S s H locs) (hl : lv_has ls 5 [(0, .ref (g 51)), (1, .ref (g k1))]) (hF : fX10_passHour_b61 N k1 S = some o) : W p l e (rmd 3) s m args below meth c H locs 0 0 (gE below args s D (xtys cI cB cZ cQ) (xcell g cI cB cZ cQ) xord g (some (.int o.1)) o.2) (F0 m 61 ls []) := by
  unfold fX10_passHour_b61 at hF
  refine lv_aload_n C.1.1 C.1.2.1 dX10_passHour_61 rfl (lv_at hl 0 rfl) ?_
  refine lv_sipush (v := 999) C.1.1 C.1.2.1 dX10_passHour_62 (by decide) ?_
  refine lv_aload_n C.1.1 C.1.2.1 dX10_passHour_65 rfl (lv_at hl 0 rfl) ?_
  refine xg_X10_18 C O X (k := 51) rfl dX10_passHour_66 ?_
  refine lv_iconst (v := 3) C.1.1 C.1.2.1 dX10_passHour_69 (by decide) ?_
  refine lv_aload_n C.1.1 C.1.2.1 dX10_passHour_70 rfl (lv_at hl 0 rfl) ?_
  refine xg_X10_9 C O X (k := 51) rfl dX10_passHour_71 ?_
  refine lv_imul C.1.1 C.1.2.1 dX10_passHour_74 ?_
  refine lv_iadd C.1.1 C.1.2.1 dX10_passHour_75 ?_
  refine g_min C hl.1 xMmin_X10_80 ⟨(Nat.le_of_ble_eq_true rfl), (Nat.le_of_ble_eq_true rfl)⟩ (Nat.le_of_ble_eq_true rfl) (Nat.le_of_ble_eq_true rfl) dX10_passHour_76 ?_
  obtain ⟨S1, eS1, hF⟩ := lt_some hF
  refine xp_X10_18 C O X (k := 51) rfl eS1 dX10_passHour_79 (fun H locs X => ?_)
  refine lv_aload_n C.1.1 C.1.2.1 dX10_passHour_82 rfl (lv_at hl 0 rfl) ?_
  refine lv_bipush (v := 99) C.1.1 C.1.2.1 dX10_passHour_83 (by decide) ?_
  refine lv_aload_n C.1.1 C.1.2.1 dX10_passHour_85 rfl (lv_at hl 0 rfl) ?_
  refine xg_X10_15 C O X (k := 51) rfl dX10_passHour_86 ?_
  refine lv_aload_n C.1.1 C.1.2.1 dX10_passHour_89 rfl (lv_at hl 0 rfl) ?_
  refine xg_X10_9 C O X (k := 51) rfl dX10_passHour_90 ?_
  refine lv_iadd C.1.1 C.1.2.1 dX10_passHour_93 ?_
  refine g_min C hl.1 xMmin_X10_80 ⟨(Nat.le_of_ble_eq_true rfl), (Nat.le_of_ble_eq_true rfl)⟩ (Nat.le_of_ble_eq_true rfl) (Nat.le_of_ble_eq_true rfl) dX10_passHour_94 ?_
  obtain ⟨S2, eS2, hF⟩ := lt_some hF
  refine xp_X10_15 C O X (k := 51) rfl eS2 dX10_passHour_97 (fun H locs X => ?_)
  refine lv_aload_n C.1.1 C.1.2.1 dX10_passHour_100 rfl (lv_at hl 0 rfl) ?_
  refine lv_aload_n C.1.1 C.1.2.1 dX10_passHour_101 rfl (lv_at hl 1 rfl) ?_
  obtain ⟨q1, hq1, hF⟩ := bnd_some hF
  refine x_callVi C X (k := 51) xv_X10_86 (rfl : xk 51 = 10) rfl rfl (by decide) (kX10_cost O C.2.2.2.2.1 N k1 (hk_k1 : xk k1 = 9) S2 q1 hq1) (Nat.le_of_ble_eq_true rfl) (Nat.le_of_ble_eq_true rfl) (Nat.le_of_ble_eq_true rfl) (Nat.le_of_ble_eq_true rfl) rfl hl.1 rfl (Nat.le_of_ble_eq_true rfl) dX10_passHour_102 (fun H locs X => ?_)
  refine lv_istore_n (lv' := [(3, .int q1.1), (0, .ref (g 51)), (1, .ref (g k1))]) C.1.1 C.1.2.1 dX10_passHour_105 rfl hl (by decide) rfl (fun ls hl => ?_)
  refine lv_aload_n C.1.1 C.1.2.1 dX10_passHour_106 rfl (lv_at hl 1 rfl) ?_
  refine xg_X10_18 C O X (k := 51) rfl dX10_passHour_107 ?_
  refine lv_iload_n C.1.1 C.1.2.1 dX10_passHour_110 rfl (lv_at hl 0 rfl) ?_
  refine lv_icmp_lt (tgt := 127) C.1.1 C.1.2.1 dX10_passHour_111 (by decide) (fun h_z => ?_) (fun h_z => ?_)
  · rw [if_pos h_z] at hF
    exact bX10_passHour_127 C O (hk_k1 : xk k1 = 9) X (lv_sub hl [1, 2] rfl) hF
  · rw [if_neg h_z] at hF
    exact bX10_passHour_114 C O (hk_k1 : xk k1 = 9) X (lv_sub hl [1, 2, 0] rfl) hF
noncomputable def fX10_passHour_b56 (N : Nat) (k1 : Nat) (S : gS) : Option (Int32 × gS) := bnd (fX10_pray N k1 S) fun q1 => (fX10_passHour_b61 N k1 q1.2)
theorem bX10_passHour_56 {N : Nat} {k1 : Nat} {S : gS} {H : Heap} {locs : List Loc} {ls : Array Slot} {o : Int32 × gS} (C : gC p s m args meth c cX10_passHour 5 RX10 ((some .boolean)) D (xtys cI cB cZ cQ) xord g Am) (O : xO g cI cB cZ cQ Am) (hk_k1 : xk k1 = 9) (X : gX D (xcell g cI cB cZ cQ) xord g S s H locs) (hl : lv_has ls 5 [(0, .ref (g 51)), (1, .ref (g k1))]) (hF : fX10_passHour_b56 N k1 S = some o) : W p l e (rmd 3) s m args below meth c H locs 0 0 (gE below args s D (xtys cI cB cZ cQ) (xcell g cI cB cZ cQ) xord g (some (.int o.1)) o.2) (F0 m 56 ls []) := by
  unfold fX10_passHour_b56 at hF
  refine lv_aload_n C.1.1 C.1.2.1 dX10_passHour_56 rfl (lv_at hl 0 rfl) ?_
  refine lv_aload_n C.1.1 C.1.2.1 dX10_passHour_57 rfl (lv_at hl 1 rfl) ?_
  obtain ⟨q1, hq1, hF⟩ := bnd_some hF
  refine x_callV C X (k := 51) xv_X10_72 (rfl : xk 51 = 10) rfl rfl (by decide) (kX10_pray O C.2.2.2.2.1 N k1 (hk_k1 : xk k1 = 9) S q1 hq1) (Nat.le_of_ble_eq_true rfl) (Nat.le_of_ble_eq_true rfl) (Nat.le_of_ble_eq_true rfl) (Nat.le_of_ble_eq_true rfl) rfl hl.1 rfl (Nat.le_of_ble_eq_true rfl) dX10_passHour_58 (fun H locs X => ?_)
  exact bX10_passHour_61 C O (hk_k1 : xk k1 = 9) X (lv_sub hl [0, 1] rfl) hF
noncomputable def fX10_passHour_b39 (N : Nat) (k1 : Nat) (S : gS) : Option (Int32 × gS) := bnd (fX10_pray N k1 S) fun q1 => (chk (inb (q1.2 51 4) 8) (if (q1.2 (k1 + 4) (Int32.toNatClampNeg (q1.2 51 4))) = 0 then fX10_passHour_b61 N k1 q1.2 else fX10_passHour_b56 N k1 q1.2))
theorem bX10_passHour_39 {N : Nat} {k1 : Nat} {S : gS} {H : Heap} {locs : List Loc} {ls : Array Slot} {o : Int32 × gS} (C : gC p s m args meth c cX10_passHour 5 RX10 ((some .boolean)) D (xtys cI cB cZ cQ) xord g Am) (O : xO g cI cB cZ cQ Am) (hk_k1 : xk k1 = 9) (X : gX D (xcell g cI cB cZ cQ) xord g S s H locs) (hl : lv_has ls 5 [(0, .ref (g 51)), (1, .ref (g k1))]) (hF : fX10_passHour_b39 N k1 S = some o) : W p l e (rmd 3) s m args below meth c H locs 0 0 (gE below args s D (xtys cI cB cZ cQ) (xcell g cI cB cZ cQ) xord g (some (.int o.1)) o.2) (F0 m 39 ls []) := by
  unfold fX10_passHour_b39 at hF
  refine lv_aload_n C.1.1 C.1.2.1 dX10_passHour_39 rfl (lv_at hl 0 rfl) ?_
  refine lv_aload_n C.1.1 C.1.2.1 dX10_passHour_40 rfl (lv_at hl 1 rfl) ?_
  obtain ⟨q1, hq1, hF⟩ := bnd_some hF
  refine x_callV C X (k := 51) xv_X10_72 (rfl : xk 51 = 10) rfl rfl (by decide) (kX10_pray O C.2.2.2.2.1 N k1 (hk_k1 : xk k1 = 9) S q1 hq1) (Nat.le_of_ble_eq_true rfl) (Nat.le_of_ble_eq_true rfl) (Nat.le_of_ble_eq_true rfl) (Nat.le_of_ble_eq_true rfl) rfl hl.1 rfl (Nat.le_of_ble_eq_true rfl) dX10_passHour_41 (fun H locs X => ?_)
  refine lv_aload_n C.1.1 C.1.2.1 dX10_passHour_44 rfl (lv_at hl 1 rfl) ?_
  refine xg_X10_76 C O X (k := k1) hk_k1 (j := k1 + 4) rfl dX10_passHour_45 ?_
  refine lv_aload_n C.1.1 C.1.2.1 dX10_passHour_48 rfl (lv_at hl 0 rfl) ?_
  refine xg_X10_24 C O X (k := 51) rfl dX10_passHour_49 ?_
  obtain ⟨h_1, hF⟩ := chk_some hF
  refine x_rZ C X (k := k1 + 4) (xs_9_4 hk_k1).1 (n := 8) (xs_9_4 hk_k1).2  (inb_vp h_1) rfl dX10_passHour_52 ?_
  refine lv_if_eq (tgt := 61) C.1.1 C.1.2.1 dX10_passHour_53 (by decide) (fun h_z => ?_) (fun h_z => ?_)
  · rw [if_pos h_z] at hF
    exact bX10_passHour_61 C O (hk_k1 : xk k1 = 9) X (lv_sub hl [0, 1] rfl) hF
  · rw [if_neg h_z] at hF
    exact bX10_passHour_56 C O (hk_k1 : xk k1 = 9) X (lv_sub hl [0, 1] rfl) hF
noncomputable def fX10_passHour_b16 (N : Nat) (k1 : Nat) (S : gS) : Option (Int32 × gS) := bnd (fX9_drips N k1 (S 51 4) (S 51 5) (S 51 6) (S 51 7) S) fun q1 => (if q1.1 = 0 then fX10_passHour_b61 N k1 q1.2 else fX10_passHour_b39 N k1 q1.2)
theorem bX10_passHour_16 {N : Nat} {k1 : Nat} {S : gS} {H : Heap} {locs : List Loc} {ls : Array Slot} {o : Int32 × gS} (C : gC p s m args meth c cX10_passHour 5 RX10 ((some .boolean)) D (xtys cI cB cZ cQ) xord g Am) (O : xO g cI cB cZ cQ Am) (hk_k1 : xk k1 = 9) (X : gX D (xcell g cI cB cZ cQ) xord g S s H locs) (hl : lv_has ls 5 [(0, .ref (g 51)), (1, .ref (g k1))]) (hF : fX10_passHour_b16 N k1 S = some o) : W p l e (rmd 3) s m args below meth c H locs 0 0 (gE below args s D (xtys cI cB cZ cQ) (xcell g cI cB cZ cQ) xord g (some (.int o.1)) o.2) (F0 m 16 ls []) := by
  unfold fX10_passHour_b16 at hF
  refine lv_aload_n C.1.1 C.1.2.1 dX10_passHour_16 rfl (lv_at hl 1 rfl) ?_
  refine lv_aload_n C.1.1 C.1.2.1 dX10_passHour_17 rfl (lv_at hl 0 rfl) ?_
  refine xg_X10_24 C O X (k := 51) rfl dX10_passHour_18 ?_
  refine lv_aload_n C.1.1 C.1.2.1 dX10_passHour_21 rfl (lv_at hl 0 rfl) ?_
  refine xg_X10_27 C O X (k := 51) rfl dX10_passHour_22 ?_
  refine lv_aload_n C.1.1 C.1.2.1 dX10_passHour_25 rfl (lv_at hl 0 rfl) ?_
  refine xg_X10_30 C O X (k := 51) rfl dX10_passHour_26 ?_
  refine lv_aload_n C.1.1 C.1.2.1 dX10_passHour_29 rfl (lv_at hl 0 rfl) ?_
  refine xg_X10_33 C O X (k := 51) rfl dX10_passHour_30 ?_
  obtain ⟨q1, hq1, hF⟩ := bnd_some hF
  refine x_callVi C X (k := k1) xv_X10_68 hk_k1 rfl rfl (by decide) (kX9_drips O C.2.2.2.2.1 N k1 (S 51 4) (S 51 5) (S 51 6) (S 51 7) (hk_k1 : xk k1 = 9) S q1 hq1) (Nat.le_of_ble_eq_true rfl) (Nat.le_of_ble_eq_true rfl) (Nat.le_of_ble_eq_true rfl) (Nat.le_of_ble_eq_true rfl) rfl hl.1 rfl (Nat.le_of_ble_eq_true rfl) dX10_passHour_33 (fun H locs X => ?_)
  refine lv_if_eq (tgt := 61) C.1.1 C.1.2.1 dX10_passHour_36 (by decide) (fun h_z => ?_) (fun h_z => ?_)
  · rw [if_pos h_z] at hF
    exact bX10_passHour_61 C O (hk_k1 : xk k1 = 9) X (lv_sub hl [0, 1] rfl) hF
  · rw [if_neg h_z] at hF
    exact bX10_passHour_39 C O (hk_k1 : xk k1 = 9) X (lv_sub hl [0, 1] rfl) hF
noncomputable def fX10_passHour_b0 (N : Nat) (k1 : Nat) (x2 : Int32) (S : gS) : Option (Int32 × gS) := lt (sU S 51 6 x2) fun S1 => (bnd (fX9_isGrotto N k1 (S1 51 4) S1) fun q1 => (if q1.1 = 0 then fX10_passHour_b61 N k1 q1.2 else fX10_passHour_b16 N k1 q1.2))
theorem bX10_passHour_0 {N : Nat} {k1 : Nat} {x2 : Int32} {S : gS} {H : Heap} {locs : List Loc} {ls : Array Slot} {o : Int32 × gS} (C : gC p s m args meth c cX10_passHour 5 RX10 ((some .boolean)) D (xtys cI cB cZ cQ) xord g Am) (O : xO g cI cB cZ cQ Am) (hk_k1 : xk k1 = 9) (X : gX D (xcell g cI cB cZ cQ) xord g S s H locs) (hl : lv_has ls 5 [(0, .ref (g 51)), (1, .ref (g k1)), (2, .int x2)]) (hF : fX10_passHour_b0 N k1 x2 S = some o) : W p l e (rmd 3) s m args below meth c H locs 0 0 (gE below args s D (xtys cI cB cZ cQ) (xcell g cI cB cZ cQ) xord g (some (.int o.1)) o.2) (F0 m 0 ls []) := by
  unfold fX10_passHour_b0 at hF
  refine lv_aload_n C.1.1 C.1.2.1 dX10_passHour_0 rfl (lv_at hl 0 rfl) ?_
  refine lv_iload_n C.1.1 C.1.2.1 dX10_passHour_1 rfl (lv_at hl 2 rfl) ?_
  obtain ⟨S1, eS1, hF⟩ := lt_some hF
  refine xp_X10_30 C O X (k := 51) rfl eS1 dX10_passHour_2 (fun H locs X => ?_)
  refine lv_aload_n C.1.1 C.1.2.1 dX10_passHour_5 rfl (lv_at hl 1 rfl) ?_
  refine lv_aload_n C.1.1 C.1.2.1 dX10_passHour_6 rfl (lv_at hl 0 rfl) ?_
  refine xg_X10_24 C O X (k := 51) rfl dX10_passHour_7 ?_
  obtain ⟨q1, hq1, hF⟩ := bnd_some hF
  refine x_callVi C X (k := k1) xv_X10_65 hk_k1 rfl rfl (by decide) (kX9_isGrotto O C.2.2.2.2.1 N k1 (S1 51 4) (hk_k1 : xk k1 = 9) S1 q1 hq1) (Nat.le_of_ble_eq_true rfl) (Nat.le_of_ble_eq_true rfl) (Nat.le_of_ble_eq_true rfl) (Nat.le_of_ble_eq_true rfl) rfl hl.1 rfl (Nat.le_of_ble_eq_true rfl) dX10_passHour_10 (fun H locs X => ?_)
  refine lv_if_eq (tgt := 61) C.1.1 C.1.2.1 dX10_passHour_13 (by decide) (fun h_z => ?_) (fun h_z => ?_)
  · rw [if_pos h_z] at hF
    exact bX10_passHour_61 C O (hk_k1 : xk k1 = 9) X (lv_sub hl [0, 1] rfl) hF
  · rw [if_neg h_z] at hF
    exact bX10_passHour_16 C O (hk_k1 : xk k1 = 9) X (lv_sub hl [0, 1] rfl) hF
noncomputable def fX10_passHour (N : Nat) (k1 : Nat) (x2 : Int32) (S : gS) : Option (Int32 × gS) := fX10_passHour_b0 N k1 x2 S
theorem kX10_passHour {l : Launch} {D : va_G} {g : Nat → Nat} {cI cB cZ cQ : ClassId} {Am : (Nat → Prop) → State → Heap → Prop} (O : xO g cI cB cZ cQ Am) (P : gAm Am) (N : Nat) (k1 : Nat) (x2 : Int32) (hk_k1 : xk k1 = 9) (S : gS) (o : Int32 × gS) (hF : fX10_passHour N k1 x2 S = some o) : gM l yX10_passHour cX10_passHour 5 ((some .boolean)) 3 D (xtys cI cB cZ cQ) (xcell g cI cB cZ cQ) xord g Am [.ref (g 51), .ref (g k1), .int x2] S (some (.int o.1)) o.2 :=
  gM_of O.1 P (by decide) (Nat.le_of_ble_eq_true rfl) (fun p e s m args below meth c ls C X hl => bX10_passHour_0 C O hk_k1 X (lv_sub hl [0, 1, 2] rfl) hF)
-- X11.passHour
noncomputable def fX11_passHour_b65 (N : Nat) (k1 : Nat) (x3 : Int32) (S : gS) : Option (Int32 × gS) := lt (sU S k1 0 (((S k1 0) + 1 : Int32))) fun S1 => (some (x3, S1))
theorem bX11_passHour_65 {N : Nat} {k1 : Nat} {x3 : Int32} {S : gS} {H : Heap} {locs : List Loc} {ls : Array Slot} {o : Int32 × gS} (C : gC p s m args meth c cX11_passHour 5 RX11 ((some .int)) D (xtys cI cB cZ cQ) xord g Am) (O : xO g cI cB cZ cQ Am) (hk_k1 : xk k1 = 7) (X : gX D (xcell g cI cB cZ cQ) xord g S s H locs) (hl : lv_has ls 5 [(1, .ref (g k1)), (3, .int x3)]) (hF : fX11_passHour_b65 N k1 x3 S = some o) : W p l e (rmd 4) s m args below meth c H locs 0 0 (gE below args s D (xtys cI cB cZ cQ) (xcell g cI cB cZ cQ) xord g (some (.int o.1)) o.2) (F0 m 65 ls []) := by
  unfold fX11_passHour_b65 at hF
  refine lv_aload_n C.1.1 C.1.2.1 dX11_passHour_65 rfl (lv_at hl 0 rfl) ?_
  refine lv_dup C.1.1 C.1.2.1 dX11_passHour_66 rfl ?_
  refine xg_X11_114 C O X (k := k1) hk_k1 dX11_passHour_67 ?_
  refine lv_iconst (v := 1) C.1.1 C.1.2.1 dX11_passHour_70 (by decide) ?_
  refine lv_iadd C.1.1 C.1.2.1 dX11_passHour_71 ?_
  obtain ⟨S1, eS1, hF⟩ := lt_some hF
  refine xp_X11_114 C O X (k := k1) hk_k1 eS1 dX11_passHour_72 (fun H locs X => ?_)
  refine lv_iload_n C.1.1 C.1.2.1 dX11_passHour_75 rfl (lv_at hl 1 rfl) ?_
  cases hF
  exact g_iret C X dX11_passHour_76
noncomputable def fX11_passHour_b49 (N : Nat) (r5 : Nat → Int32 → Int32 → Int32 → gS → Option (Int32 × gS)) (k1 : Nat) (x2 : Int32) (x3 : Int32) (x4 : Int32) (S : gS) : Option (Int32 × gS) := bnd (fX10_end N k1 x4 S) fun q1 => (r5 k1 x2 x3 ((x4 + 1 : Int32)) q1.2)
theorem bX11_passHour_49 {N : Nat} {r5 : Nat → Int32 → Int32 → Int32 → gS → Option (Int32 × gS)} {k1 : Nat} {x2 : Int32} {x3 : Int32} {x4 : Int32} {S : gS} {H : Heap} {locs : List Loc} {ls : Array Slot} {o : Int32 × gS} (C : gC p s m args meth c cX11_passHour 5 RX11 ((some .int)) D (xtys cI cB cZ cQ) xord g Am) (O : xO g cI cB cZ cQ Am) (K5 : ∀ (k1 : Nat) (x2 : Int32) (x3 : Int32) (x4 : Int32) (hk_k1 : xk k1 = 7) (S : gS) (H : Heap) (locs : List Loc) (ls : Array Slot), gX D (xcell g cI cB cZ cQ) xord g S s H locs → lv_has ls 5 [(0, .ref (g 0)), (1, .ref (g k1)), (2, .int x2), (3, .int x3), (4, .int x4)] → r5 k1 x2 x3 x4 S = some o → W p l e (rmd 4) s m args below meth c H locs 0 0 (gE below args s D (xtys cI cB cZ cQ) (xcell g cI cB cZ cQ) xord g (some (.int o.1)) o.2) (F0 m 5 ls [])) (hk_k1 : xk k1 = 7) (X : gX D (xcell g cI cB cZ cQ) xord g S s H locs) (hl : lv_has ls 5 [(0, .ref (g 0)), (1, .ref (g k1)), (2, .int x2), (3, .int x3), (4, .int x4)]) (hF : fX11_passHour_b49 N r5 k1 x2 x3 x4 S = some o) : W p l e (rmd 4) s m args below meth c H locs 0 0 (gE below args s D (xtys cI cB cZ cQ) (xcell g cI cB cZ cQ) xord g (some (.int o.1)) o.2) (F0 m 49 ls []) := by
  unfold fX11_passHour_b49 at hF
  refine lv_aload_n C.1.1 C.1.2.1 dX11_passHour_49 rfl (lv_at hl 0 rfl) ?_
  refine xg_X11_36 C O X (k := 0) rfl (j := 51) rfl dX11_passHour_50 ?_
  refine lv_aload_n C.1.1 C.1.2.1 dX11_passHour_53 rfl (lv_at hl 1 rfl) ?_
  refine lv_iload C.1.1 C.1.2.1 dX11_passHour_54 (lv_at hl 4 rfl) ?_
  obtain ⟨q1, hq1, hF⟩ := bnd_some hF
  refine x_callV C X (k := 51) xv_X11_388 (rfl : xk 51 = 10) rfl rfl (by decide) (kX10_end O C.2.2.2.2.1 N k1 x4 (hk_k1 : xk k1 = 7) S q1 hq1) (Nat.le_of_ble_eq_true rfl) (Nat.le_of_ble_eq_true rfl) (Nat.le_of_ble_eq_true rfl) (Nat.le_of_ble_eq_true rfl) rfl hl.1 rfl (Nat.le_of_ble_eq_true rfl) dX11_passHour_56 (fun H locs X => ?_)
  refine lv_iinc (v := (x4 + 1 : Int32)) (lv' := [(4, .int ((x4 + 1 : Int32))), (0, .ref (g 0)), (1, .ref (g k1)), (2, .int x2), (3, .int x3)]) C.1.1 C.1.2.1 dX11_passHour_59 hl (k := 4) rfl rfl (by decide) rfl (fun ls hl => ?_)
  refine lv_goto (tgt := 5) C.1.1 C.1.2.1 dX11_passHour_62 (by decide) ?_
  exact K5 _ _ _ _ (hk_k1 : xk k1 = 7) _ _ _ _ X (lv_sub hl [1, 2, 3, 4, 0] rfl) hF
noncomputable def fX11_passHour_b46 (N : Nat) (r5 : Nat → Int32 → Int32 → Int32 → gS → Option (Int32 × gS)) (k1 : Nat) (x2 : Int32) (x3 : Int32) (x4 : Int32) (S : gS) : Option (Int32 × gS) := fX11_passHour_b49 N r5 k1 x2 ((x3 + 1 : Int32)) x4 S
theorem bX11_passHour_46 {N : Nat} {r5 : Nat → Int32 → Int32 → Int32 → gS → Option (Int32 × gS)} {k1 : Nat} {x2 : Int32} {x3 : Int32} {x4 : Int32} {S : gS} {H : Heap} {locs : List Loc} {ls : Array Slot} {o : Int32 × gS} (C : gC p s m args meth c cX11_passHour 5 RX11 ((some .int)) D (xtys cI cB cZ cQ) xord g Am) (O : xO g cI cB cZ cQ Am) (K5 : ∀ (k1 : Nat) (x2 : Int32) (x3 : Int32) (x4 : Int32) (hk_k1 : xk k1 = 7) (S : gS) (H : Heap) (locs : List Loc) (ls : Array Slot), gX D (xcell g cI cB cZ cQ) xord g S s H locs → lv_has ls 5 [(0, .ref (g 0)), (1, .ref (g k1)), (2, .int x2), (3, .int x3), (4, .int x4)] → r5 k1 x2 x3 x4 S = some o → W p l e (rmd 4) s m args below meth c H locs 0 0 (gE below args s D (xtys cI cB cZ cQ) (xcell g cI cB cZ cQ) xord g (some (.int o.1)) o.2) (F0 m 5 ls [])) (hk_k1 : xk k1 = 7) (X : gX D (xcell g cI cB cZ cQ) xord g S s H locs) (hl : lv_has ls 5 [(0, .ref (g 0)), (1, .ref (g k1)), (2, .int x2), (3, .int x3), (4, .int x4)]) (hF : fX11_passHour_b46 N r5 k1 x2 x3 x4 S = some o) : W p l e (rmd 4) s m args below meth c H locs 0 0 (gE below args s D (xtys cI cB cZ cQ) (xcell g cI cB cZ cQ) xord g (some (.int o.1)) o.2) (F0 m 46 ls []) := by
  unfold fX11_passHour_b46 at hF
  refine lv_iinc (v := (x3 + 1 : Int32)) (lv' := [(3, .int ((x3 + 1 : Int32))), (0, .ref (g 0)), (1, .ref (g k1)), (2, .int x2), (4, .int x4)]) C.1.1 C.1.2.1 dX11_passHour_46 hl (k := 3) rfl rfl (by decide) rfl (fun ls hl => ?_)
  exact bX11_passHour_49 C O K5 (hk_k1 : xk k1 = 7) X (lv_sub hl [1, 2, 3, 0, 4] rfl) hF
noncomputable def fX11_passHour_b17 (N : Nat) (r5 : Nat → Int32 → Int32 → Int32 → gS → Option (Int32 × gS)) (k1 : Nat) (x2 : Int32) (x3 : Int32) (x4 : Int32) (S : gS) : Option (Int32 × gS) := lt (xtw S) fun T1 => (bnd (fX10_begin N T1 k1 x4 S) fun q1 => (lt (xtw q1.2) fun T2 => (bnd (fX10_passHour N T2 x2 q1.2) fun q2 => (if q2.1 = 0 then fX11_passHour_b49 N r5 k1 x2 x3 x4 q2.2 else fX11_passHour_b46 N r5 k1 x2 x3 x4 q2.2))))
theorem bX11_passHour_17 {N : Nat} {r5 : Nat → Int32 → Int32 → Int32 → gS → Option (Int32 × gS)} {k1 : Nat} {x2 : Int32} {x3 : Int32} {x4 : Int32} {S : gS} {H : Heap} {locs : List Loc} {ls : Array Slot} {o : Int32 × gS} (C : gC p s m args meth c cX11_passHour 5 RX11 ((some .int)) D (xtys cI cB cZ cQ) xord g Am) (O : xO g cI cB cZ cQ Am) (K5 : ∀ (k1 : Nat) (x2 : Int32) (x3 : Int32) (x4 : Int32) (hk_k1 : xk k1 = 7) (S : gS) (H : Heap) (locs : List Loc) (ls : Array Slot), gX D (xcell g cI cB cZ cQ) xord g S s H locs → lv_has ls 5 [(0, .ref (g 0)), (1, .ref (g k1)), (2, .int x2), (3, .int x3), (4, .int x4)] → r5 k1 x2 x3 x4 S = some o → W p l e (rmd 4) s m args below meth c H locs 0 0 (gE below args s D (xtys cI cB cZ cQ) (xcell g cI cB cZ cQ) xord g (some (.int o.1)) o.2) (F0 m 5 ls [])) (hk_k1 : xk k1 = 7) (X : gX D (xcell g cI cB cZ cQ) xord g S s H locs) (hl : lv_has ls 5 [(0, .ref (g 0)), (1, .ref (g k1)), (2, .int x2), (3, .int x3), (4, .int x4)]) (hF : fX11_passHour_b17 N r5 k1 x2 x3 x4 S = some o) : W p l e (rmd 4) s m args below meth c H locs 0 0 (gE below args s D (xtys cI cB cZ cQ) (xcell g cI cB cZ cQ) xord g (some (.int o.1)) o.2) (F0 m 17 ls []) := by
  unfold fX11_passHour_b17 at hF
  refine lv_aload_n C.1.1 C.1.2.1 dX11_passHour_17 rfl (lv_at hl 0 rfl) ?_
  refine xg_X11_36 C O X (k := 0) rfl (j := 51) rfl dX11_passHour_18 ?_
  refine lv_aload_n C.1.1 C.1.2.1 dX11_passHour_21 rfl (lv_at hl 0 rfl) ?_
  obtain ⟨T1, eT1, hF⟩ := lt_some hF
  have hk_T1 := xtw_k eT1
  refine xg_X11_57 C O X (T := T1) eT1 (k := 0) rfl dX11_passHour_22 ?_
  refine lv_aload_n C.1.1 C.1.2.1 dX11_passHour_25 rfl (lv_at hl 1 rfl) ?_
  refine lv_iload C.1.1 C.1.2.1 dX11_passHour_26 (lv_at hl 4 rfl) ?_
  obtain ⟨q1, hq1, hF⟩ := bnd_some hF
  refine x_callV C X (k := 51) xv_X11_243 (rfl : xk 51 = 10) rfl rfl (by decide) (kX10_begin O C.2.2.2.2.1 N T1 k1 x4 (hk_T1 : xk T1 = 9) (hk_k1 : xk k1 = 7) S q1 hq1) (Nat.le_of_ble_eq_true rfl) (Nat.le_of_ble_eq_true rfl) (Nat.le_of_ble_eq_true rfl) (Nat.le_of_ble_eq_true rfl) rfl hl.1 rfl (Nat.le_of_ble_eq_true rfl) dX11_passHour_28 (fun H locs X => ?_)
  refine lv_aload_n C.1.1 C.1.2.1 dX11_passHour_31 rfl (lv_at hl 0 rfl) ?_
  refine xg_X11_36 C O X (k := 0) rfl (j := 51) rfl dX11_passHour_32 ?_
  refine lv_aload_n C.1.1 C.1.2.1 dX11_passHour_35 rfl (lv_at hl 0 rfl) ?_
  obtain ⟨T2, eT2, hF⟩ := lt_some hF
  have hk_T2 := xtw_k eT2
  refine xg_X11_57 C O X (T := T2) eT2 (k := 0) rfl dX11_passHour_36 ?_
  refine lv_iload_n C.1.1 C.1.2.1 dX11_passHour_39 rfl (lv_at hl 2 rfl) ?_
  obtain ⟨q2, hq2, hF⟩ := bnd_some hF
  refine x_callVi C X (k := 51) xv_X11_262 (rfl : xk 51 = 10) rfl rfl (by decide) (kX10_passHour O C.2.2.2.2.1 N T2 x2 (hk_T2 : xk T2 = 9) q1.2 q2 hq2) (Nat.le_of_ble_eq_true rfl) (Nat.le_of_ble_eq_true rfl) (Nat.le_of_ble_eq_true rfl) (Nat.le_of_ble_eq_true rfl) rfl hl.1 rfl (Nat.le_of_ble_eq_true rfl) dX11_passHour_40 (fun H locs X => ?_)
  refine lv_if_eq (tgt := 49) C.1.1 C.1.2.1 dX11_passHour_43 (by decide) (fun h_z => ?_) (fun h_z => ?_)
  · rw [if_pos h_z] at hF
    exact bX11_passHour_49 C O K5 (hk_k1 : xk k1 = 7) X (lv_sub hl [0, 1, 2, 3, 4] rfl) hF
  · rw [if_neg h_z] at hF
    exact bX11_passHour_46 C O K5 (hk_k1 : xk k1 = 7) X (lv_sub hl [0, 1, 2, 3, 4] rfl) hF
noncomputable def fX11_passHour_b5 (N : Nat) (r5 : Nat → Int32 → Int32 → Int32 → gS → Option (Int32 × gS)) (k1 : Nat) (x2 : Int32) (x3 : Int32) (x4 : Int32) (S : gS) : Option (Int32 × gS) := lt (xtw S) fun T1 => (if (S T1 5) ≤ x4 then fX11_passHour_b65 N k1 x3 S else fX11_passHour_b17 N r5 k1 x2 x3 x4 S)
theorem bX11_passHour_5 {N : Nat} {r5 : Nat → Int32 → Int32 → Int32 → gS → Option (Int32 × gS)} {k1 : Nat} {x2 : Int32} {x3 : Int32} {x4 : Int32} {S : gS} {H : Heap} {locs : List Loc} {ls : Array Slot} {o : Int32 × gS} (C : gC p s m args meth c cX11_passHour 5 RX11 ((some .int)) D (xtys cI cB cZ cQ) xord g Am) (O : xO g cI cB cZ cQ Am) (K5 : ∀ (k1 : Nat) (x2 : Int32) (x3 : Int32) (x4 : Int32) (hk_k1 : xk k1 = 7) (S : gS) (H : Heap) (locs : List Loc) (ls : Array Slot), gX D (xcell g cI cB cZ cQ) xord g S s H locs → lv_has ls 5 [(0, .ref (g 0)), (1, .ref (g k1)), (2, .int x2), (3, .int x3), (4, .int x4)] → r5 k1 x2 x3 x4 S = some o → W p l e (rmd 4) s m args below meth c H locs 0 0 (gE below args s D (xtys cI cB cZ cQ) (xcell g cI cB cZ cQ) xord g (some (.int o.1)) o.2) (F0 m 5 ls [])) (hk_k1 : xk k1 = 7) (X : gX D (xcell g cI cB cZ cQ) xord g S s H locs) (hl : lv_has ls 5 [(0, .ref (g 0)), (1, .ref (g k1)), (2, .int x2), (3, .int x3), (4, .int x4)]) (hF : fX11_passHour_b5 N r5 k1 x2 x3 x4 S = some o) : W p l e (rmd 4) s m args below meth c H locs 0 0 (gE below args s D (xtys cI cB cZ cQ) (xcell g cI cB cZ cQ) xord g (some (.int o.1)) o.2) (F0 m 5 ls []) := by
  unfold fX11_passHour_b5 at hF
  refine lv_iload C.1.1 C.1.2.1 dX11_passHour_5 (lv_at hl 4 rfl) ?_
  refine lv_aload_n C.1.1 C.1.2.1 dX11_passHour_7 rfl (lv_at hl 0 rfl) ?_
  obtain ⟨T1, eT1, hF⟩ := lt_some hF
  have hk_T1 := xtw_k eT1
  refine xg_X11_57 C O X (T := T1) eT1 (k := 0) rfl dX11_passHour_8 ?_
  refine xg_X11_111 C O X (k := T1) hk_T1 dX11_passHour_11 ?_
  refine lv_icmp_ge (tgt := 65) C.1.1 C.1.2.1 dX11_passHour_14 (by decide) (fun h_z => ?_) (fun h_z => ?_)
  · rw [if_pos h_z] at hF
    exact bX11_passHour_65 C O (hk_k1 : xk k1 = 7) X (lv_sub hl [1, 3] rfl) hF
  · rw [if_neg h_z] at hF
    exact bX11_passHour_17 C O K5 (hk_k1 : xk k1 = 7) X (lv_sub hl [0, 1, 2, 3, 4] rfl) hF
noncomputable def fX11_passHour_h5 (N : Nat) : Nat → Nat → Int32 → Int32 → Int32 → gS → Option (Int32 × gS)
  | 0, _, _, _, _, _ => none
  | n + 1, k1, x2, x3, x4, S => fX11_passHour_b5 N (fX11_passHour_h5 N n) k1 x2 x3 x4 S
theorem hX11_passHour_5 {N : Nat} {o : Int32 × gS} (C : gC p s m args meth c cX11_passHour 5 RX11 ((some .int)) D (xtys cI cB cZ cQ) xord g Am) (O : xO g cI cB cZ cQ Am) : ∀ (n : Nat) (k1 : Nat) (x2 : Int32) (x3 : Int32) (x4 : Int32) (hk_k1 : xk k1 = 7) (S : gS) (H : Heap) (locs : List Loc) (ls : Array Slot), gX D (xcell g cI cB cZ cQ) xord g S s H locs → lv_has ls 5 [(0, .ref (g 0)), (1, .ref (g k1)), (2, .int x2), (3, .int x3), (4, .int x4)] → fX11_passHour_h5 N n k1 x2 x3 x4 S = some o → W p l e (rmd 4) s m args below meth c H locs 0 0 (gE below args s D (xtys cI cB cZ cQ) (xcell g cI cB cZ cQ) xord g (some (.int o.1)) o.2) (F0 m 5 ls []) := by
  intro n
  induction n with
  | zero =>
    intro k1 x2 x3 x4 hk_k1 S H locs ls X hl hF
    exact absurd (show (none : Option (Int32 × gS)) = some o from hF) (by simp)
  | succ n ih =>
    intro k1 x2 x3 x4 hk_k1 S H locs ls X hl hF
    have hF : fX11_passHour_b5 N (fX11_passHour_h5 N n) k1 x2 x3 x4 S = some o := hF
    exact bX11_passHour_5 C O ih hk_k1 X hl hF
noncomputable def fX11_passHour_b0 (N : Nat) (k1 : Nat) (x2 : Int32) (S : gS) : Option (Int32 × gS) := fX11_passHour_h5 N N k1 x2 0 0 S
theorem bX11_passHour_0 {N : Nat} {k1 : Nat} {x2 : Int32} {S : gS} {H : Heap} {locs : List Loc} {ls : Array Slot} {o : Int32 × gS} (C : gC p s m args meth c cX11_passHour 5 RX11 ((some .int)) D (xtys cI cB cZ cQ) xord g Am) (O : xO g cI cB cZ cQ Am) (hk_k1 : xk k1 = 7) (X : gX D (xcell g cI cB cZ cQ) xord g S s H locs) (hl : lv_has ls 5 [(0, .ref (g 0)), (1, .ref (g k1)), (2, .int x2)]) (hF : fX11_passHour_b0 N k1 x2 S = some o) : W p l e (rmd 4) s m args below meth c H locs 0 0 (gE below args s D (xtys cI cB cZ cQ) (xcell g cI cB cZ cQ) xord g (some (.int o.1)) o.2) (F0 m 0 ls []) := by
  unfold fX11_passHour_b0 at hF
  refine lv_iconst (v := 0) C.1.1 C.1.2.1 dX11_passHour_0 (by decide) ?_
  refine lv_istore_n (lv' := [(3, .int 0), (0, .ref (g 0)), (1, .ref (g k1)), (2, .int x2)]) C.1.1 C.1.2.1 dX11_passHour_1 rfl hl (by decide) rfl (fun ls hl => ?_)
  refine lv_iconst (v := 0) C.1.1 C.1.2.1 dX11_passHour_2 (by decide) ?_
  refine lv_istore (lv' := [(4, .int 0), (3, .int 0), (0, .ref (g 0)), (1, .ref (g k1)), (2, .int x2)]) C.1.1 C.1.2.1 dX11_passHour_3 hl (by decide) rfl (fun ls hl => ?_)
  exact hX11_passHour_5 C O N _ _ _ _ (hk_k1 : xk k1 = 7) _ _ _ _ X (lv_sub hl [2, 3, 4, 1, 0] rfl) hF
noncomputable def fX11_passHour (N : Nat) (k1 : Nat) (x2 : Int32) (S : gS) : Option (Int32 × gS) := fX11_passHour_b0 N k1 x2 S
theorem kX11_passHour {l : Launch} {D : va_G} {g : Nat → Nat} {cI cB cZ cQ : ClassId} {Am : (Nat → Prop) → State → Heap → Prop} (O : xO g cI cB cZ cQ Am) (P : gAm Am) (N : Nat) (k1 : Nat) (x2 : Int32) (hk_k1 : xk k1 = 7) (S : gS) (o : Int32 × gS) (hF : fX11_passHour N k1 x2 S = some o) : gM l yX11_passHour cX11_passHour 5 ((some .int)) 4 D (xtys cI cB cZ cQ) (xcell g cI cB cZ cQ) xord g Am [.ref (g 0), .ref (g k1), .int x2] S (some (.int o.1)) o.2 :=
  gM_of O.1 P (by decide) (Nat.le_of_ble_eq_true rfl) (fun p e s m args below meth c ls C X hl => bX11_passHour_0 C O hk_k1 X (lv_sub hl [0, 1, 2] rfl) hF)
-- X11.keeps
noncomputable def fX11_keeps_b95 (N : Nat) (t0 : Int32) (S : gS) : Option (Int32 × gS) := chk (zb t0) (some (t0, S))
theorem bX11_keeps_95 {N : Nat} {t0 : Int32} {S : gS} {H : Heap} {locs : List Loc} {ls : Array Slot} {o : Int32 × gS} (C : gC p s m args meth c cX11_keeps 5 RX11 ((some .boolean)) D (xtys cI cB cZ cQ) xord g Am) (O : xO g cI cB cZ cQ Am) (X : gX D (xcell g cI cB cZ cQ) xord g S s H locs) (hl : lv_has ls 5 []) (hF : fX11_keeps_b95 N t0 S = some o) : W p l e (rmd 4) s m args below meth c H locs 0 0 (gE below args s D (xtys cI cB cZ cQ) (xcell g cI cB cZ cQ) xord g (some (.int o.1)) o.2) (F0 m 95 ls [.int t0]) := by
  unfold fX11_keeps_b95 at hF
  obtain ⟨h_1, hF⟩ := chk_some hF
  cases hF
  exact g_zret C X h_1 dX11_keeps_95
noncomputable def fX11_keeps_b94 (N : Nat) (S : gS) : Option (Int32 × gS) := fX11_keeps_b95 N 0 S
theorem bX11_keeps_94 {N : Nat} {S : gS} {H : Heap} {locs : List Loc} {ls : Array Slot} {o : Int32 × gS} (C : gC p s m args meth c cX11_keeps 5 RX11 ((some .boolean)) D (xtys cI cB cZ cQ) xord g Am) (O : xO g cI cB cZ cQ Am) (X : gX D (xcell g cI cB cZ cQ) xord g S s H locs) (hl : lv_has ls 5 []) (hF : fX11_keeps_b94 N S = some o) : W p l e (rmd 4) s m args below meth c H locs 0 0 (gE below args s D (xtys cI cB cZ cQ) (xcell g cI cB cZ cQ) xord g (some (.int o.1)) o.2) (F0 m 94 ls []) := by
  unfold fX11_keeps_b94 at hF
  refine lv_iconst (v := 0) C.1.1 C.1.2.1 dX11_keeps_94 (by decide) ?_
  exact bX11_keeps_95 C O X (lv_sub hl [] rfl) hF
noncomputable def fX11_keeps_b90 (N : Nat) (S : gS) : Option (Int32 × gS) := fX11_keeps_b95 N 1 S
theorem bX11_keeps_90 {N : Nat} {S : gS} {H : Heap} {locs : List Loc} {ls : Array Slot} {o : Int32 × gS} (C : gC p s m args meth c cX11_keeps 5 RX11 ((some .boolean)) D (xtys cI cB cZ cQ) xord g Am) (O : xO g cI cB cZ cQ Am) (X : gX D (xcell g cI cB cZ cQ) xord g S s H locs) (hl : lv_has ls 5 []) (hF : fX11_keeps_b90 N S = some o) : W p l e (rmd 4) s m args below meth c H locs 0 0 (gE below args s D (xtys cI cB cZ cQ) (xcell g cI cB cZ cQ) xord g (some (.int o.1)) o.2) (F0 m 90 ls []) := by
  unfold fX11_keeps_b90 at hF
  refine lv_iconst (v := 1) C.1.1 C.1.2.1 dX11_keeps_90 (by decide) ?_
  refine lv_goto (tgt := 95) C.1.1 C.1.2.1 dX11_keeps_91 (by decide) ?_
  exact bX11_keeps_95 C O X (lv_sub hl [] rfl) hF
noncomputable def fX11_keeps_b79 (N : Nat) (S : gS) : Option (Int32 × gS) := if (S 51 4) = ((-1)) then fX11_keeps_b94 N S else fX11_keeps_b90 N S
theorem bX11_keeps_79 {N : Nat} {S : gS} {H : Heap} {locs : List Loc} {ls : Array Slot} {o : Int32 × gS} (C : gC p s m args meth c cX11_keeps 5 RX11 ((some .boolean)) D (xtys cI cB cZ cQ) xord g Am) (O : xO g cI cB cZ cQ Am) (X : gX D (xcell g cI cB cZ cQ) xord g S s H locs) (hl : lv_has ls 5 [(0, .ref (g 0))]) (hF : fX11_keeps_b79 N S = some o) : W p l e (rmd 4) s m args below meth c H locs 0 0 (gE below args s D (xtys cI cB cZ cQ) (xcell g cI cB cZ cQ) xord g (some (.int o.1)) o.2) (F0 m 79 ls []) := by
  unfold fX11_keeps_b79 at hF
  refine lv_aload_n C.1.1 C.1.2.1 dX11_keeps_79 rfl (lv_at hl 0 rfl) ?_
  refine xg_X11_36 C O X (k := 0) rfl (j := 51) rfl dX11_keeps_80 ?_
  refine xg_X11_256 C O X (k := 51) rfl dX11_keeps_83 ?_
  refine lv_iconst (v := (-1)) C.1.1 C.1.2.1 dX11_keeps_86 (by decide) ?_
  refine lv_icmp_eq (tgt := 94) C.1.1 C.1.2.1 dX11_keeps_87 (by decide) (fun h_z => ?_) (fun h_z => ?_)
  · rw [if_pos h_z] at hF
    exact bX11_keeps_94 C O X (lv_sub hl [] rfl) hF
  · rw [if_neg h_z] at hF
    exact bX11_keeps_90 C O X (lv_sub hl [] rfl) hF
noncomputable def fX11_keeps_b47 (N : Nat) (r30 : Int32 → Int32 → gS → Option (Int32 × gS)) (x2 : Int32) (x4 : Int32) (S : gS) : Option (Int32 × gS) := lt (xtw S) fun T1 => (lt (xtw S) fun T2 => (bnd (fX9_wetOf N T2 (S 51 5) S) fun q1 => (bnd (fX10_passHour N T1 q1.1 q1.2) fun q2 => (r30 x2 ((x4 + 1 : Int32)) q2.2))))
theorem bX11_keeps_47 {N : Nat} {r30 : Int32 → Int32 → gS → Option (Int32 × gS)} {x2 : Int32} {x4 : Int32} {S : gS} {H : Heap} {locs : List Loc} {ls : Array Slot} {o : Int32 × gS} (C : gC p s m args meth c cX11_keeps 5 RX11 ((some .boolean)) D (xtys cI cB cZ cQ) xord g Am) (O : xO g cI cB cZ cQ Am) (K30 : ∀ (x2 : Int32) (x4 : Int32) (S : gS) (H : Heap) (locs : List Loc) (ls : Array Slot), gX D (xcell g cI cB cZ cQ) xord g S s H locs → lv_has ls 5 [(0, .ref (g 0)), (2, .int x2), (4, .int x4)] → r30 x2 x4 S = some o → W p l e (rmd 4) s m args below meth c H locs 0 0 (gE below args s D (xtys cI cB cZ cQ) (xcell g cI cB cZ cQ) xord g (some (.int o.1)) o.2) (F0 m 30 ls [])) (X : gX D (xcell g cI cB cZ cQ) xord g S s H locs) (hl : lv_has ls 5 [(0, .ref (g 0)), (2, .int x2), (4, .int x4)]) (hF : fX11_keeps_b47 N r30 x2 x4 S = some o) : W p l e (rmd 4) s m args below meth c H locs 0 0 (gE below args s D (xtys cI cB cZ cQ) (xcell g cI cB cZ cQ) xord g (some (.int o.1)) o.2) (F0 m 47 ls []) := by
  unfold fX11_keeps_b47 at hF
  refine lv_aload_n C.1.1 C.1.2.1 dX11_keeps_47 rfl (lv_at hl 0 rfl) ?_
  refine xg_X11_36 C O X (k := 0) rfl (j := 51) rfl dX11_keeps_48 ?_
  refine lv_aload_n C.1.1 C.1.2.1 dX11_keeps_51 rfl (lv_at hl 0 rfl) ?_
  obtain ⟨T1, eT1, hF⟩ := lt_some hF
  have hk_T1 := xtw_k eT1
  refine xg_X11_57 C O X (T := T1) eT1 (k := 0) rfl dX11_keeps_52 ?_
  refine lv_aload_n C.1.1 C.1.2.1 dX11_keeps_55 rfl (lv_at hl 0 rfl) ?_
  obtain ⟨T2, eT2, hF⟩ := lt_some hF
  have hk_T2 := xtw_k eT2
  refine xg_X11_57 C O X (T := T2) eT2 (k := 0) rfl dX11_keeps_56 ?_
  refine lv_aload_n C.1.1 C.1.2.1 dX11_keeps_59 rfl (lv_at hl 0 rfl) ?_
  refine xg_X11_36 C O X (k := 0) rfl (j := 51) rfl dX11_keeps_60 ?_
  refine xg_X11_261 C O X (k := 51) rfl dX11_keeps_63 ?_
  obtain ⟨q1, hq1, hF⟩ := bnd_some hF
  refine x_callVi C X (k := T2) xv_X11_117 hk_T2 rfl rfl (by decide) (kX9_wetOf O C.2.2.2.2.1 N T2 (S 51 5) (hk_T2 : xk T2 = 9) S q1 hq1) (Nat.le_of_ble_eq_true rfl) (Nat.le_of_ble_eq_true rfl) (Nat.le_of_ble_eq_true rfl) (Nat.le_of_ble_eq_true rfl) rfl hl.1 rfl (Nat.le_of_ble_eq_true rfl) dX11_keeps_66 (fun H locs X => ?_)
  obtain ⟨q2, hq2, hF⟩ := bnd_some hF
  refine x_callVi C X (k := 51) xv_X11_262 (rfl : xk 51 = 10) rfl rfl (by decide) (kX10_passHour O C.2.2.2.2.1 N T1 q1.1 (hk_T1 : xk T1 = 9) q1.2 q2 hq2) (Nat.le_of_ble_eq_true rfl) (Nat.le_of_ble_eq_true rfl) (Nat.le_of_ble_eq_true rfl) (Nat.le_of_ble_eq_true rfl) rfl hl.1 rfl (Nat.le_of_ble_eq_true rfl) dX11_keeps_69 (fun H locs X => ?_)
  refine lv_pop C.1.1 C.1.2.1 dX11_keeps_72 rfl ?_
  refine lv_iinc (v := (x4 + 1 : Int32)) (lv' := [(4, .int ((x4 + 1 : Int32))), (0, .ref (g 0)), (2, .int x2)]) C.1.1 C.1.2.1 dX11_keeps_73 hl (k := 2) rfl rfl (by decide) rfl (fun ls hl => ?_)
  refine lv_goto (tgt := 30) C.1.1 C.1.2.1 dX11_keeps_76 (by decide) ?_
  exact K30 _ _ _ _ _ _ X (lv_sub hl [1, 2, 0] rfl) hF
noncomputable def fX11_keeps_b36 (N : Nat) (r30 : Int32 → Int32 → gS → Option (Int32 × gS)) (x2 : Int32) (x4 : Int32) (S : gS) : Option (Int32 × gS) := if (S 51 4) = ((-1)) then fX11_keeps_b79 N S else fX11_keeps_b47 N r30 x2 x4 S
theorem bX11_keeps_36 {N : Nat} {r30 : Int32 → Int32 → gS → Option (Int32 × gS)} {x2 : Int32} {x4 : Int32} {S : gS} {H : Heap} {locs : List Loc} {ls : Array Slot} {o : Int32 × gS} (C : gC p s m args meth c cX11_keeps 5 RX11 ((some .boolean)) D (xtys cI cB cZ cQ) xord g Am) (O : xO g cI cB cZ cQ Am) (K30 : ∀ (x2 : Int32) (x4 : Int32) (S : gS) (H : Heap) (locs : List Loc) (ls : Array Slot), gX D (xcell g cI cB cZ cQ) xord g S s H locs → lv_has ls 5 [(0, .ref (g 0)), (2, .int x2), (4, .int x4)] → r30 x2 x4 S = some o → W p l e (rmd 4) s m args below meth c H locs 0 0 (gE below args s D (xtys cI cB cZ cQ) (xcell g cI cB cZ cQ) xord g (some (.int o.1)) o.2) (F0 m 30 ls [])) (X : gX D (xcell g cI cB cZ cQ) xord g S s H locs) (hl : lv_has ls 5 [(0, .ref (g 0)), (2, .int x2), (4, .int x4)]) (hF : fX11_keeps_b36 N r30 x2 x4 S = some o) : W p l e (rmd 4) s m args below meth c H locs 0 0 (gE below args s D (xtys cI cB cZ cQ) (xcell g cI cB cZ cQ) xord g (some (.int o.1)) o.2) (F0 m 36 ls []) := by
  unfold fX11_keeps_b36 at hF
  refine lv_aload_n C.1.1 C.1.2.1 dX11_keeps_36 rfl (lv_at hl 0 rfl) ?_
  refine xg_X11_36 C O X (k := 0) rfl (j := 51) rfl dX11_keeps_37 ?_
  refine xg_X11_256 C O X (k := 51) rfl dX11_keeps_40 ?_
  refine lv_iconst (v := (-1)) C.1.1 C.1.2.1 dX11_keeps_43 (by decide) ?_
  refine lv_icmp_eq (tgt := 79) C.1.1 C.1.2.1 dX11_keeps_44 (by decide) (fun h_z => ?_) (fun h_z => ?_)
  · rw [if_pos h_z] at hF
    exact bX11_keeps_79 C O X (lv_sub hl [0] rfl) hF
  · rw [if_neg h_z] at hF
    exact bX11_keeps_47 C O K30 X (lv_sub hl [0, 1, 2] rfl) hF
noncomputable def fX11_keeps_b30 (N : Nat) (r30 : Int32 → Int32 → gS → Option (Int32 × gS)) (x2 : Int32) (x4 : Int32) (S : gS) : Option (Int32 × gS) := if x2 ≤ x4 then fX11_keeps_b79 N S else fX11_keeps_b36 N r30 x2 x4 S
theorem bX11_keeps_30 {N : Nat} {r30 : Int32 → Int32 → gS → Option (Int32 × gS)} {x2 : Int32} {x4 : Int32} {S : gS} {H : Heap} {locs : List Loc} {ls : Array Slot} {o : Int32 × gS} (C : gC p s m args meth c cX11_keeps 5 RX11 ((some .boolean)) D (xtys cI cB cZ cQ) xord g Am) (O : xO g cI cB cZ cQ Am) (K30 : ∀ (x2 : Int32) (x4 : Int32) (S : gS) (H : Heap) (locs : List Loc) (ls : Array Slot), gX D (xcell g cI cB cZ cQ) xord g S s H locs → lv_has ls 5 [(0, .ref (g 0)), (2, .int x2), (4, .int x4)] → r30 x2 x4 S = some o → W p l e (rmd 4) s m args below meth c H locs 0 0 (gE below args s D (xtys cI cB cZ cQ) (xcell g cI cB cZ cQ) xord g (some (.int o.1)) o.2) (F0 m 30 ls [])) (X : gX D (xcell g cI cB cZ cQ) xord g S s H locs) (hl : lv_has ls 5 [(0, .ref (g 0)), (2, .int x2), (4, .int x4)]) (hF : fX11_keeps_b30 N r30 x2 x4 S = some o) : W p l e (rmd 4) s m args below meth c H locs 0 0 (gE below args s D (xtys cI cB cZ cQ) (xcell g cI cB cZ cQ) xord g (some (.int o.1)) o.2) (F0 m 30 ls []) := by
  unfold fX11_keeps_b30 at hF
  refine lv_iload C.1.1 C.1.2.1 dX11_keeps_30 (lv_at hl 2 rfl) ?_
  refine lv_iload_n C.1.1 C.1.2.1 dX11_keeps_32 rfl (lv_at hl 1 rfl) ?_
  refine lv_icmp_ge (tgt := 79) C.1.1 C.1.2.1 dX11_keeps_33 (by decide) (fun h_z => ?_) (fun h_z => ?_)
  · rw [if_pos h_z] at hF
    exact bX11_keeps_79 C O X (lv_sub hl [0] rfl) hF
  · rw [if_neg h_z] at hF
    exact bX11_keeps_36 C O K30 X (lv_sub hl [0, 1, 2] rfl) hF
noncomputable def fX11_keeps_h30 (N : Nat) : Nat → Int32 → Int32 → gS → Option (Int32 × gS)
  | 0, _, _, _ => none
  | n + 1, x2, x4, S => fX11_keeps_b30 N (fX11_keeps_h30 N n) x2 x4 S
theorem hX11_keeps_30 {N : Nat} {o : Int32 × gS} (C : gC p s m args meth c cX11_keeps 5 RX11 ((some .boolean)) D (xtys cI cB cZ cQ) xord g Am) (O : xO g cI cB cZ cQ Am) : ∀ (n : Nat) (x2 : Int32) (x4 : Int32) (S : gS) (H : Heap) (locs : List Loc) (ls : Array Slot), gX D (xcell g cI cB cZ cQ) xord g S s H locs → lv_has ls 5 [(0, .ref (g 0)), (2, .int x2), (4, .int x4)] → fX11_keeps_h30 N n x2 x4 S = some o → W p l e (rmd 4) s m args below meth c H locs 0 0 (gE below args s D (xtys cI cB cZ cQ) (xcell g cI cB cZ cQ) xord g (some (.int o.1)) o.2) (F0 m 30 ls []) := by
  intro n
  induction n with
  | zero =>
    intro x2 x4 S H locs ls X hl hF
    exact absurd (show (none : Option (Int32 × gS)) = some o from hF) (by simp)
  | succ n ih =>
    intro x2 x4 S H locs ls X hl hF
    have hF : fX11_keeps_b30 N (fX11_keeps_h30 N n) x2 x4 S = some o := hF
    exact bX11_keeps_30 C O ih X hl hF
noncomputable def fX11_keeps_b0 (N : Nat) (x1 : Int32) (x2 : Int32) (x3 : Int32) (S : gS) : Option (Int32 × gS) := lt (xtw S) fun T1 => (bnd (fX10_begin N T1 21 x1 S) fun q1 => (lt (sU q1.2 51 2 x3) fun S1 => (fX11_keeps_h30 N N x2 0 S1)))
theorem bX11_keeps_0 {N : Nat} {x1 : Int32} {x2 : Int32} {x3 : Int32} {S : gS} {H : Heap} {locs : List Loc} {ls : Array Slot} {o : Int32 × gS} (C : gC p s m args meth c cX11_keeps 5 RX11 ((some .boolean)) D (xtys cI cB cZ cQ) xord g Am) (O : xO g cI cB cZ cQ Am) (X : gX D (xcell g cI cB cZ cQ) xord g S s H locs) (hl : lv_has ls 5 [(0, .ref (g 0)), (1, .int x1), (2, .int x2), (3, .int x3)]) (hF : fX11_keeps_b0 N x1 x2 x3 S = some o) : W p l e (rmd 4) s m args below meth c H locs 0 0 (gE below args s D (xtys cI cB cZ cQ) (xcell g cI cB cZ cQ) xord g (some (.int o.1)) o.2) (F0 m 0 ls []) := by
  unfold fX11_keeps_b0 at hF
  refine lv_aload_n C.1.1 C.1.2.1 dX11_keeps_0 rfl (lv_at hl 0 rfl) ?_
  refine xg_X11_36 C O X (k := 0) rfl (j := 51) rfl dX11_keeps_1 ?_
  refine lv_aload_n C.1.1 C.1.2.1 dX11_keeps_4 rfl (lv_at hl 0 rfl) ?_
  obtain ⟨T1, eT1, hF⟩ := lt_some hF
  have hk_T1 := xtw_k eT1
  refine xg_X11_57 C O X (T := T1) eT1 (k := 0) rfl dX11_keeps_5 ?_
  refine lv_aload_n C.1.1 C.1.2.1 dX11_keeps_8 rfl (lv_at hl 0 rfl) ?_
  refine xg_X11_19 C O X (k := 0) rfl (j := 20) rfl dX11_keeps_9 ?_
  refine xg_X11_105 C O X (k := 20) rfl (j := 21) rfl dX11_keeps_12 ?_
  refine lv_iload_n C.1.1 C.1.2.1 dX11_keeps_15 rfl (lv_at hl 1 rfl) ?_
  obtain ⟨q1, hq1, hF⟩ := bnd_some hF
  refine x_callV C X (k := 51) xv_X11_243 (rfl : xk 51 = 10) rfl rfl (by decide) (kX10_begin O C.2.2.2.2.1 N T1 21 x1 (hk_T1 : xk T1 = 9) (rfl : xk 21 = 7) S q1 hq1) (Nat.le_of_ble_eq_true rfl) (Nat.le_of_ble_eq_true rfl) (Nat.le_of_ble_eq_true rfl) (Nat.le_of_ble_eq_true rfl) rfl hl.1 rfl (Nat.le_of_ble_eq_true rfl) dX11_keeps_16 (fun H locs X => ?_)
  refine lv_aload_n C.1.1 C.1.2.1 dX11_keeps_19 rfl (lv_at hl 0 rfl) ?_
  refine xg_X11_36 C O X (k := 0) rfl (j := 51) rfl dX11_keeps_20 ?_
  refine lv_iload_n C.1.1 C.1.2.1 dX11_keeps_23 rfl (lv_at hl 3 rfl) ?_
  obtain ⟨S1, eS1, hF⟩ := lt_some hF
  refine xp_X11_252 C O X (k := 51) rfl eS1 dX11_keeps_24 (fun H locs X => ?_)
  refine lv_iconst (v := 0) C.1.1 C.1.2.1 dX11_keeps_27 (by decide) ?_
  refine lv_istore (lv' := [(4, .int 0), (0, .ref (g 0)), (1, .int x1), (2, .int x2), (3, .int x3)]) C.1.1 C.1.2.1 dX11_keeps_28 hl (by decide) rfl (fun ls hl => ?_)
  exact hX11_keeps_30 C O N _ _ _ _ _ _ X (lv_sub hl [1, 3, 0] rfl) hF
noncomputable def fX11_keeps (N : Nat) (x1 : Int32) (x2 : Int32) (x3 : Int32) (S : gS) : Option (Int32 × gS) := fX11_keeps_b0 N x1 x2 x3 S
theorem kX11_keeps {l : Launch} {D : va_G} {g : Nat → Nat} {cI cB cZ cQ : ClassId} {Am : (Nat → Prop) → State → Heap → Prop} (O : xO g cI cB cZ cQ Am) (P : gAm Am) (N : Nat) (x1 : Int32) (x2 : Int32) (x3 : Int32) (S : gS) (o : Int32 × gS) (hF : fX11_keeps N x1 x2 x3 S = some o) : gM l yX11_keeps cX11_keeps 5 ((some .boolean)) 4 D (xtys cI cB cZ cQ) (xcell g cI cB cZ cQ) xord g Am [.ref (g 0), .int x1, .int x2, .int x3] S (some (.int o.1)) o.2 :=
  gM_of O.1 P (by decide) (Nat.le_of_ble_eq_true rfl) (fun p e s m args below meth c ls C X hl => bX11_keeps_0 C O X (lv_sub hl [0, 1, 2, 3] rfl) hF)
-- X11.leastOfAllPurses
noncomputable def fX11_leastOfAllPurses_b27 (N : Nat) (S : gS) : Option (Int32 × gS) := some ((-1), S)
theorem bX11_leastOfAllPurses_27 {N : Nat} {S : gS} {H : Heap} {locs : List Loc} {ls : Array Slot} {o : Int32 × gS} (C : gC p s m args meth c cX11_leastOfAllPurses 4 RX11 ((some .int)) D (xtys cI cB cZ cQ) xord g Am) (O : xO g cI cB cZ cQ Am) (X : gX D (xcell g cI cB cZ cQ) xord g S s H locs) (hl : lv_has ls 4 []) (hF : fX11_leastOfAllPurses_b27 N S = some o) : W p l e (rmd 5) s m args below meth c H locs 0 0 (gE below args s D (xtys cI cB cZ cQ) (xcell g cI cB cZ cQ) xord g (some (.int o.1)) o.2) (F0 m 27 ls []) := by
  unfold fX11_leastOfAllPurses_b27 at hF
  refine lv_iconst (v := (-1)) C.1.1 C.1.2.1 dX11_leastOfAllPurses_27 (by decide) ?_
  cases hF
  exact g_iret C X dX11_leastOfAllPurses_28
noncomputable def fX11_leastOfAllPurses_b21 (N : Nat) (r2 : Int32 → Int32 → Int32 → gS → Option (Int32 × gS)) (x1 : Int32) (x2 : Int32) (x3 : Int32) (S : gS) : Option (Int32 × gS) := r2 x1 x2 ((x3 + 1 : Int32)) S
theorem bX11_leastOfAllPurses_21 {N : Nat} {r2 : Int32 → Int32 → Int32 → gS → Option (Int32 × gS)} {x1 : Int32} {x2 : Int32} {x3 : Int32} {S : gS} {H : Heap} {locs : List Loc} {ls : Array Slot} {o : Int32 × gS} (C : gC p s m args meth c cX11_leastOfAllPurses 4 RX11 ((some .int)) D (xtys cI cB cZ cQ) xord g Am) (O : xO g cI cB cZ cQ Am) (K2 : ∀ (x1 : Int32) (x2 : Int32) (x3 : Int32) (S : gS) (H : Heap) (locs : List Loc) (ls : Array Slot), gX D (xcell g cI cB cZ cQ) xord g S s H locs → lv_has ls 4 [(0, .ref (g 0)), (1, .int x1), (2, .int x2), (3, .int x3)] → r2 x1 x2 x3 S = some o → W p l e (rmd 5) s m args below meth c H locs 0 0 (gE below args s D (xtys cI cB cZ cQ) (xcell g cI cB cZ cQ) xord g (some (.int o.1)) o.2) (F0 m 2 ls [])) (X : gX D (xcell g cI cB cZ cQ) xord g S s H locs) (hl : lv_has ls 4 [(0, .ref (g 0)), (1, .int x1), (2, .int x2), (3, .int x3)]) (hF : fX11_leastOfAllPurses_b21 N r2 x1 x2 x3 S = some o) : W p l e (rmd 5) s m args below meth c H locs 0 0 (gE below args s D (xtys cI cB cZ cQ) (xcell g cI cB cZ cQ) xord g (some (.int o.1)) o.2) (F0 m 21 ls []) := by
  unfold fX11_leastOfAllPurses_b21 at hF
  refine lv_iinc (v := (x3 + 1 : Int32)) (lv' := [(3, .int ((x3 + 1 : Int32))), (0, .ref (g 0)), (1, .int x1), (2, .int x2)]) C.1.1 C.1.2.1 dX11_leastOfAllPurses_21 hl (k := 3) rfl rfl (by decide) rfl (fun ls hl => ?_)
  refine lv_goto (tgt := 2) C.1.1 C.1.2.1 dX11_leastOfAllPurses_24 (by decide) ?_
  exact K2 _ _ _ _ _ _ _ X (lv_sub hl [1, 2, 3, 0] rfl) hF
noncomputable def fX11_leastOfAllPurses_b19 (N : Nat) (x3 : Int32) (S : gS) : Option (Int32 × gS) := some (x3, S)
theorem bX11_leastOfAllPurses_19 {N : Nat} {x3 : Int32} {S : gS} {H : Heap} {locs : List Loc} {ls : Array Slot} {o : Int32 × gS} (C : gC p s m args meth c cX11_leastOfAllPurses 4 RX11 ((some .int)) D (xtys cI cB cZ cQ) xord g Am) (O : xO g cI cB cZ cQ Am) (X : gX D (xcell g cI cB cZ cQ) xord g S s H locs) (hl : lv_has ls 4 [(3, .int x3)]) (hF : fX11_leastOfAllPurses_b19 N x3 S = some o) : W p l e (rmd 5) s m args below meth c H locs 0 0 (gE below args s D (xtys cI cB cZ cQ) (xcell g cI cB cZ cQ) xord g (some (.int o.1)) o.2) (F0 m 19 ls []) := by
  unfold fX11_leastOfAllPurses_b19 at hF
  refine lv_iload_n C.1.1 C.1.2.1 dX11_leastOfAllPurses_19 rfl (lv_at hl 0 rfl) ?_
  cases hF
  exact g_iret C X dX11_leastOfAllPurses_20
noncomputable def fX11_leastOfAllPurses_b9 (N : Nat) (r2 : Int32 → Int32 → Int32 → gS → Option (Int32 × gS)) (x1 : Int32) (x2 : Int32) (x3 : Int32) (S : gS) : Option (Int32 × gS) := bnd (fX11_keeps N x1 x2 x3 S) fun q1 => (if q1.1 = 0 then fX11_leastOfAllPurses_b21 N r2 x1 x2 x3 q1.2 else fX11_leastOfAllPurses_b19 N x3 q1.2)
theorem bX11_leastOfAllPurses_9 {N : Nat} {r2 : Int32 → Int32 → Int32 → gS → Option (Int32 × gS)} {x1 : Int32} {x2 : Int32} {x3 : Int32} {S : gS} {H : Heap} {locs : List Loc} {ls : Array Slot} {o : Int32 × gS} (C : gC p s m args meth c cX11_leastOfAllPurses 4 RX11 ((some .int)) D (xtys cI cB cZ cQ) xord g Am) (O : xO g cI cB cZ cQ Am) (K2 : ∀ (x1 : Int32) (x2 : Int32) (x3 : Int32) (S : gS) (H : Heap) (locs : List Loc) (ls : Array Slot), gX D (xcell g cI cB cZ cQ) xord g S s H locs → lv_has ls 4 [(0, .ref (g 0)), (1, .int x1), (2, .int x2), (3, .int x3)] → r2 x1 x2 x3 S = some o → W p l e (rmd 5) s m args below meth c H locs 0 0 (gE below args s D (xtys cI cB cZ cQ) (xcell g cI cB cZ cQ) xord g (some (.int o.1)) o.2) (F0 m 2 ls [])) (X : gX D (xcell g cI cB cZ cQ) xord g S s H locs) (hl : lv_has ls 4 [(0, .ref (g 0)), (1, .int x1), (2, .int x2), (3, .int x3)]) (hF : fX11_leastOfAllPurses_b9 N r2 x1 x2 x3 S = some o) : W p l e (rmd 5) s m args below meth c H locs 0 0 (gE below args s D (xtys cI cB cZ cQ) (xcell g cI cB cZ cQ) xord g (some (.int o.1)) o.2) (F0 m 9 ls []) := by
  unfold fX11_leastOfAllPurses_b9 at hF
  refine lv_aload_n C.1.1 C.1.2.1 dX11_leastOfAllPurses_9 rfl (lv_at hl 0 rfl) ?_
  refine lv_iload_n C.1.1 C.1.2.1 dX11_leastOfAllPurses_10 rfl (lv_at hl 1 rfl) ?_
  refine lv_iload_n C.1.1 C.1.2.1 dX11_leastOfAllPurses_11 rfl (lv_at hl 2 rfl) ?_
  refine lv_iload_n C.1.1 C.1.2.1 dX11_leastOfAllPurses_12 rfl (lv_at hl 3 rfl) ?_
  obtain ⟨q1, hq1, hF⟩ := bnd_some hF
  refine x_callVi C X (k := 0) xv_X11_395 (rfl : xk 0 = 11) rfl rfl (by decide) (kX11_keeps O C.2.2.2.2.1 N x1 x2 x3 S q1 hq1) (Nat.le_of_ble_eq_true rfl) (Nat.le_of_ble_eq_true rfl) (Nat.le_of_ble_eq_true rfl) (Nat.le_of_ble_eq_true rfl) rfl hl.1 rfl (Nat.le_of_ble_eq_true rfl) dX11_leastOfAllPurses_13 (fun H locs X => ?_)
  refine lv_if_eq (tgt := 21) C.1.1 C.1.2.1 dX11_leastOfAllPurses_16 (by decide) (fun h_z => ?_) (fun h_z => ?_)
  · rw [if_pos h_z] at hF
    exact bX11_leastOfAllPurses_21 C O K2 X (lv_sub hl [0, 1, 2, 3] rfl) hF
  · rw [if_neg h_z] at hF
    exact bX11_leastOfAllPurses_19 C O X (lv_sub hl [3] rfl) hF
noncomputable def fX11_leastOfAllPurses_b2 (N : Nat) (r2 : Int32 → Int32 → Int32 → gS → Option (Int32 × gS)) (x1 : Int32) (x2 : Int32) (x3 : Int32) (S : gS) : Option (Int32 × gS) := if 999 < x3 then fX11_leastOfAllPurses_b27 N S else fX11_leastOfAllPurses_b9 N r2 x1 x2 x3 S
theorem bX11_leastOfAllPurses_2 {N : Nat} {r2 : Int32 → Int32 → Int32 → gS → Option (Int32 × gS)} {x1 : Int32} {x2 : Int32} {x3 : Int32} {S : gS} {H : Heap} {locs : List Loc} {ls : Array Slot} {o : Int32 × gS} (C : gC p s m args meth c cX11_leastOfAllPurses 4 RX11 ((some .int)) D (xtys cI cB cZ cQ) xord g Am) (O : xO g cI cB cZ cQ Am) (K2 : ∀ (x1 : Int32) (x2 : Int32) (x3 : Int32) (S : gS) (H : Heap) (locs : List Loc) (ls : Array Slot), gX D (xcell g cI cB cZ cQ) xord g S s H locs → lv_has ls 4 [(0, .ref (g 0)), (1, .int x1), (2, .int x2), (3, .int x3)] → r2 x1 x2 x3 S = some o → W p l e (rmd 5) s m args below meth c H locs 0 0 (gE below args s D (xtys cI cB cZ cQ) (xcell g cI cB cZ cQ) xord g (some (.int o.1)) o.2) (F0 m 2 ls [])) (X : gX D (xcell g cI cB cZ cQ) xord g S s H locs) (hl : lv_has ls 4 [(0, .ref (g 0)), (1, .int x1), (2, .int x2), (3, .int x3)]) (hF : fX11_leastOfAllPurses_b2 N r2 x1 x2 x3 S = some o) : W p l e (rmd 5) s m args below meth c H locs 0 0 (gE below args s D (xtys cI cB cZ cQ) (xcell g cI cB cZ cQ) xord g (some (.int o.1)) o.2) (F0 m 2 ls []) := by
  unfold fX11_leastOfAllPurses_b2 at hF
  refine lv_iload_n C.1.1 C.1.2.1 dX11_leastOfAllPurses_2 rfl (lv_at hl 3 rfl) ?_
  refine lv_sipush (v := 999) C.1.1 C.1.2.1 dX11_leastOfAllPurses_3 (by decide) ?_
  refine lv_icmp_gt (tgt := 27) C.1.1 C.1.2.1 dX11_leastOfAllPurses_6 (by decide) (fun h_z => ?_) (fun h_z => ?_)
  · rw [if_pos h_z] at hF
    exact bX11_leastOfAllPurses_27 C O X (lv_sub hl [] rfl) hF
  · rw [if_neg h_z] at hF
    exact bX11_leastOfAllPurses_9 C O K2 X (lv_sub hl [0, 1, 2, 3] rfl) hF
noncomputable def fX11_leastOfAllPurses_h2 (N : Nat) : Nat → Int32 → Int32 → Int32 → gS → Option (Int32 × gS)
  | 0, _, _, _, _ => none
  | n + 1, x1, x2, x3, S => fX11_leastOfAllPurses_b2 N (fX11_leastOfAllPurses_h2 N n) x1 x2 x3 S
theorem hX11_leastOfAllPurses_2 {N : Nat} {o : Int32 × gS} (C : gC p s m args meth c cX11_leastOfAllPurses 4 RX11 ((some .int)) D (xtys cI cB cZ cQ) xord g Am) (O : xO g cI cB cZ cQ Am) : ∀ (n : Nat) (x1 : Int32) (x2 : Int32) (x3 : Int32) (S : gS) (H : Heap) (locs : List Loc) (ls : Array Slot), gX D (xcell g cI cB cZ cQ) xord g S s H locs → lv_has ls 4 [(0, .ref (g 0)), (1, .int x1), (2, .int x2), (3, .int x3)] → fX11_leastOfAllPurses_h2 N n x1 x2 x3 S = some o → W p l e (rmd 5) s m args below meth c H locs 0 0 (gE below args s D (xtys cI cB cZ cQ) (xcell g cI cB cZ cQ) xord g (some (.int o.1)) o.2) (F0 m 2 ls []) := by
  intro n
  induction n with
  | zero =>
    intro x1 x2 x3 S H locs ls X hl hF
    exact absurd (show (none : Option (Int32 × gS)) = some o from hF) (by simp)
  | succ n ih =>
    intro x1 x2 x3 S H locs ls X hl hF
    have hF : fX11_leastOfAllPurses_b2 N (fX11_leastOfAllPurses_h2 N n) x1 x2 x3 S = some o := hF
    exact bX11_leastOfAllPurses_2 C O ih X hl hF
noncomputable def fX11_leastOfAllPurses_b0 (N : Nat) (x1 : Int32) (x2 : Int32) (S : gS) : Option (Int32 × gS) := fX11_leastOfAllPurses_h2 N N x1 x2 0 S
theorem bX11_leastOfAllPurses_0 {N : Nat} {x1 : Int32} {x2 : Int32} {S : gS} {H : Heap} {locs : List Loc} {ls : Array Slot} {o : Int32 × gS} (C : gC p s m args meth c cX11_leastOfAllPurses 4 RX11 ((some .int)) D (xtys cI cB cZ cQ) xord g Am) (O : xO g cI cB cZ cQ Am) (X : gX D (xcell g cI cB cZ cQ) xord g S s H locs) (hl : lv_has ls 4 [(0, .ref (g 0)), (1, .int x1), (2, .int x2)]) (hF : fX11_leastOfAllPurses_b0 N x1 x2 S = some o) : W p l e (rmd 5) s m args below meth c H locs 0 0 (gE below args s D (xtys cI cB cZ cQ) (xcell g cI cB cZ cQ) xord g (some (.int o.1)) o.2) (F0 m 0 ls []) := by
  unfold fX11_leastOfAllPurses_b0 at hF
  refine lv_iconst (v := 0) C.1.1 C.1.2.1 dX11_leastOfAllPurses_0 (by decide) ?_
  refine lv_istore_n (lv' := [(3, .int 0), (0, .ref (g 0)), (1, .int x1), (2, .int x2)]) C.1.1 C.1.2.1 dX11_leastOfAllPurses_1 rfl hl (by decide) rfl (fun ls hl => ?_)
  exact hX11_leastOfAllPurses_2 C O N _ _ _ _ _ _ _ X (lv_sub hl [1, 2, 3, 0] rfl) hF
noncomputable def fX11_leastOfAllPurses (N : Nat) (x1 : Int32) (x2 : Int32) (S : gS) : Option (Int32 × gS) := fX11_leastOfAllPurses_b0 N x1 x2 S
theorem kX11_leastOfAllPurses {l : Launch} {D : va_G} {g : Nat → Nat} {cI cB cZ cQ : ClassId} {Am : (Nat → Prop) → State → Heap → Prop} (O : xO g cI cB cZ cQ Am) (P : gAm Am) (N : Nat) (x1 : Int32) (x2 : Int32) (S : gS) (o : Int32 × gS) (hF : fX11_leastOfAllPurses N x1 x2 S = some o) : gM l yX11_leastOfAllPurses cX11_leastOfAllPurses 4 ((some .int)) 5 D (xtys cI cB cZ cQ) (xcell g cI cB cZ cQ) xord g Am [.ref (g 0), .int x1, .int x2] S (some (.int o.1)) o.2 :=
  gM_of O.1 P (by decide) (Nat.le_of_ble_eq_true rfl) (fun p e s m args below meth c ls C X hl => bX11_leastOfAllPurses_0 C O X (lv_sub hl [0, 1, 2] rfl) hF)
-- X11.leastByHalves
noncomputable def fX11_leastByHalves_b81 (N : Nat) (t0 : Int32) (S : gS) : Option (Int32 × gS) := some (t0, S)
theorem bX11_leastByHalves_81 {N : Nat} {t0 : Int32} {S : gS} {H : Heap} {locs : List Loc} {ls : Array Slot} {o : Int32 × gS} (C : gC p s m args meth c cX11_leastByHalves 7 RX11 ((some .int)) D (xtys cI cB cZ cQ) xord g Am) (O : xO g cI cB cZ cQ Am) (X : gX D (xcell g cI cB cZ cQ) xord g S s H locs) (hl : lv_has ls 7 []) (hF : fX11_leastByHalves_b81 N t0 S = some o) : W p l e (rmd 5) s m args below meth c H locs 0 0 (gE below args s D (xtys cI cB cZ cQ) (xcell g cI cB cZ cQ) xord g (some (.int o.1)) o.2) (F0 m 81 ls [.int t0]) := by
  unfold fX11_leastByHalves_b81 at hF
  cases hF
  exact g_iret C X dX11_leastByHalves_81
noncomputable def fX11_leastByHalves_b80 (N : Nat) (x3 : Int32) (S : gS) : Option (Int32 × gS) := fX11_leastByHalves_b81 N x3 S
theorem bX11_leastByHalves_80 {N : Nat} {x3 : Int32} {S : gS} {H : Heap} {locs : List Loc} {ls : Array Slot} {o : Int32 × gS} (C : gC p s m args meth c cX11_leastByHalves 7 RX11 ((some .int)) D (xtys cI cB cZ cQ) xord g Am) (O : xO g cI cB cZ cQ Am) (X : gX D (xcell g cI cB cZ cQ) xord g S s H locs) (hl : lv_has ls 7 [(3, .int x3)]) (hF : fX11_leastByHalves_b80 N x3 S = some o) : W p l e (rmd 5) s m args below meth c H locs 0 0 (gE below args s D (xtys cI cB cZ cQ) (xcell g cI cB cZ cQ) xord g (some (.int o.1)) o.2) (F0 m 80 ls []) := by
  unfold fX11_leastByHalves_b80 at hF
  refine lv_iload_n C.1.1 C.1.2.1 dX11_leastByHalves_80 rfl (lv_at hl 0 rfl) ?_
  exact bX11_leastByHalves_81 C O X (lv_sub hl [] rfl) hF
noncomputable def fX11_leastByHalves_b76 (N : Nat) (S : gS) : Option (Int32 × gS) := fX11_leastByHalves_b81 N ((-1)) S
theorem bX11_leastByHalves_76 {N : Nat} {S : gS} {H : Heap} {locs : List Loc} {ls : Array Slot} {o : Int32 × gS} (C : gC p s m args meth c cX11_leastByHalves 7 RX11 ((some .int)) D (xtys cI cB cZ cQ) xord g Am) (O : xO g cI cB cZ cQ Am) (X : gX D (xcell g cI cB cZ cQ) xord g S s H locs) (hl : lv_has ls 7 []) (hF : fX11_leastByHalves_b76 N S = some o) : W p l e (rmd 5) s m args below meth c H locs 0 0 (gE below args s D (xtys cI cB cZ cQ) (xcell g cI cB cZ cQ) xord g (some (.int o.1)) o.2) (F0 m 76 ls []) := by
  unfold fX11_leastByHalves_b76 at hF
  refine lv_iconst (v := (-1)) C.1.1 C.1.2.1 dX11_leastByHalves_76 (by decide) ?_
  refine lv_goto (tgt := 81) C.1.1 C.1.2.1 dX11_leastByHalves_77 (by decide) ?_
  exact bX11_leastByHalves_81 C O X (lv_sub hl [] rfl) hF
noncomputable def fX11_leastByHalves_b69 (N : Nat) (x3 : Int32) (S : gS) : Option (Int32 × gS) := if x3 ≤ 999 then fX11_leastByHalves_b80 N x3 S else fX11_leastByHalves_b76 N S
theorem bX11_leastByHalves_69 {N : Nat} {x3 : Int32} {S : gS} {H : Heap} {locs : List Loc} {ls : Array Slot} {o : Int32 × gS} (C : gC p s m args meth c cX11_leastByHalves 7 RX11 ((some .int)) D (xtys cI cB cZ cQ) xord g Am) (O : xO g cI cB cZ cQ Am) (X : gX D (xcell g cI cB cZ cQ) xord g S s H locs) (hl : lv_has ls 7 [(3, .int x3)]) (hF : fX11_leastByHalves_b69 N x3 S = some o) : W p l e (rmd 5) s m args below meth c H locs 0 0 (gE below args s D (xtys cI cB cZ cQ) (xcell g cI cB cZ cQ) xord g (some (.int o.1)) o.2) (F0 m 69 ls []) := by
  unfold fX11_leastByHalves_b69 at hF
  refine lv_iload_n C.1.1 C.1.2.1 dX11_leastByHalves_69 rfl (lv_at hl 0 rfl) ?_
  refine lv_sipush (v := 999) C.1.1 C.1.2.1 dX11_leastByHalves_70 (by decide) ?_
  refine lv_icmp_le (tgt := 80) C.1.1 C.1.2.1 dX11_leastByHalves_73 (by decide) (fun h_z => ?_) (fun h_z => ?_)
  · rw [if_pos h_z] at hF
    exact bX11_leastByHalves_80 C O X (lv_sub hl [0] rfl) hF
  · rw [if_neg h_z] at hF
    exact bX11_leastByHalves_76 C O X (lv_sub hl [] rfl) hF
noncomputable def fX11_leastByHalves_b63 (N : Nat) (r10 : Int32 → Int32 → Int32 → Int32 → Int32 → gS → Option (Int32 × gS)) (x1 : Int32) (x2 : Int32) (x3 : Int32) (x4 : Int32) (x5 : Int32) (S : gS) : Option (Int32 × gS) := r10 x1 x2 x3 x4 ((x5 + 1 : Int32)) S
theorem bX11_leastByHalves_63 {N : Nat} {r10 : Int32 → Int32 → Int32 → Int32 → Int32 → gS → Option (Int32 × gS)} {x1 : Int32} {x2 : Int32} {x3 : Int32} {x4 : Int32} {x5 : Int32} {S : gS} {H : Heap} {locs : List Loc} {ls : Array Slot} {o : Int32 × gS} (C : gC p s m args meth c cX11_leastByHalves 7 RX11 ((some .int)) D (xtys cI cB cZ cQ) xord g Am) (O : xO g cI cB cZ cQ Am) (K10 : ∀ (x1 : Int32) (x2 : Int32) (x3 : Int32) (x4 : Int32) (x5 : Int32) (S : gS) (H : Heap) (locs : List Loc) (ls : Array Slot), gX D (xcell g cI cB cZ cQ) xord g S s H locs → lv_has ls 7 [(0, .ref (g 0)), (1, .int x1), (2, .int x2), (3, .int x3), (4, .int x4), (5, .int x5)] → r10 x1 x2 x3 x4 x5 S = some o → W p l e (rmd 5) s m args below meth c H locs 0 0 (gE below args s D (xtys cI cB cZ cQ) (xcell g cI cB cZ cQ) xord g (some (.int o.1)) o.2) (F0 m 10 ls [])) (X : gX D (xcell g cI cB cZ cQ) xord g S s H locs) (hl : lv_has ls 7 [(0, .ref (g 0)), (1, .int x1), (2, .int x2), (3, .int x3), (4, .int x4), (5, .int x5)]) (hF : fX11_leastByHalves_b63 N r10 x1 x2 x3 x4 x5 S = some o) : W p l e (rmd 5) s m args below meth c H locs 0 0 (gE below args s D (xtys cI cB cZ cQ) (xcell g cI cB cZ cQ) xord g (some (.int o.1)) o.2) (F0 m 63 ls []) := by
  unfold fX11_leastByHalves_b63 at hF
  refine lv_iinc (v := (x5 + 1 : Int32)) (lv' := [(5, .int ((x5 + 1 : Int32))), (0, .ref (g 0)), (1, .int x1), (2, .int x2), (3, .int x3), (4, .int x4)]) C.1.1 C.1.2.1 dX11_leastByHalves_63 hl (k := 5) rfl rfl (by decide) rfl (fun ls hl => ?_)
  refine lv_goto (tgt := 10) C.1.1 C.1.2.1 dX11_leastByHalves_66 (by decide) ?_
  exact K10 _ _ _ _ _ _ _ _ _ X (lv_sub hl [1, 2, 3, 4, 5, 0] rfl) hF
noncomputable def fX11_leastByHalves_b58 (N : Nat) (r10 : Int32 → Int32 → Int32 → Int32 → Int32 → gS → Option (Int32 × gS)) (x1 : Int32) (x2 : Int32) (x4 : Int32) (x5 : Int32) (x6 : Int32) (S : gS) : Option (Int32 × gS) := fX11_leastByHalves_b63 N r10 x1 x2 ((x6 + 1 : Int32)) x4 x5 S
theorem bX11_leastByHalves_58 {N : Nat} {r10 : Int32 → Int32 → Int32 → Int32 → Int32 → gS → Option (Int32 × gS)} {x1 : Int32} {x2 : Int32} {x4 : Int32} {x5 : Int32} {x6 : Int32} {S : gS} {H : Heap} {locs : List Loc} {ls : Array Slot} {o : Int32 × gS} (C : gC p s m args meth c cX11_leastByHalves 7 RX11 ((some .int)) D (xtys cI cB cZ cQ) xord g Am) (O : xO g cI cB cZ cQ Am) (K10 : ∀ (x1 : Int32) (x2 : Int32) (x3 : Int32) (x4 : Int32) (x5 : Int32) (S : gS) (H : Heap) (locs : List Loc) (ls : Array Slot), gX D (xcell g cI cB cZ cQ) xord g S s H locs → lv_has ls 7 [(0, .ref (g 0)), (1, .int x1), (2, .int x2), (3, .int x3), (4, .int x4), (5, .int x5)] → r10 x1 x2 x3 x4 x5 S = some o → W p l e (rmd 5) s m args below meth c H locs 0 0 (gE below args s D (xtys cI cB cZ cQ) (xcell g cI cB cZ cQ) xord g (some (.int o.1)) o.2) (F0 m 10 ls [])) (X : gX D (xcell g cI cB cZ cQ) xord g S s H locs) (hl : lv_has ls 7 [(0, .ref (g 0)), (1, .int x1), (2, .int x2), (4, .int x4), (5, .int x5), (6, .int x6)]) (hF : fX11_leastByHalves_b58 N r10 x1 x2 x4 x5 x6 S = some o) : W p l e (rmd 5) s m args below meth c H locs 0 0 (gE below args s D (xtys cI cB cZ cQ) (xcell g cI cB cZ cQ) xord g (some (.int o.1)) o.2) (F0 m 58 ls []) := by
  unfold fX11_leastByHalves_b58 at hF
  refine lv_iload C.1.1 C.1.2.1 dX11_leastByHalves_58 (lv_at hl 5 rfl) ?_
  refine lv_iconst (v := 1) C.1.1 C.1.2.1 dX11_leastByHalves_60 (by decide) ?_
  refine lv_iadd C.1.1 C.1.2.1 dX11_leastByHalves_61 ?_
  refine lv_istore_n (lv' := [(3, .int ((x6 + 1 : Int32))), (0, .ref (g 0)), (1, .int x1), (2, .int x2), (4, .int x4), (5, .int x5), (6, .int x6)]) C.1.1 C.1.2.1 dX11_leastByHalves_62 rfl hl (by decide) rfl (fun ls hl => ?_)
  exact bX11_leastByHalves_63 C O K10 X (lv_sub hl [1, 2, 3, 0, 4, 5] rfl) hF
noncomputable def fX11_leastByHalves_b51 (N : Nat) (r10 : Int32 → Int32 → Int32 → Int32 → Int32 → gS → Option (Int32 × gS)) (x1 : Int32) (x2 : Int32) (x3 : Int32) (x5 : Int32) (x6 : Int32) (S : gS) : Option (Int32 × gS) := fX11_leastByHalves_b63 N r10 x1 x2 x3 x6 x5 S
theorem bX11_leastByHalves_51 {N : Nat} {r10 : Int32 → Int32 → Int32 → Int32 → Int32 → gS → Option (Int32 × gS)} {x1 : Int32} {x2 : Int32} {x3 : Int32} {x5 : Int32} {x6 : Int32} {S : gS} {H : Heap} {locs : List Loc} {ls : Array Slot} {o : Int32 × gS} (C : gC p s m args meth c cX11_leastByHalves 7 RX11 ((some .int)) D (xtys cI cB cZ cQ) xord g Am) (O : xO g cI cB cZ cQ Am) (K10 : ∀ (x1 : Int32) (x2 : Int32) (x3 : Int32) (x4 : Int32) (x5 : Int32) (S : gS) (H : Heap) (locs : List Loc) (ls : Array Slot), gX D (xcell g cI cB cZ cQ) xord g S s H locs → lv_has ls 7 [(0, .ref (g 0)), (1, .int x1), (2, .int x2), (3, .int x3), (4, .int x4), (5, .int x5)] → r10 x1 x2 x3 x4 x5 S = some o → W p l e (rmd 5) s m args below meth c H locs 0 0 (gE below args s D (xtys cI cB cZ cQ) (xcell g cI cB cZ cQ) xord g (some (.int o.1)) o.2) (F0 m 10 ls [])) (X : gX D (xcell g cI cB cZ cQ) xord g S s H locs) (hl : lv_has ls 7 [(0, .ref (g 0)), (1, .int x1), (2, .int x2), (3, .int x3), (5, .int x5), (6, .int x6)]) (hF : fX11_leastByHalves_b51 N r10 x1 x2 x3 x5 x6 S = some o) : W p l e (rmd 5) s m args below meth c H locs 0 0 (gE below args s D (xtys cI cB cZ cQ) (xcell g cI cB cZ cQ) xord g (some (.int o.1)) o.2) (F0 m 51 ls []) := by
  unfold fX11_leastByHalves_b51 at hF
  refine lv_iload C.1.1 C.1.2.1 dX11_leastByHalves_51 (lv_at hl 5 rfl) ?_
  refine lv_istore (lv' := [(4, .int x6), (0, .ref (g 0)), (1, .int x1), (2, .int x2), (3, .int x3), (5, .int x5), (6, .int x6)]) C.1.1 C.1.2.1 dX11_leastByHalves_53 hl (by decide) rfl (fun ls hl => ?_)
  refine lv_goto (tgt := 63) C.1.1 C.1.2.1 dX11_leastByHalves_55 (by decide) ?_
  exact bX11_leastByHalves_63 C O K10 X (lv_sub hl [1, 2, 3, 4, 0, 5] rfl) hF
noncomputable def fX11_leastByHalves_b40 (N : Nat) (r10 : Int32 → Int32 → Int32 → Int32 → Int32 → gS → Option (Int32 × gS)) (x1 : Int32) (x2 : Int32) (x3 : Int32) (x4 : Int32) (x5 : Int32) (x6 : Int32) (S : gS) : Option (Int32 × gS) := bnd (fX11_keeps N x1 x2 x6 S) fun q1 => (if q1.1 = 0 then fX11_leastByHalves_b58 N r10 x1 x2 x4 x5 x6 q1.2 else fX11_leastByHalves_b51 N r10 x1 x2 x3 x5 x6 q1.2)
theorem bX11_leastByHalves_40 {N : Nat} {r10 : Int32 → Int32 → Int32 → Int32 → Int32 → gS → Option (Int32 × gS)} {x1 : Int32} {x2 : Int32} {x3 : Int32} {x4 : Int32} {x5 : Int32} {x6 : Int32} {S : gS} {H : Heap} {locs : List Loc} {ls : Array Slot} {o : Int32 × gS} (C : gC p s m args meth c cX11_leastByHalves 7 RX11 ((some .int)) D (xtys cI cB cZ cQ) xord g Am) (O : xO g cI cB cZ cQ Am) (K10 : ∀ (x1 : Int32) (x2 : Int32) (x3 : Int32) (x4 : Int32) (x5 : Int32) (S : gS) (H : Heap) (locs : List Loc) (ls : Array Slot), gX D (xcell g cI cB cZ cQ) xord g S s H locs → lv_has ls 7 [(0, .ref (g 0)), (1, .int x1), (2, .int x2), (3, .int x3), (4, .int x4), (5, .int x5)] → r10 x1 x2 x3 x4 x5 S = some o → W p l e (rmd 5) s m args below meth c H locs 0 0 (gE below args s D (xtys cI cB cZ cQ) (xcell g cI cB cZ cQ) xord g (some (.int o.1)) o.2) (F0 m 10 ls [])) (X : gX D (xcell g cI cB cZ cQ) xord g S s H locs) (hl : lv_has ls 7 [(0, .ref (g 0)), (1, .int x1), (2, .int x2), (3, .int x3), (4, .int x4), (5, .int x5), (6, .int x6)]) (hF : fX11_leastByHalves_b40 N r10 x1 x2 x3 x4 x5 x6 S = some o) : W p l e (rmd 5) s m args below meth c H locs 0 0 (gE below args s D (xtys cI cB cZ cQ) (xcell g cI cB cZ cQ) xord g (some (.int o.1)) o.2) (F0 m 40 ls []) := by
  unfold fX11_leastByHalves_b40 at hF
  refine lv_aload_n C.1.1 C.1.2.1 dX11_leastByHalves_40 rfl (lv_at hl 0 rfl) ?_
  refine lv_iload_n C.1.1 C.1.2.1 dX11_leastByHalves_41 rfl (lv_at hl 1 rfl) ?_
  refine lv_iload_n C.1.1 C.1.2.1 dX11_leastByHalves_42 rfl (lv_at hl 2 rfl) ?_
  refine lv_iload C.1.1 C.1.2.1 dX11_leastByHalves_43 (lv_at hl 6 rfl) ?_
  obtain ⟨q1, hq1, hF⟩ := bnd_some hF
  refine x_callVi C X (k := 0) xv_X11_395 (rfl : xk 0 = 11) rfl rfl (by decide) (kX11_keeps O C.2.2.2.2.1 N x1 x2 x6 S q1 hq1) (Nat.le_of_ble_eq_true rfl) (Nat.le_of_ble_eq_true rfl) (Nat.le_of_ble_eq_true rfl) (Nat.le_of_ble_eq_true rfl) rfl hl.1 rfl (Nat.le_of_ble_eq_true rfl) dX11_leastByHalves_45 (fun H locs X => ?_)
  refine lv_if_eq (tgt := 58) C.1.1 C.1.2.1 dX11_leastByHalves_48 (by decide) (fun h_z => ?_) (fun h_z => ?_)
  · rw [if_pos h_z] at hF
    exact bX11_leastByHalves_58 C O K10 X (lv_sub hl [0, 1, 2, 4, 5, 6] rfl) hF
  · rw [if_neg h_z] at hF
    exact bX11_leastByHalves_51 C O K10 X (lv_sub hl [0, 1, 2, 3, 5, 6] rfl) hF
noncomputable def fX11_leastByHalves_b24 (N : Nat) (r10 : Int32 → Int32 → Int32 → Int32 → Int32 → gS → Option (Int32 × gS)) (x1 : Int32) (x2 : Int32) (x3 : Int32) (x4 : Int32) (x5 : Int32) (S : gS) : Option (Int32 × gS) := if 999 < ((((x3 + x4 : Int32)) / 2 : Int32)) then fX11_leastByHalves_b51 N r10 x1 x2 x3 x5 ((((x3 + x4 : Int32)) / 2 : Int32)) S else fX11_leastByHalves_b40 N r10 x1 x2 x3 x4 x5 ((((x3 + x4 : Int32)) / 2 : Int32)) S
theorem bX11_leastByHalves_24 {N : Nat} {r10 : Int32 → Int32 → Int32 → Int32 → Int32 → gS → Option (Int32 × gS)} {x1 : Int32} {x2 : Int32} {x3 : Int32} {x4 : Int32} {x5 : Int32} {S : gS} {H : Heap} {locs : List Loc} {ls : Array Slot} {o : Int32 × gS} (C : gC p s m args meth c cX11_leastByHalves 7 RX11 ((some .int)) D (xtys cI cB cZ cQ) xord g Am) (O : xO g cI cB cZ cQ Am) (K10 : ∀ (x1 : Int32) (x2 : Int32) (x3 : Int32) (x4 : Int32) (x5 : Int32) (S : gS) (H : Heap) (locs : List Loc) (ls : Array Slot), gX D (xcell g cI cB cZ cQ) xord g S s H locs → lv_has ls 7 [(0, .ref (g 0)), (1, .int x1), (2, .int x2), (3, .int x3), (4, .int x4), (5, .int x5)] → r10 x1 x2 x3 x4 x5 S = some o → W p l e (rmd 5) s m args below meth c H locs 0 0 (gE below args s D (xtys cI cB cZ cQ) (xcell g cI cB cZ cQ) xord g (some (.int o.1)) o.2) (F0 m 10 ls [])) (X : gX D (xcell g cI cB cZ cQ) xord g S s H locs) (hl : lv_has ls 7 [(0, .ref (g 0)), (1, .int x1), (2, .int x2), (3, .int x3), (4, .int x4), (5, .int x5)]) (hF : fX11_leastByHalves_b24 N r10 x1 x2 x3 x4 x5 S = some o) : W p l e (rmd 5) s m args below meth c H locs 0 0 (gE below args s D (xtys cI cB cZ cQ) (xcell g cI cB cZ cQ) xord g (some (.int o.1)) o.2) (F0 m 24 ls []) := by
  unfold fX11_leastByHalves_b24 at hF
  refine lv_iload_n C.1.1 C.1.2.1 dX11_leastByHalves_24 rfl (lv_at hl 3 rfl) ?_
  refine lv_iload C.1.1 C.1.2.1 dX11_leastByHalves_25 (lv_at hl 4 rfl) ?_
  refine lv_iadd C.1.1 C.1.2.1 dX11_leastByHalves_27 ?_
  refine lv_iconst (v := 2) C.1.1 C.1.2.1 dX11_leastByHalves_28 (by decide) ?_
  refine lv_idiv C.1.1 C.1.2.1 dX11_leastByHalves_29 (by decide) ?_
  refine lv_istore (lv' := [(6, .int ((((x3 + x4 : Int32)) / 2 : Int32))), (0, .ref (g 0)), (1, .int x1), (2, .int x2), (3, .int x3), (4, .int x4), (5, .int x5)]) C.1.1 C.1.2.1 dX11_leastByHalves_30 hl (by decide) rfl (fun ls hl => ?_)
  refine lv_iload C.1.1 C.1.2.1 dX11_leastByHalves_32 (lv_at hl 0 rfl) ?_
  refine lv_sipush (v := 999) C.1.1 C.1.2.1 dX11_leastByHalves_34 (by decide) ?_
  refine lv_icmp_gt (tgt := 51) C.1.1 C.1.2.1 dX11_leastByHalves_37 (by decide) (fun h_z => ?_) (fun h_z => ?_)
  · rw [if_pos h_z] at hF
    exact bX11_leastByHalves_51 C O K10 X (lv_sub hl [1, 2, 3, 4, 6, 0] rfl) hF
  · rw [if_neg h_z] at hF
    exact bX11_leastByHalves_40 C O K10 X (lv_sub hl [1, 2, 3, 4, 5, 6, 0] rfl) hF
noncomputable def fX11_leastByHalves_b18 (N : Nat) (r10 : Int32 → Int32 → Int32 → Int32 → Int32 → gS → Option (Int32 × gS)) (x1 : Int32) (x2 : Int32) (x3 : Int32) (x4 : Int32) (x5 : Int32) (S : gS) : Option (Int32 × gS) := if x4 ≤ x3 then fX11_leastByHalves_b69 N x3 S else fX11_leastByHalves_b24 N r10 x1 x2 x3 x4 x5 S
theorem bX11_leastByHalves_18 {N : Nat} {r10 : Int32 → Int32 → Int32 → Int32 → Int32 → gS → Option (Int32 × gS)} {x1 : Int32} {x2 : Int32} {x3 : Int32} {x4 : Int32} {x5 : Int32} {S : gS} {H : Heap} {locs : List Loc} {ls : Array Slot} {o : Int32 × gS} (C : gC p s m args meth c cX11_leastByHalves 7 RX11 ((some .int)) D (xtys cI cB cZ cQ) xord g Am) (O : xO g cI cB cZ cQ Am) (K10 : ∀ (x1 : Int32) (x2 : Int32) (x3 : Int32) (x4 : Int32) (x5 : Int32) (S : gS) (H : Heap) (locs : List Loc) (ls : Array Slot), gX D (xcell g cI cB cZ cQ) xord g S s H locs → lv_has ls 7 [(0, .ref (g 0)), (1, .int x1), (2, .int x2), (3, .int x3), (4, .int x4), (5, .int x5)] → r10 x1 x2 x3 x4 x5 S = some o → W p l e (rmd 5) s m args below meth c H locs 0 0 (gE below args s D (xtys cI cB cZ cQ) (xcell g cI cB cZ cQ) xord g (some (.int o.1)) o.2) (F0 m 10 ls [])) (X : gX D (xcell g cI cB cZ cQ) xord g S s H locs) (hl : lv_has ls 7 [(0, .ref (g 0)), (1, .int x1), (2, .int x2), (3, .int x3), (4, .int x4), (5, .int x5)]) (hF : fX11_leastByHalves_b18 N r10 x1 x2 x3 x4 x5 S = some o) : W p l e (rmd 5) s m args below meth c H locs 0 0 (gE below args s D (xtys cI cB cZ cQ) (xcell g cI cB cZ cQ) xord g (some (.int o.1)) o.2) (F0 m 18 ls []) := by
  unfold fX11_leastByHalves_b18 at hF
  refine lv_iload_n C.1.1 C.1.2.1 dX11_leastByHalves_18 rfl (lv_at hl 3 rfl) ?_
  refine lv_iload C.1.1 C.1.2.1 dX11_leastByHalves_19 (lv_at hl 4 rfl) ?_
  refine lv_icmp_ge (tgt := 69) C.1.1 C.1.2.1 dX11_leastByHalves_21 (by decide) (fun h_z => ?_) (fun h_z => ?_)
  · rw [if_pos h_z] at hF
    exact bX11_leastByHalves_69 C O X (lv_sub hl [3] rfl) hF
  · rw [if_neg h_z] at hF
    exact bX11_leastByHalves_24 C O K10 X (lv_sub hl [0, 1, 2, 3, 4, 5] rfl) hF
noncomputable def fX11_leastByHalves_b10 (N : Nat) (r10 : Int32 → Int32 → Int32 → Int32 → Int32 → gS → Option (Int32 × gS)) (x1 : Int32) (x2 : Int32) (x3 : Int32) (x4 : Int32) (x5 : Int32) (S : gS) : Option (Int32 × gS) := if 999 < x5 then fX11_leastByHalves_b69 N x3 S else fX11_leastByHalves_b18 N r10 x1 x2 x3 x4 x5 S
theorem bX11_leastByHalves_10 {N : Nat} {r10 : Int32 → Int32 → Int32 → Int32 → Int32 → gS → Option (Int32 × gS)} {x1 : Int32} {x2 : Int32} {x3 : Int32} {x4 : Int32} {x5 : Int32} {S : gS} {H : Heap} {locs : List Loc} {ls : Array Slot} {o : Int32 × gS} (C : gC p s m args meth c cX11_leastByHalves 7 RX11 ((some .int)) D (xtys cI cB cZ cQ) xord g Am) (O : xO g cI cB cZ cQ Am) (K10 : ∀ (x1 : Int32) (x2 : Int32) (x3 : Int32) (x4 : Int32) (x5 : Int32) (S : gS) (H : Heap) (locs : List Loc) (ls : Array Slot), gX D (xcell g cI cB cZ cQ) xord g S s H locs → lv_has ls 7 [(0, .ref (g 0)), (1, .int x1), (2, .int x2), (3, .int x3), (4, .int x4), (5, .int x5)] → r10 x1 x2 x3 x4 x5 S = some o → W p l e (rmd 5) s m args below meth c H locs 0 0 (gE below args s D (xtys cI cB cZ cQ) (xcell g cI cB cZ cQ) xord g (some (.int o.1)) o.2) (F0 m 10 ls [])) (X : gX D (xcell g cI cB cZ cQ) xord g S s H locs) (hl : lv_has ls 7 [(0, .ref (g 0)), (1, .int x1), (2, .int x2), (3, .int x3), (4, .int x4), (5, .int x5)]) (hF : fX11_leastByHalves_b10 N r10 x1 x2 x3 x4 x5 S = some o) : W p l e (rmd 5) s m args below meth c H locs 0 0 (gE below args s D (xtys cI cB cZ cQ) (xcell g cI cB cZ cQ) xord g (some (.int o.1)) o.2) (F0 m 10 ls []) := by
  unfold fX11_leastByHalves_b10 at hF
  refine lv_iload C.1.1 C.1.2.1 dX11_leastByHalves_10 (lv_at hl 5 rfl) ?_
  refine lv_sipush (v := 999) C.1.1 C.1.2.1 dX11_leastByHalves_12 (by decide) ?_
  refine lv_icmp_gt (tgt := 69) C.1.1 C.1.2.1 dX11_leastByHalves_15 (by decide) (fun h_z => ?_) (fun h_z => ?_)
  · rw [if_pos h_z] at hF
    exact bX11_leastByHalves_69 C O X (lv_sub hl [3] rfl) hF
  · rw [if_neg h_z] at hF
    exact bX11_leastByHalves_18 C O K10 X (lv_sub hl [0, 1, 2, 3, 4, 5] rfl) hF
noncomputable def fX11_leastByHalves_h10 (N : Nat) : Nat → Int32 → Int32 → Int32 → Int32 → Int32 → gS → Option (Int32 × gS)
  | 0, _, _, _, _, _, _ => none
  | n + 1, x1, x2, x3, x4, x5, S => fX11_leastByHalves_b10 N (fX11_leastByHalves_h10 N n) x1 x2 x3 x4 x5 S
theorem hX11_leastByHalves_10 {N : Nat} {o : Int32 × gS} (C : gC p s m args meth c cX11_leastByHalves 7 RX11 ((some .int)) D (xtys cI cB cZ cQ) xord g Am) (O : xO g cI cB cZ cQ Am) : ∀ (n : Nat) (x1 : Int32) (x2 : Int32) (x3 : Int32) (x4 : Int32) (x5 : Int32) (S : gS) (H : Heap) (locs : List Loc) (ls : Array Slot), gX D (xcell g cI cB cZ cQ) xord g S s H locs → lv_has ls 7 [(0, .ref (g 0)), (1, .int x1), (2, .int x2), (3, .int x3), (4, .int x4), (5, .int x5)] → fX11_leastByHalves_h10 N n x1 x2 x3 x4 x5 S = some o → W p l e (rmd 5) s m args below meth c H locs 0 0 (gE below args s D (xtys cI cB cZ cQ) (xcell g cI cB cZ cQ) xord g (some (.int o.1)) o.2) (F0 m 10 ls []) := by
  intro n
  induction n with
  | zero =>
    intro x1 x2 x3 x4 x5 S H locs ls X hl hF
    exact absurd (show (none : Option (Int32 × gS)) = some o from hF) (by simp)
  | succ n ih =>
    intro x1 x2 x3 x4 x5 S H locs ls X hl hF
    have hF : fX11_leastByHalves_b10 N (fX11_leastByHalves_h10 N n) x1 x2 x3 x4 x5 S = some o := hF
    exact bX11_leastByHalves_10 C O ih X hl hF
noncomputable def fX11_leastByHalves_b0 (N : Nat) (x1 : Int32) (x2 : Int32) (S : gS) : Option (Int32 × gS) := fX11_leastByHalves_h10 N N x1 x2 0 1000 0 S
theorem bX11_leastByHalves_0 {N : Nat} {x1 : Int32} {x2 : Int32} {S : gS} {H : Heap} {locs : List Loc} {ls : Array Slot} {o : Int32 × gS} (C : gC p s m args meth c cX11_leastByHalves 7 RX11 ((some .int)) D (xtys cI cB cZ cQ) xord g Am) (O : xO g cI cB cZ cQ Am) (X : gX D (xcell g cI cB cZ cQ) xord g S s H locs) (hl : lv_has ls 7 [(0, .ref (g 0)), (1, .int x1), (2, .int x2)]) (hF : fX11_leastByHalves_b0 N x1 x2 S = some o) : W p l e (rmd 5) s m args below meth c H locs 0 0 (gE below args s D (xtys cI cB cZ cQ) (xcell g cI cB cZ cQ) xord g (some (.int o.1)) o.2) (F0 m 0 ls []) := by
  unfold fX11_leastByHalves_b0 at hF
  refine lv_iconst (v := 0) C.1.1 C.1.2.1 dX11_leastByHalves_0 (by decide) ?_
  refine lv_istore_n (lv' := [(3, .int 0), (0, .ref (g 0)), (1, .int x1), (2, .int x2)]) C.1.1 C.1.2.1 dX11_leastByHalves_1 rfl hl (by decide) rfl (fun ls hl => ?_)
  refine lv_sipush (v := 1000) C.1.1 C.1.2.1 dX11_leastByHalves_2 (by decide) ?_
  refine lv_istore (lv' := [(4, .int 1000), (3, .int 0), (0, .ref (g 0)), (1, .int x1), (2, .int x2)]) C.1.1 C.1.2.1 dX11_leastByHalves_5 hl (by decide) rfl (fun ls hl => ?_)
  refine lv_iconst (v := 0) C.1.1 C.1.2.1 dX11_leastByHalves_7 (by decide) ?_
  refine lv_istore (lv' := [(5, .int 0), (4, .int 1000), (3, .int 0), (0, .ref (g 0)), (1, .int x1), (2, .int x2)]) C.1.1 C.1.2.1 dX11_leastByHalves_8 hl (by decide) rfl (fun ls hl => ?_)
  exact hX11_leastByHalves_10 C O N _ _ _ _ _ _ _ _ _ X (lv_sub hl [3, 4, 5, 2, 1, 0] rfl) hF
noncomputable def fX11_leastByHalves (N : Nat) (x1 : Int32) (x2 : Int32) (S : gS) : Option (Int32 × gS) := fX11_leastByHalves_b0 N x1 x2 S
theorem kX11_leastByHalves {l : Launch} {D : va_G} {g : Nat → Nat} {cI cB cZ cQ : ClassId} {Am : (Nat → Prop) → State → Heap → Prop} (O : xO g cI cB cZ cQ Am) (P : gAm Am) (N : Nat) (x1 : Int32) (x2 : Int32) (S : gS) (o : Int32 × gS) (hF : fX11_leastByHalves N x1 x2 S = some o) : gM l yX11_leastByHalves cX11_leastByHalves 7 ((some .int)) 5 D (xtys cI cB cZ cQ) (xcell g cI cB cZ cQ) xord g Am [.ref (g 0), .int x1, .int x2] S (some (.int o.1)) o.2 :=
  gM_of O.1 P (by decide) (Nat.le_of_ble_eq_true rfl) (fun p e s m args below meth c ls C X hl => bX11_leastByHalves_0 C O X (lv_sub hl [0, 1, 2] rfl) hF)
-- X11.quietHours
noncomputable def fX11_quietHours_b80 (N : Nat) (x3 : Int32) (S : gS) : Option (Int32 × gS) := some (x3, S)
theorem bX11_quietHours_80 {N : Nat} {x3 : Int32} {S : gS} {H : Heap} {locs : List Loc} {ls : Array Slot} {o : Int32 × gS} (C : gC p s m args meth c cX11_quietHours 5 RX11 ((some .int)) D (xtys cI cB cZ cQ) xord g Am) (O : xO g cI cB cZ cQ Am) (X : gX D (xcell g cI cB cZ cQ) xord g S s H locs) (hl : lv_has ls 5 [(3, .int x3)]) (hF : fX11_quietHours_b80 N x3 S = some o) : W p l e (rmd 4) s m args below meth c H locs 0 0 (gE below args s D (xtys cI cB cZ cQ) (xcell g cI cB cZ cQ) xord g (some (.int o.1)) o.2) (F0 m 80 ls []) := by
  unfold fX11_quietHours_b80 at hF
  refine lv_iload_n C.1.1 C.1.2.1 dX11_quietHours_80 rfl (lv_at hl 0 rfl) ?_
  cases hF
  exact g_iret C X dX11_quietHours_81
noncomputable def fX11_quietHours_b74 (N : Nat) (r36 : Int32 → Int32 → gS → Option (Int32 × gS)) (x3 : Int32) (x4 : Int32) (S : gS) : Option (Int32 × gS) := r36 x3 ((x4 + 1 : Int32)) S
theorem bX11_quietHours_74 {N : Nat} {r36 : Int32 → Int32 → gS → Option (Int32 × gS)} {x3 : Int32} {x4 : Int32} {S : gS} {H : Heap} {locs : List Loc} {ls : Array Slot} {o : Int32 × gS} (C : gC p s m args meth c cX11_quietHours 5 RX11 ((some .int)) D (xtys cI cB cZ cQ) xord g Am) (O : xO g cI cB cZ cQ Am) (K36 : ∀ (x3 : Int32) (x4 : Int32) (S : gS) (H : Heap) (locs : List Loc) (ls : Array Slot), gX D (xcell g cI cB cZ cQ) xord g S s H locs → lv_has ls 5 [(0, .ref (g 0)), (3, .int x3), (4, .int x4)] → r36 x3 x4 S = some o → W p l e (rmd 4) s m args below meth c H locs 0 0 (gE below args s D (xtys cI cB cZ cQ) (xcell g cI cB cZ cQ) xord g (some (.int o.1)) o.2) (F0 m 36 ls [])) (X : gX D (xcell g cI cB cZ cQ) xord g S s H locs) (hl : lv_has ls 5 [(0, .ref (g 0)), (3, .int x3), (4, .int x4)]) (hF : fX11_quietHours_b74 N r36 x3 x4 S = some o) : W p l e (rmd 4) s m args below meth c H locs 0 0 (gE below args s D (xtys cI cB cZ cQ) (xcell g cI cB cZ cQ) xord g (some (.int o.1)) o.2) (F0 m 74 ls []) := by
  unfold fX11_quietHours_b74 at hF
  refine lv_iinc (v := (x4 + 1 : Int32)) (lv' := [(4, .int ((x4 + 1 : Int32))), (0, .ref (g 0)), (3, .int x3)]) C.1.1 C.1.2.1 dX11_quietHours_74 hl (k := 2) rfl rfl (by decide) rfl (fun ls hl => ?_)
  refine lv_goto (tgt := 36) C.1.1 C.1.2.1 dX11_quietHours_77 (by decide) ?_
  exact K36 _ _ _ _ _ _ X (lv_sub hl [1, 2, 0] rfl) hF
noncomputable def fX11_quietHours_b71 (N : Nat) (r36 : Int32 → Int32 → gS → Option (Int32 × gS)) (x3 : Int32) (x4 : Int32) (S : gS) : Option (Int32 × gS) := fX11_quietHours_b74 N r36 ((x3 + 1 : Int32)) x4 S
theorem bX11_quietHours_71 {N : Nat} {r36 : Int32 → Int32 → gS → Option (Int32 × gS)} {x3 : Int32} {x4 : Int32} {S : gS} {H : Heap} {locs : List Loc} {ls : Array Slot} {o : Int32 × gS} (C : gC p s m args meth c cX11_quietHours 5 RX11 ((some .int)) D (xtys cI cB cZ cQ) xord g Am) (O : xO g cI cB cZ cQ Am) (K36 : ∀ (x3 : Int32) (x4 : Int32) (S : gS) (H : Heap) (locs : List Loc) (ls : Array Slot), gX D (xcell g cI cB cZ cQ) xord g S s H locs → lv_has ls 5 [(0, .ref (g 0)), (3, .int x3), (4, .int x4)] → r36 x3 x4 S = some o → W p l e (rmd 4) s m args below meth c H locs 0 0 (gE below args s D (xtys cI cB cZ cQ) (xcell g cI cB cZ cQ) xord g (some (.int o.1)) o.2) (F0 m 36 ls [])) (X : gX D (xcell g cI cB cZ cQ) xord g S s H locs) (hl : lv_has ls 5 [(0, .ref (g 0)), (3, .int x3), (4, .int x4)]) (hF : fX11_quietHours_b71 N r36 x3 x4 S = some o) : W p l e (rmd 4) s m args below meth c H locs 0 0 (gE below args s D (xtys cI cB cZ cQ) (xcell g cI cB cZ cQ) xord g (some (.int o.1)) o.2) (F0 m 71 ls []) := by
  unfold fX11_quietHours_b71 at hF
  refine lv_iinc (v := (x3 + 1 : Int32)) (lv' := [(3, .int ((x3 + 1 : Int32))), (0, .ref (g 0)), (4, .int x4)]) C.1.1 C.1.2.1 dX11_quietHours_71 hl (k := 1) rfl rfl (by decide) rfl (fun ls hl => ?_)
  exact bX11_quietHours_74 C O K36 X (lv_sub hl [1, 0, 2] rfl) hF
noncomputable def fX11_quietHours_b43 (N : Nat) (r36 : Int32 → Int32 → gS → Option (Int32 × gS)) (x3 : Int32) (x4 : Int32) (S : gS) : Option (Int32 × gS) := lt (xtw S) fun T1 => (lt (xtw S) fun T2 => (bnd (fX9_wetOf N T2 (S 51 5) S) fun q1 => (bnd (fX10_passHour N T1 q1.1 q1.2) fun q2 => (if q2.1 = 0 then fX11_quietHours_b71 N r36 x3 x4 q2.2 else fX11_quietHours_b74 N r36 x3 x4 q2.2))))
theorem bX11_quietHours_43 {N : Nat} {r36 : Int32 → Int32 → gS → Option (Int32 × gS)} {x3 : Int32} {x4 : Int32} {S : gS} {H : Heap} {locs : List Loc} {ls : Array Slot} {o : Int32 × gS} (C : gC p s m args meth c cX11_quietHours 5 RX11 ((some .int)) D (xtys cI cB cZ cQ) xord g Am) (O : xO g cI cB cZ cQ Am) (K36 : ∀ (x3 : Int32) (x4 : Int32) (S : gS) (H : Heap) (locs : List Loc) (ls : Array Slot), gX D (xcell g cI cB cZ cQ) xord g S s H locs → lv_has ls 5 [(0, .ref (g 0)), (3, .int x3), (4, .int x4)] → r36 x3 x4 S = some o → W p l e (rmd 4) s m args below meth c H locs 0 0 (gE below args s D (xtys cI cB cZ cQ) (xcell g cI cB cZ cQ) xord g (some (.int o.1)) o.2) (F0 m 36 ls [])) (X : gX D (xcell g cI cB cZ cQ) xord g S s H locs) (hl : lv_has ls 5 [(0, .ref (g 0)), (3, .int x3), (4, .int x4)]) (hF : fX11_quietHours_b43 N r36 x3 x4 S = some o) : W p l e (rmd 4) s m args below meth c H locs 0 0 (gE below args s D (xtys cI cB cZ cQ) (xcell g cI cB cZ cQ) xord g (some (.int o.1)) o.2) (F0 m 43 ls []) := by
  unfold fX11_quietHours_b43 at hF
  refine lv_aload_n C.1.1 C.1.2.1 dX11_quietHours_43 rfl (lv_at hl 0 rfl) ?_
  refine xg_X11_36 C O X (k := 0) rfl (j := 51) rfl dX11_quietHours_44 ?_
  refine lv_aload_n C.1.1 C.1.2.1 dX11_quietHours_47 rfl (lv_at hl 0 rfl) ?_
  obtain ⟨T1, eT1, hF⟩ := lt_some hF
  have hk_T1 := xtw_k eT1
  refine xg_X11_57 C O X (T := T1) eT1 (k := 0) rfl dX11_quietHours_48 ?_
  refine lv_aload_n C.1.1 C.1.2.1 dX11_quietHours_51 rfl (lv_at hl 0 rfl) ?_
  obtain ⟨T2, eT2, hF⟩ := lt_some hF
  have hk_T2 := xtw_k eT2
  refine xg_X11_57 C O X (T := T2) eT2 (k := 0) rfl dX11_quietHours_52 ?_
  refine lv_aload_n C.1.1 C.1.2.1 dX11_quietHours_55 rfl (lv_at hl 0 rfl) ?_
  refine xg_X11_36 C O X (k := 0) rfl (j := 51) rfl dX11_quietHours_56 ?_
  refine xg_X11_261 C O X (k := 51) rfl dX11_quietHours_59 ?_
  obtain ⟨q1, hq1, hF⟩ := bnd_some hF
  refine x_callVi C X (k := T2) xv_X11_117 hk_T2 rfl rfl (by decide) (kX9_wetOf O C.2.2.2.2.1 N T2 (S 51 5) (hk_T2 : xk T2 = 9) S q1 hq1) (Nat.le_of_ble_eq_true rfl) (Nat.le_of_ble_eq_true rfl) (Nat.le_of_ble_eq_true rfl) (Nat.le_of_ble_eq_true rfl) rfl hl.1 rfl (Nat.le_of_ble_eq_true rfl) dX11_quietHours_62 (fun H locs X => ?_)
  obtain ⟨q2, hq2, hF⟩ := bnd_some hF
  refine x_callVi C X (k := 51) xv_X11_262 (rfl : xk 51 = 10) rfl rfl (by decide) (kX10_passHour O C.2.2.2.2.1 N T1 q1.1 (hk_T1 : xk T1 = 9) q1.2 q2 hq2) (Nat.le_of_ble_eq_true rfl) (Nat.le_of_ble_eq_true rfl) (Nat.le_of_ble_eq_true rfl) (Nat.le_of_ble_eq_true rfl) rfl hl.1 rfl (Nat.le_of_ble_eq_true rfl) dX11_quietHours_65 (fun H locs X => ?_)
  refine lv_if_ne (tgt := 74) C.1.1 C.1.2.1 dX11_quietHours_68 (by decide) (fun h_z => ?_) (fun h_z => ?_)
  · rw [if_neg h_z] at hF
    exact bX11_quietHours_74 C O K36 X (lv_sub hl [0, 1, 2] rfl) hF
  · rw [if_pos h_z] at hF
    exact bX11_quietHours_71 C O K36 X (lv_sub hl [0, 1, 2] rfl) hF
noncomputable def fX11_quietHours_b36 (N : Nat) (r36 : Int32 → Int32 → gS → Option (Int32 × gS)) (x3 : Int32) (x4 : Int32) (S : gS) : Option (Int32 × gS) := if 8 ≤ x4 then fX11_quietHours_b80 N x3 S else fX11_quietHours_b43 N r36 x3 x4 S
theorem bX11_quietHours_36 {N : Nat} {r36 : Int32 → Int32 → gS → Option (Int32 × gS)} {x3 : Int32} {x4 : Int32} {S : gS} {H : Heap} {locs : List Loc} {ls : Array Slot} {o : Int32 × gS} (C : gC p s m args meth c cX11_quietHours 5 RX11 ((some .int)) D (xtys cI cB cZ cQ) xord g Am) (O : xO g cI cB cZ cQ Am) (K36 : ∀ (x3 : Int32) (x4 : Int32) (S : gS) (H : Heap) (locs : List Loc) (ls : Array Slot), gX D (xcell g cI cB cZ cQ) xord g S s H locs → lv_has ls 5 [(0, .ref (g 0)), (3, .int x3), (4, .int x4)] → r36 x3 x4 S = some o → W p l e (rmd 4) s m args below meth c H locs 0 0 (gE below args s D (xtys cI cB cZ cQ) (xcell g cI cB cZ cQ) xord g (some (.int o.1)) o.2) (F0 m 36 ls [])) (X : gX D (xcell g cI cB cZ cQ) xord g S s H locs) (hl : lv_has ls 5 [(0, .ref (g 0)), (3, .int x3), (4, .int x4)]) (hF : fX11_quietHours_b36 N r36 x3 x4 S = some o) : W p l e (rmd 4) s m args below meth c H locs 0 0 (gE below args s D (xtys cI cB cZ cQ) (xcell g cI cB cZ cQ) xord g (some (.int o.1)) o.2) (F0 m 36 ls []) := by
  unfold fX11_quietHours_b36 at hF
  refine lv_iload C.1.1 C.1.2.1 dX11_quietHours_36 (lv_at hl 2 rfl) ?_
  refine lv_bipush (v := 8) C.1.1 C.1.2.1 dX11_quietHours_38 (by decide) ?_
  refine lv_icmp_ge (tgt := 80) C.1.1 C.1.2.1 dX11_quietHours_40 (by decide) (fun h_z => ?_) (fun h_z => ?_)
  · rw [if_pos h_z] at hF
    exact bX11_quietHours_80 C O X (lv_sub hl [1] rfl) hF
  · rw [if_neg h_z] at hF
    exact bX11_quietHours_43 C O K36 X (lv_sub hl [0, 1, 2] rfl) hF
noncomputable def fX11_quietHours_h36 (N : Nat) : Nat → Int32 → Int32 → gS → Option (Int32 × gS)
  | 0, _, _, _ => none
  | n + 1, x3, x4, S => fX11_quietHours_b36 N (fX11_quietHours_h36 N n) x3 x4 S
theorem hX11_quietHours_36 {N : Nat} {o : Int32 × gS} (C : gC p s m args meth c cX11_quietHours 5 RX11 ((some .int)) D (xtys cI cB cZ cQ) xord g Am) (O : xO g cI cB cZ cQ Am) : ∀ (n : Nat) (x3 : Int32) (x4 : Int32) (S : gS) (H : Heap) (locs : List Loc) (ls : Array Slot), gX D (xcell g cI cB cZ cQ) xord g S s H locs → lv_has ls 5 [(0, .ref (g 0)), (3, .int x3), (4, .int x4)] → fX11_quietHours_h36 N n x3 x4 S = some o → W p l e (rmd 4) s m args below meth c H locs 0 0 (gE below args s D (xtys cI cB cZ cQ) (xcell g cI cB cZ cQ) xord g (some (.int o.1)) o.2) (F0 m 36 ls []) := by
  intro n
  induction n with
  | zero =>
    intro x3 x4 S H locs ls X hl hF
    exact absurd (show (none : Option (Int32 × gS)) = some o from hF) (by simp)
  | succ n ih =>
    intro x3 x4 S H locs ls X hl hF
    have hF : fX11_quietHours_b36 N (fX11_quietHours_h36 N n) x3 x4 S = some o := hF
    exact bX11_quietHours_36 C O ih X hl hF
noncomputable def fX11_quietHours_b31 (N : Nat) (S : gS) : Option (Int32 × gS) := fX11_quietHours_h36 N N 0 0 S
theorem bX11_quietHours_31 {N : Nat} {S : gS} {H : Heap} {locs : List Loc} {ls : Array Slot} {o : Int32 × gS} (C : gC p s m args meth c cX11_quietHours 5 RX11 ((some .int)) D (xtys cI cB cZ cQ) xord g Am) (O : xO g cI cB cZ cQ Am) (X : gX D (xcell g cI cB cZ cQ) xord g S s H locs) (hl : lv_has ls 5 [(0, .ref (g 0))]) (hF : fX11_quietHours_b31 N S = some o) : W p l e (rmd 4) s m args below meth c H locs 0 0 (gE below args s D (xtys cI cB cZ cQ) (xcell g cI cB cZ cQ) xord g (some (.int o.1)) o.2) (F0 m 31 ls []) := by
  unfold fX11_quietHours_b31 at hF
  refine lv_iconst (v := 0) C.1.1 C.1.2.1 dX11_quietHours_31 (by decide) ?_
  refine lv_istore_n (lv' := [(3, .int 0), (0, .ref (g 0))]) C.1.1 C.1.2.1 dX11_quietHours_32 rfl hl (by decide) rfl (fun ls hl => ?_)
  refine lv_iconst (v := 0) C.1.1 C.1.2.1 dX11_quietHours_33 (by decide) ?_
  refine lv_istore (lv' := [(4, .int 0), (3, .int 0), (0, .ref (g 0))]) C.1.1 C.1.2.1 dX11_quietHours_34 hl (by decide) rfl (fun ls hl => ?_)
  exact hX11_quietHours_36 C O N _ _ _ _ _ _ X (lv_sub hl [2, 1, 0] rfl) hF
noncomputable def fX11_quietHours_b24 (N : Nat) (S : gS) : Option (Int32 × gS) := bnd (fX10_repent N S) fun q1 => (fX11_quietHours_b31 N q1.2)
theorem bX11_quietHours_24 {N : Nat} {S : gS} {H : Heap} {locs : List Loc} {ls : Array Slot} {o : Int32 × gS} (C : gC p s m args meth c cX11_quietHours 5 RX11 ((some .int)) D (xtys cI cB cZ cQ) xord g Am) (O : xO g cI cB cZ cQ Am) (X : gX D (xcell g cI cB cZ cQ) xord g S s H locs) (hl : lv_has ls 5 [(0, .ref (g 0))]) (hF : fX11_quietHours_b24 N S = some o) : W p l e (rmd 4) s m args below meth c H locs 0 0 (gE below args s D (xtys cI cB cZ cQ) (xcell g cI cB cZ cQ) xord g (some (.int o.1)) o.2) (F0 m 24 ls []) := by
  unfold fX11_quietHours_b24 at hF
  refine lv_aload_n C.1.1 C.1.2.1 dX11_quietHours_24 rfl (lv_at hl 0 rfl) ?_
  refine xg_X11_36 C O X (k := 0) rfl (j := 51) rfl dX11_quietHours_25 ?_
  obtain ⟨q1, hq1, hF⟩ := bnd_some hF
  refine x_callV C X (k := 51) xv_X11_322 (rfl : xk 51 = 10) rfl rfl (by decide) (kX10_repent O C.2.2.2.2.1 N S q1 hq1) (Nat.le_of_ble_eq_true rfl) (Nat.le_of_ble_eq_true rfl) (Nat.le_of_ble_eq_true rfl) (Nat.le_of_ble_eq_true rfl) rfl hl.1 rfl (Nat.le_of_ble_eq_true rfl) dX11_quietHours_28 (fun H locs X => ?_)
  exact bX11_quietHours_31 C O X (lv_sub hl [0] rfl) hF
noncomputable def fX11_quietHours_b0 (N : Nat) (x1 : Int32) (x2 : Int32) (S : gS) : Option (Int32 × gS) := lt (xtw S) fun T1 => (bnd (fX10_begin N T1 21 x1 S) fun q1 => (if x2 = 1 then fX11_quietHours_b24 N q1.2 else fX11_quietHours_b31 N q1.2))
theorem bX11_quietHours_0 {N : Nat} {x1 : Int32} {x2 : Int32} {S : gS} {H : Heap} {locs : List Loc} {ls : Array Slot} {o : Int32 × gS} (C : gC p s m args meth c cX11_quietHours 5 RX11 ((some .int)) D (xtys cI cB cZ cQ) xord g Am) (O : xO g cI cB cZ cQ Am) (X : gX D (xcell g cI cB cZ cQ) xord g S s H locs) (hl : lv_has ls 5 [(0, .ref (g 0)), (1, .int x1), (2, .int x2)]) (hF : fX11_quietHours_b0 N x1 x2 S = some o) : W p l e (rmd 4) s m args below meth c H locs 0 0 (gE below args s D (xtys cI cB cZ cQ) (xcell g cI cB cZ cQ) xord g (some (.int o.1)) o.2) (F0 m 0 ls []) := by
  unfold fX11_quietHours_b0 at hF
  refine lv_aload_n C.1.1 C.1.2.1 dX11_quietHours_0 rfl (lv_at hl 0 rfl) ?_
  refine xg_X11_36 C O X (k := 0) rfl (j := 51) rfl dX11_quietHours_1 ?_
  refine lv_aload_n C.1.1 C.1.2.1 dX11_quietHours_4 rfl (lv_at hl 0 rfl) ?_
  obtain ⟨T1, eT1, hF⟩ := lt_some hF
  have hk_T1 := xtw_k eT1
  refine xg_X11_57 C O X (T := T1) eT1 (k := 0) rfl dX11_quietHours_5 ?_
  refine lv_aload_n C.1.1 C.1.2.1 dX11_quietHours_8 rfl (lv_at hl 0 rfl) ?_
  refine xg_X11_19 C O X (k := 0) rfl (j := 20) rfl dX11_quietHours_9 ?_
  refine xg_X11_105 C O X (k := 20) rfl (j := 21) rfl dX11_quietHours_12 ?_
  refine lv_iload_n C.1.1 C.1.2.1 dX11_quietHours_15 rfl (lv_at hl 1 rfl) ?_
  obtain ⟨q1, hq1, hF⟩ := bnd_some hF
  refine x_callV C X (k := 51) xv_X11_243 (rfl : xk 51 = 10) rfl rfl (by decide) (kX10_begin O C.2.2.2.2.1 N T1 21 x1 (hk_T1 : xk T1 = 9) (rfl : xk 21 = 7) S q1 hq1) (Nat.le_of_ble_eq_true rfl) (Nat.le_of_ble_eq_true rfl) (Nat.le_of_ble_eq_true rfl) (Nat.le_of_ble_eq_true rfl) rfl hl.1 rfl (Nat.le_of_ble_eq_true rfl) dX11_quietHours_16 (fun H locs X => ?_)
  refine lv_iload_n C.1.1 C.1.2.1 dX11_quietHours_19 rfl (lv_at hl 2 rfl) ?_
  refine lv_iconst (v := 1) C.1.1 C.1.2.1 dX11_quietHours_20 (by decide) ?_
  refine lv_icmp_ne (tgt := 31) C.1.1 C.1.2.1 dX11_quietHours_21 (by decide) (fun h_z => ?_) (fun h_z => ?_)
  · rw [if_neg h_z] at hF
    exact bX11_quietHours_31 C O X (lv_sub hl [0] rfl) hF
  · rw [if_pos h_z] at hF
    exact bX11_quietHours_24 C O X (lv_sub hl [0] rfl) hF
noncomputable def fX11_quietHours (N : Nat) (x1 : Int32) (x2 : Int32) (S : gS) : Option (Int32 × gS) := fX11_quietHours_b0 N x1 x2 S
theorem kX11_quietHours {l : Launch} {D : va_G} {g : Nat → Nat} {cI cB cZ cQ : ClassId} {Am : (Nat → Prop) → State → Heap → Prop} (O : xO g cI cB cZ cQ Am) (P : gAm Am) (N : Nat) (x1 : Int32) (x2 : Int32) (S : gS) (o : Int32 × gS) (hF : fX11_quietHours N x1 x2 S = some o) : gM l yX11_quietHours cX11_quietHours 5 ((some .int)) 4 D (xtys cI cB cZ cQ) (xcell g cI cB cZ cQ) xord g Am [.ref (g 0), .int x1, .int x2] S (some (.int o.1)) o.2 :=
  gM_of O.1 P (by decide) (Nat.le_of_ble_eq_true rfl) (fun p e s m args below meth c ls C X hl => bX11_quietHours_0 C O X (lv_sub hl [0, 1, 2] rfl) hF)
-- X2.follow
noncomputable def fX2_follow_b35 (N : Nat) (S : gS) : Option (Int32 × gS) := some (0, S)
theorem bX2_follow_35 {N : Nat} {S : gS} {H : Heap} {locs : List Loc} {ls : Array Slot} {o : Int32 × gS} (C : gC p s m args meth c cX2_follow 4 RX2 none D (xtys cI cB cZ cQ) xord g Am) (O : xO g cI cB cZ cQ Am) (X : gX D (xcell g cI cB cZ cQ) xord g S s H locs) (hl : lv_has ls 4 []) (hF : fX2_follow_b35 N S = some o) : W p l e (rmd 4) s m args below meth c H locs 0 0 (gE below args s D (xtys cI cB cZ cQ) (xcell g cI cB cZ cQ) xord g none o.2) (F0 m 35 ls []) := by
  unfold fX2_follow_b35 at hF
  cases hF
  exact g_vret C X dX2_follow_35
noncomputable def fX2_follow_b8 (N : Nat) (r2 : Nat → Nat → Int32 → gS → Option (Int32 × gS)) (k0 : Nat) (k2 : Nat) (x3 : Int32) (S : gS) : Option (Int32 × gS) := chk (inb x3 (xN k2)) (lt (sU S k2 (Int32.toNatClampNeg x3) (S 51 1)) fun S1 => (bnd (fX9_wetOf N k0 (S1 51 5) S1) fun q1 => (bnd (fX10_passHour N k0 q1.1 q1.2) fun q2 => (r2 k0 k2 ((x3 + 1 : Int32)) q2.2))))
theorem bX2_follow_8 {N : Nat} {r2 : Nat → Nat → Int32 → gS → Option (Int32 × gS)} {k0 : Nat} {k2 : Nat} {x3 : Int32} {S : gS} {H : Heap} {locs : List Loc} {ls : Array Slot} {o : Int32 × gS} (C : gC p s m args meth c cX2_follow 4 RX2 none D (xtys cI cB cZ cQ) xord g Am) (O : xO g cI cB cZ cQ Am) (K2 : ∀ (k0 : Nat) (k2 : Nat) (x3 : Int32) (hk_k0 : xk k0 = 9) (hk_k2 : xk k2 = 20) (S : gS) (H : Heap) (locs : List Loc) (ls : Array Slot), gX D (xcell g cI cB cZ cQ) xord g S s H locs → lv_has ls 4 [(0, .ref (g k0)), (1, .ref (g 51)), (2, .ref (g k2)), (3, .int x3)] → r2 k0 k2 x3 S = some o → W p l e (rmd 4) s m args below meth c H locs 0 0 (gE below args s D (xtys cI cB cZ cQ) (xcell g cI cB cZ cQ) xord g none o.2) (F0 m 2 ls [])) (hk_k0 : xk k0 = 9) (hk_k2 : xk k2 = 20) (X : gX D (xcell g cI cB cZ cQ) xord g S s H locs) (hl : lv_has ls 4 [(0, .ref (g k0)), (1, .ref (g 51)), (2, .ref (g k2)), (3, .int x3)]) (hF : fX2_follow_b8 N r2 k0 k2 x3 S = some o) : W p l e (rmd 4) s m args below meth c H locs 0 0 (gE below args s D (xtys cI cB cZ cQ) (xcell g cI cB cZ cQ) xord g none o.2) (F0 m 8 ls []) := by
  unfold fX2_follow_b8 at hF
  refine lv_aload_n C.1.1 C.1.2.1 dX2_follow_8 rfl (lv_at hl 2 rfl) ?_
  refine lv_iload_n C.1.1 C.1.2.1 dX2_follow_9 rfl (lv_at hl 3 rfl) ?_
  refine lv_aload_n C.1.1 C.1.2.1 dX2_follow_10 rfl (lv_at hl 1 rfl) ?_
  refine xg_X2_91 C O X (k := 51) rfl dX2_follow_11 ?_
  obtain ⟨h_1, hF⟩ := chk_some hF
  obtain ⟨S1, eS1, hF⟩ := lt_some hF
  refine x_wI C O X (k := k2) hk_k2 (n := xN k2) rfl  (inb_vp h_1) rfl eS1 dX2_follow_14 (fun H locs X => ?_)
  refine lv_aload_n C.1.1 C.1.2.1 dX2_follow_15 rfl (lv_at hl 1 rfl) ?_
  refine lv_aload_n C.1.1 C.1.2.1 dX2_follow_16 rfl (lv_at hl 0 rfl) ?_
  refine lv_aload_n C.1.1 C.1.2.1 dX2_follow_17 rfl (lv_at hl 0 rfl) ?_
  refine lv_aload_n C.1.1 C.1.2.1 dX2_follow_18 rfl (lv_at hl 1 rfl) ?_
  refine xg_X2_94 C O X (k := 51) rfl dX2_follow_19 ?_
  obtain ⟨q1, hq1, hF⟩ := bnd_some hF
  refine x_callVi C X (k := k0) xv_X2_97 hk_k0 rfl rfl (by decide) (kX9_wetOf O C.2.2.2.2.1 N k0 (S1 51 5) (hk_k0 : xk k0 = 9) S1 q1 hq1) (Nat.le_of_ble_eq_true rfl) (Nat.le_of_ble_eq_true rfl) (Nat.le_of_ble_eq_true rfl) (Nat.le_of_ble_eq_true rfl) rfl hl.1 rfl (Nat.le_of_ble_eq_true rfl) dX2_follow_22 (fun H locs X => ?_)
  obtain ⟨q2, hq2, hF⟩ := bnd_some hF
  refine x_callVi C X (k := 51) xv_X2_100 (rfl : xk 51 = 10) rfl rfl (by decide) (kX10_passHour O C.2.2.2.2.1 N k0 q1.1 (hk_k0 : xk k0 = 9) q1.2 q2 hq2) (Nat.le_of_ble_eq_true rfl) (Nat.le_of_ble_eq_true rfl) (Nat.le_of_ble_eq_true rfl) (Nat.le_of_ble_eq_true rfl) rfl hl.1 rfl (Nat.le_of_ble_eq_true rfl) dX2_follow_25 (fun H locs X => ?_)
  refine lv_pop C.1.1 C.1.2.1 dX2_follow_28 rfl ?_
  refine lv_iinc (v := (x3 + 1 : Int32)) (lv' := [(3, .int ((x3 + 1 : Int32))), (0, .ref (g k0)), (1, .ref (g 51)), (2, .ref (g k2))]) C.1.1 C.1.2.1 dX2_follow_29 hl (k := 3) rfl rfl (by decide) rfl (fun ls hl => ?_)
  refine lv_goto (tgt := 2) C.1.1 C.1.2.1 dX2_follow_32 (by decide) ?_
  exact K2 _ _ _ (hk_k0 : xk k0 = 9) (hk_k2 : xk k2 = 20) _ _ _ _ X (lv_sub hl [1, 2, 3, 0] rfl) hF
noncomputable def fX2_follow_b2 (N : Nat) (r2 : Nat → Nat → Int32 → gS → Option (Int32 × gS)) (k0 : Nat) (k2 : Nat) (x3 : Int32) (S : gS) : Option (Int32 × gS) := if (Int32.ofNat (xN k2)) ≤ x3 then fX2_follow_b35 N S else fX2_follow_b8 N r2 k0 k2 x3 S
theorem bX2_follow_2 {N : Nat} {r2 : Nat → Nat → Int32 → gS → Option (Int32 × gS)} {k0 : Nat} {k2 : Nat} {x3 : Int32} {S : gS} {H : Heap} {locs : List Loc} {ls : Array Slot} {o : Int32 × gS} (C : gC p s m args meth c cX2_follow 4 RX2 none D (xtys cI cB cZ cQ) xord g Am) (O : xO g cI cB cZ cQ Am) (K2 : ∀ (k0 : Nat) (k2 : Nat) (x3 : Int32) (hk_k0 : xk k0 = 9) (hk_k2 : xk k2 = 20) (S : gS) (H : Heap) (locs : List Loc) (ls : Array Slot), gX D (xcell g cI cB cZ cQ) xord g S s H locs → lv_has ls 4 [(0, .ref (g k0)), (1, .ref (g 51)), (2, .ref (g k2)), (3, .int x3)] → r2 k0 k2 x3 S = some o → W p l e (rmd 4) s m args below meth c H locs 0 0 (gE below args s D (xtys cI cB cZ cQ) (xcell g cI cB cZ cQ) xord g none o.2) (F0 m 2 ls [])) (hk_k0 : xk k0 = 9) (hk_k2 : xk k2 = 20) (X : gX D (xcell g cI cB cZ cQ) xord g S s H locs) (hl : lv_has ls 4 [(0, .ref (g k0)), (1, .ref (g 51)), (2, .ref (g k2)), (3, .int x3)]) (hF : fX2_follow_b2 N r2 k0 k2 x3 S = some o) : W p l e (rmd 4) s m args below meth c H locs 0 0 (gE below args s D (xtys cI cB cZ cQ) (xcell g cI cB cZ cQ) xord g none o.2) (F0 m 2 ls []) := by
  unfold fX2_follow_b2 at hF
  refine lv_iload_n C.1.1 C.1.2.1 dX2_follow_2 rfl (lv_at hl 3 rfl) ?_
  refine lv_aload_n C.1.1 C.1.2.1 dX2_follow_3 rfl (lv_at hl 2 rfl) ?_
  refine x_lI C X (k := k2) hk_k2 (n := xN k2) rfl (x := Int32.ofNat (xN k2)) rfl dX2_follow_4 ?_
  refine lv_icmp_ge (tgt := 35) C.1.1 C.1.2.1 dX2_follow_5 (by decide) (fun h_z => ?_) (fun h_z => ?_)
  · rw [if_pos h_z] at hF
    exact bX2_follow_35 C O X (lv_sub hl [] rfl) hF
  · rw [if_neg h_z] at hF
    exact bX2_follow_8 C O K2 (hk_k0 : xk k0 = 9) (hk_k2 : xk k2 = 20) X (lv_sub hl [0, 1, 2, 3] rfl) hF
noncomputable def fX2_follow_h2 (N : Nat) : Nat → Nat → Nat → Int32 → gS → Option (Int32 × gS)
  | 0, _, _, _, _ => none
  | n + 1, k0, k2, x3, S => fX2_follow_b2 N (fX2_follow_h2 N n) k0 k2 x3 S
theorem hX2_follow_2 {N : Nat} {o : Int32 × gS} (C : gC p s m args meth c cX2_follow 4 RX2 none D (xtys cI cB cZ cQ) xord g Am) (O : xO g cI cB cZ cQ Am) : ∀ (n : Nat) (k0 : Nat) (k2 : Nat) (x3 : Int32) (hk_k0 : xk k0 = 9) (hk_k2 : xk k2 = 20) (S : gS) (H : Heap) (locs : List Loc) (ls : Array Slot), gX D (xcell g cI cB cZ cQ) xord g S s H locs → lv_has ls 4 [(0, .ref (g k0)), (1, .ref (g 51)), (2, .ref (g k2)), (3, .int x3)] → fX2_follow_h2 N n k0 k2 x3 S = some o → W p l e (rmd 4) s m args below meth c H locs 0 0 (gE below args s D (xtys cI cB cZ cQ) (xcell g cI cB cZ cQ) xord g none o.2) (F0 m 2 ls []) := by
  intro n
  induction n with
  | zero =>
    intro k0 k2 x3 hk_k0 hk_k2 S H locs ls X hl hF
    exact absurd (show (none : Option (Int32 × gS)) = some o from hF) (by simp)
  | succ n ih =>
    intro k0 k2 x3 hk_k0 hk_k2 S H locs ls X hl hF
    have hF : fX2_follow_b2 N (fX2_follow_h2 N n) k0 k2 x3 S = some o := hF
    exact bX2_follow_2 C O ih hk_k0 hk_k2 X hl hF
noncomputable def fX2_follow_b0 (N : Nat) (k0 : Nat) (k2 : Nat) (S : gS) : Option (Int32 × gS) := fX2_follow_h2 N N k0 k2 0 S
theorem bX2_follow_0 {N : Nat} {k0 : Nat} {k2 : Nat} {S : gS} {H : Heap} {locs : List Loc} {ls : Array Slot} {o : Int32 × gS} (C : gC p s m args meth c cX2_follow 4 RX2 none D (xtys cI cB cZ cQ) xord g Am) (O : xO g cI cB cZ cQ Am) (hk_k0 : xk k0 = 9) (hk_k2 : xk k2 = 20) (X : gX D (xcell g cI cB cZ cQ) xord g S s H locs) (hl : lv_has ls 4 [(0, .ref (g k0)), (1, .ref (g 51)), (2, .ref (g k2))]) (hF : fX2_follow_b0 N k0 k2 S = some o) : W p l e (rmd 4) s m args below meth c H locs 0 0 (gE below args s D (xtys cI cB cZ cQ) (xcell g cI cB cZ cQ) xord g none o.2) (F0 m 0 ls []) := by
  unfold fX2_follow_b0 at hF
  refine lv_iconst (v := 0) C.1.1 C.1.2.1 dX2_follow_0 (by decide) ?_
  refine lv_istore_n (lv' := [(3, .int 0), (0, .ref (g k0)), (1, .ref (g 51)), (2, .ref (g k2))]) C.1.1 C.1.2.1 dX2_follow_1 rfl hl (by decide) rfl (fun ls hl => ?_)
  exact hX2_follow_2 C O N _ _ _ (hk_k0 : xk k0 = 9) (hk_k2 : xk k2 = 20) _ _ _ _ X (lv_sub hl [1, 2, 3, 0] rfl) hF
noncomputable def fX2_follow (N : Nat) (k0 : Nat) (k2 : Nat) (S : gS) : Option (Int32 × gS) := fX2_follow_b0 N k0 k2 S
theorem kX2_follow {l : Launch} {D : va_G} {g : Nat → Nat} {cI cB cZ cQ : ClassId} {Am : (Nat → Prop) → State → Heap → Prop} (O : xO g cI cB cZ cQ Am) (P : gAm Am) (N : Nat) (k0 : Nat) (k2 : Nat) (hk_k0 : xk k0 = 9) (hk_k2 : xk k2 = 20) (S : gS) (o : Int32 × gS) (hF : fX2_follow N k0 k2 S = some o) : gM l yX2_follow cX2_follow 4 none 4 D (xtys cI cB cZ cQ) (xcell g cI cB cZ cQ) xord g Am [.ref (g k0), .ref (g 51), .ref (g k2)] S none o.2 :=
  gM_of O.1 P (by decide) (Nat.le_of_ble_eq_true rfl) (fun p e s m args below meth c ls C X hl => bX2_follow_0 C O hk_k0 hk_k2 X (lv_sub hl [0, 1, 2] rfl) hF)
-- X10.passHours
noncomputable def fX10_passHours_b27 (N : Nat) (S : gS) : Option (Int32 × gS) := some (0, S)
theorem bX10_passHours_27 {N : Nat} {S : gS} {H : Heap} {locs : List Loc} {ls : Array Slot} {o : Int32 × gS} (C : gC p s m args meth c cX10_passHours 4 RX10 none D (xtys cI cB cZ cQ) xord g Am) (O : xO g cI cB cZ cQ Am) (X : gX D (xcell g cI cB cZ cQ) xord g S s H locs) (hl : lv_has ls 4 []) (hF : fX10_passHours_b27 N S = some o) : W p l e (rmd 4) s m args below meth c H locs 0 0 (gE below args s D (xtys cI cB cZ cQ) (xcell g cI cB cZ cQ) xord g none o.2) (F0 m 27 ls []) := by
  unfold fX10_passHours_b27 at hF
  cases hF
  exact g_vret C X dX10_passHours_27
noncomputable def fX10_passHours_b7 (N : Nat) (r2 : Nat → Int32 → Int32 → gS → Option (Int32 × gS)) (k1 : Nat) (x2 : Int32) (x3 : Int32) (S : gS) : Option (Int32 × gS) := bnd (fX9_wetOf N k1 (S 51 5) S) fun q1 => (bnd (fX10_passHour N k1 q1.1 q1.2) fun q2 => (r2 k1 x2 ((x3 + 1 : Int32)) q2.2))
theorem bX10_passHours_7 {N : Nat} {r2 : Nat → Int32 → Int32 → gS → Option (Int32 × gS)} {k1 : Nat} {x2 : Int32} {x3 : Int32} {S : gS} {H : Heap} {locs : List Loc} {ls : Array Slot} {o : Int32 × gS} (C : gC p s m args meth c cX10_passHours 4 RX10 none D (xtys cI cB cZ cQ) xord g Am) (O : xO g cI cB cZ cQ Am) (K2 : ∀ (k1 : Nat) (x2 : Int32) (x3 : Int32) (hk_k1 : xk k1 = 9) (S : gS) (H : Heap) (locs : List Loc) (ls : Array Slot), gX D (xcell g cI cB cZ cQ) xord g S s H locs → lv_has ls 4 [(0, .ref (g 51)), (1, .ref (g k1)), (2, .int x2), (3, .int x3)] → r2 k1 x2 x3 S = some o → W p l e (rmd 4) s m args below meth c H locs 0 0 (gE below args s D (xtys cI cB cZ cQ) (xcell g cI cB cZ cQ) xord g none o.2) (F0 m 2 ls [])) (hk_k1 : xk k1 = 9) (X : gX D (xcell g cI cB cZ cQ) xord g S s H locs) (hl : lv_has ls 4 [(0, .ref (g 51)), (1, .ref (g k1)), (2, .int x2), (3, .int x3)]) (hF : fX10_passHours_b7 N r2 k1 x2 x3 S = some o) : W p l e (rmd 4) s m args below meth c H locs 0 0 (gE below args s D (xtys cI cB cZ cQ) (xcell g cI cB cZ cQ) xord g none o.2) (F0 m 7 ls []) := by
  unfold fX10_passHours_b7 at hF
  refine lv_aload_n C.1.1 C.1.2.1 dX10_passHours_7 rfl (lv_at hl 0 rfl) ?_
  refine lv_aload_n C.1.1 C.1.2.1 dX10_passHours_8 rfl (lv_at hl 1 rfl) ?_
  refine lv_aload_n C.1.1 C.1.2.1 dX10_passHours_9 rfl (lv_at hl 1 rfl) ?_
  refine lv_aload_n C.1.1 C.1.2.1 dX10_passHours_10 rfl (lv_at hl 0 rfl) ?_
  refine xg_X10_27 C O X (k := 51) rfl dX10_passHours_11 ?_
  obtain ⟨q1, hq1, hF⟩ := bnd_some hF
  refine x_callVi C X (k := k1) xv_X10_56 hk_k1 rfl rfl (by decide) (kX9_wetOf O C.2.2.2.2.1 N k1 (S 51 5) (hk_k1 : xk k1 = 9) S q1 hq1) (Nat.le_of_ble_eq_true rfl) (Nat.le_of_ble_eq_true rfl) (Nat.le_of_ble_eq_true rfl) (Nat.le_of_ble_eq_true rfl) rfl hl.1 rfl (Nat.le_of_ble_eq_true rfl) dX10_passHours_14 (fun H locs X => ?_)
  obtain ⟨q2, hq2, hF⟩ := bnd_some hF
  refine x_callVi C X (k := 51) xv_X10_61 (rfl : xk 51 = 10) rfl rfl (by decide) (kX10_passHour O C.2.2.2.2.1 N k1 q1.1 (hk_k1 : xk k1 = 9) q1.2 q2 hq2) (Nat.le_of_ble_eq_true rfl) (Nat.le_of_ble_eq_true rfl) (Nat.le_of_ble_eq_true rfl) (Nat.le_of_ble_eq_true rfl) rfl hl.1 rfl (Nat.le_of_ble_eq_true rfl) dX10_passHours_17 (fun H locs X => ?_)
  refine lv_pop C.1.1 C.1.2.1 dX10_passHours_20 rfl ?_
  refine lv_iinc (v := (x3 + 1 : Int32)) (lv' := [(3, .int ((x3 + 1 : Int32))), (0, .ref (g 51)), (1, .ref (g k1)), (2, .int x2)]) C.1.1 C.1.2.1 dX10_passHours_21 hl (k := 3) rfl rfl (by decide) rfl (fun ls hl => ?_)
  refine lv_goto (tgt := 2) C.1.1 C.1.2.1 dX10_passHours_24 (by decide) ?_
  exact K2 _ _ _ (hk_k1 : xk k1 = 9) _ _ _ _ X (lv_sub hl [1, 2, 3, 0] rfl) hF
noncomputable def fX10_passHours_b2 (N : Nat) (r2 : Nat → Int32 → Int32 → gS → Option (Int32 × gS)) (k1 : Nat) (x2 : Int32) (x3 : Int32) (S : gS) : Option (Int32 × gS) := if x2 ≤ x3 then fX10_passHours_b27 N S else fX10_passHours_b7 N r2 k1 x2 x3 S
theorem bX10_passHours_2 {N : Nat} {r2 : Nat → Int32 → Int32 → gS → Option (Int32 × gS)} {k1 : Nat} {x2 : Int32} {x3 : Int32} {S : gS} {H : Heap} {locs : List Loc} {ls : Array Slot} {o : Int32 × gS} (C : gC p s m args meth c cX10_passHours 4 RX10 none D (xtys cI cB cZ cQ) xord g Am) (O : xO g cI cB cZ cQ Am) (K2 : ∀ (k1 : Nat) (x2 : Int32) (x3 : Int32) (hk_k1 : xk k1 = 9) (S : gS) (H : Heap) (locs : List Loc) (ls : Array Slot), gX D (xcell g cI cB cZ cQ) xord g S s H locs → lv_has ls 4 [(0, .ref (g 51)), (1, .ref (g k1)), (2, .int x2), (3, .int x3)] → r2 k1 x2 x3 S = some o → W p l e (rmd 4) s m args below meth c H locs 0 0 (gE below args s D (xtys cI cB cZ cQ) (xcell g cI cB cZ cQ) xord g none o.2) (F0 m 2 ls [])) (hk_k1 : xk k1 = 9) (X : gX D (xcell g cI cB cZ cQ) xord g S s H locs) (hl : lv_has ls 4 [(0, .ref (g 51)), (1, .ref (g k1)), (2, .int x2), (3, .int x3)]) (hF : fX10_passHours_b2 N r2 k1 x2 x3 S = some o) : W p l e (rmd 4) s m args below meth c H locs 0 0 (gE below args s D (xtys cI cB cZ cQ) (xcell g cI cB cZ cQ) xord g none o.2) (F0 m 2 ls []) := by
  unfold fX10_passHours_b2 at hF
  refine lv_iload_n C.1.1 C.1.2.1 dX10_passHours_2 rfl (lv_at hl 3 rfl) ?_
  refine lv_iload_n C.1.1 C.1.2.1 dX10_passHours_3 rfl (lv_at hl 2 rfl) ?_
  refine lv_icmp_ge (tgt := 27) C.1.1 C.1.2.1 dX10_passHours_4 (by decide) (fun h_z => ?_) (fun h_z => ?_)
  · rw [if_pos h_z] at hF
    exact bX10_passHours_27 C O X (lv_sub hl [] rfl) hF
  · rw [if_neg h_z] at hF
    exact bX10_passHours_7 C O K2 (hk_k1 : xk k1 = 9) X (lv_sub hl [0, 1, 2, 3] rfl) hF
noncomputable def fX10_passHours_h2 (N : Nat) : Nat → Nat → Int32 → Int32 → gS → Option (Int32 × gS)
  | 0, _, _, _, _ => none
  | n + 1, k1, x2, x3, S => fX10_passHours_b2 N (fX10_passHours_h2 N n) k1 x2 x3 S
theorem hX10_passHours_2 {N : Nat} {o : Int32 × gS} (C : gC p s m args meth c cX10_passHours 4 RX10 none D (xtys cI cB cZ cQ) xord g Am) (O : xO g cI cB cZ cQ Am) : ∀ (n : Nat) (k1 : Nat) (x2 : Int32) (x3 : Int32) (hk_k1 : xk k1 = 9) (S : gS) (H : Heap) (locs : List Loc) (ls : Array Slot), gX D (xcell g cI cB cZ cQ) xord g S s H locs → lv_has ls 4 [(0, .ref (g 51)), (1, .ref (g k1)), (2, .int x2), (3, .int x3)] → fX10_passHours_h2 N n k1 x2 x3 S = some o → W p l e (rmd 4) s m args below meth c H locs 0 0 (gE below args s D (xtys cI cB cZ cQ) (xcell g cI cB cZ cQ) xord g none o.2) (F0 m 2 ls []) := by
  intro n
  induction n with
  | zero =>
    intro k1 x2 x3 hk_k1 S H locs ls X hl hF
    exact absurd (show (none : Option (Int32 × gS)) = some o from hF) (by simp)
  | succ n ih =>
    intro k1 x2 x3 hk_k1 S H locs ls X hl hF
    have hF : fX10_passHours_b2 N (fX10_passHours_h2 N n) k1 x2 x3 S = some o := hF
    exact bX10_passHours_2 C O ih hk_k1 X hl hF
noncomputable def fX10_passHours_b0 (N : Nat) (k1 : Nat) (x2 : Int32) (S : gS) : Option (Int32 × gS) := fX10_passHours_h2 N N k1 x2 0 S
theorem bX10_passHours_0 {N : Nat} {k1 : Nat} {x2 : Int32} {S : gS} {H : Heap} {locs : List Loc} {ls : Array Slot} {o : Int32 × gS} (C : gC p s m args meth c cX10_passHours 4 RX10 none D (xtys cI cB cZ cQ) xord g Am) (O : xO g cI cB cZ cQ Am) (hk_k1 : xk k1 = 9) (X : gX D (xcell g cI cB cZ cQ) xord g S s H locs) (hl : lv_has ls 4 [(0, .ref (g 51)), (1, .ref (g k1)), (2, .int x2)]) (hF : fX10_passHours_b0 N k1 x2 S = some o) : W p l e (rmd 4) s m args below meth c H locs 0 0 (gE below args s D (xtys cI cB cZ cQ) (xcell g cI cB cZ cQ) xord g none o.2) (F0 m 0 ls []) := by
  unfold fX10_passHours_b0 at hF
  refine lv_iconst (v := 0) C.1.1 C.1.2.1 dX10_passHours_0 (by decide) ?_
  refine lv_istore_n (lv' := [(3, .int 0), (0, .ref (g 51)), (1, .ref (g k1)), (2, .int x2)]) C.1.1 C.1.2.1 dX10_passHours_1 rfl hl (by decide) rfl (fun ls hl => ?_)
  exact hX10_passHours_2 C O N _ _ _ (hk_k1 : xk k1 = 9) _ _ _ _ X (lv_sub hl [1, 2, 3, 0] rfl) hF
noncomputable def fX10_passHours (N : Nat) (k1 : Nat) (x2 : Int32) (S : gS) : Option (Int32 × gS) := fX10_passHours_b0 N k1 x2 S
theorem kX10_passHours {l : Launch} {D : va_G} {g : Nat → Nat} {cI cB cZ cQ : ClassId} {Am : (Nat → Prop) → State → Heap → Prop} (O : xO g cI cB cZ cQ Am) (P : gAm Am) (N : Nat) (k1 : Nat) (x2 : Int32) (hk_k1 : xk k1 = 9) (S : gS) (o : Int32 × gS) (hF : fX10_passHours N k1 x2 S = some o) : gM l yX10_passHours cX10_passHours 4 none 4 D (xtys cI cB cZ cQ) (xcell g cI cB cZ cQ) xord g Am [.ref (g 51), .ref (g k1), .int x2] S none o.2 :=
  gM_of O.1 P (by decide) (Nat.le_of_ble_eq_true rfl) (fun p e s m args below meth c ls C X hl => bX10_passHours_0 C O hk_k1 X (lv_sub hl [0, 1, 2] rfl) hF)
-- X11.gain
noncomputable def fX11_gain_b0 (N : Nat) (x1 : Int32) (x2 : Int32) (x3 : Int32) (x4 : Int32) (S : gS) : Option (Int32 × gS) := bnd (fX11_quietHours N x1 x2 S) fun q1 => (bnd (fX11_quietHours N x3 x4 q1.2) fun q2 => (some ((((((5 * q1.1 : Int32)) - ((6 * x2 : Int32)) : Int32)) - ((3 * q2.1 : Int32)) : Int32), q2.2)))
theorem bX11_gain_0 {N : Nat} {x1 : Int32} {x2 : Int32} {x3 : Int32} {x4 : Int32} {S : gS} {H : Heap} {locs : List Loc} {ls : Array Slot} {o : Int32 × gS} (C : gC p s m args meth c cX11_gain 5 RX11 ((some .int)) D (xtys cI cB cZ cQ) xord g Am) (O : xO g cI cB cZ cQ Am) (X : gX D (xcell g cI cB cZ cQ) xord g S s H locs) (hl : lv_has ls 5 [(0, .ref (g 0)), (1, .int x1), (2, .int x2), (3, .int x3), (4, .int x4)]) (hF : fX11_gain_b0 N x1 x2 x3 x4 S = some o) : W p l e (rmd 5) s m args below meth c H locs 0 0 (gE below args s D (xtys cI cB cZ cQ) (xcell g cI cB cZ cQ) xord g (some (.int o.1)) o.2) (F0 m 0 ls []) := by
  unfold fX11_gain_b0 at hF
  refine lv_iconst (v := 5) C.1.1 C.1.2.1 dX11_gain_0 (by decide) ?_
  refine lv_aload_n C.1.1 C.1.2.1 dX11_gain_1 rfl (lv_at hl 0 rfl) ?_
  refine lv_iload_n C.1.1 C.1.2.1 dX11_gain_2 rfl (lv_at hl 1 rfl) ?_
  refine lv_iload_n C.1.1 C.1.2.1 dX11_gain_3 rfl (lv_at hl 2 rfl) ?_
  obtain ⟨q1, hq1, hF⟩ := bnd_some hF
  refine x_callVi C X (k := 0) xv_X11_402 (rfl : xk 0 = 11) rfl rfl (by decide) (kX11_quietHours O C.2.2.2.2.1 N x1 x2 S q1 hq1) (Nat.le_of_ble_eq_true rfl) (Nat.le_of_ble_eq_true rfl) (Nat.le_of_ble_eq_true rfl) (Nat.le_of_ble_eq_true rfl) rfl hl.1 rfl (Nat.le_of_ble_eq_true rfl) dX11_gain_4 (fun H locs X => ?_)
  refine lv_imul C.1.1 C.1.2.1 dX11_gain_7 ?_
  refine lv_bipush (v := 6) C.1.1 C.1.2.1 dX11_gain_8 (by decide) ?_
  refine lv_iload_n C.1.1 C.1.2.1 dX11_gain_10 rfl (lv_at hl 2 rfl) ?_
  refine lv_imul C.1.1 C.1.2.1 dX11_gain_11 ?_
  refine lv_isub C.1.1 C.1.2.1 dX11_gain_12 ?_
  refine lv_iconst (v := 3) C.1.1 C.1.2.1 dX11_gain_13 (by decide) ?_
  refine lv_aload_n C.1.1 C.1.2.1 dX11_gain_14 rfl (lv_at hl 0 rfl) ?_
  refine lv_iload_n C.1.1 C.1.2.1 dX11_gain_15 rfl (lv_at hl 3 rfl) ?_
  refine lv_iload C.1.1 C.1.2.1 dX11_gain_16 (lv_at hl 4 rfl) ?_
  obtain ⟨q2, hq2, hF⟩ := bnd_some hF
  refine x_callVi C X (k := 0) xv_X11_402 (rfl : xk 0 = 11) rfl rfl (by decide) (kX11_quietHours O C.2.2.2.2.1 N x3 x4 q1.2 q2 hq2) (Nat.le_of_ble_eq_true rfl) (Nat.le_of_ble_eq_true rfl) (Nat.le_of_ble_eq_true rfl) (Nat.le_of_ble_eq_true rfl) rfl hl.1 rfl (Nat.le_of_ble_eq_true rfl) dX11_gain_18 (fun H locs X => ?_)
  refine lv_imul C.1.1 C.1.2.1 dX11_gain_21 ?_
  refine lv_isub C.1.1 C.1.2.1 dX11_gain_22 ?_
  cases hF
  exact g_iret C X dX11_gain_23
noncomputable def fX11_gain (N : Nat) (x1 : Int32) (x2 : Int32) (x3 : Int32) (x4 : Int32) (S : gS) : Option (Int32 × gS) := fX11_gain_b0 N x1 x2 x3 x4 S
theorem kX11_gain {l : Launch} {D : va_G} {g : Nat → Nat} {cI cB cZ cQ : ClassId} {Am : (Nat → Prop) → State → Heap → Prop} (O : xO g cI cB cZ cQ Am) (P : gAm Am) (N : Nat) (x1 : Int32) (x2 : Int32) (x3 : Int32) (x4 : Int32) (S : gS) (o : Int32 × gS) (hF : fX11_gain N x1 x2 x3 x4 S = some o) : gM l yX11_gain cX11_gain 5 ((some .int)) 5 D (xtys cI cB cZ cQ) (xcell g cI cB cZ cQ) xord g Am [.ref (g 0), .int x1, .int x2, .int x3, .int x4] S (some (.int o.1)) o.2 :=
  gM_of O.1 P (by decide) (Nat.le_of_ble_eq_true rfl) (fun p e s m args below meth c ls C X hl => bX11_gain_0 C O X (lv_sub hl [0, 1, 2, 3, 4] rfl) hF)
-- X2.tryGreeds
noncomputable def fX2_tryGreeds_b114 (N : Nat) (S : gS) : Option (Int32 × gS) := some (0, S)
theorem bX2_tryGreeds_114 {N : Nat} {S : gS} {H : Heap} {locs : List Loc} {ls : Array Slot} {o : Int32 × gS} (C : gC p s m args meth c cX2_tryGreeds 6 RX2 none D (xtys cI cB cZ cQ) xord g Am) (O : xO g cI cB cZ cQ Am) (X : gX D (xcell g cI cB cZ cQ) xord g S s H locs) (hl : lv_has ls 6 []) (hF : fX2_tryGreeds_b114 N S = some o) : W p l e (rmd 5) s m args below meth c H locs 0 0 (gE below args s D (xtys cI cB cZ cQ) (xcell g cI cB cZ cQ) xord g none o.2) (F0 m 114 ls []) := by
  unfold fX2_tryGreeds_b114 at hF
  cases hF
  exact g_vret C X dX2_tryGreeds_114
noncomputable def fX2_tryGreeds_b108 (N : Nat) (r3 : Nat → Nat → Int32 → Int32 → gS → Option (Int32 × gS)) (k1 : Nat) (k2 : Nat) (x4 : Int32) (x5 : Int32) (S : gS) : Option (Int32 × gS) := r3 k1 k2 x4 ((x5 + 1 : Int32)) S
theorem bX2_tryGreeds_108 {N : Nat} {r3 : Nat → Nat → Int32 → Int32 → gS → Option (Int32 × gS)} {k1 : Nat} {k2 : Nat} {x4 : Int32} {x5 : Int32} {S : gS} {H : Heap} {locs : List Loc} {ls : Array Slot} {o : Int32 × gS} (C : gC p s m args meth c cX2_tryGreeds 6 RX2 none D (xtys cI cB cZ cQ) xord g Am) (O : xO g cI cB cZ cQ Am) (K3 : ∀ (k1 : Nat) (k2 : Nat) (x4 : Int32) (x5 : Int32) (hk_k1 : xk k1 = 9) (hk_k2 : xk k2 = 1) (S : gS) (H : Heap) (locs : List Loc) (ls : Array Slot), gX D (xcell g cI cB cZ cQ) xord g S s H locs → lv_has ls 6 [(0, .ref (g 62)), (1, .ref (g k1)), (2, .ref (g k2)), (3, .ref (g 51)), (4, .int x4), (5, .int x5)] → r3 k1 k2 x4 x5 S = some o → W p l e (rmd 5) s m args below meth c H locs 0 0 (gE below args s D (xtys cI cB cZ cQ) (xcell g cI cB cZ cQ) xord g none o.2) (F0 m 3 ls [])) (hk_k1 : xk k1 = 9) (hk_k2 : xk k2 = 1) (X : gX D (xcell g cI cB cZ cQ) xord g S s H locs) (hl : lv_has ls 6 [(0, .ref (g 62)), (1, .ref (g k1)), (2, .ref (g k2)), (3, .ref (g 51)), (4, .int x4), (5, .int x5)]) (hF : fX2_tryGreeds_b108 N r3 k1 k2 x4 x5 S = some o) : W p l e (rmd 5) s m args below meth c H locs 0 0 (gE below args s D (xtys cI cB cZ cQ) (xcell g cI cB cZ cQ) xord g none o.2) (F0 m 108 ls []) := by
  unfold fX2_tryGreeds_b108 at hF
  refine lv_iinc (v := (x5 + 1 : Int32)) (lv' := [(5, .int ((x5 + 1 : Int32))), (0, .ref (g 62)), (1, .ref (g k1)), (2, .ref (g k2)), (3, .ref (g 51)), (4, .int x4)]) C.1.1 C.1.2.1 dX2_tryGreeds_108 hl (k := 5) rfl rfl (by decide) rfl (fun ls hl => ?_)
  refine lv_goto (tgt := 3) C.1.1 C.1.2.1 dX2_tryGreeds_111 (by decide) ?_
  exact K3 _ _ _ _ (hk_k1 : xk k1 = 9) (hk_k2 : xk k2 = 1) _ _ _ _ X (lv_sub hl [1, 2, 3, 4, 5, 0] rfl) hF
noncomputable def fX2_tryGreeds_b98 (N : Nat) (r3 : Nat → Nat → Int32 → Int32 → gS → Option (Int32 × gS)) (k1 : Nat) (k2 : Nat) (x4 : Int32) (x5 : Int32) (t1 : Int32) (S : gS) : Option (Int32 × gS) := lt (sU S 62 4 t1) fun S1 => (bnd (fX2_markWorst N k1 x4 S1) fun q1 => (fX2_tryGreeds_b108 N r3 k1 k2 x4 x5 q1.2))
theorem bX2_tryGreeds_98 {N : Nat} {r3 : Nat → Nat → Int32 → Int32 → gS → Option (Int32 × gS)} {k1 : Nat} {k2 : Nat} {x4 : Int32} {x5 : Int32} {t1 : Int32} {S : gS} {H : Heap} {locs : List Loc} {ls : Array Slot} {o : Int32 × gS} (C : gC p s m args meth c cX2_tryGreeds 6 RX2 none D (xtys cI cB cZ cQ) xord g Am) (O : xO g cI cB cZ cQ Am) (K3 : ∀ (k1 : Nat) (k2 : Nat) (x4 : Int32) (x5 : Int32) (hk_k1 : xk k1 = 9) (hk_k2 : xk k2 = 1) (S : gS) (H : Heap) (locs : List Loc) (ls : Array Slot), gX D (xcell g cI cB cZ cQ) xord g S s H locs → lv_has ls 6 [(0, .ref (g 62)), (1, .ref (g k1)), (2, .ref (g k2)), (3, .ref (g 51)), (4, .int x4), (5, .int x5)] → r3 k1 k2 x4 x5 S = some o → W p l e (rmd 5) s m args below meth c H locs 0 0 (gE below args s D (xtys cI cB cZ cQ) (xcell g cI cB cZ cQ) xord g none o.2) (F0 m 3 ls [])) (hk_k1 : xk k1 = 9) (hk_k2 : xk k2 = 1) (X : gX D (xcell g cI cB cZ cQ) xord g S s H locs) (hl : lv_has ls 6 [(0, .ref (g 62)), (1, .ref (g k1)), (2, .ref (g k2)), (3, .ref (g 51)), (4, .int x4), (5, .int x5)]) (hF : fX2_tryGreeds_b98 N r3 k1 k2 x4 x5 t1 S = some o) : W p l e (rmd 5) s m args below meth c H locs 0 0 (gE below args s D (xtys cI cB cZ cQ) (xcell g cI cB cZ cQ) xord g none o.2) (F0 m 98 ls [.int t1, .ref (g 62)]) := by
  unfold fX2_tryGreeds_b98 at hF
  obtain ⟨S1, eS1, hF⟩ := lt_some hF
  refine xp_X2_27 C O X (k := 62) rfl eS1 dX2_tryGreeds_98 (fun H locs X => ?_)
  refine lv_aload_n C.1.1 C.1.2.1 dX2_tryGreeds_101 rfl (lv_at hl 0 rfl) ?_
  refine lv_aload_n C.1.1 C.1.2.1 dX2_tryGreeds_102 rfl (lv_at hl 1 rfl) ?_
  refine lv_iload C.1.1 C.1.2.1 dX2_tryGreeds_103 (lv_at hl 4 rfl) ?_
  obtain ⟨q1, hq1, hF⟩ := bnd_some hF
  refine x_callV C X (k := 62) xv_X2_87 (rfl : xk 62 = 2) rfl rfl (by decide) (kX2_markWorst O C.2.2.2.2.1 N k1 x4 (hk_k1 : xk k1 = 9) S1 q1 hq1) (Nat.le_of_ble_eq_true rfl) (Nat.le_of_ble_eq_true rfl) (Nat.le_of_ble_eq_true rfl) (Nat.le_of_ble_eq_true rfl) rfl hl.1 rfl (Nat.le_of_ble_eq_true rfl) dX2_tryGreeds_105 (fun H locs X => ?_)
  exact bX2_tryGreeds_108 C O K3 (hk_k1 : xk k1 = 9) (hk_k2 : xk k2 = 1) X (lv_sub hl [0, 1, 2, 3, 4, 5] rfl) hF
noncomputable def fX2_tryGreeds_b94 (N : Nat) (r3 : Nat → Nat → Int32 → Int32 → gS → Option (Int32 × gS)) (k1 : Nat) (k2 : Nat) (x4 : Int32) (x5 : Int32) (S : gS) : Option (Int32 × gS) := fX2_tryGreeds_b98 N r3 k1 k2 x4 x5 (S 62 4) S
theorem bX2_tryGreeds_94 {N : Nat} {r3 : Nat → Nat → Int32 → Int32 → gS → Option (Int32 × gS)} {k1 : Nat} {k2 : Nat} {x4 : Int32} {x5 : Int32} {S : gS} {H : Heap} {locs : List Loc} {ls : Array Slot} {o : Int32 × gS} (C : gC p s m args meth c cX2_tryGreeds 6 RX2 none D (xtys cI cB cZ cQ) xord g Am) (O : xO g cI cB cZ cQ Am) (K3 : ∀ (k1 : Nat) (k2 : Nat) (x4 : Int32) (x5 : Int32) (hk_k1 : xk k1 = 9) (hk_k2 : xk k2 = 1) (S : gS) (H : Heap) (locs : List Loc) (ls : Array Slot), gX D (xcell g cI cB cZ cQ) xord g S s H locs → lv_has ls 6 [(0, .ref (g 62)), (1, .ref (g k1)), (2, .ref (g k2)), (3, .ref (g 51)), (4, .int x4), (5, .int x5)] → r3 k1 k2 x4 x5 S = some o → W p l e (rmd 5) s m args below meth c H locs 0 0 (gE below args s D (xtys cI cB cZ cQ) (xcell g cI cB cZ cQ) xord g none o.2) (F0 m 3 ls [])) (hk_k1 : xk k1 = 9) (hk_k2 : xk k2 = 1) (X : gX D (xcell g cI cB cZ cQ) xord g S s H locs) (hl : lv_has ls 6 [(0, .ref (g 62)), (1, .ref (g k1)), (2, .ref (g k2)), (3, .ref (g 51)), (4, .int x4), (5, .int x5)]) (hF : fX2_tryGreeds_b94 N r3 k1 k2 x4 x5 S = some o) : W p l e (rmd 5) s m args below meth c H locs 0 0 (gE below args s D (xtys cI cB cZ cQ) (xcell g cI cB cZ cQ) xord g none o.2) (F0 m 94 ls [.ref (g 62)]) := by
  unfold fX2_tryGreeds_b94 at hF
  refine lv_aload_n C.1.1 C.1.2.1 dX2_tryGreeds_94 rfl (lv_at hl 0 rfl) ?_
  refine xg_X2_27 C O X (k := 62) rfl dX2_tryGreeds_95 ?_
  exact bX2_tryGreeds_98 C O K3 (hk_k1 : xk k1 = 9) (hk_k2 : xk k2 = 1) X (lv_sub hl [0, 1, 2, 3, 4, 5] rfl) hF
noncomputable def fX2_tryGreeds_b83 (N : Nat) (r3 : Nat → Nat → Int32 → Int32 → gS → Option (Int32 × gS)) (k1 : Nat) (k2 : Nat) (x4 : Int32) (x5 : Int32) (S : gS) : Option (Int32 × gS) := fX2_tryGreeds_b98 N r3 k1 k2 x4 x5 ((((10 * x4 : Int32)) + x5 : Int32)) S
theorem bX2_tryGreeds_83 {N : Nat} {r3 : Nat → Nat → Int32 → Int32 → gS → Option (Int32 × gS)} {k1 : Nat} {k2 : Nat} {x4 : Int32} {x5 : Int32} {S : gS} {H : Heap} {locs : List Loc} {ls : Array Slot} {o : Int32 × gS} (C : gC p s m args meth c cX2_tryGreeds 6 RX2 none D (xtys cI cB cZ cQ) xord g Am) (O : xO g cI cB cZ cQ Am) (K3 : ∀ (k1 : Nat) (k2 : Nat) (x4 : Int32) (x5 : Int32) (hk_k1 : xk k1 = 9) (hk_k2 : xk k2 = 1) (S : gS) (H : Heap) (locs : List Loc) (ls : Array Slot), gX D (xcell g cI cB cZ cQ) xord g S s H locs → lv_has ls 6 [(0, .ref (g 62)), (1, .ref (g k1)), (2, .ref (g k2)), (3, .ref (g 51)), (4, .int x4), (5, .int x5)] → r3 k1 k2 x4 x5 S = some o → W p l e (rmd 5) s m args below meth c H locs 0 0 (gE below args s D (xtys cI cB cZ cQ) (xcell g cI cB cZ cQ) xord g none o.2) (F0 m 3 ls [])) (hk_k1 : xk k1 = 9) (hk_k2 : xk k2 = 1) (X : gX D (xcell g cI cB cZ cQ) xord g S s H locs) (hl : lv_has ls 6 [(0, .ref (g 62)), (1, .ref (g k1)), (2, .ref (g k2)), (3, .ref (g 51)), (4, .int x4), (5, .int x5)]) (hF : fX2_tryGreeds_b83 N r3 k1 k2 x4 x5 S = some o) : W p l e (rmd 5) s m args below meth c H locs 0 0 (gE below args s D (xtys cI cB cZ cQ) (xcell g cI cB cZ cQ) xord g none o.2) (F0 m 83 ls [.ref (g 62)]) := by
  unfold fX2_tryGreeds_b83 at hF
  refine lv_bipush (v := 10) C.1.1 C.1.2.1 dX2_tryGreeds_83 (by decide) ?_
  refine lv_iload C.1.1 C.1.2.1 dX2_tryGreeds_85 (lv_at hl 4 rfl) ?_
  refine lv_imul C.1.1 C.1.2.1 dX2_tryGreeds_87 ?_
  refine lv_iload C.1.1 C.1.2.1 dX2_tryGreeds_88 (lv_at hl 5 rfl) ?_
  refine lv_iadd C.1.1 C.1.2.1 dX2_tryGreeds_90 ?_
  refine lv_goto (tgt := 98) C.1.1 C.1.2.1 dX2_tryGreeds_91 (by decide) ?_
  exact bX2_tryGreeds_98 C O K3 (hk_k1 : xk k1 = 9) (hk_k2 : xk k2 = 1) X (lv_sub hl [0, 1, 2, 3, 4, 5] rfl) hF
noncomputable def fX2_tryGreeds_b64 (N : Nat) (r3 : Nat → Nat → Int32 → Int32 → gS → Option (Int32 × gS)) (k1 : Nat) (k2 : Nat) (x4 : Int32) (x5 : Int32) (S : gS) : Option (Int32 × gS) := lt (sU S 62 3 (((S 62 3) + 1 : Int32))) fun S1 => (if (S1 62 4) = ((-1)) then fX2_tryGreeds_b83 N r3 k1 k2 x4 x5 S1 else fX2_tryGreeds_b94 N r3 k1 k2 x4 x5 S1)
theorem bX2_tryGreeds_64 {N : Nat} {r3 : Nat → Nat → Int32 → Int32 → gS → Option (Int32 × gS)} {k1 : Nat} {k2 : Nat} {x4 : Int32} {x5 : Int32} {S : gS} {H : Heap} {locs : List Loc} {ls : Array Slot} {o : Int32 × gS} (C : gC p s m args meth c cX2_tryGreeds 6 RX2 none D (xtys cI cB cZ cQ) xord g Am) (O : xO g cI cB cZ cQ Am) (K3 : ∀ (k1 : Nat) (k2 : Nat) (x4 : Int32) (x5 : Int32) (hk_k1 : xk k1 = 9) (hk_k2 : xk k2 = 1) (S : gS) (H : Heap) (locs : List Loc) (ls : Array Slot), gX D (xcell g cI cB cZ cQ) xord g S s H locs → lv_has ls 6 [(0, .ref (g 62)), (1, .ref (g k1)), (2, .ref (g k2)), (3, .ref (g 51)), (4, .int x4), (5, .int x5)] → r3 k1 k2 x4 x5 S = some o → W p l e (rmd 5) s m args below meth c H locs 0 0 (gE below args s D (xtys cI cB cZ cQ) (xcell g cI cB cZ cQ) xord g none o.2) (F0 m 3 ls [])) (hk_k1 : xk k1 = 9) (hk_k2 : xk k2 = 1) (X : gX D (xcell g cI cB cZ cQ) xord g S s H locs) (hl : lv_has ls 6 [(0, .ref (g 62)), (1, .ref (g k1)), (2, .ref (g k2)), (3, .ref (g 51)), (4, .int x4), (5, .int x5)]) (hF : fX2_tryGreeds_b64 N r3 k1 k2 x4 x5 S = some o) : W p l e (rmd 5) s m args below meth c H locs 0 0 (gE below args s D (xtys cI cB cZ cQ) (xcell g cI cB cZ cQ) xord g none o.2) (F0 m 64 ls []) := by
  unfold fX2_tryGreeds_b64 at hF
  refine lv_aload_n C.1.1 C.1.2.1 dX2_tryGreeds_64 rfl (lv_at hl 0 rfl) ?_
  refine lv_dup C.1.1 C.1.2.1 dX2_tryGreeds_65 rfl ?_
  refine xg_X2_23 C O X (k := 62) rfl dX2_tryGreeds_66 ?_
  refine lv_iconst (v := 1) C.1.1 C.1.2.1 dX2_tryGreeds_69 (by decide) ?_
  refine lv_iadd C.1.1 C.1.2.1 dX2_tryGreeds_70 ?_
  obtain ⟨S1, eS1, hF⟩ := lt_some hF
  refine xp_X2_23 C O X (k := 62) rfl eS1 dX2_tryGreeds_71 (fun H locs X => ?_)
  refine lv_aload_n C.1.1 C.1.2.1 dX2_tryGreeds_74 rfl (lv_at hl 0 rfl) ?_
  refine lv_aload_n C.1.1 C.1.2.1 dX2_tryGreeds_75 rfl (lv_at hl 0 rfl) ?_
  refine xg_X2_27 C O X (k := 62) rfl dX2_tryGreeds_76 ?_
  refine lv_iconst (v := (-1)) C.1.1 C.1.2.1 dX2_tryGreeds_79 (by decide) ?_
  refine lv_icmp_ne (tgt := 94) C.1.1 C.1.2.1 dX2_tryGreeds_80 (by decide) (fun h_z => ?_) (fun h_z => ?_)
  · rw [if_neg h_z] at hF
    exact bX2_tryGreeds_94 C O K3 (hk_k1 : xk k1 = 9) (hk_k2 : xk k2 = 1) X (lv_sub hl [0, 1, 2, 3, 4, 5] rfl) hF
  · rw [if_pos h_z] at hF
    exact bX2_tryGreeds_83 C O K3 (hk_k1 : xk k1 = 9) (hk_k2 : xk k2 = 1) X (lv_sub hl [0, 1, 2, 3, 4, 5] rfl) hF
noncomputable def fX2_tryGreeds_b22 (N : Nat) (r3 : Nat → Nat → Int32 → Int32 → gS → Option (Int32 × gS)) (k1 : Nat) (k2 : Nat) (x4 : Int32) (x5 : Int32) (S : gS) : Option (Int32 × gS) := bnd (fX10_begin N k1 (k2 + 1) x4 S) fun q1 => (lt (sU q1.2 51 0 x5) fun S1 => (bnd (fX2_follow N k1 70 S1) fun q2 => (bnd (fX5_suits N (k2 + 8) x4 70 q2.2) fun q3 => (if q3.1 = 0 then fX2_tryGreeds_b108 N r3 k1 k2 x4 x5 q3.2 else fX2_tryGreeds_b64 N r3 k1 k2 x4 x5 q3.2))))
theorem bX2_tryGreeds_22 {N : Nat} {r3 : Nat → Nat → Int32 → Int32 → gS → Option (Int32 × gS)} {k1 : Nat} {k2 : Nat} {x4 : Int32} {x5 : Int32} {S : gS} {H : Heap} {locs : List Loc} {ls : Array Slot} {o : Int32 × gS} (C : gC p s m args meth c cX2_tryGreeds 6 RX2 none D (xtys cI cB cZ cQ) xord g Am) (O : xO g cI cB cZ cQ Am) (K3 : ∀ (k1 : Nat) (k2 : Nat) (x4 : Int32) (x5 : Int32) (hk_k1 : xk k1 = 9) (hk_k2 : xk k2 = 1) (S : gS) (H : Heap) (locs : List Loc) (ls : Array Slot), gX D (xcell g cI cB cZ cQ) xord g S s H locs → lv_has ls 6 [(0, .ref (g 62)), (1, .ref (g k1)), (2, .ref (g k2)), (3, .ref (g 51)), (4, .int x4), (5, .int x5)] → r3 k1 k2 x4 x5 S = some o → W p l e (rmd 5) s m args below meth c H locs 0 0 (gE below args s D (xtys cI cB cZ cQ) (xcell g cI cB cZ cQ) xord g none o.2) (F0 m 3 ls [])) (hk_k1 : xk k1 = 9) (hk_k2 : xk k2 = 1) (X : gX D (xcell g cI cB cZ cQ) xord g S s H locs) (hl : lv_has ls 6 [(0, .ref (g 62)), (1, .ref (g k1)), (2, .ref (g k2)), (3, .ref (g 51)), (4, .int x4), (5, .int x5)]) (hF : fX2_tryGreeds_b22 N r3 k1 k2 x4 x5 S = some o) : W p l e (rmd 5) s m args below meth c H locs 0 0 (gE below args s D (xtys cI cB cZ cQ) (xcell g cI cB cZ cQ) xord g none o.2) (F0 m 22 ls []) := by
  unfold fX2_tryGreeds_b22 at hF
  refine lv_aload_n C.1.1 C.1.2.1 dX2_tryGreeds_22 rfl (lv_at hl 3 rfl) ?_
  refine lv_aload_n C.1.1 C.1.2.1 dX2_tryGreeds_23 rfl (lv_at hl 1 rfl) ?_
  refine lv_aload_n C.1.1 C.1.2.1 dX2_tryGreeds_24 rfl (lv_at hl 2 rfl) ?_
  refine xg_X2_39 C O X (k := k2) hk_k2 (j := k2 + 1) rfl dX2_tryGreeds_25 ?_
  refine lv_iload C.1.1 C.1.2.1 dX2_tryGreeds_28 (lv_at hl 4 rfl) ?_
  obtain ⟨q1, hq1, hF⟩ := bnd_some hF
  refine x_callV C X (k := 51) xv_X2_45 (rfl : xk 51 = 10) rfl rfl (by decide) (kX10_begin O C.2.2.2.2.1 N k1 (k2 + 1) x4 (hk_k1 : xk k1 = 9) ((xs_1_0 hk_k2) : xk (k2 + 1) = 7) S q1 hq1) (Nat.le_of_ble_eq_true rfl) (Nat.le_of_ble_eq_true rfl) (Nat.le_of_ble_eq_true rfl) (Nat.le_of_ble_eq_true rfl) rfl hl.1 rfl (Nat.le_of_ble_eq_true rfl) dX2_tryGreeds_30 (fun H locs X => ?_)
  refine lv_aload_n C.1.1 C.1.2.1 dX2_tryGreeds_33 rfl (lv_at hl 3 rfl) ?_
  refine lv_iload C.1.1 C.1.2.1 dX2_tryGreeds_34 (lv_at hl 5 rfl) ?_
  obtain ⟨S1, eS1, hF⟩ := lt_some hF
  refine xp_X2_79 C O X (k := 51) rfl eS1 dX2_tryGreeds_36 (fun H locs X => ?_)
  refine lv_aload_n C.1.1 C.1.2.1 dX2_tryGreeds_39 rfl (lv_at hl 1 rfl) ?_
  refine lv_aload_n C.1.1 C.1.2.1 dX2_tryGreeds_40 rfl (lv_at hl 3 rfl) ?_
  refine lv_aload_n C.1.1 C.1.2.1 dX2_tryGreeds_41 rfl (lv_at hl 0 rfl) ?_
  refine xg_X2_16 C O X (k := 62) rfl (j := 70) rfl dX2_tryGreeds_42 ?_
  obtain ⟨q2, hq2, hF⟩ := bnd_some hF
  refine g_callS C X xv_X2_51 (kX2_follow O C.2.2.2.2.1 N k1 70 (hk_k1 : xk k1 = 9) (rfl : xk 70 = 20) S1 q2 hq2) (Nat.le_of_ble_eq_true rfl) (Nat.le_of_ble_eq_true rfl) (Nat.le_of_ble_eq_true rfl) (Nat.le_of_ble_eq_true rfl) rfl hl.1 rfl (Nat.le_of_ble_eq_true rfl) dX2_tryGreeds_45 (fun H locs X => ?_)
  refine lv_aload_n C.1.1 C.1.2.1 dX2_tryGreeds_48 rfl (lv_at hl 2 rfl) ?_
  refine xg_X2_55 C O X (k := k2) hk_k2 (j := k2 + 8) rfl dX2_tryGreeds_49 ?_
  refine lv_iload C.1.1 C.1.2.1 dX2_tryGreeds_52 (lv_at hl 4 rfl) ?_
  refine lv_aload_n C.1.1 C.1.2.1 dX2_tryGreeds_54 rfl (lv_at hl 0 rfl) ?_
  refine xg_X2_16 C O X (k := 62) rfl (j := 70) rfl dX2_tryGreeds_55 ?_
  obtain ⟨q3, hq3, hF⟩ := bnd_some hF
  refine x_callVi C X (k := k2 + 8) xv_X2_81 (xs_1_2 hk_k2) rfl rfl (by decide) (kX5_suits O C.2.2.2.2.1 N (k2 + 8) x4 70 ((xs_1_2 hk_k2) : xk (k2 + 8) = 5) (rfl : xk 70 = 20) q2.2 q3 hq3) (Nat.le_of_ble_eq_true rfl) (Nat.le_of_ble_eq_true rfl) (Nat.le_of_ble_eq_true rfl) (Nat.le_of_ble_eq_true rfl) rfl hl.1 rfl (Nat.le_of_ble_eq_true rfl) dX2_tryGreeds_58 (fun H locs X => ?_)
  refine lv_if_eq (tgt := 108) C.1.1 C.1.2.1 dX2_tryGreeds_61 (by decide) (fun h_z => ?_) (fun h_z => ?_)
  · rw [if_pos h_z] at hF
    exact bX2_tryGreeds_108 C O K3 (hk_k1 : xk k1 = 9) (hk_k2 : xk k2 = 1) X (lv_sub hl [0, 1, 2, 3, 4, 5] rfl) hF
  · rw [if_neg h_z] at hF
    exact bX2_tryGreeds_64 C O K3 (hk_k1 : xk k1 = 9) (hk_k2 : xk k2 = 1) X (lv_sub hl [0, 1, 2, 3, 4, 5] rfl) hF
noncomputable def fX2_tryGreeds_b10 (N : Nat) (r3 : Nat → Nat → Int32 → Int32 → gS → Option (Int32 × gS)) (k1 : Nat) (k2 : Nat) (x4 : Int32) (x5 : Int32) (S : gS) : Option (Int32 × gS) := chk (inb x4 6) (if x5 = (S (k1 + 5) (Int32.toNatClampNeg x4)) then fX2_tryGreeds_b108 N r3 k1 k2 x4 x5 S else fX2_tryGreeds_b22 N r3 k1 k2 x4 x5 S)
theorem bX2_tryGreeds_10 {N : Nat} {r3 : Nat → Nat → Int32 → Int32 → gS → Option (Int32 × gS)} {k1 : Nat} {k2 : Nat} {x4 : Int32} {x5 : Int32} {S : gS} {H : Heap} {locs : List Loc} {ls : Array Slot} {o : Int32 × gS} (C : gC p s m args meth c cX2_tryGreeds 6 RX2 none D (xtys cI cB cZ cQ) xord g Am) (O : xO g cI cB cZ cQ Am) (K3 : ∀ (k1 : Nat) (k2 : Nat) (x4 : Int32) (x5 : Int32) (hk_k1 : xk k1 = 9) (hk_k2 : xk k2 = 1) (S : gS) (H : Heap) (locs : List Loc) (ls : Array Slot), gX D (xcell g cI cB cZ cQ) xord g S s H locs → lv_has ls 6 [(0, .ref (g 62)), (1, .ref (g k1)), (2, .ref (g k2)), (3, .ref (g 51)), (4, .int x4), (5, .int x5)] → r3 k1 k2 x4 x5 S = some o → W p l e (rmd 5) s m args below meth c H locs 0 0 (gE below args s D (xtys cI cB cZ cQ) (xcell g cI cB cZ cQ) xord g none o.2) (F0 m 3 ls [])) (hk_k1 : xk k1 = 9) (hk_k2 : xk k2 = 1) (X : gX D (xcell g cI cB cZ cQ) xord g S s H locs) (hl : lv_has ls 6 [(0, .ref (g 62)), (1, .ref (g k1)), (2, .ref (g k2)), (3, .ref (g 51)), (4, .int x4), (5, .int x5)]) (hF : fX2_tryGreeds_b10 N r3 k1 k2 x4 x5 S = some o) : W p l e (rmd 5) s m args below meth c H locs 0 0 (gE below args s D (xtys cI cB cZ cQ) (xcell g cI cB cZ cQ) xord g none o.2) (F0 m 10 ls []) := by
  unfold fX2_tryGreeds_b10 at hF
  refine lv_iload C.1.1 C.1.2.1 dX2_tryGreeds_10 (lv_at hl 5 rfl) ?_
  refine lv_aload_n C.1.1 C.1.2.1 dX2_tryGreeds_12 rfl (lv_at hl 1 rfl) ?_
  refine xg_X2_76 C O X (k := k1) hk_k1 (j := k1 + 5) rfl dX2_tryGreeds_13 ?_
  refine lv_iload C.1.1 C.1.2.1 dX2_tryGreeds_16 (lv_at hl 4 rfl) ?_
  obtain ⟨h_1, hF⟩ := chk_some hF
  refine x_rI C X (k := k1 + 5) (xs_9_6 hk_k1).1 (n := 6) (xs_9_6 hk_k1).2  (inb_vp h_1) rfl dX2_tryGreeds_18 ?_
  refine lv_icmp_eq (tgt := 108) C.1.1 C.1.2.1 dX2_tryGreeds_19 (by decide) (fun h_z => ?_) (fun h_z => ?_)
  · rw [if_pos h_z] at hF
    exact bX2_tryGreeds_108 C O K3 (hk_k1 : xk k1 = 9) (hk_k2 : xk k2 = 1) X (lv_sub hl [0, 1, 2, 3, 4, 5] rfl) hF
  · rw [if_neg h_z] at hF
    exact bX2_tryGreeds_22 C O K3 (hk_k1 : xk k1 = 9) (hk_k2 : xk k2 = 1) X (lv_sub hl [0, 1, 2, 3, 4, 5] rfl) hF
noncomputable def fX2_tryGreeds_b3 (N : Nat) (r3 : Nat → Nat → Int32 → Int32 → gS → Option (Int32 × gS)) (k1 : Nat) (k2 : Nat) (x4 : Int32) (x5 : Int32) (S : gS) : Option (Int32 × gS) := if 9 < x5 then fX2_tryGreeds_b114 N S else fX2_tryGreeds_b10 N r3 k1 k2 x4 x5 S
theorem bX2_tryGreeds_3 {N : Nat} {r3 : Nat → Nat → Int32 → Int32 → gS → Option (Int32 × gS)} {k1 : Nat} {k2 : Nat} {x4 : Int32} {x5 : Int32} {S : gS} {H : Heap} {locs : List Loc} {ls : Array Slot} {o : Int32 × gS} (C : gC p s m args meth c cX2_tryGreeds 6 RX2 none D (xtys cI cB cZ cQ) xord g Am) (O : xO g cI cB cZ cQ Am) (K3 : ∀ (k1 : Nat) (k2 : Nat) (x4 : Int32) (x5 : Int32) (hk_k1 : xk k1 = 9) (hk_k2 : xk k2 = 1) (S : gS) (H : Heap) (locs : List Loc) (ls : Array Slot), gX D (xcell g cI cB cZ cQ) xord g S s H locs → lv_has ls 6 [(0, .ref (g 62)), (1, .ref (g k1)), (2, .ref (g k2)), (3, .ref (g 51)), (4, .int x4), (5, .int x5)] → r3 k1 k2 x4 x5 S = some o → W p l e (rmd 5) s m args below meth c H locs 0 0 (gE below args s D (xtys cI cB cZ cQ) (xcell g cI cB cZ cQ) xord g none o.2) (F0 m 3 ls [])) (hk_k1 : xk k1 = 9) (hk_k2 : xk k2 = 1) (X : gX D (xcell g cI cB cZ cQ) xord g S s H locs) (hl : lv_has ls 6 [(0, .ref (g 62)), (1, .ref (g k1)), (2, .ref (g k2)), (3, .ref (g 51)), (4, .int x4), (5, .int x5)]) (hF : fX2_tryGreeds_b3 N r3 k1 k2 x4 x5 S = some o) : W p l e (rmd 5) s m args below meth c H locs 0 0 (gE below args s D (xtys cI cB cZ cQ) (xcell g cI cB cZ cQ) xord g none o.2) (F0 m 3 ls []) := by
  unfold fX2_tryGreeds_b3 at hF
  refine lv_iload C.1.1 C.1.2.1 dX2_tryGreeds_3 (lv_at hl 5 rfl) ?_
  refine lv_bipush (v := 9) C.1.1 C.1.2.1 dX2_tryGreeds_5 (by decide) ?_
  refine lv_icmp_gt (tgt := 114) C.1.1 C.1.2.1 dX2_tryGreeds_7 (by decide) (fun h_z => ?_) (fun h_z => ?_)
  · rw [if_pos h_z] at hF
    exact bX2_tryGreeds_114 C O X (lv_sub hl [] rfl) hF
  · rw [if_neg h_z] at hF
    exact bX2_tryGreeds_10 C O K3 (hk_k1 : xk k1 = 9) (hk_k2 : xk k2 = 1) X (lv_sub hl [0, 1, 2, 3, 4, 5] rfl) hF
noncomputable def fX2_tryGreeds_h3 (N : Nat) : Nat → Nat → Nat → Int32 → Int32 → gS → Option (Int32 × gS)
  | 0, _, _, _, _, _ => none
  | n + 1, k1, k2, x4, x5, S => fX2_tryGreeds_b3 N (fX2_tryGreeds_h3 N n) k1 k2 x4 x5 S
theorem hX2_tryGreeds_3 {N : Nat} {o : Int32 × gS} (C : gC p s m args meth c cX2_tryGreeds 6 RX2 none D (xtys cI cB cZ cQ) xord g Am) (O : xO g cI cB cZ cQ Am) : ∀ (n : Nat) (k1 : Nat) (k2 : Nat) (x4 : Int32) (x5 : Int32) (hk_k1 : xk k1 = 9) (hk_k2 : xk k2 = 1) (S : gS) (H : Heap) (locs : List Loc) (ls : Array Slot), gX D (xcell g cI cB cZ cQ) xord g S s H locs → lv_has ls 6 [(0, .ref (g 62)), (1, .ref (g k1)), (2, .ref (g k2)), (3, .ref (g 51)), (4, .int x4), (5, .int x5)] → fX2_tryGreeds_h3 N n k1 k2 x4 x5 S = some o → W p l e (rmd 5) s m args below meth c H locs 0 0 (gE below args s D (xtys cI cB cZ cQ) (xcell g cI cB cZ cQ) xord g none o.2) (F0 m 3 ls []) := by
  intro n
  induction n with
  | zero =>
    intro k1 k2 x4 x5 hk_k1 hk_k2 S H locs ls X hl hF
    exact absurd (show (none : Option (Int32 × gS)) = some o from hF) (by simp)
  | succ n ih =>
    intro k1 k2 x4 x5 hk_k1 hk_k2 S H locs ls X hl hF
    have hF : fX2_tryGreeds_b3 N (fX2_tryGreeds_h3 N n) k1 k2 x4 x5 S = some o := hF
    exact bX2_tryGreeds_3 C O ih hk_k1 hk_k2 X hl hF
noncomputable def fX2_tryGreeds_b0 (N : Nat) (k1 : Nat) (k2 : Nat) (x4 : Int32) (S : gS) : Option (Int32 × gS) := fX2_tryGreeds_h3 N N k1 k2 x4 0 S
theorem bX2_tryGreeds_0 {N : Nat} {k1 : Nat} {k2 : Nat} {x4 : Int32} {S : gS} {H : Heap} {locs : List Loc} {ls : Array Slot} {o : Int32 × gS} (C : gC p s m args meth c cX2_tryGreeds 6 RX2 none D (xtys cI cB cZ cQ) xord g Am) (O : xO g cI cB cZ cQ Am) (hk_k1 : xk k1 = 9) (hk_k2 : xk k2 = 1) (X : gX D (xcell g cI cB cZ cQ) xord g S s H locs) (hl : lv_has ls 6 [(0, .ref (g 62)), (1, .ref (g k1)), (2, .ref (g k2)), (3, .ref (g 51)), (4, .int x4)]) (hF : fX2_tryGreeds_b0 N k1 k2 x4 S = some o) : W p l e (rmd 5) s m args below meth c H locs 0 0 (gE below args s D (xtys cI cB cZ cQ) (xcell g cI cB cZ cQ) xord g none o.2) (F0 m 0 ls []) := by
  unfold fX2_tryGreeds_b0 at hF
  refine lv_iconst (v := 0) C.1.1 C.1.2.1 dX2_tryGreeds_0 (by decide) ?_
  refine lv_istore (lv' := [(5, .int 0), (0, .ref (g 62)), (1, .ref (g k1)), (2, .ref (g k2)), (3, .ref (g 51)), (4, .int x4)]) C.1.1 C.1.2.1 dX2_tryGreeds_1 hl (by decide) rfl (fun ls hl => ?_)
  exact hX2_tryGreeds_3 C O N _ _ _ _ (hk_k1 : xk k1 = 9) (hk_k2 : xk k2 = 1) _ _ _ _ X (lv_sub hl [1, 2, 3, 4, 5, 0] rfl) hF
noncomputable def fX2_tryGreeds (N : Nat) (k1 : Nat) (k2 : Nat) (x4 : Int32) (S : gS) : Option (Int32 × gS) := fX2_tryGreeds_b0 N k1 k2 x4 S
theorem kX2_tryGreeds {l : Launch} {D : va_G} {g : Nat → Nat} {cI cB cZ cQ : ClassId} {Am : (Nat → Prop) → State → Heap → Prop} (O : xO g cI cB cZ cQ Am) (P : gAm Am) (N : Nat) (k1 : Nat) (k2 : Nat) (x4 : Int32) (hk_k1 : xk k1 = 9) (hk_k2 : xk k2 = 1) (S : gS) (o : Int32 × gS) (hF : fX2_tryGreeds N k1 k2 x4 S = some o) : gM l yX2_tryGreeds cX2_tryGreeds 6 none 5 D (xtys cI cB cZ cQ) (xcell g cI cB cZ cQ) xord g Am [.ref (g 62), .ref (g k1), .ref (g k2), .ref (g 51), .int x4] S none o.2 :=
  gM_of O.1 P (by decide) (Nat.le_of_ble_eq_true rfl) (fun p e s m args below meth c ls C X hl => bX2_tryGreeds_0 C O hk_k1 hk_k2 X (lv_sub hl [0, 1, 2, 3, 4] rfl) hF)
-- X11.isContent
noncomputable def fX11_isContent_b42 (N : Nat) (t0 : Int32) (S : gS) : Option (Int32 × gS) := chk (zb t0) (some (t0, S))
theorem bX11_isContent_42 {N : Nat} {t0 : Int32} {S : gS} {H : Heap} {locs : List Loc} {ls : Array Slot} {o : Int32 × gS} (C : gC p s m args meth c cX11_isContent 6 RX11 ((some .boolean)) D (xtys cI cB cZ cQ) xord g Am) (O : xO g cI cB cZ cQ Am) (X : gX D (xcell g cI cB cZ cQ) xord g S s H locs) (hl : lv_has ls 6 []) (hF : fX11_isContent_b42 N t0 S = some o) : W p l e (rmd 6) s m args below meth c H locs 0 0 (gE below args s D (xtys cI cB cZ cQ) (xcell g cI cB cZ cQ) xord g (some (.int o.1)) o.2) (F0 m 42 ls [.int t0]) := by
  unfold fX11_isContent_b42 at hF
  obtain ⟨h_1, hF⟩ := chk_some hF
  cases hF
  exact g_zret C X h_1 dX11_isContent_42
noncomputable def fX11_isContent_b41 (N : Nat) (S : gS) : Option (Int32 × gS) := fX11_isContent_b42 N 0 S
theorem bX11_isContent_41 {N : Nat} {S : gS} {H : Heap} {locs : List Loc} {ls : Array Slot} {o : Int32 × gS} (C : gC p s m args meth c cX11_isContent 6 RX11 ((some .boolean)) D (xtys cI cB cZ cQ) xord g Am) (O : xO g cI cB cZ cQ Am) (X : gX D (xcell g cI cB cZ cQ) xord g S s H locs) (hl : lv_has ls 6 []) (hF : fX11_isContent_b41 N S = some o) : W p l e (rmd 6) s m args below meth c H locs 0 0 (gE below args s D (xtys cI cB cZ cQ) (xcell g cI cB cZ cQ) xord g (some (.int o.1)) o.2) (F0 m 41 ls []) := by
  unfold fX11_isContent_b41 at hF
  refine lv_iconst (v := 0) C.1.1 C.1.2.1 dX11_isContent_41 (by decide) ?_
  exact bX11_isContent_42 C O X (lv_sub hl [] rfl) hF
noncomputable def fX11_isContent_b37 (N : Nat) (S : gS) : Option (Int32 × gS) := fX11_isContent_b42 N 1 S
theorem bX11_isContent_37 {N : Nat} {S : gS} {H : Heap} {locs : List Loc} {ls : Array Slot} {o : Int32 × gS} (C : gC p s m args meth c cX11_isContent 6 RX11 ((some .boolean)) D (xtys cI cB cZ cQ) xord g Am) (O : xO g cI cB cZ cQ Am) (X : gX D (xcell g cI cB cZ cQ) xord g S s H locs) (hl : lv_has ls 6 []) (hF : fX11_isContent_b37 N S = some o) : W p l e (rmd 6) s m args below meth c H locs 0 0 (gE below args s D (xtys cI cB cZ cQ) (xcell g cI cB cZ cQ) xord g (some (.int o.1)) o.2) (F0 m 37 ls []) := by
  unfold fX11_isContent_b37 at hF
  refine lv_iconst (v := 1) C.1.1 C.1.2.1 dX11_isContent_37 (by decide) ?_
  refine lv_goto (tgt := 42) C.1.1 C.1.2.1 dX11_isContent_38 (by decide) ?_
  exact bX11_isContent_42 C O X (lv_sub hl [] rfl) hF
noncomputable def fX11_isContent_b15 (N : Nat) (x1 : Int32) (x2 : Int32) (x3 : Int32) (x4 : Int32) (x5 : Int32) (S : gS) : Option (Int32 × gS) := bnd (fX11_gain N x1 x5 x3 x4 S) fun q1 => (bnd (fX11_gain N x1 x2 x3 x4 q1.2) fun q2 => (if q2.1 < q1.1 then fX11_isContent_b41 N q2.2 else fX11_isContent_b37 N q2.2))
theorem bX11_isContent_15 {N : Nat} {x1 : Int32} {x2 : Int32} {x3 : Int32} {x4 : Int32} {x5 : Int32} {S : gS} {H : Heap} {locs : List Loc} {ls : Array Slot} {o : Int32 × gS} (C : gC p s m args meth c cX11_isContent 6 RX11 ((some .boolean)) D (xtys cI cB cZ cQ) xord g Am) (O : xO g cI cB cZ cQ Am) (X : gX D (xcell g cI cB cZ cQ) xord g S s H locs) (hl : lv_has ls 6 [(0, .ref (g 0)), (1, .int x1), (2, .int x2), (3, .int x3), (4, .int x4), (5, .int x5)]) (hF : fX11_isContent_b15 N x1 x2 x3 x4 x5 S = some o) : W p l e (rmd 6) s m args below meth c H locs 0 0 (gE below args s D (xtys cI cB cZ cQ) (xcell g cI cB cZ cQ) xord g (some (.int o.1)) o.2) (F0 m 15 ls []) := by
  unfold fX11_isContent_b15 at hF
  refine lv_aload_n C.1.1 C.1.2.1 dX11_isContent_15 rfl (lv_at hl 0 rfl) ?_
  refine lv_iload_n C.1.1 C.1.2.1 dX11_isContent_16 rfl (lv_at hl 1 rfl) ?_
  refine lv_iload C.1.1 C.1.2.1 dX11_isContent_17 (lv_at hl 5 rfl) ?_
  refine lv_iload_n C.1.1 C.1.2.1 dX11_isContent_19 rfl (lv_at hl 3 rfl) ?_
  refine lv_iload C.1.1 C.1.2.1 dX11_isContent_20 (lv_at hl 4 rfl) ?_
  obtain ⟨q1, hq1, hF⟩ := bnd_some hF
  refine x_callVi C X (k := 0) xv_X11_398 (rfl : xk 0 = 11) rfl rfl (by decide) (kX11_gain O C.2.2.2.2.1 N x1 x5 x3 x4 S q1 hq1) (Nat.le_of_ble_eq_true rfl) (Nat.le_of_ble_eq_true rfl) (Nat.le_of_ble_eq_true rfl) (Nat.le_of_ble_eq_true rfl) rfl hl.1 rfl (Nat.le_of_ble_eq_true rfl) dX11_isContent_22 (fun H locs X => ?_)
  refine lv_aload_n C.1.1 C.1.2.1 dX11_isContent_25 rfl (lv_at hl 0 rfl) ?_
  refine lv_iload_n C.1.1 C.1.2.1 dX11_isContent_26 rfl (lv_at hl 1 rfl) ?_
  refine lv_iload_n C.1.1 C.1.2.1 dX11_isContent_27 rfl (lv_at hl 2 rfl) ?_
  refine lv_iload_n C.1.1 C.1.2.1 dX11_isContent_28 rfl (lv_at hl 3 rfl) ?_
  refine lv_iload C.1.1 C.1.2.1 dX11_isContent_29 (lv_at hl 4 rfl) ?_
  obtain ⟨q2, hq2, hF⟩ := bnd_some hF
  refine x_callVi C X (k := 0) xv_X11_398 (rfl : xk 0 = 11) rfl rfl (by decide) (kX11_gain O C.2.2.2.2.1 N x1 x2 x3 x4 q1.2 q2 hq2) (Nat.le_of_ble_eq_true rfl) (Nat.le_of_ble_eq_true rfl) (Nat.le_of_ble_eq_true rfl) (Nat.le_of_ble_eq_true rfl) rfl hl.1 rfl (Nat.le_of_ble_eq_true rfl) dX11_isContent_31 (fun H locs X => ?_)
  refine lv_icmp_gt (tgt := 41) C.1.1 C.1.2.1 dX11_isContent_34 (by decide) (fun h_z => ?_) (fun h_z => ?_)
  · rw [if_pos h_z] at hF
    exact bX11_isContent_41 C O X (lv_sub hl [] rfl) hF
  · rw [if_neg h_z] at hF
    exact bX11_isContent_37 C O X (lv_sub hl [] rfl) hF
noncomputable def fX11_isContent_b0 (N : Nat) (x1 : Int32) (x2 : Int32) (x3 : Int32) (x4 : Int32) (S : gS) : Option (Int32 × gS) := bnd (fX11_mostChoice N x1 S) fun q1 => (if q1.1 < ((1 - x2 : Int32)) then fX11_isContent_b37 N q1.2 else fX11_isContent_b15 N x1 x2 x3 x4 ((1 - x2 : Int32)) q1.2)
theorem bX11_isContent_0 {N : Nat} {x1 : Int32} {x2 : Int32} {x3 : Int32} {x4 : Int32} {S : gS} {H : Heap} {locs : List Loc} {ls : Array Slot} {o : Int32 × gS} (C : gC p s m args meth c cX11_isContent 6 RX11 ((some .boolean)) D (xtys cI cB cZ cQ) xord g Am) (O : xO g cI cB cZ cQ Am) (X : gX D (xcell g cI cB cZ cQ) xord g S s H locs) (hl : lv_has ls 6 [(0, .ref (g 0)), (1, .int x1), (2, .int x2), (3, .int x3), (4, .int x4)]) (hF : fX11_isContent_b0 N x1 x2 x3 x4 S = some o) : W p l e (rmd 6) s m args below meth c H locs 0 0 (gE below args s D (xtys cI cB cZ cQ) (xcell g cI cB cZ cQ) xord g (some (.int o.1)) o.2) (F0 m 0 ls []) := by
  unfold fX11_isContent_b0 at hF
  refine lv_iconst (v := 1) C.1.1 C.1.2.1 dX11_isContent_0 (by decide) ?_
  refine lv_iload_n C.1.1 C.1.2.1 dX11_isContent_1 rfl (lv_at hl 2 rfl) ?_
  refine lv_isub C.1.1 C.1.2.1 dX11_isContent_2 ?_
  refine lv_istore (lv' := [(5, .int ((1 - x2 : Int32))), (0, .ref (g 0)), (1, .int x1), (2, .int x2), (3, .int x3), (4, .int x4)]) C.1.1 C.1.2.1 dX11_isContent_3 hl (by decide) rfl (fun ls hl => ?_)
  refine lv_iload C.1.1 C.1.2.1 dX11_isContent_5 (lv_at hl 0 rfl) ?_
  refine lv_aload_n C.1.1 C.1.2.1 dX11_isContent_7 rfl (lv_at hl 1 rfl) ?_
  refine lv_iload_n C.1.1 C.1.2.1 dX11_isContent_8 rfl (lv_at hl 2 rfl) ?_
  obtain ⟨q1, hq1, hF⟩ := bnd_some hF
  refine x_callVi C X (k := 0) xv_X11_346 (rfl : xk 0 = 11) rfl rfl (by decide) (kX11_mostChoice O C.2.2.2.2.1 N x1 S q1 hq1) (Nat.le_of_ble_eq_true rfl) (Nat.le_of_ble_eq_true rfl) (Nat.le_of_ble_eq_true rfl) (Nat.le_of_ble_eq_true rfl) rfl hl.1 rfl (Nat.le_of_ble_eq_true rfl) dX11_isContent_9 (fun H locs X => ?_)
  refine lv_icmp_gt (tgt := 37) C.1.1 C.1.2.1 dX11_isContent_12 (by decide) (fun h_z => ?_) (fun h_z => ?_)
  · rw [if_pos h_z] at hF
    exact bX11_isContent_37 C O X (lv_sub hl [] rfl) hF
  · rw [if_neg h_z] at hF
    exact bX11_isContent_15 C O X (lv_sub hl [1, 2, 3, 4, 5, 0] rfl) hF
noncomputable def fX11_isContent (N : Nat) (x1 : Int32) (x2 : Int32) (x3 : Int32) (x4 : Int32) (S : gS) : Option (Int32 × gS) := fX11_isContent_b0 N x1 x2 x3 x4 S
theorem kX11_isContent {l : Launch} {D : va_G} {g : Nat → Nat} {cI cB cZ cQ : ClassId} {Am : (Nat → Prop) → State → Heap → Prop} (O : xO g cI cB cZ cQ Am) (P : gAm Am) (N : Nat) (x1 : Int32) (x2 : Int32) (x3 : Int32) (x4 : Int32) (S : gS) (o : Int32 × gS) (hF : fX11_isContent N x1 x2 x3 x4 S = some o) : gM l yX11_isContent cX11_isContent 6 ((some .boolean)) 6 D (xtys cI cB cZ cQ) (xcell g cI cB cZ cQ) xord g Am [.ref (g 0), .int x1, .int x2, .int x3, .int x4] S (some (.int o.1)) o.2 :=
  gM_of O.1 P (by decide) (Nat.le_of_ble_eq_true rfl) (fun p e s m args below meth c ls C X hl => bX11_isContent_0 C O X (lv_sub hl [0, 1, 2, 3, 4] rfl) hF)
-- X2.weigh
noncomputable def fX2_weigh_b130 (N : Nat) (S : gS) : Option (Int32 × gS) := some (0, S)
theorem bX2_weigh_130 {N : Nat} {S : gS} {H : Heap} {locs : List Loc} {ls : Array Slot} {o : Int32 × gS} (C : gC p s m args meth c cX2_weigh 5 RX2 none D (xtys cI cB cZ cQ) xord g Am) (O : xO g cI cB cZ cQ Am) (X : gX D (xcell g cI cB cZ cQ) xord g S s H locs) (hl : lv_has ls 5 []) (hF : fX2_weigh_b130 N S = some o) : W p l e (rmd 6) s m args below meth c H locs 0 0 (gE below args s D (xtys cI cB cZ cQ) (xcell g cI cB cZ cQ) xord g none o.2) (F0 m 130 ls []) := by
  unfold fX2_weigh_b130 at hF
  cases hF
  exact g_vret C X dX2_weigh_130
noncomputable def fX2_weigh_b124 (N : Nat) (r92 : Nat → Nat → Int32 → gS → Option (Int32 × gS)) (k1 : Nat) (k2 : Nat) (x4 : Int32) (S : gS) : Option (Int32 × gS) := r92 k1 k2 ((x4 + 1 : Int32)) S
theorem bX2_weigh_124 {N : Nat} {r92 : Nat → Nat → Int32 → gS → Option (Int32 × gS)} {k1 : Nat} {k2 : Nat} {x4 : Int32} {S : gS} {H : Heap} {locs : List Loc} {ls : Array Slot} {o : Int32 × gS} (C : gC p s m args meth c cX2_weigh 5 RX2 none D (xtys cI cB cZ cQ) xord g Am) (O : xO g cI cB cZ cQ Am) (K92 : ∀ (k1 : Nat) (k2 : Nat) (x4 : Int32) (hk_k1 : xk k1 = 9) (hk_k2 : xk k2 = 1) (S : gS) (H : Heap) (locs : List Loc) (ls : Array Slot), gX D (xcell g cI cB cZ cQ) xord g S s H locs → lv_has ls 5 [(0, .ref (g 62)), (1, .ref (g k1)), (2, .ref (g k2)), (3, .ref (g 51)), (4, .int x4)] → r92 k1 k2 x4 S = some o → W p l e (rmd 6) s m args below meth c H locs 0 0 (gE below args s D (xtys cI cB cZ cQ) (xcell g cI cB cZ cQ) xord g none o.2) (F0 m 92 ls [])) (hk_k1 : xk k1 = 9) (hk_k2 : xk k2 = 1) (X : gX D (xcell g cI cB cZ cQ) xord g S s H locs) (hl : lv_has ls 5 [(0, .ref (g 62)), (1, .ref (g k1)), (2, .ref (g k2)), (3, .ref (g 51)), (4, .int x4)]) (hF : fX2_weigh_b124 N r92 k1 k2 x4 S = some o) : W p l e (rmd 6) s m args below meth c H locs 0 0 (gE below args s D (xtys cI cB cZ cQ) (xcell g cI cB cZ cQ) xord g none o.2) (F0 m 124 ls []) := by
  unfold fX2_weigh_b124 at hF
  refine lv_iinc (v := (x4 + 1 : Int32)) (lv' := [(4, .int ((x4 + 1 : Int32))), (0, .ref (g 62)), (1, .ref (g k1)), (2, .ref (g k2)), (3, .ref (g 51))]) C.1.1 C.1.2.1 dX2_weigh_124 hl (k := 4) rfl rfl (by decide) rfl (fun ls hl => ?_)
  refine lv_goto (tgt := 92) C.1.1 C.1.2.1 dX2_weigh_127 (by decide) ?_
  exact K92 _ _ _ (hk_k1 : xk k1 = 9) (hk_k2 : xk k2 = 1) _ _ _ _ X (lv_sub hl [1, 2, 3, 4, 0] rfl) hF
noncomputable def fX2_weigh_b115 (N : Nat) (r92 : Nat → Nat → Int32 → gS → Option (Int32 × gS)) (k1 : Nat) (k2 : Nat) (x4 : Int32) (S : gS) : Option (Int32 × gS) := bnd (fX2_tryGreeds N k1 k2 x4 S) fun q1 => (fX2_weigh_b124 N r92 k1 k2 x4 q1.2)
theorem bX2_weigh_115 {N : Nat} {r92 : Nat → Nat → Int32 → gS → Option (Int32 × gS)} {k1 : Nat} {k2 : Nat} {x4 : Int32} {S : gS} {H : Heap} {locs : List Loc} {ls : Array Slot} {o : Int32 × gS} (C : gC p s m args meth c cX2_weigh 5 RX2 none D (xtys cI cB cZ cQ) xord g Am) (O : xO g cI cB cZ cQ Am) (K92 : ∀ (k1 : Nat) (k2 : Nat) (x4 : Int32) (hk_k1 : xk k1 = 9) (hk_k2 : xk k2 = 1) (S : gS) (H : Heap) (locs : List Loc) (ls : Array Slot), gX D (xcell g cI cB cZ cQ) xord g S s H locs → lv_has ls 5 [(0, .ref (g 62)), (1, .ref (g k1)), (2, .ref (g k2)), (3, .ref (g 51)), (4, .int x4)] → r92 k1 k2 x4 S = some o → W p l e (rmd 6) s m args below meth c H locs 0 0 (gE below args s D (xtys cI cB cZ cQ) (xcell g cI cB cZ cQ) xord g none o.2) (F0 m 92 ls [])) (hk_k1 : xk k1 = 9) (hk_k2 : xk k2 = 1) (X : gX D (xcell g cI cB cZ cQ) xord g S s H locs) (hl : lv_has ls 5 [(0, .ref (g 62)), (1, .ref (g k1)), (2, .ref (g k2)), (3, .ref (g 51)), (4, .int x4)]) (hF : fX2_weigh_b115 N r92 k1 k2 x4 S = some o) : W p l e (rmd 6) s m args below meth c H locs 0 0 (gE below args s D (xtys cI cB cZ cQ) (xcell g cI cB cZ cQ) xord g none o.2) (F0 m 115 ls []) := by
  unfold fX2_weigh_b115 at hF
  refine lv_aload_n C.1.1 C.1.2.1 dX2_weigh_115 rfl (lv_at hl 0 rfl) ?_
  refine lv_aload_n C.1.1 C.1.2.1 dX2_weigh_116 rfl (lv_at hl 1 rfl) ?_
  refine lv_aload_n C.1.1 C.1.2.1 dX2_weigh_117 rfl (lv_at hl 2 rfl) ?_
  refine lv_aload_n C.1.1 C.1.2.1 dX2_weigh_118 rfl (lv_at hl 3 rfl) ?_
  refine lv_iload C.1.1 C.1.2.1 dX2_weigh_119 (lv_at hl 4 rfl) ?_
  obtain ⟨q1, hq1, hF⟩ := bnd_some hF
  refine x_callV C X (k := 62) xv_X2_63 (rfl : xk 62 = 2) rfl rfl (by decide) (kX2_tryGreeds O C.2.2.2.2.1 N k1 k2 x4 (hk_k1 : xk k1 = 9) (hk_k2 : xk k2 = 1) S q1 hq1) (Nat.le_of_ble_eq_true rfl) (Nat.le_of_ble_eq_true rfl) (Nat.le_of_ble_eq_true rfl) (Nat.le_of_ble_eq_true rfl) rfl hl.1 rfl (Nat.le_of_ble_eq_true rfl) dX2_weigh_121 (fun H locs X => ?_)
  exact bX2_weigh_124 C O K92 (hk_k1 : xk k1 = 9) (hk_k2 : xk k2 = 1) X (lv_sub hl [0, 1, 2, 3, 4] rfl) hF
noncomputable def fX2_weigh_b101 (N : Nat) (r92 : Nat → Nat → Int32 → gS → Option (Int32 × gS)) (k1 : Nat) (k2 : Nat) (x4 : Int32) (S : gS) : Option (Int32 × gS) := bnd (fX2_doOthersSuit N k1 (k2 + 8) x4 S) fun q1 => (if q1.1 = 0 then fX2_weigh_b124 N r92 k1 k2 x4 q1.2 else fX2_weigh_b115 N r92 k1 k2 x4 q1.2)
theorem bX2_weigh_101 {N : Nat} {r92 : Nat → Nat → Int32 → gS → Option (Int32 × gS)} {k1 : Nat} {k2 : Nat} {x4 : Int32} {S : gS} {H : Heap} {locs : List Loc} {ls : Array Slot} {o : Int32 × gS} (C : gC p s m args meth c cX2_weigh 5 RX2 none D (xtys cI cB cZ cQ) xord g Am) (O : xO g cI cB cZ cQ Am) (K92 : ∀ (k1 : Nat) (k2 : Nat) (x4 : Int32) (hk_k1 : xk k1 = 9) (hk_k2 : xk k2 = 1) (S : gS) (H : Heap) (locs : List Loc) (ls : Array Slot), gX D (xcell g cI cB cZ cQ) xord g S s H locs → lv_has ls 5 [(0, .ref (g 62)), (1, .ref (g k1)), (2, .ref (g k2)), (3, .ref (g 51)), (4, .int x4)] → r92 k1 k2 x4 S = some o → W p l e (rmd 6) s m args below meth c H locs 0 0 (gE below args s D (xtys cI cB cZ cQ) (xcell g cI cB cZ cQ) xord g none o.2) (F0 m 92 ls [])) (hk_k1 : xk k1 = 9) (hk_k2 : xk k2 = 1) (X : gX D (xcell g cI cB cZ cQ) xord g S s H locs) (hl : lv_has ls 5 [(0, .ref (g 62)), (1, .ref (g k1)), (2, .ref (g k2)), (3, .ref (g 51)), (4, .int x4)]) (hF : fX2_weigh_b101 N r92 k1 k2 x4 S = some o) : W p l e (rmd 6) s m args below meth c H locs 0 0 (gE below args s D (xtys cI cB cZ cQ) (xcell g cI cB cZ cQ) xord g none o.2) (F0 m 101 ls []) := by
  unfold fX2_weigh_b101 at hF
  refine lv_aload_n C.1.1 C.1.2.1 dX2_weigh_101 rfl (lv_at hl 0 rfl) ?_
  refine lv_aload_n C.1.1 C.1.2.1 dX2_weigh_102 rfl (lv_at hl 1 rfl) ?_
  refine lv_aload_n C.1.1 C.1.2.1 dX2_weigh_103 rfl (lv_at hl 2 rfl) ?_
  refine xg_X2_55 C O X (k := k2) hk_k2 (j := k2 + 8) rfl dX2_weigh_104 ?_
  refine lv_iload C.1.1 C.1.2.1 dX2_weigh_107 (lv_at hl 4 rfl) ?_
  obtain ⟨q1, hq1, hF⟩ := bnd_some hF
  refine x_callVi C X (k := 62) xv_X2_59 (rfl : xk 62 = 2) rfl rfl (by decide) (kX2_doOthersSuit O C.2.2.2.2.1 N k1 (k2 + 8) x4 (hk_k1 : xk k1 = 9) ((xs_1_2 hk_k2) : xk (k2 + 8) = 5) S q1 hq1) (Nat.le_of_ble_eq_true rfl) (Nat.le_of_ble_eq_true rfl) (Nat.le_of_ble_eq_true rfl) (Nat.le_of_ble_eq_true rfl) rfl hl.1 rfl (Nat.le_of_ble_eq_true rfl) dX2_weigh_109 (fun H locs X => ?_)
  refine lv_if_eq (tgt := 124) C.1.1 C.1.2.1 dX2_weigh_112 (by decide) (fun h_z => ?_) (fun h_z => ?_)
  · rw [if_pos h_z] at hF
    exact bX2_weigh_124 C O K92 (hk_k1 : xk k1 = 9) (hk_k2 : xk k2 = 1) X (lv_sub hl [0, 1, 2, 3, 4] rfl) hF
  · rw [if_neg h_z] at hF
    exact bX2_weigh_115 C O K92 (hk_k1 : xk k1 = 9) (hk_k2 : xk k2 = 1) X (lv_sub hl [0, 1, 2, 3, 4] rfl) hF
noncomputable def fX2_weigh_b92 (N : Nat) (r92 : Nat → Nat → Int32 → gS → Option (Int32 × gS)) (k1 : Nat) (k2 : Nat) (x4 : Int32) (S : gS) : Option (Int32 × gS) := if (S k1 5) ≤ x4 then fX2_weigh_b130 N S else fX2_weigh_b101 N r92 k1 k2 x4 S
theorem bX2_weigh_92 {N : Nat} {r92 : Nat → Nat → Int32 → gS → Option (Int32 × gS)} {k1 : Nat} {k2 : Nat} {x4 : Int32} {S : gS} {H : Heap} {locs : List Loc} {ls : Array Slot} {o : Int32 × gS} (C : gC p s m args meth c cX2_weigh 5 RX2 none D (xtys cI cB cZ cQ) xord g Am) (O : xO g cI cB cZ cQ Am) (K92 : ∀ (k1 : Nat) (k2 : Nat) (x4 : Int32) (hk_k1 : xk k1 = 9) (hk_k2 : xk k2 = 1) (S : gS) (H : Heap) (locs : List Loc) (ls : Array Slot), gX D (xcell g cI cB cZ cQ) xord g S s H locs → lv_has ls 5 [(0, .ref (g 62)), (1, .ref (g k1)), (2, .ref (g k2)), (3, .ref (g 51)), (4, .int x4)] → r92 k1 k2 x4 S = some o → W p l e (rmd 6) s m args below meth c H locs 0 0 (gE below args s D (xtys cI cB cZ cQ) (xcell g cI cB cZ cQ) xord g none o.2) (F0 m 92 ls [])) (hk_k1 : xk k1 = 9) (hk_k2 : xk k2 = 1) (X : gX D (xcell g cI cB cZ cQ) xord g S s H locs) (hl : lv_has ls 5 [(0, .ref (g 62)), (1, .ref (g k1)), (2, .ref (g k2)), (3, .ref (g 51)), (4, .int x4)]) (hF : fX2_weigh_b92 N r92 k1 k2 x4 S = some o) : W p l e (rmd 6) s m args below meth c H locs 0 0 (gE below args s D (xtys cI cB cZ cQ) (xcell g cI cB cZ cQ) xord g none o.2) (F0 m 92 ls []) := by
  unfold fX2_weigh_b92 at hF
  refine lv_iload C.1.1 C.1.2.1 dX2_weigh_92 (lv_at hl 4 rfl) ?_
  refine lv_aload_n C.1.1 C.1.2.1 dX2_weigh_94 rfl (lv_at hl 1 rfl) ?_
  refine xg_X2_34 C O X (k := k1) hk_k1 dX2_weigh_95 ?_
  refine lv_icmp_ge (tgt := 130) C.1.1 C.1.2.1 dX2_weigh_98 (by decide) (fun h_z => ?_) (fun h_z => ?_)
  · rw [if_pos h_z] at hF
    exact bX2_weigh_130 C O X (lv_sub hl [] rfl) hF
  · rw [if_neg h_z] at hF
    exact bX2_weigh_101 C O K92 (hk_k1 : xk k1 = 9) (hk_k2 : xk k2 = 1) X (lv_sub hl [0, 1, 2, 3, 4] rfl) hF
noncomputable def fX2_weigh_h92 (N : Nat) : Nat → Nat → Nat → Int32 → gS → Option (Int32 × gS)
  | 0, _, _, _, _ => none
  | n + 1, k1, k2, x4, S => fX2_weigh_b92 N (fX2_weigh_h92 N n) k1 k2 x4 S
theorem hX2_weigh_92 {N : Nat} {o : Int32 × gS} (C : gC p s m args meth c cX2_weigh 5 RX2 none D (xtys cI cB cZ cQ) xord g Am) (O : xO g cI cB cZ cQ Am) : ∀ (n : Nat) (k1 : Nat) (k2 : Nat) (x4 : Int32) (hk_k1 : xk k1 = 9) (hk_k2 : xk k2 = 1) (S : gS) (H : Heap) (locs : List Loc) (ls : Array Slot), gX D (xcell g cI cB cZ cQ) xord g S s H locs → lv_has ls 5 [(0, .ref (g 62)), (1, .ref (g k1)), (2, .ref (g k2)), (3, .ref (g 51)), (4, .int x4)] → fX2_weigh_h92 N n k1 k2 x4 S = some o → W p l e (rmd 6) s m args below meth c H locs 0 0 (gE below args s D (xtys cI cB cZ cQ) (xcell g cI cB cZ cQ) xord g none o.2) (F0 m 92 ls []) := by
  intro n
  induction n with
  | zero =>
    intro k1 k2 x4 hk_k1 hk_k2 S H locs ls X hl hF
    exact absurd (show (none : Option (Int32 × gS)) = some o from hF) (by simp)
  | succ n ih =>
    intro k1 k2 x4 hk_k1 hk_k2 S H locs ls X hl hF
    have hF : fX2_weigh_b92 N (fX2_weigh_h92 N n) k1 k2 x4 S = some o := hF
    exact bX2_weigh_92 C O ih hk_k1 hk_k2 X hl hF
noncomputable def fX2_weigh_b75 (N : Nat) (k1 : Nat) (k2 : Nat) (S : gS) : Option (Int32 × gS) := bnd (fX2_doOthersSuit N k1 (k2 + 8) ((-1)) S) fun q1 => (chk (zb q1.1) (lt (sU q1.2 62 5 q1.1) fun S1 => (fX2_weigh_h92 N N k1 k2 0 S1)))
theorem bX2_weigh_75 {N : Nat} {k1 : Nat} {k2 : Nat} {S : gS} {H : Heap} {locs : List Loc} {ls : Array Slot} {o : Int32 × gS} (C : gC p s m args meth c cX2_weigh 5 RX2 none D (xtys cI cB cZ cQ) xord g Am) (O : xO g cI cB cZ cQ Am) (hk_k1 : xk k1 = 9) (hk_k2 : xk k2 = 1) (X : gX D (xcell g cI cB cZ cQ) xord g S s H locs) (hl : lv_has ls 5 [(0, .ref (g 62)), (1, .ref (g k1)), (2, .ref (g k2)), (3, .ref (g 51))]) (hF : fX2_weigh_b75 N k1 k2 S = some o) : W p l e (rmd 6) s m args below meth c H locs 0 0 (gE below args s D (xtys cI cB cZ cQ) (xcell g cI cB cZ cQ) xord g none o.2) (F0 m 75 ls []) := by
  unfold fX2_weigh_b75 at hF
  refine lv_aload_n C.1.1 C.1.2.1 dX2_weigh_75 rfl (lv_at hl 0 rfl) ?_
  refine lv_aload_n C.1.1 C.1.2.1 dX2_weigh_76 rfl (lv_at hl 0 rfl) ?_
  refine lv_aload_n C.1.1 C.1.2.1 dX2_weigh_77 rfl (lv_at hl 1 rfl) ?_
  refine lv_aload_n C.1.1 C.1.2.1 dX2_weigh_78 rfl (lv_at hl 2 rfl) ?_
  refine xg_X2_55 C O X (k := k2) hk_k2 (j := k2 + 8) rfl dX2_weigh_79 ?_
  refine lv_iconst (v := (-1)) C.1.1 C.1.2.1 dX2_weigh_82 (by decide) ?_
  obtain ⟨q1, hq1, hF⟩ := bnd_some hF
  refine x_callVi C X (k := 62) xv_X2_59 (rfl : xk 62 = 2) rfl rfl (by decide) (kX2_doOthersSuit O C.2.2.2.2.1 N k1 (k2 + 8) ((-1)) (hk_k1 : xk k1 = 9) ((xs_1_2 hk_k2) : xk (k2 + 8) = 5) S q1 hq1) (Nat.le_of_ble_eq_true rfl) (Nat.le_of_ble_eq_true rfl) (Nat.le_of_ble_eq_true rfl) (Nat.le_of_ble_eq_true rfl) rfl hl.1 rfl (Nat.le_of_ble_eq_true rfl) dX2_weigh_83 (fun H locs X => ?_)
  obtain ⟨h_1, hF⟩ := chk_some hF
  obtain ⟨S1, eS1, hF⟩ := lt_some hF
  refine xp_X2_30 C O X (k := 62) rfl h_1 eS1 dX2_weigh_86 (fun H locs X => ?_)
  refine lv_iconst (v := 0) C.1.1 C.1.2.1 dX2_weigh_89 (by decide) ?_
  refine lv_istore (lv' := [(4, .int 0), (0, .ref (g 62)), (1, .ref (g k1)), (2, .ref (g k2)), (3, .ref (g 51))]) C.1.1 C.1.2.1 dX2_weigh_90 hl (by decide) rfl (fun ls hl => ?_)
  exact hX2_weigh_92 C O N _ _ _ (hk_k1 : xk k1 = 9) (hk_k2 : xk k2 = 1) _ _ _ _ X (lv_sub hl [1, 2, 3, 4, 0] rfl) hF
noncomputable def fX2_weigh_b46 (N : Nat) (r37 : Nat → Nat → Int32 → gS → Option (Int32 × gS)) (k1 : Nat) (k2 : Nat) (x4 : Int32) (S : gS) : Option (Int32 × gS) := bnd (fX10_begin N k1 (k2 + 1) x4 S) fun q1 => (chk (inb x4 6) (lt (63 + 1 + Int32.toNatClampNeg x4) fun T1 => (bnd (fX2_follow N k1 T1 q1.2) fun q2 => (r37 k1 k2 ((x4 + 1 : Int32)) q2.2))))
theorem bX2_weigh_46 {N : Nat} {r37 : Nat → Nat → Int32 → gS → Option (Int32 × gS)} {k1 : Nat} {k2 : Nat} {x4 : Int32} {S : gS} {H : Heap} {locs : List Loc} {ls : Array Slot} {o : Int32 × gS} (C : gC p s m args meth c cX2_weigh 5 RX2 none D (xtys cI cB cZ cQ) xord g Am) (O : xO g cI cB cZ cQ Am) (K37 : ∀ (k1 : Nat) (k2 : Nat) (x4 : Int32) (hk_k1 : xk k1 = 9) (hk_k2 : xk k2 = 1) (S : gS) (H : Heap) (locs : List Loc) (ls : Array Slot), gX D (xcell g cI cB cZ cQ) xord g S s H locs → lv_has ls 5 [(0, .ref (g 62)), (1, .ref (g k1)), (2, .ref (g k2)), (3, .ref (g 51)), (4, .int x4)] → r37 k1 k2 x4 S = some o → W p l e (rmd 6) s m args below meth c H locs 0 0 (gE below args s D (xtys cI cB cZ cQ) (xcell g cI cB cZ cQ) xord g none o.2) (F0 m 37 ls [])) (hk_k1 : xk k1 = 9) (hk_k2 : xk k2 = 1) (X : gX D (xcell g cI cB cZ cQ) xord g S s H locs) (hl : lv_has ls 5 [(0, .ref (g 62)), (1, .ref (g k1)), (2, .ref (g k2)), (3, .ref (g 51)), (4, .int x4)]) (hF : fX2_weigh_b46 N r37 k1 k2 x4 S = some o) : W p l e (rmd 6) s m args below meth c H locs 0 0 (gE below args s D (xtys cI cB cZ cQ) (xcell g cI cB cZ cQ) xord g none o.2) (F0 m 46 ls []) := by
  unfold fX2_weigh_b46 at hF
  refine lv_aload_n C.1.1 C.1.2.1 dX2_weigh_46 rfl (lv_at hl 3 rfl) ?_
  refine lv_aload_n C.1.1 C.1.2.1 dX2_weigh_47 rfl (lv_at hl 1 rfl) ?_
  refine lv_aload_n C.1.1 C.1.2.1 dX2_weigh_48 rfl (lv_at hl 2 rfl) ?_
  refine xg_X2_39 C O X (k := k2) hk_k2 (j := k2 + 1) rfl dX2_weigh_49 ?_
  refine lv_iload C.1.1 C.1.2.1 dX2_weigh_52 (lv_at hl 4 rfl) ?_
  obtain ⟨q1, hq1, hF⟩ := bnd_some hF
  refine x_callV C X (k := 51) xv_X2_45 (rfl : xk 51 = 10) rfl rfl (by decide) (kX10_begin O C.2.2.2.2.1 N k1 (k2 + 1) x4 (hk_k1 : xk k1 = 9) ((xs_1_0 hk_k2) : xk (k2 + 1) = 7) S q1 hq1) (Nat.le_of_ble_eq_true rfl) (Nat.le_of_ble_eq_true rfl) (Nat.le_of_ble_eq_true rfl) (Nat.le_of_ble_eq_true rfl) rfl hl.1 rfl (Nat.le_of_ble_eq_true rfl) dX2_weigh_54 (fun H locs X => ?_)
  refine lv_aload_n C.1.1 C.1.2.1 dX2_weigh_57 rfl (lv_at hl 1 rfl) ?_
  refine lv_aload_n C.1.1 C.1.2.1 dX2_weigh_58 rfl (lv_at hl 3 rfl) ?_
  refine lv_aload_n C.1.1 C.1.2.1 dX2_weigh_59 rfl (lv_at hl 0 rfl) ?_
  refine xg_X2_11 C O X (k := 62) rfl (j := 63) rfl dX2_weigh_60 ?_
  refine lv_iload C.1.1 C.1.2.1 dX2_weigh_63 (lv_at hl 4 rfl) ?_
  obtain ⟨h_1, hF⟩ := chk_some hF
  obtain ⟨T1, eT1, hF⟩ := lt_some hF
  have hk_T1 : xk T1 = 20 ∧ xN T1 = 21 := xq_63 (inb_vp h_1) eT1
  refine x_rQ C X (k := 63) rfl (n := 6) rfl (inb_vp h_1) eT1.symm dX2_weigh_65 ?_
  obtain ⟨q2, hq2, hF⟩ := bnd_some hF
  refine g_callS C X xv_X2_51 (kX2_follow O C.2.2.2.2.1 N k1 T1 (hk_k1 : xk k1 = 9) (hk_T1.1 : xk T1 = 20) q1.2 q2 hq2) (Nat.le_of_ble_eq_true rfl) (Nat.le_of_ble_eq_true rfl) (Nat.le_of_ble_eq_true rfl) (Nat.le_of_ble_eq_true rfl) rfl hl.1 rfl (Nat.le_of_ble_eq_true rfl) dX2_weigh_66 (fun H locs X => ?_)
  refine lv_iinc (v := (x4 + 1 : Int32)) (lv' := [(4, .int ((x4 + 1 : Int32))), (0, .ref (g 62)), (1, .ref (g k1)), (2, .ref (g k2)), (3, .ref (g 51))]) C.1.1 C.1.2.1 dX2_weigh_69 hl (k := 4) rfl rfl (by decide) rfl (fun ls hl => ?_)
  refine lv_goto (tgt := 37) C.1.1 C.1.2.1 dX2_weigh_72 (by decide) ?_
  exact K37 _ _ _ (hk_k1 : xk k1 = 9) (hk_k2 : xk k2 = 1) _ _ _ _ X (lv_sub hl [1, 2, 3, 4, 0] rfl) hF
noncomputable def fX2_weigh_b37 (N : Nat) (r37 : Nat → Nat → Int32 → gS → Option (Int32 × gS)) (k1 : Nat) (k2 : Nat) (x4 : Int32) (S : gS) : Option (Int32 × gS) := if (S k1 5) ≤ x4 then fX2_weigh_b75 N k1 k2 S else fX2_weigh_b46 N r37 k1 k2 x4 S
theorem bX2_weigh_37 {N : Nat} {r37 : Nat → Nat → Int32 → gS → Option (Int32 × gS)} {k1 : Nat} {k2 : Nat} {x4 : Int32} {S : gS} {H : Heap} {locs : List Loc} {ls : Array Slot} {o : Int32 × gS} (C : gC p s m args meth c cX2_weigh 5 RX2 none D (xtys cI cB cZ cQ) xord g Am) (O : xO g cI cB cZ cQ Am) (K37 : ∀ (k1 : Nat) (k2 : Nat) (x4 : Int32) (hk_k1 : xk k1 = 9) (hk_k2 : xk k2 = 1) (S : gS) (H : Heap) (locs : List Loc) (ls : Array Slot), gX D (xcell g cI cB cZ cQ) xord g S s H locs → lv_has ls 5 [(0, .ref (g 62)), (1, .ref (g k1)), (2, .ref (g k2)), (3, .ref (g 51)), (4, .int x4)] → r37 k1 k2 x4 S = some o → W p l e (rmd 6) s m args below meth c H locs 0 0 (gE below args s D (xtys cI cB cZ cQ) (xcell g cI cB cZ cQ) xord g none o.2) (F0 m 37 ls [])) (hk_k1 : xk k1 = 9) (hk_k2 : xk k2 = 1) (X : gX D (xcell g cI cB cZ cQ) xord g S s H locs) (hl : lv_has ls 5 [(0, .ref (g 62)), (1, .ref (g k1)), (2, .ref (g k2)), (3, .ref (g 51)), (4, .int x4)]) (hF : fX2_weigh_b37 N r37 k1 k2 x4 S = some o) : W p l e (rmd 6) s m args below meth c H locs 0 0 (gE below args s D (xtys cI cB cZ cQ) (xcell g cI cB cZ cQ) xord g none o.2) (F0 m 37 ls []) := by
  unfold fX2_weigh_b37 at hF
  refine lv_iload C.1.1 C.1.2.1 dX2_weigh_37 (lv_at hl 4 rfl) ?_
  refine lv_aload_n C.1.1 C.1.2.1 dX2_weigh_39 rfl (lv_at hl 1 rfl) ?_
  refine xg_X2_34 C O X (k := k1) hk_k1 dX2_weigh_40 ?_
  refine lv_icmp_ge (tgt := 75) C.1.1 C.1.2.1 dX2_weigh_43 (by decide) (fun h_z => ?_) (fun h_z => ?_)
  · rw [if_pos h_z] at hF
    exact bX2_weigh_75 C O (hk_k1 : xk k1 = 9) (hk_k2 : xk k2 = 1) X (lv_sub hl [0, 1, 2, 3] rfl) hF
  · rw [if_neg h_z] at hF
    exact bX2_weigh_46 C O K37 (hk_k1 : xk k1 = 9) (hk_k2 : xk k2 = 1) X (lv_sub hl [0, 1, 2, 3, 4] rfl) hF
noncomputable def fX2_weigh_h37 (N : Nat) : Nat → Nat → Nat → Int32 → gS → Option (Int32 × gS)
  | 0, _, _, _, _ => none
  | n + 1, k1, k2, x4, S => fX2_weigh_b37 N (fX2_weigh_h37 N n) k1 k2 x4 S
theorem hX2_weigh_37 {N : Nat} {o : Int32 × gS} (C : gC p s m args meth c cX2_weigh 5 RX2 none D (xtys cI cB cZ cQ) xord g Am) (O : xO g cI cB cZ cQ Am) : ∀ (n : Nat) (k1 : Nat) (k2 : Nat) (x4 : Int32) (hk_k1 : xk k1 = 9) (hk_k2 : xk k2 = 1) (S : gS) (H : Heap) (locs : List Loc) (ls : Array Slot), gX D (xcell g cI cB cZ cQ) xord g S s H locs → lv_has ls 5 [(0, .ref (g 62)), (1, .ref (g k1)), (2, .ref (g k2)), (3, .ref (g 51)), (4, .int x4)] → fX2_weigh_h37 N n k1 k2 x4 S = some o → W p l e (rmd 6) s m args below meth c H locs 0 0 (gE below args s D (xtys cI cB cZ cQ) (xcell g cI cB cZ cQ) xord g none o.2) (F0 m 37 ls []) := by
  intro n
  induction n with
  | zero =>
    intro k1 k2 x4 hk_k1 hk_k2 S H locs ls X hl hF
    exact absurd (show (none : Option (Int32 × gS)) = some o from hF) (by simp)
  | succ n ih =>
    intro k1 k2 x4 hk_k1 hk_k2 S H locs ls X hl hF
    have hF : fX2_weigh_b37 N (fX2_weigh_h37 N n) k1 k2 x4 S = some o := hF
    exact bX2_weigh_37 C O ih hk_k1 hk_k2 X hl hF
noncomputable def fX2_weigh_b34 (N : Nat) (k1 : Nat) (k2 : Nat) (S : gS) : Option (Int32 × gS) := fX2_weigh_h37 N N k1 k2 0 S
theorem bX2_weigh_34 {N : Nat} {k1 : Nat} {k2 : Nat} {S : gS} {H : Heap} {locs : List Loc} {ls : Array Slot} {o : Int32 × gS} (C : gC p s m args meth c cX2_weigh 5 RX2 none D (xtys cI cB cZ cQ) xord g Am) (O : xO g cI cB cZ cQ Am) (hk_k1 : xk k1 = 9) (hk_k2 : xk k2 = 1) (X : gX D (xcell g cI cB cZ cQ) xord g S s H locs) (hl : lv_has ls 5 [(0, .ref (g 62)), (1, .ref (g k1)), (2, .ref (g k2)), (3, .ref (g 51))]) (hF : fX2_weigh_b34 N k1 k2 S = some o) : W p l e (rmd 6) s m args below meth c H locs 0 0 (gE below args s D (xtys cI cB cZ cQ) (xcell g cI cB cZ cQ) xord g none o.2) (F0 m 34 ls []) := by
  unfold fX2_weigh_b34 at hF
  refine lv_iconst (v := 0) C.1.1 C.1.2.1 dX2_weigh_34 (by decide) ?_
  refine lv_istore (lv' := [(4, .int 0), (0, .ref (g 62)), (1, .ref (g k1)), (2, .ref (g k2)), (3, .ref (g 51))]) C.1.1 C.1.2.1 dX2_weigh_35 hl (by decide) rfl (fun ls hl => ?_)
  exact hX2_weigh_37 C O N _ _ _ (hk_k1 : xk k1 = 9) (hk_k2 : xk k2 = 1) _ _ _ _ X (lv_sub hl [1, 2, 3, 4, 0] rfl) hF
noncomputable def fX2_weigh_b20 (N : Nat) (r13 : Nat → Nat → Int32 → gS → Option (Int32 × gS)) (k1 : Nat) (k2 : Nat) (x4 : Int32) (S : gS) : Option (Int32 × gS) := chk (inb x4 21) (lt (sU S 71 (Int32.toNatClampNeg x4) 0) fun S1 => (r13 k1 k2 ((x4 + 1 : Int32)) S1))
theorem bX2_weigh_20 {N : Nat} {r13 : Nat → Nat → Int32 → gS → Option (Int32 × gS)} {k1 : Nat} {k2 : Nat} {x4 : Int32} {S : gS} {H : Heap} {locs : List Loc} {ls : Array Slot} {o : Int32 × gS} (C : gC p s m args meth c cX2_weigh 5 RX2 none D (xtys cI cB cZ cQ) xord g Am) (O : xO g cI cB cZ cQ Am) (K13 : ∀ (k1 : Nat) (k2 : Nat) (x4 : Int32) (hk_k1 : xk k1 = 9) (hk_k2 : xk k2 = 1) (S : gS) (H : Heap) (locs : List Loc) (ls : Array Slot), gX D (xcell g cI cB cZ cQ) xord g S s H locs → lv_has ls 5 [(0, .ref (g 62)), (1, .ref (g k1)), (2, .ref (g k2)), (3, .ref (g 51)), (4, .int x4)] → r13 k1 k2 x4 S = some o → W p l e (rmd 6) s m args below meth c H locs 0 0 (gE below args s D (xtys cI cB cZ cQ) (xcell g cI cB cZ cQ) xord g none o.2) (F0 m 13 ls [])) (hk_k1 : xk k1 = 9) (hk_k2 : xk k2 = 1) (X : gX D (xcell g cI cB cZ cQ) xord g S s H locs) (hl : lv_has ls 5 [(0, .ref (g 62)), (1, .ref (g k1)), (2, .ref (g k2)), (3, .ref (g 51)), (4, .int x4)]) (hF : fX2_weigh_b20 N r13 k1 k2 x4 S = some o) : W p l e (rmd 6) s m args below meth c H locs 0 0 (gE below args s D (xtys cI cB cZ cQ) (xcell g cI cB cZ cQ) xord g none o.2) (F0 m 20 ls []) := by
  unfold fX2_weigh_b20 at hF
  refine lv_aload_n C.1.1 C.1.2.1 dX2_weigh_20 rfl (lv_at hl 0 rfl) ?_
  refine xg_X2_20 C O X (k := 62) rfl (j := 71) rfl dX2_weigh_21 ?_
  refine lv_iload C.1.1 C.1.2.1 dX2_weigh_24 (lv_at hl 4 rfl) ?_
  refine lv_iconst (v := 0) C.1.1 C.1.2.1 dX2_weigh_26 (by decide) ?_
  obtain ⟨h_1, hF⟩ := chk_some hF
  obtain ⟨S1, eS1, hF⟩ := lt_some hF
  refine x_wI C O X (k := 71) rfl (n := 21) rfl  (inb_vp h_1) rfl eS1 dX2_weigh_27 (fun H locs X => ?_)
  refine lv_iinc (v := (x4 + 1 : Int32)) (lv' := [(4, .int ((x4 + 1 : Int32))), (0, .ref (g 62)), (1, .ref (g k1)), (2, .ref (g k2)), (3, .ref (g 51))]) C.1.1 C.1.2.1 dX2_weigh_28 hl (k := 4) rfl rfl (by decide) rfl (fun ls hl => ?_)
  refine lv_goto (tgt := 13) C.1.1 C.1.2.1 dX2_weigh_31 (by decide) ?_
  exact K13 _ _ _ (hk_k1 : xk k1 = 9) (hk_k2 : xk k2 = 1) _ _ _ _ X (lv_sub hl [1, 2, 3, 4, 0] rfl) hF
noncomputable def fX2_weigh_b13 (N : Nat) (r13 : Nat → Nat → Int32 → gS → Option (Int32 × gS)) (k1 : Nat) (k2 : Nat) (x4 : Int32) (S : gS) : Option (Int32 × gS) := if 20 < x4 then fX2_weigh_b34 N k1 k2 S else fX2_weigh_b20 N r13 k1 k2 x4 S
theorem bX2_weigh_13 {N : Nat} {r13 : Nat → Nat → Int32 → gS → Option (Int32 × gS)} {k1 : Nat} {k2 : Nat} {x4 : Int32} {S : gS} {H : Heap} {locs : List Loc} {ls : Array Slot} {o : Int32 × gS} (C : gC p s m args meth c cX2_weigh 5 RX2 none D (xtys cI cB cZ cQ) xord g Am) (O : xO g cI cB cZ cQ Am) (K13 : ∀ (k1 : Nat) (k2 : Nat) (x4 : Int32) (hk_k1 : xk k1 = 9) (hk_k2 : xk k2 = 1) (S : gS) (H : Heap) (locs : List Loc) (ls : Array Slot), gX D (xcell g cI cB cZ cQ) xord g S s H locs → lv_has ls 5 [(0, .ref (g 62)), (1, .ref (g k1)), (2, .ref (g k2)), (3, .ref (g 51)), (4, .int x4)] → r13 k1 k2 x4 S = some o → W p l e (rmd 6) s m args below meth c H locs 0 0 (gE below args s D (xtys cI cB cZ cQ) (xcell g cI cB cZ cQ) xord g none o.2) (F0 m 13 ls [])) (hk_k1 : xk k1 = 9) (hk_k2 : xk k2 = 1) (X : gX D (xcell g cI cB cZ cQ) xord g S s H locs) (hl : lv_has ls 5 [(0, .ref (g 62)), (1, .ref (g k1)), (2, .ref (g k2)), (3, .ref (g 51)), (4, .int x4)]) (hF : fX2_weigh_b13 N r13 k1 k2 x4 S = some o) : W p l e (rmd 6) s m args below meth c H locs 0 0 (gE below args s D (xtys cI cB cZ cQ) (xcell g cI cB cZ cQ) xord g none o.2) (F0 m 13 ls []) := by
  unfold fX2_weigh_b13 at hF
  refine lv_iload C.1.1 C.1.2.1 dX2_weigh_13 (lv_at hl 4 rfl) ?_
  refine lv_bipush (v := 20) C.1.1 C.1.2.1 dX2_weigh_15 (by decide) ?_
  refine lv_icmp_gt (tgt := 34) C.1.1 C.1.2.1 dX2_weigh_17 (by decide) (fun h_z => ?_) (fun h_z => ?_)
  · rw [if_pos h_z] at hF
    exact bX2_weigh_34 C O (hk_k1 : xk k1 = 9) (hk_k2 : xk k2 = 1) X (lv_sub hl [0, 1, 2, 3] rfl) hF
  · rw [if_neg h_z] at hF
    exact bX2_weigh_20 C O K13 (hk_k1 : xk k1 = 9) (hk_k2 : xk k2 = 1) X (lv_sub hl [0, 1, 2, 3, 4] rfl) hF
noncomputable def fX2_weigh_h13 (N : Nat) : Nat → Nat → Nat → Int32 → gS → Option (Int32 × gS)
  | 0, _, _, _, _ => none
  | n + 1, k1, k2, x4, S => fX2_weigh_b13 N (fX2_weigh_h13 N n) k1 k2 x4 S
theorem hX2_weigh_13 {N : Nat} {o : Int32 × gS} (C : gC p s m args meth c cX2_weigh 5 RX2 none D (xtys cI cB cZ cQ) xord g Am) (O : xO g cI cB cZ cQ Am) : ∀ (n : Nat) (k1 : Nat) (k2 : Nat) (x4 : Int32) (hk_k1 : xk k1 = 9) (hk_k2 : xk k2 = 1) (S : gS) (H : Heap) (locs : List Loc) (ls : Array Slot), gX D (xcell g cI cB cZ cQ) xord g S s H locs → lv_has ls 5 [(0, .ref (g 62)), (1, .ref (g k1)), (2, .ref (g k2)), (3, .ref (g 51)), (4, .int x4)] → fX2_weigh_h13 N n k1 k2 x4 S = some o → W p l e (rmd 6) s m args below meth c H locs 0 0 (gE below args s D (xtys cI cB cZ cQ) (xcell g cI cB cZ cQ) xord g none o.2) (F0 m 13 ls []) := by
  intro n
  induction n with
  | zero =>
    intro k1 k2 x4 hk_k1 hk_k2 S H locs ls X hl hF
    exact absurd (show (none : Option (Int32 × gS)) = some o from hF) (by simp)
  | succ n ih =>
    intro k1 k2 x4 hk_k1 hk_k2 S H locs ls X hl hF
    have hF : fX2_weigh_b13 N (fX2_weigh_h13 N n) k1 k2 x4 S = some o := hF
    exact bX2_weigh_13 C O ih hk_k1 hk_k2 X hl hF
noncomputable def fX2_weigh_b0 (N : Nat) (k1 : Nat) (k2 : Nat) (S : gS) : Option (Int32 × gS) := lt (sU S 62 3 0) fun S1 => (lt (sU S1 62 4 ((-1))) fun S2 => (fX2_weigh_h13 N N k1 k2 0 S2))
theorem bX2_weigh_0 {N : Nat} {k1 : Nat} {k2 : Nat} {S : gS} {H : Heap} {locs : List Loc} {ls : Array Slot} {o : Int32 × gS} (C : gC p s m args meth c cX2_weigh 5 RX2 none D (xtys cI cB cZ cQ) xord g Am) (O : xO g cI cB cZ cQ Am) (hk_k1 : xk k1 = 9) (hk_k2 : xk k2 = 1) (X : gX D (xcell g cI cB cZ cQ) xord g S s H locs) (hl : lv_has ls 5 [(0, .ref (g 62)), (1, .ref (g k1)), (2, .ref (g k2)), (3, .ref (g 51))]) (hF : fX2_weigh_b0 N k1 k2 S = some o) : W p l e (rmd 6) s m args below meth c H locs 0 0 (gE below args s D (xtys cI cB cZ cQ) (xcell g cI cB cZ cQ) xord g none o.2) (F0 m 0 ls []) := by
  unfold fX2_weigh_b0 at hF
  refine lv_aload_n C.1.1 C.1.2.1 dX2_weigh_0 rfl (lv_at hl 0 rfl) ?_
  refine lv_iconst (v := 0) C.1.1 C.1.2.1 dX2_weigh_1 (by decide) ?_
  obtain ⟨S1, eS1, hF⟩ := lt_some hF
  refine xp_X2_23 C O X (k := 62) rfl eS1 dX2_weigh_2 (fun H locs X => ?_)
  refine lv_aload_n C.1.1 C.1.2.1 dX2_weigh_5 rfl (lv_at hl 0 rfl) ?_
  refine lv_iconst (v := (-1)) C.1.1 C.1.2.1 dX2_weigh_6 (by decide) ?_
  obtain ⟨S2, eS2, hF⟩ := lt_some hF
  refine xp_X2_27 C O X (k := 62) rfl eS2 dX2_weigh_7 (fun H locs X => ?_)
  refine lv_iconst (v := 0) C.1.1 C.1.2.1 dX2_weigh_10 (by decide) ?_
  refine lv_istore (lv' := [(4, .int 0), (0, .ref (g 62)), (1, .ref (g k1)), (2, .ref (g k2)), (3, .ref (g 51))]) C.1.1 C.1.2.1 dX2_weigh_11 hl (by decide) rfl (fun ls hl => ?_)
  exact hX2_weigh_13 C O N _ _ _ (hk_k1 : xk k1 = 9) (hk_k2 : xk k2 = 1) _ _ _ _ X (lv_sub hl [1, 2, 3, 4, 0] rfl) hF
noncomputable def fX2_weigh (N : Nat) (k1 : Nat) (k2 : Nat) (S : gS) : Option (Int32 × gS) := fX2_weigh_b0 N k1 k2 S
theorem kX2_weigh {l : Launch} {D : va_G} {g : Nat → Nat} {cI cB cZ cQ : ClassId} {Am : (Nat → Prop) → State → Heap → Prop} (O : xO g cI cB cZ cQ Am) (P : gAm Am) (N : Nat) (k1 : Nat) (k2 : Nat) (hk_k1 : xk k1 = 9) (hk_k2 : xk k2 = 1) (S : gS) (o : Int32 × gS) (hF : fX2_weigh N k1 k2 S = some o) : gM l yX2_weigh cX2_weigh 5 none 6 D (xtys cI cB cZ cQ) (xcell g cI cB cZ cQ) xord g Am [.ref (g 62), .ref (g k1), .ref (g k2), .ref (g 51)] S none o.2 :=
  gM_of O.1 P (by decide) (Nat.le_of_ble_eq_true rfl) (fun p e s m args below meth c ls C X hl => bX2_weigh_0 C O hk_k1 hk_k2 X (lv_sub hl [0, 1, 2, 3] rfl) hF)
end
end

/-! part 14.astr -/
section
/-! TEXTS: the constants that both sides name (printed by wip/whole/mkstr.py) -/
noncomputable def sB : List (List Int32) := [[116, 104, 101, 32, 116, 97, 112, 101, 32, 104, 97, 115, 32, 110, 111, 116, 32, 115, 111, 32, 109, 97, 110, 121, 32, 98, 121, 116, 101, 115], [59, 40, 41, 43, 45, 42, 47, 60, 61], [103, 114, 111, 116, 116, 111], [104, 111, 108, 108, 111, 119], [103, 117, 105, 108, 100], [104, 105, 114, 101, 115], [119, 101, 116], [98, 111, 117, 110, 100], [112, 114, 97, 121, 115], [110, 111, 116], [115, 105, 110], [112, 117, 114, 115, 101], [100, 114, 105, 112], [112, 114, 105, 99, 101], [104, 111, 117, 114], [103, 114, 101, 101, 100], [97, 110, 100], [111, 114], [99, 111, 115, 116, 115], [110, 111, 32, 115, 117, 99, 104, 32, 99, 111, 117, 110, 116], [110, 111, 32, 115, 117, 99, 104, 32, 103, 114, 111, 116, 116, 111], [110, 111, 32, 115, 117, 99, 104, 32, 102, 97, 99, 116, 32, 111, 102, 32, 97, 32, 103, 114, 111, 116, 116, 111], [110, 111, 32, 115, 117, 99, 104, 32, 103, 117, 105, 108, 100], [110, 111, 32, 115, 117, 99, 104, 32, 102, 97, 99, 116, 32, 111, 102, 32, 97, 32, 103, 117, 105, 108, 100], [110, 111, 32, 115, 117, 99, 104, 32, 113, 117, 101, 115, 116, 105, 111, 110], [97, 32, 110, 117, 109, 98, 101, 114, 32, 111, 117, 116, 32, 111, 102, 32, 105, 116, 115, 32, 98, 111, 117, 110, 100, 115], [110, 111, 116, 32, 98, 105, 116, 115, 32, 111, 102, 32, 103, 114, 111, 116, 116, 111, 101, 115], [97, 32, 103, 97, 109, 101, 32, 110, 101, 101, 100, 115, 32, 116, 119, 111, 32, 103, 117, 105, 108, 100, 115], [103, 114, 111, 116, 116, 111], [104, 111, 108, 108, 111, 119], [115, 105, 110], [112, 117, 114, 115, 101], [100, 114, 105, 112], [112, 114, 105, 99, 101], [119, 101, 116], [104, 111, 117, 114], [103, 114, 101, 101, 100], [98, 111, 117, 110, 100], [112, 114, 97, 121, 115], [99, 111, 115, 116, 115], [110, 111, 116], [97, 110, 100], [111, 114], [103, 117, 105, 108, 100], [104, 105, 114, 101, 115]]
noncomputable def sW : List (String × Nat × String) := [("GrottoHours", 84, "the tape has not so many bytes"), ("GrottoHours$Tape", 59, ";()+-*/<="), ("GrottoHours$Reader", 73, "grotto"), ("GrottoHours$Reader", 83, "hollow"), ("GrottoHours$Reader", 85, "guild"), ("GrottoHours$Reader", 148, "hires"), ("GrottoHours$Reader", 90, "wet"), ("GrottoHours$Reader", 95, "bound"), ("GrottoHours$Reader", 100, "prays"), ("GrottoHours$Reader", 193, "not"), ("GrottoHours$Reader", 211, "sin"), ("GrottoHours$Reader", 212, "purse"), ("GrottoHours$Reader", 213, "drip"), ("GrottoHours$Reader", 214, "price"), ("GrottoHours$Reader", 215, "hour"), ("GrottoHours$Reader", 221, "greed"), ("GrottoHours$Reader", 191, "and"), ("GrottoHours$Reader", 183, "or"), ("GrottoHours$Reader", 109, "costs"), ("GrottoHours", 159, "no such count"), ("GrottoHours", 369, "no such grotto"), ("GrottoHours", 189, "no such fact of a grotto"), ("GrottoHours", 374, "no such guild"), ("GrottoHours", 212, "no such fact of a guild"), ("GrottoHours", 376, "no such question"), ("GrottoHours", 378, "a number out of its bounds"), ("GrottoHours", 380, "not bits of grottoes"), ("GrottoHours", 344, "a game needs two guilds"), ("GrottoHoursModel", 11, "grotto"), ("GrottoHoursModel", 13, "hollow"), ("GrottoHoursModel", 19, "sin"), ("GrottoHoursModel", 21, "purse"), ("GrottoHoursModel", 23, "drip"), ("GrottoHoursModel", 25, "price"), ("GrottoHoursModel", 27, "wet"), ("GrottoHoursModel", 29, "hour"), ("GrottoHoursModel", 34, "greed"), ("GrottoHoursModel", 291, "bound"), ("GrottoHoursModel", 293, "prays"), ("GrottoHoursModel", 295, "costs"), ("GrottoHoursModel", 261, "not"), ("GrottoHoursModel", 269, "and"), ("GrottoHoursModel", 274, "or"), ("GrottoHoursModel", 303, "guild"), ("GrottoHoursModel", 280, "hires")]
noncomputable def sLen (i : Nat) : Nat := (sB.getD i []).length
noncomputable def sByt (i j : Nat) : Int32 := (sB.getD i []).getD j 0
noncomputable def sI (i : Nat) : Bool := decide (i < 45)
def sAll (aK aV : Nat → Nat) (A : Nat → Prop) (U : State) (H : Heap) : Prop :=
  (∀ i : Nat, sI i = true → va_O "java/lang/String" (aK i) A U H ∧ va_OF "java/lang/String" "coder" "B" (.int 0) (aK i) A U H ∧ va_OF "java/lang/String" "value" "[B" (.ref (aV i)) (aK i) A U H ∧ va_T .byte (aV i) (sLen i) (fun j => .int (sByt i j)) A U H)
  ∧ (∀ (i : Nat) (q : String × Nat × String), sW[i]? = some q → vk_R q.1 q.2.1 q.2.2 (aK i) U)
  ∧ va_Z "java/lang/String" "COMPACT_STRINGS" "Z" (.int 1) A U H
  ∧ va_Zq "jdk/internal/util/Preconditions" "SIOOBE_FORMATTER" "Ljava/util/function/BiFunction;" A U H
theorem sAll.txt {aK aV : Nat → Nat} {A : Nat → Prop} {U : State} {H : Heap} {i index : Nat} {own tx : String} (h : sAll aK aV A U H) (hw : sW[i]? = some (own, index, tx)) : vk_R own index tx (aK i) U := by
  unfold sAll at h
  exact h.2.1 i (own, index, tx) hw
theorem sAll.on {aK aV : Nat → Nat} {A B : Nat → Prop} {s U : State} {H : Heap} (hW : s.WarmedH U.vm) (h : sAll aK aV A s s.heap) (hq : ∀ q : Nat, q < s.heap.size → ¬ A q → H[q]? = s.heap[q]?) (hAB : ∀ q, B q → A q) : sAll aK aV B U H :=
  ⟨fun i hi => ⟨((va_O.moved hW.alike (h.1 i hi).1).kept hq).narrow hAB, ((va_OF.moved hW.alike (h.1 i hi).2.1).kept hq).narrow hAB, ((va_OF.moved hW.alike (h.1 i hi).2.2.1).kept hq).narrow hAB, ((va_T.moved hW.alike (h.1 i hi).2.2.2).kept hq).narrow hAB⟩,
   fun i q hi => vk_R.warm hW (h.2.1 i q hi), ((va_Z.moved hW.alike h.2.2.1).kept hq).narrow hAB, ((va_Zq.moved hW.alike h.2.2.2).kept hq).narrow hAB⟩
/-- a side's world, and the texts -/
def sO (cell : gS → Nat → Nat × va_E) (ord : List Nat) (adr : Nat → Nat) (Am : (Nat → Prop) → State → Heap → Prop) (aK aV : Nat → Nat) : Prop := gO cell ord adr ∧ ∀ (A : Nat → Prop) (U : State) (H : Heap), Am A U H → sAll aK aV A U H
noncomputable def nb (x : Int32) : Bool := decide (x.toInt8.toInt32 = x)
noncomputable def nc (x : Int32) : Bool := decide ((x.toUInt32 % 65536).toInt32 = x)
theorem nb_narrow {x : Int32} (h : nb x = true) : narrow .byte (.int x) = .int x := by
  have h1 := of_decide_eq_true h
  rw [← h1]
  exact pk_nb x
theorem nc_narrow {x : Int32} (h : nc x = true) : narrow .char (.int x) = .int x := by
  have h1 := of_decide_eq_true h
  rw [← h1]
  exact pk_nc x
section STR
variable {p : Program} {l : Launch} {e : Env} {R : Room} {s : State} {m : MethodId} {args : Array Value} {below : List Frame} {meth : Method} {c : Code} {H : Heap} {locs : List Loc} {cs sl : Nat} {Q : State → Prop} {Am : (Nat → Prop) → State → Heap → Prop}
variable {cc cy : ByteArray} {nL mL pc n index d : Nat} {own Cn host : String} {ret rt : Option FieldType} {D : va_G} {tys : List (ClassId × FieldType)} {cell : gS → Nat → Nat × va_E} {ord : List Nat} {adr : Nat → Nat} {S S' : gS} {ls : Array Slot} {rest As av : List Value} {y : MethodName} {v : Option Value} {aK aV : Nat → Nat} {i : Nat}
theorem g_nret {ty : FieldType} (C : gC p s m args meth c cc nL own (some ty) D tys ord adr Am) (X : gX D cell ord adr S s H locs) {x : Int32} (hz : narrow ty (.int x) = .int x) (hdg : decode cc pc = .ok (.ireturn, 1)) :
    W p l e R s m args below meth c H locs 0 0 (gE below args s D tys cell ord adr (some (.int x)) S) (F0 m pc ls [.int x]) :=
  W.zret (v := x) C.1.1 C.1.2.1 C.2.2.1 hz (fun t ht hW => ⟨⟨rfl, by rw [ht]; exact X.1, va_K.moved hW.alike C.2.1⟩, X.2.F ht⟩) X.2.2.2 hdg C.2.2.2.1
theorem s_value (C : gC p s m args meth c cc nL own ret D tys ord adr Am) (O : sO cell ord adr Am aK aV) (X : gX D cell ord adr S s H locs) (hi : sI i = true) (hl : Cond.fieldLink own index "java/lang/String" "value" "[B" ∈ gT) (hdg : decode cc pc = .ok (.getfield index, 3))
    (kk : W p l e R s m args below meth c H locs cs sl Q (F0 m (pc + 3) ls (.ref (aV i) :: rest))) : W p l e R s m args below meth c H locs cs sl Q (F0 m pc ls (.ref (aK i) :: rest)) :=
  vk_getf C.1.1 C.1.2.1 ((O.2 _ _ _ C.2.2.2.2.2).1 i hi).2.2.1 X.2 C.1.2.2.2.1 (C.1.2.2.2.2 _ hl) (fun _ h => h) hdg kk
theorem s_coder (C : gC p s m args meth c cc nL own ret D tys ord adr Am) (O : sO cell ord adr Am aK aV) (X : gX D cell ord adr S s H locs) (hi : sI i = true) (hl : Cond.fieldLink own index "java/lang/String" "coder" "B" ∈ gT) (hdg : decode cc pc = .ok (.getfield index, 3))
    (kk : W p l e R s m args below meth c H locs cs sl Q (F0 m (pc + 3) ls (.int 0 :: rest))) : W p l e R s m args below meth c H locs cs sl Q (F0 m pc ls (.ref (aK i) :: rest)) :=
  vk_getf C.1.1 C.1.2.1 ((O.2 _ _ _ C.2.2.2.2.2).1 i hi).2.1 X.2 C.1.2.2.2.1 (C.1.2.2.2.2 _ hl) (fun _ h => h) hdg kk
theorem s_comp (C : gC p s m args meth c cc nL own ret D tys ord adr Am) (O : sO cell ord adr Am aK aV) (X : gX D cell ord adr S s H locs) (hl : Cond.fieldLink own index "java/lang/String" "COMPACT_STRINGS" "Z" ∈ gT) (hdg : decode cc pc = .ok (.getstatic index, 3))
    (kk : W p l e R s m args below meth c H locs cs sl Q (F0 m (pc + 3) ls (.int 1 :: rest))) : W p l e R s m args below meth c H locs cs sl Q (F0 m pc ls rest) :=
  va_gets C.1.1 C.1.2.1 (O.2 _ _ _ C.2.2.2.2.2).2.2.1 X.2 C.1.2.2.2.1 (C.1.2.2.2.2 _ hl) (fun _ h => h) hdg kk
theorem s_len (C : gC p s m args meth c cc nL own ret D tys ord adr Am) (O : sO cell ord adr Am aK aV) (X : gX D cell ord adr S s H locs) (hi : sI i = true) (hdg : decode cc pc = .ok (.arraylength, 1))
    (kk : W p l e R s m args below meth c H locs cs sl Q (F0 m (pc + 1) ls (.int (Int32.ofNat (sLen i)) :: rest))) : W p l e R s m args below meth c H locs cs sl Q (F0 m pc ls (.ref (aV i) :: rest)) :=
  va_tlen C.1.1 C.1.2.1 ((O.2 _ _ _ C.2.2.2.2.2).1 i hi).2.2.2 X.2 rfl hdg kk
theorem s_byte (C : gC p s m args meth c cc nL own ret D tys ord adr Am) (O : sO cell ord adr Am aK aV) (X : gX D cell ord adr S s H locs) (hi : sI i = true) {k : Int32} (hin : vp_in k (sLen i)) (hdg : decode cc pc = .ok (.baload, 1))
    (kk : W p l e R s m args below meth c H locs cs sl Q (F0 m (pc + 1) ls (.int (sByt i k.toNatClampNeg) :: rest))) : W p l e R s m args below meth c H locs cs sl Q (F0 m pc ls (.int k :: .ref (aV i) :: rest)) :=
  va_tb C.1.1 C.1.2.1 ((O.2 _ _ _ C.2.2.2.2.2).1 i hi).2.2.2 X.2 hin rfl hdg kk
/-- a call of a text's method -/
theorem s_callV (C : gC p s m args meth c cc nL own ret D tys ord adr Am) (O : sO cell ord adr Am aK aV) (X : gX D cell ord adr S s H locs) (w : gWV own index y cy mL rt n) (hy : "java/lang/String" = y.cls) (hi : sI i = true) {x : Int32}
    (hM : gM l y cy mL rt d D tys cell ord adr Am (.ref (aK i) :: As) S (some (.int x)) S') (hR : d + 1 ≤ R.frames) (hR2 : 8 + (mL + 11) + (40 * d + 13) ≤ R.locals) (hcs : cs ≤ R.cells) (hsl : sl ≤ R.slots) (hn : As.length = n) (hls : ls.size = nL) {st : List Value} (hst : st = As.reverse ++ .ref (aK i) :: rest) (hrest : (rest.map fun v => v.category).sum ≤ 8) (hdg : decode cc pc = .ok (.invokevirtual index, 3))
    (kk : ∀ (H1 : Heap) (locs1 : List Loc), gX D cell ord adr S' s H1 locs1 → W p l e R s m args below meth c H1 locs1 cs sl Q (F0 m (pc + 3) ls (.int x :: rest))) : W p l e R s m args below meth c H locs cs sl Q (F0 m pc ls st) := by
  subst hst
  refine g_back (va_runV C.1 (hM H.size) (cwV n C.1.2.2.2.2 (gT_in (fun w' h => ?_)) rfl rfl rfl ⟨rfl, w.2.2.2.2.2⟩ ⟨hR, hR2⟩) ⟨(g_pre C X).1, ?_, (g_pre C X).2⟩ rfl hn hls rfl (lv_room hrest) hdg ⟨hcs, hsl⟩) X kk
  · unfold wsV at h
    rcases List.mem_append.mp h with h | h
    · simp only [List.mem_cons, List.not_mem_nil, or_false] at h
      rcases h with rfl | rfl | rfl | rfl
      · exact w.1
      · exact w.2.1
      · exact w.2.2.1
      · exact w.2.2.2.1
    · rcases List.mem_cons.mp h with rfl | h
      · exact w.2.2.2.2.1
      · exact h
  · rw [← hy]
    obtain ⟨cell0, h1, h2, h3, -⟩ := ((O.2 _ _ _ C.2.2.2.2.2).1 i hi).1.kept X.2.2.1
    exact ⟨cell0, h1, h2, h3⟩
theorem s_ldc (C : gC p s m args meth c cc nL own ret D tys ord adr Am) (O : sO cell ord adr Am aK aV) {tx : String} (hw : sW[i]? = some (own, index, tx)) (hdg : decode cc pc = .ok (.ldc index, 2))
    (kk : W p l e R s m args below meth c H locs cs sl Q (F0 m (pc + 2) ls (.ref (aK i) :: rest))) : W p l e R s m args below meth c H locs cs sl Q (F0 m pc ls rest) :=
  va_ldcS C.1.1 C.1.2.1 C.1.2.2.2.1 (sAll.txt (O.2 _ _ _ C.2.2.2.2.2) hw) hdg kk
theorem s_ldcw (C : gC p s m args meth c cc nL own ret D tys ord adr Am) (O : sO cell ord adr Am aK aV) {tx : String} (hw : sW[i]? = some (own, index, tx)) (hdg : decode cc pc = .ok (.ldc_w index, 3))
    (kk : W p l e R s m args below meth c H locs cs sl Q (F0 m (pc + 3) ls (.ref (aK i) :: rest))) : W p l e R s m args below meth c H locs cs sl Q (F0 m pc ls rest) := by
  intro T hT X
  obtain ⟨t, a1, b1⟩ := kk T hT X
  have hZ : vk_R own index tx (aK i) s := sAll.txt (O.2 _ _ _ C.2.2.2.2.2) hw
  exact ⟨t, X.ldcStringW C.1.1 C.1.2.2.2.1 (text := tx) (a := aK i) hZ.1 hZ.2 (g := F0 m pc ls rest) rfl (by rw [C.1.2.1]; exact hdg) t a1, b1⟩
theorem s_fmt (C : gC p s m args meth c cc nL own ret D tys ord adr Am) (O : sO cell ord adr Am aK aV) (X : gX D cell ord adr S s H locs) (hl : Cond.fieldLink own index "jdk/internal/util/Preconditions" "SIOOBE_FORMATTER" "Ljava/util/function/BiFunction;" ∈ gT) (hdg : decode cc pc = .ok (.getstatic index, 3))
    (kk : ∀ z : Option Nat, W p l e R s m args below meth c H locs cs sl Q (F0 m (pc + 3) ls (va_rf z :: rest))) : W p l e R s m args below meth c H locs cs sl Q (F0 m pc ls rest) := by
  rcases (O.2 _ _ _ C.2.2.2.2.2).2.2.2 with hz | ⟨t, hz⟩
  · exact va_gets C.1.1 C.1.2.1 hz X.2 C.1.2.2.2.1 (C.1.2.2.2.2 _ hl) (fun _ h => h) hdg (kk none)
  · exact va_gets C.1.1 C.1.2.1 hz X.2 C.1.2.2.2.1 (C.1.2.2.2.2 _ hl) (fun _ h => h) hdg (kk (some t))
theorem s_popz {z : Option Nat} (C : gC p s m args meth c cc nL own ret D tys ord adr Am) (hdg : decode cc pc = .ok (.pop, 1)) (kk : W p l e R s m args below meth c H locs cs sl Q (F0 m (pc + 1) ls rest)) : W p l e R s m args below meth c H locs cs sl Q (F0 m pc ls (va_rf z :: rest)) := by
  cases z
  · exact lv_pop C.1.1 C.1.2.1 hdg rfl kk
  · exact lv_pop C.1.1 C.1.2.1 hdg rfl kk
theorem g_callO (C : gC p s m args meth c cc nL own ret D tys ord adr Am) (X : gX D cell ord adr S s H locs) (w : gWO own index y cy mL rt n)
    (hM : gM l y cy mL rt d D tys cell ord adr Am As S none S') (hR : d + 1 ≤ R.frames) (hR2 : 8 + (mL + 11) + (40 * d + 13) ≤ R.locals) (hcs : cs ≤ R.cells) (hsl : sl ≤ R.slots) (hn : As.length = n) (hls : ls.size = nL) {st : List Value} (hst : st = As.reverse ++ rest) (hrest : (rest.map fun v => v.category).sum ≤ 8) (hdg : decode cc pc = .ok (.invokestatic index, 3))
    (kk : ∀ (H1 : Heap) (locs1 : List Loc), gX D cell ord adr S' s H1 locs1 → W p l e R s m args below meth c H1 locs1 cs sl Q (F0 m (pc + 3) ls rest)) : W p l e R s m args below meth c H locs cs sl Q (F0 m pc ls st) := by
  subst hst
  refine g_back (va_runS C.1 (hM H.size) ⟨callB_of n C.1.2.2.2.2 (gT_in (fun w' h => ?_)) rfl rfl rfl (C.1.2.2.2.2 _ w.2.2.1) (C.1.2.2.2.2 _ w.1) w.2.2.2.2 ⟨hR, hR2⟩, C.1.2.2.2.2 _ w.2.1⟩ (g_pre C X) rfl hn hls rfl (lv_room hrest) hdg ⟨hcs, hsl⟩) X kk
  rcases List.mem_cons.mp h with rfl | h
  · exact w.2.2.2.1
  · exact h
theorem g_lsw2 {x : Int32} {a b : Int32} {o1 o2 dd : Int} (h1 : ¬ x = a) (h2 : ¬ x = b) : Op.lookupswitch.offset (#[(a.toInt, o1), (b.toInt, o2)] : Array (Int × Int)).toList dd x.toInt = dd := by
  show Op.lookupswitch.offset [(a.toInt, o1), (b.toInt, o2)] dd x.toInt = dd
  rw [Op.lookupswitch.offset_cons, if_neg (fun h => h1 (Int32.toInt_inj.mp h.symm)), Op.lookupswitch.offset_cons, if_neg (fun h => h2 (Int32.toInt_inj.mp h.symm)), Op.lookupswitch.offset_nil]
end STR
end

/-! part 14.bjwords -/
section
/-! words of the class's calls and constants (printed by wip/whole/mkxwords.py) -/
theorem xv_X12_210 : gWV RX12 210 yJ0_length_8abf5 cJ0_length_8abf5 1 (some .int) 0 := ⟨gT_c7 167 rfl rfl, xi_J0_length_8abf5.1, xi_J0_length_8abf5.2, xini_J0, xc_J0_length_8abf5, xd_J0_length_8abf5⟩
theorem xv_X12_214 : gWV RX12 214 yJ0_charAt_5068e cJ0_charAt_5068e 2 (some .char) 1 := ⟨gT_c7 168 rfl rfl, xi_J0_charAt_5068e.1, xi_J0_charAt_5068e.2, xini_J0, xc_J0_charAt_5068e, xd_J0_charAt_5068e⟩
theorem xc_J0_coder_7d493 : Cond.code yJ0_coder_7d493 cJ0_coder_7d493 1 (some .byte) ∈ gT := gT_c3 229 rfl rfl
theorem xi_J0_coder_7d493 : Cond.instanceMethod yJ0_coder_7d493 ∈ gT ∧ Cond.selects yJ0_coder_7d493.cls yJ0_coder_7d493 yJ0_coder_7d493 ∈ gT := ⟨gT_c3 227 rfl rfl, gT_c3 228 rfl rfl⟩
theorem xd_J0_coder_7d493 : yJ0_coder_7d493.cls ≠ "java/lang/invoke/MethodHandle" ∧ yJ0_coder_7d493.cls ≠ "java/lang/invoke/VarHandle" ∧ (parseMethodDescriptor yJ0_coder_7d493.desc).map (fun d => d.parameters.length) = some 0 := by decide +kernel
theorem xv_J0_335 : gWV RJ0 335 yJ0_coder_7d493 cJ0_coder_7d493 1 (some .byte) 0 := ⟨gT_c3 226 rfl rfl, xi_J0_coder_7d493.1, xi_J0_coder_7d493.2, xini_J0, xc_J0_coder_7d493, xd_J0_coder_7d493⟩
theorem xc_J0_isLatin1_aae02 : Cond.code yJ0_isLatin1_aae02 cJ0_isLatin1_aae02 1 (some .boolean) ∈ gT := gT_c3 219 rfl rfl
theorem xi_J0_isLatin1_aae02 : Cond.instanceMethod yJ0_isLatin1_aae02 ∈ gT ∧ Cond.selects yJ0_isLatin1_aae02.cls yJ0_isLatin1_aae02 yJ0_isLatin1_aae02 ∈ gT := ⟨gT_c3 217 rfl rfl, gT_c3 218 rfl rfl⟩
theorem xd_J0_isLatin1_aae02 : yJ0_isLatin1_aae02.cls ≠ "java/lang/invoke/MethodHandle" ∧ yJ0_isLatin1_aae02.cls ≠ "java/lang/invoke/VarHandle" ∧ (parseMethodDescriptor yJ0_isLatin1_aae02.desc).map (fun d => d.parameters.length) = some 0 := by decide +kernel
theorem xv_J0_492 : gWV RJ0 492 yJ0_isLatin1_aae02 cJ0_isLatin1_aae02 1 (some .boolean) 0 := ⟨gT_c3 216 rfl rfl, xi_J0_isLatin1_aae02.1, xi_J0_isLatin1_aae02.2, xini_J0, xc_J0_isLatin1_aae02, xd_J0_isLatin1_aae02⟩
theorem xc_J1_charAt_3b067 : Cond.code yJ1_charAt_3b067 cJ1_charAt_3b067 2 (some .char) ∈ gT := gT_c4 70 rfl rfl
theorem xt_J1_charAt_3b067 : Cond.static yJ1_charAt_3b067 ∈ gT := gT_c4 69 rfl rfl
theorem xd_J1_charAt_3b067 : yJ1_charAt_3b067.cls ≠ "java/lang/invoke/MethodHandle" ∧ yJ1_charAt_3b067.cls ≠ "java/lang/invoke/VarHandle" ∧ (parseMethodDescriptor yJ1_charAt_3b067.desc).map (fun d => d.parameters.length) = some 2 := by decide +kernel
theorem xini_J1 : Cond.initialized RJ1 ∈ gT := gT_c1 20 rfl rfl
theorem xv_J0_495 : gWO RJ0 495 yJ1_charAt_3b067 cJ1_charAt_3b067 2 (some .char) 2 := ⟨gT_c4 68 rfl rfl, xt_J1_charAt_3b067, xini_J1, xc_J1_charAt_3b067, xd_J1_charAt_3b067⟩
theorem xc_J2_charAt_3b067 : Cond.code yJ2_charAt_3b067 cJ2_charAt_3b067 2 (some .char) ∈ gT := gT_c4 79 rfl rfl
theorem xt_J2_charAt_3b067 : Cond.static yJ2_charAt_3b067 ∈ gT := gT_c4 78 rfl rfl
theorem xd_J2_charAt_3b067 : yJ2_charAt_3b067.cls ≠ "java/lang/invoke/MethodHandle" ∧ yJ2_charAt_3b067.cls ≠ "java/lang/invoke/VarHandle" ∧ (parseMethodDescriptor yJ2_charAt_3b067.desc).map (fun d => d.parameters.length) = some 2 := by decide +kernel
theorem xini_J2 : Cond.initialized RJ2 ∈ gT := gT_c1 21 rfl rfl
theorem xv_J0_498 : gWO RJ0 498 yJ2_charAt_3b067 cJ2_charAt_3b067 2 (some .char) 2 := ⟨gT_c4 77 rfl rfl, xt_J2_charAt_3b067, xini_J2, xc_J2_charAt_3b067, xd_J2_charAt_3b067⟩
theorem xv_J0_505 : gWV RJ0 505 yJ0_length_8abf5 cJ0_length_8abf5 1 (some .int) 0 := ⟨gT_c3 222 rfl rfl, xi_J0_length_8abf5.1, xi_J0_length_8abf5.2, xini_J0, xc_J0_length_8abf5, xd_J0_length_8abf5⟩
theorem xc_J0_indexOf_7cf53 : Cond.code yJ0_indexOf_7cf53 cJ0_indexOf_7cf53 3 (some .int) ∈ gT := gT_c3 215 rfl rfl
theorem xi_J0_indexOf_7cf53 : Cond.instanceMethod yJ0_indexOf_7cf53 ∈ gT ∧ Cond.selects yJ0_indexOf_7cf53.cls yJ0_indexOf_7cf53 yJ0_indexOf_7cf53 ∈ gT := ⟨gT_c3 213 rfl rfl, gT_c3 214 rfl rfl⟩
theorem xd_J0_indexOf_7cf53 : yJ0_indexOf_7cf53.cls ≠ "java/lang/invoke/MethodHandle" ∧ yJ0_indexOf_7cf53.cls ≠ "java/lang/invoke/VarHandle" ∧ (parseMethodDescriptor yJ0_indexOf_7cf53.desc).map (fun d => d.parameters.length) = some 2 := by decide +kernel
theorem xv_J0_633 : gWV RJ0 633 yJ0_indexOf_7cf53 cJ0_indexOf_7cf53 3 (some .int) 2 := ⟨gT_c3 212 rfl rfl, xi_J0_indexOf_7cf53.1, xi_J0_indexOf_7cf53.2, xini_J0, xc_J0_indexOf_7cf53, xd_J0_indexOf_7cf53⟩
theorem xc_J1_indexOf_4cfef : Cond.code yJ1_indexOf_4cfef cJ1_indexOf_4cfef 4 (some .int) ∈ gT := gT_c3 232 rfl rfl
theorem xt_J1_indexOf_4cfef : Cond.static yJ1_indexOf_4cfef ∈ gT := gT_c3 231 rfl rfl
theorem xd_J1_indexOf_4cfef : yJ1_indexOf_4cfef.cls ≠ "java/lang/invoke/MethodHandle" ∧ yJ1_indexOf_4cfef.cls ≠ "java/lang/invoke/VarHandle" ∧ (parseMethodDescriptor yJ1_indexOf_4cfef.desc).map (fun d => d.parameters.length) = some 4 := by decide +kernel
theorem xv_J0_637 : gWO RJ0 637 yJ1_indexOf_4cfef cJ1_indexOf_4cfef 4 (some .int) 4 := ⟨gT_c3 230 rfl rfl, xt_J1_indexOf_4cfef, xini_J1, xc_J1_indexOf_4cfef, xd_J1_indexOf_4cfef⟩
theorem xc_J2_indexOf_4cfef : Cond.code yJ2_indexOf_4cfef cJ2_indexOf_4cfef 4 (some .int) ∈ gT := gT_c4 3 rfl rfl
theorem xt_J2_indexOf_4cfef : Cond.static yJ2_indexOf_4cfef ∈ gT := gT_c4 2 rfl rfl
theorem xd_J2_indexOf_4cfef : yJ2_indexOf_4cfef.cls ≠ "java/lang/invoke/MethodHandle" ∧ yJ2_indexOf_4cfef.cls ≠ "java/lang/invoke/VarHandle" ∧ (parseMethodDescriptor yJ2_indexOf_4cfef.desc).map (fun d => d.parameters.length) = some 4 := by decide +kernel
theorem xv_J0_640 : gWO RJ0 640 yJ2_indexOf_4cfef cJ2_indexOf_4cfef 4 (some .int) 4 := ⟨gT_c4 1 rfl rfl, xt_J2_indexOf_4cfef, xini_J2, xc_J2_indexOf_4cfef, xd_J2_indexOf_4cfef⟩
theorem xc_J3_checkIndex_8e157 : Cond.code yJ3_checkIndex_8e157 cJ3_checkIndex_8e157 3 (some .int) ∈ gT := gT_c4 76 rfl rfl
theorem xt_J3_checkIndex_8e157 : Cond.static yJ3_checkIndex_8e157 ∈ gT := gT_c4 75 rfl rfl
theorem xd_J3_checkIndex_8e157 : yJ3_checkIndex_8e157.cls ≠ "java/lang/invoke/MethodHandle" ∧ yJ3_checkIndex_8e157.cls ≠ "java/lang/invoke/VarHandle" ∧ (parseMethodDescriptor yJ3_checkIndex_8e157.desc).map (fun d => d.parameters.length) = some 3 := by decide +kernel
theorem xini_J3 : Cond.initialized RJ3 ∈ gT := gT_c1 22 rfl rfl
theorem xv_J0_1059 : gWO RJ0 1059 yJ3_checkIndex_8e157 cJ3_checkIndex_8e157 3 (some .int) 3 := ⟨gT_c4 74 rfl rfl, xt_J3_checkIndex_8e157, xini_J3, xc_J3_checkIndex_8e157, xd_J3_checkIndex_8e157⟩
theorem xc_J0_checkIndex_df160 : Cond.code yJ0_checkIndex_df160 cJ0_checkIndex_df160 2 none ∈ gT := gT_c4 73 rfl rfl
theorem xt_J0_checkIndex_df160 : Cond.static yJ0_checkIndex_df160 ∈ gT := gT_c4 72 rfl rfl
theorem xd_J0_checkIndex_df160 : yJ0_checkIndex_df160.cls ≠ "java/lang/invoke/MethodHandle" ∧ yJ0_checkIndex_df160.cls ≠ "java/lang/invoke/VarHandle" ∧ (parseMethodDescriptor yJ0_checkIndex_df160.desc).map (fun d => d.parameters.length) = some 2 := by decide +kernel
theorem xv_J1_9 : gWO RJ1 9 yJ0_checkIndex_df160 cJ0_checkIndex_df160 2 none 2 := ⟨gT_c4 71 rfl rfl, xt_J0_checkIndex_df160, xini_J0, xc_J0_checkIndex_df160, xd_J0_checkIndex_df160⟩
theorem xMmin_J1_38 : Cond.methodLink RJ1 38 Lib.Math.min.name ∈ gT ∧ Cond.static Lib.Math.min.name ∈ gT ∧ Cond.initialized "java/lang/Math" ∈ gT ∧ Cond.code Lib.Math.min.name Lib.Math.min.code 2 (some .int) ∈ gT := ⟨gT_c3 237 rfl rfl, xm_min⟩
theorem xc_J1_canEncode_9a6ad : Cond.code yJ1_canEncode_9a6ad cJ1_canEncode_9a6ad 1 (some .boolean) ∈ gT := gT_c3 235 rfl rfl
theorem xt_J1_canEncode_9a6ad : Cond.static yJ1_canEncode_9a6ad ∈ gT := gT_c3 234 rfl rfl
theorem xd_J1_canEncode_9a6ad : yJ1_canEncode_9a6ad.cls ≠ "java/lang/invoke/MethodHandle" ∧ yJ1_canEncode_9a6ad.cls ≠ "java/lang/invoke/VarHandle" ∧ (parseMethodDescriptor yJ1_canEncode_9a6ad.desc).map (fun d => d.parameters.length) = some 1 := by decide +kernel
theorem xv_J1_88 : gWS RJ1 88 yJ1_canEncode_9a6ad cJ1_canEncode_9a6ad 1 (some .boolean) 1 := ⟨gT_c3 233 rfl rfl, xt_J1_canEncode_9a6ad, xini_J1, xc_J1_canEncode_9a6ad, rfl, xd_J1_canEncode_9a6ad⟩
theorem xMmax_J1_92 : Cond.methodLink RJ1 92 Lib.Math.max.name ∈ gT ∧ Cond.static Lib.Math.max.name ∈ gT ∧ Cond.initialized "java/lang/Math" ∈ gT ∧ Cond.code Lib.Math.max.name Lib.Math.max.code 2 (some .int) ∈ gT := ⟨gT_c3 236 rfl rfl, xm_max⟩
theorem xc_J1_indexOfChar_4cfef : Cond.code yJ1_indexOfChar_4cfef cJ1_indexOfChar_4cfef 6 (some .int) ∈ gT := gT_c4 0 rfl rfl
theorem xt_J1_indexOfChar_4cfef : Cond.static yJ1_indexOfChar_4cfef ∈ gT := gT_c3 239 rfl rfl
theorem xd_J1_indexOfChar_4cfef : yJ1_indexOfChar_4cfef.cls ≠ "java/lang/invoke/MethodHandle" ∧ yJ1_indexOfChar_4cfef.cls ≠ "java/lang/invoke/VarHandle" ∧ (parseMethodDescriptor yJ1_indexOfChar_4cfef.desc).map (fun d => d.parameters.length) = some 4 := by decide +kernel
theorem xv_J1_95 : gWS RJ1 95 yJ1_indexOfChar_4cfef cJ1_indexOfChar_4cfef 6 (some .int) 4 := ⟨gT_c3 238 rfl rfl, xt_J1_indexOfChar_4cfef, xini_J1, xc_J1_indexOfChar_4cfef, rfl, xd_J1_indexOfChar_4cfef⟩
theorem xl_J0_38 : Cond.fieldLink RJ0 38 "java/lang/String" "COMPACT_STRINGS" "Z" ∈ gT := gT_c3 220 rfl rfl
theorem xl_J0_1053 : Cond.fieldLink RJ0 1053 "jdk/internal/util/Preconditions" "SIOOBE_FORMATTER" "Ljava/util/function/BiFunction;" ∈ gT := gT_c4 19 rfl rfl
theorem xl_J0_15 : Cond.fieldLink RJ0 15 "java/lang/String" "coder" "B" ∈ gT := gT_c9 96 rfl rfl
theorem xl_J0_9 : Cond.fieldLink RJ0 9 "java/lang/String" "value" "[B" ∈ gT := gT_c9 97 rfl rfl
end

/-! part 14.cjdk -/
section
/-! methods of the JDK as maps of states, and their walks (printed by wip/whole/genj.py) -/
section
variable {p : Program} {l : Launch} {e : Env} {s : State} {m : MethodId} {args : Array Value} {below : List Frame} {meth : Method} {c : Code} {D : va_G} {tys : List (ClassId × FieldType)} {cell : gS → Nat → Nat × va_E} {ord : List Nat} {adr : Nat → Nat} {Am : (Nat → Prop) → State → Heap → Prop} {aK aV : Nat → Nat}
-- J6.bitCount_0f7a4
noncomputable def fJ6_bitCount_0f7a4_b0 (N : Nat) (x0 : Int32) (S : gS) : Option (Int32 × gS) := some ((((((((((((((((x0 - (((((x0.toUInt32 >>> ((1 : Int32).toUInt32 &&& Int32.toUInt32 31)).toInt32 : Int32)) &&& 1431655765 : Int32)) : Int32)) &&& 858993459 : Int32)) + (((((((x0 - (((((x0.toUInt32 >>> ((1 : Int32).toUInt32 &&& Int32.toUInt32 31)).toInt32 : Int32)) &&& 1431655765 : Int32)) : Int32)).toUInt32 >>> ((2 : Int32).toUInt32 &&& Int32.toUInt32 31)).toInt32 : Int32)) &&& 858993459 : Int32)) : Int32)) + (((((((((x0 - (((((x0.toUInt32 >>> ((1 : Int32).toUInt32 &&& Int32.toUInt32 31)).toInt32 : Int32)) &&& 1431655765 : Int32)) : Int32)) &&& 858993459 : Int32)) + (((((((x0 - (((((x0.toUInt32 >>> ((1 : Int32).toUInt32 &&& Int32.toUInt32 31)).toInt32 : Int32)) &&& 1431655765 : Int32)) : Int32)).toUInt32 >>> ((2 : Int32).toUInt32 &&& Int32.toUInt32 31)).toInt32 : Int32)) &&& 858993459 : Int32)) : Int32)).toUInt32 >>> ((4 : Int32).toUInt32 &&& Int32.toUInt32 31)).toInt32 : Int32)) : Int32)) &&& 252645135 : Int32)) + (((((((((((((x0 - (((((x0.toUInt32 >>> ((1 : Int32).toUInt32 &&& Int32.toUInt32 31)).toInt32 : Int32)) &&& 1431655765 : Int32)) : Int32)) &&& 858993459 : Int32)) + (((((((x0 - (((((x0.toUInt32 >>> ((1 : Int32).toUInt32 &&& Int32.toUInt32 31)).toInt32 : Int32)) &&& 1431655765 : Int32)) : Int32)).toUInt32 >>> ((2 : Int32).toUInt32 &&& Int32.toUInt32 31)).toInt32 : Int32)) &&& 858993459 : Int32)) : Int32)) + (((((((((x0 - (((((x0.toUInt32 >>> ((1 : Int32).toUInt32 &&& Int32.toUInt32 31)).toInt32 : Int32)) &&& 1431655765 : Int32)) : Int32)) &&& 858993459 : Int32)) + (((((((x0 - (((((x0.toUInt32 >>> ((1 : Int32).toUInt32 &&& Int32.toUInt32 31)).toInt32 : Int32)) &&& 1431655765 : Int32)) : Int32)).toUInt32 >>> ((2 : Int32).toUInt32 &&& Int32.toUInt32 31)).toInt32 : Int32)) &&& 858993459 : Int32)) : Int32)).toUInt32 >>> ((4 : Int32).toUInt32 &&& Int32.toUInt32 31)).toInt32 : Int32)) : Int32)) &&& 252645135 : Int32)).toUInt32 >>> ((8 : Int32).toUInt32 &&& Int32.toUInt32 31)).toInt32 : Int32)) : Int32)) + (((((((((((((((x0 - (((((x0.toUInt32 >>> ((1 : Int32).toUInt32 &&& Int32.toUInt32 31)).toInt32 : Int32)) &&& 1431655765 : Int32)) : Int32)) &&& 858993459 : Int32)) + (((((((x0 - (((((x0.toUInt32 >>> ((1 : Int32).toUInt32 &&& Int32.toUInt32 31)).toInt32 : Int32)) &&& 1431655765 : Int32)) : Int32)).toUInt32 >>> ((2 : Int32).toUInt32 &&& Int32.toUInt32 31)).toInt32 : Int32)) &&& 858993459 : Int32)) : Int32)) + (((((((((x0 - (((((x0.toUInt32 >>> ((1 : Int32).toUInt32 &&& Int32.toUInt32 31)).toInt32 : Int32)) &&& 1431655765 : Int32)) : Int32)) &&& 858993459 : Int32)) + (((((((x0 - (((((x0.toUInt32 >>> ((1 : Int32).toUInt32 &&& Int32.toUInt32 31)).toInt32 : Int32)) &&& 1431655765 : Int32)) : Int32)).toUInt32 >>> ((2 : Int32).toUInt32 &&& Int32.toUInt32 31)).toInt32 : Int32)) &&& 858993459 : Int32)) : Int32)).toUInt32 >>> ((4 : Int32).toUInt32 &&& Int32.toUInt32 31)).toInt32 : Int32)) : Int32)) &&& 252645135 : Int32)) + (((((((((((((x0 - (((((x0.toUInt32 >>> ((1 : Int32).toUInt32 &&& Int32.toUInt32 31)).toInt32 : Int32)) &&& 1431655765 : Int32)) : Int32)) &&& 858993459 : Int32)) + (((((((x0 - (((((x0.toUInt32 >>> ((1 : Int32).toUInt32 &&& Int32.toUInt32 31)).toInt32 : Int32)) &&& 1431655765 : Int32)) : Int32)).toUInt32 >>> ((2 : Int32).toUInt32 &&& Int32.toUInt32 31)).toInt32 : Int32)) &&& 858993459 : Int32)) : Int32)) + (((((((((x0 - (((((x0.toUInt32 >>> ((1 : Int32).toUInt32 &&& Int32.toUInt32 31)).toInt32 : Int32)) &&& 1431655765 : Int32)) : Int32)) &&& 858993459 : Int32)) + (((((((x0 - (((((x0.toUInt32 >>> ((1 : Int32).toUInt32 &&& Int32.toUInt32 31)).toInt32 : Int32)) &&& 1431655765 : Int32)) : Int32)).toUInt32 >>> ((2 : Int32).toUInt32 &&& Int32.toUInt32 31)).toInt32 : Int32)) &&& 858993459 : Int32)) : Int32)).toUInt32 >>> ((4 : Int32).toUInt32 &&& Int32.toUInt32 31)).toInt32 : Int32)) : Int32)) &&& 252645135 : Int32)).toUInt32 >>> ((8 : Int32).toUInt32 &&& Int32.toUInt32 31)).toInt32 : Int32)) : Int32)).toUInt32 >>> ((16 : Int32).toUInt32 &&& Int32.toUInt32 31)).toInt32 : Int32)) : Int32)) &&& 63 : Int32), S)
theorem bJ6_bitCount_0f7a4_0 {N : Nat} {x0 : Int32} {S : gS} {H : Heap} {locs : List Loc} {ls : Array Slot} {o : Int32 × gS} (C : gC p s m args meth c cJ6_bitCount_0f7a4 1 RJ6 ((some .int)) D tys ord adr Am) (O : sO cell ord adr Am aK aV) (X : gX D cell ord adr S s H locs) (hl : lv_has ls 1 [(0, .int x0)]) (hF : fJ6_bitCount_0f7a4_b0 N x0 S = some o) : W p l e (rmd 0) s m args below meth c H locs 0 0 (gE below args s D tys cell ord adr (some (.int o.1)) o.2) (F0 m 0 ls []) := by
  unfold fJ6_bitCount_0f7a4_b0 at hF
  refine lv_iload_n C.1.1 C.1.2.1 dJ6_bitCount_0f7a4_0 rfl (lv_at hl 0 rfl) ?_
  refine lv_iload_n C.1.1 C.1.2.1 dJ6_bitCount_0f7a4_1 rfl (lv_at hl 0 rfl) ?_
  refine lv_iconst (v := 1) C.1.1 C.1.2.1 dJ6_bitCount_0f7a4_2 (by decide) ?_
  refine lv_iushr C.1.1 C.1.2.1 dJ6_bitCount_0f7a4_3 rfl ?_
  refine lv_ldcw C.1.1 C.1.2.1 C.1.2.2.2.1 (C.1.2.2.2.2 _ xKI_J6_265) dJ6_bitCount_0f7a4_4 ?_
  refine lv_iand C.1.1 C.1.2.1 dJ6_bitCount_0f7a4_7 ?_
  refine lv_isub C.1.1 C.1.2.1 dJ6_bitCount_0f7a4_8 ?_
  refine lv_istore_n (lv' := [(0, .int ((x0 - (((((x0.toUInt32 >>> ((1 : Int32).toUInt32 &&& Int32.toUInt32 31)).toInt32 : Int32)) &&& 1431655765 : Int32)) : Int32)))]) C.1.1 C.1.2.1 dJ6_bitCount_0f7a4_9 rfl hl (by decide) rfl (fun ls hl => ?_)
  refine lv_iload_n C.1.1 C.1.2.1 dJ6_bitCount_0f7a4_10 rfl (lv_at hl 0 rfl) ?_
  refine lv_ldcw C.1.1 C.1.2.1 C.1.2.2.2.1 (C.1.2.2.2.2 _ xKI_J6_266) dJ6_bitCount_0f7a4_11 ?_
  refine lv_iand C.1.1 C.1.2.1 dJ6_bitCount_0f7a4_14 ?_
  refine lv_iload_n C.1.1 C.1.2.1 dJ6_bitCount_0f7a4_15 rfl (lv_at hl 0 rfl) ?_
  refine lv_iconst (v := 2) C.1.1 C.1.2.1 dJ6_bitCount_0f7a4_16 (by decide) ?_
  refine lv_iushr C.1.1 C.1.2.1 dJ6_bitCount_0f7a4_17 rfl ?_
  refine lv_ldcw C.1.1 C.1.2.1 C.1.2.2.2.1 (C.1.2.2.2.2 _ xKI_J6_266) dJ6_bitCount_0f7a4_18 ?_
  refine lv_iand C.1.1 C.1.2.1 dJ6_bitCount_0f7a4_21 ?_
  refine lv_iadd C.1.1 C.1.2.1 dJ6_bitCount_0f7a4_22 ?_
  refine lv_istore_n (lv' := [(0, .int ((((((x0 - (((((x0.toUInt32 >>> ((1 : Int32).toUInt32 &&& Int32.toUInt32 31)).toInt32 : Int32)) &&& 1431655765 : Int32)) : Int32)) &&& 858993459 : Int32)) + (((((((x0 - (((((x0.toUInt32 >>> ((1 : Int32).toUInt32 &&& Int32.toUInt32 31)).toInt32 : Int32)) &&& 1431655765 : Int32)) : Int32)).toUInt32 >>> ((2 : Int32).toUInt32 &&& Int32.toUInt32 31)).toInt32 : Int32)) &&& 858993459 : Int32)) : Int32)))]) C.1.1 C.1.2.1 dJ6_bitCount_0f7a4_23 rfl hl (by decide) rfl (fun ls hl => ?_)
  refine lv_iload_n C.1.1 C.1.2.1 dJ6_bitCount_0f7a4_24 rfl (lv_at hl 0 rfl) ?_
  refine lv_iload_n C.1.1 C.1.2.1 dJ6_bitCount_0f7a4_25 rfl (lv_at hl 0 rfl) ?_
  refine lv_iconst (v := 4) C.1.1 C.1.2.1 dJ6_bitCount_0f7a4_26 (by decide) ?_
  refine lv_iushr C.1.1 C.1.2.1 dJ6_bitCount_0f7a4_27 rfl ?_
  refine lv_iadd C.1.1 C.1.2.1 dJ6_bitCount_0f7a4_28 ?_
  refine lv_ldcw C.1.1 C.1.2.1 C.1.2.2.2.1 (C.1.2.2.2.2 _ xKI_J6_267) dJ6_bitCount_0f7a4_29 ?_
  refine lv_iand C.1.1 C.1.2.1 dJ6_bitCount_0f7a4_32 ?_
  refine lv_istore_n (lv' := [(0, .int ((((((((((x0 - (((((x0.toUInt32 >>> ((1 : Int32).toUInt32 &&& Int32.toUInt32 31)).toInt32 : Int32)) &&& 1431655765 : Int32)) : Int32)) &&& 858993459 : Int32)) + (((((((x0 - (((((x0.toUInt32 >>> ((1 : Int32).toUInt32 &&& Int32.toUInt32 31)).toInt32 : Int32)) &&& 1431655765 : Int32)) : Int32)).toUInt32 >>> ((2 : Int32).toUInt32 &&& Int32.toUInt32 31)).toInt32 : Int32)) &&& 858993459 : Int32)) : Int32)) + (((((((((x0 - (((((x0.toUInt32 >>> ((1 : Int32).toUInt32 &&& Int32.toUInt32 31)).toInt32 : Int32)) &&& 1431655765 : Int32)) : Int32)) &&& 858993459 : Int32)) + (((((((x0 - (((((x0.toUInt32 >>> ((1 : Int32).toUInt32 &&& Int32.toUInt32 31)).toInt32 : Int32)) &&& 1431655765 : Int32)) : Int32)).toUInt32 >>> ((2 : Int32).toUInt32 &&& Int32.toUInt32 31)).toInt32 : Int32)) &&& 858993459 : Int32)) : Int32)).toUInt32 >>> ((4 : Int32).toUInt32 &&& Int32.toUInt32 31)).toInt32 : Int32)) : Int32)) &&& 252645135 : Int32)))]) C.1.1 C.1.2.1 dJ6_bitCount_0f7a4_33 rfl hl (by decide) rfl (fun ls hl => ?_)
  refine lv_iload_n C.1.1 C.1.2.1 dJ6_bitCount_0f7a4_34 rfl (lv_at hl 0 rfl) ?_
  refine lv_iload_n C.1.1 C.1.2.1 dJ6_bitCount_0f7a4_35 rfl (lv_at hl 0 rfl) ?_
  refine lv_bipush (v := 8) C.1.1 C.1.2.1 dJ6_bitCount_0f7a4_36 (by decide) ?_
  refine lv_iushr C.1.1 C.1.2.1 dJ6_bitCount_0f7a4_38 rfl ?_
  refine lv_iadd C.1.1 C.1.2.1 dJ6_bitCount_0f7a4_39 ?_
  refine lv_istore_n (lv' := [(0, .int ((((((((((((x0 - (((((x0.toUInt32 >>> ((1 : Int32).toUInt32 &&& Int32.toUInt32 31)).toInt32 : Int32)) &&& 1431655765 : Int32)) : Int32)) &&& 858993459 : Int32)) + (((((((x0 - (((((x0.toUInt32 >>> ((1 : Int32).toUInt32 &&& Int32.toUInt32 31)).toInt32 : Int32)) &&& 1431655765 : Int32)) : Int32)).toUInt32 >>> ((2 : Int32).toUInt32 &&& Int32.toUInt32 31)).toInt32 : Int32)) &&& 858993459 : Int32)) : Int32)) + (((((((((x0 - (((((x0.toUInt32 >>> ((1 : Int32).toUInt32 &&& Int32.toUInt32 31)).toInt32 : Int32)) &&& 1431655765 : Int32)) : Int32)) &&& 858993459 : Int32)) + (((((((x0 - (((((x0.toUInt32 >>> ((1 : Int32).toUInt32 &&& Int32.toUInt32 31)).toInt32 : Int32)) &&& 1431655765 : Int32)) : Int32)).toUInt32 >>> ((2 : Int32).toUInt32 &&& Int32.toUInt32 31)).toInt32 : Int32)) &&& 858993459 : Int32)) : Int32)).toUInt32 >>> ((4 : Int32).toUInt32 &&& Int32.toUInt32 31)).toInt32 : Int32)) : Int32)) &&& 252645135 : Int32)) + (((((((((((((x0 - (((((x0.toUInt32 >>> ((1 : Int32).toUInt32 &&& Int32.toUInt32 31)).toInt32 : Int32)) &&& 1431655765 : Int32)) : Int32)) &&& 858993459 : Int32)) + (((((((x0 - (((((x0.toUInt32 >>> ((1 : Int32).toUInt32 &&& Int32.toUInt32 31)).toInt32 : Int32)) &&& 1431655765 : Int32)) : Int32)).toUInt32 >>> ((2 : Int32).toUInt32 &&& Int32.toUInt32 31)).toInt32 : Int32)) &&& 858993459 : Int32)) : Int32)) + (((((((((x0 - (((((x0.toUInt32 >>> ((1 : Int32).toUInt32 &&& Int32.toUInt32 31)).toInt32 : Int32)) &&& 1431655765 : Int32)) : Int32)) &&& 858993459 : Int32)) + (((((((x0 - (((((x0.toUInt32 >>> ((1 : Int32).toUInt32 &&& Int32.toUInt32 31)).toInt32 : Int32)) &&& 1431655765 : Int32)) : Int32)).toUInt32 >>> ((2 : Int32).toUInt32 &&& Int32.toUInt32 31)).toInt32 : Int32)) &&& 858993459 : Int32)) : Int32)).toUInt32 >>> ((4 : Int32).toUInt32 &&& Int32.toUInt32 31)).toInt32 : Int32)) : Int32)) &&& 252645135 : Int32)).toUInt32 >>> ((8 : Int32).toUInt32 &&& Int32.toUInt32 31)).toInt32 : Int32)) : Int32)))]) C.1.1 C.1.2.1 dJ6_bitCount_0f7a4_40 rfl hl (by decide) rfl (fun ls hl => ?_)
  refine lv_iload_n C.1.1 C.1.2.1 dJ6_bitCount_0f7a4_41 rfl (lv_at hl 0 rfl) ?_
  refine lv_iload_n C.1.1 C.1.2.1 dJ6_bitCount_0f7a4_42 rfl (lv_at hl 0 rfl) ?_
  refine lv_bipush (v := 16) C.1.1 C.1.2.1 dJ6_bitCount_0f7a4_43 (by decide) ?_
  refine lv_iushr C.1.1 C.1.2.1 dJ6_bitCount_0f7a4_45 rfl ?_
  refine lv_iadd C.1.1 C.1.2.1 dJ6_bitCount_0f7a4_46 ?_
  refine lv_istore_n (lv' := [(0, .int ((((((((((((((x0 - (((((x0.toUInt32 >>> ((1 : Int32).toUInt32 &&& Int32.toUInt32 31)).toInt32 : Int32)) &&& 1431655765 : Int32)) : Int32)) &&& 858993459 : Int32)) + (((((((x0 - (((((x0.toUInt32 >>> ((1 : Int32).toUInt32 &&& Int32.toUInt32 31)).toInt32 : Int32)) &&& 1431655765 : Int32)) : Int32)).toUInt32 >>> ((2 : Int32).toUInt32 &&& Int32.toUInt32 31)).toInt32 : Int32)) &&& 858993459 : Int32)) : Int32)) + (((((((((x0 - (((((x0.toUInt32 >>> ((1 : Int32).toUInt32 &&& Int32.toUInt32 31)).toInt32 : Int32)) &&& 1431655765 : Int32)) : Int32)) &&& 858993459 : Int32)) + (((((((x0 - (((((x0.toUInt32 >>> ((1 : Int32).toUInt32 &&& Int32.toUInt32 31)).toInt32 : Int32)) &&& 1431655765 : Int32)) : Int32)).toUInt32 >>> ((2 : Int32).toUInt32 &&& Int32.toUInt32 31)).toInt32 : Int32)) &&& 858993459 : Int32)) : Int32)).toUInt32 >>> ((4 : Int32).toUInt32 &&& Int32.toUInt32 31)).toInt32 : Int32)) : Int32)) &&& 252645135 : Int32)) + (((((((((((((x0 - (((((x0.toUInt32 >>> ((1 : Int32).toUInt32 &&& Int32.toUInt32 31)).toInt32 : Int32)) &&& 1431655765 : Int32)) : Int32)) &&& 858993459 : Int32)) + (((((((x0 - (((((x0.toUInt32 >>> ((1 : Int32).toUInt32 &&& Int32.toUInt32 31)).toInt32 : Int32)) &&& 1431655765 : Int32)) : Int32)).toUInt32 >>> ((2 : Int32).toUInt32 &&& Int32.toUInt32 31)).toInt32 : Int32)) &&& 858993459 : Int32)) : Int32)) + (((((((((x0 - (((((x0.toUInt32 >>> ((1 : Int32).toUInt32 &&& Int32.toUInt32 31)).toInt32 : Int32)) &&& 1431655765 : Int32)) : Int32)) &&& 858993459 : Int32)) + (((((((x0 - (((((x0.toUInt32 >>> ((1 : Int32).toUInt32 &&& Int32.toUInt32 31)).toInt32 : Int32)) &&& 1431655765 : Int32)) : Int32)).toUInt32 >>> ((2 : Int32).toUInt32 &&& Int32.toUInt32 31)).toInt32 : Int32)) &&& 858993459 : Int32)) : Int32)).toUInt32 >>> ((4 : Int32).toUInt32 &&& Int32.toUInt32 31)).toInt32 : Int32)) : Int32)) &&& 252645135 : Int32)).toUInt32 >>> ((8 : Int32).toUInt32 &&& Int32.toUInt32 31)).toInt32 : Int32)) : Int32)) + (((((((((((((((x0 - (((((x0.toUInt32 >>> ((1 : Int32).toUInt32 &&& Int32.toUInt32 31)).toInt32 : Int32)) &&& 1431655765 : Int32)) : Int32)) &&& 858993459 : Int32)) + (((((((x0 - (((((x0.toUInt32 >>> ((1 : Int32).toUInt32 &&& Int32.toUInt32 31)).toInt32 : Int32)) &&& 1431655765 : Int32)) : Int32)).toUInt32 >>> ((2 : Int32).toUInt32 &&& Int32.toUInt32 31)).toInt32 : Int32)) &&& 858993459 : Int32)) : Int32)) + (((((((((x0 - (((((x0.toUInt32 >>> ((1 : Int32).toUInt32 &&& Int32.toUInt32 31)).toInt32 : Int32)) &&& 1431655765 : Int32)) : Int32)) &&& 858993459 : Int32)) + (((((((x0 - (((((x0.toUInt32 >>> ((1 : Int32).toUInt32 &&& Int32.toUInt32 31)).toInt32 : Int32)) &&& 1431655765 : Int32)) : Int32)).toUInt32 >>> ((2 : Int32).toUInt32 &&& Int32.toUInt32 31)).toInt32 : Int32)) &&& 858993459 : Int32)) : Int32)).toUInt32 >>> ((4 : Int32).toUInt32 &&& Int32.toUInt32 31)).toInt32 : Int32)) : Int32)) &&& 252645135 : Int32)) + (((((((((((((x0 - (((((x0.toUInt32 >>> ((1 : Int32).toUInt32 &&& Int32.toUInt32 31)).toInt32 : Int32)) &&& 1431655765 : Int32)) : Int32)) &&& 858993459 : Int32)) + (((((((x0 - (((((x0.toUInt32 >>> ((1 : Int32).toUInt32 &&& Int32.toUInt32 31)).toInt32 : Int32)) &&& 1431655765 : Int32)) : Int32)).toUInt32 >>> ((2 : Int32).toUInt32 &&& Int32.toUInt32 31)).toInt32 : Int32)) &&& 858993459 : Int32)) : Int32)) + (((((((((x0 - (((((x0.toUInt32 >>> ((1 : Int32).toUInt32 &&& Int32.toUInt32 31)).toInt32 : Int32)) &&& 1431655765 : Int32)) : Int32)) &&& 858993459 : Int32)) + (((((((x0 - (((((x0.toUInt32 >>> ((1 : Int32).toUInt32 &&& Int32.toUInt32 31)).toInt32 : Int32)) &&& 1431655765 : Int32)) : Int32)).toUInt32 >>> ((2 : Int32).toUInt32 &&& Int32.toUInt32 31)).toInt32 : Int32)) &&& 858993459 : Int32)) : Int32)).toUInt32 >>> ((4 : Int32).toUInt32 &&& Int32.toUInt32 31)).toInt32 : Int32)) : Int32)) &&& 252645135 : Int32)).toUInt32 >>> ((8 : Int32).toUInt32 &&& Int32.toUInt32 31)).toInt32 : Int32)) : Int32)).toUInt32 >>> ((16 : Int32).toUInt32 &&& Int32.toUInt32 31)).toInt32 : Int32)) : Int32)))]) C.1.1 C.1.2.1 dJ6_bitCount_0f7a4_47 rfl hl (by decide) rfl (fun ls hl => ?_)
  refine lv_iload_n C.1.1 C.1.2.1 dJ6_bitCount_0f7a4_48 rfl (lv_at hl 0 rfl) ?_
  refine lv_bipush (v := 63) C.1.1 C.1.2.1 dJ6_bitCount_0f7a4_49 (by decide) ?_
  refine lv_iand C.1.1 C.1.2.1 dJ6_bitCount_0f7a4_51 ?_
  cases hF
  exact g_iret C X dJ6_bitCount_0f7a4_52
noncomputable def fJ6_bitCount_0f7a4 (N : Nat) (x0 : Int32) (S : gS) : Option (Int32 × gS) := fJ6_bitCount_0f7a4_b0 N x0 S
theorem kJ6_bitCount_0f7a4 {l : Launch} {D : va_G} {tys : List (ClassId × FieldType)} {cell : gS → Nat → Nat × va_E} {ord : List Nat} {adr : Nat → Nat} {Am : (Nat → Prop) → State → Heap → Prop} {aK aV : Nat → Nat} (O : sO cell ord adr Am aK aV) (P : gAm Am) (N : Nat) (x0 : Int32) (S : gS) (o : Int32 × gS) (hF : fJ6_bitCount_0f7a4 N x0 S = some o) : gM l yJ6_bitCount_0f7a4 cJ6_bitCount_0f7a4 1 ((some .int)) 0 D tys cell ord adr Am [.int x0] S (some (.int o.1)) o.2 :=
  gM_of O.1 P (by decide) (Nat.le_of_ble_eq_true rfl) (fun p e s m args below meth c ls C X hl => bJ6_bitCount_0f7a4_0 C O X (lv_sub hl [0] rfl) hF)
-- J0.coder_7d493
noncomputable def fJ0_coder_7d493_b14 (N : Nat) (t0 : Int32) (S : gS) : Option (Int32 × gS) := chk (nb t0) (some (t0, S))
theorem bJ0_coder_7d493_14 {N : Nat} {t0 : Int32} {S : gS} {H : Heap} {locs : List Loc} {ls : Array Slot} {o : Int32 × gS} (C : gC p s m args meth c cJ0_coder_7d493 1 RJ0 ((some .byte)) D tys ord adr Am) (O : sO cell ord adr Am aK aV) (X : gX D cell ord adr S s H locs) (hl : lv_has ls 1 []) (hF : fJ0_coder_7d493_b14 N t0 S = some o) : W p l e (rmd 0) s m args below meth c H locs 0 0 (gE below args s D tys cell ord adr (some (.int o.1)) o.2) (F0 m 14 ls [.int t0]) := by
  unfold fJ0_coder_7d493_b14 at hF
  obtain ⟨h_1, hF⟩ := chk_some hF
  cases hF
  exact g_nret C X (nb_narrow h_1) dJ0_coder_7d493_14
noncomputable def fJ0_coder_7d493_b13 (N : Nat) (S : gS) : Option (Int32 × gS) := fJ0_coder_7d493_b14 N 1 S
theorem bJ0_coder_7d493_13 {N : Nat} {S : gS} {H : Heap} {locs : List Loc} {ls : Array Slot} {o : Int32 × gS} (C : gC p s m args meth c cJ0_coder_7d493 1 RJ0 ((some .byte)) D tys ord adr Am) (O : sO cell ord adr Am aK aV) (X : gX D cell ord adr S s H locs) (hl : lv_has ls 1 []) (hF : fJ0_coder_7d493_b13 N S = some o) : W p l e (rmd 0) s m args below meth c H locs 0 0 (gE below args s D tys cell ord adr (some (.int o.1)) o.2) (F0 m 13 ls []) := by
  unfold fJ0_coder_7d493_b13 at hF
  refine lv_iconst (v := 1) C.1.1 C.1.2.1 dJ0_coder_7d493_13 (by decide) ?_
  exact bJ0_coder_7d493_14 C O X (lv_sub hl [] rfl) hF
noncomputable def fJ0_coder_7d493_b6 (N : Nat) (k0 : Nat) (S : gS) : Option (Int32 × gS) := fJ0_coder_7d493_b14 N 0 S
theorem bJ0_coder_7d493_6 {N : Nat} {k0 : Nat} {S : gS} {H : Heap} {locs : List Loc} {ls : Array Slot} {o : Int32 × gS} (C : gC p s m args meth c cJ0_coder_7d493 1 RJ0 ((some .byte)) D tys ord adr Am) (O : sO cell ord adr Am aK aV) (hk_k0 : sI k0 = true) (X : gX D cell ord adr S s H locs) (hl : lv_has ls 1 [(0, .ref (aK k0))]) (hF : fJ0_coder_7d493_b6 N k0 S = some o) : W p l e (rmd 0) s m args below meth c H locs 0 0 (gE below args s D tys cell ord adr (some (.int o.1)) o.2) (F0 m 6 ls []) := by
  unfold fJ0_coder_7d493_b6 at hF
  refine lv_aload_n C.1.1 C.1.2.1 dJ0_coder_7d493_6 rfl (lv_at hl 0 rfl) ?_
  refine s_coder C O X hk_k0 xl_J0_15 dJ0_coder_7d493_7 ?_
  refine lv_goto (tgt := 14) C.1.1 C.1.2.1 dJ0_coder_7d493_10 (by decide) ?_
  exact bJ0_coder_7d493_14 C O X (lv_sub hl [] rfl) hF
noncomputable def fJ0_coder_7d493_b0 (N : Nat) (k0 : Nat) (S : gS) : Option (Int32 × gS) := if (1 : Int32) = 0 then fJ0_coder_7d493_b13 N S else fJ0_coder_7d493_b6 N k0 S
theorem bJ0_coder_7d493_0 {N : Nat} {k0 : Nat} {S : gS} {H : Heap} {locs : List Loc} {ls : Array Slot} {o : Int32 × gS} (C : gC p s m args meth c cJ0_coder_7d493 1 RJ0 ((some .byte)) D tys ord adr Am) (O : sO cell ord adr Am aK aV) (hk_k0 : sI k0 = true) (X : gX D cell ord adr S s H locs) (hl : lv_has ls 1 [(0, .ref (aK k0))]) (hF : fJ0_coder_7d493_b0 N k0 S = some o) : W p l e (rmd 0) s m args below meth c H locs 0 0 (gE below args s D tys cell ord adr (some (.int o.1)) o.2) (F0 m 0 ls []) := by
  unfold fJ0_coder_7d493_b0 at hF
  refine s_comp C O X xl_J0_38 dJ0_coder_7d493_0 ?_
  refine lv_if_eq (tgt := 13) C.1.1 C.1.2.1 dJ0_coder_7d493_3 (by decide) (fun h_z => ?_) (fun h_z => ?_)
  · rw [if_pos h_z] at hF
    exact bJ0_coder_7d493_13 C O X (lv_sub hl [] rfl) hF
  · rw [if_neg h_z] at hF
    exact bJ0_coder_7d493_6 C O hk_k0 X (lv_sub hl [0] rfl) hF
noncomputable def fJ0_coder_7d493 (N : Nat) (k0 : Nat) (S : gS) : Option (Int32 × gS) := fJ0_coder_7d493_b0 N k0 S
theorem kJ0_coder_7d493 {l : Launch} {D : va_G} {tys : List (ClassId × FieldType)} {cell : gS → Nat → Nat × va_E} {ord : List Nat} {adr : Nat → Nat} {Am : (Nat → Prop) → State → Heap → Prop} {aK aV : Nat → Nat} (O : sO cell ord adr Am aK aV) (P : gAm Am) (N : Nat) (k0 : Nat) (hk_k0 : sI k0 = true) (S : gS) (o : Int32 × gS) (hF : fJ0_coder_7d493 N k0 S = some o) : gM l yJ0_coder_7d493 cJ0_coder_7d493 1 ((some .byte)) 0 D tys cell ord adr Am [.ref (aK k0)] S (some (.int o.1)) o.2 :=
  gM_of O.1 P (by decide) (Nat.le_of_ble_eq_true rfl) (fun p e s m args below meth c ls C X hl => bJ0_coder_7d493_0 C O hk_k0 X (lv_sub hl [0] rfl) hF)
-- J0.length_8abf5
noncomputable def fJ0_length_8abf5_b0 (N : Nat) (k0 : Nat) (S : gS) : Option (Int32 × gS) := bnd (fJ0_coder_7d493 N k0 S) fun q1 => (some (((Int32.ofNat (sLen k0)) >>> (q1.1 &&& 31) : Int32), q1.2))
theorem bJ0_length_8abf5_0 {N : Nat} {k0 : Nat} {S : gS} {H : Heap} {locs : List Loc} {ls : Array Slot} {o : Int32 × gS} (C : gC p s m args meth c cJ0_length_8abf5 1 RJ0 ((some .int)) D tys ord adr Am) (O : sO cell ord adr Am aK aV) (hk_k0 : sI k0 = true) (X : gX D cell ord adr S s H locs) (hl : lv_has ls 1 [(0, .ref (aK k0))]) (hF : fJ0_length_8abf5_b0 N k0 S = some o) : W p l e (rmd 1) s m args below meth c H locs 0 0 (gE below args s D tys cell ord adr (some (.int o.1)) o.2) (F0 m 0 ls []) := by
  unfold fJ0_length_8abf5_b0 at hF
  refine lv_aload_n C.1.1 C.1.2.1 dJ0_length_8abf5_0 rfl (lv_at hl 0 rfl) ?_
  refine s_value C O X hk_k0 xl_J0_9 dJ0_length_8abf5_1 ?_
  refine s_len C O X hk_k0 dJ0_length_8abf5_4 ?_
  refine lv_aload_n C.1.1 C.1.2.1 dJ0_length_8abf5_5 rfl (lv_at hl 0 rfl) ?_
  obtain ⟨q1, hq1, hF⟩ := bnd_some hF
  refine s_callV C O X xv_J0_335 rfl hk_k0 (kJ0_coder_7d493 O C.2.2.2.2.1 N k0 hk_k0 S q1 hq1) (Nat.le_of_ble_eq_true rfl) (Nat.le_of_ble_eq_true rfl) (Nat.le_of_ble_eq_true rfl) (Nat.le_of_ble_eq_true rfl) rfl hl.1 rfl (Nat.le_of_ble_eq_true rfl) dJ0_length_8abf5_6 (fun H locs X => ?_)
  refine lv_ishr C.1.1 C.1.2.1 dJ0_length_8abf5_9 ?_
  cases hF
  exact g_iret C X dJ0_length_8abf5_10
noncomputable def fJ0_length_8abf5 (N : Nat) (k0 : Nat) (S : gS) : Option (Int32 × gS) := fJ0_length_8abf5_b0 N k0 S
theorem kJ0_length_8abf5 {l : Launch} {D : va_G} {tys : List (ClassId × FieldType)} {cell : gS → Nat → Nat × va_E} {ord : List Nat} {adr : Nat → Nat} {Am : (Nat → Prop) → State → Heap → Prop} {aK aV : Nat → Nat} (O : sO cell ord adr Am aK aV) (P : gAm Am) (N : Nat) (k0 : Nat) (hk_k0 : sI k0 = true) (S : gS) (o : Int32 × gS) (hF : fJ0_length_8abf5 N k0 S = some o) : gM l yJ0_length_8abf5 cJ0_length_8abf5 1 ((some .int)) 1 D tys cell ord adr Am [.ref (aK k0)] S (some (.int o.1)) o.2 :=
  gM_of O.1 P (by decide) (Nat.le_of_ble_eq_true rfl) (fun p e s m args below meth c ls C X hl => bJ0_length_8abf5_0 C O hk_k0 X (lv_sub hl [0] rfl) hF)
-- J0.isLatin1_aae02
noncomputable def fJ0_isLatin1_aae02_b18 (N : Nat) (t0 : Int32) (S : gS) : Option (Int32 × gS) := chk (zb t0) (some (t0, S))
theorem bJ0_isLatin1_aae02_18 {N : Nat} {t0 : Int32} {S : gS} {H : Heap} {locs : List Loc} {ls : Array Slot} {o : Int32 × gS} (C : gC p s m args meth c cJ0_isLatin1_aae02 1 RJ0 ((some .boolean)) D tys ord adr Am) (O : sO cell ord adr Am aK aV) (X : gX D cell ord adr S s H locs) (hl : lv_has ls 1 []) (hF : fJ0_isLatin1_aae02_b18 N t0 S = some o) : W p l e (rmd 0) s m args below meth c H locs 0 0 (gE below args s D tys cell ord adr (some (.int o.1)) o.2) (F0 m 18 ls [.int t0]) := by
  unfold fJ0_isLatin1_aae02_b18 at hF
  obtain ⟨h_1, hF⟩ := chk_some hF
  cases hF
  exact g_zret C X h_1 dJ0_isLatin1_aae02_18
noncomputable def fJ0_isLatin1_aae02_b17 (N : Nat) (S : gS) : Option (Int32 × gS) := fJ0_isLatin1_aae02_b18 N 0 S
theorem bJ0_isLatin1_aae02_17 {N : Nat} {S : gS} {H : Heap} {locs : List Loc} {ls : Array Slot} {o : Int32 × gS} (C : gC p s m args meth c cJ0_isLatin1_aae02 1 RJ0 ((some .boolean)) D tys ord adr Am) (O : sO cell ord adr Am aK aV) (X : gX D cell ord adr S s H locs) (hl : lv_has ls 1 []) (hF : fJ0_isLatin1_aae02_b17 N S = some o) : W p l e (rmd 0) s m args below meth c H locs 0 0 (gE below args s D tys cell ord adr (some (.int o.1)) o.2) (F0 m 17 ls []) := by
  unfold fJ0_isLatin1_aae02_b17 at hF
  refine lv_iconst (v := 0) C.1.1 C.1.2.1 dJ0_isLatin1_aae02_17 (by decide) ?_
  exact bJ0_isLatin1_aae02_18 C O X (lv_sub hl [] rfl) hF
noncomputable def fJ0_isLatin1_aae02_b13 (N : Nat) (S : gS) : Option (Int32 × gS) := fJ0_isLatin1_aae02_b18 N 1 S
theorem bJ0_isLatin1_aae02_13 {N : Nat} {S : gS} {H : Heap} {locs : List Loc} {ls : Array Slot} {o : Int32 × gS} (C : gC p s m args meth c cJ0_isLatin1_aae02 1 RJ0 ((some .boolean)) D tys ord adr Am) (O : sO cell ord adr Am aK aV) (X : gX D cell ord adr S s H locs) (hl : lv_has ls 1 []) (hF : fJ0_isLatin1_aae02_b13 N S = some o) : W p l e (rmd 0) s m args below meth c H locs 0 0 (gE below args s D tys cell ord adr (some (.int o.1)) o.2) (F0 m 13 ls []) := by
  unfold fJ0_isLatin1_aae02_b13 at hF
  refine lv_iconst (v := 1) C.1.1 C.1.2.1 dJ0_isLatin1_aae02_13 (by decide) ?_
  refine lv_goto (tgt := 18) C.1.1 C.1.2.1 dJ0_isLatin1_aae02_14 (by decide) ?_
  exact bJ0_isLatin1_aae02_18 C O X (lv_sub hl [] rfl) hF
noncomputable def fJ0_isLatin1_aae02_b6 (N : Nat) (k0 : Nat) (S : gS) : Option (Int32 × gS) := if (0 : Int32) = 0 then fJ0_isLatin1_aae02_b13 N S else fJ0_isLatin1_aae02_b17 N S
theorem bJ0_isLatin1_aae02_6 {N : Nat} {k0 : Nat} {S : gS} {H : Heap} {locs : List Loc} {ls : Array Slot} {o : Int32 × gS} (C : gC p s m args meth c cJ0_isLatin1_aae02 1 RJ0 ((some .boolean)) D tys ord adr Am) (O : sO cell ord adr Am aK aV) (hk_k0 : sI k0 = true) (X : gX D cell ord adr S s H locs) (hl : lv_has ls 1 [(0, .ref (aK k0))]) (hF : fJ0_isLatin1_aae02_b6 N k0 S = some o) : W p l e (rmd 0) s m args below meth c H locs 0 0 (gE below args s D tys cell ord adr (some (.int o.1)) o.2) (F0 m 6 ls []) := by
  unfold fJ0_isLatin1_aae02_b6 at hF
  refine lv_aload_n C.1.1 C.1.2.1 dJ0_isLatin1_aae02_6 rfl (lv_at hl 0 rfl) ?_
  refine s_coder C O X hk_k0 xl_J0_15 dJ0_isLatin1_aae02_7 ?_
  refine lv_if_ne (tgt := 17) C.1.1 C.1.2.1 dJ0_isLatin1_aae02_10 (by decide) (fun h_z => ?_) (fun h_z => ?_)
  · rw [if_neg h_z] at hF
    exact bJ0_isLatin1_aae02_17 C O X (lv_sub hl [] rfl) hF
  · rw [if_pos h_z] at hF
    exact bJ0_isLatin1_aae02_13 C O X (lv_sub hl [] rfl) hF
noncomputable def fJ0_isLatin1_aae02_b0 (N : Nat) (k0 : Nat) (S : gS) : Option (Int32 × gS) := if (1 : Int32) = 0 then fJ0_isLatin1_aae02_b17 N S else fJ0_isLatin1_aae02_b6 N k0 S
theorem bJ0_isLatin1_aae02_0 {N : Nat} {k0 : Nat} {S : gS} {H : Heap} {locs : List Loc} {ls : Array Slot} {o : Int32 × gS} (C : gC p s m args meth c cJ0_isLatin1_aae02 1 RJ0 ((some .boolean)) D tys ord adr Am) (O : sO cell ord adr Am aK aV) (hk_k0 : sI k0 = true) (X : gX D cell ord adr S s H locs) (hl : lv_has ls 1 [(0, .ref (aK k0))]) (hF : fJ0_isLatin1_aae02_b0 N k0 S = some o) : W p l e (rmd 0) s m args below meth c H locs 0 0 (gE below args s D tys cell ord adr (some (.int o.1)) o.2) (F0 m 0 ls []) := by
  unfold fJ0_isLatin1_aae02_b0 at hF
  refine s_comp C O X xl_J0_38 dJ0_isLatin1_aae02_0 ?_
  refine lv_if_eq (tgt := 17) C.1.1 C.1.2.1 dJ0_isLatin1_aae02_3 (by decide) (fun h_z => ?_) (fun h_z => ?_)
  · rw [if_pos h_z] at hF
    exact bJ0_isLatin1_aae02_17 C O X (lv_sub hl [] rfl) hF
  · rw [if_neg h_z] at hF
    exact bJ0_isLatin1_aae02_6 C O hk_k0 X (lv_sub hl [0] rfl) hF
noncomputable def fJ0_isLatin1_aae02 (N : Nat) (k0 : Nat) (S : gS) : Option (Int32 × gS) := fJ0_isLatin1_aae02_b0 N k0 S
theorem kJ0_isLatin1_aae02 {l : Launch} {D : va_G} {tys : List (ClassId × FieldType)} {cell : gS → Nat → Nat × va_E} {ord : List Nat} {adr : Nat → Nat} {Am : (Nat → Prop) → State → Heap → Prop} {aK aV : Nat → Nat} (O : sO cell ord adr Am aK aV) (P : gAm Am) (N : Nat) (k0 : Nat) (hk_k0 : sI k0 = true) (S : gS) (o : Int32 × gS) (hF : fJ0_isLatin1_aae02 N k0 S = some o) : gM l yJ0_isLatin1_aae02 cJ0_isLatin1_aae02 1 ((some .boolean)) 0 D tys cell ord adr Am [.ref (aK k0)] S (some (.int o.1)) o.2 :=
  gM_of O.1 P (by decide) (Nat.le_of_ble_eq_true rfl) (fun p e s m args below meth c ls C X hl => bJ0_isLatin1_aae02_0 C O hk_k0 X (lv_sub hl [0] rfl) hF)
-- J3.checkIndex_8e157
noncomputable def fJ3_checkIndex_8e157_b16 (N : Nat) (x0 : Int32) (S : gS) : Option (Int32 × gS) := some (x0, S)
theorem bJ3_checkIndex_8e157_16 {N : Nat} {x0 : Int32} {S : gS} {H : Heap} {locs : List Loc} {ls : Array Slot} {o : Int32 × gS} (C : gC p s m args meth c cJ3_checkIndex_8e157 3 RJ3 ((some .int)) D tys ord adr Am) (O : sO cell ord adr Am aK aV) (X : gX D cell ord adr S s H locs) (hl : lv_has ls 3 [(0, .int x0)]) (hF : fJ3_checkIndex_8e157_b16 N x0 S = some o) : W p l e (rmd 0) s m args below meth c H locs 0 0 (gE below args s D tys cell ord adr (some (.int o.1)) o.2) (F0 m 16 ls []) := by
  unfold fJ3_checkIndex_8e157_b16 at hF
  refine lv_iload_n C.1.1 C.1.2.1 dJ3_checkIndex_8e157_16 rfl (lv_at hl 0 rfl) ?_
  cases hF
  exact g_iret C X dJ3_checkIndex_8e157_17
noncomputable def fJ3_checkIndex_8e157_b9 (N : Nat) (S : gS) : Option (Int32 × gS) := none
theorem bJ3_checkIndex_8e157_9 {N : Nat} {S : gS} {H : Heap} {locs : List Loc} {ls : Array Slot} {o : Int32 × gS} (C : gC p s m args meth c cJ3_checkIndex_8e157 3 RJ3 ((some .int)) D tys ord adr Am) (O : sO cell ord adr Am aK aV) (X : gX D cell ord adr S s H locs) (hl : lv_has ls 3 []) (hF : fJ3_checkIndex_8e157_b9 N S = some o) : W p l e (rmd 0) s m args below meth c H locs 0 0 (gE below args s D tys cell ord adr (some (.int o.1)) o.2) (F0 m 9 ls []) := by
  unfold fJ3_checkIndex_8e157_b9 at hF
  exact absurd hF (by simp)
noncomputable def fJ3_checkIndex_8e157_b4 (N : Nat) (x0 : Int32) (x1 : Int32) (S : gS) : Option (Int32 × gS) := if x0 < x1 then fJ3_checkIndex_8e157_b16 N x0 S else fJ3_checkIndex_8e157_b9 N S
theorem bJ3_checkIndex_8e157_4 {N : Nat} {x0 : Int32} {x1 : Int32} {S : gS} {H : Heap} {locs : List Loc} {ls : Array Slot} {o : Int32 × gS} (C : gC p s m args meth c cJ3_checkIndex_8e157 3 RJ3 ((some .int)) D tys ord adr Am) (O : sO cell ord adr Am aK aV) (X : gX D cell ord adr S s H locs) (hl : lv_has ls 3 [(0, .int x0), (1, .int x1)]) (hF : fJ3_checkIndex_8e157_b4 N x0 x1 S = some o) : W p l e (rmd 0) s m args below meth c H locs 0 0 (gE below args s D tys cell ord adr (some (.int o.1)) o.2) (F0 m 4 ls []) := by
  unfold fJ3_checkIndex_8e157_b4 at hF
  refine lv_iload_n C.1.1 C.1.2.1 dJ3_checkIndex_8e157_4 rfl (lv_at hl 0 rfl) ?_
  refine lv_iload_n C.1.1 C.1.2.1 dJ3_checkIndex_8e157_5 rfl (lv_at hl 1 rfl) ?_
  refine lv_icmp_lt (tgt := 16) C.1.1 C.1.2.1 dJ3_checkIndex_8e157_6 (by decide) (fun h_z => ?_) (fun h_z => ?_)
  · rw [if_pos h_z] at hF
    exact bJ3_checkIndex_8e157_16 C O X (lv_sub hl [0] rfl) hF
  · rw [if_neg h_z] at hF
    exact bJ3_checkIndex_8e157_9 C O X (lv_sub hl [] rfl) hF
noncomputable def fJ3_checkIndex_8e157_b0 (N : Nat) (x0 : Int32) (x1 : Int32) (S : gS) : Option (Int32 × gS) := if x0 < 0 then fJ3_checkIndex_8e157_b9 N S else fJ3_checkIndex_8e157_b4 N x0 x1 S
theorem bJ3_checkIndex_8e157_0 {N : Nat} {x0 : Int32} {x1 : Int32} {S : gS} {H : Heap} {locs : List Loc} {ls : Array Slot} {o : Int32 × gS} (C : gC p s m args meth c cJ3_checkIndex_8e157 3 RJ3 ((some .int)) D tys ord adr Am) (O : sO cell ord adr Am aK aV) (X : gX D cell ord adr S s H locs) (hl : lv_has ls 3 [(0, .int x0), (1, .int x1)]) (hF : fJ3_checkIndex_8e157_b0 N x0 x1 S = some o) : W p l e (rmd 0) s m args below meth c H locs 0 0 (gE below args s D tys cell ord adr (some (.int o.1)) o.2) (F0 m 0 ls []) := by
  unfold fJ3_checkIndex_8e157_b0 at hF
  refine lv_iload_n C.1.1 C.1.2.1 dJ3_checkIndex_8e157_0 rfl (lv_at hl 0 rfl) ?_
  refine lv_if_lt (tgt := 9) C.1.1 C.1.2.1 dJ3_checkIndex_8e157_1 (by decide) (fun h_z => ?_) (fun h_z => ?_)
  · rw [if_pos h_z] at hF
    exact bJ3_checkIndex_8e157_9 C O X (lv_sub hl [] rfl) hF
  · rw [if_neg h_z] at hF
    exact bJ3_checkIndex_8e157_4 C O X (lv_sub hl [0, 1] rfl) hF
noncomputable def fJ3_checkIndex_8e157 (N : Nat) (x0 : Int32) (x1 : Int32) (S : gS) : Option (Int32 × gS) := fJ3_checkIndex_8e157_b0 N x0 x1 S
theorem kJ3_checkIndex_8e157 {l : Launch} {D : va_G} {tys : List (ClassId × FieldType)} {cell : gS → Nat → Nat × va_E} {ord : List Nat} {adr : Nat → Nat} {Am : (Nat → Prop) → State → Heap → Prop} {aK aV : Nat → Nat} (O : sO cell ord adr Am aK aV) (P : gAm Am) (N : Nat) (x0 : Int32) (x1 : Int32) (z2 : Option Nat) (S : gS) (o : Int32 × gS) (hF : fJ3_checkIndex_8e157 N x0 x1 S = some o) : gM l yJ3_checkIndex_8e157 cJ3_checkIndex_8e157 3 ((some .int)) 0 D tys cell ord adr Am [.int x0, .int x1, va_rf z2] S (some (.int o.1)) o.2 := by
  cases z2 <;> exact gM_of O.1 P (by decide) (Nat.le_of_ble_eq_true rfl) (fun p e s m args below meth c ls C X hl => bJ3_checkIndex_8e157_0 C O X (lv_sub hl [0, 1] rfl) hF)
-- J0.checkIndex_df160
noncomputable def fJ0_checkIndex_df160_b0 (N : Nat) (x0 : Int32) (x1 : Int32) (S : gS) : Option (Int32 × gS) := bnd (fJ3_checkIndex_8e157 N x0 x1 S) fun q1 => (some (0, q1.2))
theorem bJ0_checkIndex_df160_0 {N : Nat} {x0 : Int32} {x1 : Int32} {S : gS} {H : Heap} {locs : List Loc} {ls : Array Slot} {o : Int32 × gS} (C : gC p s m args meth c cJ0_checkIndex_df160 2 RJ0 none D tys ord adr Am) (O : sO cell ord adr Am aK aV) (X : gX D cell ord adr S s H locs) (hl : lv_has ls 2 [(0, .int x0), (1, .int x1)]) (hF : fJ0_checkIndex_df160_b0 N x0 x1 S = some o) : W p l e (rmd 1) s m args below meth c H locs 0 0 (gE below args s D tys cell ord adr none o.2) (F0 m 0 ls []) := by
  unfold fJ0_checkIndex_df160_b0 at hF
  refine lv_iload_n C.1.1 C.1.2.1 dJ0_checkIndex_df160_0 rfl (lv_at hl 0 rfl) ?_
  refine lv_iload_n C.1.1 C.1.2.1 dJ0_checkIndex_df160_1 rfl (lv_at hl 1 rfl) ?_
  refine s_fmt C O X xl_J0_1053 dJ0_checkIndex_df160_2 (fun z1 => ?_)
  obtain ⟨q1, hq1, hF⟩ := bnd_some hF
  refine g_callOi C X xv_J0_1059 (kJ3_checkIndex_8e157 O C.2.2.2.2.1 N x0 x1 z1 S q1 hq1) (Nat.le_of_ble_eq_true rfl) (Nat.le_of_ble_eq_true rfl) (Nat.le_of_ble_eq_true rfl) (Nat.le_of_ble_eq_true rfl) rfl hl.1 rfl (Nat.le_of_ble_eq_true rfl) dJ0_checkIndex_df160_5 (fun H locs X => ?_)
  refine lv_pop C.1.1 C.1.2.1 dJ0_checkIndex_df160_8 rfl ?_
  cases hF
  exact g_vret C X dJ0_checkIndex_df160_9
noncomputable def fJ0_checkIndex_df160 (N : Nat) (x0 : Int32) (x1 : Int32) (S : gS) : Option (Int32 × gS) := fJ0_checkIndex_df160_b0 N x0 x1 S
theorem kJ0_checkIndex_df160 {l : Launch} {D : va_G} {tys : List (ClassId × FieldType)} {cell : gS → Nat → Nat × va_E} {ord : List Nat} {adr : Nat → Nat} {Am : (Nat → Prop) → State → Heap → Prop} {aK aV : Nat → Nat} (O : sO cell ord adr Am aK aV) (P : gAm Am) (N : Nat) (x0 : Int32) (x1 : Int32) (S : gS) (o : Int32 × gS) (hF : fJ0_checkIndex_df160 N x0 x1 S = some o) : gM l yJ0_checkIndex_df160 cJ0_checkIndex_df160 2 none 1 D tys cell ord adr Am [.int x0, .int x1] S none o.2 :=
  gM_of O.1 P (by decide) (Nat.le_of_ble_eq_true rfl) (fun p e s m args below meth c ls C X hl => bJ0_checkIndex_df160_0 C O X (lv_sub hl [0, 1] rfl) hF)
-- J1.charAt_3b067
noncomputable def fJ1_charAt_3b067_b0 (N : Nat) (k0 : Nat) (x1 : Int32) (S : gS) : Option (Int32 × gS) := bnd (fJ0_checkIndex_df160 N x1 (Int32.ofNat (sLen k0)) S) fun q1 => (chk (inb x1 (sLen k0)) (chk (nc ((Int32.toUInt32 (((sByt k0 (Int32.toNatClampNeg x1)) &&& 255 : Int32)) % 65536).toInt32)) (some ((Int32.toUInt32 (((sByt k0 (Int32.toNatClampNeg x1)) &&& 255 : Int32)) % 65536).toInt32, q1.2))))
theorem bJ1_charAt_3b067_0 {N : Nat} {k0 : Nat} {x1 : Int32} {S : gS} {H : Heap} {locs : List Loc} {ls : Array Slot} {o : Int32 × gS} (C : gC p s m args meth c cJ1_charAt_3b067 2 RJ1 ((some .char)) D tys ord adr Am) (O : sO cell ord adr Am aK aV) (hk_k0 : sI k0 = true) (X : gX D cell ord adr S s H locs) (hl : lv_has ls 2 [(0, .ref (aV k0)), (1, .int x1)]) (hF : fJ1_charAt_3b067_b0 N k0 x1 S = some o) : W p l e (rmd 2) s m args below meth c H locs 0 0 (gE below args s D tys cell ord adr (some (.int o.1)) o.2) (F0 m 0 ls []) := by
  unfold fJ1_charAt_3b067_b0 at hF
  refine lv_iload_n C.1.1 C.1.2.1 dJ1_charAt_3b067_0 rfl (lv_at hl 1 rfl) ?_
  refine lv_aload_n C.1.1 C.1.2.1 dJ1_charAt_3b067_1 rfl (lv_at hl 0 rfl) ?_
  refine s_len C O X hk_k0 dJ1_charAt_3b067_2 ?_
  obtain ⟨q1, hq1, hF⟩ := bnd_some hF
  refine g_callO C X xv_J1_9 (kJ0_checkIndex_df160 O C.2.2.2.2.1 N x1 (Int32.ofNat (sLen k0)) S q1 hq1) (Nat.le_of_ble_eq_true rfl) (Nat.le_of_ble_eq_true rfl) (Nat.le_of_ble_eq_true rfl) (Nat.le_of_ble_eq_true rfl) rfl hl.1 rfl (Nat.le_of_ble_eq_true rfl) dJ1_charAt_3b067_3 (fun H locs X => ?_)
  refine lv_aload_n C.1.1 C.1.2.1 dJ1_charAt_3b067_6 rfl (lv_at hl 0 rfl) ?_
  refine lv_iload_n C.1.1 C.1.2.1 dJ1_charAt_3b067_7 rfl (lv_at hl 1 rfl) ?_
  obtain ⟨h_1, hF⟩ := chk_some hF
  refine s_byte C O X hk_k0 (inb_vp h_1) dJ1_charAt_3b067_8 ?_
  refine lv_sipush (v := 255) C.1.1 C.1.2.1 dJ1_charAt_3b067_9 (by decide) ?_
  refine lv_iand C.1.1 C.1.2.1 dJ1_charAt_3b067_12 ?_
  refine lv_i2c (v := (Int32.toUInt32 (((sByt k0 (Int32.toNatClampNeg x1)) &&& 255 : Int32)) % 65536).toInt32) C.1.1 C.1.2.1 dJ1_charAt_3b067_13 rfl ?_
  obtain ⟨h_2, hF⟩ := chk_some hF
  cases hF
  exact g_nret C X (nc_narrow h_2) dJ1_charAt_3b067_14
noncomputable def fJ1_charAt_3b067 (N : Nat) (k0 : Nat) (x1 : Int32) (S : gS) : Option (Int32 × gS) := fJ1_charAt_3b067_b0 N k0 x1 S
theorem kJ1_charAt_3b067 {l : Launch} {D : va_G} {tys : List (ClassId × FieldType)} {cell : gS → Nat → Nat × va_E} {ord : List Nat} {adr : Nat → Nat} {Am : (Nat → Prop) → State → Heap → Prop} {aK aV : Nat → Nat} (O : sO cell ord adr Am aK aV) (P : gAm Am) (N : Nat) (k0 : Nat) (x1 : Int32) (hk_k0 : sI k0 = true) (S : gS) (o : Int32 × gS) (hF : fJ1_charAt_3b067 N k0 x1 S = some o) : gM l yJ1_charAt_3b067 cJ1_charAt_3b067 2 ((some .char)) 2 D tys cell ord adr Am [.ref (aV k0), .int x1] S (some (.int o.1)) o.2 :=
  gM_of O.1 P (by decide) (Nat.le_of_ble_eq_true rfl) (fun p e s m args below meth c ls C X hl => bJ1_charAt_3b067_0 C O hk_k0 X (lv_sub hl [0, 1] rfl) hF)
-- J0.charAt_5068e
noncomputable def fJ0_charAt_5068e_b16 (N : Nat) (S : gS) : Option (Int32 × gS) := none
theorem bJ0_charAt_5068e_16 {N : Nat} {S : gS} {H : Heap} {locs : List Loc} {ls : Array Slot} {o : Int32 × gS} (C : gC p s m args meth c cJ0_charAt_5068e 2 RJ0 ((some .char)) D tys ord adr Am) (O : sO cell ord adr Am aK aV) (X : gX D cell ord adr S s H locs) (hl : lv_has ls 2 []) (hF : fJ0_charAt_5068e_b16 N S = some o) : W p l e (rmd 3) s m args below meth c H locs 0 0 (gE below args s D tys cell ord adr (some (.int o.1)) o.2) (F0 m 16 ls []) := by
  unfold fJ0_charAt_5068e_b16 at hF
  exact absurd hF (by simp)
noncomputable def fJ0_charAt_5068e_b7 (N : Nat) (k0 : Nat) (x1 : Int32) (S : gS) : Option (Int32 × gS) := bnd (fJ1_charAt_3b067 N k0 x1 S) fun q1 => (chk (nc q1.1) (some (q1.1, q1.2)))
theorem bJ0_charAt_5068e_7 {N : Nat} {k0 : Nat} {x1 : Int32} {S : gS} {H : Heap} {locs : List Loc} {ls : Array Slot} {o : Int32 × gS} (C : gC p s m args meth c cJ0_charAt_5068e 2 RJ0 ((some .char)) D tys ord adr Am) (O : sO cell ord adr Am aK aV) (hk_k0 : sI k0 = true) (X : gX D cell ord adr S s H locs) (hl : lv_has ls 2 [(0, .ref (aK k0)), (1, .int x1)]) (hF : fJ0_charAt_5068e_b7 N k0 x1 S = some o) : W p l e (rmd 3) s m args below meth c H locs 0 0 (gE below args s D tys cell ord adr (some (.int o.1)) o.2) (F0 m 7 ls []) := by
  unfold fJ0_charAt_5068e_b7 at hF
  refine lv_aload_n C.1.1 C.1.2.1 dJ0_charAt_5068e_7 rfl (lv_at hl 0 rfl) ?_
  refine s_value C O X hk_k0 xl_J0_9 dJ0_charAt_5068e_8 ?_
  refine lv_iload_n C.1.1 C.1.2.1 dJ0_charAt_5068e_11 rfl (lv_at hl 1 rfl) ?_
  obtain ⟨q1, hq1, hF⟩ := bnd_some hF
  refine g_callOi C X xv_J0_495 (kJ1_charAt_3b067 O C.2.2.2.2.1 N k0 x1 hk_k0 S q1 hq1) (Nat.le_of_ble_eq_true rfl) (Nat.le_of_ble_eq_true rfl) (Nat.le_of_ble_eq_true rfl) (Nat.le_of_ble_eq_true rfl) rfl hl.1 rfl (Nat.le_of_ble_eq_true rfl) dJ0_charAt_5068e_12 (fun H locs X => ?_)
  obtain ⟨h_1, hF⟩ := chk_some hF
  cases hF
  exact g_nret C X (nc_narrow h_1) dJ0_charAt_5068e_15
noncomputable def fJ0_charAt_5068e_b0 (N : Nat) (k0 : Nat) (x1 : Int32) (S : gS) : Option (Int32 × gS) := bnd (fJ0_isLatin1_aae02 N k0 S) fun q1 => (if q1.1 = 0 then fJ0_charAt_5068e_b16 N q1.2 else fJ0_charAt_5068e_b7 N k0 x1 q1.2)
theorem bJ0_charAt_5068e_0 {N : Nat} {k0 : Nat} {x1 : Int32} {S : gS} {H : Heap} {locs : List Loc} {ls : Array Slot} {o : Int32 × gS} (C : gC p s m args meth c cJ0_charAt_5068e 2 RJ0 ((some .char)) D tys ord adr Am) (O : sO cell ord adr Am aK aV) (hk_k0 : sI k0 = true) (X : gX D cell ord adr S s H locs) (hl : lv_has ls 2 [(0, .ref (aK k0)), (1, .int x1)]) (hF : fJ0_charAt_5068e_b0 N k0 x1 S = some o) : W p l e (rmd 3) s m args below meth c H locs 0 0 (gE below args s D tys cell ord adr (some (.int o.1)) o.2) (F0 m 0 ls []) := by
  unfold fJ0_charAt_5068e_b0 at hF
  refine lv_aload_n C.1.1 C.1.2.1 dJ0_charAt_5068e_0 rfl (lv_at hl 0 rfl) ?_
  obtain ⟨q1, hq1, hF⟩ := bnd_some hF
  refine s_callV C O X xv_J0_492 rfl hk_k0 (kJ0_isLatin1_aae02 O C.2.2.2.2.1 N k0 hk_k0 S q1 hq1) (Nat.le_of_ble_eq_true rfl) (Nat.le_of_ble_eq_true rfl) (Nat.le_of_ble_eq_true rfl) (Nat.le_of_ble_eq_true rfl) rfl hl.1 rfl (Nat.le_of_ble_eq_true rfl) dJ0_charAt_5068e_1 (fun H locs X => ?_)
  refine lv_if_eq (tgt := 16) C.1.1 C.1.2.1 dJ0_charAt_5068e_4 (by decide) (fun h_z => ?_) (fun h_z => ?_)
  · rw [if_pos h_z] at hF
    exact bJ0_charAt_5068e_16 C O X (lv_sub hl [] rfl) hF
  · rw [if_neg h_z] at hF
    exact bJ0_charAt_5068e_7 C O hk_k0 X (lv_sub hl [0, 1] rfl) hF
noncomputable def fJ0_charAt_5068e (N : Nat) (k0 : Nat) (x1 : Int32) (S : gS) : Option (Int32 × gS) := fJ0_charAt_5068e_b0 N k0 x1 S
theorem kJ0_charAt_5068e {l : Launch} {D : va_G} {tys : List (ClassId × FieldType)} {cell : gS → Nat → Nat × va_E} {ord : List Nat} {adr : Nat → Nat} {Am : (Nat → Prop) → State → Heap → Prop} {aK aV : Nat → Nat} (O : sO cell ord adr Am aK aV) (P : gAm Am) (N : Nat) (k0 : Nat) (x1 : Int32) (hk_k0 : sI k0 = true) (S : gS) (o : Int32 × gS) (hF : fJ0_charAt_5068e N k0 x1 S = some o) : gM l yJ0_charAt_5068e cJ0_charAt_5068e 2 ((some .char)) 3 D tys cell ord adr Am [.ref (aK k0), .int x1] S (some (.int o.1)) o.2 :=
  gM_of O.1 P (by decide) (Nat.le_of_ble_eq_true rfl) (fun p e s m args below meth c ls C X hl => bJ0_charAt_5068e_0 C O hk_k0 X (lv_sub hl [0, 1] rfl) hF)
-- J1.canEncode_9a6ad
noncomputable def fJ1_canEncode_9a6ad_b16 (N : Nat) (t0 : Int32) (S : gS) : Option (Int32 × gS) := chk (zb t0) (some (t0, S))
theorem bJ1_canEncode_9a6ad_16 {N : Nat} {t0 : Int32} {S : gS} {H : Heap} {locs : List Loc} {ls : Array Slot} {o : Int32 × gS} (C : gC p s m args meth c cJ1_canEncode_9a6ad 1 RJ1 ((some .boolean)) D tys ord adr Am) (O : sO cell ord adr Am aK aV) (X : gX D cell ord adr S s H locs) (hl : lv_has ls 1 []) (hF : fJ1_canEncode_9a6ad_b16 N t0 S = some o) : W p l e (rmd 0) s m args below meth c H locs 0 0 (gE below args s D tys cell ord adr (some (.int o.1)) o.2) (F0 m 16 ls [.int t0]) := by
  unfold fJ1_canEncode_9a6ad_b16 at hF
  obtain ⟨h_1, hF⟩ := chk_some hF
  cases hF
  exact g_zret C X h_1 dJ1_canEncode_9a6ad_16
noncomputable def fJ1_canEncode_9a6ad_b15 (N : Nat) (S : gS) : Option (Int32 × gS) := fJ1_canEncode_9a6ad_b16 N 0 S
theorem bJ1_canEncode_9a6ad_15 {N : Nat} {S : gS} {H : Heap} {locs : List Loc} {ls : Array Slot} {o : Int32 × gS} (C : gC p s m args meth c cJ1_canEncode_9a6ad 1 RJ1 ((some .boolean)) D tys ord adr Am) (O : sO cell ord adr Am aK aV) (X : gX D cell ord adr S s H locs) (hl : lv_has ls 1 []) (hF : fJ1_canEncode_9a6ad_b15 N S = some o) : W p l e (rmd 0) s m args below meth c H locs 0 0 (gE below args s D tys cell ord adr (some (.int o.1)) o.2) (F0 m 15 ls []) := by
  unfold fJ1_canEncode_9a6ad_b15 at hF
  refine lv_iconst (v := 0) C.1.1 C.1.2.1 dJ1_canEncode_9a6ad_15 (by decide) ?_
  exact bJ1_canEncode_9a6ad_16 C O X (lv_sub hl [] rfl) hF
noncomputable def fJ1_canEncode_9a6ad_b11 (N : Nat) (S : gS) : Option (Int32 × gS) := fJ1_canEncode_9a6ad_b16 N 1 S
theorem bJ1_canEncode_9a6ad_11 {N : Nat} {S : gS} {H : Heap} {locs : List Loc} {ls : Array Slot} {o : Int32 × gS} (C : gC p s m args meth c cJ1_canEncode_9a6ad 1 RJ1 ((some .boolean)) D tys ord adr Am) (O : sO cell ord adr Am aK aV) (X : gX D cell ord adr S s H locs) (hl : lv_has ls 1 []) (hF : fJ1_canEncode_9a6ad_b11 N S = some o) : W p l e (rmd 0) s m args below meth c H locs 0 0 (gE below args s D tys cell ord adr (some (.int o.1)) o.2) (F0 m 11 ls []) := by
  unfold fJ1_canEncode_9a6ad_b11 at hF
  refine lv_iconst (v := 1) C.1.1 C.1.2.1 dJ1_canEncode_9a6ad_11 (by decide) ?_
  refine lv_goto (tgt := 16) C.1.1 C.1.2.1 dJ1_canEncode_9a6ad_12 (by decide) ?_
  exact bJ1_canEncode_9a6ad_16 C O X (lv_sub hl [] rfl) hF
noncomputable def fJ1_canEncode_9a6ad_b4 (N : Nat) (x0 : Int32) (S : gS) : Option (Int32 × gS) := if 255 < x0 then fJ1_canEncode_9a6ad_b15 N S else fJ1_canEncode_9a6ad_b11 N S
theorem bJ1_canEncode_9a6ad_4 {N : Nat} {x0 : Int32} {S : gS} {H : Heap} {locs : List Loc} {ls : Array Slot} {o : Int32 × gS} (C : gC p s m args meth c cJ1_canEncode_9a6ad 1 RJ1 ((some .boolean)) D tys ord adr Am) (O : sO cell ord adr Am aK aV) (X : gX D cell ord adr S s H locs) (hl : lv_has ls 1 [(0, .int x0)]) (hF : fJ1_canEncode_9a6ad_b4 N x0 S = some o) : W p l e (rmd 0) s m args below meth c H locs 0 0 (gE below args s D tys cell ord adr (some (.int o.1)) o.2) (F0 m 4 ls []) := by
  unfold fJ1_canEncode_9a6ad_b4 at hF
  refine lv_iload_n C.1.1 C.1.2.1 dJ1_canEncode_9a6ad_4 rfl (lv_at hl 0 rfl) ?_
  refine lv_sipush (v := 255) C.1.1 C.1.2.1 dJ1_canEncode_9a6ad_5 (by decide) ?_
  refine lv_icmp_gt (tgt := 15) C.1.1 C.1.2.1 dJ1_canEncode_9a6ad_8 (by decide) (fun h_z => ?_) (fun h_z => ?_)
  · rw [if_pos h_z] at hF
    exact bJ1_canEncode_9a6ad_15 C O X (lv_sub hl [] rfl) hF
  · rw [if_neg h_z] at hF
    exact bJ1_canEncode_9a6ad_11 C O X (lv_sub hl [] rfl) hF
noncomputable def fJ1_canEncode_9a6ad_b0 (N : Nat) (x0 : Int32) (S : gS) : Option (Int32 × gS) := if x0 < 0 then fJ1_canEncode_9a6ad_b15 N S else fJ1_canEncode_9a6ad_b4 N x0 S
theorem bJ1_canEncode_9a6ad_0 {N : Nat} {x0 : Int32} {S : gS} {H : Heap} {locs : List Loc} {ls : Array Slot} {o : Int32 × gS} (C : gC p s m args meth c cJ1_canEncode_9a6ad 1 RJ1 ((some .boolean)) D tys ord adr Am) (O : sO cell ord adr Am aK aV) (X : gX D cell ord adr S s H locs) (hl : lv_has ls 1 [(0, .int x0)]) (hF : fJ1_canEncode_9a6ad_b0 N x0 S = some o) : W p l e (rmd 0) s m args below meth c H locs 0 0 (gE below args s D tys cell ord adr (some (.int o.1)) o.2) (F0 m 0 ls []) := by
  unfold fJ1_canEncode_9a6ad_b0 at hF
  refine lv_iload_n C.1.1 C.1.2.1 dJ1_canEncode_9a6ad_0 rfl (lv_at hl 0 rfl) ?_
  refine lv_if_lt (tgt := 15) C.1.1 C.1.2.1 dJ1_canEncode_9a6ad_1 (by decide) (fun h_z => ?_) (fun h_z => ?_)
  · rw [if_pos h_z] at hF
    exact bJ1_canEncode_9a6ad_15 C O X (lv_sub hl [] rfl) hF
  · rw [if_neg h_z] at hF
    exact bJ1_canEncode_9a6ad_4 C O X (lv_sub hl [0] rfl) hF
noncomputable def fJ1_canEncode_9a6ad (N : Nat) (x0 : Int32) (S : gS) : Option (Int32 × gS) := fJ1_canEncode_9a6ad_b0 N x0 S
theorem kJ1_canEncode_9a6ad {l : Launch} {D : va_G} {tys : List (ClassId × FieldType)} {cell : gS → Nat → Nat × va_E} {ord : List Nat} {adr : Nat → Nat} {Am : (Nat → Prop) → State → Heap → Prop} {aK aV : Nat → Nat} (O : sO cell ord adr Am aK aV) (P : gAm Am) (N : Nat) (x0 : Int32) (S : gS) (o : Int32 × gS) (hF : fJ1_canEncode_9a6ad N x0 S = some o) : gM l yJ1_canEncode_9a6ad cJ1_canEncode_9a6ad 1 ((some .boolean)) 0 D tys cell ord adr Am [.int x0] S (some (.int o.1)) o.2 :=
  gM_of O.1 P (by decide) (Nat.le_of_ble_eq_true rfl) (fun p e s m args below meth c ls C X hl => bJ1_canEncode_9a6ad_0 C O X (lv_sub hl [0] rfl) hF)
-- J1.indexOfChar_4cfef
noncomputable def fJ1_indexOfChar_4cfef_b31 (N : Nat) (S : gS) : Option (Int32 × gS) := some ((-1), S)
theorem bJ1_indexOfChar_4cfef_31 {N : Nat} {S : gS} {H : Heap} {locs : List Loc} {ls : Array Slot} {o : Int32 × gS} (C : gC p s m args meth c cJ1_indexOfChar_4cfef 6 RJ1 ((some .int)) D tys ord adr Am) (O : sO cell ord adr Am aK aV) (X : gX D cell ord adr S s H locs) (hl : lv_has ls 6 []) (hF : fJ1_indexOfChar_4cfef_b31 N S = some o) : W p l e (rmd 0) s m args below meth c H locs 0 0 (gE below args s D tys cell ord adr (some (.int o.1)) o.2) (F0 m 31 ls []) := by
  unfold fJ1_indexOfChar_4cfef_b31 at hF
  refine lv_iconst (v := (-1)) C.1.1 C.1.2.1 dJ1_indexOfChar_4cfef_31 (by decide) ?_
  cases hF
  exact g_iret C X dJ1_indexOfChar_4cfef_32
noncomputable def fJ1_indexOfChar_4cfef_b25 (N : Nat) (r7 : Nat → Int32 → Int32 → Int32 → gS → Option (Int32 × gS)) (k0 : Nat) (x3 : Int32) (x4 : Int32) (x5 : Int32) (S : gS) : Option (Int32 × gS) := r7 k0 x3 x4 ((x5 + 1 : Int32)) S
theorem bJ1_indexOfChar_4cfef_25 {N : Nat} {r7 : Nat → Int32 → Int32 → Int32 → gS → Option (Int32 × gS)} {k0 : Nat} {x3 : Int32} {x4 : Int32} {x5 : Int32} {S : gS} {H : Heap} {locs : List Loc} {ls : Array Slot} {o : Int32 × gS} (C : gC p s m args meth c cJ1_indexOfChar_4cfef 6 RJ1 ((some .int)) D tys ord adr Am) (O : sO cell ord adr Am aK aV) (K7 : ∀ (k0 : Nat) (x3 : Int32) (x4 : Int32) (x5 : Int32) (hk_k0 : sI k0 = true) (S : gS) (H : Heap) (locs : List Loc) (ls : Array Slot), gX D cell ord adr S s H locs → lv_has ls 6 [(0, .ref (aV k0)), (3, .int x3), (4, .int x4), (5, .int x5)] → r7 k0 x3 x4 x5 S = some o → W p l e (rmd 0) s m args below meth c H locs 0 0 (gE below args s D tys cell ord adr (some (.int o.1)) o.2) (F0 m 7 ls [])) (hk_k0 : sI k0 = true) (X : gX D cell ord adr S s H locs) (hl : lv_has ls 6 [(0, .ref (aV k0)), (3, .int x3), (4, .int x4), (5, .int x5)]) (hF : fJ1_indexOfChar_4cfef_b25 N r7 k0 x3 x4 x5 S = some o) : W p l e (rmd 0) s m args below meth c H locs 0 0 (gE below args s D tys cell ord adr (some (.int o.1)) o.2) (F0 m 25 ls []) := by
  unfold fJ1_indexOfChar_4cfef_b25 at hF
  refine lv_iinc (v := (x5 + 1 : Int32)) (lv' := [(5, .int ((x5 + 1 : Int32))), (0, .ref (aV k0)), (3, .int x3), (4, .int x4)]) C.1.1 C.1.2.1 dJ1_indexOfChar_4cfef_25 hl (k := 3) rfl rfl (by decide) rfl (fun ls hl => ?_)
  refine lv_goto (tgt := 7) C.1.1 C.1.2.1 dJ1_indexOfChar_4cfef_28 (by decide) ?_
  exact K7 _ _ _ _ hk_k0 _ _ _ _ X (lv_sub hl [1, 2, 3, 0] rfl) hF
noncomputable def fJ1_indexOfChar_4cfef_b22 (N : Nat) (x5 : Int32) (S : gS) : Option (Int32 × gS) := some (x5, S)
theorem bJ1_indexOfChar_4cfef_22 {N : Nat} {x5 : Int32} {S : gS} {H : Heap} {locs : List Loc} {ls : Array Slot} {o : Int32 × gS} (C : gC p s m args meth c cJ1_indexOfChar_4cfef 6 RJ1 ((some .int)) D tys ord adr Am) (O : sO cell ord adr Am aK aV) (X : gX D cell ord adr S s H locs) (hl : lv_has ls 6 [(5, .int x5)]) (hF : fJ1_indexOfChar_4cfef_b22 N x5 S = some o) : W p l e (rmd 0) s m args below meth c H locs 0 0 (gE below args s D tys cell ord adr (some (.int o.1)) o.2) (F0 m 22 ls []) := by
  unfold fJ1_indexOfChar_4cfef_b22 at hF
  refine lv_iload C.1.1 C.1.2.1 dJ1_indexOfChar_4cfef_22 (lv_at hl 0 rfl) ?_
  cases hF
  exact g_iret C X dJ1_indexOfChar_4cfef_24
noncomputable def fJ1_indexOfChar_4cfef_b13 (N : Nat) (r7 : Nat → Int32 → Int32 → Int32 → gS → Option (Int32 × gS)) (k0 : Nat) (x3 : Int32) (x4 : Int32) (x5 : Int32) (S : gS) : Option (Int32 × gS) := chk (inb x5 (sLen k0)) (if (sByt k0 (Int32.toNatClampNeg x5)) = x4 then fJ1_indexOfChar_4cfef_b22 N x5 S else fJ1_indexOfChar_4cfef_b25 N r7 k0 x3 x4 x5 S)
theorem bJ1_indexOfChar_4cfef_13 {N : Nat} {r7 : Nat → Int32 → Int32 → Int32 → gS → Option (Int32 × gS)} {k0 : Nat} {x3 : Int32} {x4 : Int32} {x5 : Int32} {S : gS} {H : Heap} {locs : List Loc} {ls : Array Slot} {o : Int32 × gS} (C : gC p s m args meth c cJ1_indexOfChar_4cfef 6 RJ1 ((some .int)) D tys ord adr Am) (O : sO cell ord adr Am aK aV) (K7 : ∀ (k0 : Nat) (x3 : Int32) (x4 : Int32) (x5 : Int32) (hk_k0 : sI k0 = true) (S : gS) (H : Heap) (locs : List Loc) (ls : Array Slot), gX D cell ord adr S s H locs → lv_has ls 6 [(0, .ref (aV k0)), (3, .int x3), (4, .int x4), (5, .int x5)] → r7 k0 x3 x4 x5 S = some o → W p l e (rmd 0) s m args below meth c H locs 0 0 (gE below args s D tys cell ord adr (some (.int o.1)) o.2) (F0 m 7 ls [])) (hk_k0 : sI k0 = true) (X : gX D cell ord adr S s H locs) (hl : lv_has ls 6 [(0, .ref (aV k0)), (3, .int x3), (4, .int x4), (5, .int x5)]) (hF : fJ1_indexOfChar_4cfef_b13 N r7 k0 x3 x4 x5 S = some o) : W p l e (rmd 0) s m args below meth c H locs 0 0 (gE below args s D tys cell ord adr (some (.int o.1)) o.2) (F0 m 13 ls []) := by
  unfold fJ1_indexOfChar_4cfef_b13 at hF
  refine lv_aload_n C.1.1 C.1.2.1 dJ1_indexOfChar_4cfef_13 rfl (lv_at hl 0 rfl) ?_
  refine lv_iload C.1.1 C.1.2.1 dJ1_indexOfChar_4cfef_14 (lv_at hl 3 rfl) ?_
  obtain ⟨h_1, hF⟩ := chk_some hF
  refine s_byte C O X hk_k0 (inb_vp h_1) dJ1_indexOfChar_4cfef_16 ?_
  refine lv_iload C.1.1 C.1.2.1 dJ1_indexOfChar_4cfef_17 (lv_at hl 2 rfl) ?_
  refine lv_icmp_ne (tgt := 25) C.1.1 C.1.2.1 dJ1_indexOfChar_4cfef_19 (by decide) (fun h_z => ?_) (fun h_z => ?_)
  · rw [if_neg h_z] at hF
    exact bJ1_indexOfChar_4cfef_25 C O K7 hk_k0 X (lv_sub hl [0, 1, 2, 3] rfl) hF
  · rw [if_pos h_z] at hF
    exact bJ1_indexOfChar_4cfef_22 C O X (lv_sub hl [3] rfl) hF
noncomputable def fJ1_indexOfChar_4cfef_b7 (N : Nat) (r7 : Nat → Int32 → Int32 → Int32 → gS → Option (Int32 × gS)) (k0 : Nat) (x3 : Int32) (x4 : Int32) (x5 : Int32) (S : gS) : Option (Int32 × gS) := if x3 ≤ x5 then fJ1_indexOfChar_4cfef_b31 N S else fJ1_indexOfChar_4cfef_b13 N r7 k0 x3 x4 x5 S
theorem bJ1_indexOfChar_4cfef_7 {N : Nat} {r7 : Nat → Int32 → Int32 → Int32 → gS → Option (Int32 × gS)} {k0 : Nat} {x3 : Int32} {x4 : Int32} {x5 : Int32} {S : gS} {H : Heap} {locs : List Loc} {ls : Array Slot} {o : Int32 × gS} (C : gC p s m args meth c cJ1_indexOfChar_4cfef 6 RJ1 ((some .int)) D tys ord adr Am) (O : sO cell ord adr Am aK aV) (K7 : ∀ (k0 : Nat) (x3 : Int32) (x4 : Int32) (x5 : Int32) (hk_k0 : sI k0 = true) (S : gS) (H : Heap) (locs : List Loc) (ls : Array Slot), gX D cell ord adr S s H locs → lv_has ls 6 [(0, .ref (aV k0)), (3, .int x3), (4, .int x4), (5, .int x5)] → r7 k0 x3 x4 x5 S = some o → W p l e (rmd 0) s m args below meth c H locs 0 0 (gE below args s D tys cell ord adr (some (.int o.1)) o.2) (F0 m 7 ls [])) (hk_k0 : sI k0 = true) (X : gX D cell ord adr S s H locs) (hl : lv_has ls 6 [(0, .ref (aV k0)), (3, .int x3), (4, .int x4), (5, .int x5)]) (hF : fJ1_indexOfChar_4cfef_b7 N r7 k0 x3 x4 x5 S = some o) : W p l e (rmd 0) s m args below meth c H locs 0 0 (gE below args s D tys cell ord adr (some (.int o.1)) o.2) (F0 m 7 ls []) := by
  unfold fJ1_indexOfChar_4cfef_b7 at hF
  refine lv_iload C.1.1 C.1.2.1 dJ1_indexOfChar_4cfef_7 (lv_at hl 3 rfl) ?_
  refine lv_iload_n C.1.1 C.1.2.1 dJ1_indexOfChar_4cfef_9 rfl (lv_at hl 1 rfl) ?_
  refine lv_icmp_ge (tgt := 31) C.1.1 C.1.2.1 dJ1_indexOfChar_4cfef_10 (by decide) (fun h_z => ?_) (fun h_z => ?_)
  · rw [if_pos h_z] at hF
    exact bJ1_indexOfChar_4cfef_31 C O X (lv_sub hl [] rfl) hF
  · rw [if_neg h_z] at hF
    exact bJ1_indexOfChar_4cfef_13 C O K7 hk_k0 X (lv_sub hl [0, 1, 2, 3] rfl) hF
noncomputable def fJ1_indexOfChar_4cfef_h7 (N : Nat) : Nat → Nat → Int32 → Int32 → Int32 → gS → Option (Int32 × gS)
  | 0, _, _, _, _, _ => none
  | n + 1, k0, x3, x4, x5, S => fJ1_indexOfChar_4cfef_b7 N (fJ1_indexOfChar_4cfef_h7 N n) k0 x3 x4 x5 S
theorem hJ1_indexOfChar_4cfef_7 {N : Nat} {o : Int32 × gS} (C : gC p s m args meth c cJ1_indexOfChar_4cfef 6 RJ1 ((some .int)) D tys ord adr Am) (O : sO cell ord adr Am aK aV) : ∀ (n : Nat) (k0 : Nat) (x3 : Int32) (x4 : Int32) (x5 : Int32) (hk_k0 : sI k0 = true) (S : gS) (H : Heap) (locs : List Loc) (ls : Array Slot), gX D cell ord adr S s H locs → lv_has ls 6 [(0, .ref (aV k0)), (3, .int x3), (4, .int x4), (5, .int x5)] → fJ1_indexOfChar_4cfef_h7 N n k0 x3 x4 x5 S = some o → W p l e (rmd 0) s m args below meth c H locs 0 0 (gE below args s D tys cell ord adr (some (.int o.1)) o.2) (F0 m 7 ls []) := by
  intro n
  induction n with
  | zero =>
    intro k0 x3 x4 x5 hk_k0 S H locs ls X hl hF
    exact absurd (show (none : Option (Int32 × gS)) = some o from hF) (by simp)
  | succ n ih =>
    intro k0 x3 x4 x5 hk_k0 S H locs ls X hl hF
    have hF : fJ1_indexOfChar_4cfef_b7 N (fJ1_indexOfChar_4cfef_h7 N n) k0 x3 x4 x5 S = some o := hF
    exact bJ1_indexOfChar_4cfef_7 C O ih hk_k0 X hl hF
noncomputable def fJ1_indexOfChar_4cfef_b0 (N : Nat) (k0 : Nat) (x1 : Int32) (x2 : Int32) (x3 : Int32) (S : gS) : Option (Int32 × gS) := fJ1_indexOfChar_4cfef_h7 N N k0 x3 ((Int32.toInt8 x1).toInt32) x2 S
theorem bJ1_indexOfChar_4cfef_0 {N : Nat} {k0 : Nat} {x1 : Int32} {x2 : Int32} {x3 : Int32} {S : gS} {H : Heap} {locs : List Loc} {ls : Array Slot} {o : Int32 × gS} (C : gC p s m args meth c cJ1_indexOfChar_4cfef 6 RJ1 ((some .int)) D tys ord adr Am) (O : sO cell ord adr Am aK aV) (hk_k0 : sI k0 = true) (X : gX D cell ord adr S s H locs) (hl : lv_has ls 6 [(0, .ref (aV k0)), (1, .int x1), (2, .int x2), (3, .int x3)]) (hF : fJ1_indexOfChar_4cfef_b0 N k0 x1 x2 x3 S = some o) : W p l e (rmd 0) s m args below meth c H locs 0 0 (gE below args s D tys cell ord adr (some (.int o.1)) o.2) (F0 m 0 ls []) := by
  unfold fJ1_indexOfChar_4cfef_b0 at hF
  refine lv_iload_n C.1.1 C.1.2.1 dJ1_indexOfChar_4cfef_0 rfl (lv_at hl 1 rfl) ?_
  refine lv_i2b (v := (Int32.toInt8 x1).toInt32) C.1.1 C.1.2.1 dJ1_indexOfChar_4cfef_1 rfl ?_
  refine lv_istore (lv' := [(4, .int ((Int32.toInt8 x1).toInt32)), (0, .ref (aV k0)), (1, .int x1), (2, .int x2), (3, .int x3)]) C.1.1 C.1.2.1 dJ1_indexOfChar_4cfef_2 hl (by decide) rfl (fun ls hl => ?_)
  refine lv_iload_n C.1.1 C.1.2.1 dJ1_indexOfChar_4cfef_4 rfl (lv_at hl 3 rfl) ?_
  refine lv_istore (lv' := [(5, .int x2), (4, .int ((Int32.toInt8 x1).toInt32)), (0, .ref (aV k0)), (1, .int x1), (2, .int x2), (3, .int x3)]) C.1.1 C.1.2.1 dJ1_indexOfChar_4cfef_5 hl (by decide) rfl (fun ls hl => ?_)
  exact hJ1_indexOfChar_4cfef_7 C O N _ _ _ _ hk_k0 _ _ _ _ X (lv_sub hl [2, 5, 1, 0] rfl) hF
noncomputable def fJ1_indexOfChar_4cfef (N : Nat) (k0 : Nat) (x1 : Int32) (x2 : Int32) (x3 : Int32) (S : gS) : Option (Int32 × gS) := fJ1_indexOfChar_4cfef_b0 N k0 x1 x2 x3 S
theorem kJ1_indexOfChar_4cfef {l : Launch} {D : va_G} {tys : List (ClassId × FieldType)} {cell : gS → Nat → Nat × va_E} {ord : List Nat} {adr : Nat → Nat} {Am : (Nat → Prop) → State → Heap → Prop} {aK aV : Nat → Nat} (O : sO cell ord adr Am aK aV) (P : gAm Am) (N : Nat) (k0 : Nat) (x1 : Int32) (x2 : Int32) (x3 : Int32) (hk_k0 : sI k0 = true) (S : gS) (o : Int32 × gS) (hF : fJ1_indexOfChar_4cfef N k0 x1 x2 x3 S = some o) : gM l yJ1_indexOfChar_4cfef cJ1_indexOfChar_4cfef 6 ((some .int)) 0 D tys cell ord adr Am [.ref (aV k0), .int x1, .int x2, .int x3] S (some (.int o.1)) o.2 :=
  gM_of O.1 P (by decide) (Nat.le_of_ble_eq_true rfl) (fun p e s m args below meth c ls C X hl => bJ1_indexOfChar_4cfef_0 C O hk_k0 X (lv_sub hl [0, 1, 2, 3] rfl) hF)
-- J1.indexOf_4cfef
noncomputable def fJ1_indexOf_4cfef_b29 (N : Nat) (k0 : Nat) (x1 : Int32) (x2 : Int32) (x3 : Int32) (S : gS) : Option (Int32 × gS) := bnd (fJ1_indexOfChar_4cfef N k0 x1 x2 x3 S) fun q1 => (some (q1.1, q1.2))
theorem bJ1_indexOf_4cfef_29 {N : Nat} {k0 : Nat} {x1 : Int32} {x2 : Int32} {x3 : Int32} {S : gS} {H : Heap} {locs : List Loc} {ls : Array Slot} {o : Int32 × gS} (C : gC p s m args meth c cJ1_indexOf_4cfef 4 RJ1 ((some .int)) D tys ord adr Am) (O : sO cell ord adr Am aK aV) (hk_k0 : sI k0 = true) (X : gX D cell ord adr S s H locs) (hl : lv_has ls 4 [(0, .ref (aV k0)), (1, .int x1), (2, .int x2), (3, .int x3)]) (hF : fJ1_indexOf_4cfef_b29 N k0 x1 x2 x3 S = some o) : W p l e (rmd 1) s m args below meth c H locs 0 0 (gE below args s D tys cell ord adr (some (.int o.1)) o.2) (F0 m 29 ls []) := by
  unfold fJ1_indexOf_4cfef_b29 at hF
  refine lv_aload_n C.1.1 C.1.2.1 dJ1_indexOf_4cfef_29 rfl (lv_at hl 0 rfl) ?_
  refine lv_iload_n C.1.1 C.1.2.1 dJ1_indexOf_4cfef_30 rfl (lv_at hl 1 rfl) ?_
  refine lv_iload_n C.1.1 C.1.2.1 dJ1_indexOf_4cfef_31 rfl (lv_at hl 2 rfl) ?_
  refine lv_iload_n C.1.1 C.1.2.1 dJ1_indexOf_4cfef_32 rfl (lv_at hl 3 rfl) ?_
  obtain ⟨q1, hq1, hF⟩ := bnd_some hF
  refine g_callSi C X xv_J1_95 (kJ1_indexOfChar_4cfef O C.2.2.2.2.1 N k0 x1 x2 x3 hk_k0 S q1 hq1) (Nat.le_of_ble_eq_true rfl) (Nat.le_of_ble_eq_true rfl) (Nat.le_of_ble_eq_true rfl) (Nat.le_of_ble_eq_true rfl) rfl hl.1 rfl (Nat.le_of_ble_eq_true rfl) dJ1_indexOf_4cfef_33 (fun H locs X => ?_)
  cases hF
  exact g_iret C X dJ1_indexOf_4cfef_36
noncomputable def fJ1_indexOf_4cfef_b27 (N : Nat) (S : gS) : Option (Int32 × gS) := some ((-1), S)
theorem bJ1_indexOf_4cfef_27 {N : Nat} {S : gS} {H : Heap} {locs : List Loc} {ls : Array Slot} {o : Int32 × gS} (C : gC p s m args meth c cJ1_indexOf_4cfef 4 RJ1 ((some .int)) D tys ord adr Am) (O : sO cell ord adr Am aK aV) (X : gX D cell ord adr S s H locs) (hl : lv_has ls 4 []) (hF : fJ1_indexOf_4cfef_b27 N S = some o) : W p l e (rmd 1) s m args below meth c H locs 0 0 (gE below args s D tys cell ord adr (some (.int o.1)) o.2) (F0 m 27 ls []) := by
  unfold fJ1_indexOf_4cfef_b27 at hF
  refine lv_iconst (v := (-1)) C.1.1 C.1.2.1 dJ1_indexOf_4cfef_27 (by decide) ?_
  cases hF
  exact g_iret C X dJ1_indexOf_4cfef_28
noncomputable def fJ1_indexOf_4cfef_b9 (N : Nat) (k0 : Nat) (x1 : Int32) (x2 : Int32) (x3 : Int32) (S : gS) : Option (Int32 × gS) := if (if x2 < 0 then 0 else x2) < (if (Int32.ofNat (sLen k0)) < x3 then (Int32.ofNat (sLen k0)) else x3) then fJ1_indexOf_4cfef_b29 N k0 x1 (if x2 < 0 then 0 else x2) (if (Int32.ofNat (sLen k0)) < x3 then (Int32.ofNat (sLen k0)) else x3) S else fJ1_indexOf_4cfef_b27 N S
theorem bJ1_indexOf_4cfef_9 {N : Nat} {k0 : Nat} {x1 : Int32} {x2 : Int32} {x3 : Int32} {S : gS} {H : Heap} {locs : List Loc} {ls : Array Slot} {o : Int32 × gS} (C : gC p s m args meth c cJ1_indexOf_4cfef 4 RJ1 ((some .int)) D tys ord adr Am) (O : sO cell ord adr Am aK aV) (hk_k0 : sI k0 = true) (X : gX D cell ord adr S s H locs) (hl : lv_has ls 4 [(0, .ref (aV k0)), (1, .int x1), (2, .int x2), (3, .int x3)]) (hF : fJ1_indexOf_4cfef_b9 N k0 x1 x2 x3 S = some o) : W p l e (rmd 1) s m args below meth c H locs 0 0 (gE below args s D tys cell ord adr (some (.int o.1)) o.2) (F0 m 9 ls []) := by
  unfold fJ1_indexOf_4cfef_b9 at hF
  refine lv_iload_n C.1.1 C.1.2.1 dJ1_indexOf_4cfef_9 rfl (lv_at hl 2 rfl) ?_
  refine lv_iconst (v := 0) C.1.1 C.1.2.1 dJ1_indexOf_4cfef_10 (by decide) ?_
  refine g_max C hl.1 xMmax_J1_92 ⟨(Nat.le_of_ble_eq_true rfl), (Nat.le_of_ble_eq_true rfl)⟩ (Nat.le_of_ble_eq_true rfl) (Nat.le_of_ble_eq_true rfl) dJ1_indexOf_4cfef_11 ?_
  refine lv_istore_n (lv' := [(2, .int (if x2 < 0 then 0 else x2)), (0, .ref (aV k0)), (1, .int x1), (3, .int x3)]) C.1.1 C.1.2.1 dJ1_indexOf_4cfef_14 rfl hl (by decide) rfl (fun ls hl => ?_)
  refine lv_iload_n C.1.1 C.1.2.1 dJ1_indexOf_4cfef_15 rfl (lv_at hl 3 rfl) ?_
  refine lv_aload_n C.1.1 C.1.2.1 dJ1_indexOf_4cfef_16 rfl (lv_at hl 1 rfl) ?_
  refine s_len C O X hk_k0 dJ1_indexOf_4cfef_17 ?_
  refine g_min C hl.1 xMmin_J1_38 ⟨(Nat.le_of_ble_eq_true rfl), (Nat.le_of_ble_eq_true rfl)⟩ (Nat.le_of_ble_eq_true rfl) (Nat.le_of_ble_eq_true rfl) dJ1_indexOf_4cfef_18 ?_
  refine lv_istore_n (lv' := [(3, .int (if (Int32.ofNat (sLen k0)) < x3 then (Int32.ofNat (sLen k0)) else x3)), (2, .int (if x2 < 0 then 0 else x2)), (0, .ref (aV k0)), (1, .int x1)]) C.1.1 C.1.2.1 dJ1_indexOf_4cfef_21 rfl hl (by decide) rfl (fun ls hl => ?_)
  refine lv_iload_n C.1.1 C.1.2.1 dJ1_indexOf_4cfef_22 rfl (lv_at hl 1 rfl) ?_
  refine lv_iload_n C.1.1 C.1.2.1 dJ1_indexOf_4cfef_23 rfl (lv_at hl 0 rfl) ?_
  refine lv_icmp_lt (tgt := 29) C.1.1 C.1.2.1 dJ1_indexOf_4cfef_24 (by decide) (fun h_z => ?_) (fun h_z => ?_)
  · rw [if_pos h_z] at hF
    exact bJ1_indexOf_4cfef_29 C O hk_k0 X (lv_sub hl [2, 3, 1, 0] rfl) hF
  · rw [if_neg h_z] at hF
    exact bJ1_indexOf_4cfef_27 C O X (lv_sub hl [] rfl) hF
noncomputable def fJ1_indexOf_4cfef_b7 (N : Nat) (S : gS) : Option (Int32 × gS) := some ((-1), S)
theorem bJ1_indexOf_4cfef_7 {N : Nat} {S : gS} {H : Heap} {locs : List Loc} {ls : Array Slot} {o : Int32 × gS} (C : gC p s m args meth c cJ1_indexOf_4cfef 4 RJ1 ((some .int)) D tys ord adr Am) (O : sO cell ord adr Am aK aV) (X : gX D cell ord adr S s H locs) (hl : lv_has ls 4 []) (hF : fJ1_indexOf_4cfef_b7 N S = some o) : W p l e (rmd 1) s m args below meth c H locs 0 0 (gE below args s D tys cell ord adr (some (.int o.1)) o.2) (F0 m 7 ls []) := by
  unfold fJ1_indexOf_4cfef_b7 at hF
  refine lv_iconst (v := (-1)) C.1.1 C.1.2.1 dJ1_indexOf_4cfef_7 (by decide) ?_
  cases hF
  exact g_iret C X dJ1_indexOf_4cfef_8
noncomputable def fJ1_indexOf_4cfef_b0 (N : Nat) (k0 : Nat) (x1 : Int32) (x2 : Int32) (x3 : Int32) (S : gS) : Option (Int32 × gS) := bnd (fJ1_canEncode_9a6ad N x1 S) fun q1 => (if q1.1 = 0 then fJ1_indexOf_4cfef_b7 N q1.2 else fJ1_indexOf_4cfef_b9 N k0 x1 x2 x3 q1.2)
theorem bJ1_indexOf_4cfef_0 {N : Nat} {k0 : Nat} {x1 : Int32} {x2 : Int32} {x3 : Int32} {S : gS} {H : Heap} {locs : List Loc} {ls : Array Slot} {o : Int32 × gS} (C : gC p s m args meth c cJ1_indexOf_4cfef 4 RJ1 ((some .int)) D tys ord adr Am) (O : sO cell ord adr Am aK aV) (hk_k0 : sI k0 = true) (X : gX D cell ord adr S s H locs) (hl : lv_has ls 4 [(0, .ref (aV k0)), (1, .int x1), (2, .int x2), (3, .int x3)]) (hF : fJ1_indexOf_4cfef_b0 N k0 x1 x2 x3 S = some o) : W p l e (rmd 1) s m args below meth c H locs 0 0 (gE below args s D tys cell ord adr (some (.int o.1)) o.2) (F0 m 0 ls []) := by
  unfold fJ1_indexOf_4cfef_b0 at hF
  refine lv_iload_n C.1.1 C.1.2.1 dJ1_indexOf_4cfef_0 rfl (lv_at hl 1 rfl) ?_
  obtain ⟨q1, hq1, hF⟩ := bnd_some hF
  refine g_callSi C X xv_J1_88 (kJ1_canEncode_9a6ad O C.2.2.2.2.1 N x1 S q1 hq1) (Nat.le_of_ble_eq_true rfl) (Nat.le_of_ble_eq_true rfl) (Nat.le_of_ble_eq_true rfl) (Nat.le_of_ble_eq_true rfl) rfl hl.1 rfl (Nat.le_of_ble_eq_true rfl) dJ1_indexOf_4cfef_1 (fun H locs X => ?_)
  refine lv_if_ne (tgt := 9) C.1.1 C.1.2.1 dJ1_indexOf_4cfef_4 (by decide) (fun h_z => ?_) (fun h_z => ?_)
  · rw [if_neg h_z] at hF
    exact bJ1_indexOf_4cfef_9 C O hk_k0 X (lv_sub hl [0, 1, 2, 3] rfl) hF
  · rw [if_pos h_z] at hF
    exact bJ1_indexOf_4cfef_7 C O X (lv_sub hl [] rfl) hF
noncomputable def fJ1_indexOf_4cfef (N : Nat) (k0 : Nat) (x1 : Int32) (x2 : Int32) (x3 : Int32) (S : gS) : Option (Int32 × gS) := fJ1_indexOf_4cfef_b0 N k0 x1 x2 x3 S
theorem kJ1_indexOf_4cfef {l : Launch} {D : va_G} {tys : List (ClassId × FieldType)} {cell : gS → Nat → Nat × va_E} {ord : List Nat} {adr : Nat → Nat} {Am : (Nat → Prop) → State → Heap → Prop} {aK aV : Nat → Nat} (O : sO cell ord adr Am aK aV) (P : gAm Am) (N : Nat) (k0 : Nat) (x1 : Int32) (x2 : Int32) (x3 : Int32) (hk_k0 : sI k0 = true) (S : gS) (o : Int32 × gS) (hF : fJ1_indexOf_4cfef N k0 x1 x2 x3 S = some o) : gM l yJ1_indexOf_4cfef cJ1_indexOf_4cfef 4 ((some .int)) 1 D tys cell ord adr Am [.ref (aV k0), .int x1, .int x2, .int x3] S (some (.int o.1)) o.2 :=
  gM_of O.1 P (by decide) (Nat.le_of_ble_eq_true rfl) (fun p e s m args below meth c ls C X hl => bJ1_indexOf_4cfef_0 C O hk_k0 X (lv_sub hl [0, 1, 2, 3] rfl) hF)
-- J0.indexOf_7cf53
noncomputable def fJ0_indexOf_7cf53_b36 (N : Nat) (t0 : Int32) (S : gS) : Option (Int32 × gS) := some (t0, S)
theorem bJ0_indexOf_7cf53_36 {N : Nat} {t0 : Int32} {S : gS} {H : Heap} {locs : List Loc} {ls : Array Slot} {o : Int32 × gS} (C : gC p s m args meth c cJ0_indexOf_7cf53 3 RJ0 ((some .int)) D tys ord adr Am) (O : sO cell ord adr Am aK aV) (X : gX D cell ord adr S s H locs) (hl : lv_has ls 3 []) (hF : fJ0_indexOf_7cf53_b36 N t0 S = some o) : W p l e (rmd 2) s m args below meth c H locs 0 0 (gE below args s D tys cell ord adr (some (.int o.1)) o.2) (F0 m 36 ls [.int t0]) := by
  unfold fJ0_indexOf_7cf53_b36 at hF
  cases hF
  exact g_iret C X dJ0_indexOf_7cf53_36
noncomputable def fJ0_indexOf_7cf53_b23 (N : Nat) (S : gS) : Option (Int32 × gS) := none
theorem bJ0_indexOf_7cf53_23 {N : Nat} {S : gS} {H : Heap} {locs : List Loc} {ls : Array Slot} {o : Int32 × gS} (C : gC p s m args meth c cJ0_indexOf_7cf53 3 RJ0 ((some .int)) D tys ord adr Am) (O : sO cell ord adr Am aK aV) (X : gX D cell ord adr S s H locs) (hl : lv_has ls 3 []) (hF : fJ0_indexOf_7cf53_b23 N S = some o) : W p l e (rmd 2) s m args below meth c H locs 0 0 (gE below args s D tys cell ord adr (some (.int o.1)) o.2) (F0 m 23 ls []) := by
  unfold fJ0_indexOf_7cf53_b23 at hF
  exact absurd hF (by simp)
noncomputable def fJ0_indexOf_7cf53_b7 (N : Nat) (k0 : Nat) (x1 : Int32) (x2 : Int32) (S : gS) : Option (Int32 × gS) := bnd (fJ0_length_8abf5 N k0 S) fun q1 => (bnd (fJ1_indexOf_4cfef N k0 x1 x2 q1.1 q1.2) fun q2 => (fJ0_indexOf_7cf53_b36 N q2.1 q2.2))
theorem bJ0_indexOf_7cf53_7 {N : Nat} {k0 : Nat} {x1 : Int32} {x2 : Int32} {S : gS} {H : Heap} {locs : List Loc} {ls : Array Slot} {o : Int32 × gS} (C : gC p s m args meth c cJ0_indexOf_7cf53 3 RJ0 ((some .int)) D tys ord adr Am) (O : sO cell ord adr Am aK aV) (hk_k0 : sI k0 = true) (X : gX D cell ord adr S s H locs) (hl : lv_has ls 3 [(0, .ref (aK k0)), (1, .int x1), (2, .int x2)]) (hF : fJ0_indexOf_7cf53_b7 N k0 x1 x2 S = some o) : W p l e (rmd 2) s m args below meth c H locs 0 0 (gE below args s D tys cell ord adr (some (.int o.1)) o.2) (F0 m 7 ls []) := by
  unfold fJ0_indexOf_7cf53_b7 at hF
  refine lv_aload_n C.1.1 C.1.2.1 dJ0_indexOf_7cf53_7 rfl (lv_at hl 0 rfl) ?_
  refine s_value C O X hk_k0 xl_J0_9 dJ0_indexOf_7cf53_8 ?_
  refine lv_iload_n C.1.1 C.1.2.1 dJ0_indexOf_7cf53_11 rfl (lv_at hl 1 rfl) ?_
  refine lv_iload_n C.1.1 C.1.2.1 dJ0_indexOf_7cf53_12 rfl (lv_at hl 2 rfl) ?_
  refine lv_aload_n C.1.1 C.1.2.1 dJ0_indexOf_7cf53_13 rfl (lv_at hl 0 rfl) ?_
  obtain ⟨q1, hq1, hF⟩ := bnd_some hF
  refine s_callV C O X xv_J0_505 rfl hk_k0 (kJ0_length_8abf5 O C.2.2.2.2.1 N k0 hk_k0 S q1 hq1) (Nat.le_of_ble_eq_true rfl) (Nat.le_of_ble_eq_true rfl) (Nat.le_of_ble_eq_true rfl) (Nat.le_of_ble_eq_true rfl) rfl hl.1 rfl (Nat.le_of_ble_eq_true rfl) dJ0_indexOf_7cf53_14 (fun H locs X => ?_)
  obtain ⟨q2, hq2, hF⟩ := bnd_some hF
  refine g_callOi C X xv_J0_637 (kJ1_indexOf_4cfef O C.2.2.2.2.1 N k0 x1 x2 q1.1 hk_k0 q1.2 q2 hq2) (Nat.le_of_ble_eq_true rfl) (Nat.le_of_ble_eq_true rfl) (Nat.le_of_ble_eq_true rfl) (Nat.le_of_ble_eq_true rfl) rfl hl.1 rfl (Nat.le_of_ble_eq_true rfl) dJ0_indexOf_7cf53_17 (fun H locs X => ?_)
  refine lv_goto (tgt := 36) C.1.1 C.1.2.1 dJ0_indexOf_7cf53_20 (by decide) ?_
  exact bJ0_indexOf_7cf53_36 C O X (lv_sub hl [] rfl) hF
noncomputable def fJ0_indexOf_7cf53_b0 (N : Nat) (k0 : Nat) (x1 : Int32) (x2 : Int32) (S : gS) : Option (Int32 × gS) := bnd (fJ0_isLatin1_aae02 N k0 S) fun q1 => (if q1.1 = 0 then fJ0_indexOf_7cf53_b23 N q1.2 else fJ0_indexOf_7cf53_b7 N k0 x1 x2 q1.2)
theorem bJ0_indexOf_7cf53_0 {N : Nat} {k0 : Nat} {x1 : Int32} {x2 : Int32} {S : gS} {H : Heap} {locs : List Loc} {ls : Array Slot} {o : Int32 × gS} (C : gC p s m args meth c cJ0_indexOf_7cf53 3 RJ0 ((some .int)) D tys ord adr Am) (O : sO cell ord adr Am aK aV) (hk_k0 : sI k0 = true) (X : gX D cell ord adr S s H locs) (hl : lv_has ls 3 [(0, .ref (aK k0)), (1, .int x1), (2, .int x2)]) (hF : fJ0_indexOf_7cf53_b0 N k0 x1 x2 S = some o) : W p l e (rmd 2) s m args below meth c H locs 0 0 (gE below args s D tys cell ord adr (some (.int o.1)) o.2) (F0 m 0 ls []) := by
  unfold fJ0_indexOf_7cf53_b0 at hF
  refine lv_aload_n C.1.1 C.1.2.1 dJ0_indexOf_7cf53_0 rfl (lv_at hl 0 rfl) ?_
  obtain ⟨q1, hq1, hF⟩ := bnd_some hF
  refine s_callV C O X xv_J0_492 rfl hk_k0 (kJ0_isLatin1_aae02 O C.2.2.2.2.1 N k0 hk_k0 S q1 hq1) (Nat.le_of_ble_eq_true rfl) (Nat.le_of_ble_eq_true rfl) (Nat.le_of_ble_eq_true rfl) (Nat.le_of_ble_eq_true rfl) rfl hl.1 rfl (Nat.le_of_ble_eq_true rfl) dJ0_indexOf_7cf53_1 (fun H locs X => ?_)
  refine lv_if_eq (tgt := 23) C.1.1 C.1.2.1 dJ0_indexOf_7cf53_4 (by decide) (fun h_z => ?_) (fun h_z => ?_)
  · rw [if_pos h_z] at hF
    exact bJ0_indexOf_7cf53_23 C O X (lv_sub hl [] rfl) hF
  · rw [if_neg h_z] at hF
    exact bJ0_indexOf_7cf53_7 C O hk_k0 X (lv_sub hl [0, 1, 2] rfl) hF
noncomputable def fJ0_indexOf_7cf53 (N : Nat) (k0 : Nat) (x1 : Int32) (x2 : Int32) (S : gS) : Option (Int32 × gS) := fJ0_indexOf_7cf53_b0 N k0 x1 x2 S
theorem kJ0_indexOf_7cf53 {l : Launch} {D : va_G} {tys : List (ClassId × FieldType)} {cell : gS → Nat → Nat × va_E} {ord : List Nat} {adr : Nat → Nat} {Am : (Nat → Prop) → State → Heap → Prop} {aK aV : Nat → Nat} (O : sO cell ord adr Am aK aV) (P : gAm Am) (N : Nat) (k0 : Nat) (x1 : Int32) (x2 : Int32) (hk_k0 : sI k0 = true) (S : gS) (o : Int32 × gS) (hF : fJ0_indexOf_7cf53 N k0 x1 x2 S = some o) : gM l yJ0_indexOf_7cf53 cJ0_indexOf_7cf53 3 ((some .int)) 2 D tys cell ord adr Am [.ref (aK k0), .int x1, .int x2] S (some (.int o.1)) o.2 :=
  gM_of O.1 P (by decide) (Nat.le_of_ble_eq_true rfl) (fun p e s m args below meth c ls C X hl => bJ0_indexOf_7cf53_0 C O hk_k0 X (lv_sub hl [0, 1, 2] rfl) hF)
-- J0.indexOf_0f7a4
noncomputable def fJ0_indexOf_0f7a4_b0 (N : Nat) (k0 : Nat) (x1 : Int32) (S : gS) : Option (Int32 × gS) := bnd (fJ0_indexOf_7cf53 N k0 x1 0 S) fun q1 => (some (q1.1, q1.2))
theorem bJ0_indexOf_0f7a4_0 {N : Nat} {k0 : Nat} {x1 : Int32} {S : gS} {H : Heap} {locs : List Loc} {ls : Array Slot} {o : Int32 × gS} (C : gC p s m args meth c cJ0_indexOf_0f7a4 2 RJ0 ((some .int)) D tys ord adr Am) (O : sO cell ord adr Am aK aV) (hk_k0 : sI k0 = true) (X : gX D cell ord adr S s H locs) (hl : lv_has ls 2 [(0, .ref (aK k0)), (1, .int x1)]) (hF : fJ0_indexOf_0f7a4_b0 N k0 x1 S = some o) : W p l e (rmd 3) s m args below meth c H locs 0 0 (gE below args s D tys cell ord adr (some (.int o.1)) o.2) (F0 m 0 ls []) := by
  unfold fJ0_indexOf_0f7a4_b0 at hF
  refine lv_aload_n C.1.1 C.1.2.1 dJ0_indexOf_0f7a4_0 rfl (lv_at hl 0 rfl) ?_
  refine lv_iload_n C.1.1 C.1.2.1 dJ0_indexOf_0f7a4_1 rfl (lv_at hl 1 rfl) ?_
  refine lv_iconst (v := 0) C.1.1 C.1.2.1 dJ0_indexOf_0f7a4_2 (by decide) ?_
  obtain ⟨q1, hq1, hF⟩ := bnd_some hF
  refine s_callV C O X xv_J0_633 rfl hk_k0 (kJ0_indexOf_7cf53 O C.2.2.2.2.1 N k0 x1 0 hk_k0 S q1 hq1) (Nat.le_of_ble_eq_true rfl) (Nat.le_of_ble_eq_true rfl) (Nat.le_of_ble_eq_true rfl) (Nat.le_of_ble_eq_true rfl) rfl hl.1 rfl (Nat.le_of_ble_eq_true rfl) dJ0_indexOf_0f7a4_3 (fun H locs X => ?_)
  cases hF
  exact g_iret C X dJ0_indexOf_0f7a4_6
noncomputable def fJ0_indexOf_0f7a4 (N : Nat) (k0 : Nat) (x1 : Int32) (S : gS) : Option (Int32 × gS) := fJ0_indexOf_0f7a4_b0 N k0 x1 S
theorem kJ0_indexOf_0f7a4 {l : Launch} {D : va_G} {tys : List (ClassId × FieldType)} {cell : gS → Nat → Nat × va_E} {ord : List Nat} {adr : Nat → Nat} {Am : (Nat → Prop) → State → Heap → Prop} {aK aV : Nat → Nat} (O : sO cell ord adr Am aK aV) (P : gAm Am) (N : Nat) (k0 : Nat) (x1 : Int32) (hk_k0 : sI k0 = true) (S : gS) (o : Int32 × gS) (hF : fJ0_indexOf_0f7a4 N k0 x1 S = some o) : gM l yJ0_indexOf_0f7a4 cJ0_indexOf_0f7a4 2 ((some .int)) 3 D tys cell ord adr Am [.ref (aK k0), .int x1] S (some (.int o.1)) o.2 :=
  gM_of O.1 P (by decide) (Nat.le_of_ble_eq_true rfl) (fun p e s m args below meth c ls C X hl => bJ0_indexOf_0f7a4_0 C O hk_k0 X (lv_sub hl [0, 1] rfl) hF)
end
end

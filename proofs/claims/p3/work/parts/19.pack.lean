/-! part 15.ms -/
section
/-! THE REFERENCE'S TEXTS AND EXPRESSIONS (printed by wip/whole/mkms.py) -/
noncomputable def mS (k j : Nat) : Nat := match k with
  | 0 => ([28, 29] : List Nat).getD j 0
  | 1 => ([30, 31, 32, 33, 34, 35] : List Nat).getD j 0
  | _ => ([30, 31, 32, 33, 34, 35, 36] : List Nat).getD j 0
noncomputable def msa (aK : Nat → Nat) (k j : Nat) : Option Nat := if j < mN k then some (aK (mS k j)) else none
noncomputable def mT (k : Nat) : Bool := decide (k < 3)
noncomputable def mV (k : Nat) : Bool := decide (k = 1 ∨ k = 2)
theorem mvT {x : Int32} : mT (if x = 0 then 1 else 2) = true := by
  split <;> rfl
theorem m_cT (g : Nat → Nat) (cI cS : ClassId) (sa : Nat → Nat → Option Nat) (S : gS) {k : Nat} (h : mT k = true) : mcell g cI cS sa S k = (g k, .inl (cS, mN k, .inr (.inr (.inr (.inr (sa k)))))) := by
  have h1 : k < 3 := of_decide_eq_true h
  have h2 : k = 0 ∨ k = 1 ∨ k = 2 := by omega
  rcases h2 with rfl | rfl | rfl <;> rfl
theorem m_posT {k : Nat} (h : mT k = true) : ∃ q : Nat, mord[q]? = some k := by
  have h1 : k < 3 := of_decide_eq_true h
  have h2 : k = 0 ∨ k = 1 ∨ k = 2 := by omega
  rcases h2 with rfl | rfl | rfl
  · exact ⟨38, rfl⟩
  · exact ⟨39, rfl⟩
  · exact ⟨40, rfl⟩
section MSROWS
variable {p : Program} {l : Launch} {e : Env} {R : Room} {s : State} {m : MethodId} {args : Array Value} {below : List Frame} {meth : Method} {c : Code} {H : Heap} {locs : List Loc} {cs sl : Nat} {Q : State → Prop} {Am : (Nat → Prop) → State → Heap → Prop} {cc : ByteArray} {nL pc : Nat} {ret : Option FieldType} {D : va_G} {g : Nat → Nat} {cI cS : ClassId} {sa : Nat → Nat → Option Nat} {S S' : gS} {ls : Array Slot} {rest : List Value} {aK : Nat → Nat}
theorem m_aald (C : gC p s m args meth c cc nL RX12 ret D (mtys cI cS) mord g Am) (X : gX D (mcell g cI cS (msa aK)) mord g S s H locs) {k : Nat} (hk : mT k = true) {i : Int32} (hin : vp_in i (mN k)) (hdg : decode cc pc = .ok (.aaload, 1)) (kk : W p l e R s m args below meth c H locs cs sl Q (F0 m (pc + 1) ls (.ref (aK (mS k i.toNatClampNeg)) :: rest))) : W p l e R s m args below meth c H locs cs sl Q (F0 m pc ls (.int i :: .ref (g k) :: rest)) := by
  obtain ⟨q, hq⟩ := m_posT hk
  have hlt : i.toNatClampNeg < mN k := Nat.not_le.mp fun q => hin (Or.inr q)
  refine va_aldq C.1.1 C.1.2.1 C.2.1 X.1 q 1 (gw_get hq (m_cT g cI cS (msa aK) S hk)) rfl hin hdg ?_
  have h : va_rf (msa aK k i.toNatClampNeg) = .ref (aK (mS k i.toNatClampNeg)) := by
    unfold msa
    rw [if_pos hlt]
    rfl
  rw [h]
  exact kk
theorem m_lT (C : gC p s m args meth c cc nL RX12 ret D (mtys cI cS) mord g Am) (X : gX D (mcell g cI cS sa) mord g S s H locs) {k : Nat} (hk : mT k = true) {x : Int32} (hx : Int32.ofNat (mN k) = x) (hdg : decode cc pc = .ok (.arraylength, 1)) (kk : W p l e R s m args below meth c H locs cs sl Q (F0 m (pc + 1) ls (.int x :: rest))) : W p l e R s m args below meth c H locs cs sl Q (F0 m pc ls (.ref (g k) :: rest)) := by
  obtain ⟨q, hq⟩ := m_posT hk
  exact g_alen C X hq (m_cT g cI cS sa S hk) (t0 := 1) rfl hx hdg kk
theorem m_p3 (C : gC p s m args meth c cc nL RX12 ret D (mtys cI cS) mord g Am) (O : gO (mcell g cI cS sa) mord g) (X : gX D (mcell g cI cS sa) mord g S s H locs) {k : Nat} (hk : mV k = true) (hS : S' = sU S 99 3 (if k = 1 then 0 else 1)) (hdg : decode cc pc = .ok (.putfield 39, 3)) (kk : ∀ (H1 : Heap) (locs1 : List Loc), gX D (mcell g cI cS sa) mord g S' s H1 locs1 → W p l e R s m args below meth c H1 locs1 cs sl Q (F0 m (pc + 3) ls rest)) : W p l e R s m args below meth c H locs cs sl Q (F0 m pc ls (.ref (g k) :: .ref (g 99) :: rest)) := by
  subst hS
  have h1 : k = 1 ∨ k = 2 := of_decide_eq_true hk
  rcases h1 with rfl | rfl
  · exact g_put C O X (q := 0) (k := 99) rfl (m_c99 g cI cS sa S) (ci := 12) rfl m_in tyX12 tyX12_ok nmX12 3 (by decide) m_l3 rfl rfl rfl (Nat.le_of_ble_eq_true rfl) (fun i h => sU_ne h) rfl hdg kk
  · exact g_put C O X (q := 0) (k := 99) rfl (m_c99 g cI cS sa S) (ci := 12) rfl m_in tyX12 tyX12_ok nmX12 3 (by decide) m_l3 rfl rfl rfl (Nat.le_of_ble_eq_true rfl) (fun i h => sU_ne h) rfl hdg kk
end MSROWS
section
variable {p : Program} {l : Launch} {e : Env} {s : State} {m : MethodId} {args : Array Value} {below : List Frame} {meth : Method} {c : Code} {D : va_G} {g : Nat → Nat} {cI cS : ClassId} {Am : (Nat → Prop) → State → Heap → Prop} {aK aV : Nat → Nat}
-- is
noncomputable def fX12_is_b82 (N : Nat) (x2 : Int32) (S : gS) : Option (Int32 × gS) := chk (zb x2) (some (x2, S))
theorem bX12_is_82 {N : Nat} {x2 : Int32} {S : gS} {H : Heap} {locs : List Loc} {ls : Array Slot} {o : Int32 × gS} (C : gC p s m args meth c cX12_is 4 RX12 ((some .boolean)) D (mtys cI cS) mord g Am) (O : sO (mcell g cI cS (msa aK)) mord g Am aK aV) (X : gX D (mcell g cI cS (msa aK)) mord g S s H locs) (hl : lv_has ls 4 [(2, .int x2)]) (hF : fX12_is_b82 N x2 S = some o) : W p l e (rmd 4) s m args below meth c H locs 0 0 (gE below args s D (mtys cI cS) (mcell g cI cS (msa aK)) mord g (some (.int o.1)) o.2) (F0 m 82 ls []) := by
  unfold fX12_is_b82 at hF
  refine lv_iload_n C.1.1 C.1.2.1 dX12_is_82 rfl (lv_at hl 0 rfl) ?_
  obtain ⟨h_1, hF⟩ := chk_some hF
  cases hF
  exact g_zret C X h_1 dX12_is_83
noncomputable def fX12_is_b75 (N : Nat) (r39 : Nat → Int32 → Int32 → gS → Option (Int32 × gS)) (k1 : Nat) (x3 : Int32) (t0 : Int32) (S : gS) : Option (Int32 × gS) := r39 k1 t0 ((x3 + 1 : Int32)) S
theorem bX12_is_75 {N : Nat} {r39 : Nat → Int32 → Int32 → gS → Option (Int32 × gS)} {k1 : Nat} {x3 : Int32} {t0 : Int32} {S : gS} {H : Heap} {locs : List Loc} {ls : Array Slot} {o : Int32 × gS} (C : gC p s m args meth c cX12_is 4 RX12 ((some .boolean)) D (mtys cI cS) mord g Am) (O : sO (mcell g cI cS (msa aK)) mord g Am aK aV) (K39 : ∀ (k1 : Nat) (x2 : Int32) (x3 : Int32) (hk_k1 : sI k1 = true) (S : gS) (H : Heap) (locs : List Loc) (ls : Array Slot), gX D (mcell g cI cS (msa aK)) mord g S s H locs → lv_has ls 4 [(0, .ref (g 99)), (1, .ref (aK k1)), (2, .int x2), (3, .int x3)] → r39 k1 x2 x3 S = some o → W p l e (rmd 4) s m args below meth c H locs 0 0 (gE below args s D (mtys cI cS) (mcell g cI cS (msa aK)) mord g (some (.int o.1)) o.2) (F0 m 39 ls [])) (hk_k1 : sI k1 = true) (X : gX D (mcell g cI cS (msa aK)) mord g S s H locs) (hl : lv_has ls 4 [(0, .ref (g 99)), (1, .ref (aK k1)), (3, .int x3)]) (hF : fX12_is_b75 N r39 k1 x3 t0 S = some o) : W p l e (rmd 4) s m args below meth c H locs 0 0 (gE below args s D (mtys cI cS) (mcell g cI cS (msa aK)) mord g (some (.int o.1)) o.2) (F0 m 75 ls [.int t0]) := by
  unfold fX12_is_b75 at hF
  refine lv_istore_n (lv' := [(2, .int t0), (0, .ref (g 99)), (1, .ref (aK k1)), (3, .int x3)]) C.1.1 C.1.2.1 dX12_is_75 rfl hl (by decide) rfl (fun ls hl => ?_)
  refine lv_iinc (v := (x3 + 1 : Int32)) (lv' := [(3, .int ((x3 + 1 : Int32))), (2, .int t0), (0, .ref (g 99)), (1, .ref (aK k1))]) C.1.1 C.1.2.1 dX12_is_76 hl (k := 3) rfl rfl (by decide) rfl (fun ls hl => ?_)
  refine lv_goto (tgt := 39) C.1.1 C.1.2.1 dX12_is_79 (by decide) ?_
  exact K39 _ _ _ hk_k1 _ _ _ _ X (lv_sub hl [2, 3, 1, 0] rfl) hF
noncomputable def fX12_is_b74 (N : Nat) (r39 : Nat → Int32 → Int32 → gS → Option (Int32 × gS)) (k1 : Nat) (x3 : Int32) (S : gS) : Option (Int32 × gS) := fX12_is_b75 N r39 k1 x3 0 S
theorem bX12_is_74 {N : Nat} {r39 : Nat → Int32 → Int32 → gS → Option (Int32 × gS)} {k1 : Nat} {x3 : Int32} {S : gS} {H : Heap} {locs : List Loc} {ls : Array Slot} {o : Int32 × gS} (C : gC p s m args meth c cX12_is 4 RX12 ((some .boolean)) D (mtys cI cS) mord g Am) (O : sO (mcell g cI cS (msa aK)) mord g Am aK aV) (K39 : ∀ (k1 : Nat) (x2 : Int32) (x3 : Int32) (hk_k1 : sI k1 = true) (S : gS) (H : Heap) (locs : List Loc) (ls : Array Slot), gX D (mcell g cI cS (msa aK)) mord g S s H locs → lv_has ls 4 [(0, .ref (g 99)), (1, .ref (aK k1)), (2, .int x2), (3, .int x3)] → r39 k1 x2 x3 S = some o → W p l e (rmd 4) s m args below meth c H locs 0 0 (gE below args s D (mtys cI cS) (mcell g cI cS (msa aK)) mord g (some (.int o.1)) o.2) (F0 m 39 ls [])) (hk_k1 : sI k1 = true) (X : gX D (mcell g cI cS (msa aK)) mord g S s H locs) (hl : lv_has ls 4 [(0, .ref (g 99)), (1, .ref (aK k1)), (3, .int x3)]) (hF : fX12_is_b74 N r39 k1 x3 S = some o) : W p l e (rmd 4) s m args below meth c H locs 0 0 (gE below args s D (mtys cI cS) (mcell g cI cS (msa aK)) mord g (some (.int o.1)) o.2) (F0 m 74 ls []) := by
  unfold fX12_is_b74 at hF
  refine lv_iconst (v := 0) C.1.1 C.1.2.1 dX12_is_74 (by decide) ?_
  exact bX12_is_75 C O K39 hk_k1 X (lv_sub hl [0, 1, 2] rfl) hF
noncomputable def fX12_is_b70 (N : Nat) (r39 : Nat → Int32 → Int32 → gS → Option (Int32 × gS)) (k1 : Nat) (x3 : Int32) (S : gS) : Option (Int32 × gS) := fX12_is_b75 N r39 k1 x3 1 S
theorem bX12_is_70 {N : Nat} {r39 : Nat → Int32 → Int32 → gS → Option (Int32 × gS)} {k1 : Nat} {x3 : Int32} {S : gS} {H : Heap} {locs : List Loc} {ls : Array Slot} {o : Int32 × gS} (C : gC p s m args meth c cX12_is 4 RX12 ((some .boolean)) D (mtys cI cS) mord g Am) (O : sO (mcell g cI cS (msa aK)) mord g Am aK aV) (K39 : ∀ (k1 : Nat) (x2 : Int32) (x3 : Int32) (hk_k1 : sI k1 = true) (S : gS) (H : Heap) (locs : List Loc) (ls : Array Slot), gX D (mcell g cI cS (msa aK)) mord g S s H locs → lv_has ls 4 [(0, .ref (g 99)), (1, .ref (aK k1)), (2, .int x2), (3, .int x3)] → r39 k1 x2 x3 S = some o → W p l e (rmd 4) s m args below meth c H locs 0 0 (gE below args s D (mtys cI cS) (mcell g cI cS (msa aK)) mord g (some (.int o.1)) o.2) (F0 m 39 ls [])) (hk_k1 : sI k1 = true) (X : gX D (mcell g cI cS (msa aK)) mord g S s H locs) (hl : lv_has ls 4 [(0, .ref (g 99)), (1, .ref (aK k1)), (3, .int x3)]) (hF : fX12_is_b70 N r39 k1 x3 S = some o) : W p l e (rmd 4) s m args below meth c H locs 0 0 (gE below args s D (mtys cI cS) (mcell g cI cS (msa aK)) mord g (some (.int o.1)) o.2) (F0 m 70 ls []) := by
  unfold fX12_is_b70 at hF
  refine lv_iconst (v := 1) C.1.1 C.1.2.1 dX12_is_70 (by decide) ?_
  refine lv_goto (tgt := 75) C.1.1 C.1.2.1 dX12_is_71 (by decide) ?_
  exact bX12_is_75 C O K39 hk_k1 X (lv_sub hl [0, 1, 2] rfl) hF
noncomputable def fX12_is_b51 (N : Nat) (r39 : Nat → Int32 → Int32 → gS → Option (Int32 × gS)) (k1 : Nat) (x3 : Int32) (S : gS) : Option (Int32 × gS) := bnd (fJ0_charAt_5068e N k1 x3 S) fun q1 => (chk (inb (((q1.2 99 25) + x3 : Int32)) (700)) (if q1.1 = (q1.2 19 (Int32.toNatClampNeg (((q1.2 99 25) + x3 : Int32)))) then fX12_is_b70 N r39 k1 x3 q1.2 else fX12_is_b74 N r39 k1 x3 q1.2))
theorem bX12_is_51 {N : Nat} {r39 : Nat → Int32 → Int32 → gS → Option (Int32 × gS)} {k1 : Nat} {x3 : Int32} {S : gS} {H : Heap} {locs : List Loc} {ls : Array Slot} {o : Int32 × gS} (C : gC p s m args meth c cX12_is 4 RX12 ((some .boolean)) D (mtys cI cS) mord g Am) (O : sO (mcell g cI cS (msa aK)) mord g Am aK aV) (K39 : ∀ (k1 : Nat) (x2 : Int32) (x3 : Int32) (hk_k1 : sI k1 = true) (S : gS) (H : Heap) (locs : List Loc) (ls : Array Slot), gX D (mcell g cI cS (msa aK)) mord g S s H locs → lv_has ls 4 [(0, .ref (g 99)), (1, .ref (aK k1)), (2, .int x2), (3, .int x3)] → r39 k1 x2 x3 S = some o → W p l e (rmd 4) s m args below meth c H locs 0 0 (gE below args s D (mtys cI cS) (mcell g cI cS (msa aK)) mord g (some (.int o.1)) o.2) (F0 m 39 ls [])) (hk_k1 : sI k1 = true) (X : gX D (mcell g cI cS (msa aK)) mord g S s H locs) (hl : lv_has ls 4 [(0, .ref (g 99)), (1, .ref (aK k1)), (3, .int x3)]) (hF : fX12_is_b51 N r39 k1 x3 S = some o) : W p l e (rmd 4) s m args below meth c H locs 0 0 (gE below args s D (mtys cI cS) (mcell g cI cS (msa aK)) mord g (some (.int o.1)) o.2) (F0 m 51 ls []) := by
  unfold fX12_is_b51 at hF
  refine lv_aload_n C.1.1 C.1.2.1 dX12_is_51 rfl (lv_at hl 1 rfl) ?_
  refine lv_iload_n C.1.1 C.1.2.1 dX12_is_52 rfl (lv_at hl 2 rfl) ?_
  obtain ⟨q1, hq1, hF⟩ := bnd_some hF
  refine s_callV C O X xv_X12_214 rfl hk_k1 (kJ0_charAt_5068e O C.2.2.2.2.1 N k1 x3 hk_k1 S q1 hq1) (Nat.le_of_ble_eq_true rfl) (Nat.le_of_ble_eq_true rfl) (Nat.le_of_ble_eq_true rfl) (Nat.le_of_ble_eq_true rfl) rfl hl.1 rfl (Nat.le_of_ble_eq_true rfl) dX12_is_53 (fun H locs X => ?_)
  refine lv_aload_n C.1.1 C.1.2.1 dX12_is_56 rfl (lv_at hl 0 rfl) ?_
  refine m_g19 C X dX12_is_57 ?_
  refine lv_aload_n C.1.1 C.1.2.1 dX12_is_60 rfl (lv_at hl 0 rfl) ?_
  refine m_g25 C X dX12_is_61 ?_
  refine lv_iload_n C.1.1 C.1.2.1 dX12_is_64 rfl (lv_at hl 2 rfl) ?_
  refine lv_iadd C.1.1 C.1.2.1 dX12_is_65 ?_
  obtain ⟨h_1, hF⟩ := chk_some hF
  refine m_r19 C X  (inb_vp h_1) rfl dX12_is_66 ?_
  refine lv_icmp_ne (tgt := 74) C.1.1 C.1.2.1 dX12_is_67 (by decide) (fun h_z => ?_) (fun h_z => ?_)
  · rw [if_neg h_z] at hF
    exact bX12_is_74 C O K39 hk_k1 X (lv_sub hl [0, 1, 2] rfl) hF
  · rw [if_pos h_z] at hF
    exact bX12_is_70 C O K39 hk_k1 X (lv_sub hl [0, 1, 2] rfl) hF
noncomputable def fX12_is_b43 (N : Nat) (r39 : Nat → Int32 → Int32 → gS → Option (Int32 × gS)) (k1 : Nat) (x2 : Int32) (x3 : Int32) (S : gS) : Option (Int32 × gS) := bnd (fJ0_length_8abf5 N k1 S) fun q1 => (if q1.1 ≤ x3 then fX12_is_b82 N x2 q1.2 else fX12_is_b51 N r39 k1 x3 q1.2)
theorem bX12_is_43 {N : Nat} {r39 : Nat → Int32 → Int32 → gS → Option (Int32 × gS)} {k1 : Nat} {x2 : Int32} {x3 : Int32} {S : gS} {H : Heap} {locs : List Loc} {ls : Array Slot} {o : Int32 × gS} (C : gC p s m args meth c cX12_is 4 RX12 ((some .boolean)) D (mtys cI cS) mord g Am) (O : sO (mcell g cI cS (msa aK)) mord g Am aK aV) (K39 : ∀ (k1 : Nat) (x2 : Int32) (x3 : Int32) (hk_k1 : sI k1 = true) (S : gS) (H : Heap) (locs : List Loc) (ls : Array Slot), gX D (mcell g cI cS (msa aK)) mord g S s H locs → lv_has ls 4 [(0, .ref (g 99)), (1, .ref (aK k1)), (2, .int x2), (3, .int x3)] → r39 k1 x2 x3 S = some o → W p l e (rmd 4) s m args below meth c H locs 0 0 (gE below args s D (mtys cI cS) (mcell g cI cS (msa aK)) mord g (some (.int o.1)) o.2) (F0 m 39 ls [])) (hk_k1 : sI k1 = true) (X : gX D (mcell g cI cS (msa aK)) mord g S s H locs) (hl : lv_has ls 4 [(0, .ref (g 99)), (1, .ref (aK k1)), (2, .int x2), (3, .int x3)]) (hF : fX12_is_b43 N r39 k1 x2 x3 S = some o) : W p l e (rmd 4) s m args below meth c H locs 0 0 (gE below args s D (mtys cI cS) (mcell g cI cS (msa aK)) mord g (some (.int o.1)) o.2) (F0 m 43 ls []) := by
  unfold fX12_is_b43 at hF
  refine lv_iload_n C.1.1 C.1.2.1 dX12_is_43 rfl (lv_at hl 3 rfl) ?_
  refine lv_aload_n C.1.1 C.1.2.1 dX12_is_44 rfl (lv_at hl 1 rfl) ?_
  obtain ⟨q1, hq1, hF⟩ := bnd_some hF
  refine s_callV C O X xv_X12_210 rfl hk_k1 (kJ0_length_8abf5 O C.2.2.2.2.1 N k1 hk_k1 S q1 hq1) (Nat.le_of_ble_eq_true rfl) (Nat.le_of_ble_eq_true rfl) (Nat.le_of_ble_eq_true rfl) (Nat.le_of_ble_eq_true rfl) rfl hl.1 rfl (Nat.le_of_ble_eq_true rfl) dX12_is_45 (fun H locs X => ?_)
  refine lv_icmp_ge (tgt := 82) C.1.1 C.1.2.1 dX12_is_48 (by decide) (fun h_z => ?_) (fun h_z => ?_)
  · rw [if_pos h_z] at hF
    exact bX12_is_82 C O X (lv_sub hl [2] rfl) hF
  · rw [if_neg h_z] at hF
    exact bX12_is_51 C O K39 hk_k1 X (lv_sub hl [0, 1, 3] rfl) hF
noncomputable def fX12_is_b39 (N : Nat) (r39 : Nat → Int32 → Int32 → gS → Option (Int32 × gS)) (k1 : Nat) (x2 : Int32) (x3 : Int32) (S : gS) : Option (Int32 × gS) := if x2 = 0 then fX12_is_b82 N x2 S else fX12_is_b43 N r39 k1 x2 x3 S
theorem bX12_is_39 {N : Nat} {r39 : Nat → Int32 → Int32 → gS → Option (Int32 × gS)} {k1 : Nat} {x2 : Int32} {x3 : Int32} {S : gS} {H : Heap} {locs : List Loc} {ls : Array Slot} {o : Int32 × gS} (C : gC p s m args meth c cX12_is 4 RX12 ((some .boolean)) D (mtys cI cS) mord g Am) (O : sO (mcell g cI cS (msa aK)) mord g Am aK aV) (K39 : ∀ (k1 : Nat) (x2 : Int32) (x3 : Int32) (hk_k1 : sI k1 = true) (S : gS) (H : Heap) (locs : List Loc) (ls : Array Slot), gX D (mcell g cI cS (msa aK)) mord g S s H locs → lv_has ls 4 [(0, .ref (g 99)), (1, .ref (aK k1)), (2, .int x2), (3, .int x3)] → r39 k1 x2 x3 S = some o → W p l e (rmd 4) s m args below meth c H locs 0 0 (gE below args s D (mtys cI cS) (mcell g cI cS (msa aK)) mord g (some (.int o.1)) o.2) (F0 m 39 ls [])) (hk_k1 : sI k1 = true) (X : gX D (mcell g cI cS (msa aK)) mord g S s H locs) (hl : lv_has ls 4 [(0, .ref (g 99)), (1, .ref (aK k1)), (2, .int x2), (3, .int x3)]) (hF : fX12_is_b39 N r39 k1 x2 x3 S = some o) : W p l e (rmd 4) s m args below meth c H locs 0 0 (gE below args s D (mtys cI cS) (mcell g cI cS (msa aK)) mord g (some (.int o.1)) o.2) (F0 m 39 ls []) := by
  unfold fX12_is_b39 at hF
  refine lv_iload_n C.1.1 C.1.2.1 dX12_is_39 rfl (lv_at hl 2 rfl) ?_
  refine lv_if_eq (tgt := 82) C.1.1 C.1.2.1 dX12_is_40 (by decide) (fun h_z => ?_) (fun h_z => ?_)
  · rw [if_pos h_z] at hF
    exact bX12_is_82 C O X (lv_sub hl [2] rfl) hF
  · rw [if_neg h_z] at hF
    exact bX12_is_43 C O K39 hk_k1 X (lv_sub hl [0, 1, 2, 3] rfl) hF
noncomputable def fX12_is_h39 (N : Nat) : Nat → Nat → Int32 → Int32 → gS → Option (Int32 × gS)
  | 0, _, _, _, _ => none
  | n + 1, k1, x2, x3, S => fX12_is_b39 N (fX12_is_h39 N n) k1 x2 x3 S
theorem hX12_is_39 {N : Nat} {o : Int32 × gS} (C : gC p s m args meth c cX12_is 4 RX12 ((some .boolean)) D (mtys cI cS) mord g Am) (O : sO (mcell g cI cS (msa aK)) mord g Am aK aV) : ∀ (n : Nat) (k1 : Nat) (x2 : Int32) (x3 : Int32) (hk_k1 : sI k1 = true) (S : gS) (H : Heap) (locs : List Loc) (ls : Array Slot), gX D (mcell g cI cS (msa aK)) mord g S s H locs → lv_has ls 4 [(0, .ref (g 99)), (1, .ref (aK k1)), (2, .int x2), (3, .int x3)] → fX12_is_h39 N n k1 x2 x3 S = some o → W p l e (rmd 4) s m args below meth c H locs 0 0 (gE below args s D (mtys cI cS) (mcell g cI cS (msa aK)) mord g (some (.int o.1)) o.2) (F0 m 39 ls []) := by
  intro n
  induction n with
  | zero =>
    intro k1 x2 x3 hk_k1 S H locs ls X hl hF
    exact absurd (show (none : Option (Int32 × gS)) = some o from hF) (by simp)
  | succ n ih =>
    intro k1 x2 x3 hk_k1 S H locs ls X hl hF
    have hF : fX12_is_b39 N (fX12_is_h39 N n) k1 x2 x3 S = some o := hF
    exact bX12_is_39 C O ih hk_k1 X hl hF
noncomputable def fX12_is_b36 (N : Nat) (k1 : Nat) (t0 : Int32) (S : gS) : Option (Int32 × gS) := fX12_is_h39 N N k1 t0 0 S
theorem bX12_is_36 {N : Nat} {k1 : Nat} {t0 : Int32} {S : gS} {H : Heap} {locs : List Loc} {ls : Array Slot} {o : Int32 × gS} (C : gC p s m args meth c cX12_is 4 RX12 ((some .boolean)) D (mtys cI cS) mord g Am) (O : sO (mcell g cI cS (msa aK)) mord g Am aK aV) (hk_k1 : sI k1 = true) (X : gX D (mcell g cI cS (msa aK)) mord g S s H locs) (hl : lv_has ls 4 [(0, .ref (g 99)), (1, .ref (aK k1))]) (hF : fX12_is_b36 N k1 t0 S = some o) : W p l e (rmd 4) s m args below meth c H locs 0 0 (gE below args s D (mtys cI cS) (mcell g cI cS (msa aK)) mord g (some (.int o.1)) o.2) (F0 m 36 ls [.int t0]) := by
  unfold fX12_is_b36 at hF
  refine lv_istore_n (lv' := [(2, .int t0), (0, .ref (g 99)), (1, .ref (aK k1))]) C.1.1 C.1.2.1 dX12_is_36 rfl hl (by decide) rfl (fun ls hl => ?_)
  refine lv_iconst (v := 0) C.1.1 C.1.2.1 dX12_is_37 (by decide) ?_
  refine lv_istore_n (lv' := [(3, .int 0), (2, .int t0), (0, .ref (g 99)), (1, .ref (aK k1))]) C.1.1 C.1.2.1 dX12_is_38 rfl hl (by decide) rfl (fun ls hl => ?_)
  exact hX12_is_39 C O N _ _ _ hk_k1 _ _ _ _ X (lv_sub hl [2, 3, 1, 0] rfl) hF
noncomputable def fX12_is_b35 (N : Nat) (k1 : Nat) (S : gS) : Option (Int32 × gS) := fX12_is_b36 N k1 0 S
theorem bX12_is_35 {N : Nat} {k1 : Nat} {S : gS} {H : Heap} {locs : List Loc} {ls : Array Slot} {o : Int32 × gS} (C : gC p s m args meth c cX12_is 4 RX12 ((some .boolean)) D (mtys cI cS) mord g Am) (O : sO (mcell g cI cS (msa aK)) mord g Am aK aV) (hk_k1 : sI k1 = true) (X : gX D (mcell g cI cS (msa aK)) mord g S s H locs) (hl : lv_has ls 4 [(0, .ref (g 99)), (1, .ref (aK k1))]) (hF : fX12_is_b35 N k1 S = some o) : W p l e (rmd 4) s m args below meth c H locs 0 0 (gE below args s D (mtys cI cS) (mcell g cI cS (msa aK)) mord g (some (.int o.1)) o.2) (F0 m 35 ls []) := by
  unfold fX12_is_b35 at hF
  refine lv_iconst (v := 0) C.1.1 C.1.2.1 dX12_is_35 (by decide) ?_
  exact bX12_is_36 C O hk_k1 X (lv_sub hl [0, 1] rfl) hF
noncomputable def fX12_is_b31 (N : Nat) (k1 : Nat) (S : gS) : Option (Int32 × gS) := fX12_is_b36 N k1 1 S
theorem bX12_is_31 {N : Nat} {k1 : Nat} {S : gS} {H : Heap} {locs : List Loc} {ls : Array Slot} {o : Int32 × gS} (C : gC p s m args meth c cX12_is 4 RX12 ((some .boolean)) D (mtys cI cS) mord g Am) (O : sO (mcell g cI cS (msa aK)) mord g Am aK aV) (hk_k1 : sI k1 = true) (X : gX D (mcell g cI cS (msa aK)) mord g S s H locs) (hl : lv_has ls 4 [(0, .ref (g 99)), (1, .ref (aK k1))]) (hF : fX12_is_b31 N k1 S = some o) : W p l e (rmd 4) s m args below meth c H locs 0 0 (gE below args s D (mtys cI cS) (mcell g cI cS (msa aK)) mord g (some (.int o.1)) o.2) (F0 m 31 ls []) := by
  unfold fX12_is_b31 at hF
  refine lv_iconst (v := 1) C.1.1 C.1.2.1 dX12_is_31 (by decide) ?_
  refine lv_goto (tgt := 36) C.1.1 C.1.2.1 dX12_is_32 (by decide) ?_
  exact bX12_is_36 C O hk_k1 X (lv_sub hl [0, 1] rfl) hF
noncomputable def fX12_is_b15 (N : Nat) (k1 : Nat) (S : gS) : Option (Int32 × gS) := bnd (fJ0_length_8abf5 N k1 S) fun q1 => (if q1.1 = (((q1.2 99 26) - (q1.2 99 25) : Int32)) then fX12_is_b31 N k1 q1.2 else fX12_is_b35 N k1 q1.2)
theorem bX12_is_15 {N : Nat} {k1 : Nat} {S : gS} {H : Heap} {locs : List Loc} {ls : Array Slot} {o : Int32 × gS} (C : gC p s m args meth c cX12_is 4 RX12 ((some .boolean)) D (mtys cI cS) mord g Am) (O : sO (mcell g cI cS (msa aK)) mord g Am aK aV) (hk_k1 : sI k1 = true) (X : gX D (mcell g cI cS (msa aK)) mord g S s H locs) (hl : lv_has ls 4 [(0, .ref (g 99)), (1, .ref (aK k1))]) (hF : fX12_is_b15 N k1 S = some o) : W p l e (rmd 4) s m args below meth c H locs 0 0 (gE below args s D (mtys cI cS) (mcell g cI cS (msa aK)) mord g (some (.int o.1)) o.2) (F0 m 15 ls []) := by
  unfold fX12_is_b15 at hF
  refine lv_aload_n C.1.1 C.1.2.1 dX12_is_15 rfl (lv_at hl 1 rfl) ?_
  obtain ⟨q1, hq1, hF⟩ := bnd_some hF
  refine s_callV C O X xv_X12_210 rfl hk_k1 (kJ0_length_8abf5 O C.2.2.2.2.1 N k1 hk_k1 S q1 hq1) (Nat.le_of_ble_eq_true rfl) (Nat.le_of_ble_eq_true rfl) (Nat.le_of_ble_eq_true rfl) (Nat.le_of_ble_eq_true rfl) rfl hl.1 rfl (Nat.le_of_ble_eq_true rfl) dX12_is_16 (fun H locs X => ?_)
  refine lv_aload_n C.1.1 C.1.2.1 dX12_is_19 rfl (lv_at hl 0 rfl) ?_
  refine m_g26 C X dX12_is_20 ?_
  refine lv_aload_n C.1.1 C.1.2.1 dX12_is_23 rfl (lv_at hl 0 rfl) ?_
  refine m_g25 C X dX12_is_24 ?_
  refine lv_isub C.1.1 C.1.2.1 dX12_is_27 ?_
  refine lv_icmp_ne (tgt := 35) C.1.1 C.1.2.1 dX12_is_28 (by decide) (fun h_z => ?_) (fun h_z => ?_)
  · rw [if_neg h_z] at hF
    exact bX12_is_35 C O hk_k1 X (lv_sub hl [0, 1] rfl) hF
  · rw [if_pos h_z] at hF
    exact bX12_is_31 C O hk_k1 X (lv_sub hl [0, 1] rfl) hF
noncomputable def fX12_is_b7 (N : Nat) (k1 : Nat) (S : gS) : Option (Int32 × gS) := if (S 99 23) = 1 then fX12_is_b15 N k1 S else fX12_is_b35 N k1 S
theorem bX12_is_7 {N : Nat} {k1 : Nat} {S : gS} {H : Heap} {locs : List Loc} {ls : Array Slot} {o : Int32 × gS} (C : gC p s m args meth c cX12_is 4 RX12 ((some .boolean)) D (mtys cI cS) mord g Am) (O : sO (mcell g cI cS (msa aK)) mord g Am aK aV) (hk_k1 : sI k1 = true) (X : gX D (mcell g cI cS (msa aK)) mord g S s H locs) (hl : lv_has ls 4 [(0, .ref (g 99)), (1, .ref (aK k1))]) (hF : fX12_is_b7 N k1 S = some o) : W p l e (rmd 4) s m args below meth c H locs 0 0 (gE below args s D (mtys cI cS) (mcell g cI cS (msa aK)) mord g (some (.int o.1)) o.2) (F0 m 7 ls []) := by
  unfold fX12_is_b7 at hF
  refine lv_aload_n C.1.1 C.1.2.1 dX12_is_7 rfl (lv_at hl 0 rfl) ?_
  refine m_g23 C X dX12_is_8 ?_
  refine lv_iconst (v := 1) C.1.1 C.1.2.1 dX12_is_11 (by decide) ?_
  refine lv_icmp_ne (tgt := 35) C.1.1 C.1.2.1 dX12_is_12 (by decide) (fun h_z => ?_) (fun h_z => ?_)
  · rw [if_neg h_z] at hF
    exact bX12_is_35 C O hk_k1 X (lv_sub hl [0, 1] rfl) hF
  · rw [if_pos h_z] at hF
    exact bX12_is_15 C O hk_k1 X (lv_sub hl [0, 1] rfl) hF
noncomputable def fX12_is_b0 (N : Nat) (k1 : Nat) (S : gS) : Option (Int32 × gS) := if (S 99 27) = 0 then fX12_is_b7 N k1 S else fX12_is_b35 N k1 S
theorem bX12_is_0 {N : Nat} {k1 : Nat} {S : gS} {H : Heap} {locs : List Loc} {ls : Array Slot} {o : Int32 × gS} (C : gC p s m args meth c cX12_is 4 RX12 ((some .boolean)) D (mtys cI cS) mord g Am) (O : sO (mcell g cI cS (msa aK)) mord g Am aK aV) (hk_k1 : sI k1 = true) (X : gX D (mcell g cI cS (msa aK)) mord g S s H locs) (hl : lv_has ls 4 [(0, .ref (g 99)), (1, .ref (aK k1))]) (hF : fX12_is_b0 N k1 S = some o) : W p l e (rmd 4) s m args below meth c H locs 0 0 (gE below args s D (mtys cI cS) (mcell g cI cS (msa aK)) mord g (some (.int o.1)) o.2) (F0 m 0 ls []) := by
  unfold fX12_is_b0 at hF
  refine lv_aload_n C.1.1 C.1.2.1 dX12_is_0 rfl (lv_at hl 0 rfl) ?_
  refine m_g27 C X dX12_is_1 ?_
  refine lv_if_ne (tgt := 35) C.1.1 C.1.2.1 dX12_is_4 (by decide) (fun h_z => ?_) (fun h_z => ?_)
  · rw [if_neg h_z] at hF
    exact bX12_is_35 C O hk_k1 X (lv_sub hl [0, 1] rfl) hF
  · rw [if_pos h_z] at hF
    exact bX12_is_7 C O hk_k1 X (lv_sub hl [0, 1] rfl) hF
noncomputable def fX12_is (N : Nat) (k1 : Nat) (S : gS) : Option (Int32 × gS) := fX12_is_b0 N k1 S
theorem kX12_is {l : Launch} {D : va_G} {g : Nat → Nat} {cI cS : ClassId} {Am : (Nat → Prop) → State → Heap → Prop} {aK aV : Nat → Nat} (O : sO (mcell g cI cS (msa aK)) mord g Am aK aV) (P : gAm Am) (N : Nat) (k1 : Nat) (hk_k1 : sI k1 = true) (S : gS) (o : Int32 × gS) (hF : fX12_is N k1 S = some o) : gM l yX12_is cX12_is 4 ((some .boolean)) 4 D (mtys cI cS) (mcell g cI cS (msa aK)) mord g Am [.ref (g 99), .ref (aK k1)] S (some (.int o.1)) o.2 :=
  gM_of O.1 P (by decide) (Nat.le_of_ble_eq_true rfl) (fun p e s m args below meth c ls C X hl => bX12_is_0 C O hk_k1 X (lv_sub hl [0, 1] rfl) hF)
-- which
noncomputable def fX12_which_b26 (N : Nat) (S : gS) : Option (Int32 × gS) := some ((-1), S)
theorem bX12_which_26 {N : Nat} {S : gS} {H : Heap} {locs : List Loc} {ls : Array Slot} {o : Int32 × gS} (C : gC p s m args meth c cX12_which 3 RX12 ((some .int)) D (mtys cI cS) mord g Am) (O : sO (mcell g cI cS (msa aK)) mord g Am aK aV) (X : gX D (mcell g cI cS (msa aK)) mord g S s H locs) (hl : lv_has ls 3 []) (hF : fX12_which_b26 N S = some o) : W p l e (rmd 5) s m args below meth c H locs 0 0 (gE below args s D (mtys cI cS) (mcell g cI cS (msa aK)) mord g (some (.int o.1)) o.2) (F0 m 26 ls []) := by
  unfold fX12_which_b26 at hF
  refine lv_iconst (v := (-1)) C.1.1 C.1.2.1 dX12_which_26 (by decide) ?_
  cases hF
  exact g_iret C X dX12_which_27
noncomputable def fX12_which_b20 (N : Nat) (r2 : Nat → Int32 → gS → Option (Int32 × gS)) (k1 : Nat) (x2 : Int32) (S : gS) : Option (Int32 × gS) := r2 k1 ((x2 + 1 : Int32)) S
theorem bX12_which_20 {N : Nat} {r2 : Nat → Int32 → gS → Option (Int32 × gS)} {k1 : Nat} {x2 : Int32} {S : gS} {H : Heap} {locs : List Loc} {ls : Array Slot} {o : Int32 × gS} (C : gC p s m args meth c cX12_which 3 RX12 ((some .int)) D (mtys cI cS) mord g Am) (O : sO (mcell g cI cS (msa aK)) mord g Am aK aV) (K2 : ∀ (k1 : Nat) (x2 : Int32) (hk_k1 : mT k1 = true) (S : gS) (H : Heap) (locs : List Loc) (ls : Array Slot), gX D (mcell g cI cS (msa aK)) mord g S s H locs → lv_has ls 3 [(0, .ref (g 99)), (1, .ref (g k1)), (2, .int x2)] → r2 k1 x2 S = some o → W p l e (rmd 5) s m args below meth c H locs 0 0 (gE below args s D (mtys cI cS) (mcell g cI cS (msa aK)) mord g (some (.int o.1)) o.2) (F0 m 2 ls [])) (hk_k1 : mT k1 = true) (X : gX D (mcell g cI cS (msa aK)) mord g S s H locs) (hl : lv_has ls 3 [(0, .ref (g 99)), (1, .ref (g k1)), (2, .int x2)]) (hF : fX12_which_b20 N r2 k1 x2 S = some o) : W p l e (rmd 5) s m args below meth c H locs 0 0 (gE below args s D (mtys cI cS) (mcell g cI cS (msa aK)) mord g (some (.int o.1)) o.2) (F0 m 20 ls []) := by
  unfold fX12_which_b20 at hF
  refine lv_iinc (v := (x2 + 1 : Int32)) (lv' := [(2, .int ((x2 + 1 : Int32))), (0, .ref (g 99)), (1, .ref (g k1))]) C.1.1 C.1.2.1 dX12_which_20 hl (k := 2) rfl rfl (by decide) rfl (fun ls hl => ?_)
  refine lv_goto (tgt := 2) C.1.1 C.1.2.1 dX12_which_23 (by decide) ?_
  exact K2 _ _ hk_k1 _ _ _ _ X (lv_sub hl [1, 2, 0] rfl) hF
noncomputable def fX12_which_b18 (N : Nat) (x2 : Int32) (S : gS) : Option (Int32 × gS) := some (x2, S)
theorem bX12_which_18 {N : Nat} {x2 : Int32} {S : gS} {H : Heap} {locs : List Loc} {ls : Array Slot} {o : Int32 × gS} (C : gC p s m args meth c cX12_which 3 RX12 ((some .int)) D (mtys cI cS) mord g Am) (O : sO (mcell g cI cS (msa aK)) mord g Am aK aV) (X : gX D (mcell g cI cS (msa aK)) mord g S s H locs) (hl : lv_has ls 3 [(2, .int x2)]) (hF : fX12_which_b18 N x2 S = some o) : W p l e (rmd 5) s m args below meth c H locs 0 0 (gE below args s D (mtys cI cS) (mcell g cI cS (msa aK)) mord g (some (.int o.1)) o.2) (F0 m 18 ls []) := by
  unfold fX12_which_b18 at hF
  refine lv_iload_n C.1.1 C.1.2.1 dX12_which_18 rfl (lv_at hl 0 rfl) ?_
  cases hF
  exact g_iret C X dX12_which_19
noncomputable def fX12_which_b8 (N : Nat) (r2 : Nat → Int32 → gS → Option (Int32 × gS)) (k1 : Nat) (x2 : Int32) (S : gS) : Option (Int32 × gS) := chk (inb x2 (mN k1)) (chk (sI (mS k1 (Int32.toNatClampNeg x2))) (bnd (fX12_is N (mS k1 (Int32.toNatClampNeg x2)) S) fun q1 => (if q1.1 = 0 then fX12_which_b20 N r2 k1 x2 q1.2 else fX12_which_b18 N x2 q1.2)))
theorem bX12_which_8 {N : Nat} {r2 : Nat → Int32 → gS → Option (Int32 × gS)} {k1 : Nat} {x2 : Int32} {S : gS} {H : Heap} {locs : List Loc} {ls : Array Slot} {o : Int32 × gS} (C : gC p s m args meth c cX12_which 3 RX12 ((some .int)) D (mtys cI cS) mord g Am) (O : sO (mcell g cI cS (msa aK)) mord g Am aK aV) (K2 : ∀ (k1 : Nat) (x2 : Int32) (hk_k1 : mT k1 = true) (S : gS) (H : Heap) (locs : List Loc) (ls : Array Slot), gX D (mcell g cI cS (msa aK)) mord g S s H locs → lv_has ls 3 [(0, .ref (g 99)), (1, .ref (g k1)), (2, .int x2)] → r2 k1 x2 S = some o → W p l e (rmd 5) s m args below meth c H locs 0 0 (gE below args s D (mtys cI cS) (mcell g cI cS (msa aK)) mord g (some (.int o.1)) o.2) (F0 m 2 ls [])) (hk_k1 : mT k1 = true) (X : gX D (mcell g cI cS (msa aK)) mord g S s H locs) (hl : lv_has ls 3 [(0, .ref (g 99)), (1, .ref (g k1)), (2, .int x2)]) (hF : fX12_which_b8 N r2 k1 x2 S = some o) : W p l e (rmd 5) s m args below meth c H locs 0 0 (gE below args s D (mtys cI cS) (mcell g cI cS (msa aK)) mord g (some (.int o.1)) o.2) (F0 m 8 ls []) := by
  unfold fX12_which_b8 at hF
  refine lv_aload_n C.1.1 C.1.2.1 dX12_which_8 rfl (lv_at hl 0 rfl) ?_
  refine lv_aload_n C.1.1 C.1.2.1 dX12_which_9 rfl (lv_at hl 1 rfl) ?_
  refine lv_iload_n C.1.1 C.1.2.1 dX12_which_10 rfl (lv_at hl 2 rfl) ?_
  obtain ⟨h_1, hF⟩ := chk_some hF
  obtain ⟨h_2, hF⟩ := chk_some hF
  refine m_aald C X (k := k1) hk_k1 (inb_vp h_1) dX12_which_11 ?_
  obtain ⟨q1, hq1, hF⟩ := bnd_some hF
  refine m_callVi C X vX12_is rfl (kX12_is O C.2.2.2.2.1 N (mS k1 (Int32.toNatClampNeg x2)) h_2 S q1 hq1) (Nat.le_of_ble_eq_true rfl) (Nat.le_of_ble_eq_true rfl) (Nat.le_of_ble_eq_true rfl) (Nat.le_of_ble_eq_true rfl) rfl hl.1 rfl (Nat.le_of_ble_eq_true rfl) dX12_which_12 (fun H locs X => ?_)
  refine lv_if_eq (tgt := 20) C.1.1 C.1.2.1 dX12_which_15 (by decide) (fun h_z => ?_) (fun h_z => ?_)
  · rw [if_pos h_z] at hF
    exact bX12_which_20 C O K2 hk_k1 X (lv_sub hl [0, 1, 2] rfl) hF
  · rw [if_neg h_z] at hF
    exact bX12_which_18 C O X (lv_sub hl [2] rfl) hF
noncomputable def fX12_which_b2 (N : Nat) (r2 : Nat → Int32 → gS → Option (Int32 × gS)) (k1 : Nat) (x2 : Int32) (S : gS) : Option (Int32 × gS) := if (Int32.ofNat (mN k1)) ≤ x2 then fX12_which_b26 N S else fX12_which_b8 N r2 k1 x2 S
theorem bX12_which_2 {N : Nat} {r2 : Nat → Int32 → gS → Option (Int32 × gS)} {k1 : Nat} {x2 : Int32} {S : gS} {H : Heap} {locs : List Loc} {ls : Array Slot} {o : Int32 × gS} (C : gC p s m args meth c cX12_which 3 RX12 ((some .int)) D (mtys cI cS) mord g Am) (O : sO (mcell g cI cS (msa aK)) mord g Am aK aV) (K2 : ∀ (k1 : Nat) (x2 : Int32) (hk_k1 : mT k1 = true) (S : gS) (H : Heap) (locs : List Loc) (ls : Array Slot), gX D (mcell g cI cS (msa aK)) mord g S s H locs → lv_has ls 3 [(0, .ref (g 99)), (1, .ref (g k1)), (2, .int x2)] → r2 k1 x2 S = some o → W p l e (rmd 5) s m args below meth c H locs 0 0 (gE below args s D (mtys cI cS) (mcell g cI cS (msa aK)) mord g (some (.int o.1)) o.2) (F0 m 2 ls [])) (hk_k1 : mT k1 = true) (X : gX D (mcell g cI cS (msa aK)) mord g S s H locs) (hl : lv_has ls 3 [(0, .ref (g 99)), (1, .ref (g k1)), (2, .int x2)]) (hF : fX12_which_b2 N r2 k1 x2 S = some o) : W p l e (rmd 5) s m args below meth c H locs 0 0 (gE below args s D (mtys cI cS) (mcell g cI cS (msa aK)) mord g (some (.int o.1)) o.2) (F0 m 2 ls []) := by
  unfold fX12_which_b2 at hF
  refine lv_iload_n C.1.1 C.1.2.1 dX12_which_2 rfl (lv_at hl 2 rfl) ?_
  refine lv_aload_n C.1.1 C.1.2.1 dX12_which_3 rfl (lv_at hl 1 rfl) ?_
  refine m_lT C X (k := k1) hk_k1 (x := Int32.ofNat (mN k1)) rfl dX12_which_4 ?_
  refine lv_icmp_ge (tgt := 26) C.1.1 C.1.2.1 dX12_which_5 (by decide) (fun h_z => ?_) (fun h_z => ?_)
  · rw [if_pos h_z] at hF
    exact bX12_which_26 C O X (lv_sub hl [] rfl) hF
  · rw [if_neg h_z] at hF
    exact bX12_which_8 C O K2 hk_k1 X (lv_sub hl [0, 1, 2] rfl) hF
noncomputable def fX12_which_h2 (N : Nat) : Nat → Nat → Int32 → gS → Option (Int32 × gS)
  | 0, _, _, _ => none
  | n + 1, k1, x2, S => fX12_which_b2 N (fX12_which_h2 N n) k1 x2 S
theorem hX12_which_2 {N : Nat} {o : Int32 × gS} (C : gC p s m args meth c cX12_which 3 RX12 ((some .int)) D (mtys cI cS) mord g Am) (O : sO (mcell g cI cS (msa aK)) mord g Am aK aV) : ∀ (n : Nat) (k1 : Nat) (x2 : Int32) (hk_k1 : mT k1 = true) (S : gS) (H : Heap) (locs : List Loc) (ls : Array Slot), gX D (mcell g cI cS (msa aK)) mord g S s H locs → lv_has ls 3 [(0, .ref (g 99)), (1, .ref (g k1)), (2, .int x2)] → fX12_which_h2 N n k1 x2 S = some o → W p l e (rmd 5) s m args below meth c H locs 0 0 (gE below args s D (mtys cI cS) (mcell g cI cS (msa aK)) mord g (some (.int o.1)) o.2) (F0 m 2 ls []) := by
  intro n
  induction n with
  | zero =>
    intro k1 x2 hk_k1 S H locs ls X hl hF
    exact absurd (show (none : Option (Int32 × gS)) = some o from hF) (by simp)
  | succ n ih =>
    intro k1 x2 hk_k1 S H locs ls X hl hF
    have hF : fX12_which_b2 N (fX12_which_h2 N n) k1 x2 S = some o := hF
    exact bX12_which_2 C O ih hk_k1 X hl hF
noncomputable def fX12_which_b0 (N : Nat) (k1 : Nat) (S : gS) : Option (Int32 × gS) := fX12_which_h2 N N k1 0 S
theorem bX12_which_0 {N : Nat} {k1 : Nat} {S : gS} {H : Heap} {locs : List Loc} {ls : Array Slot} {o : Int32 × gS} (C : gC p s m args meth c cX12_which 3 RX12 ((some .int)) D (mtys cI cS) mord g Am) (O : sO (mcell g cI cS (msa aK)) mord g Am aK aV) (hk_k1 : mT k1 = true) (X : gX D (mcell g cI cS (msa aK)) mord g S s H locs) (hl : lv_has ls 3 [(0, .ref (g 99)), (1, .ref (g k1))]) (hF : fX12_which_b0 N k1 S = some o) : W p l e (rmd 5) s m args below meth c H locs 0 0 (gE below args s D (mtys cI cS) (mcell g cI cS (msa aK)) mord g (some (.int o.1)) o.2) (F0 m 0 ls []) := by
  unfold fX12_which_b0 at hF
  refine lv_iconst (v := 0) C.1.1 C.1.2.1 dX12_which_0 (by decide) ?_
  refine lv_istore_n (lv' := [(2, .int 0), (0, .ref (g 99)), (1, .ref (g k1))]) C.1.1 C.1.2.1 dX12_which_1 rfl hl (by decide) rfl (fun ls hl => ?_)
  exact hX12_which_2 C O N _ _ hk_k1 _ _ _ _ X (lv_sub hl [1, 2, 0] rfl) hF
noncomputable def fX12_which (N : Nat) (k1 : Nat) (S : gS) : Option (Int32 × gS) := fX12_which_b0 N k1 S
theorem kX12_which {l : Launch} {D : va_G} {g : Nat → Nat} {cI cS : ClassId} {Am : (Nat → Prop) → State → Heap → Prop} {aK aV : Nat → Nat} (O : sO (mcell g cI cS (msa aK)) mord g Am aK aV) (P : gAm Am) (N : Nat) (k1 : Nat) (hk_k1 : mT k1 = true) (S : gS) (o : Int32 × gS) (hF : fX12_which N k1 S = some o) : gM l yX12_which cX12_which 3 ((some .int)) 5 D (mtys cI cS) (mcell g cI cS (msa aK)) mord g Am [.ref (g 99), .ref (g k1)] S (some (.int o.1)) o.2 :=
  gM_of O.1 P (by decide) (Nat.le_of_ble_eq_true rfl) (fun p e s m args below meth c ls C X hl => bX12_which_0 C O hk_k1 X (lv_sub hl [0, 1] rfl) hF)
-- readPart
noncomputable def fX12_readPart_b75 (N : Nat) (rE : Int32 → gS → Option (Int32 × gS)) (x1 : Int32) (S : gS) : Option (Int32 × gS) := bnd (fX12_mark N 40 S) fun q1 => (bnd (rE ((x1 + 1 : Int32)) q1.2) fun q2 => (bnd (fX12_mark N 41 q2.2) fun q3 => (some (0, q3.2))))
theorem bX12_readPart_75 {N : Nat} {rE : Int32 → gS → Option (Int32 × gS)} {d0 : Nat} {x1 : Int32} {S : gS} {H : Heap} {locs : List Loc} {ls : Array Slot} {o : Int32 × gS} (C : gC p s m args meth c cX12_readPart 3 RX12 none D (mtys cI cS) mord g Am) (O : sO (mcell g cI cS (msa aK)) mord g Am aK aV) (hd0 : 10 ≤ d0) (KE : ∀ (x : Int32) (S : gS) (o : Int32 × gS), rE x S = some o → gM l yX12_readExpression cX12_readExpression 3 none d0 D (mtys cI cS) (mcell g cI cS (msa aK)) mord g Am [.ref (g 99), .int x] S none o.2) (X : gX D (mcell g cI cS (msa aK)) mord g S s H locs) (hl : lv_has ls 3 [(0, .ref (g 99)), (1, .int x1)]) (hF : fX12_readPart_b75 N rE x1 S = some o) : W p l e (rmd (d0 + 1)) s m args below meth c H locs 0 0 (gE below args s D (mtys cI cS) (mcell g cI cS (msa aK)) mord g none o.2) (F0 m 75 ls []) := by
  unfold fX12_readPart_b75 at hF
  refine lv_aload_n C.1.1 C.1.2.1 dX12_readPart_75 rfl (lv_at hl 0 rfl) ?_
  refine lv_bipush (v := 40) C.1.1 C.1.2.1 dX12_readPart_76 (by decide) ?_
  obtain ⟨q1, hq1, hF⟩ := bnd_some hF
  refine m_callV C X vX12_mark rfl (kX12_mark O.1 C.2.2.2.2.1 N 40  S q1 hq1) (by simp only [rmd]; omega) (by simp only [rmd]; omega) (Nat.zero_le _) (Nat.zero_le _) rfl hl.1 rfl (Nat.le_of_ble_eq_true rfl) dX12_readPart_78 (fun H locs X => ?_)
  refine lv_aload_n C.1.1 C.1.2.1 dX12_readPart_81 rfl (lv_at hl 0 rfl) ?_
  refine lv_iload_n C.1.1 C.1.2.1 dX12_readPart_82 rfl (lv_at hl 1 rfl) ?_
  refine lv_iconst (v := 1) C.1.1 C.1.2.1 dX12_readPart_83 (by decide) ?_
  refine lv_iadd C.1.1 C.1.2.1 dX12_readPart_84 ?_
  obtain ⟨q2, hq2, hF⟩ := bnd_some hF
  refine m_callV C X vX12_readExpression rfl (KE _ _ _ hq2) (by simp only [rmd]; omega) (by simp only [rmd]; omega) (Nat.zero_le _) (Nat.zero_le _) rfl hl.1 rfl (Nat.le_of_ble_eq_true rfl) dX12_readPart_85 (fun H locs X => ?_)
  refine lv_aload_n C.1.1 C.1.2.1 dX12_readPart_88 rfl (lv_at hl 0 rfl) ?_
  refine lv_bipush (v := 41) C.1.1 C.1.2.1 dX12_readPart_89 (by decide) ?_
  obtain ⟨q3, hq3, hF⟩ := bnd_some hF
  refine m_callV C X vX12_mark rfl (kX12_mark O.1 C.2.2.2.2.1 N 41  q2.2 q3 hq3) (by simp only [rmd]; omega) (by simp only [rmd]; omega) (Nat.zero_le _) (Nat.zero_le _) rfl hl.1 rfl (Nat.le_of_ble_eq_true rfl) dX12_readPart_91 (fun H locs X => ?_)
  cases hF
  exact g_vret C X dX12_readPart_94
noncomputable def fX12_readPart_b74 (N : Nat) (rE : Int32 → gS → Option (Int32 × gS)) (S : gS) : Option (Int32 × gS) := some (0, S)
theorem bX12_readPart_74 {N : Nat} {rE : Int32 → gS → Option (Int32 × gS)} {d0 : Nat} {S : gS} {H : Heap} {locs : List Loc} {ls : Array Slot} {o : Int32 × gS} (C : gC p s m args meth c cX12_readPart 3 RX12 none D (mtys cI cS) mord g Am) (O : sO (mcell g cI cS (msa aK)) mord g Am aK aV) (hd0 : 10 ≤ d0) (KE : ∀ (x : Int32) (S : gS) (o : Int32 × gS), rE x S = some o → gM l yX12_readExpression cX12_readExpression 3 none d0 D (mtys cI cS) (mcell g cI cS (msa aK)) mord g Am [.ref (g 99), .int x] S none o.2) (X : gX D (mcell g cI cS (msa aK)) mord g S s H locs) (hl : lv_has ls 3 []) (hF : fX12_readPart_b74 N rE S = some o) : W p l e (rmd (d0 + 1)) s m args below meth c H locs 0 0 (gE below args s D (mtys cI cS) (mcell g cI cS (msa aK)) mord g none o.2) (F0 m 74 ls []) := by
  unfold fX12_readPart_b74 at hF
  cases hF
  exact g_vret C X dX12_readPart_74
noncomputable def fX12_readPart_b70 (N : Nat) (rE : Int32 → gS → Option (Int32 × gS)) (S : gS) : Option (Int32 × gS) := bnd (fX12_stepOn N  S) fun q1 => (fX12_readPart_b74 N rE q1.2)
theorem bX12_readPart_70 {N : Nat} {rE : Int32 → gS → Option (Int32 × gS)} {d0 : Nat} {S : gS} {H : Heap} {locs : List Loc} {ls : Array Slot} {o : Int32 × gS} (C : gC p s m args meth c cX12_readPart 3 RX12 none D (mtys cI cS) mord g Am) (O : sO (mcell g cI cS (msa aK)) mord g Am aK aV) (hd0 : 10 ≤ d0) (KE : ∀ (x : Int32) (S : gS) (o : Int32 × gS), rE x S = some o → gM l yX12_readExpression cX12_readExpression 3 none d0 D (mtys cI cS) (mcell g cI cS (msa aK)) mord g Am [.ref (g 99), .int x] S none o.2) (X : gX D (mcell g cI cS (msa aK)) mord g S s H locs) (hl : lv_has ls 3 [(0, .ref (g 99))]) (hF : fX12_readPart_b70 N rE S = some o) : W p l e (rmd (d0 + 1)) s m args below meth c H locs 0 0 (gE below args s D (mtys cI cS) (mcell g cI cS (msa aK)) mord g none o.2) (F0 m 70 ls []) := by
  unfold fX12_readPart_b70 at hF
  refine lv_aload_n C.1.1 C.1.2.1 dX12_readPart_70 rfl (lv_at hl 0 rfl) ?_
  obtain ⟨q1, hq1, hF⟩ := bnd_some hF
  refine m_callV C X vX12_stepOn rfl (kX12_stepOn O.1 C.2.2.2.2.1 N   S q1 hq1) (by simp only [rmd]; omega) (by simp only [rmd]; omega) (Nat.zero_le _) (Nat.zero_le _) rfl hl.1 rfl (Nat.le_of_ble_eq_true rfl) dX12_readPart_71 (fun H locs X => ?_)
  exact bX12_readPart_74 C O hd0 KE X (lv_sub hl [] rfl) hF
noncomputable def fX12_readPart_b56 (N : Nat) (rE : Int32 → gS → Option (Int32 × gS)) (x2 : Int32) (S : gS) : Option (Int32 × gS) := bnd (fX12_lay N ((((-1)) - x2 : Int32)) S) fun q1 => (if (q1.2 99 27) = 0 then fX12_readPart_b70 N rE q1.2 else fX12_readPart_b74 N rE q1.2)
theorem bX12_readPart_56 {N : Nat} {rE : Int32 → gS → Option (Int32 × gS)} {d0 : Nat} {x2 : Int32} {S : gS} {H : Heap} {locs : List Loc} {ls : Array Slot} {o : Int32 × gS} (C : gC p s m args meth c cX12_readPart 3 RX12 none D (mtys cI cS) mord g Am) (O : sO (mcell g cI cS (msa aK)) mord g Am aK aV) (hd0 : 10 ≤ d0) (KE : ∀ (x : Int32) (S : gS) (o : Int32 × gS), rE x S = some o → gM l yX12_readExpression cX12_readExpression 3 none d0 D (mtys cI cS) (mcell g cI cS (msa aK)) mord g Am [.ref (g 99), .int x] S none o.2) (X : gX D (mcell g cI cS (msa aK)) mord g S s H locs) (hl : lv_has ls 3 [(0, .ref (g 99)), (2, .int x2)]) (hF : fX12_readPart_b56 N rE x2 S = some o) : W p l e (rmd (d0 + 1)) s m args below meth c H locs 0 0 (gE below args s D (mtys cI cS) (mcell g cI cS (msa aK)) mord g none o.2) (F0 m 56 ls []) := by
  unfold fX12_readPart_b56 at hF
  refine lv_aload_n C.1.1 C.1.2.1 dX12_readPart_56 rfl (lv_at hl 0 rfl) ?_
  refine lv_iconst (v := (-1)) C.1.1 C.1.2.1 dX12_readPart_57 (by decide) ?_
  refine lv_iload_n C.1.1 C.1.2.1 dX12_readPart_58 rfl (lv_at hl 1 rfl) ?_
  refine lv_isub C.1.1 C.1.2.1 dX12_readPart_59 ?_
  obtain ⟨q1, hq1, hF⟩ := bnd_some hF
  refine m_callV C X vX12_lay rfl (kX12_lay O.1 C.2.2.2.2.1 N ((((-1)) - x2 : Int32))  S q1 hq1) (by simp only [rmd]; omega) (by simp only [rmd]; omega) (Nat.zero_le _) (Nat.zero_le _) rfl hl.1 rfl (Nat.le_of_ble_eq_true rfl) dX12_readPart_60 (fun H locs X => ?_)
  refine lv_aload_n C.1.1 C.1.2.1 dX12_readPart_63 rfl (lv_at hl 0 rfl) ?_
  refine m_g27 C X dX12_readPart_64 ?_
  refine lv_if_ne (tgt := 74) C.1.1 C.1.2.1 dX12_readPart_67 (by decide) (fun h_z => ?_) (fun h_z => ?_)
  · rw [if_neg h_z] at hF
    exact bX12_readPart_74 C O hd0 KE X (lv_sub hl [] rfl) hF
  · rw [if_pos h_z] at hF
    exact bX12_readPart_70 C O hd0 KE X (lv_sub hl [0] rfl) hF
noncomputable def fX12_readPart_b51 (N : Nat) (rE : Int32 → gS → Option (Int32 × gS)) (x2 : Int32) (S : gS) : Option (Int32 × gS) := bnd (fX12_wrong N 3 S) fun q1 => (fX12_readPart_b56 N rE x2 q1.2)
theorem bX12_readPart_51 {N : Nat} {rE : Int32 → gS → Option (Int32 × gS)} {d0 : Nat} {x2 : Int32} {S : gS} {H : Heap} {locs : List Loc} {ls : Array Slot} {o : Int32 × gS} (C : gC p s m args meth c cX12_readPart 3 RX12 none D (mtys cI cS) mord g Am) (O : sO (mcell g cI cS (msa aK)) mord g Am aK aV) (hd0 : 10 ≤ d0) (KE : ∀ (x : Int32) (S : gS) (o : Int32 × gS), rE x S = some o → gM l yX12_readExpression cX12_readExpression 3 none d0 D (mtys cI cS) (mcell g cI cS (msa aK)) mord g Am [.ref (g 99), .int x] S none o.2) (X : gX D (mcell g cI cS (msa aK)) mord g S s H locs) (hl : lv_has ls 3 [(0, .ref (g 99)), (2, .int x2)]) (hF : fX12_readPart_b51 N rE x2 S = some o) : W p l e (rmd (d0 + 1)) s m args below meth c H locs 0 0 (gE below args s D (mtys cI cS) (mcell g cI cS (msa aK)) mord g none o.2) (F0 m 51 ls []) := by
  unfold fX12_readPart_b51 at hF
  refine lv_aload_n C.1.1 C.1.2.1 dX12_readPart_51 rfl (lv_at hl 0 rfl) ?_
  refine lv_iconst (v := 3) C.1.1 C.1.2.1 dX12_readPart_52 (by decide) ?_
  obtain ⟨q1, hq1, hF⟩ := bnd_some hF
  refine m_callV C X vX12_wrong rfl (kX12_wrong O.1 C.2.2.2.2.1 N 3  S q1 hq1) (by simp only [rmd]; omega) (by simp only [rmd]; omega) (Nat.zero_le _) (Nat.zero_le _) rfl hl.1 rfl (Nat.le_of_ble_eq_true rfl) dX12_readPart_53 (fun H locs X => ?_)
  exact bX12_readPart_56 C O hd0 KE X (lv_sub hl [0, 1] rfl) hF
noncomputable def fX12_readPart_b37 (N : Nat) (rE : Int32 → gS → Option (Int32 × gS)) (S : gS) : Option (Int32 × gS) := bnd (fX12_which N (if S 99 3 = 0 then 1 else 2) S) fun q1 => (if q1.1 = ((-1)) then fX12_readPart_b51 N rE q1.1 q1.2 else fX12_readPart_b56 N rE q1.1 q1.2)
theorem bX12_readPart_37 {N : Nat} {rE : Int32 → gS → Option (Int32 × gS)} {d0 : Nat} {S : gS} {H : Heap} {locs : List Loc} {ls : Array Slot} {o : Int32 × gS} (C : gC p s m args meth c cX12_readPart 3 RX12 none D (mtys cI cS) mord g Am) (O : sO (mcell g cI cS (msa aK)) mord g Am aK aV) (hd0 : 10 ≤ d0) (KE : ∀ (x : Int32) (S : gS) (o : Int32 × gS), rE x S = some o → gM l yX12_readExpression cX12_readExpression 3 none d0 D (mtys cI cS) (mcell g cI cS (msa aK)) mord g Am [.ref (g 99), .int x] S none o.2) (X : gX D (mcell g cI cS (msa aK)) mord g S s H locs) (hl : lv_has ls 3 [(0, .ref (g 99))]) (hF : fX12_readPart_b37 N rE S = some o) : W p l e (rmd (d0 + 1)) s m args below meth c H locs 0 0 (gE below args s D (mtys cI cS) (mcell g cI cS (msa aK)) mord g none o.2) (F0 m 37 ls []) := by
  unfold fX12_readPart_b37 at hF
  refine lv_aload_n C.1.1 C.1.2.1 dX12_readPart_37 rfl (lv_at hl 0 rfl) ?_
  refine lv_aload_n C.1.1 C.1.2.1 dX12_readPart_38 rfl (lv_at hl 0 rfl) ?_
  refine m_g3 C X dX12_readPart_39 ?_
  obtain ⟨q1, hq1, hF⟩ := bnd_some hF
  refine m_callVi C X vX12_which rfl (kX12_which O C.2.2.2.2.1 N (if S 99 3 = 0 then 1 else 2) mvT S q1 hq1) (by simp only [rmd]; omega) (by simp only [rmd]; omega) (Nat.zero_le _) (Nat.zero_le _) rfl hl.1 rfl (Nat.le_of_ble_eq_true rfl) dX12_readPart_42 (fun H locs X => ?_)
  refine lv_istore_n (lv' := [(2, .int q1.1), (0, .ref (g 99))]) C.1.1 C.1.2.1 dX12_readPart_45 rfl hl (by decide) rfl (fun ls hl => ?_)
  refine lv_iload_n C.1.1 C.1.2.1 dX12_readPart_46 rfl (lv_at hl 0 rfl) ?_
  refine lv_iconst (v := (-1)) C.1.1 C.1.2.1 dX12_readPart_47 (by decide) ?_
  refine lv_icmp_ne (tgt := 56) C.1.1 C.1.2.1 dX12_readPart_48 (by decide) (fun h_z => ?_) (fun h_z => ?_)
  · rw [if_neg h_z] at hF
    exact bX12_readPart_56 C O hd0 KE X (lv_sub hl [1, 0] rfl) hF
  · rw [if_pos h_z] at hF
    exact bX12_readPart_51 C O hd0 KE X (lv_sub hl [1, 0] rfl) hF
noncomputable def fX12_readPart_b29 (N : Nat) (rE : Int32 → gS → Option (Int32 × gS)) (x1 : Int32) (S : gS) : Option (Int32 × gS) := if (S 99 23) = 1 then fX12_readPart_b37 N rE S else fX12_readPart_b75 N rE x1 S
theorem bX12_readPart_29 {N : Nat} {rE : Int32 → gS → Option (Int32 × gS)} {d0 : Nat} {x1 : Int32} {S : gS} {H : Heap} {locs : List Loc} {ls : Array Slot} {o : Int32 × gS} (C : gC p s m args meth c cX12_readPart 3 RX12 none D (mtys cI cS) mord g Am) (O : sO (mcell g cI cS (msa aK)) mord g Am aK aV) (hd0 : 10 ≤ d0) (KE : ∀ (x : Int32) (S : gS) (o : Int32 × gS), rE x S = some o → gM l yX12_readExpression cX12_readExpression 3 none d0 D (mtys cI cS) (mcell g cI cS (msa aK)) mord g Am [.ref (g 99), .int x] S none o.2) (X : gX D (mcell g cI cS (msa aK)) mord g S s H locs) (hl : lv_has ls 3 [(0, .ref (g 99)), (1, .int x1)]) (hF : fX12_readPart_b29 N rE x1 S = some o) : W p l e (rmd (d0 + 1)) s m args below meth c H locs 0 0 (gE below args s D (mtys cI cS) (mcell g cI cS (msa aK)) mord g none o.2) (F0 m 29 ls []) := by
  unfold fX12_readPart_b29 at hF
  refine lv_aload_n C.1.1 C.1.2.1 dX12_readPart_29 rfl (lv_at hl 0 rfl) ?_
  refine m_g23 C X dX12_readPart_30 ?_
  refine lv_iconst (v := 1) C.1.1 C.1.2.1 dX12_readPart_33 (by decide) ?_
  refine lv_icmp_ne (tgt := 75) C.1.1 C.1.2.1 dX12_readPart_34 (by decide) (fun h_z => ?_) (fun h_z => ?_)
  · rw [if_neg h_z] at hF
    exact bX12_readPart_75 C O hd0 KE X (lv_sub hl [0, 1] rfl) hF
  · rw [if_pos h_z] at hF
    exact bX12_readPart_37 C O hd0 KE X (lv_sub hl [0] rfl) hF
noncomputable def fX12_readPart_b16 (N : Nat) (rE : Int32 → gS → Option (Int32 × gS)) (S : gS) : Option (Int32 × gS) := bnd (fX12_readNumber N 0 9999 S) fun q1 => (bnd (fX12_lay N q1.1 q1.2) fun q2 => (some (0, q2.2)))
theorem bX12_readPart_16 {N : Nat} {rE : Int32 → gS → Option (Int32 × gS)} {d0 : Nat} {S : gS} {H : Heap} {locs : List Loc} {ls : Array Slot} {o : Int32 × gS} (C : gC p s m args meth c cX12_readPart 3 RX12 none D (mtys cI cS) mord g Am) (O : sO (mcell g cI cS (msa aK)) mord g Am aK aV) (hd0 : 10 ≤ d0) (KE : ∀ (x : Int32) (S : gS) (o : Int32 × gS), rE x S = some o → gM l yX12_readExpression cX12_readExpression 3 none d0 D (mtys cI cS) (mcell g cI cS (msa aK)) mord g Am [.ref (g 99), .int x] S none o.2) (X : gX D (mcell g cI cS (msa aK)) mord g S s H locs) (hl : lv_has ls 3 [(0, .ref (g 99))]) (hF : fX12_readPart_b16 N rE S = some o) : W p l e (rmd (d0 + 1)) s m args below meth c H locs 0 0 (gE below args s D (mtys cI cS) (mcell g cI cS (msa aK)) mord g none o.2) (F0 m 16 ls []) := by
  unfold fX12_readPart_b16 at hF
  refine lv_aload_n C.1.1 C.1.2.1 dX12_readPart_16 rfl (lv_at hl 0 rfl) ?_
  refine lv_aload_n C.1.1 C.1.2.1 dX12_readPart_17 rfl (lv_at hl 0 rfl) ?_
  refine lv_iconst (v := 0) C.1.1 C.1.2.1 dX12_readPart_18 (by decide) ?_
  refine lv_sipush (v := 9999) C.1.1 C.1.2.1 dX12_readPart_19 (by decide) ?_
  obtain ⟨q1, hq1, hF⟩ := bnd_some hF
  refine m_callVi C X vX12_readNumber rfl (kX12_readNumber O.1 C.2.2.2.2.1 N 0 9999  S q1 hq1) (by simp only [rmd]; omega) (by simp only [rmd]; omega) (Nat.zero_le _) (Nat.zero_le _) rfl hl.1 rfl (Nat.le_of_ble_eq_true rfl) dX12_readPart_22 (fun H locs X => ?_)
  obtain ⟨q2, hq2, hF⟩ := bnd_some hF
  refine m_callV C X vX12_lay rfl (kX12_lay O.1 C.2.2.2.2.1 N q1.1  q1.2 q2 hq2) (by simp only [rmd]; omega) (by simp only [rmd]; omega) (Nat.zero_le _) (Nat.zero_le _) rfl hl.1 rfl (Nat.le_of_ble_eq_true rfl) dX12_readPart_25 (fun H locs X => ?_)
  cases hF
  exact g_vret C X dX12_readPart_28
noncomputable def fX12_readPart_b8 (N : Nat) (rE : Int32 → gS → Option (Int32 × gS)) (x1 : Int32) (S : gS) : Option (Int32 × gS) := if (S 99 23) = 2 then fX12_readPart_b16 N rE S else fX12_readPart_b29 N rE x1 S
theorem bX12_readPart_8 {N : Nat} {rE : Int32 → gS → Option (Int32 × gS)} {d0 : Nat} {x1 : Int32} {S : gS} {H : Heap} {locs : List Loc} {ls : Array Slot} {o : Int32 × gS} (C : gC p s m args meth c cX12_readPart 3 RX12 none D (mtys cI cS) mord g Am) (O : sO (mcell g cI cS (msa aK)) mord g Am aK aV) (hd0 : 10 ≤ d0) (KE : ∀ (x : Int32) (S : gS) (o : Int32 × gS), rE x S = some o → gM l yX12_readExpression cX12_readExpression 3 none d0 D (mtys cI cS) (mcell g cI cS (msa aK)) mord g Am [.ref (g 99), .int x] S none o.2) (X : gX D (mcell g cI cS (msa aK)) mord g S s H locs) (hl : lv_has ls 3 [(0, .ref (g 99)), (1, .int x1)]) (hF : fX12_readPart_b8 N rE x1 S = some o) : W p l e (rmd (d0 + 1)) s m args below meth c H locs 0 0 (gE below args s D (mtys cI cS) (mcell g cI cS (msa aK)) mord g none o.2) (F0 m 8 ls []) := by
  unfold fX12_readPart_b8 at hF
  refine lv_aload_n C.1.1 C.1.2.1 dX12_readPart_8 rfl (lv_at hl 0 rfl) ?_
  refine m_g23 C X dX12_readPart_9 ?_
  refine lv_iconst (v := 2) C.1.1 C.1.2.1 dX12_readPart_12 (by decide) ?_
  refine lv_icmp_ne (tgt := 29) C.1.1 C.1.2.1 dX12_readPart_13 (by decide) (fun h_z => ?_) (fun h_z => ?_)
  · rw [if_neg h_z] at hF
    exact bX12_readPart_29 C O hd0 KE X (lv_sub hl [0, 1] rfl) hF
  · rw [if_pos h_z] at hF
    exact bX12_readPart_16 C O hd0 KE X (lv_sub hl [0] rfl) hF
noncomputable def fX12_readPart_b7 (N : Nat) (rE : Int32 → gS → Option (Int32 × gS)) (S : gS) : Option (Int32 × gS) := some (0, S)
theorem bX12_readPart_7 {N : Nat} {rE : Int32 → gS → Option (Int32 × gS)} {d0 : Nat} {S : gS} {H : Heap} {locs : List Loc} {ls : Array Slot} {o : Int32 × gS} (C : gC p s m args meth c cX12_readPart 3 RX12 none D (mtys cI cS) mord g Am) (O : sO (mcell g cI cS (msa aK)) mord g Am aK aV) (hd0 : 10 ≤ d0) (KE : ∀ (x : Int32) (S : gS) (o : Int32 × gS), rE x S = some o → gM l yX12_readExpression cX12_readExpression 3 none d0 D (mtys cI cS) (mcell g cI cS (msa aK)) mord g Am [.ref (g 99), .int x] S none o.2) (X : gX D (mcell g cI cS (msa aK)) mord g S s H locs) (hl : lv_has ls 3 []) (hF : fX12_readPart_b7 N rE S = some o) : W p l e (rmd (d0 + 1)) s m args below meth c H locs 0 0 (gE below args s D (mtys cI cS) (mcell g cI cS (msa aK)) mord g none o.2) (F0 m 7 ls []) := by
  unfold fX12_readPart_b7 at hF
  cases hF
  exact g_vret C X dX12_readPart_7
noncomputable def fX12_readPart_b0 (N : Nat) (rE : Int32 → gS → Option (Int32 × gS)) (x1 : Int32) (S : gS) : Option (Int32 × gS) := if (S 99 27) = 0 then fX12_readPart_b8 N rE x1 S else fX12_readPart_b7 N rE S
theorem bX12_readPart_0 {N : Nat} {rE : Int32 → gS → Option (Int32 × gS)} {d0 : Nat} {x1 : Int32} {S : gS} {H : Heap} {locs : List Loc} {ls : Array Slot} {o : Int32 × gS} (C : gC p s m args meth c cX12_readPart 3 RX12 none D (mtys cI cS) mord g Am) (O : sO (mcell g cI cS (msa aK)) mord g Am aK aV) (hd0 : 10 ≤ d0) (KE : ∀ (x : Int32) (S : gS) (o : Int32 × gS), rE x S = some o → gM l yX12_readExpression cX12_readExpression 3 none d0 D (mtys cI cS) (mcell g cI cS (msa aK)) mord g Am [.ref (g 99), .int x] S none o.2) (X : gX D (mcell g cI cS (msa aK)) mord g S s H locs) (hl : lv_has ls 3 [(0, .ref (g 99)), (1, .int x1)]) (hF : fX12_readPart_b0 N rE x1 S = some o) : W p l e (rmd (d0 + 1)) s m args below meth c H locs 0 0 (gE below args s D (mtys cI cS) (mcell g cI cS (msa aK)) mord g none o.2) (F0 m 0 ls []) := by
  unfold fX12_readPart_b0 at hF
  refine lv_aload_n C.1.1 C.1.2.1 dX12_readPart_0 rfl (lv_at hl 0 rfl) ?_
  refine m_g27 C X dX12_readPart_1 ?_
  refine lv_if_eq (tgt := 8) C.1.1 C.1.2.1 dX12_readPart_4 (by decide) (fun h_z => ?_) (fun h_z => ?_)
  · rw [if_pos h_z] at hF
    exact bX12_readPart_8 C O hd0 KE X (lv_sub hl [0, 1] rfl) hF
  · rw [if_neg h_z] at hF
    exact bX12_readPart_7 C O hd0 KE X (lv_sub hl [] rfl) hF
noncomputable def fX12_readPart (N : Nat) (rE : Int32 → gS → Option (Int32 × gS)) (x1 : Int32) (S : gS) : Option (Int32 × gS) := fX12_readPart_b0 N rE x1 S
theorem kX12_readPart {l : Launch} {D : va_G} {g : Nat → Nat} {cI cS : ClassId} {Am : (Nat → Prop) → State → Heap → Prop} {aK aV : Nat → Nat} (O : sO (mcell g cI cS (msa aK)) mord g Am aK aV) (P : gAm Am) (N : Nat) {rE : Int32 → gS → Option (Int32 × gS)} {d0 : Nat} (hd0 : 10 ≤ d0) (KE : ∀ (x : Int32) (S : gS) (o : Int32 × gS), rE x S = some o → gM l yX12_readExpression cX12_readExpression 3 none d0 D (mtys cI cS) (mcell g cI cS (msa aK)) mord g Am [.ref (g 99), .int x] S none o.2) (x1 : Int32) (S : gS) (o : Int32 × gS) (hF : fX12_readPart N rE x1 S = some o) : gM l yX12_readPart cX12_readPart 3 none (d0 + 1) D (mtys cI cS) (mcell g cI cS (msa aK)) mord g Am [.ref (g 99), .int x1] S none o.2 :=
  gM_of O.1 P (by decide) (Nat.le_of_ble_eq_true rfl) (fun p e s m args below meth c ls C X hl => bX12_readPart_0 C O hd0 KE X (lv_sub hl [0, 1] rfl) hF)
-- readProduct
noncomputable def fX12_readProduct_b57 (N : Nat) (rE : Int32 → gS → Option (Int32 × gS)) (S : gS) : Option (Int32 × gS) := some (0, S)
theorem bX12_readProduct_57 {N : Nat} {rE : Int32 → gS → Option (Int32 × gS)} {d0 : Nat} {S : gS} {H : Heap} {locs : List Loc} {ls : Array Slot} {o : Int32 × gS} (C : gC p s m args meth c cX12_readProduct 3 RX12 none D (mtys cI cS) mord g Am) (O : sO (mcell g cI cS (msa aK)) mord g Am aK aV) (hd0 : 10 ≤ d0) (KE : ∀ (x : Int32) (S : gS) (o : Int32 × gS), rE x S = some o → gM l yX12_readExpression cX12_readExpression 3 none d0 D (mtys cI cS) (mcell g cI cS (msa aK)) mord g Am [.ref (g 99), .int x] S none o.2) (X : gX D (mcell g cI cS (msa aK)) mord g S s H locs) (hl : lv_has ls 3 []) (hF : fX12_readProduct_b57 N rE S = some o) : W p l e (rmd (d0 + 2)) s m args below meth c H locs 0 0 (gE below args s D (mtys cI cS) (mcell g cI cS (msa aK)) mord g none o.2) (F0 m 57 ls []) := by
  unfold fX12_readProduct_b57 at hF
  cases hF
  exact g_vret C X dX12_readProduct_57
noncomputable def fX12_readProduct_b39 (N : Nat) (rE : Int32 → gS → Option (Int32 × gS)) (r5 : Int32 → gS → Option (Int32 × gS)) (x1 : Int32) (t0 : Int32) (S : gS) : Option (Int32 × gS) := bnd (fX12_stepOn N  S) fun q1 => (bnd (fX12_readPart N rE x1 q1.2) fun q2 => (bnd (fX12_lay N t0 q2.2) fun q3 => (r5 x1 q3.2)))
theorem bX12_readProduct_39 {N : Nat} {rE : Int32 → gS → Option (Int32 × gS)} {d0 : Nat} {r5 : Int32 → gS → Option (Int32 × gS)} {x1 : Int32} {t0 : Int32} {S : gS} {H : Heap} {locs : List Loc} {ls : Array Slot} {o : Int32 × gS} (C : gC p s m args meth c cX12_readProduct 3 RX12 none D (mtys cI cS) mord g Am) (O : sO (mcell g cI cS (msa aK)) mord g Am aK aV) (hd0 : 10 ≤ d0) (KE : ∀ (x : Int32) (S : gS) (o : Int32 × gS), rE x S = some o → gM l yX12_readExpression cX12_readExpression 3 none d0 D (mtys cI cS) (mcell g cI cS (msa aK)) mord g Am [.ref (g 99), .int x] S none o.2) (K5 : ∀ (x1 : Int32) (S : gS) (H : Heap) (locs : List Loc) (ls : Array Slot), gX D (mcell g cI cS (msa aK)) mord g S s H locs → lv_has ls 3 [(0, .ref (g 99)), (1, .int x1)] → r5 x1 S = some o → W p l e (rmd (d0 + 2)) s m args below meth c H locs 0 0 (gE below args s D (mtys cI cS) (mcell g cI cS (msa aK)) mord g none o.2) (F0 m 5 ls [])) (X : gX D (mcell g cI cS (msa aK)) mord g S s H locs) (hl : lv_has ls 3 [(0, .ref (g 99)), (1, .int x1)]) (hF : fX12_readProduct_b39 N rE r5 x1 t0 S = some o) : W p l e (rmd (d0 + 2)) s m args below meth c H locs 0 0 (gE below args s D (mtys cI cS) (mcell g cI cS (msa aK)) mord g none o.2) (F0 m 39 ls [.int t0]) := by
  unfold fX12_readProduct_b39 at hF
  refine lv_istore_n (lv' := [(2, .int t0), (0, .ref (g 99)), (1, .int x1)]) C.1.1 C.1.2.1 dX12_readProduct_39 rfl hl (by decide) rfl (fun ls hl => ?_)
  refine lv_aload_n C.1.1 C.1.2.1 dX12_readProduct_40 rfl (lv_at hl 1 rfl) ?_
  obtain ⟨q1, hq1, hF⟩ := bnd_some hF
  refine m_callV C X vX12_stepOn rfl (kX12_stepOn O.1 C.2.2.2.2.1 N   S q1 hq1) (by simp only [rmd]; omega) (by simp only [rmd]; omega) (Nat.zero_le _) (Nat.zero_le _) rfl hl.1 rfl (Nat.le_of_ble_eq_true rfl) dX12_readProduct_41 (fun H locs X => ?_)
  refine lv_aload_n C.1.1 C.1.2.1 dX12_readProduct_44 rfl (lv_at hl 1 rfl) ?_
  refine lv_iload_n C.1.1 C.1.2.1 dX12_readProduct_45 rfl (lv_at hl 2 rfl) ?_
  obtain ⟨q2, hq2, hF⟩ := bnd_some hF
  refine m_callV C X vX12_readPart rfl (kX12_readPart O C.2.2.2.2.1 N hd0 KE x1  q1.2 q2 hq2) (by simp only [rmd]; omega) (by simp only [rmd]; omega) (Nat.zero_le _) (Nat.zero_le _) rfl hl.1 rfl (Nat.le_of_ble_eq_true rfl) dX12_readProduct_46 (fun H locs X => ?_)
  refine lv_aload_n C.1.1 C.1.2.1 dX12_readProduct_49 rfl (lv_at hl 1 rfl) ?_
  refine lv_iload_n C.1.1 C.1.2.1 dX12_readProduct_50 rfl (lv_at hl 0 rfl) ?_
  obtain ⟨q3, hq3, hF⟩ := bnd_some hF
  refine m_callV C X vX12_lay rfl (kX12_lay O.1 C.2.2.2.2.1 N t0  q2.2 q3 hq3) (by simp only [rmd]; omega) (by simp only [rmd]; omega) (Nat.zero_le _) (Nat.zero_le _) rfl hl.1 rfl (Nat.le_of_ble_eq_true rfl) dX12_readProduct_51 (fun H locs X => ?_)
  refine lv_goto (tgt := 5) C.1.1 C.1.2.1 dX12_readProduct_54 (by decide) ?_
  exact K5 _ _ _ _ _ X (lv_sub hl [1, 2] rfl) hF
noncomputable def fX12_readProduct_b37 (N : Nat) (rE : Int32 → gS → Option (Int32 × gS)) (r5 : Int32 → gS → Option (Int32 × gS)) (x1 : Int32) (S : gS) : Option (Int32 × gS) := fX12_readProduct_b39 N rE r5 x1 ((-23)) S
theorem bX12_readProduct_37 {N : Nat} {rE : Int32 → gS → Option (Int32 × gS)} {d0 : Nat} {r5 : Int32 → gS → Option (Int32 × gS)} {x1 : Int32} {S : gS} {H : Heap} {locs : List Loc} {ls : Array Slot} {o : Int32 × gS} (C : gC p s m args meth c cX12_readProduct 3 RX12 none D (mtys cI cS) mord g Am) (O : sO (mcell g cI cS (msa aK)) mord g Am aK aV) (hd0 : 10 ≤ d0) (KE : ∀ (x : Int32) (S : gS) (o : Int32 × gS), rE x S = some o → gM l yX12_readExpression cX12_readExpression 3 none d0 D (mtys cI cS) (mcell g cI cS (msa aK)) mord g Am [.ref (g 99), .int x] S none o.2) (K5 : ∀ (x1 : Int32) (S : gS) (H : Heap) (locs : List Loc) (ls : Array Slot), gX D (mcell g cI cS (msa aK)) mord g S s H locs → lv_has ls 3 [(0, .ref (g 99)), (1, .int x1)] → r5 x1 S = some o → W p l e (rmd (d0 + 2)) s m args below meth c H locs 0 0 (gE below args s D (mtys cI cS) (mcell g cI cS (msa aK)) mord g none o.2) (F0 m 5 ls [])) (X : gX D (mcell g cI cS (msa aK)) mord g S s H locs) (hl : lv_has ls 3 [(0, .ref (g 99)), (1, .int x1)]) (hF : fX12_readProduct_b37 N rE r5 x1 S = some o) : W p l e (rmd (d0 + 2)) s m args below meth c H locs 0 0 (gE below args s D (mtys cI cS) (mcell g cI cS (msa aK)) mord g none o.2) (F0 m 37 ls []) := by
  unfold fX12_readProduct_b37 at hF
  refine lv_bipush (v := (-23)) C.1.1 C.1.2.1 dX12_readProduct_37 (by decide) ?_
  exact bX12_readProduct_39 C O hd0 KE K5 X (lv_sub hl [0, 1] rfl) hF
noncomputable def fX12_readProduct_b32 (N : Nat) (rE : Int32 → gS → Option (Int32 × gS)) (r5 : Int32 → gS → Option (Int32 × gS)) (x1 : Int32) (S : gS) : Option (Int32 × gS) := fX12_readProduct_b39 N rE r5 x1 ((-22)) S
theorem bX12_readProduct_32 {N : Nat} {rE : Int32 → gS → Option (Int32 × gS)} {d0 : Nat} {r5 : Int32 → gS → Option (Int32 × gS)} {x1 : Int32} {S : gS} {H : Heap} {locs : List Loc} {ls : Array Slot} {o : Int32 × gS} (C : gC p s m args meth c cX12_readProduct 3 RX12 none D (mtys cI cS) mord g Am) (O : sO (mcell g cI cS (msa aK)) mord g Am aK aV) (hd0 : 10 ≤ d0) (KE : ∀ (x : Int32) (S : gS) (o : Int32 × gS), rE x S = some o → gM l yX12_readExpression cX12_readExpression 3 none d0 D (mtys cI cS) (mcell g cI cS (msa aK)) mord g Am [.ref (g 99), .int x] S none o.2) (K5 : ∀ (x1 : Int32) (S : gS) (H : Heap) (locs : List Loc) (ls : Array Slot), gX D (mcell g cI cS (msa aK)) mord g S s H locs → lv_has ls 3 [(0, .ref (g 99)), (1, .int x1)] → r5 x1 S = some o → W p l e (rmd (d0 + 2)) s m args below meth c H locs 0 0 (gE below args s D (mtys cI cS) (mcell g cI cS (msa aK)) mord g none o.2) (F0 m 5 ls [])) (X : gX D (mcell g cI cS (msa aK)) mord g S s H locs) (hl : lv_has ls 3 [(0, .ref (g 99)), (1, .int x1)]) (hF : fX12_readProduct_b32 N rE r5 x1 S = some o) : W p l e (rmd (d0 + 2)) s m args below meth c H locs 0 0 (gE below args s D (mtys cI cS) (mcell g cI cS (msa aK)) mord g none o.2) (F0 m 32 ls []) := by
  unfold fX12_readProduct_b32 at hF
  refine lv_bipush (v := (-22)) C.1.1 C.1.2.1 dX12_readProduct_32 (by decide) ?_
  refine lv_goto (tgt := 39) C.1.1 C.1.2.1 dX12_readProduct_34 (by decide) ?_
  exact bX12_readProduct_39 C O hd0 KE K5 X (lv_sub hl [0, 1] rfl) hF
noncomputable def fX12_readProduct_b23 (N : Nat) (rE : Int32 → gS → Option (Int32 × gS)) (r5 : Int32 → gS → Option (Int32 × gS)) (x1 : Int32) (S : gS) : Option (Int32 × gS) := bnd (fX12_isMarked N 42 S) fun q1 => (if q1.1 = 0 then fX12_readProduct_b37 N rE r5 x1 q1.2 else fX12_readProduct_b32 N rE r5 x1 q1.2)
theorem bX12_readProduct_23 {N : Nat} {rE : Int32 → gS → Option (Int32 × gS)} {d0 : Nat} {r5 : Int32 → gS → Option (Int32 × gS)} {x1 : Int32} {S : gS} {H : Heap} {locs : List Loc} {ls : Array Slot} {o : Int32 × gS} (C : gC p s m args meth c cX12_readProduct 3 RX12 none D (mtys cI cS) mord g Am) (O : sO (mcell g cI cS (msa aK)) mord g Am aK aV) (hd0 : 10 ≤ d0) (KE : ∀ (x : Int32) (S : gS) (o : Int32 × gS), rE x S = some o → gM l yX12_readExpression cX12_readExpression 3 none d0 D (mtys cI cS) (mcell g cI cS (msa aK)) mord g Am [.ref (g 99), .int x] S none o.2) (K5 : ∀ (x1 : Int32) (S : gS) (H : Heap) (locs : List Loc) (ls : Array Slot), gX D (mcell g cI cS (msa aK)) mord g S s H locs → lv_has ls 3 [(0, .ref (g 99)), (1, .int x1)] → r5 x1 S = some o → W p l e (rmd (d0 + 2)) s m args below meth c H locs 0 0 (gE below args s D (mtys cI cS) (mcell g cI cS (msa aK)) mord g none o.2) (F0 m 5 ls [])) (X : gX D (mcell g cI cS (msa aK)) mord g S s H locs) (hl : lv_has ls 3 [(0, .ref (g 99)), (1, .int x1)]) (hF : fX12_readProduct_b23 N rE r5 x1 S = some o) : W p l e (rmd (d0 + 2)) s m args below meth c H locs 0 0 (gE below args s D (mtys cI cS) (mcell g cI cS (msa aK)) mord g none o.2) (F0 m 23 ls []) := by
  unfold fX12_readProduct_b23 at hF
  refine lv_aload_n C.1.1 C.1.2.1 dX12_readProduct_23 rfl (lv_at hl 0 rfl) ?_
  refine lv_bipush (v := 42) C.1.1 C.1.2.1 dX12_readProduct_24 (by decide) ?_
  obtain ⟨q1, hq1, hF⟩ := bnd_some hF
  refine m_callVi C X vX12_isMarked rfl (kX12_isMarked O.1 C.2.2.2.2.1 N 42  S q1 hq1) (by simp only [rmd]; omega) (by simp only [rmd]; omega) (Nat.zero_le _) (Nat.zero_le _) rfl hl.1 rfl (Nat.le_of_ble_eq_true rfl) dX12_readProduct_26 (fun H locs X => ?_)
  refine lv_if_eq (tgt := 37) C.1.1 C.1.2.1 dX12_readProduct_29 (by decide) (fun h_z => ?_) (fun h_z => ?_)
  · rw [if_pos h_z] at hF
    exact bX12_readProduct_37 C O hd0 KE K5 X (lv_sub hl [0, 1] rfl) hF
  · rw [if_neg h_z] at hF
    exact bX12_readProduct_32 C O hd0 KE K5 X (lv_sub hl [0, 1] rfl) hF
noncomputable def fX12_readProduct_b14 (N : Nat) (rE : Int32 → gS → Option (Int32 × gS)) (r5 : Int32 → gS → Option (Int32 × gS)) (x1 : Int32) (S : gS) : Option (Int32 × gS) := bnd (fX12_isMarked N 47 S) fun q1 => (if q1.1 = 0 then fX12_readProduct_b57 N rE q1.2 else fX12_readProduct_b23 N rE r5 x1 q1.2)
theorem bX12_readProduct_14 {N : Nat} {rE : Int32 → gS → Option (Int32 × gS)} {d0 : Nat} {r5 : Int32 → gS → Option (Int32 × gS)} {x1 : Int32} {S : gS} {H : Heap} {locs : List Loc} {ls : Array Slot} {o : Int32 × gS} (C : gC p s m args meth c cX12_readProduct 3 RX12 none D (mtys cI cS) mord g Am) (O : sO (mcell g cI cS (msa aK)) mord g Am aK aV) (hd0 : 10 ≤ d0) (KE : ∀ (x : Int32) (S : gS) (o : Int32 × gS), rE x S = some o → gM l yX12_readExpression cX12_readExpression 3 none d0 D (mtys cI cS) (mcell g cI cS (msa aK)) mord g Am [.ref (g 99), .int x] S none o.2) (K5 : ∀ (x1 : Int32) (S : gS) (H : Heap) (locs : List Loc) (ls : Array Slot), gX D (mcell g cI cS (msa aK)) mord g S s H locs → lv_has ls 3 [(0, .ref (g 99)), (1, .int x1)] → r5 x1 S = some o → W p l e (rmd (d0 + 2)) s m args below meth c H locs 0 0 (gE below args s D (mtys cI cS) (mcell g cI cS (msa aK)) mord g none o.2) (F0 m 5 ls [])) (X : gX D (mcell g cI cS (msa aK)) mord g S s H locs) (hl : lv_has ls 3 [(0, .ref (g 99)), (1, .int x1)]) (hF : fX12_readProduct_b14 N rE r5 x1 S = some o) : W p l e (rmd (d0 + 2)) s m args below meth c H locs 0 0 (gE below args s D (mtys cI cS) (mcell g cI cS (msa aK)) mord g none o.2) (F0 m 14 ls []) := by
  unfold fX12_readProduct_b14 at hF
  refine lv_aload_n C.1.1 C.1.2.1 dX12_readProduct_14 rfl (lv_at hl 0 rfl) ?_
  refine lv_bipush (v := 47) C.1.1 C.1.2.1 dX12_readProduct_15 (by decide) ?_
  obtain ⟨q1, hq1, hF⟩ := bnd_some hF
  refine m_callVi C X vX12_isMarked rfl (kX12_isMarked O.1 C.2.2.2.2.1 N 47  S q1 hq1) (by simp only [rmd]; omega) (by simp only [rmd]; omega) (Nat.zero_le _) (Nat.zero_le _) rfl hl.1 rfl (Nat.le_of_ble_eq_true rfl) dX12_readProduct_17 (fun H locs X => ?_)
  refine lv_if_eq (tgt := 57) C.1.1 C.1.2.1 dX12_readProduct_20 (by decide) (fun h_z => ?_) (fun h_z => ?_)
  · rw [if_pos h_z] at hF
    exact bX12_readProduct_57 C O hd0 KE X (lv_sub hl [] rfl) hF
  · rw [if_neg h_z] at hF
    exact bX12_readProduct_23 C O hd0 KE K5 X (lv_sub hl [0, 1] rfl) hF
noncomputable def fX12_readProduct_b5 (N : Nat) (rE : Int32 → gS → Option (Int32 × gS)) (r5 : Int32 → gS → Option (Int32 × gS)) (x1 : Int32) (S : gS) : Option (Int32 × gS) := bnd (fX12_isMarked N 42 S) fun q1 => (if q1.1 = 0 then fX12_readProduct_b14 N rE r5 x1 q1.2 else fX12_readProduct_b23 N rE r5 x1 q1.2)
theorem bX12_readProduct_5 {N : Nat} {rE : Int32 → gS → Option (Int32 × gS)} {d0 : Nat} {r5 : Int32 → gS → Option (Int32 × gS)} {x1 : Int32} {S : gS} {H : Heap} {locs : List Loc} {ls : Array Slot} {o : Int32 × gS} (C : gC p s m args meth c cX12_readProduct 3 RX12 none D (mtys cI cS) mord g Am) (O : sO (mcell g cI cS (msa aK)) mord g Am aK aV) (hd0 : 10 ≤ d0) (KE : ∀ (x : Int32) (S : gS) (o : Int32 × gS), rE x S = some o → gM l yX12_readExpression cX12_readExpression 3 none d0 D (mtys cI cS) (mcell g cI cS (msa aK)) mord g Am [.ref (g 99), .int x] S none o.2) (K5 : ∀ (x1 : Int32) (S : gS) (H : Heap) (locs : List Loc) (ls : Array Slot), gX D (mcell g cI cS (msa aK)) mord g S s H locs → lv_has ls 3 [(0, .ref (g 99)), (1, .int x1)] → r5 x1 S = some o → W p l e (rmd (d0 + 2)) s m args below meth c H locs 0 0 (gE below args s D (mtys cI cS) (mcell g cI cS (msa aK)) mord g none o.2) (F0 m 5 ls [])) (X : gX D (mcell g cI cS (msa aK)) mord g S s H locs) (hl : lv_has ls 3 [(0, .ref (g 99)), (1, .int x1)]) (hF : fX12_readProduct_b5 N rE r5 x1 S = some o) : W p l e (rmd (d0 + 2)) s m args below meth c H locs 0 0 (gE below args s D (mtys cI cS) (mcell g cI cS (msa aK)) mord g none o.2) (F0 m 5 ls []) := by
  unfold fX12_readProduct_b5 at hF
  refine lv_aload_n C.1.1 C.1.2.1 dX12_readProduct_5 rfl (lv_at hl 0 rfl) ?_
  refine lv_bipush (v := 42) C.1.1 C.1.2.1 dX12_readProduct_6 (by decide) ?_
  obtain ⟨q1, hq1, hF⟩ := bnd_some hF
  refine m_callVi C X vX12_isMarked rfl (kX12_isMarked O.1 C.2.2.2.2.1 N 42  S q1 hq1) (by simp only [rmd]; omega) (by simp only [rmd]; omega) (Nat.zero_le _) (Nat.zero_le _) rfl hl.1 rfl (Nat.le_of_ble_eq_true rfl) dX12_readProduct_8 (fun H locs X => ?_)
  refine lv_if_ne (tgt := 23) C.1.1 C.1.2.1 dX12_readProduct_11 (by decide) (fun h_z => ?_) (fun h_z => ?_)
  · rw [if_neg h_z] at hF
    exact bX12_readProduct_23 C O hd0 KE K5 X (lv_sub hl [0, 1] rfl) hF
  · rw [if_pos h_z] at hF
    exact bX12_readProduct_14 C O hd0 KE K5 X (lv_sub hl [0, 1] rfl) hF
noncomputable def fX12_readProduct_h5 (N : Nat) (rE : Int32 → gS → Option (Int32 × gS)) : Nat → Int32 → gS → Option (Int32 × gS)
  | 0, _, _ => none
  | n + 1, x1, S => fX12_readProduct_b5 N rE (fX12_readProduct_h5 N rE n) x1 S
theorem hX12_readProduct_5 {N : Nat} {rE : Int32 → gS → Option (Int32 × gS)} {d0 : Nat} {o : Int32 × gS} (C : gC p s m args meth c cX12_readProduct 3 RX12 none D (mtys cI cS) mord g Am) (O : sO (mcell g cI cS (msa aK)) mord g Am aK aV) (hd0 : 10 ≤ d0) (KE : ∀ (x : Int32) (S : gS) (o : Int32 × gS), rE x S = some o → gM l yX12_readExpression cX12_readExpression 3 none d0 D (mtys cI cS) (mcell g cI cS (msa aK)) mord g Am [.ref (g 99), .int x] S none o.2) : ∀ (n : Nat) (x1 : Int32) (S : gS) (H : Heap) (locs : List Loc) (ls : Array Slot), gX D (mcell g cI cS (msa aK)) mord g S s H locs → lv_has ls 3 [(0, .ref (g 99)), (1, .int x1)] → fX12_readProduct_h5 N rE n x1 S = some o → W p l e (rmd (d0 + 2)) s m args below meth c H locs 0 0 (gE below args s D (mtys cI cS) (mcell g cI cS (msa aK)) mord g none o.2) (F0 m 5 ls []) := by
  intro n
  induction n with
  | zero =>
    intro x1 S H locs ls X hl hF
    exact absurd (show (none : Option (Int32 × gS)) = some o from hF) (by simp)
  | succ n ih =>
    intro x1 S H locs ls X hl hF
    have hF : fX12_readProduct_b5 N rE (fX12_readProduct_h5 N rE n) x1 S = some o := hF
    exact bX12_readProduct_5 C O hd0 KE ih X hl hF
noncomputable def fX12_readProduct_b0 (N : Nat) (rE : Int32 → gS → Option (Int32 × gS)) (x1 : Int32) (S : gS) : Option (Int32 × gS) := bnd (fX12_readPart N rE x1 S) fun q1 => (fX12_readProduct_h5 N rE N x1 q1.2)
theorem bX12_readProduct_0 {N : Nat} {rE : Int32 → gS → Option (Int32 × gS)} {d0 : Nat} {x1 : Int32} {S : gS} {H : Heap} {locs : List Loc} {ls : Array Slot} {o : Int32 × gS} (C : gC p s m args meth c cX12_readProduct 3 RX12 none D (mtys cI cS) mord g Am) (O : sO (mcell g cI cS (msa aK)) mord g Am aK aV) (hd0 : 10 ≤ d0) (KE : ∀ (x : Int32) (S : gS) (o : Int32 × gS), rE x S = some o → gM l yX12_readExpression cX12_readExpression 3 none d0 D (mtys cI cS) (mcell g cI cS (msa aK)) mord g Am [.ref (g 99), .int x] S none o.2) (X : gX D (mcell g cI cS (msa aK)) mord g S s H locs) (hl : lv_has ls 3 [(0, .ref (g 99)), (1, .int x1)]) (hF : fX12_readProduct_b0 N rE x1 S = some o) : W p l e (rmd (d0 + 2)) s m args below meth c H locs 0 0 (gE below args s D (mtys cI cS) (mcell g cI cS (msa aK)) mord g none o.2) (F0 m 0 ls []) := by
  unfold fX12_readProduct_b0 at hF
  refine lv_aload_n C.1.1 C.1.2.1 dX12_readProduct_0 rfl (lv_at hl 0 rfl) ?_
  refine lv_iload_n C.1.1 C.1.2.1 dX12_readProduct_1 rfl (lv_at hl 1 rfl) ?_
  obtain ⟨q1, hq1, hF⟩ := bnd_some hF
  refine m_callV C X vX12_readPart rfl (kX12_readPart O C.2.2.2.2.1 N hd0 KE x1  S q1 hq1) (by simp only [rmd]; omega) (by simp only [rmd]; omega) (Nat.zero_le _) (Nat.zero_le _) rfl hl.1 rfl (Nat.le_of_ble_eq_true rfl) dX12_readProduct_2 (fun H locs X => ?_)
  exact hX12_readProduct_5 C O hd0 KE N _ _ _ _ _ X (lv_sub hl [0, 1] rfl) hF
noncomputable def fX12_readProduct (N : Nat) (rE : Int32 → gS → Option (Int32 × gS)) (x1 : Int32) (S : gS) : Option (Int32 × gS) := fX12_readProduct_b0 N rE x1 S
theorem kX12_readProduct {l : Launch} {D : va_G} {g : Nat → Nat} {cI cS : ClassId} {Am : (Nat → Prop) → State → Heap → Prop} {aK aV : Nat → Nat} (O : sO (mcell g cI cS (msa aK)) mord g Am aK aV) (P : gAm Am) (N : Nat) {rE : Int32 → gS → Option (Int32 × gS)} {d0 : Nat} (hd0 : 10 ≤ d0) (KE : ∀ (x : Int32) (S : gS) (o : Int32 × gS), rE x S = some o → gM l yX12_readExpression cX12_readExpression 3 none d0 D (mtys cI cS) (mcell g cI cS (msa aK)) mord g Am [.ref (g 99), .int x] S none o.2) (x1 : Int32) (S : gS) (o : Int32 × gS) (hF : fX12_readProduct N rE x1 S = some o) : gM l yX12_readProduct cX12_readProduct 3 none (d0 + 2) D (mtys cI cS) (mcell g cI cS (msa aK)) mord g Am [.ref (g 99), .int x1] S none o.2 :=
  gM_of O.1 P (by decide) (Nat.le_of_ble_eq_true rfl) (fun p e s m args below meth c ls C X hl => bX12_readProduct_0 C O hd0 KE X (lv_sub hl [0, 1] rfl) hF)
-- readSum
noncomputable def fX12_readSum_b57 (N : Nat) (rE : Int32 → gS → Option (Int32 × gS)) (S : gS) : Option (Int32 × gS) := some (0, S)
theorem bX12_readSum_57 {N : Nat} {rE : Int32 → gS → Option (Int32 × gS)} {d0 : Nat} {S : gS} {H : Heap} {locs : List Loc} {ls : Array Slot} {o : Int32 × gS} (C : gC p s m args meth c cX12_readSum 3 RX12 none D (mtys cI cS) mord g Am) (O : sO (mcell g cI cS (msa aK)) mord g Am aK aV) (hd0 : 10 ≤ d0) (KE : ∀ (x : Int32) (S : gS) (o : Int32 × gS), rE x S = some o → gM l yX12_readExpression cX12_readExpression 3 none d0 D (mtys cI cS) (mcell g cI cS (msa aK)) mord g Am [.ref (g 99), .int x] S none o.2) (X : gX D (mcell g cI cS (msa aK)) mord g S s H locs) (hl : lv_has ls 3 []) (hF : fX12_readSum_b57 N rE S = some o) : W p l e (rmd (d0 + 3)) s m args below meth c H locs 0 0 (gE below args s D (mtys cI cS) (mcell g cI cS (msa aK)) mord g none o.2) (F0 m 57 ls []) := by
  unfold fX12_readSum_b57 at hF
  cases hF
  exact g_vret C X dX12_readSum_57
noncomputable def fX12_readSum_b39 (N : Nat) (rE : Int32 → gS → Option (Int32 × gS)) (r5 : Int32 → gS → Option (Int32 × gS)) (x1 : Int32) (t0 : Int32) (S : gS) : Option (Int32 × gS) := bnd (fX12_stepOn N  S) fun q1 => (bnd (fX12_readProduct N rE x1 q1.2) fun q2 => (bnd (fX12_lay N t0 q2.2) fun q3 => (r5 x1 q3.2)))
theorem bX12_readSum_39 {N : Nat} {rE : Int32 → gS → Option (Int32 × gS)} {d0 : Nat} {r5 : Int32 → gS → Option (Int32 × gS)} {x1 : Int32} {t0 : Int32} {S : gS} {H : Heap} {locs : List Loc} {ls : Array Slot} {o : Int32 × gS} (C : gC p s m args meth c cX12_readSum 3 RX12 none D (mtys cI cS) mord g Am) (O : sO (mcell g cI cS (msa aK)) mord g Am aK aV) (hd0 : 10 ≤ d0) (KE : ∀ (x : Int32) (S : gS) (o : Int32 × gS), rE x S = some o → gM l yX12_readExpression cX12_readExpression 3 none d0 D (mtys cI cS) (mcell g cI cS (msa aK)) mord g Am [.ref (g 99), .int x] S none o.2) (K5 : ∀ (x1 : Int32) (S : gS) (H : Heap) (locs : List Loc) (ls : Array Slot), gX D (mcell g cI cS (msa aK)) mord g S s H locs → lv_has ls 3 [(0, .ref (g 99)), (1, .int x1)] → r5 x1 S = some o → W p l e (rmd (d0 + 3)) s m args below meth c H locs 0 0 (gE below args s D (mtys cI cS) (mcell g cI cS (msa aK)) mord g none o.2) (F0 m 5 ls [])) (X : gX D (mcell g cI cS (msa aK)) mord g S s H locs) (hl : lv_has ls 3 [(0, .ref (g 99)), (1, .int x1)]) (hF : fX12_readSum_b39 N rE r5 x1 t0 S = some o) : W p l e (rmd (d0 + 3)) s m args below meth c H locs 0 0 (gE below args s D (mtys cI cS) (mcell g cI cS (msa aK)) mord g none o.2) (F0 m 39 ls [.int t0]) := by
  unfold fX12_readSum_b39 at hF
  refine lv_istore_n (lv' := [(2, .int t0), (0, .ref (g 99)), (1, .int x1)]) C.1.1 C.1.2.1 dX12_readSum_39 rfl hl (by decide) rfl (fun ls hl => ?_)
  refine lv_aload_n C.1.1 C.1.2.1 dX12_readSum_40 rfl (lv_at hl 1 rfl) ?_
  obtain ⟨q1, hq1, hF⟩ := bnd_some hF
  refine m_callV C X vX12_stepOn rfl (kX12_stepOn O.1 C.2.2.2.2.1 N   S q1 hq1) (by simp only [rmd]; omega) (by simp only [rmd]; omega) (Nat.zero_le _) (Nat.zero_le _) rfl hl.1 rfl (Nat.le_of_ble_eq_true rfl) dX12_readSum_41 (fun H locs X => ?_)
  refine lv_aload_n C.1.1 C.1.2.1 dX12_readSum_44 rfl (lv_at hl 1 rfl) ?_
  refine lv_iload_n C.1.1 C.1.2.1 dX12_readSum_45 rfl (lv_at hl 2 rfl) ?_
  obtain ⟨q2, hq2, hF⟩ := bnd_some hF
  refine m_callV C X vX12_readProduct rfl (kX12_readProduct O C.2.2.2.2.1 N hd0 KE x1  q1.2 q2 hq2) (by simp only [rmd]; omega) (by simp only [rmd]; omega) (Nat.zero_le _) (Nat.zero_le _) rfl hl.1 rfl (Nat.le_of_ble_eq_true rfl) dX12_readSum_46 (fun H locs X => ?_)
  refine lv_aload_n C.1.1 C.1.2.1 dX12_readSum_49 rfl (lv_at hl 1 rfl) ?_
  refine lv_iload_n C.1.1 C.1.2.1 dX12_readSum_50 rfl (lv_at hl 0 rfl) ?_
  obtain ⟨q3, hq3, hF⟩ := bnd_some hF
  refine m_callV C X vX12_lay rfl (kX12_lay O.1 C.2.2.2.2.1 N t0  q2.2 q3 hq3) (by simp only [rmd]; omega) (by simp only [rmd]; omega) (Nat.zero_le _) (Nat.zero_le _) rfl hl.1 rfl (Nat.le_of_ble_eq_true rfl) dX12_readSum_51 (fun H locs X => ?_)
  refine lv_goto (tgt := 5) C.1.1 C.1.2.1 dX12_readSum_54 (by decide) ?_
  exact K5 _ _ _ _ _ X (lv_sub hl [1, 2] rfl) hF
noncomputable def fX12_readSum_b37 (N : Nat) (rE : Int32 → gS → Option (Int32 × gS)) (r5 : Int32 → gS → Option (Int32 × gS)) (x1 : Int32) (S : gS) : Option (Int32 × gS) := fX12_readSum_b39 N rE r5 x1 ((-21)) S
theorem bX12_readSum_37 {N : Nat} {rE : Int32 → gS → Option (Int32 × gS)} {d0 : Nat} {r5 : Int32 → gS → Option (Int32 × gS)} {x1 : Int32} {S : gS} {H : Heap} {locs : List Loc} {ls : Array Slot} {o : Int32 × gS} (C : gC p s m args meth c cX12_readSum 3 RX12 none D (mtys cI cS) mord g Am) (O : sO (mcell g cI cS (msa aK)) mord g Am aK aV) (hd0 : 10 ≤ d0) (KE : ∀ (x : Int32) (S : gS) (o : Int32 × gS), rE x S = some o → gM l yX12_readExpression cX12_readExpression 3 none d0 D (mtys cI cS) (mcell g cI cS (msa aK)) mord g Am [.ref (g 99), .int x] S none o.2) (K5 : ∀ (x1 : Int32) (S : gS) (H : Heap) (locs : List Loc) (ls : Array Slot), gX D (mcell g cI cS (msa aK)) mord g S s H locs → lv_has ls 3 [(0, .ref (g 99)), (1, .int x1)] → r5 x1 S = some o → W p l e (rmd (d0 + 3)) s m args below meth c H locs 0 0 (gE below args s D (mtys cI cS) (mcell g cI cS (msa aK)) mord g none o.2) (F0 m 5 ls [])) (X : gX D (mcell g cI cS (msa aK)) mord g S s H locs) (hl : lv_has ls 3 [(0, .ref (g 99)), (1, .int x1)]) (hF : fX12_readSum_b37 N rE r5 x1 S = some o) : W p l e (rmd (d0 + 3)) s m args below meth c H locs 0 0 (gE below args s D (mtys cI cS) (mcell g cI cS (msa aK)) mord g none o.2) (F0 m 37 ls []) := by
  unfold fX12_readSum_b37 at hF
  refine lv_bipush (v := (-21)) C.1.1 C.1.2.1 dX12_readSum_37 (by decide) ?_
  exact bX12_readSum_39 C O hd0 KE K5 X (lv_sub hl [0, 1] rfl) hF
noncomputable def fX12_readSum_b32 (N : Nat) (rE : Int32 → gS → Option (Int32 × gS)) (r5 : Int32 → gS → Option (Int32 × gS)) (x1 : Int32) (S : gS) : Option (Int32 × gS) := fX12_readSum_b39 N rE r5 x1 ((-20)) S
theorem bX12_readSum_32 {N : Nat} {rE : Int32 → gS → Option (Int32 × gS)} {d0 : Nat} {r5 : Int32 → gS → Option (Int32 × gS)} {x1 : Int32} {S : gS} {H : Heap} {locs : List Loc} {ls : Array Slot} {o : Int32 × gS} (C : gC p s m args meth c cX12_readSum 3 RX12 none D (mtys cI cS) mord g Am) (O : sO (mcell g cI cS (msa aK)) mord g Am aK aV) (hd0 : 10 ≤ d0) (KE : ∀ (x : Int32) (S : gS) (o : Int32 × gS), rE x S = some o → gM l yX12_readExpression cX12_readExpression 3 none d0 D (mtys cI cS) (mcell g cI cS (msa aK)) mord g Am [.ref (g 99), .int x] S none o.2) (K5 : ∀ (x1 : Int32) (S : gS) (H : Heap) (locs : List Loc) (ls : Array Slot), gX D (mcell g cI cS (msa aK)) mord g S s H locs → lv_has ls 3 [(0, .ref (g 99)), (1, .int x1)] → r5 x1 S = some o → W p l e (rmd (d0 + 3)) s m args below meth c H locs 0 0 (gE below args s D (mtys cI cS) (mcell g cI cS (msa aK)) mord g none o.2) (F0 m 5 ls [])) (X : gX D (mcell g cI cS (msa aK)) mord g S s H locs) (hl : lv_has ls 3 [(0, .ref (g 99)), (1, .int x1)]) (hF : fX12_readSum_b32 N rE r5 x1 S = some o) : W p l e (rmd (d0 + 3)) s m args below meth c H locs 0 0 (gE below args s D (mtys cI cS) (mcell g cI cS (msa aK)) mord g none o.2) (F0 m 32 ls []) := by
  unfold fX12_readSum_b32 at hF
  refine lv_bipush (v := (-20)) C.1.1 C.1.2.1 dX12_readSum_32 (by decide) ?_
  refine lv_goto (tgt := 39) C.1.1 C.1.2.1 dX12_readSum_34 (by decide) ?_
  exact bX12_readSum_39 C O hd0 KE K5 X (lv_sub hl [0, 1] rfl) hF
noncomputable def fX12_readSum_b23 (N : Nat) (rE : Int32 → gS → Option (Int32 × gS)) (r5 : Int32 → gS → Option (Int32 × gS)) (x1 : Int32) (S : gS) : Option (Int32 × gS) := bnd (fX12_isMarked N 43 S) fun q1 => (if q1.1 = 0 then fX12_readSum_b37 N rE r5 x1 q1.2 else fX12_readSum_b32 N rE r5 x1 q1.2)
theorem bX12_readSum_23 {N : Nat} {rE : Int32 → gS → Option (Int32 × gS)} {d0 : Nat} {r5 : Int32 → gS → Option (Int32 × gS)} {x1 : Int32} {S : gS} {H : Heap} {locs : List Loc} {ls : Array Slot} {o : Int32 × gS} (C : gC p s m args meth c cX12_readSum 3 RX12 none D (mtys cI cS) mord g Am) (O : sO (mcell g cI cS (msa aK)) mord g Am aK aV) (hd0 : 10 ≤ d0) (KE : ∀ (x : Int32) (S : gS) (o : Int32 × gS), rE x S = some o → gM l yX12_readExpression cX12_readExpression 3 none d0 D (mtys cI cS) (mcell g cI cS (msa aK)) mord g Am [.ref (g 99), .int x] S none o.2) (K5 : ∀ (x1 : Int32) (S : gS) (H : Heap) (locs : List Loc) (ls : Array Slot), gX D (mcell g cI cS (msa aK)) mord g S s H locs → lv_has ls 3 [(0, .ref (g 99)), (1, .int x1)] → r5 x1 S = some o → W p l e (rmd (d0 + 3)) s m args below meth c H locs 0 0 (gE below args s D (mtys cI cS) (mcell g cI cS (msa aK)) mord g none o.2) (F0 m 5 ls [])) (X : gX D (mcell g cI cS (msa aK)) mord g S s H locs) (hl : lv_has ls 3 [(0, .ref (g 99)), (1, .int x1)]) (hF : fX12_readSum_b23 N rE r5 x1 S = some o) : W p l e (rmd (d0 + 3)) s m args below meth c H locs 0 0 (gE below args s D (mtys cI cS) (mcell g cI cS (msa aK)) mord g none o.2) (F0 m 23 ls []) := by
  unfold fX12_readSum_b23 at hF
  refine lv_aload_n C.1.1 C.1.2.1 dX12_readSum_23 rfl (lv_at hl 0 rfl) ?_
  refine lv_bipush (v := 43) C.1.1 C.1.2.1 dX12_readSum_24 (by decide) ?_
  obtain ⟨q1, hq1, hF⟩ := bnd_some hF
  refine m_callVi C X vX12_isMarked rfl (kX12_isMarked O.1 C.2.2.2.2.1 N 43  S q1 hq1) (by simp only [rmd]; omega) (by simp only [rmd]; omega) (Nat.zero_le _) (Nat.zero_le _) rfl hl.1 rfl (Nat.le_of_ble_eq_true rfl) dX12_readSum_26 (fun H locs X => ?_)
  refine lv_if_eq (tgt := 37) C.1.1 C.1.2.1 dX12_readSum_29 (by decide) (fun h_z => ?_) (fun h_z => ?_)
  · rw [if_pos h_z] at hF
    exact bX12_readSum_37 C O hd0 KE K5 X (lv_sub hl [0, 1] rfl) hF
  · rw [if_neg h_z] at hF
    exact bX12_readSum_32 C O hd0 KE K5 X (lv_sub hl [0, 1] rfl) hF
noncomputable def fX12_readSum_b14 (N : Nat) (rE : Int32 → gS → Option (Int32 × gS)) (r5 : Int32 → gS → Option (Int32 × gS)) (x1 : Int32) (S : gS) : Option (Int32 × gS) := bnd (fX12_isMarked N 45 S) fun q1 => (if q1.1 = 0 then fX12_readSum_b57 N rE q1.2 else fX12_readSum_b23 N rE r5 x1 q1.2)
theorem bX12_readSum_14 {N : Nat} {rE : Int32 → gS → Option (Int32 × gS)} {d0 : Nat} {r5 : Int32 → gS → Option (Int32 × gS)} {x1 : Int32} {S : gS} {H : Heap} {locs : List Loc} {ls : Array Slot} {o : Int32 × gS} (C : gC p s m args meth c cX12_readSum 3 RX12 none D (mtys cI cS) mord g Am) (O : sO (mcell g cI cS (msa aK)) mord g Am aK aV) (hd0 : 10 ≤ d0) (KE : ∀ (x : Int32) (S : gS) (o : Int32 × gS), rE x S = some o → gM l yX12_readExpression cX12_readExpression 3 none d0 D (mtys cI cS) (mcell g cI cS (msa aK)) mord g Am [.ref (g 99), .int x] S none o.2) (K5 : ∀ (x1 : Int32) (S : gS) (H : Heap) (locs : List Loc) (ls : Array Slot), gX D (mcell g cI cS (msa aK)) mord g S s H locs → lv_has ls 3 [(0, .ref (g 99)), (1, .int x1)] → r5 x1 S = some o → W p l e (rmd (d0 + 3)) s m args below meth c H locs 0 0 (gE below args s D (mtys cI cS) (mcell g cI cS (msa aK)) mord g none o.2) (F0 m 5 ls [])) (X : gX D (mcell g cI cS (msa aK)) mord g S s H locs) (hl : lv_has ls 3 [(0, .ref (g 99)), (1, .int x1)]) (hF : fX12_readSum_b14 N rE r5 x1 S = some o) : W p l e (rmd (d0 + 3)) s m args below meth c H locs 0 0 (gE below args s D (mtys cI cS) (mcell g cI cS (msa aK)) mord g none o.2) (F0 m 14 ls []) := by
  unfold fX12_readSum_b14 at hF
  refine lv_aload_n C.1.1 C.1.2.1 dX12_readSum_14 rfl (lv_at hl 0 rfl) ?_
  refine lv_bipush (v := 45) C.1.1 C.1.2.1 dX12_readSum_15 (by decide) ?_
  obtain ⟨q1, hq1, hF⟩ := bnd_some hF
  refine m_callVi C X vX12_isMarked rfl (kX12_isMarked O.1 C.2.2.2.2.1 N 45  S q1 hq1) (by simp only [rmd]; omega) (by simp only [rmd]; omega) (Nat.zero_le _) (Nat.zero_le _) rfl hl.1 rfl (Nat.le_of_ble_eq_true rfl) dX12_readSum_17 (fun H locs X => ?_)
  refine lv_if_eq (tgt := 57) C.1.1 C.1.2.1 dX12_readSum_20 (by decide) (fun h_z => ?_) (fun h_z => ?_)
  · rw [if_pos h_z] at hF
    exact bX12_readSum_57 C O hd0 KE X (lv_sub hl [] rfl) hF
  · rw [if_neg h_z] at hF
    exact bX12_readSum_23 C O hd0 KE K5 X (lv_sub hl [0, 1] rfl) hF
noncomputable def fX12_readSum_b5 (N : Nat) (rE : Int32 → gS → Option (Int32 × gS)) (r5 : Int32 → gS → Option (Int32 × gS)) (x1 : Int32) (S : gS) : Option (Int32 × gS) := bnd (fX12_isMarked N 43 S) fun q1 => (if q1.1 = 0 then fX12_readSum_b14 N rE r5 x1 q1.2 else fX12_readSum_b23 N rE r5 x1 q1.2)
theorem bX12_readSum_5 {N : Nat} {rE : Int32 → gS → Option (Int32 × gS)} {d0 : Nat} {r5 : Int32 → gS → Option (Int32 × gS)} {x1 : Int32} {S : gS} {H : Heap} {locs : List Loc} {ls : Array Slot} {o : Int32 × gS} (C : gC p s m args meth c cX12_readSum 3 RX12 none D (mtys cI cS) mord g Am) (O : sO (mcell g cI cS (msa aK)) mord g Am aK aV) (hd0 : 10 ≤ d0) (KE : ∀ (x : Int32) (S : gS) (o : Int32 × gS), rE x S = some o → gM l yX12_readExpression cX12_readExpression 3 none d0 D (mtys cI cS) (mcell g cI cS (msa aK)) mord g Am [.ref (g 99), .int x] S none o.2) (K5 : ∀ (x1 : Int32) (S : gS) (H : Heap) (locs : List Loc) (ls : Array Slot), gX D (mcell g cI cS (msa aK)) mord g S s H locs → lv_has ls 3 [(0, .ref (g 99)), (1, .int x1)] → r5 x1 S = some o → W p l e (rmd (d0 + 3)) s m args below meth c H locs 0 0 (gE below args s D (mtys cI cS) (mcell g cI cS (msa aK)) mord g none o.2) (F0 m 5 ls [])) (X : gX D (mcell g cI cS (msa aK)) mord g S s H locs) (hl : lv_has ls 3 [(0, .ref (g 99)), (1, .int x1)]) (hF : fX12_readSum_b5 N rE r5 x1 S = some o) : W p l e (rmd (d0 + 3)) s m args below meth c H locs 0 0 (gE below args s D (mtys cI cS) (mcell g cI cS (msa aK)) mord g none o.2) (F0 m 5 ls []) := by
  unfold fX12_readSum_b5 at hF
  refine lv_aload_n C.1.1 C.1.2.1 dX12_readSum_5 rfl (lv_at hl 0 rfl) ?_
  refine lv_bipush (v := 43) C.1.1 C.1.2.1 dX12_readSum_6 (by decide) ?_
  obtain ⟨q1, hq1, hF⟩ := bnd_some hF
  refine m_callVi C X vX12_isMarked rfl (kX12_isMarked O.1 C.2.2.2.2.1 N 43  S q1 hq1) (by simp only [rmd]; omega) (by simp only [rmd]; omega) (Nat.zero_le _) (Nat.zero_le _) rfl hl.1 rfl (Nat.le_of_ble_eq_true rfl) dX12_readSum_8 (fun H locs X => ?_)
  refine lv_if_ne (tgt := 23) C.1.1 C.1.2.1 dX12_readSum_11 (by decide) (fun h_z => ?_) (fun h_z => ?_)
  · rw [if_neg h_z] at hF
    exact bX12_readSum_23 C O hd0 KE K5 X (lv_sub hl [0, 1] rfl) hF
  · rw [if_pos h_z] at hF
    exact bX12_readSum_14 C O hd0 KE K5 X (lv_sub hl [0, 1] rfl) hF
noncomputable def fX12_readSum_h5 (N : Nat) (rE : Int32 → gS → Option (Int32 × gS)) : Nat → Int32 → gS → Option (Int32 × gS)
  | 0, _, _ => none
  | n + 1, x1, S => fX12_readSum_b5 N rE (fX12_readSum_h5 N rE n) x1 S
theorem hX12_readSum_5 {N : Nat} {rE : Int32 → gS → Option (Int32 × gS)} {d0 : Nat} {o : Int32 × gS} (C : gC p s m args meth c cX12_readSum 3 RX12 none D (mtys cI cS) mord g Am) (O : sO (mcell g cI cS (msa aK)) mord g Am aK aV) (hd0 : 10 ≤ d0) (KE : ∀ (x : Int32) (S : gS) (o : Int32 × gS), rE x S = some o → gM l yX12_readExpression cX12_readExpression 3 none d0 D (mtys cI cS) (mcell g cI cS (msa aK)) mord g Am [.ref (g 99), .int x] S none o.2) : ∀ (n : Nat) (x1 : Int32) (S : gS) (H : Heap) (locs : List Loc) (ls : Array Slot), gX D (mcell g cI cS (msa aK)) mord g S s H locs → lv_has ls 3 [(0, .ref (g 99)), (1, .int x1)] → fX12_readSum_h5 N rE n x1 S = some o → W p l e (rmd (d0 + 3)) s m args below meth c H locs 0 0 (gE below args s D (mtys cI cS) (mcell g cI cS (msa aK)) mord g none o.2) (F0 m 5 ls []) := by
  intro n
  induction n with
  | zero =>
    intro x1 S H locs ls X hl hF
    exact absurd (show (none : Option (Int32 × gS)) = some o from hF) (by simp)
  | succ n ih =>
    intro x1 S H locs ls X hl hF
    have hF : fX12_readSum_b5 N rE (fX12_readSum_h5 N rE n) x1 S = some o := hF
    exact bX12_readSum_5 C O hd0 KE ih X hl hF
noncomputable def fX12_readSum_b0 (N : Nat) (rE : Int32 → gS → Option (Int32 × gS)) (x1 : Int32) (S : gS) : Option (Int32 × gS) := bnd (fX12_readProduct N rE x1 S) fun q1 => (fX12_readSum_h5 N rE N x1 q1.2)
theorem bX12_readSum_0 {N : Nat} {rE : Int32 → gS → Option (Int32 × gS)} {d0 : Nat} {x1 : Int32} {S : gS} {H : Heap} {locs : List Loc} {ls : Array Slot} {o : Int32 × gS} (C : gC p s m args meth c cX12_readSum 3 RX12 none D (mtys cI cS) mord g Am) (O : sO (mcell g cI cS (msa aK)) mord g Am aK aV) (hd0 : 10 ≤ d0) (KE : ∀ (x : Int32) (S : gS) (o : Int32 × gS), rE x S = some o → gM l yX12_readExpression cX12_readExpression 3 none d0 D (mtys cI cS) (mcell g cI cS (msa aK)) mord g Am [.ref (g 99), .int x] S none o.2) (X : gX D (mcell g cI cS (msa aK)) mord g S s H locs) (hl : lv_has ls 3 [(0, .ref (g 99)), (1, .int x1)]) (hF : fX12_readSum_b0 N rE x1 S = some o) : W p l e (rmd (d0 + 3)) s m args below meth c H locs 0 0 (gE below args s D (mtys cI cS) (mcell g cI cS (msa aK)) mord g none o.2) (F0 m 0 ls []) := by
  unfold fX12_readSum_b0 at hF
  refine lv_aload_n C.1.1 C.1.2.1 dX12_readSum_0 rfl (lv_at hl 0 rfl) ?_
  refine lv_iload_n C.1.1 C.1.2.1 dX12_readSum_1 rfl (lv_at hl 1 rfl) ?_
  obtain ⟨q1, hq1, hF⟩ := bnd_some hF
  refine m_callV C X vX12_readProduct rfl (kX12_readProduct O C.2.2.2.2.1 N hd0 KE x1  S q1 hq1) (by simp only [rmd]; omega) (by simp only [rmd]; omega) (Nat.zero_le _) (Nat.zero_le _) rfl hl.1 rfl (Nat.le_of_ble_eq_true rfl) dX12_readSum_2 (fun H locs X => ?_)
  exact hX12_readSum_5 C O hd0 KE N _ _ _ _ _ X (lv_sub hl [0, 1] rfl) hF
noncomputable def fX12_readSum (N : Nat) (rE : Int32 → gS → Option (Int32 × gS)) (x1 : Int32) (S : gS) : Option (Int32 × gS) := fX12_readSum_b0 N rE x1 S
theorem kX12_readSum {l : Launch} {D : va_G} {g : Nat → Nat} {cI cS : ClassId} {Am : (Nat → Prop) → State → Heap → Prop} {aK aV : Nat → Nat} (O : sO (mcell g cI cS (msa aK)) mord g Am aK aV) (P : gAm Am) (N : Nat) {rE : Int32 → gS → Option (Int32 × gS)} {d0 : Nat} (hd0 : 10 ≤ d0) (KE : ∀ (x : Int32) (S : gS) (o : Int32 × gS), rE x S = some o → gM l yX12_readExpression cX12_readExpression 3 none d0 D (mtys cI cS) (mcell g cI cS (msa aK)) mord g Am [.ref (g 99), .int x] S none o.2) (x1 : Int32) (S : gS) (o : Int32 × gS) (hF : fX12_readSum N rE x1 S = some o) : gM l yX12_readSum cX12_readSum 3 none (d0 + 3) D (mtys cI cS) (mcell g cI cS (msa aK)) mord g Am [.ref (g 99), .int x1] S none o.2 :=
  gM_of O.1 P (by decide) (Nat.le_of_ble_eq_true rfl) (fun p e s m args below meth c ls C X hl => bX12_readSum_0 C O hd0 KE X (lv_sub hl [0, 1] rfl) hF)
-- readNot
noncomputable def fX12_readNot_b113 (N : Nat) (rE : Int32 → gS → Option (Int32 × gS)) (S : gS) : Option (Int32 × gS) := some (0, S)
theorem bX12_readNot_113 {N : Nat} {rE : Int32 → gS → Option (Int32 × gS)} {d0 : Nat} {S : gS} {H : Heap} {locs : List Loc} {ls : Array Slot} {o : Int32 × gS} (C : gC p s m args meth c cX12_readNot 4 RX12 none D (mtys cI cS) mord g Am) (O : sO (mcell g cI cS (msa aK)) mord g Am aK aV) (hd0 : 10 ≤ d0) (KE : ∀ (x : Int32) (S : gS) (o : Int32 × gS), rE x S = some o → gM l yX12_readExpression cX12_readExpression 3 none d0 D (mtys cI cS) (mcell g cI cS (msa aK)) mord g Am [.ref (g 99), .int x] S none o.2) (X : gX D (mcell g cI cS (msa aK)) mord g S s H locs) (hl : lv_has ls 4 []) (hF : fX12_readNot_b113 N rE S = some o) : W p l e (rmd (d0 + 4)) s m args below meth c H locs 0 0 (gE below args s D (mtys cI cS) (mcell g cI cS (msa aK)) mord g none o.2) (F0 m 113 ls []) := by
  unfold fX12_readNot_b113 at hF
  cases hF
  exact g_vret C X dX12_readNot_113
noncomputable def fX12_readNot_b101 (N : Nat) (rE : Int32 → gS → Option (Int32 × gS)) (r96 : Int32 → Int32 → gS → Option (Int32 × gS)) (x2 : Int32) (x3 : Int32) (S : gS) : Option (Int32 × gS) := bnd (fX12_lay N ((-28)) S) fun q1 => (r96 x2 ((x3 + 1 : Int32)) q1.2)
theorem bX12_readNot_101 {N : Nat} {rE : Int32 → gS → Option (Int32 × gS)} {d0 : Nat} {r96 : Int32 → Int32 → gS → Option (Int32 × gS)} {x2 : Int32} {x3 : Int32} {S : gS} {H : Heap} {locs : List Loc} {ls : Array Slot} {o : Int32 × gS} (C : gC p s m args meth c cX12_readNot 4 RX12 none D (mtys cI cS) mord g Am) (O : sO (mcell g cI cS (msa aK)) mord g Am aK aV) (hd0 : 10 ≤ d0) (KE : ∀ (x : Int32) (S : gS) (o : Int32 × gS), rE x S = some o → gM l yX12_readExpression cX12_readExpression 3 none d0 D (mtys cI cS) (mcell g cI cS (msa aK)) mord g Am [.ref (g 99), .int x] S none o.2) (K96 : ∀ (x2 : Int32) (x3 : Int32) (S : gS) (H : Heap) (locs : List Loc) (ls : Array Slot), gX D (mcell g cI cS (msa aK)) mord g S s H locs → lv_has ls 4 [(0, .ref (g 99)), (2, .int x2), (3, .int x3)] → r96 x2 x3 S = some o → W p l e (rmd (d0 + 4)) s m args below meth c H locs 0 0 (gE below args s D (mtys cI cS) (mcell g cI cS (msa aK)) mord g none o.2) (F0 m 96 ls [])) (X : gX D (mcell g cI cS (msa aK)) mord g S s H locs) (hl : lv_has ls 4 [(0, .ref (g 99)), (2, .int x2), (3, .int x3)]) (hF : fX12_readNot_b101 N rE r96 x2 x3 S = some o) : W p l e (rmd (d0 + 4)) s m args below meth c H locs 0 0 (gE below args s D (mtys cI cS) (mcell g cI cS (msa aK)) mord g none o.2) (F0 m 101 ls []) := by
  unfold fX12_readNot_b101 at hF
  refine lv_aload_n C.1.1 C.1.2.1 dX12_readNot_101 rfl (lv_at hl 0 rfl) ?_
  refine lv_bipush (v := (-28)) C.1.1 C.1.2.1 dX12_readNot_102 (by decide) ?_
  obtain ⟨q1, hq1, hF⟩ := bnd_some hF
  refine m_callV C X vX12_lay rfl (kX12_lay O.1 C.2.2.2.2.1 N ((-28))  S q1 hq1) (by simp only [rmd]; omega) (by simp only [rmd]; omega) (Nat.zero_le _) (Nat.zero_le _) rfl hl.1 rfl (Nat.le_of_ble_eq_true rfl) dX12_readNot_104 (fun H locs X => ?_)
  refine lv_iinc (v := (x3 + 1 : Int32)) (lv' := [(3, .int ((x3 + 1 : Int32))), (0, .ref (g 99)), (2, .int x2)]) C.1.1 C.1.2.1 dX12_readNot_107 hl (k := 2) rfl rfl (by decide) rfl (fun ls hl => ?_)
  refine lv_goto (tgt := 96) C.1.1 C.1.2.1 dX12_readNot_110 (by decide) ?_
  exact K96 _ _ _ _ _ _ X (lv_sub hl [1, 2, 0] rfl) hF
noncomputable def fX12_readNot_b96 (N : Nat) (rE : Int32 → gS → Option (Int32 × gS)) (r96 : Int32 → Int32 → gS → Option (Int32 × gS)) (x2 : Int32) (x3 : Int32) (S : gS) : Option (Int32 × gS) := if x2 ≤ x3 then fX12_readNot_b113 N rE S else fX12_readNot_b101 N rE r96 x2 x3 S
theorem bX12_readNot_96 {N : Nat} {rE : Int32 → gS → Option (Int32 × gS)} {d0 : Nat} {r96 : Int32 → Int32 → gS → Option (Int32 × gS)} {x2 : Int32} {x3 : Int32} {S : gS} {H : Heap} {locs : List Loc} {ls : Array Slot} {o : Int32 × gS} (C : gC p s m args meth c cX12_readNot 4 RX12 none D (mtys cI cS) mord g Am) (O : sO (mcell g cI cS (msa aK)) mord g Am aK aV) (hd0 : 10 ≤ d0) (KE : ∀ (x : Int32) (S : gS) (o : Int32 × gS), rE x S = some o → gM l yX12_readExpression cX12_readExpression 3 none d0 D (mtys cI cS) (mcell g cI cS (msa aK)) mord g Am [.ref (g 99), .int x] S none o.2) (K96 : ∀ (x2 : Int32) (x3 : Int32) (S : gS) (H : Heap) (locs : List Loc) (ls : Array Slot), gX D (mcell g cI cS (msa aK)) mord g S s H locs → lv_has ls 4 [(0, .ref (g 99)), (2, .int x2), (3, .int x3)] → r96 x2 x3 S = some o → W p l e (rmd (d0 + 4)) s m args below meth c H locs 0 0 (gE below args s D (mtys cI cS) (mcell g cI cS (msa aK)) mord g none o.2) (F0 m 96 ls [])) (X : gX D (mcell g cI cS (msa aK)) mord g S s H locs) (hl : lv_has ls 4 [(0, .ref (g 99)), (2, .int x2), (3, .int x3)]) (hF : fX12_readNot_b96 N rE r96 x2 x3 S = some o) : W p l e (rmd (d0 + 4)) s m args below meth c H locs 0 0 (gE below args s D (mtys cI cS) (mcell g cI cS (msa aK)) mord g none o.2) (F0 m 96 ls []) := by
  unfold fX12_readNot_b96 at hF
  refine lv_iload_n C.1.1 C.1.2.1 dX12_readNot_96 rfl (lv_at hl 2 rfl) ?_
  refine lv_iload_n C.1.1 C.1.2.1 dX12_readNot_97 rfl (lv_at hl 1 rfl) ?_
  refine lv_icmp_ge (tgt := 113) C.1.1 C.1.2.1 dX12_readNot_98 (by decide) (fun h_z => ?_) (fun h_z => ?_)
  · rw [if_pos h_z] at hF
    exact bX12_readNot_113 C O hd0 KE X (lv_sub hl [] rfl) hF
  · rw [if_neg h_z] at hF
    exact bX12_readNot_101 C O hd0 KE K96 X (lv_sub hl [0, 1, 2] rfl) hF
noncomputable def fX12_readNot_h96 (N : Nat) (rE : Int32 → gS → Option (Int32 × gS)) : Nat → Int32 → Int32 → gS → Option (Int32 × gS)
  | 0, _, _, _ => none
  | n + 1, x2, x3, S => fX12_readNot_b96 N rE (fX12_readNot_h96 N rE n) x2 x3 S
theorem hX12_readNot_96 {N : Nat} {rE : Int32 → gS → Option (Int32 × gS)} {d0 : Nat} {o : Int32 × gS} (C : gC p s m args meth c cX12_readNot 4 RX12 none D (mtys cI cS) mord g Am) (O : sO (mcell g cI cS (msa aK)) mord g Am aK aV) (hd0 : 10 ≤ d0) (KE : ∀ (x : Int32) (S : gS) (o : Int32 × gS), rE x S = some o → gM l yX12_readExpression cX12_readExpression 3 none d0 D (mtys cI cS) (mcell g cI cS (msa aK)) mord g Am [.ref (g 99), .int x] S none o.2) : ∀ (n : Nat) (x2 : Int32) (x3 : Int32) (S : gS) (H : Heap) (locs : List Loc) (ls : Array Slot), gX D (mcell g cI cS (msa aK)) mord g S s H locs → lv_has ls 4 [(0, .ref (g 99)), (2, .int x2), (3, .int x3)] → fX12_readNot_h96 N rE n x2 x3 S = some o → W p l e (rmd (d0 + 4)) s m args below meth c H locs 0 0 (gE below args s D (mtys cI cS) (mcell g cI cS (msa aK)) mord g none o.2) (F0 m 96 ls []) := by
  intro n
  induction n with
  | zero =>
    intro x2 x3 S H locs ls X hl hF
    exact absurd (show (none : Option (Int32 × gS)) = some o from hF) (by simp)
  | succ n ih =>
    intro x2 x3 S H locs ls X hl hF
    have hF : fX12_readNot_b96 N rE (fX12_readNot_h96 N rE n) x2 x3 S = some o := hF
    exact bX12_readNot_96 C O hd0 KE ih X hl hF
noncomputable def fX12_readNot_b94 (N : Nat) (rE : Int32 → gS → Option (Int32 × gS)) (x2 : Int32) (S : gS) : Option (Int32 × gS) := fX12_readNot_h96 N rE N x2 0 S
theorem bX12_readNot_94 {N : Nat} {rE : Int32 → gS → Option (Int32 × gS)} {d0 : Nat} {x2 : Int32} {S : gS} {H : Heap} {locs : List Loc} {ls : Array Slot} {o : Int32 × gS} (C : gC p s m args meth c cX12_readNot 4 RX12 none D (mtys cI cS) mord g Am) (O : sO (mcell g cI cS (msa aK)) mord g Am aK aV) (hd0 : 10 ≤ d0) (KE : ∀ (x : Int32) (S : gS) (o : Int32 × gS), rE x S = some o → gM l yX12_readExpression cX12_readExpression 3 none d0 D (mtys cI cS) (mcell g cI cS (msa aK)) mord g Am [.ref (g 99), .int x] S none o.2) (X : gX D (mcell g cI cS (msa aK)) mord g S s H locs) (hl : lv_has ls 4 [(0, .ref (g 99)), (2, .int x2)]) (hF : fX12_readNot_b94 N rE x2 S = some o) : W p l e (rmd (d0 + 4)) s m args below meth c H locs 0 0 (gE below args s D (mtys cI cS) (mcell g cI cS (msa aK)) mord g none o.2) (F0 m 94 ls []) := by
  unfold fX12_readNot_b94 at hF
  refine lv_iconst (v := 0) C.1.1 C.1.2.1 dX12_readNot_94 (by decide) ?_
  refine lv_istore_n (lv' := [(3, .int 0), (0, .ref (g 99)), (2, .int x2)]) C.1.1 C.1.2.1 dX12_readNot_95 rfl hl (by decide) rfl (fun ls hl => ?_)
  exact hX12_readNot_96 C O hd0 KE N _ _ _ _ _ _ X (lv_sub hl [1, 2, 0] rfl) hF
noncomputable def fX12_readNot_b79 (N : Nat) (rE : Int32 → gS → Option (Int32 × gS)) (x1 : Int32) (x2 : Int32) (t0 : Int32) (S : gS) : Option (Int32 × gS) := bnd (fX12_stepOn N  S) fun q1 => (bnd (fX12_readSum N rE x1 q1.2) fun q2 => (bnd (fX12_lay N t0 q2.2) fun q3 => (fX12_readNot_b94 N rE x2 q3.2)))
theorem bX12_readNot_79 {N : Nat} {rE : Int32 → gS → Option (Int32 × gS)} {d0 : Nat} {x1 : Int32} {x2 : Int32} {t0 : Int32} {S : gS} {H : Heap} {locs : List Loc} {ls : Array Slot} {o : Int32 × gS} (C : gC p s m args meth c cX12_readNot 4 RX12 none D (mtys cI cS) mord g Am) (O : sO (mcell g cI cS (msa aK)) mord g Am aK aV) (hd0 : 10 ≤ d0) (KE : ∀ (x : Int32) (S : gS) (o : Int32 × gS), rE x S = some o → gM l yX12_readExpression cX12_readExpression 3 none d0 D (mtys cI cS) (mcell g cI cS (msa aK)) mord g Am [.ref (g 99), .int x] S none o.2) (X : gX D (mcell g cI cS (msa aK)) mord g S s H locs) (hl : lv_has ls 4 [(0, .ref (g 99)), (1, .int x1), (2, .int x2)]) (hF : fX12_readNot_b79 N rE x1 x2 t0 S = some o) : W p l e (rmd (d0 + 4)) s m args below meth c H locs 0 0 (gE below args s D (mtys cI cS) (mcell g cI cS (msa aK)) mord g none o.2) (F0 m 79 ls [.int t0]) := by
  unfold fX12_readNot_b79 at hF
  refine lv_istore_n (lv' := [(3, .int t0), (0, .ref (g 99)), (1, .int x1), (2, .int x2)]) C.1.1 C.1.2.1 dX12_readNot_79 rfl hl (by decide) rfl (fun ls hl => ?_)
  refine lv_aload_n C.1.1 C.1.2.1 dX12_readNot_80 rfl (lv_at hl 1 rfl) ?_
  obtain ⟨q1, hq1, hF⟩ := bnd_some hF
  refine m_callV C X vX12_stepOn rfl (kX12_stepOn O.1 C.2.2.2.2.1 N   S q1 hq1) (by simp only [rmd]; omega) (by simp only [rmd]; omega) (Nat.zero_le _) (Nat.zero_le _) rfl hl.1 rfl (Nat.le_of_ble_eq_true rfl) dX12_readNot_81 (fun H locs X => ?_)
  refine lv_aload_n C.1.1 C.1.2.1 dX12_readNot_84 rfl (lv_at hl 1 rfl) ?_
  refine lv_iload_n C.1.1 C.1.2.1 dX12_readNot_85 rfl (lv_at hl 2 rfl) ?_
  obtain ⟨q2, hq2, hF⟩ := bnd_some hF
  refine m_callV C X vX12_readSum rfl (kX12_readSum O C.2.2.2.2.1 N hd0 KE x1  q1.2 q2 hq2) (by simp only [rmd]; omega) (by simp only [rmd]; omega) (Nat.zero_le _) (Nat.zero_le _) rfl hl.1 rfl (Nat.le_of_ble_eq_true rfl) dX12_readNot_86 (fun H locs X => ?_)
  refine lv_aload_n C.1.1 C.1.2.1 dX12_readNot_89 rfl (lv_at hl 1 rfl) ?_
  refine lv_iload_n C.1.1 C.1.2.1 dX12_readNot_90 rfl (lv_at hl 0 rfl) ?_
  obtain ⟨q3, hq3, hF⟩ := bnd_some hF
  refine m_callV C X vX12_lay rfl (kX12_lay O.1 C.2.2.2.2.1 N t0  q2.2 q3 hq3) (by simp only [rmd]; omega) (by simp only [rmd]; omega) (Nat.zero_le _) (Nat.zero_le _) rfl hl.1 rfl (Nat.le_of_ble_eq_true rfl) dX12_readNot_91 (fun H locs X => ?_)
  exact bX12_readNot_94 C O hd0 KE X (lv_sub hl [1, 3] rfl) hF
noncomputable def fX12_readNot_b77 (N : Nat) (rE : Int32 → gS → Option (Int32 × gS)) (x1 : Int32) (x2 : Int32) (S : gS) : Option (Int32 × gS) := fX12_readNot_b79 N rE x1 x2 ((-25)) S
theorem bX12_readNot_77 {N : Nat} {rE : Int32 → gS → Option (Int32 × gS)} {d0 : Nat} {x1 : Int32} {x2 : Int32} {S : gS} {H : Heap} {locs : List Loc} {ls : Array Slot} {o : Int32 × gS} (C : gC p s m args meth c cX12_readNot 4 RX12 none D (mtys cI cS) mord g Am) (O : sO (mcell g cI cS (msa aK)) mord g Am aK aV) (hd0 : 10 ≤ d0) (KE : ∀ (x : Int32) (S : gS) (o : Int32 × gS), rE x S = some o → gM l yX12_readExpression cX12_readExpression 3 none d0 D (mtys cI cS) (mcell g cI cS (msa aK)) mord g Am [.ref (g 99), .int x] S none o.2) (X : gX D (mcell g cI cS (msa aK)) mord g S s H locs) (hl : lv_has ls 4 [(0, .ref (g 99)), (1, .int x1), (2, .int x2)]) (hF : fX12_readNot_b77 N rE x1 x2 S = some o) : W p l e (rmd (d0 + 4)) s m args below meth c H locs 0 0 (gE below args s D (mtys cI cS) (mcell g cI cS (msa aK)) mord g none o.2) (F0 m 77 ls []) := by
  unfold fX12_readNot_b77 at hF
  refine lv_bipush (v := (-25)) C.1.1 C.1.2.1 dX12_readNot_77 (by decide) ?_
  exact bX12_readNot_79 C O hd0 KE X (lv_sub hl [0, 1, 2] rfl) hF
noncomputable def fX12_readNot_b72 (N : Nat) (rE : Int32 → gS → Option (Int32 × gS)) (x1 : Int32) (x2 : Int32) (S : gS) : Option (Int32 × gS) := fX12_readNot_b79 N rE x1 x2 ((-24)) S
theorem bX12_readNot_72 {N : Nat} {rE : Int32 → gS → Option (Int32 × gS)} {d0 : Nat} {x1 : Int32} {x2 : Int32} {S : gS} {H : Heap} {locs : List Loc} {ls : Array Slot} {o : Int32 × gS} (C : gC p s m args meth c cX12_readNot 4 RX12 none D (mtys cI cS) mord g Am) (O : sO (mcell g cI cS (msa aK)) mord g Am aK aV) (hd0 : 10 ≤ d0) (KE : ∀ (x : Int32) (S : gS) (o : Int32 × gS), rE x S = some o → gM l yX12_readExpression cX12_readExpression 3 none d0 D (mtys cI cS) (mcell g cI cS (msa aK)) mord g Am [.ref (g 99), .int x] S none o.2) (X : gX D (mcell g cI cS (msa aK)) mord g S s H locs) (hl : lv_has ls 4 [(0, .ref (g 99)), (1, .int x1), (2, .int x2)]) (hF : fX12_readNot_b72 N rE x1 x2 S = some o) : W p l e (rmd (d0 + 4)) s m args below meth c H locs 0 0 (gE below args s D (mtys cI cS) (mcell g cI cS (msa aK)) mord g none o.2) (F0 m 72 ls []) := by
  unfold fX12_readNot_b72 at hF
  refine lv_bipush (v := (-24)) C.1.1 C.1.2.1 dX12_readNot_72 (by decide) ?_
  refine lv_goto (tgt := 79) C.1.1 C.1.2.1 dX12_readNot_74 (by decide) ?_
  exact bX12_readNot_79 C O hd0 KE X (lv_sub hl [0, 1, 2] rfl) hF
noncomputable def fX12_readNot_b63 (N : Nat) (rE : Int32 → gS → Option (Int32 × gS)) (x1 : Int32) (x2 : Int32) (S : gS) : Option (Int32 × gS) := bnd (fX12_isMarked N 60 S) fun q1 => (if q1.1 = 0 then fX12_readNot_b77 N rE x1 x2 q1.2 else fX12_readNot_b72 N rE x1 x2 q1.2)
theorem bX12_readNot_63 {N : Nat} {rE : Int32 → gS → Option (Int32 × gS)} {d0 : Nat} {x1 : Int32} {x2 : Int32} {S : gS} {H : Heap} {locs : List Loc} {ls : Array Slot} {o : Int32 × gS} (C : gC p s m args meth c cX12_readNot 4 RX12 none D (mtys cI cS) mord g Am) (O : sO (mcell g cI cS (msa aK)) mord g Am aK aV) (hd0 : 10 ≤ d0) (KE : ∀ (x : Int32) (S : gS) (o : Int32 × gS), rE x S = some o → gM l yX12_readExpression cX12_readExpression 3 none d0 D (mtys cI cS) (mcell g cI cS (msa aK)) mord g Am [.ref (g 99), .int x] S none o.2) (X : gX D (mcell g cI cS (msa aK)) mord g S s H locs) (hl : lv_has ls 4 [(0, .ref (g 99)), (1, .int x1), (2, .int x2)]) (hF : fX12_readNot_b63 N rE x1 x2 S = some o) : W p l e (rmd (d0 + 4)) s m args below meth c H locs 0 0 (gE below args s D (mtys cI cS) (mcell g cI cS (msa aK)) mord g none o.2) (F0 m 63 ls []) := by
  unfold fX12_readNot_b63 at hF
  refine lv_aload_n C.1.1 C.1.2.1 dX12_readNot_63 rfl (lv_at hl 0 rfl) ?_
  refine lv_bipush (v := 60) C.1.1 C.1.2.1 dX12_readNot_64 (by decide) ?_
  obtain ⟨q1, hq1, hF⟩ := bnd_some hF
  refine m_callVi C X vX12_isMarked rfl (kX12_isMarked O.1 C.2.2.2.2.1 N 60  S q1 hq1) (by simp only [rmd]; omega) (by simp only [rmd]; omega) (Nat.zero_le _) (Nat.zero_le _) rfl hl.1 rfl (Nat.le_of_ble_eq_true rfl) dX12_readNot_66 (fun H locs X => ?_)
  refine lv_if_eq (tgt := 77) C.1.1 C.1.2.1 dX12_readNot_69 (by decide) (fun h_z => ?_) (fun h_z => ?_)
  · rw [if_pos h_z] at hF
    exact bX12_readNot_77 C O hd0 KE X (lv_sub hl [0, 1, 2] rfl) hF
  · rw [if_neg h_z] at hF
    exact bX12_readNot_72 C O hd0 KE X (lv_sub hl [0, 1, 2] rfl) hF
noncomputable def fX12_readNot_b54 (N : Nat) (rE : Int32 → gS → Option (Int32 × gS)) (x1 : Int32) (x2 : Int32) (S : gS) : Option (Int32 × gS) := bnd (fX12_isMarked N 61 S) fun q1 => (if q1.1 = 0 then fX12_readNot_b94 N rE x2 q1.2 else fX12_readNot_b63 N rE x1 x2 q1.2)
theorem bX12_readNot_54 {N : Nat} {rE : Int32 → gS → Option (Int32 × gS)} {d0 : Nat} {x1 : Int32} {x2 : Int32} {S : gS} {H : Heap} {locs : List Loc} {ls : Array Slot} {o : Int32 × gS} (C : gC p s m args meth c cX12_readNot 4 RX12 none D (mtys cI cS) mord g Am) (O : sO (mcell g cI cS (msa aK)) mord g Am aK aV) (hd0 : 10 ≤ d0) (KE : ∀ (x : Int32) (S : gS) (o : Int32 × gS), rE x S = some o → gM l yX12_readExpression cX12_readExpression 3 none d0 D (mtys cI cS) (mcell g cI cS (msa aK)) mord g Am [.ref (g 99), .int x] S none o.2) (X : gX D (mcell g cI cS (msa aK)) mord g S s H locs) (hl : lv_has ls 4 [(0, .ref (g 99)), (1, .int x1), (2, .int x2)]) (hF : fX12_readNot_b54 N rE x1 x2 S = some o) : W p l e (rmd (d0 + 4)) s m args below meth c H locs 0 0 (gE below args s D (mtys cI cS) (mcell g cI cS (msa aK)) mord g none o.2) (F0 m 54 ls []) := by
  unfold fX12_readNot_b54 at hF
  refine lv_aload_n C.1.1 C.1.2.1 dX12_readNot_54 rfl (lv_at hl 0 rfl) ?_
  refine lv_bipush (v := 61) C.1.1 C.1.2.1 dX12_readNot_55 (by decide) ?_
  obtain ⟨q1, hq1, hF⟩ := bnd_some hF
  refine m_callVi C X vX12_isMarked rfl (kX12_isMarked O.1 C.2.2.2.2.1 N 61  S q1 hq1) (by simp only [rmd]; omega) (by simp only [rmd]; omega) (Nat.zero_le _) (Nat.zero_le _) rfl hl.1 rfl (Nat.le_of_ble_eq_true rfl) dX12_readNot_57 (fun H locs X => ?_)
  refine lv_if_eq (tgt := 94) C.1.1 C.1.2.1 dX12_readNot_60 (by decide) (fun h_z => ?_) (fun h_z => ?_)
  · rw [if_pos h_z] at hF
    exact bX12_readNot_94 C O hd0 KE X (lv_sub hl [0, 2] rfl) hF
  · rw [if_neg h_z] at hF
    exact bX12_readNot_63 C O hd0 KE X (lv_sub hl [0, 1, 2] rfl) hF
noncomputable def fX12_readNot_b40 (N : Nat) (rE : Int32 → gS → Option (Int32 × gS)) (x1 : Int32) (x2 : Int32) (S : gS) : Option (Int32 × gS) := bnd (fX12_readSum N rE x1 S) fun q1 => (bnd (fX12_isMarked N 60 q1.2) fun q2 => (if q2.1 = 0 then fX12_readNot_b54 N rE x1 x2 q2.2 else fX12_readNot_b63 N rE x1 x2 q2.2))
theorem bX12_readNot_40 {N : Nat} {rE : Int32 → gS → Option (Int32 × gS)} {d0 : Nat} {x1 : Int32} {x2 : Int32} {S : gS} {H : Heap} {locs : List Loc} {ls : Array Slot} {o : Int32 × gS} (C : gC p s m args meth c cX12_readNot 4 RX12 none D (mtys cI cS) mord g Am) (O : sO (mcell g cI cS (msa aK)) mord g Am aK aV) (hd0 : 10 ≤ d0) (KE : ∀ (x : Int32) (S : gS) (o : Int32 × gS), rE x S = some o → gM l yX12_readExpression cX12_readExpression 3 none d0 D (mtys cI cS) (mcell g cI cS (msa aK)) mord g Am [.ref (g 99), .int x] S none o.2) (X : gX D (mcell g cI cS (msa aK)) mord g S s H locs) (hl : lv_has ls 4 [(0, .ref (g 99)), (1, .int x1), (2, .int x2)]) (hF : fX12_readNot_b40 N rE x1 x2 S = some o) : W p l e (rmd (d0 + 4)) s m args below meth c H locs 0 0 (gE below args s D (mtys cI cS) (mcell g cI cS (msa aK)) mord g none o.2) (F0 m 40 ls []) := by
  unfold fX12_readNot_b40 at hF
  refine lv_aload_n C.1.1 C.1.2.1 dX12_readNot_40 rfl (lv_at hl 0 rfl) ?_
  refine lv_iload_n C.1.1 C.1.2.1 dX12_readNot_41 rfl (lv_at hl 1 rfl) ?_
  obtain ⟨q1, hq1, hF⟩ := bnd_some hF
  refine m_callV C X vX12_readSum rfl (kX12_readSum O C.2.2.2.2.1 N hd0 KE x1  S q1 hq1) (by simp only [rmd]; omega) (by simp only [rmd]; omega) (Nat.zero_le _) (Nat.zero_le _) rfl hl.1 rfl (Nat.le_of_ble_eq_true rfl) dX12_readNot_42 (fun H locs X => ?_)
  refine lv_aload_n C.1.1 C.1.2.1 dX12_readNot_45 rfl (lv_at hl 0 rfl) ?_
  refine lv_bipush (v := 60) C.1.1 C.1.2.1 dX12_readNot_46 (by decide) ?_
  obtain ⟨q2, hq2, hF⟩ := bnd_some hF
  refine m_callVi C X vX12_isMarked rfl (kX12_isMarked O.1 C.2.2.2.2.1 N 60  q1.2 q2 hq2) (by simp only [rmd]; omega) (by simp only [rmd]; omega) (Nat.zero_le _) (Nat.zero_le _) rfl hl.1 rfl (Nat.le_of_ble_eq_true rfl) dX12_readNot_48 (fun H locs X => ?_)
  refine lv_if_ne (tgt := 63) C.1.1 C.1.2.1 dX12_readNot_51 (by decide) (fun h_z => ?_) (fun h_z => ?_)
  · rw [if_neg h_z] at hF
    exact bX12_readNot_63 C O hd0 KE X (lv_sub hl [0, 1, 2] rfl) hF
  · rw [if_pos h_z] at hF
    exact bX12_readNot_54 C O hd0 KE X (lv_sub hl [0, 1, 2] rfl) hF
noncomputable def fX12_readNot_b33 (N : Nat) (rE : Int32 → gS → Option (Int32 × gS)) (r2 : Int32 → Int32 → gS → Option (Int32 × gS)) (x1 : Int32) (x2 : Int32) (S : gS) : Option (Int32 × gS) := bnd (fX12_stepOn N  S) fun q1 => (r2 x1 x2 q1.2)
theorem bX12_readNot_33 {N : Nat} {rE : Int32 → gS → Option (Int32 × gS)} {d0 : Nat} {r2 : Int32 → Int32 → gS → Option (Int32 × gS)} {x1 : Int32} {x2 : Int32} {S : gS} {H : Heap} {locs : List Loc} {ls : Array Slot} {o : Int32 × gS} (C : gC p s m args meth c cX12_readNot 4 RX12 none D (mtys cI cS) mord g Am) (O : sO (mcell g cI cS (msa aK)) mord g Am aK aV) (hd0 : 10 ≤ d0) (KE : ∀ (x : Int32) (S : gS) (o : Int32 × gS), rE x S = some o → gM l yX12_readExpression cX12_readExpression 3 none d0 D (mtys cI cS) (mcell g cI cS (msa aK)) mord g Am [.ref (g 99), .int x] S none o.2) (K2 : ∀ (x1 : Int32) (x2 : Int32) (S : gS) (H : Heap) (locs : List Loc) (ls : Array Slot), gX D (mcell g cI cS (msa aK)) mord g S s H locs → lv_has ls 4 [(0, .ref (g 99)), (1, .int x1), (2, .int x2)] → r2 x1 x2 S = some o → W p l e (rmd (d0 + 4)) s m args below meth c H locs 0 0 (gE below args s D (mtys cI cS) (mcell g cI cS (msa aK)) mord g none o.2) (F0 m 2 ls [])) (X : gX D (mcell g cI cS (msa aK)) mord g S s H locs) (hl : lv_has ls 4 [(0, .ref (g 99)), (1, .int x1), (2, .int x2)]) (hF : fX12_readNot_b33 N rE r2 x1 x2 S = some o) : W p l e (rmd (d0 + 4)) s m args below meth c H locs 0 0 (gE below args s D (mtys cI cS) (mcell g cI cS (msa aK)) mord g none o.2) (F0 m 33 ls []) := by
  unfold fX12_readNot_b33 at hF
  refine lv_aload_n C.1.1 C.1.2.1 dX12_readNot_33 rfl (lv_at hl 0 rfl) ?_
  obtain ⟨q1, hq1, hF⟩ := bnd_some hF
  refine m_callV C X vX12_stepOn rfl (kX12_stepOn O.1 C.2.2.2.2.1 N   S q1 hq1) (by simp only [rmd]; omega) (by simp only [rmd]; omega) (Nat.zero_le _) (Nat.zero_le _) rfl hl.1 rfl (Nat.le_of_ble_eq_true rfl) dX12_readNot_34 (fun H locs X => ?_)
  refine lv_goto (tgt := 2) C.1.1 C.1.2.1 dX12_readNot_37 (by decide) ?_
  exact K2 _ _ _ _ _ _ X (lv_sub hl [0, 1, 2] rfl) hF
noncomputable def fX12_readNot_b23 (N : Nat) (rE : Int32 → gS → Option (Int32 × gS)) (r2 : Int32 → Int32 → gS → Option (Int32 × gS)) (x1 : Int32) (x2 : Int32) (S : gS) : Option (Int32 × gS) := if (S 99 27) = 0 then fX12_readNot_b33 N rE r2 x1 ((x2 + 1 : Int32)) S else r2 x1 ((x2 + 1 : Int32)) S
theorem bX12_readNot_23 {N : Nat} {rE : Int32 → gS → Option (Int32 × gS)} {d0 : Nat} {r2 : Int32 → Int32 → gS → Option (Int32 × gS)} {x1 : Int32} {x2 : Int32} {S : gS} {H : Heap} {locs : List Loc} {ls : Array Slot} {o : Int32 × gS} (C : gC p s m args meth c cX12_readNot 4 RX12 none D (mtys cI cS) mord g Am) (O : sO (mcell g cI cS (msa aK)) mord g Am aK aV) (hd0 : 10 ≤ d0) (KE : ∀ (x : Int32) (S : gS) (o : Int32 × gS), rE x S = some o → gM l yX12_readExpression cX12_readExpression 3 none d0 D (mtys cI cS) (mcell g cI cS (msa aK)) mord g Am [.ref (g 99), .int x] S none o.2) (K2 : ∀ (x1 : Int32) (x2 : Int32) (S : gS) (H : Heap) (locs : List Loc) (ls : Array Slot), gX D (mcell g cI cS (msa aK)) mord g S s H locs → lv_has ls 4 [(0, .ref (g 99)), (1, .int x1), (2, .int x2)] → r2 x1 x2 S = some o → W p l e (rmd (d0 + 4)) s m args below meth c H locs 0 0 (gE below args s D (mtys cI cS) (mcell g cI cS (msa aK)) mord g none o.2) (F0 m 2 ls [])) (X : gX D (mcell g cI cS (msa aK)) mord g S s H locs) (hl : lv_has ls 4 [(0, .ref (g 99)), (1, .int x1), (2, .int x2)]) (hF : fX12_readNot_b23 N rE r2 x1 x2 S = some o) : W p l e (rmd (d0 + 4)) s m args below meth c H locs 0 0 (gE below args s D (mtys cI cS) (mcell g cI cS (msa aK)) mord g none o.2) (F0 m 23 ls []) := by
  unfold fX12_readNot_b23 at hF
  refine lv_iinc (v := (x2 + 1 : Int32)) (lv' := [(2, .int ((x2 + 1 : Int32))), (0, .ref (g 99)), (1, .int x1)]) C.1.1 C.1.2.1 dX12_readNot_23 hl (k := 2) rfl rfl (by decide) rfl (fun ls hl => ?_)
  refine lv_aload_n C.1.1 C.1.2.1 dX12_readNot_26 rfl (lv_at hl 1 rfl) ?_
  refine m_g27 C X dX12_readNot_27 ?_
  refine lv_if_ne (tgt := 2) C.1.1 C.1.2.1 dX12_readNot_30 (by decide) (fun h_z => ?_) (fun h_z => ?_)
  · rw [if_neg h_z] at hF
    exact K2 _ _ _ _ _ _ X (lv_sub hl [1, 2, 0] rfl) hF
  · rw [if_pos h_z] at hF
    exact bX12_readNot_33 C O hd0 KE K2 X (lv_sub hl [1, 2, 0] rfl) hF
noncomputable def fX12_readNot_b18 (N : Nat) (rE : Int32 → gS → Option (Int32 × gS)) (r2 : Int32 → Int32 → gS → Option (Int32 × gS)) (x1 : Int32) (x2 : Int32) (S : gS) : Option (Int32 × gS) := bnd (fX12_wrong N 2 S) fun q1 => (fX12_readNot_b23 N rE r2 x1 x2 q1.2)
theorem bX12_readNot_18 {N : Nat} {rE : Int32 → gS → Option (Int32 × gS)} {d0 : Nat} {r2 : Int32 → Int32 → gS → Option (Int32 × gS)} {x1 : Int32} {x2 : Int32} {S : gS} {H : Heap} {locs : List Loc} {ls : Array Slot} {o : Int32 × gS} (C : gC p s m args meth c cX12_readNot 4 RX12 none D (mtys cI cS) mord g Am) (O : sO (mcell g cI cS (msa aK)) mord g Am aK aV) (hd0 : 10 ≤ d0) (KE : ∀ (x : Int32) (S : gS) (o : Int32 × gS), rE x S = some o → gM l yX12_readExpression cX12_readExpression 3 none d0 D (mtys cI cS) (mcell g cI cS (msa aK)) mord g Am [.ref (g 99), .int x] S none o.2) (K2 : ∀ (x1 : Int32) (x2 : Int32) (S : gS) (H : Heap) (locs : List Loc) (ls : Array Slot), gX D (mcell g cI cS (msa aK)) mord g S s H locs → lv_has ls 4 [(0, .ref (g 99)), (1, .int x1), (2, .int x2)] → r2 x1 x2 S = some o → W p l e (rmd (d0 + 4)) s m args below meth c H locs 0 0 (gE below args s D (mtys cI cS) (mcell g cI cS (msa aK)) mord g none o.2) (F0 m 2 ls [])) (X : gX D (mcell g cI cS (msa aK)) mord g S s H locs) (hl : lv_has ls 4 [(0, .ref (g 99)), (1, .int x1), (2, .int x2)]) (hF : fX12_readNot_b18 N rE r2 x1 x2 S = some o) : W p l e (rmd (d0 + 4)) s m args below meth c H locs 0 0 (gE below args s D (mtys cI cS) (mcell g cI cS (msa aK)) mord g none o.2) (F0 m 18 ls []) := by
  unfold fX12_readNot_b18 at hF
  refine lv_aload_n C.1.1 C.1.2.1 dX12_readNot_18 rfl (lv_at hl 0 rfl) ?_
  refine lv_iconst (v := 2) C.1.1 C.1.2.1 dX12_readNot_19 (by decide) ?_
  obtain ⟨q1, hq1, hF⟩ := bnd_some hF
  refine m_callV C X vX12_wrong rfl (kX12_wrong O.1 C.2.2.2.2.1 N 2  S q1 hq1) (by simp only [rmd]; omega) (by simp only [rmd]; omega) (Nat.zero_le _) (Nat.zero_le _) rfl hl.1 rfl (Nat.le_of_ble_eq_true rfl) dX12_readNot_20 (fun H locs X => ?_)
  exact bX12_readNot_23 C O hd0 KE K2 X (lv_sub hl [0, 1, 2] rfl) hF
noncomputable def fX12_readNot_b12 (N : Nat) (rE : Int32 → gS → Option (Int32 × gS)) (r2 : Int32 → Int32 → gS → Option (Int32 × gS)) (x1 : Int32) (x2 : Int32) (S : gS) : Option (Int32 × gS) := if x2 = 6 then fX12_readNot_b18 N rE r2 x1 x2 S else fX12_readNot_b23 N rE r2 x1 x2 S
theorem bX12_readNot_12 {N : Nat} {rE : Int32 → gS → Option (Int32 × gS)} {d0 : Nat} {r2 : Int32 → Int32 → gS → Option (Int32 × gS)} {x1 : Int32} {x2 : Int32} {S : gS} {H : Heap} {locs : List Loc} {ls : Array Slot} {o : Int32 × gS} (C : gC p s m args meth c cX12_readNot 4 RX12 none D (mtys cI cS) mord g Am) (O : sO (mcell g cI cS (msa aK)) mord g Am aK aV) (hd0 : 10 ≤ d0) (KE : ∀ (x : Int32) (S : gS) (o : Int32 × gS), rE x S = some o → gM l yX12_readExpression cX12_readExpression 3 none d0 D (mtys cI cS) (mcell g cI cS (msa aK)) mord g Am [.ref (g 99), .int x] S none o.2) (K2 : ∀ (x1 : Int32) (x2 : Int32) (S : gS) (H : Heap) (locs : List Loc) (ls : Array Slot), gX D (mcell g cI cS (msa aK)) mord g S s H locs → lv_has ls 4 [(0, .ref (g 99)), (1, .int x1), (2, .int x2)] → r2 x1 x2 S = some o → W p l e (rmd (d0 + 4)) s m args below meth c H locs 0 0 (gE below args s D (mtys cI cS) (mcell g cI cS (msa aK)) mord g none o.2) (F0 m 2 ls [])) (X : gX D (mcell g cI cS (msa aK)) mord g S s H locs) (hl : lv_has ls 4 [(0, .ref (g 99)), (1, .int x1), (2, .int x2)]) (hF : fX12_readNot_b12 N rE r2 x1 x2 S = some o) : W p l e (rmd (d0 + 4)) s m args below meth c H locs 0 0 (gE below args s D (mtys cI cS) (mcell g cI cS (msa aK)) mord g none o.2) (F0 m 12 ls []) := by
  unfold fX12_readNot_b12 at hF
  refine lv_iload_n C.1.1 C.1.2.1 dX12_readNot_12 rfl (lv_at hl 2 rfl) ?_
  refine lv_bipush (v := 6) C.1.1 C.1.2.1 dX12_readNot_13 (by decide) ?_
  refine lv_icmp_ne (tgt := 23) C.1.1 C.1.2.1 dX12_readNot_15 (by decide) (fun h_z => ?_) (fun h_z => ?_)
  · rw [if_neg h_z] at hF
    exact bX12_readNot_23 C O hd0 KE K2 X (lv_sub hl [0, 1, 2] rfl) hF
  · rw [if_pos h_z] at hF
    exact bX12_readNot_18 C O hd0 KE K2 X (lv_sub hl [0, 1, 2] rfl) hF
noncomputable def fX12_readNot_b2 (N : Nat) (rE : Int32 → gS → Option (Int32 × gS)) (r2 : Int32 → Int32 → gS → Option (Int32 × gS)) (x1 : Int32) (x2 : Int32) (S : gS) : Option (Int32 × gS) := bnd (fX12_is N 40 S) fun q1 => (if q1.1 = 0 then fX12_readNot_b40 N rE x1 x2 q1.2 else fX12_readNot_b12 N rE r2 x1 x2 q1.2)
theorem bX12_readNot_2 {N : Nat} {rE : Int32 → gS → Option (Int32 × gS)} {d0 : Nat} {r2 : Int32 → Int32 → gS → Option (Int32 × gS)} {x1 : Int32} {x2 : Int32} {S : gS} {H : Heap} {locs : List Loc} {ls : Array Slot} {o : Int32 × gS} (C : gC p s m args meth c cX12_readNot 4 RX12 none D (mtys cI cS) mord g Am) (O : sO (mcell g cI cS (msa aK)) mord g Am aK aV) (hd0 : 10 ≤ d0) (KE : ∀ (x : Int32) (S : gS) (o : Int32 × gS), rE x S = some o → gM l yX12_readExpression cX12_readExpression 3 none d0 D (mtys cI cS) (mcell g cI cS (msa aK)) mord g Am [.ref (g 99), .int x] S none o.2) (K2 : ∀ (x1 : Int32) (x2 : Int32) (S : gS) (H : Heap) (locs : List Loc) (ls : Array Slot), gX D (mcell g cI cS (msa aK)) mord g S s H locs → lv_has ls 4 [(0, .ref (g 99)), (1, .int x1), (2, .int x2)] → r2 x1 x2 S = some o → W p l e (rmd (d0 + 4)) s m args below meth c H locs 0 0 (gE below args s D (mtys cI cS) (mcell g cI cS (msa aK)) mord g none o.2) (F0 m 2 ls [])) (X : gX D (mcell g cI cS (msa aK)) mord g S s H locs) (hl : lv_has ls 4 [(0, .ref (g 99)), (1, .int x1), (2, .int x2)]) (hF : fX12_readNot_b2 N rE r2 x1 x2 S = some o) : W p l e (rmd (d0 + 4)) s m args below meth c H locs 0 0 (gE below args s D (mtys cI cS) (mcell g cI cS (msa aK)) mord g none o.2) (F0 m 2 ls []) := by
  unfold fX12_readNot_b2 at hF
  refine lv_aload_n C.1.1 C.1.2.1 dX12_readNot_2 rfl (lv_at hl 0 rfl) ?_
  refine s_ldcw C O (i := 40) rfl dX12_readNot_3 ?_
  obtain ⟨q1, hq1, hF⟩ := bnd_some hF
  refine m_callVi C X vX12_is rfl (kX12_is O C.2.2.2.2.1 N 40 (rfl : sI 40 = true) S q1 hq1) (by simp only [rmd]; omega) (by simp only [rmd]; omega) (Nat.zero_le _) (Nat.zero_le _) rfl hl.1 rfl (Nat.le_of_ble_eq_true rfl) dX12_readNot_6 (fun H locs X => ?_)
  refine lv_if_eq (tgt := 40) C.1.1 C.1.2.1 dX12_readNot_9 (by decide) (fun h_z => ?_) (fun h_z => ?_)
  · rw [if_pos h_z] at hF
    exact bX12_readNot_40 C O hd0 KE X (lv_sub hl [0, 1, 2] rfl) hF
  · rw [if_neg h_z] at hF
    exact bX12_readNot_12 C O hd0 KE K2 X (lv_sub hl [0, 1, 2] rfl) hF
noncomputable def fX12_readNot_h2 (N : Nat) (rE : Int32 → gS → Option (Int32 × gS)) : Nat → Int32 → Int32 → gS → Option (Int32 × gS)
  | 0, _, _, _ => none
  | n + 1, x1, x2, S => fX12_readNot_b2 N rE (fX12_readNot_h2 N rE n) x1 x2 S
theorem hX12_readNot_2 {N : Nat} {rE : Int32 → gS → Option (Int32 × gS)} {d0 : Nat} {o : Int32 × gS} (C : gC p s m args meth c cX12_readNot 4 RX12 none D (mtys cI cS) mord g Am) (O : sO (mcell g cI cS (msa aK)) mord g Am aK aV) (hd0 : 10 ≤ d0) (KE : ∀ (x : Int32) (S : gS) (o : Int32 × gS), rE x S = some o → gM l yX12_readExpression cX12_readExpression 3 none d0 D (mtys cI cS) (mcell g cI cS (msa aK)) mord g Am [.ref (g 99), .int x] S none o.2) : ∀ (n : Nat) (x1 : Int32) (x2 : Int32) (S : gS) (H : Heap) (locs : List Loc) (ls : Array Slot), gX D (mcell g cI cS (msa aK)) mord g S s H locs → lv_has ls 4 [(0, .ref (g 99)), (1, .int x1), (2, .int x2)] → fX12_readNot_h2 N rE n x1 x2 S = some o → W p l e (rmd (d0 + 4)) s m args below meth c H locs 0 0 (gE below args s D (mtys cI cS) (mcell g cI cS (msa aK)) mord g none o.2) (F0 m 2 ls []) := by
  intro n
  induction n with
  | zero =>
    intro x1 x2 S H locs ls X hl hF
    exact absurd (show (none : Option (Int32 × gS)) = some o from hF) (by simp)
  | succ n ih =>
    intro x1 x2 S H locs ls X hl hF
    have hF : fX12_readNot_b2 N rE (fX12_readNot_h2 N rE n) x1 x2 S = some o := hF
    exact bX12_readNot_2 C O hd0 KE ih X hl hF
noncomputable def fX12_readNot_b0 (N : Nat) (rE : Int32 → gS → Option (Int32 × gS)) (x1 : Int32) (S : gS) : Option (Int32 × gS) := fX12_readNot_h2 N rE N x1 0 S
theorem bX12_readNot_0 {N : Nat} {rE : Int32 → gS → Option (Int32 × gS)} {d0 : Nat} {x1 : Int32} {S : gS} {H : Heap} {locs : List Loc} {ls : Array Slot} {o : Int32 × gS} (C : gC p s m args meth c cX12_readNot 4 RX12 none D (mtys cI cS) mord g Am) (O : sO (mcell g cI cS (msa aK)) mord g Am aK aV) (hd0 : 10 ≤ d0) (KE : ∀ (x : Int32) (S : gS) (o : Int32 × gS), rE x S = some o → gM l yX12_readExpression cX12_readExpression 3 none d0 D (mtys cI cS) (mcell g cI cS (msa aK)) mord g Am [.ref (g 99), .int x] S none o.2) (X : gX D (mcell g cI cS (msa aK)) mord g S s H locs) (hl : lv_has ls 4 [(0, .ref (g 99)), (1, .int x1)]) (hF : fX12_readNot_b0 N rE x1 S = some o) : W p l e (rmd (d0 + 4)) s m args below meth c H locs 0 0 (gE below args s D (mtys cI cS) (mcell g cI cS (msa aK)) mord g none o.2) (F0 m 0 ls []) := by
  unfold fX12_readNot_b0 at hF
  refine lv_iconst (v := 0) C.1.1 C.1.2.1 dX12_readNot_0 (by decide) ?_
  refine lv_istore_n (lv' := [(2, .int 0), (0, .ref (g 99)), (1, .int x1)]) C.1.1 C.1.2.1 dX12_readNot_1 rfl hl (by decide) rfl (fun ls hl => ?_)
  exact hX12_readNot_2 C O hd0 KE N _ _ _ _ _ _ X (lv_sub hl [1, 2, 0] rfl) hF
noncomputable def fX12_readNot (N : Nat) (rE : Int32 → gS → Option (Int32 × gS)) (x1 : Int32) (S : gS) : Option (Int32 × gS) := fX12_readNot_b0 N rE x1 S
theorem kX12_readNot {l : Launch} {D : va_G} {g : Nat → Nat} {cI cS : ClassId} {Am : (Nat → Prop) → State → Heap → Prop} {aK aV : Nat → Nat} (O : sO (mcell g cI cS (msa aK)) mord g Am aK aV) (P : gAm Am) (N : Nat) {rE : Int32 → gS → Option (Int32 × gS)} {d0 : Nat} (hd0 : 10 ≤ d0) (KE : ∀ (x : Int32) (S : gS) (o : Int32 × gS), rE x S = some o → gM l yX12_readExpression cX12_readExpression 3 none d0 D (mtys cI cS) (mcell g cI cS (msa aK)) mord g Am [.ref (g 99), .int x] S none o.2) (x1 : Int32) (S : gS) (o : Int32 × gS) (hF : fX12_readNot N rE x1 S = some o) : gM l yX12_readNot cX12_readNot 4 none (d0 + 4) D (mtys cI cS) (mcell g cI cS (msa aK)) mord g Am [.ref (g 99), .int x1] S none o.2 :=
  gM_of O.1 P (by decide) (Nat.le_of_ble_eq_true rfl) (fun p e s m args below meth c ls C X hl => bX12_readNot_0 C O hd0 KE X (lv_sub hl [0, 1] rfl) hF)
-- readAnd
noncomputable def fX12_readAnd_b33 (N : Nat) (rE : Int32 → gS → Option (Int32 × gS)) (S : gS) : Option (Int32 × gS) := some (0, S)
theorem bX12_readAnd_33 {N : Nat} {rE : Int32 → gS → Option (Int32 × gS)} {d0 : Nat} {S : gS} {H : Heap} {locs : List Loc} {ls : Array Slot} {o : Int32 × gS} (C : gC p s m args meth c cX12_readAnd 2 RX12 none D (mtys cI cS) mord g Am) (O : sO (mcell g cI cS (msa aK)) mord g Am aK aV) (hd0 : 10 ≤ d0) (KE : ∀ (x : Int32) (S : gS) (o : Int32 × gS), rE x S = some o → gM l yX12_readExpression cX12_readExpression 3 none d0 D (mtys cI cS) (mcell g cI cS (msa aK)) mord g Am [.ref (g 99), .int x] S none o.2) (X : gX D (mcell g cI cS (msa aK)) mord g S s H locs) (hl : lv_has ls 2 []) (hF : fX12_readAnd_b33 N rE S = some o) : W p l e (rmd (d0 + 5)) s m args below meth c H locs 0 0 (gE below args s D (mtys cI cS) (mcell g cI cS (msa aK)) mord g none o.2) (F0 m 33 ls []) := by
  unfold fX12_readAnd_b33 at hF
  cases hF
  exact g_vret C X dX12_readAnd_33
noncomputable def fX12_readAnd_b15 (N : Nat) (rE : Int32 → gS → Option (Int32 × gS)) (r5 : Int32 → gS → Option (Int32 × gS)) (x1 : Int32) (S : gS) : Option (Int32 × gS) := bnd (fX12_stepOn N  S) fun q1 => (bnd (fX12_readNot N rE x1 q1.2) fun q2 => (bnd (fX12_lay N ((-26)) q2.2) fun q3 => (r5 x1 q3.2)))
theorem bX12_readAnd_15 {N : Nat} {rE : Int32 → gS → Option (Int32 × gS)} {d0 : Nat} {r5 : Int32 → gS → Option (Int32 × gS)} {x1 : Int32} {S : gS} {H : Heap} {locs : List Loc} {ls : Array Slot} {o : Int32 × gS} (C : gC p s m args meth c cX12_readAnd 2 RX12 none D (mtys cI cS) mord g Am) (O : sO (mcell g cI cS (msa aK)) mord g Am aK aV) (hd0 : 10 ≤ d0) (KE : ∀ (x : Int32) (S : gS) (o : Int32 × gS), rE x S = some o → gM l yX12_readExpression cX12_readExpression 3 none d0 D (mtys cI cS) (mcell g cI cS (msa aK)) mord g Am [.ref (g 99), .int x] S none o.2) (K5 : ∀ (x1 : Int32) (S : gS) (H : Heap) (locs : List Loc) (ls : Array Slot), gX D (mcell g cI cS (msa aK)) mord g S s H locs → lv_has ls 2 [(0, .ref (g 99)), (1, .int x1)] → r5 x1 S = some o → W p l e (rmd (d0 + 5)) s m args below meth c H locs 0 0 (gE below args s D (mtys cI cS) (mcell g cI cS (msa aK)) mord g none o.2) (F0 m 5 ls [])) (X : gX D (mcell g cI cS (msa aK)) mord g S s H locs) (hl : lv_has ls 2 [(0, .ref (g 99)), (1, .int x1)]) (hF : fX12_readAnd_b15 N rE r5 x1 S = some o) : W p l e (rmd (d0 + 5)) s m args below meth c H locs 0 0 (gE below args s D (mtys cI cS) (mcell g cI cS (msa aK)) mord g none o.2) (F0 m 15 ls []) := by
  unfold fX12_readAnd_b15 at hF
  refine lv_aload_n C.1.1 C.1.2.1 dX12_readAnd_15 rfl (lv_at hl 0 rfl) ?_
  obtain ⟨q1, hq1, hF⟩ := bnd_some hF
  refine m_callV C X vX12_stepOn rfl (kX12_stepOn O.1 C.2.2.2.2.1 N   S q1 hq1) (by simp only [rmd]; omega) (by simp only [rmd]; omega) (Nat.zero_le _) (Nat.zero_le _) rfl hl.1 rfl (Nat.le_of_ble_eq_true rfl) dX12_readAnd_16 (fun H locs X => ?_)
  refine lv_aload_n C.1.1 C.1.2.1 dX12_readAnd_19 rfl (lv_at hl 0 rfl) ?_
  refine lv_iload_n C.1.1 C.1.2.1 dX12_readAnd_20 rfl (lv_at hl 1 rfl) ?_
  obtain ⟨q2, hq2, hF⟩ := bnd_some hF
  refine m_callV C X vX12_readNot rfl (kX12_readNot O C.2.2.2.2.1 N hd0 KE x1  q1.2 q2 hq2) (by simp only [rmd]; omega) (by simp only [rmd]; omega) (Nat.zero_le _) (Nat.zero_le _) rfl hl.1 rfl (Nat.le_of_ble_eq_true rfl) dX12_readAnd_21 (fun H locs X => ?_)
  refine lv_aload_n C.1.1 C.1.2.1 dX12_readAnd_24 rfl (lv_at hl 0 rfl) ?_
  refine lv_bipush (v := (-26)) C.1.1 C.1.2.1 dX12_readAnd_25 (by decide) ?_
  obtain ⟨q3, hq3, hF⟩ := bnd_some hF
  refine m_callV C X vX12_lay rfl (kX12_lay O.1 C.2.2.2.2.1 N ((-26))  q2.2 q3 hq3) (by simp only [rmd]; omega) (by simp only [rmd]; omega) (Nat.zero_le _) (Nat.zero_le _) rfl hl.1 rfl (Nat.le_of_ble_eq_true rfl) dX12_readAnd_27 (fun H locs X => ?_)
  refine lv_goto (tgt := 5) C.1.1 C.1.2.1 dX12_readAnd_30 (by decide) ?_
  exact K5 _ _ _ _ _ X (lv_sub hl [0, 1] rfl) hF
noncomputable def fX12_readAnd_b5 (N : Nat) (rE : Int32 → gS → Option (Int32 × gS)) (r5 : Int32 → gS → Option (Int32 × gS)) (x1 : Int32) (S : gS) : Option (Int32 × gS) := bnd (fX12_is N 41 S) fun q1 => (if q1.1 = 0 then fX12_readAnd_b33 N rE q1.2 else fX12_readAnd_b15 N rE r5 x1 q1.2)
theorem bX12_readAnd_5 {N : Nat} {rE : Int32 → gS → Option (Int32 × gS)} {d0 : Nat} {r5 : Int32 → gS → Option (Int32 × gS)} {x1 : Int32} {S : gS} {H : Heap} {locs : List Loc} {ls : Array Slot} {o : Int32 × gS} (C : gC p s m args meth c cX12_readAnd 2 RX12 none D (mtys cI cS) mord g Am) (O : sO (mcell g cI cS (msa aK)) mord g Am aK aV) (hd0 : 10 ≤ d0) (KE : ∀ (x : Int32) (S : gS) (o : Int32 × gS), rE x S = some o → gM l yX12_readExpression cX12_readExpression 3 none d0 D (mtys cI cS) (mcell g cI cS (msa aK)) mord g Am [.ref (g 99), .int x] S none o.2) (K5 : ∀ (x1 : Int32) (S : gS) (H : Heap) (locs : List Loc) (ls : Array Slot), gX D (mcell g cI cS (msa aK)) mord g S s H locs → lv_has ls 2 [(0, .ref (g 99)), (1, .int x1)] → r5 x1 S = some o → W p l e (rmd (d0 + 5)) s m args below meth c H locs 0 0 (gE below args s D (mtys cI cS) (mcell g cI cS (msa aK)) mord g none o.2) (F0 m 5 ls [])) (X : gX D (mcell g cI cS (msa aK)) mord g S s H locs) (hl : lv_has ls 2 [(0, .ref (g 99)), (1, .int x1)]) (hF : fX12_readAnd_b5 N rE r5 x1 S = some o) : W p l e (rmd (d0 + 5)) s m args below meth c H locs 0 0 (gE below args s D (mtys cI cS) (mcell g cI cS (msa aK)) mord g none o.2) (F0 m 5 ls []) := by
  unfold fX12_readAnd_b5 at hF
  refine lv_aload_n C.1.1 C.1.2.1 dX12_readAnd_5 rfl (lv_at hl 0 rfl) ?_
  refine s_ldcw C O (i := 41) rfl dX12_readAnd_6 ?_
  obtain ⟨q1, hq1, hF⟩ := bnd_some hF
  refine m_callVi C X vX12_is rfl (kX12_is O C.2.2.2.2.1 N 41 (rfl : sI 41 = true) S q1 hq1) (by simp only [rmd]; omega) (by simp only [rmd]; omega) (Nat.zero_le _) (Nat.zero_le _) rfl hl.1 rfl (Nat.le_of_ble_eq_true rfl) dX12_readAnd_9 (fun H locs X => ?_)
  refine lv_if_eq (tgt := 33) C.1.1 C.1.2.1 dX12_readAnd_12 (by decide) (fun h_z => ?_) (fun h_z => ?_)
  · rw [if_pos h_z] at hF
    exact bX12_readAnd_33 C O hd0 KE X (lv_sub hl [] rfl) hF
  · rw [if_neg h_z] at hF
    exact bX12_readAnd_15 C O hd0 KE K5 X (lv_sub hl [0, 1] rfl) hF
noncomputable def fX12_readAnd_h5 (N : Nat) (rE : Int32 → gS → Option (Int32 × gS)) : Nat → Int32 → gS → Option (Int32 × gS)
  | 0, _, _ => none
  | n + 1, x1, S => fX12_readAnd_b5 N rE (fX12_readAnd_h5 N rE n) x1 S
theorem hX12_readAnd_5 {N : Nat} {rE : Int32 → gS → Option (Int32 × gS)} {d0 : Nat} {o : Int32 × gS} (C : gC p s m args meth c cX12_readAnd 2 RX12 none D (mtys cI cS) mord g Am) (O : sO (mcell g cI cS (msa aK)) mord g Am aK aV) (hd0 : 10 ≤ d0) (KE : ∀ (x : Int32) (S : gS) (o : Int32 × gS), rE x S = some o → gM l yX12_readExpression cX12_readExpression 3 none d0 D (mtys cI cS) (mcell g cI cS (msa aK)) mord g Am [.ref (g 99), .int x] S none o.2) : ∀ (n : Nat) (x1 : Int32) (S : gS) (H : Heap) (locs : List Loc) (ls : Array Slot), gX D (mcell g cI cS (msa aK)) mord g S s H locs → lv_has ls 2 [(0, .ref (g 99)), (1, .int x1)] → fX12_readAnd_h5 N rE n x1 S = some o → W p l e (rmd (d0 + 5)) s m args below meth c H locs 0 0 (gE below args s D (mtys cI cS) (mcell g cI cS (msa aK)) mord g none o.2) (F0 m 5 ls []) := by
  intro n
  induction n with
  | zero =>
    intro x1 S H locs ls X hl hF
    exact absurd (show (none : Option (Int32 × gS)) = some o from hF) (by simp)
  | succ n ih =>
    intro x1 S H locs ls X hl hF
    have hF : fX12_readAnd_b5 N rE (fX12_readAnd_h5 N rE n) x1 S = some o := hF
    exact bX12_readAnd_5 C O hd0 KE ih X hl hF
noncomputable def fX12_readAnd_b0 (N : Nat) (rE : Int32 → gS → Option (Int32 × gS)) (x1 : Int32) (S : gS) : Option (Int32 × gS) := bnd (fX12_readNot N rE x1 S) fun q1 => (fX12_readAnd_h5 N rE N x1 q1.2)
theorem bX12_readAnd_0 {N : Nat} {rE : Int32 → gS → Option (Int32 × gS)} {d0 : Nat} {x1 : Int32} {S : gS} {H : Heap} {locs : List Loc} {ls : Array Slot} {o : Int32 × gS} (C : gC p s m args meth c cX12_readAnd 2 RX12 none D (mtys cI cS) mord g Am) (O : sO (mcell g cI cS (msa aK)) mord g Am aK aV) (hd0 : 10 ≤ d0) (KE : ∀ (x : Int32) (S : gS) (o : Int32 × gS), rE x S = some o → gM l yX12_readExpression cX12_readExpression 3 none d0 D (mtys cI cS) (mcell g cI cS (msa aK)) mord g Am [.ref (g 99), .int x] S none o.2) (X : gX D (mcell g cI cS (msa aK)) mord g S s H locs) (hl : lv_has ls 2 [(0, .ref (g 99)), (1, .int x1)]) (hF : fX12_readAnd_b0 N rE x1 S = some o) : W p l e (rmd (d0 + 5)) s m args below meth c H locs 0 0 (gE below args s D (mtys cI cS) (mcell g cI cS (msa aK)) mord g none o.2) (F0 m 0 ls []) := by
  unfold fX12_readAnd_b0 at hF
  refine lv_aload_n C.1.1 C.1.2.1 dX12_readAnd_0 rfl (lv_at hl 0 rfl) ?_
  refine lv_iload_n C.1.1 C.1.2.1 dX12_readAnd_1 rfl (lv_at hl 1 rfl) ?_
  obtain ⟨q1, hq1, hF⟩ := bnd_some hF
  refine m_callV C X vX12_readNot rfl (kX12_readNot O C.2.2.2.2.1 N hd0 KE x1  S q1 hq1) (by simp only [rmd]; omega) (by simp only [rmd]; omega) (Nat.zero_le _) (Nat.zero_le _) rfl hl.1 rfl (Nat.le_of_ble_eq_true rfl) dX12_readAnd_2 (fun H locs X => ?_)
  exact hX12_readAnd_5 C O hd0 KE N _ _ _ _ _ X (lv_sub hl [0, 1] rfl) hF
noncomputable def fX12_readAnd (N : Nat) (rE : Int32 → gS → Option (Int32 × gS)) (x1 : Int32) (S : gS) : Option (Int32 × gS) := fX12_readAnd_b0 N rE x1 S
theorem kX12_readAnd {l : Launch} {D : va_G} {g : Nat → Nat} {cI cS : ClassId} {Am : (Nat → Prop) → State → Heap → Prop} {aK aV : Nat → Nat} (O : sO (mcell g cI cS (msa aK)) mord g Am aK aV) (P : gAm Am) (N : Nat) {rE : Int32 → gS → Option (Int32 × gS)} {d0 : Nat} (hd0 : 10 ≤ d0) (KE : ∀ (x : Int32) (S : gS) (o : Int32 × gS), rE x S = some o → gM l yX12_readExpression cX12_readExpression 3 none d0 D (mtys cI cS) (mcell g cI cS (msa aK)) mord g Am [.ref (g 99), .int x] S none o.2) (x1 : Int32) (S : gS) (o : Int32 × gS) (hF : fX12_readAnd N rE x1 S = some o) : gM l yX12_readAnd cX12_readAnd 2 none (d0 + 5) D (mtys cI cS) (mcell g cI cS (msa aK)) mord g Am [.ref (g 99), .int x1] S none o.2 :=
  gM_of O.1 P (by decide) (Nat.le_of_ble_eq_true rfl) (fun p e s m args below meth c ls C X hl => bX12_readAnd_0 C O hd0 KE X (lv_sub hl [0, 1] rfl) hF)
-- readExpression
noncomputable def fX12_readExpression_b95 (N : Nat) (rE : Int32 → gS → Option (Int32 × gS)) (S : gS) : Option (Int32 × gS) := some (0, S)
theorem bX12_readExpression_95 {N : Nat} {rE : Int32 → gS → Option (Int32 × gS)} {d0 : Nat} {S : gS} {H : Heap} {locs : List Loc} {ls : Array Slot} {o : Int32 × gS} (C : gC p s m args meth c cX12_readExpression 3 RX12 none D (mtys cI cS) mord g Am) (O : sO (mcell g cI cS (msa aK)) mord g Am aK aV) (hd0 : 10 ≤ d0) (KE : ∀ (x : Int32) (S : gS) (o : Int32 × gS), rE x S = some o → gM l yX12_readExpression cX12_readExpression 3 none d0 D (mtys cI cS) (mcell g cI cS (msa aK)) mord g Am [.ref (g 99), .int x] S none o.2) (X : gX D (mcell g cI cS (msa aK)) mord g S s H locs) (hl : lv_has ls 3 []) (hF : fX12_readExpression_b95 N rE S = some o) : W p l e (rmd (d0 + 6)) s m args below meth c H locs 0 0 (gE below args s D (mtys cI cS) (mcell g cI cS (msa aK)) mord g none o.2) (F0 m 95 ls []) := by
  unfold fX12_readExpression_b95 at hF
  cases hF
  exact g_vret C X dX12_readExpression_95
noncomputable def fX12_readExpression_b77 (N : Nat) (rE : Int32 → gS → Option (Int32 × gS)) (r67 : Int32 → gS → Option (Int32 × gS)) (x1 : Int32) (S : gS) : Option (Int32 × gS) := bnd (fX12_stepOn N  S) fun q1 => (bnd (fX12_readAnd N rE x1 q1.2) fun q2 => (bnd (fX12_lay N ((-27)) q2.2) fun q3 => (r67 x1 q3.2)))
theorem bX12_readExpression_77 {N : Nat} {rE : Int32 → gS → Option (Int32 × gS)} {d0 : Nat} {r67 : Int32 → gS → Option (Int32 × gS)} {x1 : Int32} {S : gS} {H : Heap} {locs : List Loc} {ls : Array Slot} {o : Int32 × gS} (C : gC p s m args meth c cX12_readExpression 3 RX12 none D (mtys cI cS) mord g Am) (O : sO (mcell g cI cS (msa aK)) mord g Am aK aV) (hd0 : 10 ≤ d0) (KE : ∀ (x : Int32) (S : gS) (o : Int32 × gS), rE x S = some o → gM l yX12_readExpression cX12_readExpression 3 none d0 D (mtys cI cS) (mcell g cI cS (msa aK)) mord g Am [.ref (g 99), .int x] S none o.2) (K67 : ∀ (x1 : Int32) (S : gS) (H : Heap) (locs : List Loc) (ls : Array Slot), gX D (mcell g cI cS (msa aK)) mord g S s H locs → lv_has ls 3 [(0, .ref (g 99)), (1, .int x1)] → r67 x1 S = some o → W p l e (rmd (d0 + 6)) s m args below meth c H locs 0 0 (gE below args s D (mtys cI cS) (mcell g cI cS (msa aK)) mord g none o.2) (F0 m 67 ls [])) (X : gX D (mcell g cI cS (msa aK)) mord g S s H locs) (hl : lv_has ls 3 [(0, .ref (g 99)), (1, .int x1)]) (hF : fX12_readExpression_b77 N rE r67 x1 S = some o) : W p l e (rmd (d0 + 6)) s m args below meth c H locs 0 0 (gE below args s D (mtys cI cS) (mcell g cI cS (msa aK)) mord g none o.2) (F0 m 77 ls []) := by
  unfold fX12_readExpression_b77 at hF
  refine lv_aload_n C.1.1 C.1.2.1 dX12_readExpression_77 rfl (lv_at hl 0 rfl) ?_
  obtain ⟨q1, hq1, hF⟩ := bnd_some hF
  refine m_callV C X vX12_stepOn rfl (kX12_stepOn O.1 C.2.2.2.2.1 N   S q1 hq1) (by simp only [rmd]; omega) (by simp only [rmd]; omega) (Nat.zero_le _) (Nat.zero_le _) rfl hl.1 rfl (Nat.le_of_ble_eq_true rfl) dX12_readExpression_78 (fun H locs X => ?_)
  refine lv_aload_n C.1.1 C.1.2.1 dX12_readExpression_81 rfl (lv_at hl 0 rfl) ?_
  refine lv_iload_n C.1.1 C.1.2.1 dX12_readExpression_82 rfl (lv_at hl 1 rfl) ?_
  obtain ⟨q2, hq2, hF⟩ := bnd_some hF
  refine m_callV C X vX12_readAnd rfl (kX12_readAnd O C.2.2.2.2.1 N hd0 KE x1  q1.2 q2 hq2) (by simp only [rmd]; omega) (by simp only [rmd]; omega) (Nat.zero_le _) (Nat.zero_le _) rfl hl.1 rfl (Nat.le_of_ble_eq_true rfl) dX12_readExpression_83 (fun H locs X => ?_)
  refine lv_aload_n C.1.1 C.1.2.1 dX12_readExpression_86 rfl (lv_at hl 0 rfl) ?_
  refine lv_bipush (v := (-27)) C.1.1 C.1.2.1 dX12_readExpression_87 (by decide) ?_
  obtain ⟨q3, hq3, hF⟩ := bnd_some hF
  refine m_callV C X vX12_lay rfl (kX12_lay O.1 C.2.2.2.2.1 N ((-27))  q2.2 q3 hq3) (by simp only [rmd]; omega) (by simp only [rmd]; omega) (Nat.zero_le _) (Nat.zero_le _) rfl hl.1 rfl (Nat.le_of_ble_eq_true rfl) dX12_readExpression_89 (fun H locs X => ?_)
  refine lv_goto (tgt := 67) C.1.1 C.1.2.1 dX12_readExpression_92 (by decide) ?_
  exact K67 _ _ _ _ _ X (lv_sub hl [0, 1] rfl) hF
noncomputable def fX12_readExpression_b67 (N : Nat) (rE : Int32 → gS → Option (Int32 × gS)) (r67 : Int32 → gS → Option (Int32 × gS)) (x1 : Int32) (S : gS) : Option (Int32 × gS) := bnd (fX12_is N 42 S) fun q1 => (if q1.1 = 0 then fX12_readExpression_b95 N rE q1.2 else fX12_readExpression_b77 N rE r67 x1 q1.2)
theorem bX12_readExpression_67 {N : Nat} {rE : Int32 → gS → Option (Int32 × gS)} {d0 : Nat} {r67 : Int32 → gS → Option (Int32 × gS)} {x1 : Int32} {S : gS} {H : Heap} {locs : List Loc} {ls : Array Slot} {o : Int32 × gS} (C : gC p s m args meth c cX12_readExpression 3 RX12 none D (mtys cI cS) mord g Am) (O : sO (mcell g cI cS (msa aK)) mord g Am aK aV) (hd0 : 10 ≤ d0) (KE : ∀ (x : Int32) (S : gS) (o : Int32 × gS), rE x S = some o → gM l yX12_readExpression cX12_readExpression 3 none d0 D (mtys cI cS) (mcell g cI cS (msa aK)) mord g Am [.ref (g 99), .int x] S none o.2) (K67 : ∀ (x1 : Int32) (S : gS) (H : Heap) (locs : List Loc) (ls : Array Slot), gX D (mcell g cI cS (msa aK)) mord g S s H locs → lv_has ls 3 [(0, .ref (g 99)), (1, .int x1)] → r67 x1 S = some o → W p l e (rmd (d0 + 6)) s m args below meth c H locs 0 0 (gE below args s D (mtys cI cS) (mcell g cI cS (msa aK)) mord g none o.2) (F0 m 67 ls [])) (X : gX D (mcell g cI cS (msa aK)) mord g S s H locs) (hl : lv_has ls 3 [(0, .ref (g 99)), (1, .int x1)]) (hF : fX12_readExpression_b67 N rE r67 x1 S = some o) : W p l e (rmd (d0 + 6)) s m args below meth c H locs 0 0 (gE below args s D (mtys cI cS) (mcell g cI cS (msa aK)) mord g none o.2) (F0 m 67 ls []) := by
  unfold fX12_readExpression_b67 at hF
  refine lv_aload_n C.1.1 C.1.2.1 dX12_readExpression_67 rfl (lv_at hl 0 rfl) ?_
  refine s_ldcw C O (i := 42) rfl dX12_readExpression_68 ?_
  obtain ⟨q1, hq1, hF⟩ := bnd_some hF
  refine m_callVi C X vX12_is rfl (kX12_is O C.2.2.2.2.1 N 42 (rfl : sI 42 = true) S q1 hq1) (by simp only [rmd]; omega) (by simp only [rmd]; omega) (Nat.zero_le _) (Nat.zero_le _) rfl hl.1 rfl (Nat.le_of_ble_eq_true rfl) dX12_readExpression_71 (fun H locs X => ?_)
  refine lv_if_eq (tgt := 95) C.1.1 C.1.2.1 dX12_readExpression_74 (by decide) (fun h_z => ?_) (fun h_z => ?_)
  · rw [if_pos h_z] at hF
    exact bX12_readExpression_95 C O hd0 KE X (lv_sub hl [] rfl) hF
  · rw [if_neg h_z] at hF
    exact bX12_readExpression_77 C O hd0 KE K67 X (lv_sub hl [0, 1] rfl) hF
noncomputable def fX12_readExpression_h67 (N : Nat) (rE : Int32 → gS → Option (Int32 × gS)) : Nat → Int32 → gS → Option (Int32 × gS)
  | 0, _, _ => none
  | n + 1, x1, S => fX12_readExpression_b67 N rE (fX12_readExpression_h67 N rE n) x1 S
theorem hX12_readExpression_67 {N : Nat} {rE : Int32 → gS → Option (Int32 × gS)} {d0 : Nat} {o : Int32 × gS} (C : gC p s m args meth c cX12_readExpression 3 RX12 none D (mtys cI cS) mord g Am) (O : sO (mcell g cI cS (msa aK)) mord g Am aK aV) (hd0 : 10 ≤ d0) (KE : ∀ (x : Int32) (S : gS) (o : Int32 × gS), rE x S = some o → gM l yX12_readExpression cX12_readExpression 3 none d0 D (mtys cI cS) (mcell g cI cS (msa aK)) mord g Am [.ref (g 99), .int x] S none o.2) : ∀ (n : Nat) (x1 : Int32) (S : gS) (H : Heap) (locs : List Loc) (ls : Array Slot), gX D (mcell g cI cS (msa aK)) mord g S s H locs → lv_has ls 3 [(0, .ref (g 99)), (1, .int x1)] → fX12_readExpression_h67 N rE n x1 S = some o → W p l e (rmd (d0 + 6)) s m args below meth c H locs 0 0 (gE below args s D (mtys cI cS) (mcell g cI cS (msa aK)) mord g none o.2) (F0 m 67 ls []) := by
  intro n
  induction n with
  | zero =>
    intro x1 S H locs ls X hl hF
    exact absurd (show (none : Option (Int32 × gS)) = some o from hF) (by simp)
  | succ n ih =>
    intro x1 S H locs ls X hl hF
    have hF : fX12_readExpression_b67 N rE (fX12_readExpression_h67 N rE n) x1 S = some o := hF
    exact bX12_readExpression_67 C O hd0 KE ih X hl hF
noncomputable def fX12_readExpression_b62 (N : Nat) (rE : Int32 → gS → Option (Int32 × gS)) (x1 : Int32) (S : gS) : Option (Int32 × gS) := bnd (fX12_readAnd N rE x1 S) fun q1 => (fX12_readExpression_h67 N rE N x1 q1.2)
theorem bX12_readExpression_62 {N : Nat} {rE : Int32 → gS → Option (Int32 × gS)} {d0 : Nat} {x1 : Int32} {S : gS} {H : Heap} {locs : List Loc} {ls : Array Slot} {o : Int32 × gS} (C : gC p s m args meth c cX12_readExpression 3 RX12 none D (mtys cI cS) mord g Am) (O : sO (mcell g cI cS (msa aK)) mord g Am aK aV) (hd0 : 10 ≤ d0) (KE : ∀ (x : Int32) (S : gS) (o : Int32 × gS), rE x S = some o → gM l yX12_readExpression cX12_readExpression 3 none d0 D (mtys cI cS) (mcell g cI cS (msa aK)) mord g Am [.ref (g 99), .int x] S none o.2) (X : gX D (mcell g cI cS (msa aK)) mord g S s H locs) (hl : lv_has ls 3 [(0, .ref (g 99)), (1, .int x1)]) (hF : fX12_readExpression_b62 N rE x1 S = some o) : W p l e (rmd (d0 + 6)) s m args below meth c H locs 0 0 (gE below args s D (mtys cI cS) (mcell g cI cS (msa aK)) mord g none o.2) (F0 m 62 ls []) := by
  unfold fX12_readExpression_b62 at hF
  refine lv_aload_n C.1.1 C.1.2.1 dX12_readExpression_62 rfl (lv_at hl 0 rfl) ?_
  refine lv_iload_n C.1.1 C.1.2.1 dX12_readExpression_63 rfl (lv_at hl 1 rfl) ?_
  obtain ⟨q1, hq1, hF⟩ := bnd_some hF
  refine m_callV C X vX12_readAnd rfl (kX12_readAnd O C.2.2.2.2.1 N hd0 KE x1  S q1 hq1) (by simp only [rmd]; omega) (by simp only [rmd]; omega) (Nat.zero_le _) (Nat.zero_le _) rfl hl.1 rfl (Nat.le_of_ble_eq_true rfl) dX12_readExpression_64 (fun H locs X => ?_)
  exact hX12_readExpression_67 C O hd0 KE N _ _ _ _ _ X (lv_sub hl [0, 1] rfl) hF
noncomputable def fX12_readExpression_b57 (N : Nat) (rE : Int32 → gS → Option (Int32 × gS)) (x1 : Int32) (S : gS) : Option (Int32 × gS) := bnd (fX12_wrong N 2 S) fun q1 => (fX12_readExpression_b62 N rE x1 q1.2)
theorem bX12_readExpression_57 {N : Nat} {rE : Int32 → gS → Option (Int32 × gS)} {d0 : Nat} {x1 : Int32} {S : gS} {H : Heap} {locs : List Loc} {ls : Array Slot} {o : Int32 × gS} (C : gC p s m args meth c cX12_readExpression 3 RX12 none D (mtys cI cS) mord g Am) (O : sO (mcell g cI cS (msa aK)) mord g Am aK aV) (hd0 : 10 ≤ d0) (KE : ∀ (x : Int32) (S : gS) (o : Int32 × gS), rE x S = some o → gM l yX12_readExpression cX12_readExpression 3 none d0 D (mtys cI cS) (mcell g cI cS (msa aK)) mord g Am [.ref (g 99), .int x] S none o.2) (X : gX D (mcell g cI cS (msa aK)) mord g S s H locs) (hl : lv_has ls 3 [(0, .ref (g 99)), (1, .int x1)]) (hF : fX12_readExpression_b57 N rE x1 S = some o) : W p l e (rmd (d0 + 6)) s m args below meth c H locs 0 0 (gE below args s D (mtys cI cS) (mcell g cI cS (msa aK)) mord g none o.2) (F0 m 57 ls []) := by
  unfold fX12_readExpression_b57 at hF
  refine lv_aload_n C.1.1 C.1.2.1 dX12_readExpression_57 rfl (lv_at hl 0 rfl) ?_
  refine lv_iconst (v := 2) C.1.1 C.1.2.1 dX12_readExpression_58 (by decide) ?_
  obtain ⟨q1, hq1, hF⟩ := bnd_some hF
  refine m_callV C X vX12_wrong rfl (kX12_wrong O.1 C.2.2.2.2.1 N 2  S q1 hq1) (by simp only [rmd]; omega) (by simp only [rmd]; omega) (Nat.zero_le _) (Nat.zero_le _) rfl hl.1 rfl (Nat.le_of_ble_eq_true rfl) dX12_readExpression_59 (fun H locs X => ?_)
  exact bX12_readExpression_62 C O hd0 KE X (lv_sub hl [0, 1] rfl) hF
noncomputable def fX12_readExpression_b51 (N : Nat) (rE : Int32 → gS → Option (Int32 × gS)) (x1 : Int32) (S : gS) : Option (Int32 × gS) := if x1 = 6 then fX12_readExpression_b57 N rE x1 S else fX12_readExpression_b62 N rE x1 S
theorem bX12_readExpression_51 {N : Nat} {rE : Int32 → gS → Option (Int32 × gS)} {d0 : Nat} {x1 : Int32} {S : gS} {H : Heap} {locs : List Loc} {ls : Array Slot} {o : Int32 × gS} (C : gC p s m args meth c cX12_readExpression 3 RX12 none D (mtys cI cS) mord g Am) (O : sO (mcell g cI cS (msa aK)) mord g Am aK aV) (hd0 : 10 ≤ d0) (KE : ∀ (x : Int32) (S : gS) (o : Int32 × gS), rE x S = some o → gM l yX12_readExpression cX12_readExpression 3 none d0 D (mtys cI cS) (mcell g cI cS (msa aK)) mord g Am [.ref (g 99), .int x] S none o.2) (X : gX D (mcell g cI cS (msa aK)) mord g S s H locs) (hl : lv_has ls 3 [(0, .ref (g 99)), (1, .int x1)]) (hF : fX12_readExpression_b51 N rE x1 S = some o) : W p l e (rmd (d0 + 6)) s m args below meth c H locs 0 0 (gE below args s D (mtys cI cS) (mcell g cI cS (msa aK)) mord g none o.2) (F0 m 51 ls []) := by
  unfold fX12_readExpression_b51 at hF
  refine lv_iload_n C.1.1 C.1.2.1 dX12_readExpression_51 rfl (lv_at hl 1 rfl) ?_
  refine lv_bipush (v := 6) C.1.1 C.1.2.1 dX12_readExpression_52 (by decide) ?_
  refine lv_icmp_ne (tgt := 62) C.1.1 C.1.2.1 dX12_readExpression_54 (by decide) (fun h_z => ?_) (fun h_z => ?_)
  · rw [if_neg h_z] at hF
    exact bX12_readExpression_62 C O hd0 KE X (lv_sub hl [0, 1] rfl) hF
  · rw [if_pos h_z] at hF
    exact bX12_readExpression_57 C O hd0 KE X (lv_sub hl [0, 1] rfl) hF
noncomputable def fX12_readExpression_b43 (N : Nat) (rE : Int32 → gS → Option (Int32 × gS)) (x1 : Int32) (S : gS) : Option (Int32 × gS) := bnd (fX12_wrong N 1 S) fun q1 => (fX12_readExpression_b62 N rE x1 q1.2)
theorem bX12_readExpression_43 {N : Nat} {rE : Int32 → gS → Option (Int32 × gS)} {d0 : Nat} {x1 : Int32} {S : gS} {H : Heap} {locs : List Loc} {ls : Array Slot} {o : Int32 × gS} (C : gC p s m args meth c cX12_readExpression 3 RX12 none D (mtys cI cS) mord g Am) (O : sO (mcell g cI cS (msa aK)) mord g Am aK aV) (hd0 : 10 ≤ d0) (KE : ∀ (x : Int32) (S : gS) (o : Int32 × gS), rE x S = some o → gM l yX12_readExpression cX12_readExpression 3 none d0 D (mtys cI cS) (mcell g cI cS (msa aK)) mord g Am [.ref (g 99), .int x] S none o.2) (X : gX D (mcell g cI cS (msa aK)) mord g S s H locs) (hl : lv_has ls 3 [(0, .ref (g 99)), (1, .int x1)]) (hF : fX12_readExpression_b43 N rE x1 S = some o) : W p l e (rmd (d0 + 6)) s m args below meth c H locs 0 0 (gE below args s D (mtys cI cS) (mcell g cI cS (msa aK)) mord g none o.2) (F0 m 43 ls []) := by
  unfold fX12_readExpression_b43 at hF
  refine lv_aload_n C.1.1 C.1.2.1 dX12_readExpression_43 rfl (lv_at hl 0 rfl) ?_
  refine lv_iconst (v := 1) C.1.1 C.1.2.1 dX12_readExpression_44 (by decide) ?_
  obtain ⟨q1, hq1, hF⟩ := bnd_some hF
  refine m_callV C X vX12_wrong rfl (kX12_wrong O.1 C.2.2.2.2.1 N 1  S q1 hq1) (by simp only [rmd]; omega) (by simp only [rmd]; omega) (Nat.zero_le _) (Nat.zero_le _) rfl hl.1 rfl (Nat.le_of_ble_eq_true rfl) dX12_readExpression_45 (fun H locs X => ?_)
  refine lv_goto (tgt := 62) C.1.1 C.1.2.1 dX12_readExpression_48 (by decide) ?_
  exact bX12_readExpression_62 C O hd0 KE X (lv_sub hl [0, 1] rfl) hF
noncomputable def fX12_readExpression_b38 (N : Nat) (rE : Int32 → gS → Option (Int32 × gS)) (x1 : Int32) (t0 : Int32) (S : gS) : Option (Int32 × gS) := if t0 = 0 then fX12_readExpression_b43 N rE x1 S else fX12_readExpression_b51 N rE x1 S
theorem bX12_readExpression_38 {N : Nat} {rE : Int32 → gS → Option (Int32 × gS)} {d0 : Nat} {x1 : Int32} {t0 : Int32} {S : gS} {H : Heap} {locs : List Loc} {ls : Array Slot} {o : Int32 × gS} (C : gC p s m args meth c cX12_readExpression 3 RX12 none D (mtys cI cS) mord g Am) (O : sO (mcell g cI cS (msa aK)) mord g Am aK aV) (hd0 : 10 ≤ d0) (KE : ∀ (x : Int32) (S : gS) (o : Int32 × gS), rE x S = some o → gM l yX12_readExpression cX12_readExpression 3 none d0 D (mtys cI cS) (mcell g cI cS (msa aK)) mord g Am [.ref (g 99), .int x] S none o.2) (X : gX D (mcell g cI cS (msa aK)) mord g S s H locs) (hl : lv_has ls 3 [(0, .ref (g 99)), (1, .int x1)]) (hF : fX12_readExpression_b38 N rE x1 t0 S = some o) : W p l e (rmd (d0 + 6)) s m args below meth c H locs 0 0 (gE below args s D (mtys cI cS) (mcell g cI cS (msa aK)) mord g none o.2) (F0 m 38 ls [.int t0]) := by
  unfold fX12_readExpression_b38 at hF
  refine lv_istore_n (lv' := [(2, .int t0), (0, .ref (g 99)), (1, .int x1)]) C.1.1 C.1.2.1 dX12_readExpression_38 rfl hl (by decide) rfl (fun ls hl => ?_)
  refine lv_iload_n C.1.1 C.1.2.1 dX12_readExpression_39 rfl (lv_at hl 0 rfl) ?_
  refine lv_if_ne (tgt := 51) C.1.1 C.1.2.1 dX12_readExpression_40 (by decide) (fun h_z => ?_) (fun h_z => ?_)
  · rw [if_neg h_z] at hF
    exact bX12_readExpression_51 C O hd0 KE X (lv_sub hl [1, 2] rfl) hF
  · rw [if_pos h_z] at hF
    exact bX12_readExpression_43 C O hd0 KE X (lv_sub hl [1, 2] rfl) hF
noncomputable def fX12_readExpression_b37 (N : Nat) (rE : Int32 → gS → Option (Int32 × gS)) (x1 : Int32) (S : gS) : Option (Int32 × gS) := fX12_readExpression_b38 N rE x1 0 S
theorem bX12_readExpression_37 {N : Nat} {rE : Int32 → gS → Option (Int32 × gS)} {d0 : Nat} {x1 : Int32} {S : gS} {H : Heap} {locs : List Loc} {ls : Array Slot} {o : Int32 × gS} (C : gC p s m args meth c cX12_readExpression 3 RX12 none D (mtys cI cS) mord g Am) (O : sO (mcell g cI cS (msa aK)) mord g Am aK aV) (hd0 : 10 ≤ d0) (KE : ∀ (x : Int32) (S : gS) (o : Int32 × gS), rE x S = some o → gM l yX12_readExpression cX12_readExpression 3 none d0 D (mtys cI cS) (mcell g cI cS (msa aK)) mord g Am [.ref (g 99), .int x] S none o.2) (X : gX D (mcell g cI cS (msa aK)) mord g S s H locs) (hl : lv_has ls 3 [(0, .ref (g 99)), (1, .int x1)]) (hF : fX12_readExpression_b37 N rE x1 S = some o) : W p l e (rmd (d0 + 6)) s m args below meth c H locs 0 0 (gE below args s D (mtys cI cS) (mcell g cI cS (msa aK)) mord g none o.2) (F0 m 37 ls []) := by
  unfold fX12_readExpression_b37 at hF
  refine lv_iconst (v := 0) C.1.1 C.1.2.1 dX12_readExpression_37 (by decide) ?_
  exact bX12_readExpression_38 C O hd0 KE X (lv_sub hl [0, 1] rfl) hF
noncomputable def fX12_readExpression_b33 (N : Nat) (rE : Int32 → gS → Option (Int32 × gS)) (x1 : Int32) (S : gS) : Option (Int32 × gS) := fX12_readExpression_b38 N rE x1 1 S
theorem bX12_readExpression_33 {N : Nat} {rE : Int32 → gS → Option (Int32 × gS)} {d0 : Nat} {x1 : Int32} {S : gS} {H : Heap} {locs : List Loc} {ls : Array Slot} {o : Int32 × gS} (C : gC p s m args meth c cX12_readExpression 3 RX12 none D (mtys cI cS) mord g Am) (O : sO (mcell g cI cS (msa aK)) mord g Am aK aV) (hd0 : 10 ≤ d0) (KE : ∀ (x : Int32) (S : gS) (o : Int32 × gS), rE x S = some o → gM l yX12_readExpression cX12_readExpression 3 none d0 D (mtys cI cS) (mcell g cI cS (msa aK)) mord g Am [.ref (g 99), .int x] S none o.2) (X : gX D (mcell g cI cS (msa aK)) mord g S s H locs) (hl : lv_has ls 3 [(0, .ref (g 99)), (1, .int x1)]) (hF : fX12_readExpression_b33 N rE x1 S = some o) : W p l e (rmd (d0 + 6)) s m args below meth c H locs 0 0 (gE below args s D (mtys cI cS) (mcell g cI cS (msa aK)) mord g none o.2) (F0 m 33 ls []) := by
  unfold fX12_readExpression_b33 at hF
  refine lv_iconst (v := 1) C.1.1 C.1.2.1 dX12_readExpression_33 (by decide) ?_
  refine lv_goto (tgt := 38) C.1.1 C.1.2.1 dX12_readExpression_34 (by decide) ?_
  exact bX12_readExpression_38 C O hd0 KE X (lv_sub hl [0, 1] rfl) hF
noncomputable def fX12_readExpression_b24 (N : Nat) (rE : Int32 → gS → Option (Int32 × gS)) (x1 : Int32) (S : gS) : Option (Int32 × gS) := bnd (fX12_isMarked N 40 S) fun q1 => (if q1.1 = 0 then fX12_readExpression_b37 N rE x1 q1.2 else fX12_readExpression_b33 N rE x1 q1.2)
theorem bX12_readExpression_24 {N : Nat} {rE : Int32 → gS → Option (Int32 × gS)} {d0 : Nat} {x1 : Int32} {S : gS} {H : Heap} {locs : List Loc} {ls : Array Slot} {o : Int32 × gS} (C : gC p s m args meth c cX12_readExpression 3 RX12 none D (mtys cI cS) mord g Am) (O : sO (mcell g cI cS (msa aK)) mord g Am aK aV) (hd0 : 10 ≤ d0) (KE : ∀ (x : Int32) (S : gS) (o : Int32 × gS), rE x S = some o → gM l yX12_readExpression cX12_readExpression 3 none d0 D (mtys cI cS) (mcell g cI cS (msa aK)) mord g Am [.ref (g 99), .int x] S none o.2) (X : gX D (mcell g cI cS (msa aK)) mord g S s H locs) (hl : lv_has ls 3 [(0, .ref (g 99)), (1, .int x1)]) (hF : fX12_readExpression_b24 N rE x1 S = some o) : W p l e (rmd (d0 + 6)) s m args below meth c H locs 0 0 (gE below args s D (mtys cI cS) (mcell g cI cS (msa aK)) mord g none o.2) (F0 m 24 ls []) := by
  unfold fX12_readExpression_b24 at hF
  refine lv_aload_n C.1.1 C.1.2.1 dX12_readExpression_24 rfl (lv_at hl 0 rfl) ?_
  refine lv_bipush (v := 40) C.1.1 C.1.2.1 dX12_readExpression_25 (by decide) ?_
  obtain ⟨q1, hq1, hF⟩ := bnd_some hF
  refine m_callVi C X vX12_isMarked rfl (kX12_isMarked O.1 C.2.2.2.2.1 N 40  S q1 hq1) (by simp only [rmd]; omega) (by simp only [rmd]; omega) (Nat.zero_le _) (Nat.zero_le _) rfl hl.1 rfl (Nat.le_of_ble_eq_true rfl) dX12_readExpression_27 (fun H locs X => ?_)
  refine lv_if_eq (tgt := 37) C.1.1 C.1.2.1 dX12_readExpression_30 (by decide) (fun h_z => ?_) (fun h_z => ?_)
  · rw [if_pos h_z] at hF
    exact bX12_readExpression_37 C O hd0 KE X (lv_sub hl [0, 1] rfl) hF
  · rw [if_neg h_z] at hF
    exact bX12_readExpression_33 C O hd0 KE X (lv_sub hl [0, 1] rfl) hF
noncomputable def fX12_readExpression_b16 (N : Nat) (rE : Int32 → gS → Option (Int32 × gS)) (x1 : Int32) (S : gS) : Option (Int32 × gS) := if (S 99 23) = 1 then fX12_readExpression_b33 N rE x1 S else fX12_readExpression_b24 N rE x1 S
theorem bX12_readExpression_16 {N : Nat} {rE : Int32 → gS → Option (Int32 × gS)} {d0 : Nat} {x1 : Int32} {S : gS} {H : Heap} {locs : List Loc} {ls : Array Slot} {o : Int32 × gS} (C : gC p s m args meth c cX12_readExpression 3 RX12 none D (mtys cI cS) mord g Am) (O : sO (mcell g cI cS (msa aK)) mord g Am aK aV) (hd0 : 10 ≤ d0) (KE : ∀ (x : Int32) (S : gS) (o : Int32 × gS), rE x S = some o → gM l yX12_readExpression cX12_readExpression 3 none d0 D (mtys cI cS) (mcell g cI cS (msa aK)) mord g Am [.ref (g 99), .int x] S none o.2) (X : gX D (mcell g cI cS (msa aK)) mord g S s H locs) (hl : lv_has ls 3 [(0, .ref (g 99)), (1, .int x1)]) (hF : fX12_readExpression_b16 N rE x1 S = some o) : W p l e (rmd (d0 + 6)) s m args below meth c H locs 0 0 (gE below args s D (mtys cI cS) (mcell g cI cS (msa aK)) mord g none o.2) (F0 m 16 ls []) := by
  unfold fX12_readExpression_b16 at hF
  refine lv_aload_n C.1.1 C.1.2.1 dX12_readExpression_16 rfl (lv_at hl 0 rfl) ?_
  refine m_g23 C X dX12_readExpression_17 ?_
  refine lv_iconst (v := 1) C.1.1 C.1.2.1 dX12_readExpression_20 (by decide) ?_
  refine lv_icmp_eq (tgt := 33) C.1.1 C.1.2.1 dX12_readExpression_21 (by decide) (fun h_z => ?_) (fun h_z => ?_)
  · rw [if_pos h_z] at hF
    exact bX12_readExpression_33 C O hd0 KE X (lv_sub hl [0, 1] rfl) hF
  · rw [if_neg h_z] at hF
    exact bX12_readExpression_24 C O hd0 KE X (lv_sub hl [0, 1] rfl) hF
noncomputable def fX12_readExpression_b8 (N : Nat) (rE : Int32 → gS → Option (Int32 × gS)) (x1 : Int32) (S : gS) : Option (Int32 × gS) := if (S 99 23) = 2 then fX12_readExpression_b33 N rE x1 S else fX12_readExpression_b16 N rE x1 S
theorem bX12_readExpression_8 {N : Nat} {rE : Int32 → gS → Option (Int32 × gS)} {d0 : Nat} {x1 : Int32} {S : gS} {H : Heap} {locs : List Loc} {ls : Array Slot} {o : Int32 × gS} (C : gC p s m args meth c cX12_readExpression 3 RX12 none D (mtys cI cS) mord g Am) (O : sO (mcell g cI cS (msa aK)) mord g Am aK aV) (hd0 : 10 ≤ d0) (KE : ∀ (x : Int32) (S : gS) (o : Int32 × gS), rE x S = some o → gM l yX12_readExpression cX12_readExpression 3 none d0 D (mtys cI cS) (mcell g cI cS (msa aK)) mord g Am [.ref (g 99), .int x] S none o.2) (X : gX D (mcell g cI cS (msa aK)) mord g S s H locs) (hl : lv_has ls 3 [(0, .ref (g 99)), (1, .int x1)]) (hF : fX12_readExpression_b8 N rE x1 S = some o) : W p l e (rmd (d0 + 6)) s m args below meth c H locs 0 0 (gE below args s D (mtys cI cS) (mcell g cI cS (msa aK)) mord g none o.2) (F0 m 8 ls []) := by
  unfold fX12_readExpression_b8 at hF
  refine lv_aload_n C.1.1 C.1.2.1 dX12_readExpression_8 rfl (lv_at hl 0 rfl) ?_
  refine m_g23 C X dX12_readExpression_9 ?_
  refine lv_iconst (v := 2) C.1.1 C.1.2.1 dX12_readExpression_12 (by decide) ?_
  refine lv_icmp_eq (tgt := 33) C.1.1 C.1.2.1 dX12_readExpression_13 (by decide) (fun h_z => ?_) (fun h_z => ?_)
  · rw [if_pos h_z] at hF
    exact bX12_readExpression_33 C O hd0 KE X (lv_sub hl [0, 1] rfl) hF
  · rw [if_neg h_z] at hF
    exact bX12_readExpression_16 C O hd0 KE X (lv_sub hl [0, 1] rfl) hF
noncomputable def fX12_readExpression_b7 (N : Nat) (rE : Int32 → gS → Option (Int32 × gS)) (S : gS) : Option (Int32 × gS) := some (0, S)
theorem bX12_readExpression_7 {N : Nat} {rE : Int32 → gS → Option (Int32 × gS)} {d0 : Nat} {S : gS} {H : Heap} {locs : List Loc} {ls : Array Slot} {o : Int32 × gS} (C : gC p s m args meth c cX12_readExpression 3 RX12 none D (mtys cI cS) mord g Am) (O : sO (mcell g cI cS (msa aK)) mord g Am aK aV) (hd0 : 10 ≤ d0) (KE : ∀ (x : Int32) (S : gS) (o : Int32 × gS), rE x S = some o → gM l yX12_readExpression cX12_readExpression 3 none d0 D (mtys cI cS) (mcell g cI cS (msa aK)) mord g Am [.ref (g 99), .int x] S none o.2) (X : gX D (mcell g cI cS (msa aK)) mord g S s H locs) (hl : lv_has ls 3 []) (hF : fX12_readExpression_b7 N rE S = some o) : W p l e (rmd (d0 + 6)) s m args below meth c H locs 0 0 (gE below args s D (mtys cI cS) (mcell g cI cS (msa aK)) mord g none o.2) (F0 m 7 ls []) := by
  unfold fX12_readExpression_b7 at hF
  cases hF
  exact g_vret C X dX12_readExpression_7
noncomputable def fX12_readExpression_b0 (N : Nat) (rE : Int32 → gS → Option (Int32 × gS)) (x1 : Int32) (S : gS) : Option (Int32 × gS) := if (S 99 27) = 0 then fX12_readExpression_b8 N rE x1 S else fX12_readExpression_b7 N rE S
theorem bX12_readExpression_0 {N : Nat} {rE : Int32 → gS → Option (Int32 × gS)} {d0 : Nat} {x1 : Int32} {S : gS} {H : Heap} {locs : List Loc} {ls : Array Slot} {o : Int32 × gS} (C : gC p s m args meth c cX12_readExpression 3 RX12 none D (mtys cI cS) mord g Am) (O : sO (mcell g cI cS (msa aK)) mord g Am aK aV) (hd0 : 10 ≤ d0) (KE : ∀ (x : Int32) (S : gS) (o : Int32 × gS), rE x S = some o → gM l yX12_readExpression cX12_readExpression 3 none d0 D (mtys cI cS) (mcell g cI cS (msa aK)) mord g Am [.ref (g 99), .int x] S none o.2) (X : gX D (mcell g cI cS (msa aK)) mord g S s H locs) (hl : lv_has ls 3 [(0, .ref (g 99)), (1, .int x1)]) (hF : fX12_readExpression_b0 N rE x1 S = some o) : W p l e (rmd (d0 + 6)) s m args below meth c H locs 0 0 (gE below args s D (mtys cI cS) (mcell g cI cS (msa aK)) mord g none o.2) (F0 m 0 ls []) := by
  unfold fX12_readExpression_b0 at hF
  refine lv_aload_n C.1.1 C.1.2.1 dX12_readExpression_0 rfl (lv_at hl 0 rfl) ?_
  refine m_g27 C X dX12_readExpression_1 ?_
  refine lv_if_eq (tgt := 8) C.1.1 C.1.2.1 dX12_readExpression_4 (by decide) (fun h_z => ?_) (fun h_z => ?_)
  · rw [if_pos h_z] at hF
    exact bX12_readExpression_8 C O hd0 KE X (lv_sub hl [0, 1] rfl) hF
  · rw [if_neg h_z] at hF
    exact bX12_readExpression_7 C O hd0 KE X (lv_sub hl [] rfl) hF
noncomputable def fX12_readExpression (N : Nat) (rE : Int32 → gS → Option (Int32 × gS)) (x1 : Int32) (S : gS) : Option (Int32 × gS) := fX12_readExpression_b0 N rE x1 S
theorem kX12_readExpression {l : Launch} {D : va_G} {g : Nat → Nat} {cI cS : ClassId} {Am : (Nat → Prop) → State → Heap → Prop} {aK aV : Nat → Nat} (O : sO (mcell g cI cS (msa aK)) mord g Am aK aV) (P : gAm Am) (N : Nat) {rE : Int32 → gS → Option (Int32 × gS)} {d0 : Nat} (hd0 : 10 ≤ d0) (KE : ∀ (x : Int32) (S : gS) (o : Int32 × gS), rE x S = some o → gM l yX12_readExpression cX12_readExpression 3 none d0 D (mtys cI cS) (mcell g cI cS (msa aK)) mord g Am [.ref (g 99), .int x] S none o.2) (x1 : Int32) (S : gS) (o : Int32 × gS) (hF : fX12_readExpression N rE x1 S = some o) : gM l yX12_readExpression cX12_readExpression 3 none (d0 + 6) D (mtys cI cS) (mcell g cI cS (msa aK)) mord g Am [.ref (g 99), .int x1] S none o.2 :=
  gM_of O.1 P (by decide) (Nat.le_of_ble_eq_true rfl) (fun p e s m args below meth c ls C X hl => bX12_readExpression_0 C O hd0 KE X (lv_sub hl [0, 1] rfl) hF)
/-- the expressions, n deep -/
noncomputable def fX12_E (N : Nat) : Nat → Int32 → gS → Option (Int32 × gS)
  | 0, _, _ => none
  | n + 1, x, S => fX12_readExpression N (fX12_E N n) x S
theorem kX12_E {l : Launch} {D : va_G} {g : Nat → Nat} {cI cS : ClassId} {Am : (Nat → Prop) → State → Heap → Prop} {aK aV : Nat → Nat} (O : sO (mcell g cI cS (msa aK)) mord g Am aK aV) (P : gAm Am) (N : Nat) : ∀ (n : Nat) (x : Int32) (S : gS) (o : Int32 × gS), fX12_E N n x S = some o → gM l yX12_readExpression cX12_readExpression 3 none (10 + 6 * n) D (mtys cI cS) (mcell g cI cS (msa aK)) mord g Am [.ref (g 99), .int x] S none o.2 := by
  intro n
  induction n with
  | zero =>
    intro x S o hF
    exact absurd (show (none : Option (Int32 × gS)) = some o from hF) (by simp)
  | succ n ih =>
    intro x S o hF
    exact kX12_readExpression (d0 := 10 + 6 * n) (rE := fX12_E N n) O P N (by omega) ih x S o hF
-- sayGuild
noncomputable def fX12_sayGuild_b168 (N : Nat) (S : gS) : Option (Int32 × gS) := lt (sU S 5 7 (((S 5 7) + 1 : Int32))) fun S1 => (some (0, S1))
theorem bX12_sayGuild_168 {N : Nat} {S : gS} {H : Heap} {locs : List Loc} {ls : Array Slot} {o : Int32 × gS} (C : gC p s m args meth c cX12_sayGuild 3 RX12 none D (mtys cI cS) mord g Am) (O : sO (mcell g cI cS (msa aK)) mord g Am aK aV) (X : gX D (mcell g cI cS (msa aK)) mord g S s H locs) (hl : lv_has ls 3 [(0, .ref (g 99))]) (hF : fX12_sayGuild_b168 N S = some o) : W p l e (rmd 5) s m args below meth c H locs 0 0 (gE below args s D (mtys cI cS) (mcell g cI cS (msa aK)) mord g none o.2) (F0 m 168 ls []) := by
  unfold fX12_sayGuild_b168 at hF
  refine lv_aload_n C.1.1 C.1.2.1 dX12_sayGuild_168 rfl (lv_at hl 0 rfl) ?_
  refine m_g5 C X dX12_sayGuild_169 ?_
  refine lv_bipush (v := 7) C.1.1 C.1.2.1 dX12_sayGuild_172 (by decide) ?_
  refine lv_dup2_11 C.1.1 C.1.2.1 dX12_sayGuild_174 rfl rfl ?_
  refine m_r5 C X (j := 7) (inb_vp (by decide)) (by decide) dX12_sayGuild_175 ?_
  refine lv_iconst (v := 1) C.1.1 C.1.2.1 dX12_sayGuild_176 (by decide) ?_
  refine lv_iadd C.1.1 C.1.2.1 dX12_sayGuild_177 ?_
  obtain ⟨S1, eS1, hF⟩ := lt_some hF
  refine m_w5 C O.1 X (j := 7) (inb_vp (by decide)) (by decide) eS1 dX12_sayGuild_178 (fun H locs X => ?_)
  cases hF
  exact g_vret C X dX12_sayGuild_179
noncomputable def fX12_sayGuild_b145 (N : Nat) (x1 : Int32) (x2 : Int32) (S : gS) : Option (Int32 × gS) := bnd (fX12_stepOn N  S) fun q1 => (lt (sU q1.2 99 30 (((q1.2 99 30) ||| (((1 : Int32) <<< (x2 &&& 31) : Int32)) : Int32))) fun S2 => (chk (inb x1 (12)) (lt (sU S2 13 (Int32.toNatClampNeg x1) x2) fun S3 => (fX12_sayGuild_b168 N S3))))
theorem bX12_sayGuild_145 {N : Nat} {x1 : Int32} {x2 : Int32} {S : gS} {H : Heap} {locs : List Loc} {ls : Array Slot} {o : Int32 × gS} (C : gC p s m args meth c cX12_sayGuild 3 RX12 none D (mtys cI cS) mord g Am) (O : sO (mcell g cI cS (msa aK)) mord g Am aK aV) (X : gX D (mcell g cI cS (msa aK)) mord g S s H locs) (hl : lv_has ls 3 [(0, .ref (g 99)), (1, .int x1), (2, .int x2)]) (hF : fX12_sayGuild_b145 N x1 x2 S = some o) : W p l e (rmd 5) s m args below meth c H locs 0 0 (gE below args s D (mtys cI cS) (mcell g cI cS (msa aK)) mord g none o.2) (F0 m 145 ls []) := by
  unfold fX12_sayGuild_b145 at hF
  refine lv_aload_n C.1.1 C.1.2.1 dX12_sayGuild_145 rfl (lv_at hl 0 rfl) ?_
  obtain ⟨q1, hq1, hF⟩ := bnd_some hF
  refine m_callV C X vX12_stepOn rfl (kX12_stepOn O.1 C.2.2.2.2.1 N   S q1 hq1) (Nat.le_of_ble_eq_true rfl) (Nat.le_of_ble_eq_true rfl) (Nat.le_of_ble_eq_true rfl) (Nat.le_of_ble_eq_true rfl) rfl hl.1 rfl (Nat.le_of_ble_eq_true rfl) dX12_sayGuild_146 (fun H locs X => ?_)
  refine lv_aload_n C.1.1 C.1.2.1 dX12_sayGuild_149 rfl (lv_at hl 0 rfl) ?_
  refine lv_dup C.1.1 C.1.2.1 dX12_sayGuild_150 rfl ?_
  refine m_g30 C X dX12_sayGuild_151 ?_
  refine lv_iconst (v := 1) C.1.1 C.1.2.1 dX12_sayGuild_154 (by decide) ?_
  refine lv_iload_n C.1.1 C.1.2.1 dX12_sayGuild_155 rfl (lv_at hl 2 rfl) ?_
  refine lv_ishl C.1.1 C.1.2.1 dX12_sayGuild_156 ?_
  refine lv_ior C.1.1 C.1.2.1 dX12_sayGuild_157 ?_
  obtain ⟨S2, eS2, hF⟩ := lt_some hF
  refine m_p30 C O.1 X eS2 dX12_sayGuild_158 (fun H locs X => ?_)
  refine lv_aload_n C.1.1 C.1.2.1 dX12_sayGuild_161 rfl (lv_at hl 0 rfl) ?_
  refine m_g13 C X dX12_sayGuild_162 ?_
  refine lv_iload_n C.1.1 C.1.2.1 dX12_sayGuild_165 rfl (lv_at hl 1 rfl) ?_
  refine lv_iload_n C.1.1 C.1.2.1 dX12_sayGuild_166 rfl (lv_at hl 2 rfl) ?_
  obtain ⟨h_1, hF⟩ := chk_some hF
  obtain ⟨S3, eS3, hF⟩ := lt_some hF
  refine m_w13 C O.1 X  (inb_vp h_1) rfl eS3 dX12_sayGuild_167 (fun H locs X => ?_)
  exact bX12_sayGuild_168 C O X (lv_sub hl [0] rfl) hF
noncomputable def fX12_sayGuild_b138 (N : Nat) (x1 : Int32) (x2 : Int32) (S : gS) : Option (Int32 × gS) := if (S 99 27) = 0 then fX12_sayGuild_b145 N x1 x2 S else fX12_sayGuild_b168 N S
theorem bX12_sayGuild_138 {N : Nat} {x1 : Int32} {x2 : Int32} {S : gS} {H : Heap} {locs : List Loc} {ls : Array Slot} {o : Int32 × gS} (C : gC p s m args meth c cX12_sayGuild 3 RX12 none D (mtys cI cS) mord g Am) (O : sO (mcell g cI cS (msa aK)) mord g Am aK aV) (X : gX D (mcell g cI cS (msa aK)) mord g S s H locs) (hl : lv_has ls 3 [(0, .ref (g 99)), (1, .int x1), (2, .int x2)]) (hF : fX12_sayGuild_b138 N x1 x2 S = some o) : W p l e (rmd 5) s m args below meth c H locs 0 0 (gE below args s D (mtys cI cS) (mcell g cI cS (msa aK)) mord g none o.2) (F0 m 138 ls []) := by
  unfold fX12_sayGuild_b138 at hF
  refine lv_aload_n C.1.1 C.1.2.1 dX12_sayGuild_138 rfl (lv_at hl 0 rfl) ?_
  refine m_g27 C X dX12_sayGuild_139 ?_
  refine lv_if_ne (tgt := 168) C.1.1 C.1.2.1 dX12_sayGuild_142 (by decide) (fun h_z => ?_) (fun h_z => ?_)
  · rw [if_neg h_z] at hF
    exact bX12_sayGuild_168 C O X (lv_sub hl [0] rfl) hF
  · rw [if_pos h_z] at hF
    exact bX12_sayGuild_145 C O X (lv_sub hl [0, 1, 2] rfl) hF
noncomputable def fX12_sayGuild_b133 (N : Nat) (x1 : Int32) (x2 : Int32) (S : gS) : Option (Int32 × gS) := bnd (fX12_wrong N 4 S) fun q1 => (fX12_sayGuild_b138 N x1 x2 q1.2)
theorem bX12_sayGuild_133 {N : Nat} {x1 : Int32} {x2 : Int32} {S : gS} {H : Heap} {locs : List Loc} {ls : Array Slot} {o : Int32 × gS} (C : gC p s m args meth c cX12_sayGuild 3 RX12 none D (mtys cI cS) mord g Am) (O : sO (mcell g cI cS (msa aK)) mord g Am aK aV) (X : gX D (mcell g cI cS (msa aK)) mord g S s H locs) (hl : lv_has ls 3 [(0, .ref (g 99)), (1, .int x1), (2, .int x2)]) (hF : fX12_sayGuild_b133 N x1 x2 S = some o) : W p l e (rmd 5) s m args below meth c H locs 0 0 (gE below args s D (mtys cI cS) (mcell g cI cS (msa aK)) mord g none o.2) (F0 m 133 ls []) := by
  unfold fX12_sayGuild_b133 at hF
  refine lv_aload_n C.1.1 C.1.2.1 dX12_sayGuild_133 rfl (lv_at hl 0 rfl) ?_
  refine lv_iconst (v := 4) C.1.1 C.1.2.1 dX12_sayGuild_134 (by decide) ?_
  obtain ⟨q1, hq1, hF⟩ := bnd_some hF
  refine m_callV C X vX12_wrong rfl (kX12_wrong O.1 C.2.2.2.2.1 N 4  S q1 hq1) (Nat.le_of_ble_eq_true rfl) (Nat.le_of_ble_eq_true rfl) (Nat.le_of_ble_eq_true rfl) (Nat.le_of_ble_eq_true rfl) rfl hl.1 rfl (Nat.le_of_ble_eq_true rfl) dX12_sayGuild_135 (fun H locs X => ?_)
  exact bX12_sayGuild_138 C O X (lv_sub hl [0, 1, 2] rfl) hF
noncomputable def fX12_sayGuild_b122 (N : Nat) (x1 : Int32) (x2 : Int32) (S : gS) : Option (Int32 × gS) := bnd (fX12_isOf N (S 99 30) x2 S) fun q1 => (if q1.1 = 0 then fX12_sayGuild_b138 N x1 x2 q1.2 else fX12_sayGuild_b133 N x1 x2 q1.2)
theorem bX12_sayGuild_122 {N : Nat} {x1 : Int32} {x2 : Int32} {S : gS} {H : Heap} {locs : List Loc} {ls : Array Slot} {o : Int32 × gS} (C : gC p s m args meth c cX12_sayGuild 3 RX12 none D (mtys cI cS) mord g Am) (O : sO (mcell g cI cS (msa aK)) mord g Am aK aV) (X : gX D (mcell g cI cS (msa aK)) mord g S s H locs) (hl : lv_has ls 3 [(0, .ref (g 99)), (1, .int x1), (2, .int x2)]) (hF : fX12_sayGuild_b122 N x1 x2 S = some o) : W p l e (rmd 5) s m args below meth c H locs 0 0 (gE below args s D (mtys cI cS) (mcell g cI cS (msa aK)) mord g none o.2) (F0 m 122 ls []) := by
  unfold fX12_sayGuild_b122 at hF
  refine lv_aload_n C.1.1 C.1.2.1 dX12_sayGuild_122 rfl (lv_at hl 0 rfl) ?_
  refine m_g30 C X dX12_sayGuild_123 ?_
  refine lv_iload_n C.1.1 C.1.2.1 dX12_sayGuild_126 rfl (lv_at hl 2 rfl) ?_
  obtain ⟨q1, hq1, hF⟩ := bnd_some hF
  refine g_callSi C X vX12_isOf (kX12_isOf O.1 C.2.2.2.2.1 N (S 99 30) x2  S q1 hq1) (Nat.le_of_ble_eq_true rfl) (Nat.le_of_ble_eq_true rfl) (Nat.le_of_ble_eq_true rfl) (Nat.le_of_ble_eq_true rfl) rfl hl.1 rfl (Nat.le_of_ble_eq_true rfl) dX12_sayGuild_127 (fun H locs X => ?_)
  refine lv_if_eq (tgt := 138) C.1.1 C.1.2.1 dX12_sayGuild_130 (by decide) (fun h_z => ?_) (fun h_z => ?_)
  · rw [if_pos h_z] at hF
    exact bX12_sayGuild_138 C O X (lv_sub hl [0, 1, 2] rfl) hF
  · rw [if_neg h_z] at hF
    exact bX12_sayGuild_133 C O X (lv_sub hl [0, 1, 2] rfl) hF
noncomputable def fX12_sayGuild_b115 (N : Nat) (x1 : Int32) (x2 : Int32) (S : gS) : Option (Int32 × gS) := if (S 99 27) = 0 then fX12_sayGuild_b122 N x1 x2 S else fX12_sayGuild_b138 N x1 x2 S
theorem bX12_sayGuild_115 {N : Nat} {x1 : Int32} {x2 : Int32} {S : gS} {H : Heap} {locs : List Loc} {ls : Array Slot} {o : Int32 × gS} (C : gC p s m args meth c cX12_sayGuild 3 RX12 none D (mtys cI cS) mord g Am) (O : sO (mcell g cI cS (msa aK)) mord g Am aK aV) (X : gX D (mcell g cI cS (msa aK)) mord g S s H locs) (hl : lv_has ls 3 [(0, .ref (g 99)), (1, .int x1), (2, .int x2)]) (hF : fX12_sayGuild_b115 N x1 x2 S = some o) : W p l e (rmd 5) s m args below meth c H locs 0 0 (gE below args s D (mtys cI cS) (mcell g cI cS (msa aK)) mord g none o.2) (F0 m 115 ls []) := by
  unfold fX12_sayGuild_b115 at hF
  refine lv_aload_n C.1.1 C.1.2.1 dX12_sayGuild_115 rfl (lv_at hl 0 rfl) ?_
  refine m_g27 C X dX12_sayGuild_116 ?_
  refine lv_if_ne (tgt := 138) C.1.1 C.1.2.1 dX12_sayGuild_119 (by decide) (fun h_z => ?_) (fun h_z => ?_)
  · rw [if_neg h_z] at hF
    exact bX12_sayGuild_138 C O X (lv_sub hl [0, 1, 2] rfl) hF
  · rw [if_pos h_z] at hF
    exact bX12_sayGuild_122 C O X (lv_sub hl [0, 1, 2] rfl) hF
noncomputable def fX12_sayGuild_b110 (N : Nat) (x1 : Int32) (x2 : Int32) (S : gS) : Option (Int32 × gS) := bnd (fX12_wrong N 3 S) fun q1 => (fX12_sayGuild_b115 N x1 x2 q1.2)
theorem bX12_sayGuild_110 {N : Nat} {x1 : Int32} {x2 : Int32} {S : gS} {H : Heap} {locs : List Loc} {ls : Array Slot} {o : Int32 × gS} (C : gC p s m args meth c cX12_sayGuild 3 RX12 none D (mtys cI cS) mord g Am) (O : sO (mcell g cI cS (msa aK)) mord g Am aK aV) (X : gX D (mcell g cI cS (msa aK)) mord g S s H locs) (hl : lv_has ls 3 [(0, .ref (g 99)), (1, .int x1), (2, .int x2)]) (hF : fX12_sayGuild_b110 N x1 x2 S = some o) : W p l e (rmd 5) s m args below meth c H locs 0 0 (gE below args s D (mtys cI cS) (mcell g cI cS (msa aK)) mord g none o.2) (F0 m 110 ls []) := by
  unfold fX12_sayGuild_b110 at hF
  refine lv_aload_n C.1.1 C.1.2.1 dX12_sayGuild_110 rfl (lv_at hl 0 rfl) ?_
  refine lv_iconst (v := 3) C.1.1 C.1.2.1 dX12_sayGuild_111 (by decide) ?_
  obtain ⟨q1, hq1, hF⟩ := bnd_some hF
  refine m_callV C X vX12_wrong rfl (kX12_wrong O.1 C.2.2.2.2.1 N 3  S q1 hq1) (Nat.le_of_ble_eq_true rfl) (Nat.le_of_ble_eq_true rfl) (Nat.le_of_ble_eq_true rfl) (Nat.le_of_ble_eq_true rfl) rfl hl.1 rfl (Nat.le_of_ble_eq_true rfl) dX12_sayGuild_112 (fun H locs X => ?_)
  exact bX12_sayGuild_115 C O X (lv_sub hl [0, 1, 2] rfl) hF
noncomputable def fX12_sayGuild_b99 (N : Nat) (x1 : Int32) (x2 : Int32) (S : gS) : Option (Int32 × gS) := if x2 < (S 5 6) then fX12_sayGuild_b115 N x1 x2 S else fX12_sayGuild_b110 N x1 x2 S
theorem bX12_sayGuild_99 {N : Nat} {x1 : Int32} {x2 : Int32} {S : gS} {H : Heap} {locs : List Loc} {ls : Array Slot} {o : Int32 × gS} (C : gC p s m args meth c cX12_sayGuild 3 RX12 none D (mtys cI cS) mord g Am) (O : sO (mcell g cI cS (msa aK)) mord g Am aK aV) (X : gX D (mcell g cI cS (msa aK)) mord g S s H locs) (hl : lv_has ls 3 [(0, .ref (g 99)), (1, .int x1), (2, .int x2)]) (hF : fX12_sayGuild_b99 N x1 x2 S = some o) : W p l e (rmd 5) s m args below meth c H locs 0 0 (gE below args s D (mtys cI cS) (mcell g cI cS (msa aK)) mord g none o.2) (F0 m 99 ls []) := by
  unfold fX12_sayGuild_b99 at hF
  refine lv_iload_n C.1.1 C.1.2.1 dX12_sayGuild_99 rfl (lv_at hl 2 rfl) ?_
  refine lv_aload_n C.1.1 C.1.2.1 dX12_sayGuild_100 rfl (lv_at hl 0 rfl) ?_
  refine m_g5 C X dX12_sayGuild_101 ?_
  refine lv_bipush (v := 6) C.1.1 C.1.2.1 dX12_sayGuild_104 (by decide) ?_
  refine m_r5 C X (j := 6) (inb_vp (by decide)) (by decide) dX12_sayGuild_106 ?_
  refine lv_icmp_lt (tgt := 115) C.1.1 C.1.2.1 dX12_sayGuild_107 (by decide) (fun h_z => ?_) (fun h_z => ?_)
  · rw [if_pos h_z] at hF
    exact bX12_sayGuild_115 C O X (lv_sub hl [0, 1, 2] rfl) hF
  · rw [if_neg h_z] at hF
    exact bX12_sayGuild_110 C O X (lv_sub hl [0, 1, 2] rfl) hF
noncomputable def fX12_sayGuild_b79 (N : Nat) (x1 : Int32) (S : gS) : Option (Int32 × gS) := bnd (fX12_stepOn N  S) fun q1 => (bnd (fX12_numberNow N 0 9999 q1.2) fun q2 => (if (q2.2 99 27) = 0 then fX12_sayGuild_b99 N x1 q2.1 q2.2 else fX12_sayGuild_b115 N x1 q2.1 q2.2))
theorem bX12_sayGuild_79 {N : Nat} {x1 : Int32} {S : gS} {H : Heap} {locs : List Loc} {ls : Array Slot} {o : Int32 × gS} (C : gC p s m args meth c cX12_sayGuild 3 RX12 none D (mtys cI cS) mord g Am) (O : sO (mcell g cI cS (msa aK)) mord g Am aK aV) (X : gX D (mcell g cI cS (msa aK)) mord g S s H locs) (hl : lv_has ls 3 [(0, .ref (g 99)), (1, .int x1)]) (hF : fX12_sayGuild_b79 N x1 S = some o) : W p l e (rmd 5) s m args below meth c H locs 0 0 (gE below args s D (mtys cI cS) (mcell g cI cS (msa aK)) mord g none o.2) (F0 m 79 ls []) := by
  unfold fX12_sayGuild_b79 at hF
  refine lv_aload_n C.1.1 C.1.2.1 dX12_sayGuild_79 rfl (lv_at hl 0 rfl) ?_
  obtain ⟨q1, hq1, hF⟩ := bnd_some hF
  refine m_callV C X vX12_stepOn rfl (kX12_stepOn O.1 C.2.2.2.2.1 N   S q1 hq1) (Nat.le_of_ble_eq_true rfl) (Nat.le_of_ble_eq_true rfl) (Nat.le_of_ble_eq_true rfl) (Nat.le_of_ble_eq_true rfl) rfl hl.1 rfl (Nat.le_of_ble_eq_true rfl) dX12_sayGuild_80 (fun H locs X => ?_)
  refine lv_aload_n C.1.1 C.1.2.1 dX12_sayGuild_83 rfl (lv_at hl 0 rfl) ?_
  refine lv_iconst (v := 0) C.1.1 C.1.2.1 dX12_sayGuild_84 (by decide) ?_
  refine lv_sipush (v := 9999) C.1.1 C.1.2.1 dX12_sayGuild_85 (by decide) ?_
  obtain ⟨q2, hq2, hF⟩ := bnd_some hF
  refine m_callVi C X vX12_numberNow rfl (kX12_numberNow O.1 C.2.2.2.2.1 N 0 9999  q1.2 q2 hq2) (Nat.le_of_ble_eq_true rfl) (Nat.le_of_ble_eq_true rfl) (Nat.le_of_ble_eq_true rfl) (Nat.le_of_ble_eq_true rfl) rfl hl.1 rfl (Nat.le_of_ble_eq_true rfl) dX12_sayGuild_88 (fun H locs X => ?_)
  refine lv_istore_n (lv' := [(2, .int q2.1), (0, .ref (g 99)), (1, .int x1)]) C.1.1 C.1.2.1 dX12_sayGuild_91 rfl hl (by decide) rfl (fun ls hl => ?_)
  refine lv_aload_n C.1.1 C.1.2.1 dX12_sayGuild_92 rfl (lv_at hl 1 rfl) ?_
  refine m_g27 C X dX12_sayGuild_93 ?_
  refine lv_if_ne (tgt := 115) C.1.1 C.1.2.1 dX12_sayGuild_96 (by decide) (fun h_z => ?_) (fun h_z => ?_)
  · rw [if_neg h_z] at hF
    exact bX12_sayGuild_115 C O X (lv_sub hl [1, 2, 0] rfl) hF
  · rw [if_pos h_z] at hF
    exact bX12_sayGuild_99 C O X (lv_sub hl [1, 2, 0] rfl) hF
noncomputable def fX12_sayGuild_b11 (N : Nat) (S : gS) : Option (Int32 × gS) := bnd (fX12_readNumber N 0 9 S) fun q1 => (chk (inb ((6 + (S 5 7) : Int32)) (12)) (lt (sU q1.2 10 (Int32.toNatClampNeg ((6 + (S 5 7) : Int32))) q1.1) fun S2 => (bnd (fX12_readNumber N 0 99 S2) fun q2 => (chk (inb ((6 + (S 5 7) : Int32)) (12)) (lt (sU q2.2 11 (Int32.toNatClampNeg ((6 + (S 5 7) : Int32))) q2.1) fun S4 => (bnd (fX12_readNumber N 0 999 S4) fun q3 => (chk (inb ((6 + (S 5 7) : Int32)) (12)) (lt (sU q3.2 12 (Int32.toNatClampNeg ((6 + (S 5 7) : Int32))) q3.1) fun S6 => (chk (inb ((6 + (S 5 7) : Int32)) (12)) (lt (sU S6 13 (Int32.toNatClampNeg ((6 + (S 5 7) : Int32))) ((-1))) fun S7 => (bnd (fX12_is N 44 S7) fun q4 => (if q4.1 = 0 then fX12_sayGuild_b168 N q4.2 else fX12_sayGuild_b79 N ((6 + (S 5 7) : Int32)) q4.2))))))))))))
theorem bX12_sayGuild_11 {N : Nat} {S : gS} {H : Heap} {locs : List Loc} {ls : Array Slot} {o : Int32 × gS} (C : gC p s m args meth c cX12_sayGuild 3 RX12 none D (mtys cI cS) mord g Am) (O : sO (mcell g cI cS (msa aK)) mord g Am aK aV) (X : gX D (mcell g cI cS (msa aK)) mord g S s H locs) (hl : lv_has ls 3 [(0, .ref (g 99))]) (hF : fX12_sayGuild_b11 N S = some o) : W p l e (rmd 5) s m args below meth c H locs 0 0 (gE below args s D (mtys cI cS) (mcell g cI cS (msa aK)) mord g none o.2) (F0 m 11 ls []) := by
  unfold fX12_sayGuild_b11 at hF
  refine lv_bipush (v := 6) C.1.1 C.1.2.1 dX12_sayGuild_11 (by decide) ?_
  refine lv_aload_n C.1.1 C.1.2.1 dX12_sayGuild_13 rfl (lv_at hl 0 rfl) ?_
  refine m_g5 C X dX12_sayGuild_14 ?_
  refine lv_bipush (v := 7) C.1.1 C.1.2.1 dX12_sayGuild_17 (by decide) ?_
  refine m_r5 C X (j := 7) (inb_vp (by decide)) (by decide) dX12_sayGuild_19 ?_
  refine lv_iadd C.1.1 C.1.2.1 dX12_sayGuild_20 ?_
  refine lv_istore_n (lv' := [(1, .int ((6 + (S 5 7) : Int32))), (0, .ref (g 99))]) C.1.1 C.1.2.1 dX12_sayGuild_21 rfl hl (by decide) rfl (fun ls hl => ?_)
  refine lv_aload_n C.1.1 C.1.2.1 dX12_sayGuild_22 rfl (lv_at hl 1 rfl) ?_
  refine m_g10 C X dX12_sayGuild_23 ?_
  refine lv_iload_n C.1.1 C.1.2.1 dX12_sayGuild_26 rfl (lv_at hl 0 rfl) ?_
  refine lv_aload_n C.1.1 C.1.2.1 dX12_sayGuild_27 rfl (lv_at hl 1 rfl) ?_
  refine lv_iconst (v := 0) C.1.1 C.1.2.1 dX12_sayGuild_28 (by decide) ?_
  refine lv_bipush (v := 9) C.1.1 C.1.2.1 dX12_sayGuild_29 (by decide) ?_
  obtain ⟨q1, hq1, hF⟩ := bnd_some hF
  refine m_callVi C X vX12_readNumber rfl (kX12_readNumber O.1 C.2.2.2.2.1 N 0 9  S q1 hq1) (Nat.le_of_ble_eq_true rfl) (Nat.le_of_ble_eq_true rfl) (Nat.le_of_ble_eq_true rfl) (Nat.le_of_ble_eq_true rfl) rfl hl.1 rfl (Nat.le_of_ble_eq_true rfl) dX12_sayGuild_31 (fun H locs X => ?_)
  obtain ⟨h_1, hF⟩ := chk_some hF
  obtain ⟨S2, eS2, hF⟩ := lt_some hF
  refine m_w10 C O.1 X  (inb_vp h_1) rfl eS2 dX12_sayGuild_34 (fun H locs X => ?_)
  refine lv_aload_n C.1.1 C.1.2.1 dX12_sayGuild_35 rfl (lv_at hl 1 rfl) ?_
  refine m_g11 C X dX12_sayGuild_36 ?_
  refine lv_iload_n C.1.1 C.1.2.1 dX12_sayGuild_39 rfl (lv_at hl 0 rfl) ?_
  refine lv_aload_n C.1.1 C.1.2.1 dX12_sayGuild_40 rfl (lv_at hl 1 rfl) ?_
  refine lv_iconst (v := 0) C.1.1 C.1.2.1 dX12_sayGuild_41 (by decide) ?_
  refine lv_bipush (v := 99) C.1.1 C.1.2.1 dX12_sayGuild_42 (by decide) ?_
  obtain ⟨q2, hq2, hF⟩ := bnd_some hF
  refine m_callVi C X vX12_readNumber rfl (kX12_readNumber O.1 C.2.2.2.2.1 N 0 99  S2 q2 hq2) (Nat.le_of_ble_eq_true rfl) (Nat.le_of_ble_eq_true rfl) (Nat.le_of_ble_eq_true rfl) (Nat.le_of_ble_eq_true rfl) rfl hl.1 rfl (Nat.le_of_ble_eq_true rfl) dX12_sayGuild_44 (fun H locs X => ?_)
  obtain ⟨h_2, hF⟩ := chk_some hF
  obtain ⟨S4, eS4, hF⟩ := lt_some hF
  refine m_w11 C O.1 X  (inb_vp h_2) rfl eS4 dX12_sayGuild_47 (fun H locs X => ?_)
  refine lv_aload_n C.1.1 C.1.2.1 dX12_sayGuild_48 rfl (lv_at hl 1 rfl) ?_
  refine m_g12 C X dX12_sayGuild_49 ?_
  refine lv_iload_n C.1.1 C.1.2.1 dX12_sayGuild_52 rfl (lv_at hl 0 rfl) ?_
  refine lv_aload_n C.1.1 C.1.2.1 dX12_sayGuild_53 rfl (lv_at hl 1 rfl) ?_
  refine lv_iconst (v := 0) C.1.1 C.1.2.1 dX12_sayGuild_54 (by decide) ?_
  refine lv_sipush (v := 999) C.1.1 C.1.2.1 dX12_sayGuild_55 (by decide) ?_
  obtain ⟨q3, hq3, hF⟩ := bnd_some hF
  refine m_callVi C X vX12_readNumber rfl (kX12_readNumber O.1 C.2.2.2.2.1 N 0 999  S4 q3 hq3) (Nat.le_of_ble_eq_true rfl) (Nat.le_of_ble_eq_true rfl) (Nat.le_of_ble_eq_true rfl) (Nat.le_of_ble_eq_true rfl) rfl hl.1 rfl (Nat.le_of_ble_eq_true rfl) dX12_sayGuild_58 (fun H locs X => ?_)
  obtain ⟨h_3, hF⟩ := chk_some hF
  obtain ⟨S6, eS6, hF⟩ := lt_some hF
  refine m_w12 C O.1 X  (inb_vp h_3) rfl eS6 dX12_sayGuild_61 (fun H locs X => ?_)
  refine lv_aload_n C.1.1 C.1.2.1 dX12_sayGuild_62 rfl (lv_at hl 1 rfl) ?_
  refine m_g13 C X dX12_sayGuild_63 ?_
  refine lv_iload_n C.1.1 C.1.2.1 dX12_sayGuild_66 rfl (lv_at hl 0 rfl) ?_
  refine lv_iconst (v := (-1)) C.1.1 C.1.2.1 dX12_sayGuild_67 (by decide) ?_
  obtain ⟨h_4, hF⟩ := chk_some hF
  obtain ⟨S7, eS7, hF⟩ := lt_some hF
  refine m_w13 C O.1 X  (inb_vp h_4) rfl eS7 dX12_sayGuild_68 (fun H locs X => ?_)
  refine lv_aload_n C.1.1 C.1.2.1 dX12_sayGuild_69 rfl (lv_at hl 1 rfl) ?_
  refine s_ldcw C O (i := 44) rfl dX12_sayGuild_70 ?_
  obtain ⟨q4, hq4, hF⟩ := bnd_some hF
  refine m_callVi C X vX12_is rfl (kX12_is O C.2.2.2.2.1 N 44 (rfl : sI 44 = true) S7 q4 hq4) (Nat.le_of_ble_eq_true rfl) (Nat.le_of_ble_eq_true rfl) (Nat.le_of_ble_eq_true rfl) (Nat.le_of_ble_eq_true rfl) rfl hl.1 rfl (Nat.le_of_ble_eq_true rfl) dX12_sayGuild_73 (fun H locs X => ?_)
  refine lv_if_eq (tgt := 168) C.1.1 C.1.2.1 dX12_sayGuild_76 (by decide) (fun h_z => ?_) (fun h_z => ?_)
  · rw [if_pos h_z] at hF
    exact bX12_sayGuild_168 C O X (lv_sub hl [1] rfl) hF
  · rw [if_neg h_z] at hF
    exact bX12_sayGuild_79 C O X (lv_sub hl [1, 0] rfl) hF
noncomputable def fX12_sayGuild_b10 (N : Nat) (S : gS) : Option (Int32 × gS) := some (0, S)
theorem bX12_sayGuild_10 {N : Nat} {S : gS} {H : Heap} {locs : List Loc} {ls : Array Slot} {o : Int32 × gS} (C : gC p s m args meth c cX12_sayGuild 3 RX12 none D (mtys cI cS) mord g Am) (O : sO (mcell g cI cS (msa aK)) mord g Am aK aV) (X : gX D (mcell g cI cS (msa aK)) mord g S s H locs) (hl : lv_has ls 3 []) (hF : fX12_sayGuild_b10 N S = some o) : W p l e (rmd 5) s m args below meth c H locs 0 0 (gE below args s D (mtys cI cS) (mcell g cI cS (msa aK)) mord g none o.2) (F0 m 10 ls []) := by
  unfold fX12_sayGuild_b10 at hF
  cases hF
  exact g_vret C X dX12_sayGuild_10
noncomputable def fX12_sayGuild_b0 (N : Nat) (S : gS) : Option (Int32 × gS) := bnd (fX12_another N 1 6 S) fun q1 => (if q1.1 = 0 then fX12_sayGuild_b10 N q1.2 else fX12_sayGuild_b11 N q1.2)
theorem bX12_sayGuild_0 {N : Nat} {S : gS} {H : Heap} {locs : List Loc} {ls : Array Slot} {o : Int32 × gS} (C : gC p s m args meth c cX12_sayGuild 3 RX12 none D (mtys cI cS) mord g Am) (O : sO (mcell g cI cS (msa aK)) mord g Am aK aV) (X : gX D (mcell g cI cS (msa aK)) mord g S s H locs) (hl : lv_has ls 3 [(0, .ref (g 99))]) (hF : fX12_sayGuild_b0 N S = some o) : W p l e (rmd 5) s m args below meth c H locs 0 0 (gE below args s D (mtys cI cS) (mcell g cI cS (msa aK)) mord g none o.2) (F0 m 0 ls []) := by
  unfold fX12_sayGuild_b0 at hF
  refine lv_aload_n C.1.1 C.1.2.1 dX12_sayGuild_0 rfl (lv_at hl 0 rfl) ?_
  refine lv_iconst (v := 1) C.1.1 C.1.2.1 dX12_sayGuild_1 (by decide) ?_
  refine lv_bipush (v := 6) C.1.1 C.1.2.1 dX12_sayGuild_2 (by decide) ?_
  obtain ⟨q1, hq1, hF⟩ := bnd_some hF
  refine m_callVi C X vX12_another rfl (kX12_another O.1 C.2.2.2.2.1 N 1 6  S q1 hq1) (Nat.le_of_ble_eq_true rfl) (Nat.le_of_ble_eq_true rfl) (Nat.le_of_ble_eq_true rfl) (Nat.le_of_ble_eq_true rfl) rfl hl.1 rfl (Nat.le_of_ble_eq_true rfl) dX12_sayGuild_4 (fun H locs X => ?_)
  refine lv_if_ne (tgt := 11) C.1.1 C.1.2.1 dX12_sayGuild_7 (by decide) (fun h_z => ?_) (fun h_z => ?_)
  · rw [if_neg h_z] at hF
    exact bX12_sayGuild_11 C O X (lv_sub hl [0] rfl) hF
  · rw [if_pos h_z] at hF
    exact bX12_sayGuild_10 C O X (lv_sub hl [] rfl) hF
noncomputable def fX12_sayGuild (N : Nat) (S : gS) : Option (Int32 × gS) := fX12_sayGuild_b0 N S
theorem kX12_sayGuild {l : Launch} {D : va_G} {g : Nat → Nat} {cI cS : ClassId} {Am : (Nat → Prop) → State → Heap → Prop} {aK aV : Nat → Nat} (O : sO (mcell g cI cS (msa aK)) mord g Am aK aV) (P : gAm Am) (N : Nat) (S : gS) (o : Int32 × gS) (hF : fX12_sayGuild N S = some o) : gM l yX12_sayGuild cX12_sayGuild 3 none 5 D (mtys cI cS) (mcell g cI cS (msa aK)) mord g Am [.ref (g 99)] S none o.2 :=
  gM_of O.1 P (by decide) (Nat.le_of_ble_eq_true rfl) (fun p e s m args below meth c ls C X hl => bX12_sayGuild_0 C O X (lv_sub hl [0] rfl) hF)
-- sayOnce
noncomputable def fX12_sayOnce_b72 (N : Nat) (u1 : Nat) (S : gS) : Option (Int32 × gS) := chk (mV u1) (lt (sU S 99 3 (if u1 = 1 then 0 else 1)) fun S1 => (bnd (fX12_E N 8 0 S1) fun q1 => (some (0, q1.2))))
theorem bX12_sayOnce_72 {N : Nat} {u1 : Nat} {S : gS} {H : Heap} {locs : List Loc} {ls : Array Slot} {o : Int32 × gS} (C : gC p s m args meth c cX12_sayOnce 2 RX12 none D (mtys cI cS) mord g Am) (O : sO (mcell g cI cS (msa aK)) mord g Am aK aV) (hk_u1 : mT u1 = true) (X : gX D (mcell g cI cS (msa aK)) mord g S s H locs) (hl : lv_has ls 2 [(0, .ref (g 99))]) (hF : fX12_sayOnce_b72 N u1 S = some o) : W p l e (rmd 59) s m args below meth c H locs 0 0 (gE below args s D (mtys cI cS) (mcell g cI cS (msa aK)) mord g none o.2) (F0 m 72 ls [.ref (g u1), .ref (g 99)]) := by
  unfold fX12_sayOnce_b72 at hF
  obtain ⟨h_1, hF⟩ := chk_some hF
  obtain ⟨S1, eS1, hF⟩ := lt_some hF
  refine m_p3 C O.1 X h_1 eS1 dX12_sayOnce_72 (fun H locs X => ?_)
  refine lv_aload_n C.1.1 C.1.2.1 dX12_sayOnce_75 rfl (lv_at hl 0 rfl) ?_
  refine lv_iconst (v := 0) C.1.1 C.1.2.1 dX12_sayOnce_76 (by decide) ?_
  obtain ⟨q1, hq1, hF⟩ := bnd_some hF
  refine m_callV C X vX12_readExpression rfl (kX12_E O C.2.2.2.2.1 N 8 0 S1 q1 hq1) (Nat.le_of_ble_eq_true rfl) (Nat.le_of_ble_eq_true rfl) (Nat.le_of_ble_eq_true rfl) (Nat.le_of_ble_eq_true rfl) rfl hl.1 rfl (Nat.le_of_ble_eq_true rfl) dX12_sayOnce_77 (fun H locs X => ?_)
  cases hF
  exact g_vret C X dX12_sayOnce_80
noncomputable def fX12_sayOnce_b68 (N : Nat) (S : gS) : Option (Int32 × gS) := fX12_sayOnce_b72 N 1 S
theorem bX12_sayOnce_68 {N : Nat} {S : gS} {H : Heap} {locs : List Loc} {ls : Array Slot} {o : Int32 × gS} (C : gC p s m args meth c cX12_sayOnce 2 RX12 none D (mtys cI cS) mord g Am) (O : sO (mcell g cI cS (msa aK)) mord g Am aK aV) (X : gX D (mcell g cI cS (msa aK)) mord g S s H locs) (hl : lv_has ls 2 [(0, .ref (g 99))]) (hF : fX12_sayOnce_b68 N S = some o) : W p l e (rmd 59) s m args below meth c H locs 0 0 (gE below args s D (mtys cI cS) (mcell g cI cS (msa aK)) mord g none o.2) (F0 m 68 ls [.ref (g 99)]) := by
  unfold fX12_sayOnce_b68 at hF
  refine lv_aload_n C.1.1 C.1.2.1 dX12_sayOnce_68 rfl (lv_at hl 0 rfl) ?_
  refine m_g1 C X dX12_sayOnce_69 ?_
  exact bX12_sayOnce_72 C O (rfl : mT 1 = true) X (lv_sub hl [0] rfl) hF
noncomputable def fX12_sayOnce_b61 (N : Nat) (S : gS) : Option (Int32 × gS) := fX12_sayOnce_b72 N 2 S
theorem bX12_sayOnce_61 {N : Nat} {S : gS} {H : Heap} {locs : List Loc} {ls : Array Slot} {o : Int32 × gS} (C : gC p s m args meth c cX12_sayOnce 2 RX12 none D (mtys cI cS) mord g Am) (O : sO (mcell g cI cS (msa aK)) mord g Am aK aV) (X : gX D (mcell g cI cS (msa aK)) mord g S s H locs) (hl : lv_has ls 2 [(0, .ref (g 99))]) (hF : fX12_sayOnce_b61 N S = some o) : W p l e (rmd 59) s m args below meth c H locs 0 0 (gE below args s D (mtys cI cS) (mcell g cI cS (msa aK)) mord g none o.2) (F0 m 61 ls [.ref (g 99)]) := by
  unfold fX12_sayOnce_b61 at hF
  refine lv_aload_n C.1.1 C.1.2.1 dX12_sayOnce_61 rfl (lv_at hl 0 rfl) ?_
  refine m_g2 C X dX12_sayOnce_62 ?_
  refine lv_goto (tgt := 72) C.1.1 C.1.2.1 dX12_sayOnce_65 (by decide) ?_
  exact bX12_sayOnce_72 C O (rfl : mT 2 = true) X (lv_sub hl [0] rfl) hF
noncomputable def fX12_sayOnce_b50 (N : Nat) (t1 : Int32) (S : gS) : Option (Int32 × gS) := chk (zb t1) (lt (sU S 99 31 t1) fun S1 => (if (S1 99 31) = 0 then fX12_sayOnce_b68 N S1 else fX12_sayOnce_b61 N S1))
theorem bX12_sayOnce_50 {N : Nat} {t1 : Int32} {S : gS} {H : Heap} {locs : List Loc} {ls : Array Slot} {o : Int32 × gS} (C : gC p s m args meth c cX12_sayOnce 2 RX12 none D (mtys cI cS) mord g Am) (O : sO (mcell g cI cS (msa aK)) mord g Am aK aV) (X : gX D (mcell g cI cS (msa aK)) mord g S s H locs) (hl : lv_has ls 2 [(0, .ref (g 99))]) (hF : fX12_sayOnce_b50 N t1 S = some o) : W p l e (rmd 59) s m args below meth c H locs 0 0 (gE below args s D (mtys cI cS) (mcell g cI cS (msa aK)) mord g none o.2) (F0 m 50 ls [.int t1, .ref (g 99)]) := by
  unfold fX12_sayOnce_b50 at hF
  obtain ⟨h_1, hF⟩ := chk_some hF
  obtain ⟨S1, eS1, hF⟩ := lt_some hF
  refine m_p31 C O.1 X h_1 eS1 dX12_sayOnce_50 (fun H locs X => ?_)
  refine lv_aload_n C.1.1 C.1.2.1 dX12_sayOnce_53 rfl (lv_at hl 0 rfl) ?_
  refine lv_aload_n C.1.1 C.1.2.1 dX12_sayOnce_54 rfl (lv_at hl 0 rfl) ?_
  refine m_g31 C X dX12_sayOnce_55 ?_
  refine lv_if_eq (tgt := 68) C.1.1 C.1.2.1 dX12_sayOnce_58 (by decide) (fun h_z => ?_) (fun h_z => ?_)
  · rw [if_pos h_z] at hF
    exact bX12_sayOnce_68 C O X (lv_sub hl [0] rfl) hF
  · rw [if_neg h_z] at hF
    exact bX12_sayOnce_61 C O X (lv_sub hl [0] rfl) hF
noncomputable def fX12_sayOnce_b49 (N : Nat) (S : gS) : Option (Int32 × gS) := fX12_sayOnce_b50 N 0 S
theorem bX12_sayOnce_49 {N : Nat} {S : gS} {H : Heap} {locs : List Loc} {ls : Array Slot} {o : Int32 × gS} (C : gC p s m args meth c cX12_sayOnce 2 RX12 none D (mtys cI cS) mord g Am) (O : sO (mcell g cI cS (msa aK)) mord g Am aK aV) (X : gX D (mcell g cI cS (msa aK)) mord g S s H locs) (hl : lv_has ls 2 [(0, .ref (g 99))]) (hF : fX12_sayOnce_b49 N S = some o) : W p l e (rmd 59) s m args below meth c H locs 0 0 (gE below args s D (mtys cI cS) (mcell g cI cS (msa aK)) mord g none o.2) (F0 m 49 ls [.ref (g 99)]) := by
  unfold fX12_sayOnce_b49 at hF
  refine lv_iconst (v := 0) C.1.1 C.1.2.1 dX12_sayOnce_49 (by decide) ?_
  exact bX12_sayOnce_50 C O X (lv_sub hl [0] rfl) hF
noncomputable def fX12_sayOnce_b45 (N : Nat) (S : gS) : Option (Int32 × gS) := fX12_sayOnce_b50 N 1 S
theorem bX12_sayOnce_45 {N : Nat} {S : gS} {H : Heap} {locs : List Loc} {ls : Array Slot} {o : Int32 × gS} (C : gC p s m args meth c cX12_sayOnce 2 RX12 none D (mtys cI cS) mord g Am) (O : sO (mcell g cI cS (msa aK)) mord g Am aK aV) (X : gX D (mcell g cI cS (msa aK)) mord g S s H locs) (hl : lv_has ls 2 [(0, .ref (g 99))]) (hF : fX12_sayOnce_b45 N S = some o) : W p l e (rmd 59) s m args below meth c H locs 0 0 (gE below args s D (mtys cI cS) (mcell g cI cS (msa aK)) mord g none o.2) (F0 m 45 ls [.ref (g 99)]) := by
  unfold fX12_sayOnce_b45 at hF
  refine lv_iconst (v := 1) C.1.1 C.1.2.1 dX12_sayOnce_45 (by decide) ?_
  refine lv_goto (tgt := 50) C.1.1 C.1.2.1 dX12_sayOnce_46 (by decide) ?_
  exact bX12_sayOnce_50 C O X (lv_sub hl [0] rfl) hF
noncomputable def fX12_sayOnce_b38 (N : Nat) (x1 : Int32) (S : gS) : Option (Int32 × gS) := if x1 = 8 then fX12_sayOnce_b45 N S else fX12_sayOnce_b49 N S
theorem bX12_sayOnce_38 {N : Nat} {x1 : Int32} {S : gS} {H : Heap} {locs : List Loc} {ls : Array Slot} {o : Int32 × gS} (C : gC p s m args meth c cX12_sayOnce 2 RX12 none D (mtys cI cS) mord g Am) (O : sO (mcell g cI cS (msa aK)) mord g Am aK aV) (X : gX D (mcell g cI cS (msa aK)) mord g S s H locs) (hl : lv_has ls 2 [(0, .ref (g 99)), (1, .int x1)]) (hF : fX12_sayOnce_b38 N x1 S = some o) : W p l e (rmd 59) s m args below meth c H locs 0 0 (gE below args s D (mtys cI cS) (mcell g cI cS (msa aK)) mord g none o.2) (F0 m 38 ls []) := by
  unfold fX12_sayOnce_b38 at hF
  refine lv_aload_n C.1.1 C.1.2.1 dX12_sayOnce_38 rfl (lv_at hl 0 rfl) ?_
  refine lv_iload_n C.1.1 C.1.2.1 dX12_sayOnce_39 rfl (lv_at hl 1 rfl) ?_
  refine lv_bipush (v := 8) C.1.1 C.1.2.1 dX12_sayOnce_40 (by decide) ?_
  refine lv_icmp_ne (tgt := 49) C.1.1 C.1.2.1 dX12_sayOnce_42 (by decide) (fun h_z => ?_) (fun h_z => ?_)
  · rw [if_neg h_z] at hF
    exact bX12_sayOnce_49 C O X (lv_sub hl [0] rfl) hF
  · rw [if_pos h_z] at hF
    exact bX12_sayOnce_45 C O X (lv_sub hl [0] rfl) hF
noncomputable def fX12_sayOnce_b37 (N : Nat) (S : gS) : Option (Int32 × gS) := some (0, S)
theorem bX12_sayOnce_37 {N : Nat} {S : gS} {H : Heap} {locs : List Loc} {ls : Array Slot} {o : Int32 × gS} (C : gC p s m args meth c cX12_sayOnce 2 RX12 none D (mtys cI cS) mord g Am) (O : sO (mcell g cI cS (msa aK)) mord g Am aK aV) (X : gX D (mcell g cI cS (msa aK)) mord g S s H locs) (hl : lv_has ls 2 []) (hF : fX12_sayOnce_b37 N S = some o) : W p l e (rmd 59) s m args below meth c H locs 0 0 (gE below args s D (mtys cI cS) (mcell g cI cS (msa aK)) mord g none o.2) (F0 m 37 ls []) := by
  unfold fX12_sayOnce_b37 at hF
  cases hF
  exact g_vret C X dX12_sayOnce_37
noncomputable def fX12_sayOnce_b32 (N : Nat) (x1 : Int32) (S : gS) : Option (Int32 × gS) := if 4 ≤ x1 then fX12_sayOnce_b38 N x1 S else fX12_sayOnce_b37 N S
theorem bX12_sayOnce_32 {N : Nat} {x1 : Int32} {S : gS} {H : Heap} {locs : List Loc} {ls : Array Slot} {o : Int32 × gS} (C : gC p s m args meth c cX12_sayOnce 2 RX12 none D (mtys cI cS) mord g Am) (O : sO (mcell g cI cS (msa aK)) mord g Am aK aV) (X : gX D (mcell g cI cS (msa aK)) mord g S s H locs) (hl : lv_has ls 2 [(0, .ref (g 99)), (1, .int x1)]) (hF : fX12_sayOnce_b32 N x1 S = some o) : W p l e (rmd 59) s m args below meth c H locs 0 0 (gE below args s D (mtys cI cS) (mcell g cI cS (msa aK)) mord g none o.2) (F0 m 32 ls []) := by
  unfold fX12_sayOnce_b32 at hF
  refine lv_iload_n C.1.1 C.1.2.1 dX12_sayOnce_32 rfl (lv_at hl 1 rfl) ?_
  refine lv_iconst (v := 4) C.1.1 C.1.2.1 dX12_sayOnce_33 (by decide) ?_
  refine lv_icmp_ge (tgt := 38) C.1.1 C.1.2.1 dX12_sayOnce_34 (by decide) (fun h_z => ?_) (fun h_z => ?_)
  · rw [if_pos h_z] at hF
    exact bX12_sayOnce_38 C O X (lv_sub hl [0, 1] rfl) hF
  · rw [if_neg h_z] at hF
    exact bX12_sayOnce_37 C O X (lv_sub hl [] rfl) hF
noncomputable def fX12_sayOnce_b18 (N : Nat) (x1 : Int32) (S : gS) : Option (Int32 × gS) := bnd (fX12_readNumber N 1 99 S) fun q1 => (lt (sU q1.2 5 8 q1.1) fun S2 => (fX12_sayOnce_b32 N x1 S2))
theorem bX12_sayOnce_18 {N : Nat} {x1 : Int32} {S : gS} {H : Heap} {locs : List Loc} {ls : Array Slot} {o : Int32 × gS} (C : gC p s m args meth c cX12_sayOnce 2 RX12 none D (mtys cI cS) mord g Am) (O : sO (mcell g cI cS (msa aK)) mord g Am aK aV) (X : gX D (mcell g cI cS (msa aK)) mord g S s H locs) (hl : lv_has ls 2 [(0, .ref (g 99)), (1, .int x1)]) (hF : fX12_sayOnce_b18 N x1 S = some o) : W p l e (rmd 59) s m args below meth c H locs 0 0 (gE below args s D (mtys cI cS) (mcell g cI cS (msa aK)) mord g none o.2) (F0 m 18 ls []) := by
  unfold fX12_sayOnce_b18 at hF
  refine lv_aload_n C.1.1 C.1.2.1 dX12_sayOnce_18 rfl (lv_at hl 0 rfl) ?_
  refine m_g5 C X dX12_sayOnce_19 ?_
  refine lv_bipush (v := 8) C.1.1 C.1.2.1 dX12_sayOnce_22 (by decide) ?_
  refine lv_aload_n C.1.1 C.1.2.1 dX12_sayOnce_24 rfl (lv_at hl 0 rfl) ?_
  refine lv_iconst (v := 1) C.1.1 C.1.2.1 dX12_sayOnce_25 (by decide) ?_
  refine lv_bipush (v := 99) C.1.1 C.1.2.1 dX12_sayOnce_26 (by decide) ?_
  obtain ⟨q1, hq1, hF⟩ := bnd_some hF
  refine m_callVi C X vX12_readNumber rfl (kX12_readNumber O.1 C.2.2.2.2.1 N 1 99  S q1 hq1) (Nat.le_of_ble_eq_true rfl) (Nat.le_of_ble_eq_true rfl) (Nat.le_of_ble_eq_true rfl) (Nat.le_of_ble_eq_true rfl) rfl hl.1 rfl (Nat.le_of_ble_eq_true rfl) dX12_sayOnce_28 (fun H locs X => ?_)
  obtain ⟨S2, eS2, hF⟩ := lt_some hF
  refine m_w5 C O.1 X (j := 8) (inb_vp (by decide)) (by decide) eS2 dX12_sayOnce_31 (fun H locs X => ?_)
  exact bX12_sayOnce_32 C O X (lv_sub hl [0, 1] rfl) hF
noncomputable def fX12_sayOnce_b13 (N : Nat) (x1 : Int32) (S : gS) : Option (Int32 × gS) := if x1 = 2 then fX12_sayOnce_b18 N x1 S else fX12_sayOnce_b32 N x1 S
theorem bX12_sayOnce_13 {N : Nat} {x1 : Int32} {S : gS} {H : Heap} {locs : List Loc} {ls : Array Slot} {o : Int32 × gS} (C : gC p s m args meth c cX12_sayOnce 2 RX12 none D (mtys cI cS) mord g Am) (O : sO (mcell g cI cS (msa aK)) mord g Am aK aV) (X : gX D (mcell g cI cS (msa aK)) mord g S s H locs) (hl : lv_has ls 2 [(0, .ref (g 99)), (1, .int x1)]) (hF : fX12_sayOnce_b13 N x1 S = some o) : W p l e (rmd 59) s m args below meth c H locs 0 0 (gE below args s D (mtys cI cS) (mcell g cI cS (msa aK)) mord g none o.2) (F0 m 13 ls []) := by
  unfold fX12_sayOnce_b13 at hF
  refine lv_iload_n C.1.1 C.1.2.1 dX12_sayOnce_13 rfl (lv_at hl 1 rfl) ?_
  refine lv_iconst (v := 2) C.1.1 C.1.2.1 dX12_sayOnce_14 (by decide) ?_
  refine lv_icmp_ne (tgt := 32) C.1.1 C.1.2.1 dX12_sayOnce_15 (by decide) (fun h_z => ?_) (fun h_z => ?_)
  · rw [if_neg h_z] at hF
    exact bX12_sayOnce_32 C O X (lv_sub hl [0, 1] rfl) hF
  · rw [if_pos h_z] at hF
    exact bX12_sayOnce_18 C O X (lv_sub hl [0, 1] rfl) hF
noncomputable def fX12_sayOnce_b9 (N : Nat) (x1 : Int32) (S : gS) : Option (Int32 × gS) := bnd (fX12_sayWets N  S) fun q1 => (fX12_sayOnce_b13 N x1 q1.2)
theorem bX12_sayOnce_9 {N : Nat} {x1 : Int32} {S : gS} {H : Heap} {locs : List Loc} {ls : Array Slot} {o : Int32 × gS} (C : gC p s m args meth c cX12_sayOnce 2 RX12 none D (mtys cI cS) mord g Am) (O : sO (mcell g cI cS (msa aK)) mord g Am aK aV) (X : gX D (mcell g cI cS (msa aK)) mord g S s H locs) (hl : lv_has ls 2 [(0, .ref (g 99)), (1, .int x1)]) (hF : fX12_sayOnce_b9 N x1 S = some o) : W p l e (rmd 59) s m args below meth c H locs 0 0 (gE below args s D (mtys cI cS) (mcell g cI cS (msa aK)) mord g none o.2) (F0 m 9 ls []) := by
  unfold fX12_sayOnce_b9 at hF
  refine lv_aload_n C.1.1 C.1.2.1 dX12_sayOnce_9 rfl (lv_at hl 0 rfl) ?_
  obtain ⟨q1, hq1, hF⟩ := bnd_some hF
  refine m_callV C X vX12_sayWets rfl (kX12_sayWets O.1 C.2.2.2.2.1 N   S q1 hq1) (Nat.le_of_ble_eq_true rfl) (Nat.le_of_ble_eq_true rfl) (Nat.le_of_ble_eq_true rfl) (Nat.le_of_ble_eq_true rfl) rfl hl.1 rfl (Nat.le_of_ble_eq_true rfl) dX12_sayOnce_10 (fun H locs X => ?_)
  exact bX12_sayOnce_13 C O X (lv_sub hl [0, 1] rfl) hF
noncomputable def fX12_sayOnce_b0 (N : Nat) (x1 : Int32) (S : gS) : Option (Int32 × gS) := bnd (fX12_stepOn N  S) fun q1 => (if x1 = 1 then fX12_sayOnce_b9 N x1 q1.2 else fX12_sayOnce_b13 N x1 q1.2)
theorem bX12_sayOnce_0 {N : Nat} {x1 : Int32} {S : gS} {H : Heap} {locs : List Loc} {ls : Array Slot} {o : Int32 × gS} (C : gC p s m args meth c cX12_sayOnce 2 RX12 none D (mtys cI cS) mord g Am) (O : sO (mcell g cI cS (msa aK)) mord g Am aK aV) (X : gX D (mcell g cI cS (msa aK)) mord g S s H locs) (hl : lv_has ls 2 [(0, .ref (g 99)), (1, .int x1)]) (hF : fX12_sayOnce_b0 N x1 S = some o) : W p l e (rmd 59) s m args below meth c H locs 0 0 (gE below args s D (mtys cI cS) (mcell g cI cS (msa aK)) mord g none o.2) (F0 m 0 ls []) := by
  unfold fX12_sayOnce_b0 at hF
  refine lv_aload_n C.1.1 C.1.2.1 dX12_sayOnce_0 rfl (lv_at hl 0 rfl) ?_
  obtain ⟨q1, hq1, hF⟩ := bnd_some hF
  refine m_callV C X vX12_stepOn rfl (kX12_stepOn O.1 C.2.2.2.2.1 N   S q1 hq1) (Nat.le_of_ble_eq_true rfl) (Nat.le_of_ble_eq_true rfl) (Nat.le_of_ble_eq_true rfl) (Nat.le_of_ble_eq_true rfl) rfl hl.1 rfl (Nat.le_of_ble_eq_true rfl) dX12_sayOnce_1 (fun H locs X => ?_)
  refine lv_iload_n C.1.1 C.1.2.1 dX12_sayOnce_4 rfl (lv_at hl 1 rfl) ?_
  refine lv_iconst (v := 1) C.1.1 C.1.2.1 dX12_sayOnce_5 (by decide) ?_
  refine lv_icmp_ne (tgt := 13) C.1.1 C.1.2.1 dX12_sayOnce_6 (by decide) (fun h_z => ?_) (fun h_z => ?_)
  · rw [if_neg h_z] at hF
    exact bX12_sayOnce_13 C O X (lv_sub hl [0, 1] rfl) hF
  · rw [if_pos h_z] at hF
    exact bX12_sayOnce_9 C O X (lv_sub hl [0, 1] rfl) hF
noncomputable def fX12_sayOnce (N : Nat) (x1 : Int32) (S : gS) : Option (Int32 × gS) := fX12_sayOnce_b0 N x1 S
theorem kX12_sayOnce {l : Launch} {D : va_G} {g : Nat → Nat} {cI cS : ClassId} {Am : (Nat → Prop) → State → Heap → Prop} {aK aV : Nat → Nat} (O : sO (mcell g cI cS (msa aK)) mord g Am aK aV) (P : gAm Am) (N : Nat) (x1 : Int32) (S : gS) (o : Int32 × gS) (hF : fX12_sayOnce N x1 S = some o) : gM l yX12_sayOnce cX12_sayOnce 2 none 59 D (mtys cI cS) (mcell g cI cS (msa aK)) mord g Am [.ref (g 99), .int x1] S none o.2 :=
  gM_of O.1 P (by decide) (Nat.le_of_ble_eq_true rfl) (fun p e s m args below meth c ls C X hl => bX12_sayOnce_0 C O X (lv_sub hl [0, 1] rfl) hF)
-- readLine
noncomputable def fX12_readLine_b132 (N : Nat) (x1 : Int32) (x3 : Int32) (S : gS) : Option (Int32 × gS) := bnd (fX12_mark N 59 S) fun q1 => (some ((x1 ||| x3 : Int32), q1.2))
theorem bX12_readLine_132 {N : Nat} {x1 : Int32} {x3 : Int32} {S : gS} {H : Heap} {locs : List Loc} {ls : Array Slot} {o : Int32 × gS} (C : gC p s m args meth c cX12_readLine 4 RX12 ((some .int)) D (mtys cI cS) mord g Am) (O : sO (mcell g cI cS (msa aK)) mord g Am aK aV) (X : gX D (mcell g cI cS (msa aK)) mord g S s H locs) (hl : lv_has ls 4 [(0, .ref (g 99)), (1, .int x1), (3, .int x3)]) (hF : fX12_readLine_b132 N x1 x3 S = some o) : W p l e (rmd 60) s m args below meth c H locs 0 0 (gE below args s D (mtys cI cS) (mcell g cI cS (msa aK)) mord g (some (.int o.1)) o.2) (F0 m 132 ls []) := by
  unfold fX12_readLine_b132 at hF
  refine lv_aload_n C.1.1 C.1.2.1 dX12_readLine_132 rfl (lv_at hl 0 rfl) ?_
  refine lv_bipush (v := 59) C.1.1 C.1.2.1 dX12_readLine_133 (by decide) ?_
  obtain ⟨q1, hq1, hF⟩ := bnd_some hF
  refine m_callV C X vX12_mark rfl (kX12_mark O.1 C.2.2.2.2.1 N 59  S q1 hq1) (Nat.le_of_ble_eq_true rfl) (Nat.le_of_ble_eq_true rfl) (Nat.le_of_ble_eq_true rfl) (Nat.le_of_ble_eq_true rfl) rfl hl.1 rfl (Nat.le_of_ble_eq_true rfl) dX12_readLine_135 (fun H locs X => ?_)
  refine lv_iload_n C.1.1 C.1.2.1 dX12_readLine_138 rfl (lv_at hl 1 rfl) ?_
  refine lv_iload_n C.1.1 C.1.2.1 dX12_readLine_139 rfl (lv_at hl 2 rfl) ?_
  refine lv_ior C.1.1 C.1.2.1 dX12_readLine_140 ?_
  cases hF
  exact g_iret C X dX12_readLine_141
noncomputable def fX12_readLine_b127 (N : Nat) (x1 : Int32) (x3 : Int32) (S : gS) : Option (Int32 × gS) := bnd (fX12_wrong N 1 S) fun q1 => (fX12_readLine_b132 N x1 x3 q1.2)
theorem bX12_readLine_127 {N : Nat} {x1 : Int32} {x3 : Int32} {S : gS} {H : Heap} {locs : List Loc} {ls : Array Slot} {o : Int32 × gS} (C : gC p s m args meth c cX12_readLine 4 RX12 ((some .int)) D (mtys cI cS) mord g Am) (O : sO (mcell g cI cS (msa aK)) mord g Am aK aV) (X : gX D (mcell g cI cS (msa aK)) mord g S s H locs) (hl : lv_has ls 4 [(0, .ref (g 99)), (1, .int x1), (3, .int x3)]) (hF : fX12_readLine_b127 N x1 x3 S = some o) : W p l e (rmd 60) s m args below meth c H locs 0 0 (gE below args s D (mtys cI cS) (mcell g cI cS (msa aK)) mord g (some (.int o.1)) o.2) (F0 m 127 ls []) := by
  unfold fX12_readLine_b127 at hF
  refine lv_aload_n C.1.1 C.1.2.1 dX12_readLine_127 rfl (lv_at hl 0 rfl) ?_
  refine lv_iconst (v := 1) C.1.1 C.1.2.1 dX12_readLine_128 (by decide) ?_
  obtain ⟨q1, hq1, hF⟩ := bnd_some hF
  refine m_callV C X vX12_wrong rfl (kX12_wrong O.1 C.2.2.2.2.1 N 1  S q1 hq1) (Nat.le_of_ble_eq_true rfl) (Nat.le_of_ble_eq_true rfl) (Nat.le_of_ble_eq_true rfl) (Nat.le_of_ble_eq_true rfl) rfl hl.1 rfl (Nat.le_of_ble_eq_true rfl) dX12_readLine_129 (fun H locs X => ?_)
  exact bX12_readLine_132 C O X (lv_sub hl [0, 1, 2] rfl) hF
noncomputable def fX12_readLine_b120 (N : Nat) (x1 : Int32) (x3 : Int32) (S : gS) : Option (Int32 × gS) := bnd (fX12_sayGuild N  S) fun q1 => (fX12_readLine_b132 N x1 x3 q1.2)
theorem bX12_readLine_120 {N : Nat} {x1 : Int32} {x3 : Int32} {S : gS} {H : Heap} {locs : List Loc} {ls : Array Slot} {o : Int32 × gS} (C : gC p s m args meth c cX12_readLine 4 RX12 ((some .int)) D (mtys cI cS) mord g Am) (O : sO (mcell g cI cS (msa aK)) mord g Am aK aV) (X : gX D (mcell g cI cS (msa aK)) mord g S s H locs) (hl : lv_has ls 4 [(0, .ref (g 99)), (1, .int x1), (3, .int x3)]) (hF : fX12_readLine_b120 N x1 x3 S = some o) : W p l e (rmd 60) s m args below meth c H locs 0 0 (gE below args s D (mtys cI cS) (mcell g cI cS (msa aK)) mord g (some (.int o.1)) o.2) (F0 m 120 ls []) := by
  unfold fX12_readLine_b120 at hF
  refine lv_aload_n C.1.1 C.1.2.1 dX12_readLine_120 rfl (lv_at hl 0 rfl) ?_
  obtain ⟨q1, hq1, hF⟩ := bnd_some hF
  refine m_callV C X vX12_sayGuild rfl (kX12_sayGuild O C.2.2.2.2.1 N   S q1 hq1) (Nat.le_of_ble_eq_true rfl) (Nat.le_of_ble_eq_true rfl) (Nat.le_of_ble_eq_true rfl) (Nat.le_of_ble_eq_true rfl) rfl hl.1 rfl (Nat.le_of_ble_eq_true rfl) dX12_readLine_121 (fun H locs X => ?_)
  refine lv_goto (tgt := 132) C.1.1 C.1.2.1 dX12_readLine_124 (by decide) ?_
  exact bX12_readLine_132 C O X (lv_sub hl [0, 1, 2] rfl) hF
noncomputable def fX12_readLine_b110 (N : Nat) (x1 : Int32) (x3 : Int32) (S : gS) : Option (Int32 × gS) := bnd (fX12_is N 43 S) fun q1 => (if q1.1 = 0 then fX12_readLine_b127 N x1 x3 q1.2 else fX12_readLine_b120 N x1 x3 q1.2)
theorem bX12_readLine_110 {N : Nat} {x1 : Int32} {x3 : Int32} {S : gS} {H : Heap} {locs : List Loc} {ls : Array Slot} {o : Int32 × gS} (C : gC p s m args meth c cX12_readLine 4 RX12 ((some .int)) D (mtys cI cS) mord g Am) (O : sO (mcell g cI cS (msa aK)) mord g Am aK aV) (X : gX D (mcell g cI cS (msa aK)) mord g S s H locs) (hl : lv_has ls 4 [(0, .ref (g 99)), (1, .int x1), (3, .int x3)]) (hF : fX12_readLine_b110 N x1 x3 S = some o) : W p l e (rmd 60) s m args below meth c H locs 0 0 (gE below args s D (mtys cI cS) (mcell g cI cS (msa aK)) mord g (some (.int o.1)) o.2) (F0 m 110 ls []) := by
  unfold fX12_readLine_b110 at hF
  refine lv_aload_n C.1.1 C.1.2.1 dX12_readLine_110 rfl (lv_at hl 0 rfl) ?_
  refine s_ldcw C O (i := 43) rfl dX12_readLine_111 ?_
  obtain ⟨q1, hq1, hF⟩ := bnd_some hF
  refine m_callVi C X vX12_is rfl (kX12_is O C.2.2.2.2.1 N 43 (rfl : sI 43 = true) S q1 hq1) (Nat.le_of_ble_eq_true rfl) (Nat.le_of_ble_eq_true rfl) (Nat.le_of_ble_eq_true rfl) (Nat.le_of_ble_eq_true rfl) rfl hl.1 rfl (Nat.le_of_ble_eq_true rfl) dX12_readLine_114 (fun H locs X => ?_)
  refine lv_if_eq (tgt := 127) C.1.1 C.1.2.1 dX12_readLine_117 (by decide) (fun h_z => ?_) (fun h_z => ?_)
  · rw [if_pos h_z] at hF
    exact bX12_readLine_127 C O X (lv_sub hl [0, 1, 2] rfl) hF
  · rw [if_neg h_z] at hF
    exact bX12_readLine_120 C O X (lv_sub hl [0, 1, 2] rfl) hF
noncomputable def fX12_readLine_b102 (N : Nat) (x1 : Int32) (x2 : Int32) (x3 : Int32) (S : gS) : Option (Int32 × gS) := bnd (fX12_sayCave N x2 S) fun q1 => (fX12_readLine_b132 N x1 x3 q1.2)
theorem bX12_readLine_102 {N : Nat} {x1 : Int32} {x2 : Int32} {x3 : Int32} {S : gS} {H : Heap} {locs : List Loc} {ls : Array Slot} {o : Int32 × gS} (C : gC p s m args meth c cX12_readLine 4 RX12 ((some .int)) D (mtys cI cS) mord g Am) (O : sO (mcell g cI cS (msa aK)) mord g Am aK aV) (X : gX D (mcell g cI cS (msa aK)) mord g S s H locs) (hl : lv_has ls 4 [(0, .ref (g 99)), (1, .int x1), (2, .int x2), (3, .int x3)]) (hF : fX12_readLine_b102 N x1 x2 x3 S = some o) : W p l e (rmd 60) s m args below meth c H locs 0 0 (gE below args s D (mtys cI cS) (mcell g cI cS (msa aK)) mord g (some (.int o.1)) o.2) (F0 m 102 ls []) := by
  unfold fX12_readLine_b102 at hF
  refine lv_aload_n C.1.1 C.1.2.1 dX12_readLine_102 rfl (lv_at hl 0 rfl) ?_
  refine lv_iload_n C.1.1 C.1.2.1 dX12_readLine_103 rfl (lv_at hl 2 rfl) ?_
  obtain ⟨q1, hq1, hF⟩ := bnd_some hF
  refine m_callV C X vX12_sayCave rfl (kX12_sayCave O.1 C.2.2.2.2.1 N x2  S q1 hq1) (Nat.le_of_ble_eq_true rfl) (Nat.le_of_ble_eq_true rfl) (Nat.le_of_ble_eq_true rfl) (Nat.le_of_ble_eq_true rfl) rfl hl.1 rfl (Nat.le_of_ble_eq_true rfl) dX12_readLine_104 (fun H locs X => ?_)
  refine lv_goto (tgt := 132) C.1.1 C.1.2.1 dX12_readLine_107 (by decide) ?_
  exact bX12_readLine_132 C O X (lv_sub hl [0, 1, 3] rfl) hF
noncomputable def fX12_readLine_b97 (N : Nat) (x1 : Int32) (x2 : Int32) (x3 : Int32) (S : gS) : Option (Int32 × gS) := if x2 = ((-1)) then fX12_readLine_b110 N x1 x3 S else fX12_readLine_b102 N x1 x2 x3 S
theorem bX12_readLine_97 {N : Nat} {x1 : Int32} {x2 : Int32} {x3 : Int32} {S : gS} {H : Heap} {locs : List Loc} {ls : Array Slot} {o : Int32 × gS} (C : gC p s m args meth c cX12_readLine 4 RX12 ((some .int)) D (mtys cI cS) mord g Am) (O : sO (mcell g cI cS (msa aK)) mord g Am aK aV) (X : gX D (mcell g cI cS (msa aK)) mord g S s H locs) (hl : lv_has ls 4 [(0, .ref (g 99)), (1, .int x1), (2, .int x2), (3, .int x3)]) (hF : fX12_readLine_b97 N x1 x2 x3 S = some o) : W p l e (rmd 60) s m args below meth c H locs 0 0 (gE below args s D (mtys cI cS) (mcell g cI cS (msa aK)) mord g (some (.int o.1)) o.2) (F0 m 97 ls []) := by
  unfold fX12_readLine_b97 at hF
  refine lv_iload_n C.1.1 C.1.2.1 dX12_readLine_97 rfl (lv_at hl 2 rfl) ?_
  refine lv_iconst (v := (-1)) C.1.1 C.1.2.1 dX12_readLine_98 (by decide) ?_
  refine lv_icmp_eq (tgt := 110) C.1.1 C.1.2.1 dX12_readLine_99 (by decide) (fun h_z => ?_) (fun h_z => ?_)
  · rw [if_pos h_z] at hF
    exact bX12_readLine_110 C O X (lv_sub hl [0, 1, 3] rfl) hF
  · rw [if_neg h_z] at hF
    exact bX12_readLine_102 C O X (lv_sub hl [0, 1, 2, 3] rfl) hF
noncomputable def fX12_readLine_b89 (N : Nat) (x1 : Int32) (x3 : Int32) (S : gS) : Option (Int32 × gS) := bnd (fX12_sayOnce N x3 S) fun q1 => (fX12_readLine_b132 N x1 x3 q1.2)
theorem bX12_readLine_89 {N : Nat} {x1 : Int32} {x3 : Int32} {S : gS} {H : Heap} {locs : List Loc} {ls : Array Slot} {o : Int32 × gS} (C : gC p s m args meth c cX12_readLine 4 RX12 ((some .int)) D (mtys cI cS) mord g Am) (O : sO (mcell g cI cS (msa aK)) mord g Am aK aV) (X : gX D (mcell g cI cS (msa aK)) mord g S s H locs) (hl : lv_has ls 4 [(0, .ref (g 99)), (1, .int x1), (3, .int x3)]) (hF : fX12_readLine_b89 N x1 x3 S = some o) : W p l e (rmd 60) s m args below meth c H locs 0 0 (gE below args s D (mtys cI cS) (mcell g cI cS (msa aK)) mord g (some (.int o.1)) o.2) (F0 m 89 ls []) := by
  unfold fX12_readLine_b89 at hF
  refine lv_aload_n C.1.1 C.1.2.1 dX12_readLine_89 rfl (lv_at hl 0 rfl) ?_
  refine lv_iload_n C.1.1 C.1.2.1 dX12_readLine_90 rfl (lv_at hl 2 rfl) ?_
  obtain ⟨q1, hq1, hF⟩ := bnd_some hF
  refine m_callV C X vX12_sayOnce rfl (kX12_sayOnce O C.2.2.2.2.1 N x3  S q1 hq1) (Nat.le_of_ble_eq_true rfl) (Nat.le_of_ble_eq_true rfl) (Nat.le_of_ble_eq_true rfl) (Nat.le_of_ble_eq_true rfl) rfl hl.1 rfl (Nat.le_of_ble_eq_true rfl) dX12_readLine_91 (fun H locs X => ?_)
  refine lv_goto (tgt := 132) C.1.1 C.1.2.1 dX12_readLine_94 (by decide) ?_
  exact bX12_readLine_132 C O X (lv_sub hl [0, 1, 2] rfl) hF
noncomputable def fX12_readLine_b82 (N : Nat) (x1 : Int32) (x2 : Int32) (x3 : Int32) (S : gS) : Option (Int32 × gS) := if (S 99 27) = 0 then fX12_readLine_b89 N x1 x3 S else fX12_readLine_b97 N x1 x2 x3 S
theorem bX12_readLine_82 {N : Nat} {x1 : Int32} {x2 : Int32} {x3 : Int32} {S : gS} {H : Heap} {locs : List Loc} {ls : Array Slot} {o : Int32 × gS} (C : gC p s m args meth c cX12_readLine 4 RX12 ((some .int)) D (mtys cI cS) mord g Am) (O : sO (mcell g cI cS (msa aK)) mord g Am aK aV) (X : gX D (mcell g cI cS (msa aK)) mord g S s H locs) (hl : lv_has ls 4 [(0, .ref (g 99)), (1, .int x1), (2, .int x2), (3, .int x3)]) (hF : fX12_readLine_b82 N x1 x2 x3 S = some o) : W p l e (rmd 60) s m args below meth c H locs 0 0 (gE below args s D (mtys cI cS) (mcell g cI cS (msa aK)) mord g (some (.int o.1)) o.2) (F0 m 82 ls []) := by
  unfold fX12_readLine_b82 at hF
  refine lv_aload_n C.1.1 C.1.2.1 dX12_readLine_82 rfl (lv_at hl 0 rfl) ?_
  refine m_g27 C X dX12_readLine_83 ?_
  refine lv_if_ne (tgt := 97) C.1.1 C.1.2.1 dX12_readLine_86 (by decide) (fun h_z => ?_) (fun h_z => ?_)
  · rw [if_neg h_z] at hF
    exact bX12_readLine_97 C O X (lv_sub hl [0, 1, 2, 3] rfl) hF
  · rw [if_pos h_z] at hF
    exact bX12_readLine_89 C O X (lv_sub hl [0, 1, 3] rfl) hF
noncomputable def fX12_readLine_b78 (N : Nat) (x1 : Int32) (x2 : Int32) (x3 : Int32) (S : gS) : Option (Int32 × gS) := if x3 ≤ 0 then fX12_readLine_b97 N x1 x2 x3 S else fX12_readLine_b82 N x1 x2 x3 S
theorem bX12_readLine_78 {N : Nat} {x1 : Int32} {x2 : Int32} {x3 : Int32} {S : gS} {H : Heap} {locs : List Loc} {ls : Array Slot} {o : Int32 × gS} (C : gC p s m args meth c cX12_readLine 4 RX12 ((some .int)) D (mtys cI cS) mord g Am) (O : sO (mcell g cI cS (msa aK)) mord g Am aK aV) (X : gX D (mcell g cI cS (msa aK)) mord g S s H locs) (hl : lv_has ls 4 [(0, .ref (g 99)), (1, .int x1), (2, .int x2), (3, .int x3)]) (hF : fX12_readLine_b78 N x1 x2 x3 S = some o) : W p l e (rmd 60) s m args below meth c H locs 0 0 (gE below args s D (mtys cI cS) (mcell g cI cS (msa aK)) mord g (some (.int o.1)) o.2) (F0 m 78 ls []) := by
  unfold fX12_readLine_b78 at hF
  refine lv_iload_n C.1.1 C.1.2.1 dX12_readLine_78 rfl (lv_at hl 3 rfl) ?_
  refine lv_if_le (tgt := 97) C.1.1 C.1.2.1 dX12_readLine_79 (by decide) (fun h_z => ?_) (fun h_z => ?_)
  · rw [if_pos h_z] at hF
    exact bX12_readLine_97 C O X (lv_sub hl [0, 1, 2, 3] rfl) hF
  · rw [if_neg h_z] at hF
    exact bX12_readLine_82 C O X (lv_sub hl [0, 1, 2, 3] rfl) hF
noncomputable def fX12_readLine_b73 (N : Nat) (x1 : Int32) (x2 : Int32) (x3 : Int32) (S : gS) : Option (Int32 × gS) := bnd (fX12_wrong N 5 S) fun q1 => (fX12_readLine_b78 N x1 x2 x3 q1.2)
theorem bX12_readLine_73 {N : Nat} {x1 : Int32} {x2 : Int32} {x3 : Int32} {S : gS} {H : Heap} {locs : List Loc} {ls : Array Slot} {o : Int32 × gS} (C : gC p s m args meth c cX12_readLine 4 RX12 ((some .int)) D (mtys cI cS) mord g Am) (O : sO (mcell g cI cS (msa aK)) mord g Am aK aV) (X : gX D (mcell g cI cS (msa aK)) mord g S s H locs) (hl : lv_has ls 4 [(0, .ref (g 99)), (1, .int x1), (2, .int x2), (3, .int x3)]) (hF : fX12_readLine_b73 N x1 x2 x3 S = some o) : W p l e (rmd 60) s m args below meth c H locs 0 0 (gE below args s D (mtys cI cS) (mcell g cI cS (msa aK)) mord g (some (.int o.1)) o.2) (F0 m 73 ls []) := by
  unfold fX12_readLine_b73 at hF
  refine lv_aload_n C.1.1 C.1.2.1 dX12_readLine_73 rfl (lv_at hl 0 rfl) ?_
  refine lv_iconst (v := 5) C.1.1 C.1.2.1 dX12_readLine_74 (by decide) ?_
  obtain ⟨q1, hq1, hF⟩ := bnd_some hF
  refine m_callV C X vX12_wrong rfl (kX12_wrong O.1 C.2.2.2.2.1 N 5  S q1 hq1) (Nat.le_of_ble_eq_true rfl) (Nat.le_of_ble_eq_true rfl) (Nat.le_of_ble_eq_true rfl) (Nat.le_of_ble_eq_true rfl) rfl hl.1 rfl (Nat.le_of_ble_eq_true rfl) dX12_readLine_75 (fun H locs X => ?_)
  exact bX12_readLine_78 C O X (lv_sub hl [0, 1, 2, 3] rfl) hF
noncomputable def fX12_readLine_b66 (N : Nat) (x1 : Int32) (x2 : Int32) (t0 : Int32) (S : gS) : Option (Int32 × gS) := if ((t0 &&& x1 : Int32)) = 0 then fX12_readLine_b78 N x1 x2 t0 S else fX12_readLine_b73 N x1 x2 t0 S
theorem bX12_readLine_66 {N : Nat} {x1 : Int32} {x2 : Int32} {t0 : Int32} {S : gS} {H : Heap} {locs : List Loc} {ls : Array Slot} {o : Int32 × gS} (C : gC p s m args meth c cX12_readLine 4 RX12 ((some .int)) D (mtys cI cS) mord g Am) (O : sO (mcell g cI cS (msa aK)) mord g Am aK aV) (X : gX D (mcell g cI cS (msa aK)) mord g S s H locs) (hl : lv_has ls 4 [(0, .ref (g 99)), (1, .int x1), (2, .int x2)]) (hF : fX12_readLine_b66 N x1 x2 t0 S = some o) : W p l e (rmd 60) s m args below meth c H locs 0 0 (gE below args s D (mtys cI cS) (mcell g cI cS (msa aK)) mord g (some (.int o.1)) o.2) (F0 m 66 ls [.int t0]) := by
  unfold fX12_readLine_b66 at hF
  refine lv_istore_n (lv' := [(3, .int t0), (0, .ref (g 99)), (1, .int x1), (2, .int x2)]) C.1.1 C.1.2.1 dX12_readLine_66 rfl hl (by decide) rfl (fun ls hl => ?_)
  refine lv_iload_n C.1.1 C.1.2.1 dX12_readLine_67 rfl (lv_at hl 0 rfl) ?_
  refine lv_iload_n C.1.1 C.1.2.1 dX12_readLine_68 rfl (lv_at hl 2 rfl) ?_
  refine lv_iand C.1.1 C.1.2.1 dX12_readLine_69 ?_
  refine lv_if_eq (tgt := 78) C.1.1 C.1.2.1 dX12_readLine_70 (by decide) (fun h_z => ?_) (fun h_z => ?_)
  · rw [if_pos h_z] at hF
    exact bX12_readLine_78 C O X (lv_sub hl [1, 2, 3, 0] rfl) hF
  · rw [if_neg h_z] at hF
    exact bX12_readLine_73 C O X (lv_sub hl [1, 2, 3, 0] rfl) hF
noncomputable def fX12_readLine_b65 (N : Nat) (x1 : Int32) (x2 : Int32) (S : gS) : Option (Int32 × gS) := fX12_readLine_b66 N x1 x2 0 S
theorem bX12_readLine_65 {N : Nat} {x1 : Int32} {x2 : Int32} {S : gS} {H : Heap} {locs : List Loc} {ls : Array Slot} {o : Int32 × gS} (C : gC p s m args meth c cX12_readLine 4 RX12 ((some .int)) D (mtys cI cS) mord g Am) (O : sO (mcell g cI cS (msa aK)) mord g Am aK aV) (X : gX D (mcell g cI cS (msa aK)) mord g S s H locs) (hl : lv_has ls 4 [(0, .ref (g 99)), (1, .int x1), (2, .int x2)]) (hF : fX12_readLine_b65 N x1 x2 S = some o) : W p l e (rmd 60) s m args below meth c H locs 0 0 (gE below args s D (mtys cI cS) (mcell g cI cS (msa aK)) mord g (some (.int o.1)) o.2) (F0 m 65 ls []) := by
  unfold fX12_readLine_b65 at hF
  refine lv_iconst (v := 0) C.1.1 C.1.2.1 dX12_readLine_65 (by decide) ?_
  exact bX12_readLine_66 C O X (lv_sub hl [0, 1, 2] rfl) hF
noncomputable def fX12_readLine_b60 (N : Nat) (x1 : Int32) (x2 : Int32) (S : gS) : Option (Int32 × gS) := fX12_readLine_b66 N x1 x2 8 S
theorem bX12_readLine_60 {N : Nat} {x1 : Int32} {x2 : Int32} {S : gS} {H : Heap} {locs : List Loc} {ls : Array Slot} {o : Int32 × gS} (C : gC p s m args meth c cX12_readLine 4 RX12 ((some .int)) D (mtys cI cS) mord g Am) (O : sO (mcell g cI cS (msa aK)) mord g Am aK aV) (X : gX D (mcell g cI cS (msa aK)) mord g S s H locs) (hl : lv_has ls 4 [(0, .ref (g 99)), (1, .int x1), (2, .int x2)]) (hF : fX12_readLine_b60 N x1 x2 S = some o) : W p l e (rmd 60) s m args below meth c H locs 0 0 (gE below args s D (mtys cI cS) (mcell g cI cS (msa aK)) mord g (some (.int o.1)) o.2) (F0 m 60 ls []) := by
  unfold fX12_readLine_b60 at hF
  refine lv_bipush (v := 8) C.1.1 C.1.2.1 dX12_readLine_60 (by decide) ?_
  refine lv_goto (tgt := 66) C.1.1 C.1.2.1 dX12_readLine_62 (by decide) ?_
  exact bX12_readLine_66 C O X (lv_sub hl [0, 1, 2] rfl) hF
noncomputable def fX12_readLine_b50 (N : Nat) (x1 : Int32) (x2 : Int32) (S : gS) : Option (Int32 × gS) := bnd (fX12_is N 39 S) fun q1 => (if q1.1 = 0 then fX12_readLine_b65 N x1 x2 q1.2 else fX12_readLine_b60 N x1 x2 q1.2)
theorem bX12_readLine_50 {N : Nat} {x1 : Int32} {x2 : Int32} {S : gS} {H : Heap} {locs : List Loc} {ls : Array Slot} {o : Int32 × gS} (C : gC p s m args meth c cX12_readLine 4 RX12 ((some .int)) D (mtys cI cS) mord g Am) (O : sO (mcell g cI cS (msa aK)) mord g Am aK aV) (X : gX D (mcell g cI cS (msa aK)) mord g S s H locs) (hl : lv_has ls 4 [(0, .ref (g 99)), (1, .int x1), (2, .int x2)]) (hF : fX12_readLine_b50 N x1 x2 S = some o) : W p l e (rmd 60) s m args below meth c H locs 0 0 (gE below args s D (mtys cI cS) (mcell g cI cS (msa aK)) mord g (some (.int o.1)) o.2) (F0 m 50 ls []) := by
  unfold fX12_readLine_b50 at hF
  refine lv_aload_n C.1.1 C.1.2.1 dX12_readLine_50 rfl (lv_at hl 0 rfl) ?_
  refine s_ldcw C O (i := 39) rfl dX12_readLine_51 ?_
  obtain ⟨q1, hq1, hF⟩ := bnd_some hF
  refine m_callVi C X vX12_is rfl (kX12_is O C.2.2.2.2.1 N 39 (rfl : sI 39 = true) S q1 hq1) (Nat.le_of_ble_eq_true rfl) (Nat.le_of_ble_eq_true rfl) (Nat.le_of_ble_eq_true rfl) (Nat.le_of_ble_eq_true rfl) rfl hl.1 rfl (Nat.le_of_ble_eq_true rfl) dX12_readLine_54 (fun H locs X => ?_)
  refine lv_if_eq (tgt := 65) C.1.1 C.1.2.1 dX12_readLine_57 (by decide) (fun h_z => ?_) (fun h_z => ?_)
  · rw [if_pos h_z] at hF
    exact bX12_readLine_65 C O X (lv_sub hl [0, 1, 2] rfl) hF
  · rw [if_neg h_z] at hF
    exact bX12_readLine_60 C O X (lv_sub hl [0, 1, 2] rfl) hF
noncomputable def fX12_readLine_b46 (N : Nat) (x1 : Int32) (x2 : Int32) (S : gS) : Option (Int32 × gS) := fX12_readLine_b66 N x1 x2 4 S
theorem bX12_readLine_46 {N : Nat} {x1 : Int32} {x2 : Int32} {S : gS} {H : Heap} {locs : List Loc} {ls : Array Slot} {o : Int32 × gS} (C : gC p s m args meth c cX12_readLine 4 RX12 ((some .int)) D (mtys cI cS) mord g Am) (O : sO (mcell g cI cS (msa aK)) mord g Am aK aV) (X : gX D (mcell g cI cS (msa aK)) mord g S s H locs) (hl : lv_has ls 4 [(0, .ref (g 99)), (1, .int x1), (2, .int x2)]) (hF : fX12_readLine_b46 N x1 x2 S = some o) : W p l e (rmd 60) s m args below meth c H locs 0 0 (gE below args s D (mtys cI cS) (mcell g cI cS (msa aK)) mord g (some (.int o.1)) o.2) (F0 m 46 ls []) := by
  unfold fX12_readLine_b46 at hF
  refine lv_iconst (v := 4) C.1.1 C.1.2.1 dX12_readLine_46 (by decide) ?_
  refine lv_goto (tgt := 66) C.1.1 C.1.2.1 dX12_readLine_47 (by decide) ?_
  exact bX12_readLine_66 C O X (lv_sub hl [0, 1, 2] rfl) hF
noncomputable def fX12_readLine_b36 (N : Nat) (x1 : Int32) (x2 : Int32) (S : gS) : Option (Int32 × gS) := bnd (fX12_is N 38 S) fun q1 => (if q1.1 = 0 then fX12_readLine_b50 N x1 x2 q1.2 else fX12_readLine_b46 N x1 x2 q1.2)
theorem bX12_readLine_36 {N : Nat} {x1 : Int32} {x2 : Int32} {S : gS} {H : Heap} {locs : List Loc} {ls : Array Slot} {o : Int32 × gS} (C : gC p s m args meth c cX12_readLine 4 RX12 ((some .int)) D (mtys cI cS) mord g Am) (O : sO (mcell g cI cS (msa aK)) mord g Am aK aV) (X : gX D (mcell g cI cS (msa aK)) mord g S s H locs) (hl : lv_has ls 4 [(0, .ref (g 99)), (1, .int x1), (2, .int x2)]) (hF : fX12_readLine_b36 N x1 x2 S = some o) : W p l e (rmd 60) s m args below meth c H locs 0 0 (gE below args s D (mtys cI cS) (mcell g cI cS (msa aK)) mord g (some (.int o.1)) o.2) (F0 m 36 ls []) := by
  unfold fX12_readLine_b36 at hF
  refine lv_aload_n C.1.1 C.1.2.1 dX12_readLine_36 rfl (lv_at hl 0 rfl) ?_
  refine s_ldcw C O (i := 38) rfl dX12_readLine_37 ?_
  obtain ⟨q1, hq1, hF⟩ := bnd_some hF
  refine m_callVi C X vX12_is rfl (kX12_is O C.2.2.2.2.1 N 38 (rfl : sI 38 = true) S q1 hq1) (Nat.le_of_ble_eq_true rfl) (Nat.le_of_ble_eq_true rfl) (Nat.le_of_ble_eq_true rfl) (Nat.le_of_ble_eq_true rfl) rfl hl.1 rfl (Nat.le_of_ble_eq_true rfl) dX12_readLine_40 (fun H locs X => ?_)
  refine lv_if_eq (tgt := 50) C.1.1 C.1.2.1 dX12_readLine_43 (by decide) (fun h_z => ?_) (fun h_z => ?_)
  · rw [if_pos h_z] at hF
    exact bX12_readLine_50 C O X (lv_sub hl [0, 1, 2] rfl) hF
  · rw [if_neg h_z] at hF
    exact bX12_readLine_46 C O X (lv_sub hl [0, 1, 2] rfl) hF
noncomputable def fX12_readLine_b32 (N : Nat) (x1 : Int32) (x2 : Int32) (S : gS) : Option (Int32 × gS) := fX12_readLine_b66 N x1 x2 2 S
theorem bX12_readLine_32 {N : Nat} {x1 : Int32} {x2 : Int32} {S : gS} {H : Heap} {locs : List Loc} {ls : Array Slot} {o : Int32 × gS} (C : gC p s m args meth c cX12_readLine 4 RX12 ((some .int)) D (mtys cI cS) mord g Am) (O : sO (mcell g cI cS (msa aK)) mord g Am aK aV) (X : gX D (mcell g cI cS (msa aK)) mord g S s H locs) (hl : lv_has ls 4 [(0, .ref (g 99)), (1, .int x1), (2, .int x2)]) (hF : fX12_readLine_b32 N x1 x2 S = some o) : W p l e (rmd 60) s m args below meth c H locs 0 0 (gE below args s D (mtys cI cS) (mcell g cI cS (msa aK)) mord g (some (.int o.1)) o.2) (F0 m 32 ls []) := by
  unfold fX12_readLine_b32 at hF
  refine lv_iconst (v := 2) C.1.1 C.1.2.1 dX12_readLine_32 (by decide) ?_
  refine lv_goto (tgt := 66) C.1.1 C.1.2.1 dX12_readLine_33 (by decide) ?_
  exact bX12_readLine_66 C O X (lv_sub hl [0, 1, 2] rfl) hF
noncomputable def fX12_readLine_b22 (N : Nat) (x1 : Int32) (x2 : Int32) (S : gS) : Option (Int32 × gS) := bnd (fX12_is N 37 S) fun q1 => (if q1.1 = 0 then fX12_readLine_b36 N x1 x2 q1.2 else fX12_readLine_b32 N x1 x2 q1.2)
theorem bX12_readLine_22 {N : Nat} {x1 : Int32} {x2 : Int32} {S : gS} {H : Heap} {locs : List Loc} {ls : Array Slot} {o : Int32 × gS} (C : gC p s m args meth c cX12_readLine 4 RX12 ((some .int)) D (mtys cI cS) mord g Am) (O : sO (mcell g cI cS (msa aK)) mord g Am aK aV) (X : gX D (mcell g cI cS (msa aK)) mord g S s H locs) (hl : lv_has ls 4 [(0, .ref (g 99)), (1, .int x1), (2, .int x2)]) (hF : fX12_readLine_b22 N x1 x2 S = some o) : W p l e (rmd 60) s m args below meth c H locs 0 0 (gE below args s D (mtys cI cS) (mcell g cI cS (msa aK)) mord g (some (.int o.1)) o.2) (F0 m 22 ls []) := by
  unfold fX12_readLine_b22 at hF
  refine lv_aload_n C.1.1 C.1.2.1 dX12_readLine_22 rfl (lv_at hl 0 rfl) ?_
  refine s_ldcw C O (i := 37) rfl dX12_readLine_23 ?_
  obtain ⟨q1, hq1, hF⟩ := bnd_some hF
  refine m_callVi C X vX12_is rfl (kX12_is O C.2.2.2.2.1 N 37 (rfl : sI 37 = true) S q1 hq1) (Nat.le_of_ble_eq_true rfl) (Nat.le_of_ble_eq_true rfl) (Nat.le_of_ble_eq_true rfl) (Nat.le_of_ble_eq_true rfl) rfl hl.1 rfl (Nat.le_of_ble_eq_true rfl) dX12_readLine_26 (fun H locs X => ?_)
  refine lv_if_eq (tgt := 36) C.1.1 C.1.2.1 dX12_readLine_29 (by decide) (fun h_z => ?_) (fun h_z => ?_)
  · rw [if_pos h_z] at hF
    exact bX12_readLine_36 C O X (lv_sub hl [0, 1, 2] rfl) hF
  · rw [if_neg h_z] at hF
    exact bX12_readLine_32 C O X (lv_sub hl [0, 1, 2] rfl) hF
noncomputable def fX12_readLine_b18 (N : Nat) (x1 : Int32) (x2 : Int32) (S : gS) : Option (Int32 × gS) := fX12_readLine_b66 N x1 x2 1 S
theorem bX12_readLine_18 {N : Nat} {x1 : Int32} {x2 : Int32} {S : gS} {H : Heap} {locs : List Loc} {ls : Array Slot} {o : Int32 × gS} (C : gC p s m args meth c cX12_readLine 4 RX12 ((some .int)) D (mtys cI cS) mord g Am) (O : sO (mcell g cI cS (msa aK)) mord g Am aK aV) (X : gX D (mcell g cI cS (msa aK)) mord g S s H locs) (hl : lv_has ls 4 [(0, .ref (g 99)), (1, .int x1), (2, .int x2)]) (hF : fX12_readLine_b18 N x1 x2 S = some o) : W p l e (rmd 60) s m args below meth c H locs 0 0 (gE below args s D (mtys cI cS) (mcell g cI cS (msa aK)) mord g (some (.int o.1)) o.2) (F0 m 18 ls []) := by
  unfold fX12_readLine_b18 at hF
  refine lv_iconst (v := 1) C.1.1 C.1.2.1 dX12_readLine_18 (by decide) ?_
  refine lv_goto (tgt := 66) C.1.1 C.1.2.1 dX12_readLine_19 (by decide) ?_
  exact bX12_readLine_66 C O X (lv_sub hl [0, 1, 2] rfl) hF
noncomputable def fX12_readLine_b0 (N : Nat) (x1 : Int32) (S : gS) : Option (Int32 × gS) := bnd (fX12_which N 0 S) fun q1 => (bnd (fX12_is N 34 q1.2) fun q2 => (if q2.1 = 0 then fX12_readLine_b22 N x1 q1.1 q2.2 else fX12_readLine_b18 N x1 q1.1 q2.2))
theorem bX12_readLine_0 {N : Nat} {x1 : Int32} {S : gS} {H : Heap} {locs : List Loc} {ls : Array Slot} {o : Int32 × gS} (C : gC p s m args meth c cX12_readLine 4 RX12 ((some .int)) D (mtys cI cS) mord g Am) (O : sO (mcell g cI cS (msa aK)) mord g Am aK aV) (X : gX D (mcell g cI cS (msa aK)) mord g S s H locs) (hl : lv_has ls 4 [(0, .ref (g 99)), (1, .int x1)]) (hF : fX12_readLine_b0 N x1 S = some o) : W p l e (rmd 60) s m args below meth c H locs 0 0 (gE below args s D (mtys cI cS) (mcell g cI cS (msa aK)) mord g (some (.int o.1)) o.2) (F0 m 0 ls []) := by
  unfold fX12_readLine_b0 at hF
  refine lv_aload_n C.1.1 C.1.2.1 dX12_readLine_0 rfl (lv_at hl 0 rfl) ?_
  refine lv_aload_n C.1.1 C.1.2.1 dX12_readLine_1 rfl (lv_at hl 0 rfl) ?_
  refine m_g0 C X dX12_readLine_2 ?_
  obtain ⟨q1, hq1, hF⟩ := bnd_some hF
  refine m_callVi C X vX12_which rfl (kX12_which O C.2.2.2.2.1 N 0 (rfl : mT 0 = true) S q1 hq1) (Nat.le_of_ble_eq_true rfl) (Nat.le_of_ble_eq_true rfl) (Nat.le_of_ble_eq_true rfl) (Nat.le_of_ble_eq_true rfl) rfl hl.1 rfl (Nat.le_of_ble_eq_true rfl) dX12_readLine_5 (fun H locs X => ?_)
  refine lv_istore_n (lv' := [(2, .int q1.1), (0, .ref (g 99)), (1, .int x1)]) C.1.1 C.1.2.1 dX12_readLine_8 rfl hl (by decide) rfl (fun ls hl => ?_)
  refine lv_aload_n C.1.1 C.1.2.1 dX12_readLine_9 rfl (lv_at hl 1 rfl) ?_
  refine s_ldc C O (i := 34) rfl dX12_readLine_10 ?_
  obtain ⟨q2, hq2, hF⟩ := bnd_some hF
  refine m_callVi C X vX12_is rfl (kX12_is O C.2.2.2.2.1 N 34 (rfl : sI 34 = true) q1.2 q2 hq2) (Nat.le_of_ble_eq_true rfl) (Nat.le_of_ble_eq_true rfl) (Nat.le_of_ble_eq_true rfl) (Nat.le_of_ble_eq_true rfl) rfl hl.1 rfl (Nat.le_of_ble_eq_true rfl) dX12_readLine_12 (fun H locs X => ?_)
  refine lv_if_eq (tgt := 22) C.1.1 C.1.2.1 dX12_readLine_15 (by decide) (fun h_z => ?_) (fun h_z => ?_)
  · rw [if_pos h_z] at hF
    exact bX12_readLine_22 C O X (lv_sub hl [1, 2, 0] rfl) hF
  · rw [if_neg h_z] at hF
    exact bX12_readLine_18 C O X (lv_sub hl [1, 2, 0] rfl) hF
noncomputable def fX12_readLine (N : Nat) (x1 : Int32) (S : gS) : Option (Int32 × gS) := fX12_readLine_b0 N x1 S
theorem kX12_readLine {l : Launch} {D : va_G} {g : Nat → Nat} {cI cS : ClassId} {Am : (Nat → Prop) → State → Heap → Prop} {aK aV : Nat → Nat} (O : sO (mcell g cI cS (msa aK)) mord g Am aK aV) (P : gAm Am) (N : Nat) (x1 : Int32) (S : gS) (o : Int32 × gS) (hF : fX12_readLine N x1 S = some o) : gM l yX12_readLine cX12_readLine 4 ((some .int)) 60 D (mtys cI cS) (mcell g cI cS (msa aK)) mord g Am [.ref (g 99), .int x1] S (some (.int o.1)) o.2 :=
  gM_of O.1 P (by decide) (Nat.le_of_ble_eq_true rfl) (fun p e s m args below meth c ls C X hl => bX12_readLine_0 C O X (lv_sub hl [0, 1] rfl) hF)
-- port
noncomputable def fX12_port_b146 (N : Nat) (S : gS) : Option (Int32 × gS) := bnd (fX12_takeOver N  S) fun q1 => (some (0, q1.2))
theorem bX12_port_146 {N : Nat} {S : gS} {H : Heap} {locs : List Loc} {ls : Array Slot} {o : Int32 × gS} (C : gC p s m args meth c cX12_port 3 RX12 ((some .int)) D (mtys cI cS) mord g Am) (O : sO (mcell g cI cS (msa aK)) mord g Am aK aV) (X : gX D (mcell g cI cS (msa aK)) mord g S s H locs) (hl : lv_has ls 3 [(0, .ref (g 99))]) (hF : fX12_port_b146 N S = some o) : W p l e (rmd 61) s m args below meth c H locs 0 0 (gE below args s D (mtys cI cS) (mcell g cI cS (msa aK)) mord g (some (.int o.1)) o.2) (F0 m 146 ls []) := by
  unfold fX12_port_b146 at hF
  refine lv_aload_n C.1.1 C.1.2.1 dX12_port_146 rfl (lv_at hl 0 rfl) ?_
  obtain ⟨q1, hq1, hF⟩ := bnd_some hF
  refine m_callV C X vX12_takeOver rfl (kX12_takeOver O.1 C.2.2.2.2.1 N   S q1 hq1) (Nat.le_of_ble_eq_true rfl) (Nat.le_of_ble_eq_true rfl) (Nat.le_of_ble_eq_true rfl) (Nat.le_of_ble_eq_true rfl) rfl hl.1 rfl (Nat.le_of_ble_eq_true rfl) dX12_port_147 (fun H locs X => ?_)
  refine lv_iconst (v := 0) C.1.1 C.1.2.1 dX12_port_150 (by decide) ?_
  cases hF
  exact g_iret C X dX12_port_151
noncomputable def fX12_port_b123 (N : Nat) (S : gS) : Option (Int32 × gS) := lt (sU S 99 29 (S 99 28)) fun S1 => (lt (sU S1 17 0 (((S1 17 0) + 1 : Int32))) fun S2 => (some (S2 99 27, S2)))
theorem bX12_port_123 {N : Nat} {S : gS} {H : Heap} {locs : List Loc} {ls : Array Slot} {o : Int32 × gS} (C : gC p s m args meth c cX12_port 3 RX12 ((some .int)) D (mtys cI cS) mord g Am) (O : sO (mcell g cI cS (msa aK)) mord g Am aK aV) (X : gX D (mcell g cI cS (msa aK)) mord g S s H locs) (hl : lv_has ls 3 [(0, .ref (g 99))]) (hF : fX12_port_b123 N S = some o) : W p l e (rmd 61) s m args below meth c H locs 0 0 (gE below args s D (mtys cI cS) (mcell g cI cS (msa aK)) mord g (some (.int o.1)) o.2) (F0 m 123 ls []) := by
  unfold fX12_port_b123 at hF
  refine lv_aload_n C.1.1 C.1.2.1 dX12_port_123 rfl (lv_at hl 0 rfl) ?_
  refine lv_aload_n C.1.1 C.1.2.1 dX12_port_124 rfl (lv_at hl 0 rfl) ?_
  refine m_g28 C X dX12_port_125 ?_
  obtain ⟨S1, eS1, hF⟩ := lt_some hF
  refine m_p29 C O.1 X eS1 dX12_port_128 (fun H locs X => ?_)
  refine lv_aload_n C.1.1 C.1.2.1 dX12_port_131 rfl (lv_at hl 0 rfl) ?_
  refine m_g17 C X dX12_port_132 ?_
  refine lv_iconst (v := 0) C.1.1 C.1.2.1 dX12_port_135 (by decide) ?_
  refine lv_dup2_11 C.1.1 C.1.2.1 dX12_port_136 rfl rfl ?_
  refine m_r17 C X (j := 0) (inb_vp (by decide)) (by decide) dX12_port_137 ?_
  refine lv_iconst (v := 1) C.1.1 C.1.2.1 dX12_port_138 (by decide) ?_
  refine lv_iadd C.1.1 C.1.2.1 dX12_port_139 ?_
  obtain ⟨S2, eS2, hF⟩ := lt_some hF
  refine m_w17 C O.1 X (j := 0) (inb_vp (by decide)) (by decide) eS2 dX12_port_140 (fun H locs X => ?_)
  refine lv_aload_n C.1.1 C.1.2.1 dX12_port_141 rfl (lv_at hl 0 rfl) ?_
  refine m_g27 C X dX12_port_142 ?_
  cases hF
  exact g_iret C X dX12_port_145
noncomputable def fX12_port_b116 (N : Nat) (S : gS) : Option (Int32 × gS) := if (S 99 27) = 0 then fX12_port_b146 N S else fX12_port_b123 N S
theorem bX12_port_116 {N : Nat} {S : gS} {H : Heap} {locs : List Loc} {ls : Array Slot} {o : Int32 × gS} (C : gC p s m args meth c cX12_port 3 RX12 ((some .int)) D (mtys cI cS) mord g Am) (O : sO (mcell g cI cS (msa aK)) mord g Am aK aV) (X : gX D (mcell g cI cS (msa aK)) mord g S s H locs) (hl : lv_has ls 3 [(0, .ref (g 99))]) (hF : fX12_port_b116 N S = some o) : W p l e (rmd 61) s m args below meth c H locs 0 0 (gE below args s D (mtys cI cS) (mcell g cI cS (msa aK)) mord g (some (.int o.1)) o.2) (F0 m 116 ls []) := by
  unfold fX12_port_b116 at hF
  refine lv_aload_n C.1.1 C.1.2.1 dX12_port_116 rfl (lv_at hl 0 rfl) ?_
  refine m_g27 C X dX12_port_117 ?_
  refine lv_if_eq (tgt := 146) C.1.1 C.1.2.1 dX12_port_120 (by decide) (fun h_z => ?_) (fun h_z => ?_)
  · rw [if_pos h_z] at hF
    exact bX12_port_146 C O X (lv_sub hl [0] rfl) hF
  · rw [if_neg h_z] at hF
    exact bX12_port_123 C O X (lv_sub hl [0] rfl) hF
noncomputable def fX12_port_b107 (N : Nat) (r93 : Int32 → gS → Option (Int32 × gS)) (x2 : Int32) (S : gS) : Option (Int32 × gS) := bnd (fX12_readLine N x2 S) fun q1 => (r93 q1.1 q1.2)
theorem bX12_port_107 {N : Nat} {r93 : Int32 → gS → Option (Int32 × gS)} {x2 : Int32} {S : gS} {H : Heap} {locs : List Loc} {ls : Array Slot} {o : Int32 × gS} (C : gC p s m args meth c cX12_port 3 RX12 ((some .int)) D (mtys cI cS) mord g Am) (O : sO (mcell g cI cS (msa aK)) mord g Am aK aV) (K93 : ∀ (x2 : Int32) (S : gS) (H : Heap) (locs : List Loc) (ls : Array Slot), gX D (mcell g cI cS (msa aK)) mord g S s H locs → lv_has ls 3 [(0, .ref (g 99)), (2, .int x2)] → r93 x2 S = some o → W p l e (rmd 61) s m args below meth c H locs 0 0 (gE below args s D (mtys cI cS) (mcell g cI cS (msa aK)) mord g (some (.int o.1)) o.2) (F0 m 93 ls [])) (X : gX D (mcell g cI cS (msa aK)) mord g S s H locs) (hl : lv_has ls 3 [(0, .ref (g 99)), (2, .int x2)]) (hF : fX12_port_b107 N r93 x2 S = some o) : W p l e (rmd 61) s m args below meth c H locs 0 0 (gE below args s D (mtys cI cS) (mcell g cI cS (msa aK)) mord g (some (.int o.1)) o.2) (F0 m 107 ls []) := by
  unfold fX12_port_b107 at hF
  refine lv_aload_n C.1.1 C.1.2.1 dX12_port_107 rfl (lv_at hl 0 rfl) ?_
  refine lv_iload_n C.1.1 C.1.2.1 dX12_port_108 rfl (lv_at hl 1 rfl) ?_
  obtain ⟨q1, hq1, hF⟩ := bnd_some hF
  refine m_callVi C X vX12_readLine rfl (kX12_readLine O C.2.2.2.2.1 N x2  S q1 hq1) (Nat.le_of_ble_eq_true rfl) (Nat.le_of_ble_eq_true rfl) (Nat.le_of_ble_eq_true rfl) (Nat.le_of_ble_eq_true rfl) rfl hl.1 rfl (Nat.le_of_ble_eq_true rfl) dX12_port_109 (fun H locs X => ?_)
  refine lv_istore_n (lv' := [(2, .int q1.1), (0, .ref (g 99))]) C.1.1 C.1.2.1 dX12_port_112 rfl hl (by decide) rfl (fun ls hl => ?_)
  refine lv_goto (tgt := 93) C.1.1 C.1.2.1 dX12_port_113 (by decide) ?_
  exact K93 _ _ _ _ _ X (lv_sub hl [1, 0] rfl) hF
noncomputable def fX12_port_b100 (N : Nat) (r93 : Int32 → gS → Option (Int32 × gS)) (x2 : Int32) (S : gS) : Option (Int32 × gS) := if (S 99 23) = 0 then fX12_port_b116 N S else fX12_port_b107 N r93 x2 S
theorem bX12_port_100 {N : Nat} {r93 : Int32 → gS → Option (Int32 × gS)} {x2 : Int32} {S : gS} {H : Heap} {locs : List Loc} {ls : Array Slot} {o : Int32 × gS} (C : gC p s m args meth c cX12_port 3 RX12 ((some .int)) D (mtys cI cS) mord g Am) (O : sO (mcell g cI cS (msa aK)) mord g Am aK aV) (K93 : ∀ (x2 : Int32) (S : gS) (H : Heap) (locs : List Loc) (ls : Array Slot), gX D (mcell g cI cS (msa aK)) mord g S s H locs → lv_has ls 3 [(0, .ref (g 99)), (2, .int x2)] → r93 x2 S = some o → W p l e (rmd 61) s m args below meth c H locs 0 0 (gE below args s D (mtys cI cS) (mcell g cI cS (msa aK)) mord g (some (.int o.1)) o.2) (F0 m 93 ls [])) (X : gX D (mcell g cI cS (msa aK)) mord g S s H locs) (hl : lv_has ls 3 [(0, .ref (g 99)), (2, .int x2)]) (hF : fX12_port_b100 N r93 x2 S = some o) : W p l e (rmd 61) s m args below meth c H locs 0 0 (gE below args s D (mtys cI cS) (mcell g cI cS (msa aK)) mord g (some (.int o.1)) o.2) (F0 m 100 ls []) := by
  unfold fX12_port_b100 at hF
  refine lv_aload_n C.1.1 C.1.2.1 dX12_port_100 rfl (lv_at hl 0 rfl) ?_
  refine m_g23 C X dX12_port_101 ?_
  refine lv_if_eq (tgt := 116) C.1.1 C.1.2.1 dX12_port_104 (by decide) (fun h_z => ?_) (fun h_z => ?_)
  · rw [if_pos h_z] at hF
    exact bX12_port_116 C O X (lv_sub hl [0] rfl) hF
  · rw [if_neg h_z] at hF
    exact bX12_port_107 C O K93 X (lv_sub hl [0, 1] rfl) hF
noncomputable def fX12_port_b93 (N : Nat) (r93 : Int32 → gS → Option (Int32 × gS)) (x2 : Int32) (S : gS) : Option (Int32 × gS) := if (S 99 27) = 0 then fX12_port_b100 N r93 x2 S else fX12_port_b116 N S
theorem bX12_port_93 {N : Nat} {r93 : Int32 → gS → Option (Int32 × gS)} {x2 : Int32} {S : gS} {H : Heap} {locs : List Loc} {ls : Array Slot} {o : Int32 × gS} (C : gC p s m args meth c cX12_port 3 RX12 ((some .int)) D (mtys cI cS) mord g Am) (O : sO (mcell g cI cS (msa aK)) mord g Am aK aV) (K93 : ∀ (x2 : Int32) (S : gS) (H : Heap) (locs : List Loc) (ls : Array Slot), gX D (mcell g cI cS (msa aK)) mord g S s H locs → lv_has ls 3 [(0, .ref (g 99)), (2, .int x2)] → r93 x2 S = some o → W p l e (rmd 61) s m args below meth c H locs 0 0 (gE below args s D (mtys cI cS) (mcell g cI cS (msa aK)) mord g (some (.int o.1)) o.2) (F0 m 93 ls [])) (X : gX D (mcell g cI cS (msa aK)) mord g S s H locs) (hl : lv_has ls 3 [(0, .ref (g 99)), (2, .int x2)]) (hF : fX12_port_b93 N r93 x2 S = some o) : W p l e (rmd 61) s m args below meth c H locs 0 0 (gE below args s D (mtys cI cS) (mcell g cI cS (msa aK)) mord g (some (.int o.1)) o.2) (F0 m 93 ls []) := by
  unfold fX12_port_b93 at hF
  refine lv_aload_n C.1.1 C.1.2.1 dX12_port_93 rfl (lv_at hl 0 rfl) ?_
  refine m_g27 C X dX12_port_94 ?_
  refine lv_if_ne (tgt := 116) C.1.1 C.1.2.1 dX12_port_97 (by decide) (fun h_z => ?_) (fun h_z => ?_)
  · rw [if_neg h_z] at hF
    exact bX12_port_116 C O X (lv_sub hl [0] rfl) hF
  · rw [if_pos h_z] at hF
    exact bX12_port_100 C O K93 X (lv_sub hl [0, 1] rfl) hF
noncomputable def fX12_port_h93 (N : Nat) : Nat → Int32 → gS → Option (Int32 × gS)
  | 0, _, _ => none
  | n + 1, x2, S => fX12_port_b93 N (fX12_port_h93 N n) x2 S
theorem hX12_port_93 {N : Nat} {o : Int32 × gS} (C : gC p s m args meth c cX12_port 3 RX12 ((some .int)) D (mtys cI cS) mord g Am) (O : sO (mcell g cI cS (msa aK)) mord g Am aK aV) : ∀ (n : Nat) (x2 : Int32) (S : gS) (H : Heap) (locs : List Loc) (ls : Array Slot), gX D (mcell g cI cS (msa aK)) mord g S s H locs → lv_has ls 3 [(0, .ref (g 99)), (2, .int x2)] → fX12_port_h93 N n x2 S = some o → W p l e (rmd 61) s m args below meth c H locs 0 0 (gE below args s D (mtys cI cS) (mcell g cI cS (msa aK)) mord g (some (.int o.1)) o.2) (F0 m 93 ls []) := by
  intro n
  induction n with
  | zero =>
    intro x2 S H locs ls X hl hF
    exact absurd (show (none : Option (Int32 × gS)) = some o from hF) (by simp)
  | succ n ih =>
    intro x2 S H locs ls X hl hF
    have hF : fX12_port_b93 N (fX12_port_h93 N n) x2 S = some o := hF
    exact bX12_port_93 C O ih X hl hF
noncomputable def fX12_port_b87 (N : Nat) (S : gS) : Option (Int32 × gS) := bnd (fX12_stepOn N  S) fun q1 => (fX12_port_h93 N N 0 q1.2)
theorem bX12_port_87 {N : Nat} {S : gS} {H : Heap} {locs : List Loc} {ls : Array Slot} {o : Int32 × gS} (C : gC p s m args meth c cX12_port 3 RX12 ((some .int)) D (mtys cI cS) mord g Am) (O : sO (mcell g cI cS (msa aK)) mord g Am aK aV) (X : gX D (mcell g cI cS (msa aK)) mord g S s H locs) (hl : lv_has ls 3 [(0, .ref (g 99))]) (hF : fX12_port_b87 N S = some o) : W p l e (rmd 61) s m args below meth c H locs 0 0 (gE below args s D (mtys cI cS) (mcell g cI cS (msa aK)) mord g (some (.int o.1)) o.2) (F0 m 87 ls []) := by
  unfold fX12_port_b87 at hF
  refine lv_aload_n C.1.1 C.1.2.1 dX12_port_87 rfl (lv_at hl 0 rfl) ?_
  obtain ⟨q1, hq1, hF⟩ := bnd_some hF
  refine m_callV C X vX12_stepOn rfl (kX12_stepOn O.1 C.2.2.2.2.1 N   S q1 hq1) (Nat.le_of_ble_eq_true rfl) (Nat.le_of_ble_eq_true rfl) (Nat.le_of_ble_eq_true rfl) (Nat.le_of_ble_eq_true rfl) rfl hl.1 rfl (Nat.le_of_ble_eq_true rfl) dX12_port_88 (fun H locs X => ?_)
  refine lv_iconst (v := 0) C.1.1 C.1.2.1 dX12_port_91 (by decide) ?_
  refine lv_istore_n (lv' := [(2, .int 0), (0, .ref (g 99))]) C.1.1 C.1.2.1 dX12_port_92 rfl hl (by decide) rfl (fun ls hl => ?_)
  exact hX12_port_93 C O N _ _ _ _ _ X (lv_sub hl [1, 0] rfl) hF
noncomputable def fX12_port_b80 (N : Nat) (r55 : Int32 → gS → Option (Int32 × gS)) (x2 : Int32) (t1 : Int32) (t2 : Int32) (S : gS) : Option (Int32 × gS) := chk (inb t1 (12)) (lt (sU S 5 (Int32.toNatClampNeg t1) t2) fun S1 => (r55 ((x2 + 1 : Int32)) S1))
theorem bX12_port_80 {N : Nat} {r55 : Int32 → gS → Option (Int32 × gS)} {x2 : Int32} {t1 : Int32} {t2 : Int32} {S : gS} {H : Heap} {locs : List Loc} {ls : Array Slot} {o : Int32 × gS} (C : gC p s m args meth c cX12_port 3 RX12 ((some .int)) D (mtys cI cS) mord g Am) (O : sO (mcell g cI cS (msa aK)) mord g Am aK aV) (K55 : ∀ (x2 : Int32) (S : gS) (H : Heap) (locs : List Loc) (ls : Array Slot), gX D (mcell g cI cS (msa aK)) mord g S s H locs → lv_has ls 3 [(0, .ref (g 99)), (2, .int x2)] → r55 x2 S = some o → W p l e (rmd 61) s m args below meth c H locs 0 0 (gE below args s D (mtys cI cS) (mcell g cI cS (msa aK)) mord g (some (.int o.1)) o.2) (F0 m 55 ls [])) (X : gX D (mcell g cI cS (msa aK)) mord g S s H locs) (hl : lv_has ls 3 [(0, .ref (g 99)), (2, .int x2)]) (hF : fX12_port_b80 N r55 x2 t1 t2 S = some o) : W p l e (rmd 61) s m args below meth c H locs 0 0 (gE below args s D (mtys cI cS) (mcell g cI cS (msa aK)) mord g (some (.int o.1)) o.2) (F0 m 80 ls [.int t2, .int t1, .ref (g 5)]) := by
  unfold fX12_port_b80 at hF
  obtain ⟨h_1, hF⟩ := chk_some hF
  obtain ⟨S1, eS1, hF⟩ := lt_some hF
  refine m_w5 C O.1 X  (inb_vp h_1) rfl eS1 dX12_port_80 (fun H locs X => ?_)
  refine lv_iinc (v := (x2 + 1 : Int32)) (lv' := [(2, .int ((x2 + 1 : Int32))), (0, .ref (g 99))]) C.1.1 C.1.2.1 dX12_port_81 hl (k := 1) rfl rfl (by decide) rfl (fun ls hl => ?_)
  refine lv_goto (tgt := 55) C.1.1 C.1.2.1 dX12_port_84 (by decide) ?_
  exact K55 _ _ _ _ _ X (lv_sub hl [1, 0] rfl) hF
noncomputable def fX12_port_b79 (N : Nat) (r55 : Int32 → gS → Option (Int32 × gS)) (x2 : Int32) (t1 : Int32) (S : gS) : Option (Int32 × gS) := fX12_port_b80 N r55 x2 t1 0 S
theorem bX12_port_79 {N : Nat} {r55 : Int32 → gS → Option (Int32 × gS)} {x2 : Int32} {t1 : Int32} {S : gS} {H : Heap} {locs : List Loc} {ls : Array Slot} {o : Int32 × gS} (C : gC p s m args meth c cX12_port 3 RX12 ((some .int)) D (mtys cI cS) mord g Am) (O : sO (mcell g cI cS (msa aK)) mord g Am aK aV) (K55 : ∀ (x2 : Int32) (S : gS) (H : Heap) (locs : List Loc) (ls : Array Slot), gX D (mcell g cI cS (msa aK)) mord g S s H locs → lv_has ls 3 [(0, .ref (g 99)), (2, .int x2)] → r55 x2 S = some o → W p l e (rmd 61) s m args below meth c H locs 0 0 (gE below args s D (mtys cI cS) (mcell g cI cS (msa aK)) mord g (some (.int o.1)) o.2) (F0 m 55 ls [])) (X : gX D (mcell g cI cS (msa aK)) mord g S s H locs) (hl : lv_has ls 3 [(0, .ref (g 99)), (2, .int x2)]) (hF : fX12_port_b79 N r55 x2 t1 S = some o) : W p l e (rmd 61) s m args below meth c H locs 0 0 (gE below args s D (mtys cI cS) (mcell g cI cS (msa aK)) mord g (some (.int o.1)) o.2) (F0 m 79 ls [.int t1, .ref (g 5)]) := by
  unfold fX12_port_b79 at hF
  refine lv_iconst (v := 0) C.1.1 C.1.2.1 dX12_port_79 (by decide) ?_
  exact bX12_port_80 C O K55 X (lv_sub hl [0, 1] rfl) hF
noncomputable def fX12_port_b74 (N : Nat) (r55 : Int32 → gS → Option (Int32 × gS)) (x2 : Int32) (t1 : Int32) (S : gS) : Option (Int32 × gS) := fX12_port_b80 N r55 x2 t1 70 S
theorem bX12_port_74 {N : Nat} {r55 : Int32 → gS → Option (Int32 × gS)} {x2 : Int32} {t1 : Int32} {S : gS} {H : Heap} {locs : List Loc} {ls : Array Slot} {o : Int32 × gS} (C : gC p s m args meth c cX12_port 3 RX12 ((some .int)) D (mtys cI cS) mord g Am) (O : sO (mcell g cI cS (msa aK)) mord g Am aK aV) (K55 : ∀ (x2 : Int32) (S : gS) (H : Heap) (locs : List Loc) (ls : Array Slot), gX D (mcell g cI cS (msa aK)) mord g S s H locs → lv_has ls 3 [(0, .ref (g 99)), (2, .int x2)] → r55 x2 S = some o → W p l e (rmd 61) s m args below meth c H locs 0 0 (gE below args s D (mtys cI cS) (mcell g cI cS (msa aK)) mord g (some (.int o.1)) o.2) (F0 m 55 ls [])) (X : gX D (mcell g cI cS (msa aK)) mord g S s H locs) (hl : lv_has ls 3 [(0, .ref (g 99)), (2, .int x2)]) (hF : fX12_port_b74 N r55 x2 t1 S = some o) : W p l e (rmd 61) s m args below meth c H locs 0 0 (gE below args s D (mtys cI cS) (mcell g cI cS (msa aK)) mord g (some (.int o.1)) o.2) (F0 m 74 ls [.int t1, .ref (g 5)]) := by
  unfold fX12_port_b74 at hF
  refine lv_bipush (v := 70) C.1.1 C.1.2.1 dX12_port_74 (by decide) ?_
  refine lv_goto (tgt := 80) C.1.1 C.1.2.1 dX12_port_76 (by decide) ?_
  exact bX12_port_80 C O K55 X (lv_sub hl [0, 1] rfl) hF
noncomputable def fX12_port_b61 (N : Nat) (r55 : Int32 → gS → Option (Int32 × gS)) (x2 : Int32) (S : gS) : Option (Int32 × gS) := if x2 = 2 then fX12_port_b74 N r55 x2 ((6 + x2 : Int32)) S else fX12_port_b79 N r55 x2 ((6 + x2 : Int32)) S
theorem bX12_port_61 {N : Nat} {r55 : Int32 → gS → Option (Int32 × gS)} {x2 : Int32} {S : gS} {H : Heap} {locs : List Loc} {ls : Array Slot} {o : Int32 × gS} (C : gC p s m args meth c cX12_port 3 RX12 ((some .int)) D (mtys cI cS) mord g Am) (O : sO (mcell g cI cS (msa aK)) mord g Am aK aV) (K55 : ∀ (x2 : Int32) (S : gS) (H : Heap) (locs : List Loc) (ls : Array Slot), gX D (mcell g cI cS (msa aK)) mord g S s H locs → lv_has ls 3 [(0, .ref (g 99)), (2, .int x2)] → r55 x2 S = some o → W p l e (rmd 61) s m args below meth c H locs 0 0 (gE below args s D (mtys cI cS) (mcell g cI cS (msa aK)) mord g (some (.int o.1)) o.2) (F0 m 55 ls [])) (X : gX D (mcell g cI cS (msa aK)) mord g S s H locs) (hl : lv_has ls 3 [(0, .ref (g 99)), (2, .int x2)]) (hF : fX12_port_b61 N r55 x2 S = some o) : W p l e (rmd 61) s m args below meth c H locs 0 0 (gE below args s D (mtys cI cS) (mcell g cI cS (msa aK)) mord g (some (.int o.1)) o.2) (F0 m 61 ls []) := by
  unfold fX12_port_b61 at hF
  refine lv_aload_n C.1.1 C.1.2.1 dX12_port_61 rfl (lv_at hl 0 rfl) ?_
  refine m_g5 C X dX12_port_62 ?_
  refine lv_bipush (v := 6) C.1.1 C.1.2.1 dX12_port_65 (by decide) ?_
  refine lv_iload_n C.1.1 C.1.2.1 dX12_port_67 rfl (lv_at hl 1 rfl) ?_
  refine lv_iadd C.1.1 C.1.2.1 dX12_port_68 ?_
  refine lv_iload_n C.1.1 C.1.2.1 dX12_port_69 rfl (lv_at hl 1 rfl) ?_
  refine lv_iconst (v := 2) C.1.1 C.1.2.1 dX12_port_70 (by decide) ?_
  refine lv_icmp_ne (tgt := 79) C.1.1 C.1.2.1 dX12_port_71 (by decide) (fun h_z => ?_) (fun h_z => ?_)
  · rw [if_neg h_z] at hF
    exact bX12_port_79 C O K55 X (lv_sub hl [0, 1] rfl) hF
  · rw [if_pos h_z] at hF
    exact bX12_port_74 C O K55 X (lv_sub hl [0, 1] rfl) hF
noncomputable def fX12_port_b55 (N : Nat) (r55 : Int32 → gS → Option (Int32 × gS)) (x2 : Int32) (S : gS) : Option (Int32 × gS) := if 6 ≤ x2 then fX12_port_b87 N S else fX12_port_b61 N r55 x2 S
theorem bX12_port_55 {N : Nat} {r55 : Int32 → gS → Option (Int32 × gS)} {x2 : Int32} {S : gS} {H : Heap} {locs : List Loc} {ls : Array Slot} {o : Int32 × gS} (C : gC p s m args meth c cX12_port 3 RX12 ((some .int)) D (mtys cI cS) mord g Am) (O : sO (mcell g cI cS (msa aK)) mord g Am aK aV) (K55 : ∀ (x2 : Int32) (S : gS) (H : Heap) (locs : List Loc) (ls : Array Slot), gX D (mcell g cI cS (msa aK)) mord g S s H locs → lv_has ls 3 [(0, .ref (g 99)), (2, .int x2)] → r55 x2 S = some o → W p l e (rmd 61) s m args below meth c H locs 0 0 (gE below args s D (mtys cI cS) (mcell g cI cS (msa aK)) mord g (some (.int o.1)) o.2) (F0 m 55 ls [])) (X : gX D (mcell g cI cS (msa aK)) mord g S s H locs) (hl : lv_has ls 3 [(0, .ref (g 99)), (2, .int x2)]) (hF : fX12_port_b55 N r55 x2 S = some o) : W p l e (rmd 61) s m args below meth c H locs 0 0 (gE below args s D (mtys cI cS) (mcell g cI cS (msa aK)) mord g (some (.int o.1)) o.2) (F0 m 55 ls []) := by
  unfold fX12_port_b55 at hF
  refine lv_iload_n C.1.1 C.1.2.1 dX12_port_55 rfl (lv_at hl 1 rfl) ?_
  refine lv_bipush (v := 6) C.1.1 C.1.2.1 dX12_port_56 (by decide) ?_
  refine lv_icmp_ge (tgt := 87) C.1.1 C.1.2.1 dX12_port_58 (by decide) (fun h_z => ?_) (fun h_z => ?_)
  · rw [if_pos h_z] at hF
    exact bX12_port_87 C O X (lv_sub hl [0] rfl) hF
  · rw [if_neg h_z] at hF
    exact bX12_port_61 C O K55 X (lv_sub hl [0, 1] rfl) hF
noncomputable def fX12_port_h55 (N : Nat) : Nat → Int32 → gS → Option (Int32 × gS)
  | 0, _, _ => none
  | n + 1, x2, S => fX12_port_b55 N (fX12_port_h55 N n) x2 S
theorem hX12_port_55 {N : Nat} {o : Int32 × gS} (C : gC p s m args meth c cX12_port 3 RX12 ((some .int)) D (mtys cI cS) mord g Am) (O : sO (mcell g cI cS (msa aK)) mord g Am aK aV) : ∀ (n : Nat) (x2 : Int32) (S : gS) (H : Heap) (locs : List Loc) (ls : Array Slot), gX D (mcell g cI cS (msa aK)) mord g S s H locs → lv_has ls 3 [(0, .ref (g 99)), (2, .int x2)] → fX12_port_h55 N n x2 S = some o → W p l e (rmd 61) s m args below meth c H locs 0 0 (gE below args s D (mtys cI cS) (mcell g cI cS (msa aK)) mord g (some (.int o.1)) o.2) (F0 m 55 ls []) := by
  intro n
  induction n with
  | zero =>
    intro x2 S H locs ls X hl hF
    exact absurd (show (none : Option (Int32 × gS)) = some o from hF) (by simp)
  | succ n ih =>
    intro x2 S H locs ls X hl hF
    have hF : fX12_port_b55 N (fX12_port_h55 N n) x2 S = some o := hF
    exact bX12_port_55 C O ih X hl hF
noncomputable def fX12_port_b23 (N : Nat) (x1 : Int32) (S : gS) : Option (Int32 × gS) := lt (sU S 99 20 0) fun S1 => (lt (sU S1 99 22 x1) fun S2 => (lt (sU S2 99 21 0) fun S3 => (lt (sU S3 99 27 0) fun S4 => (lt (sU S4 99 30 0) fun S5 => (lt (sU S5 99 29 ((-1))) fun S6 => (fX12_port_h55 N N 0 S6))))))
theorem bX12_port_23 {N : Nat} {x1 : Int32} {S : gS} {H : Heap} {locs : List Loc} {ls : Array Slot} {o : Int32 × gS} (C : gC p s m args meth c cX12_port 3 RX12 ((some .int)) D (mtys cI cS) mord g Am) (O : sO (mcell g cI cS (msa aK)) mord g Am aK aV) (X : gX D (mcell g cI cS (msa aK)) mord g S s H locs) (hl : lv_has ls 3 [(0, .ref (g 99)), (1, .int x1)]) (hF : fX12_port_b23 N x1 S = some o) : W p l e (rmd 61) s m args below meth c H locs 0 0 (gE below args s D (mtys cI cS) (mcell g cI cS (msa aK)) mord g (some (.int o.1)) o.2) (F0 m 23 ls []) := by
  unfold fX12_port_b23 at hF
  refine lv_aload_n C.1.1 C.1.2.1 dX12_port_23 rfl (lv_at hl 0 rfl) ?_
  refine lv_iconst (v := 0) C.1.1 C.1.2.1 dX12_port_24 (by decide) ?_
  obtain ⟨S1, eS1, hF⟩ := lt_some hF
  refine m_p20 C O.1 X eS1 dX12_port_25 (fun H locs X => ?_)
  refine lv_aload_n C.1.1 C.1.2.1 dX12_port_28 rfl (lv_at hl 0 rfl) ?_
  refine lv_iload_n C.1.1 C.1.2.1 dX12_port_29 rfl (lv_at hl 1 rfl) ?_
  obtain ⟨S2, eS2, hF⟩ := lt_some hF
  refine m_p22 C O.1 X eS2 dX12_port_30 (fun H locs X => ?_)
  refine lv_aload_n C.1.1 C.1.2.1 dX12_port_33 rfl (lv_at hl 0 rfl) ?_
  refine lv_iconst (v := 0) C.1.1 C.1.2.1 dX12_port_34 (by decide) ?_
  obtain ⟨S3, eS3, hF⟩ := lt_some hF
  refine m_p21 C O.1 X eS3 dX12_port_35 (fun H locs X => ?_)
  refine lv_aload_n C.1.1 C.1.2.1 dX12_port_38 rfl (lv_at hl 0 rfl) ?_
  refine lv_iconst (v := 0) C.1.1 C.1.2.1 dX12_port_39 (by decide) ?_
  obtain ⟨S4, eS4, hF⟩ := lt_some hF
  refine m_p27 C O.1 X eS4 dX12_port_40 (fun H locs X => ?_)
  refine lv_aload_n C.1.1 C.1.2.1 dX12_port_43 rfl (lv_at hl 0 rfl) ?_
  refine lv_iconst (v := 0) C.1.1 C.1.2.1 dX12_port_44 (by decide) ?_
  obtain ⟨S5, eS5, hF⟩ := lt_some hF
  refine m_p30 C O.1 X eS5 dX12_port_45 (fun H locs X => ?_)
  refine lv_aload_n C.1.1 C.1.2.1 dX12_port_48 rfl (lv_at hl 0 rfl) ?_
  refine lv_iconst (v := (-1)) C.1.1 C.1.2.1 dX12_port_49 (by decide) ?_
  obtain ⟨S6, eS6, hF⟩ := lt_some hF
  refine m_p29 C O.1 X eS6 dX12_port_50 (fun H locs X => ?_)
  refine lv_iconst (v := 0) C.1.1 C.1.2.1 dX12_port_53 (by decide) ?_
  refine lv_istore_n (lv' := [(2, .int 0), (0, .ref (g 99)), (1, .int x1)]) C.1.1 C.1.2.1 dX12_port_54 rfl hl (by decide) rfl (fun ls hl => ?_)
  exact hX12_port_55 C O N _ _ _ _ _ X (lv_sub hl [1, 0] rfl) hF
noncomputable def fX12_port_b17 (N : Nat) (S : gS) : Option (Int32 × gS) := bnd (fX12_fail N 1 S) fun q1 => (some (q1.1, q1.2))
theorem bX12_port_17 {N : Nat} {S : gS} {H : Heap} {locs : List Loc} {ls : Array Slot} {o : Int32 × gS} (C : gC p s m args meth c cX12_port 3 RX12 ((some .int)) D (mtys cI cS) mord g Am) (O : sO (mcell g cI cS (msa aK)) mord g Am aK aV) (X : gX D (mcell g cI cS (msa aK)) mord g S s H locs) (hl : lv_has ls 3 [(0, .ref (g 99))]) (hF : fX12_port_b17 N S = some o) : W p l e (rmd 61) s m args below meth c H locs 0 0 (gE below args s D (mtys cI cS) (mcell g cI cS (msa aK)) mord g (some (.int o.1)) o.2) (F0 m 17 ls []) := by
  unfold fX12_port_b17 at hF
  refine lv_aload_n C.1.1 C.1.2.1 dX12_port_17 rfl (lv_at hl 0 rfl) ?_
  refine lv_iconst (v := 1) C.1.1 C.1.2.1 dX12_port_18 (by decide) ?_
  obtain ⟨q1, hq1, hF⟩ := bnd_some hF
  refine m_callVi C X vX12_fail rfl (kX12_fail O.1 C.2.2.2.2.1 N 1  S q1 hq1) (Nat.le_of_ble_eq_true rfl) (Nat.le_of_ble_eq_true rfl) (Nat.le_of_ble_eq_true rfl) (Nat.le_of_ble_eq_true rfl) rfl hl.1 rfl (Nat.le_of_ble_eq_true rfl) dX12_port_19 (fun H locs X => ?_)
  cases hF
  exact g_iret C X dX12_port_22
noncomputable def fX12_port_b9 (N : Nat) (x1 : Int32) (S : gS) : Option (Int32 × gS) := if x1 ≤ (S 99 20) then fX12_port_b23 N x1 S else fX12_port_b17 N S
theorem bX12_port_9 {N : Nat} {x1 : Int32} {S : gS} {H : Heap} {locs : List Loc} {ls : Array Slot} {o : Int32 × gS} (C : gC p s m args meth c cX12_port 3 RX12 ((some .int)) D (mtys cI cS) mord g Am) (O : sO (mcell g cI cS (msa aK)) mord g Am aK aV) (X : gX D (mcell g cI cS (msa aK)) mord g S s H locs) (hl : lv_has ls 3 [(0, .ref (g 99)), (1, .int x1)]) (hF : fX12_port_b9 N x1 S = some o) : W p l e (rmd 61) s m args below meth c H locs 0 0 (gE below args s D (mtys cI cS) (mcell g cI cS (msa aK)) mord g (some (.int o.1)) o.2) (F0 m 9 ls []) := by
  unfold fX12_port_b9 at hF
  refine lv_iload_n C.1.1 C.1.2.1 dX12_port_9 rfl (lv_at hl 1 rfl) ?_
  refine lv_aload_n C.1.1 C.1.2.1 dX12_port_10 rfl (lv_at hl 0 rfl) ?_
  refine m_g20 C X dX12_port_11 ?_
  refine lv_icmp_le (tgt := 23) C.1.1 C.1.2.1 dX12_port_14 (by decide) (fun h_z => ?_) (fun h_z => ?_)
  · rw [if_pos h_z] at hF
    exact bX12_port_23 C O X (lv_sub hl [0, 1] rfl) hF
  · rw [if_neg h_z] at hF
    exact bX12_port_17 C O X (lv_sub hl [0] rfl) hF
noncomputable def fX12_port_b0 (N : Nat) (x1 : Int32) (S : gS) : Option (Int32 × gS) := lt (sU S 99 4 0) fun S1 => (if x1 < 0 then fX12_port_b17 N S1 else fX12_port_b9 N x1 S1)
theorem bX12_port_0 {N : Nat} {x1 : Int32} {S : gS} {H : Heap} {locs : List Loc} {ls : Array Slot} {o : Int32 × gS} (C : gC p s m args meth c cX12_port 3 RX12 ((some .int)) D (mtys cI cS) mord g Am) (O : sO (mcell g cI cS (msa aK)) mord g Am aK aV) (X : gX D (mcell g cI cS (msa aK)) mord g S s H locs) (hl : lv_has ls 3 [(0, .ref (g 99)), (1, .int x1)]) (hF : fX12_port_b0 N x1 S = some o) : W p l e (rmd 61) s m args below meth c H locs 0 0 (gE below args s D (mtys cI cS) (mcell g cI cS (msa aK)) mord g (some (.int o.1)) o.2) (F0 m 0 ls []) := by
  unfold fX12_port_b0 at hF
  refine lv_aload_n C.1.1 C.1.2.1 dX12_port_0 rfl (lv_at hl 0 rfl) ?_
  refine lv_iconst (v := 0) C.1.1 C.1.2.1 dX12_port_1 (by decide) ?_
  obtain ⟨S1, eS1, hF⟩ := lt_some hF
  refine m_p4 C O.1 X eS1 dX12_port_2 (fun H locs X => ?_)
  refine lv_iload_n C.1.1 C.1.2.1 dX12_port_5 rfl (lv_at hl 1 rfl) ?_
  refine lv_if_lt (tgt := 17) C.1.1 C.1.2.1 dX12_port_6 (by decide) (fun h_z => ?_) (fun h_z => ?_)
  · rw [if_pos h_z] at hF
    exact bX12_port_17 C O X (lv_sub hl [0] rfl) hF
  · rw [if_neg h_z] at hF
    exact bX12_port_9 C O X (lv_sub hl [0, 1] rfl) hF
noncomputable def fX12_port (N : Nat) (x1 : Int32) (S : gS) : Option (Int32 × gS) := fX12_port_b0 N x1 S
theorem kX12_port {l : Launch} {D : va_G} {g : Nat → Nat} {cI cS : ClassId} {Am : (Nat → Prop) → State → Heap → Prop} {aK aV : Nat → Nat} (O : sO (mcell g cI cS (msa aK)) mord g Am aK aV) (P : gAm Am) (N : Nat) (x1 : Int32) (S : gS) (o : Int32 × gS) (hF : fX12_port N x1 S = some o) : gM l yX12_port cX12_port 3 ((some .int)) 61 D (mtys cI cS) (mcell g cI cS (msa aK)) mord g Am [.ref (g 99), .int x1] S (some (.int o.1)) o.2 :=
  gM_of O.1 P (by decide) (Nat.le_of_ble_eq_true rfl) (fun p e s m args below meth c ls C X hl => bX12_port_0 C O X (lv_sub hl [0, 1] rfl) hF)
end
end

/-! part 16.axs -/
section
/-! the class with texts; a row copied -/
def xsO (g : Nat → Nat) (cI cB cZ cQ : ClassId) (Am : (Nat → Prop) → State → Heap → Prop) (aK aV : Nat → Nat) : Prop := xO g cI cB cZ cQ Am ∧ ∀ (A : Nat → Prop) (U : State) (H : Heap), Am A U H → sAll aK aV A U H
theorem xs_sO {g : Nat → Nat} {cI cB cZ cQ : ClassId} {Am : (Nat → Prop) → State → Heap → Prop} {aK aV : Nat → Nat} (O : xsO g cI cB cZ cQ Am aK aV) : sO (xcell g cI cB cZ cQ) xord g Am aK aV := ⟨O.1.1, O.2⟩
noncomputable def acp (sp dp n : Int32) (L0 L1 : Nat) : Bool := decide (¬ sp < 0 ∧ ¬ dp < 0 ∧ ¬ n < 0 ∧ sp.toNatClampNeg + n.toNatClampNeg ≤ L0 ∧ dp.toNatClampNeg + n.toNatClampNeg ≤ L1)
noncomputable def sC (S : gS) (k0 k1 sp dp n : Nat) : gS := fun i => if i = k1 then va_cpy (S k0) (S k1) sp dp n else S i
section XCOPY
variable {p : Program} {l : Launch} {e : Env} {R : Room} {s : State} {m : MethodId} {args : Array Value} {below : List Frame} {meth : Method} {c : Code} {H : Heap} {locs : List Loc} {cs sl : Nat} {Q : State → Prop} {Am : (Nat → Prop) → State → Heap → Prop} {cc : ByteArray} {nL pc index : Nat} {ret : Option FieldType} {own : String} {D : va_G} {g : Nat → Nat} {cI cB cZ cQ : ClassId} {S S' : gS} {ls : Array Slot} {rest : List Value} {k0 k1 : Nat}
theorem x_copy (C : gC p s m args meth c cc nL own ret D (xtys cI cB cZ cQ) xord g Am) (O : xO g cI cB cZ cQ Am) (X : gX D (xcell g cI cB cZ cQ) xord g S s H locs) (hls : ls.size = nL) (w : Cond.methodLink own index arraycopyName ∈ gT ∧ Cond.native arraycopyName ∈ gT ∧ Cond.static arraycopyName ∈ gT ∧ Cond.initialized "java/lang/System" ∈ gT) (hk0 : xk k0 = 20) (hk1 : xk k1 = 20) {n0 n1 : Nat} (hn0 : xN k0 = n0) (hn1 : xN k1 = n1) {sp dp n : Int32} (h : acp sp dp n n0 n1 = true) (hS : S' = sC S k0 k1 sp.toNatClampNeg dp.toNatClampNeg n.toNatClampNeg)
    (hR : 1 ≤ R.frames) (hR2 : (rest.map fun v => v.category).sum + (nativeFrameWords "java/lang/System" "arraycopy" 5 + 11) ≤ R.locals) (hcs : cs ≤ R.cells) (hsl : sl ≤ R.slots) (hdg : decode cc pc = .ok (.invokestatic index, 3))
    (kk : ∀ (H1 : Heap) (locs1 : List Loc), gX D (xcell g cI cB cZ cQ) xord g S' s H1 locs1 → W p l e R s m args below meth c H1 locs1 cs sl Q (F0 m (pc + 3) ls rest)) : W p l e R s m args below meth c H locs cs sl Q (F0 m pc ls (.int n :: .int dp :: .ref (g k1) :: .int sp :: .ref (g k0) :: rest)) := by
  subst hS
  subst hn0
  subst hn1
  obtain ⟨h1, h2, h3, h4, h5⟩ := of_decide_eq_true h
  refine va_copyi C.1.1 C.1.2.1 (C.1.2.2.1.trans hls.symm) C.1.2.2.2.1 (C.1.2.2.2.2 _ w.1) (C.1.2.2.2.2 _ w.2.1) (C.1.2.2.2.2 _ w.2.2.1) (C.1.2.2.2.2 _ w.2.2.2) C.2.1 X.1 (gw_D O.1 S _) X.2 k0 k1 0 0 (gw_get (x_pos hk0 (by decide)) (x_cI g cI cB cZ cQ S hk0)) (gw_get (x_pos hk1 (by decide)) (x_cI g cI cB cZ cQ S hk1)) (ty := .int) rfl rfl rfl h1 h2 h3 h4 h5 (fun _ _ => rfl) hR hR2 hdg (fun H1 locs1 hP hD hS1 => kk H1 locs1 ⟨?_, hS1⟩)
  rw [gw_set O.1 (x_pos hk1 (by decide)) (S' := sC S k0 k1 sp.toNatClampNeg dp.toNatClampNeg n.toNatClampNeg) (by rw [x_cI g cI cB cZ cQ _ hk1]; simp [sC]) (fun j hj => if_neg hj)] at hP
  exact hP
end XCOPY
end

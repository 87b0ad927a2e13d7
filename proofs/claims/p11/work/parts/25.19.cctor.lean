set_option maxHeartbeats 4000000 in
set_option maxRecDepth 100000 in
theorem kc_8_2 (l : Launch) (D : va_G) (cI cB cZ cQ : ClassId) (h0 : Nat) : cM l yX8_init cX8_init 1 1 1 700 D (xtys cI cB cZ cQ) [.ref h0] [(h0, .inr (8, [.null, .int 0, .int 0, .int 0, .int 0, .int 0, .int 0]))] 2 h0 (fun u => xb cI cB cZ cQ u 2 2) := by
  intro sz
  refine Met.ofW (cc := cX8_init) (maxL := 1) (ret := none) (by decide) rfl ?_
  intro p e s m args below meth c s₁ B hml hv
  obtain ⟨rfl, hsz, hP, hK, hD0, hN, hAO⟩ := hv
  have hx := B.exec
  have hb := B.bytes
  have hr := B.returns
  have hts : ∀ w ∈ gT, w.before _ s = true := fun w h => atoms_spec (ws := Cond.code yX8_init cX8_init 1 none :: gT) B.pre w (List.mem_cons_of_mem _ h)
  have hown : s.vm.findClass RX8 = some m.cls := findClass_of_methodNamed B.named
  have hlocks := B.notSynchronized
  have hin : meth.name = "<init>" := (name_of_methodNamed B.named B.method).1
  subst hsz
  have hD := hD0.self (sz := s.heap.size)
  generalize hAe : va_A [(h0, .inr (8, [.null, .int 0, .int 0, .int 0, .int 0, .int 0, .int 0]))] s.heap.size = A at hD ⊢
  have hA : ∀ q : Nat, s.heap.size ≤ q → A q := fun q h => by rw [← hAe]; exact Or.inr h
  have hS : va_S A s.heap s.heap [] := va_S.rf
  have hl := lv_entry ([.ref h0]) (n := 1) (Nat.le_of_ble_eq_true rfl)
  rw [lg_entry_eq]
  generalize (lg_sl ([.ref h0]) ++ List.replicate (1 - (lg_sl ([.ref h0])).length) Slot.unset).toArray = ls at hl ⊢
  have hl : lv_has ls 1 [(0, .ref h0)] := hl
  obtain ⟨B0, hB0⟩ : ∃ z : va_W, z = [] := ⟨_, rfl⟩
  have hP : va_P D vwCl ([(h0, .inr (8, [.null, .int 0, .int 0, .int 0, .int 0, .int 0, .int 0]))] ++ B0) s.heap := by rw [hB0]; exact hP
  have hD : va_D A ([(h0, .inr (8, [.null, .int 0, .int 0, .int 0, .int 0, .int 0, .int 0]))] ++ B0) := by rw [hB0]; exact hD
  refine lv_aload_n hx hb dX8_init_0 rfl (lv_at hl 0 rfl) ?_
  refine W.objInit hx hb hown (hts _ c_oi8) (hts _ c_ob.1) (hts _ c_ob.2) rfl (by rw [hml]; exact hl.1) rfl dX8_init_1 (Nat.le_of_ble_eq_true rfl) (Nat.le_of_ble_eq_true rfl) ?_
  refine W.eq (g2 := F0 m 4 ls []) rfl ?_
  refine lv_aload_n hx hb dX8_init_4 rfl (lv_at hl 0 rfl) ?_
  refine lv_sipush (v := 700) hx hb dX8_init_5 (by decide) ?_
  refine c_newa (atype := .byte) (a0 := (700, .inl (fun _ => 0))) hx hb (hts _ c_ac_byte) rfl (fun _ h => by cases h) hK (t0 := 1) rfl hP hD hS hA (fun _ => rfl) (by decide) (by decide) (Nat.le_of_ble_eq_true rfl) (Nat.le_of_ble_eq_true rfl) (Nat.le_of_ble_eq_true rfl) dX8_init_8 (fun q1 H hP hD hS => ?_)
  have hP : va_P D vwCl ([(h0, .inr (8, [.null, .int 0, .int 0, .int 0, .int 0, .int 0, .int 0]))] ++ (B0 ++ [(q1, .inl (cB, 700, .inl (fun _ => 0)))])) H := by rw [← List.append_assoc]; exact hP
  have hD : va_D A ([(h0, .inr (8, [.null, .int 0, .int 0, .int 0, .int 0, .int 0, .int 0]))] ++ (B0 ++ [(q1, .inl (cB, 700, .inl (fun _ => 0)))])) := by rw [← List.append_assoc]; exact hD
  obtain ⟨B1, hB1⟩ : ∃ z : va_W, z = B0 ++ [(q1, .inl (cB, 700, .inl (fun _ => 0)))] := ⟨_, rfl⟩
  rewrite [← hB1] at hP hD
  refine W.widen (k := 1) (n := 700) (Nat.le_of_ble_eq_true rfl) (Nat.le_of_ble_eq_true rfl) ?_
  refine va_putF (D := D) (ci := 8) (v := .ref q1) (ty := tyX8 0) (C := RX8) (T := TX8) (N := 7) hx hb hts x_in8 tyX8 tyX8_ok nmX8 hown hK hP hD hS 0 rfl rfl 0 (by decide) (hts _ xl_X8_9) (fun _ h9 => h9) rfl hin rfl (tyX8_ok 0 (by decide)) rfl rfl (Nat.le_of_ble_eq_true rfl) dX8_init_10 (fun H locs hP hD hS => ?_)
  have hP : va_P D vwCl ([(h0, .inr (8, [.ref q1, .int 0, .int 0, .int 0, .int 0, .int 0, .int 0]))] ++ B1) H := hP
  have hD : va_D A ([(h0, .inr (8, [.ref q1, .int 0, .int 0, .int 0, .int 0, .int 0, .int 0]))] ++ B1) := hD
  refine lv_aload_n hx hb dX8_init_13 rfl (lv_at hl 0 rfl) ?_
  refine lv_iconst (v := 0) hx hb dX8_init_14 (by decide) ?_
  refine va_put (D := D) (ci := 8) (v := .int 0) (ty := tyX8 1) (C := RX8) (T := TX8) (N := 7) hx hb hts x_in8 tyX8 tyX8_ok nmX8 hown hK hP hD hS 0 rfl rfl 1 (by decide) (hts _ xl_X8_15) (fun _ h9 => h9) rfl (tyX8_ok 1 (by decide)) rfl rfl (Nat.le_of_ble_eq_true rfl) dX8_init_15 (fun H locs hP hD hS => ?_)
  have hP : va_P D vwCl ([(h0, .inr (8, [.ref q1, .int 0, .int 0, .int 0, .int 0, .int 0, .int 0]))] ++ B1) H := hP
  have hD : va_D A ([(h0, .inr (8, [.ref q1, .int 0, .int 0, .int 0, .int 0, .int 0, .int 0]))] ++ B1) := hD
  refine lv_aload_n hx hb dX8_init_18 rfl (lv_at hl 0 rfl) ?_
  refine lv_iconst (v := 0) hx hb dX8_init_19 (by decide) ?_
  refine va_put (D := D) (ci := 8) (v := .int 0) (ty := tyX8 2) (C := RX8) (T := TX8) (N := 7) hx hb hts x_in8 tyX8 tyX8_ok nmX8 hown hK hP hD hS 0 rfl rfl 2 (by decide) (hts _ xl_X8_19) (fun _ h9 => h9) rfl (tyX8_ok 2 (by decide)) rfl rfl (Nat.le_of_ble_eq_true rfl) dX8_init_20 (fun H locs hP hD hS => ?_)
  have hP : va_P D vwCl ([(h0, .inr (8, [.ref q1, .int 0, .int 0, .int 0, .int 0, .int 0, .int 0]))] ++ B1) H := hP
  have hD : va_D A ([(h0, .inr (8, [.ref q1, .int 0, .int 0, .int 0, .int 0, .int 0, .int 0]))] ++ B1) := hD
  refine lv_aload_n hx hb dX8_init_23 rfl (lv_at hl 0 rfl) ?_
  refine lv_iconst (v := 0) hx hb dX8_init_24 (by decide) ?_
  refine va_put (D := D) (ci := 8) (v := .int 0) (ty := tyX8 3) (C := RX8) (T := TX8) (N := 7) hx hb hts x_in8 tyX8 tyX8_ok nmX8 hown hK hP hD hS 0 rfl rfl 3 (by decide) (hts _ xl_X8_22) (fun _ h9 => h9) rfl (tyX8_ok 3 (by decide)) rfl rfl (Nat.le_of_ble_eq_true rfl) dX8_init_25 (fun H locs hP hD hS => ?_)
  have hP : va_P D vwCl ([(h0, .inr (8, [.ref q1, .int 0, .int 0, .int 0, .int 0, .int 0, .int 0]))] ++ B1) H := hP
  have hD : va_D A ([(h0, .inr (8, [.ref q1, .int 0, .int 0, .int 0, .int 0, .int 0, .int 0]))] ++ B1) := hD
  refine lv_aload_n hx hb dX8_init_28 rfl (lv_at hl 0 rfl) ?_
  refine lv_iconst (v := 0) hx hb dX8_init_29 (by decide) ?_
  refine va_put (D := D) (ci := 8) (v := .int 0) (ty := tyX8 4) (C := RX8) (T := TX8) (N := 7) hx hb hts x_in8 tyX8 tyX8_ok nmX8 hown hK hP hD hS 0 rfl rfl 4 (by decide) (hts _ xl_X8_25) (fun _ h9 => h9) rfl (tyX8_ok 4 (by decide)) rfl rfl (Nat.le_of_ble_eq_true rfl) dX8_init_30 (fun H locs hP hD hS => ?_)
  have hP : va_P D vwCl ([(h0, .inr (8, [.ref q1, .int 0, .int 0, .int 0, .int 0, .int 0, .int 0]))] ++ B1) H := hP
  have hD : va_D A ([(h0, .inr (8, [.ref q1, .int 0, .int 0, .int 0, .int 0, .int 0, .int 0]))] ++ B1) := hD
  refine lv_aload_n hx hb dX8_init_33 rfl (lv_at hl 0 rfl) ?_
  refine lv_iconst (v := 0) hx hb dX8_init_34 (by decide) ?_
  refine va_put (D := D) (ci := 8) (v := .int 0) (ty := tyX8 5) (C := RX8) (T := TX8) (N := 7) hx hb hts x_in8 tyX8 tyX8_ok nmX8 hown hK hP hD hS 0 rfl rfl 5 (by decide) (hts _ xl_X8_28) (fun _ h9 => h9) rfl (tyX8_ok 5 (by decide)) rfl rfl (Nat.le_of_ble_eq_true rfl) dX8_init_35 (fun H locs hP hD hS => ?_)
  have hP : va_P D vwCl ([(h0, .inr (8, [.ref q1, .int 0, .int 0, .int 0, .int 0, .int 0, .int 0]))] ++ B1) H := hP
  have hD : va_D A ([(h0, .inr (8, [.ref q1, .int 0, .int 0, .int 0, .int 0, .int 0, .int 0]))] ++ B1) := hD
  refine lv_aload_n hx hb dX8_init_38 rfl (lv_at hl 0 rfl) ?_
  refine lv_iconst (v := 0) hx hb dX8_init_39 (by decide) ?_
  refine va_put (D := D) (ci := 8) (v := .int 0) (ty := tyX8 6) (C := RX8) (T := TX8) (N := 7) hx hb hts x_in8 tyX8 tyX8_ok nmX8 hown hK hP hD hS 0 rfl rfl 6 (by decide) (hts _ xl_X8_31) (fun _ h9 => h9) rfl (tyX8_ok 6 (by decide)) rfl rfl (Nat.le_of_ble_eq_true rfl) dX8_init_40 (fun H locs hP hD hS => ?_)
  have hP : va_P D vwCl ([(h0, .inr (8, [.ref q1, .int 0, .int 0, .int 0, .int 0, .int 0, .int 0]))] ++ B1) H := hP
  have hD : va_D A ([(h0, .inr (8, [.ref q1, .int 0, .int 0, .int 0, .int 0, .int 0, .int 0]))] ++ B1) := hD
  rewrite [hB1, hB0] at hP hD
  have hP9 : va_P D vwCl (xb cI cB cZ cQ (xj (fun _ => h0) 3 (fun _ => q1)) 2 2) H := hP
  have hD9 : va_D A (xb cI cB cZ cQ (xj (fun _ => h0) 3 (fun _ => q1)) 2 2) := hD
  exact W.vret hx hb hr (fun t ht hW => ⟨⟨(xj (fun _ => h0) 3 (fun _ => q1)), rfl, trivial, rfl, by rw [ht]; exact hP9, va_K.moved hW.alike hK, hD9⟩, hS.F ht⟩) hS.2.2 dX8_init_43 hlocks
set_option maxHeartbeats 4000000 in
set_option maxRecDepth 100000 in
theorem kg_4 (l : Launch) (D : va_G) (cI cB cZ cQ : ClassId) (h0 : Nat) (v : Int32) (hnv : narrow (tyX4 2) (Value.int v) = Value.int v) (hfv : fits (tyX4 2) (Value.int v) = true) (b : Nat) (ws : (Nat → Nat) → va_W) (hws : ∀ q1 q2 : Nat, ∃ u : Nat → Nat, u b = h0 ∧ ws u = [(h0, .inr (4, [.ref q1, .ref q2, .int v, .int 0])), (q1, .inl (cI, 700, .inl (fun _ => 0))), (q2, .inl (cI, 31, .inl (fun _ => 0)))]) : cM l yX4_init cX4_init 2 1 2 731 D (xtys cI cB cZ cQ) [.ref h0, .int v] [(h0, .inr (4, [.null, .null, .int 0, .int 0]))] b h0 ws := by
  intro sz
  refine Met.ofW (cc := cX4_init) (maxL := 2) (ret := none) (by decide) rfl ?_
  intro p e s m args below meth c s₁ B hml hv
  obtain ⟨rfl, hsz, hP, hK, hD0, hN, hAO⟩ := hv
  have hx := B.exec
  have hb := B.bytes
  have hr := B.returns
  have hts : ∀ w ∈ gT, w.before _ s = true := fun w h => atoms_spec (ws := Cond.code yX4_init cX4_init 2 none :: gT) B.pre w (List.mem_cons_of_mem _ h)
  have hown : s.vm.findClass RX4 = some m.cls := findClass_of_methodNamed B.named
  have hlocks := B.notSynchronized
  have hin : meth.name = "<init>" := (name_of_methodNamed B.named B.method).1
  subst hsz
  have hD := hD0.self (sz := s.heap.size)
  generalize hAe : va_A [(h0, .inr (4, [.null, .null, .int 0, .int 0]))] s.heap.size = A at hD ⊢
  have hA : ∀ q : Nat, s.heap.size ≤ q → A q := fun q h => by rw [← hAe]; exact Or.inr h
  have hS : va_S A s.heap s.heap [] := va_S.rf
  have hl := lv_entry ([.ref h0, .int v]) (n := 2) (Nat.le_of_ble_eq_true rfl)
  rw [lg_entry_eq]
  generalize (lg_sl ([.ref h0, .int v]) ++ List.replicate (2 - (lg_sl ([.ref h0, .int v])).length) Slot.unset).toArray = ls at hl ⊢
  have hl : lv_has ls 2 [(0, .ref h0), (1, .int v)] := hl
  obtain ⟨B0, hB0⟩ : ∃ z : va_W, z = [] := ⟨_, rfl⟩
  have hP : va_P D vwCl ([(h0, .inr (4, [.null, .null, .int 0, .int 0]))] ++ B0) s.heap := by rw [hB0]; exact hP
  have hD : va_D A ([(h0, .inr (4, [.null, .null, .int 0, .int 0]))] ++ B0) := by rw [hB0]; exact hD
  refine lv_aload_n hx hb dX4_init_0 rfl (lv_at hl 0 rfl) ?_
  refine W.objInit hx hb hown (hts _ c_oi4) (hts _ c_ob.1) (hts _ c_ob.2) rfl (by rw [hml]; exact hl.1) rfl dX4_init_1 (Nat.le_of_ble_eq_true rfl) (Nat.le_of_ble_eq_true rfl) ?_
  refine W.eq (g2 := F0 m 4 ls []) rfl ?_
  refine lv_aload_n hx hb dX4_init_4 rfl (lv_at hl 0 rfl) ?_
  refine lv_sipush (v := 700) hx hb dX4_init_5 (by decide) ?_
  refine c_newa (atype := .int) (a0 := (700, .inl (fun _ => 0))) hx hb (hts _ c_ac_int) rfl (fun _ h => by cases h) hK (t0 := 0) rfl hP hD hS hA (fun _ => rfl) (by decide) (by decide) (Nat.le_of_ble_eq_true rfl) (Nat.le_of_ble_eq_true rfl) (Nat.le_of_ble_eq_true rfl) dX4_init_8 (fun q1 H hP hD hS => ?_)
  have hP : va_P D vwCl ([(h0, .inr (4, [.null, .null, .int 0, .int 0]))] ++ (B0 ++ [(q1, .inl (cI, 700, .inl (fun _ => 0)))])) H := by rw [← List.append_assoc]; exact hP
  have hD : va_D A ([(h0, .inr (4, [.null, .null, .int 0, .int 0]))] ++ (B0 ++ [(q1, .inl (cI, 700, .inl (fun _ => 0)))])) := by rw [← List.append_assoc]; exact hD
  obtain ⟨B1, hB1⟩ : ∃ z : va_W, z = B0 ++ [(q1, .inl (cI, 700, .inl (fun _ => 0)))] := ⟨_, rfl⟩
  rewrite [← hB1] at hP hD
  refine W.widen (k := 1) (n := 700) (Nat.le_of_ble_eq_true rfl) (Nat.le_of_ble_eq_true rfl) ?_
  refine va_putF (D := D) (ci := 4) (v := .ref q1) (ty := tyX4 0) (C := RX4) (T := TX4) (N := 4) hx hb hts x_in4 tyX4 tyX4_ok nmX4 hown hK hP hD hS 0 rfl rfl 0 (by decide) (hts _ xl_X4_9) (fun _ h9 => h9) rfl hin rfl (tyX4_ok 0 (by decide)) rfl rfl (Nat.le_of_ble_eq_true rfl) dX4_init_10 (fun H locs hP hD hS => ?_)
  have hP : va_P D vwCl ([(h0, .inr (4, [.ref q1, .null, .int 0, .int 0]))] ++ B1) H := hP
  have hD : va_D A ([(h0, .inr (4, [.ref q1, .null, .int 0, .int 0]))] ++ B1) := hD
  refine lv_aload_n hx hb dX4_init_13 rfl (lv_at hl 0 rfl) ?_
  refine lv_bipush (v := 31) hx hb dX4_init_14 (by decide) ?_
  refine c_newa (atype := .int) (a0 := (31, .inl (fun _ => 0))) hx hb (hts _ c_ac_int) rfl (fun _ h => by cases h) hK (t0 := 0) rfl hP hD hS hA (fun _ => rfl) (by decide) (by decide) (Nat.le_of_ble_eq_true rfl) (Nat.le_of_ble_eq_true rfl) (Nat.le_of_ble_eq_true rfl) dX4_init_16 (fun q2 H hP hD hS => ?_)
  have hP : va_P D vwCl ([(h0, .inr (4, [.ref q1, .null, .int 0, .int 0]))] ++ (B1 ++ [(q2, .inl (cI, 31, .inl (fun _ => 0)))])) H := by rw [← List.append_assoc]; exact hP
  have hD : va_D A ([(h0, .inr (4, [.ref q1, .null, .int 0, .int 0]))] ++ (B1 ++ [(q2, .inl (cI, 31, .inl (fun _ => 0)))])) := by rw [← List.append_assoc]; exact hD
  obtain ⟨B2, hB2⟩ : ∃ z : va_W, z = B1 ++ [(q2, .inl (cI, 31, .inl (fun _ => 0)))] := ⟨_, rfl⟩
  rewrite [← hB2] at hP hD
  refine W.widen (k := 2) (n := 731) (Nat.le_of_ble_eq_true rfl) (Nat.le_of_ble_eq_true rfl) ?_
  refine va_putF (D := D) (ci := 4) (v := .ref q2) (ty := tyX4 1) (C := RX4) (T := TX4) (N := 4) hx hb hts x_in4 tyX4 tyX4_ok nmX4 hown hK hP hD hS 0 rfl rfl 1 (by decide) (hts _ xl_X4_15) (fun _ h9 => h9) rfl hin rfl (tyX4_ok 1 (by decide)) rfl rfl (Nat.le_of_ble_eq_true rfl) dX4_init_18 (fun H locs hP hD hS => ?_)
  have hP : va_P D vwCl ([(h0, .inr (4, [.ref q1, .ref q2, .int 0, .int 0]))] ++ B2) H := hP
  have hD : va_D A ([(h0, .inr (4, [.ref q1, .ref q2, .int 0, .int 0]))] ++ B2) := hD
  refine lv_aload_n hx hb dX4_init_21 rfl (lv_at hl 0 rfl) ?_
  refine lv_iconst (v := 0) hx hb dX4_init_22 (by decide) ?_
  refine va_put (D := D) (ci := 4) (v := .int 0) (ty := tyX4 3) (C := RX4) (T := TX4) (N := 4) hx hb hts x_in4 tyX4 tyX4_ok nmX4 hown hK hP hD hS 0 rfl rfl 3 (by decide) (hts _ xl_X4_18) (fun _ h9 => h9) rfl (tyX4_ok 3 (by decide)) rfl rfl (Nat.le_of_ble_eq_true rfl) dX4_init_23 (fun H locs hP hD hS => ?_)
  have hP : va_P D vwCl ([(h0, .inr (4, [.ref q1, .ref q2, .int 0, .int 0]))] ++ B2) H := hP
  have hD : va_D A ([(h0, .inr (4, [.ref q1, .ref q2, .int 0, .int 0]))] ++ B2) := hD
  refine lv_aload_n hx hb dX4_init_26 rfl (lv_at hl 0 rfl) ?_
  refine lv_iload_n hx hb dX4_init_27 rfl (lv_at hl 1 rfl) ?_
  refine va_putF (D := D) (ci := 4) (v := .int v) (ty := tyX4 2) (C := RX4) (T := TX4) (N := 4) hx hb hts x_in4 tyX4 tyX4_ok nmX4 hown hK hP hD hS 0 rfl rfl 2 (by decide) (hts _ xl_X4_22) (fun _ h9 => h9) rfl hin rfl (tyX4_ok 2 (by decide)) hnv hfv (Nat.le_of_ble_eq_true rfl) dX4_init_28 (fun H locs hP hD hS => ?_)
  have hP : va_P D vwCl ([(h0, .inr (4, [.ref q1, .ref q2, .int v, .int 0]))] ++ B2) H := hP
  have hD : va_D A ([(h0, .inr (4, [.ref q1, .ref q2, .int v, .int 0]))] ++ B2) := hD
  rewrite [hB2, hB1, hB0] at hP hD
  obtain ⟨u, hu, hwe⟩ := hws q1 q2
  have hP9 : va_P D vwCl (ws u) H := by rewrite [hwe]; exact hP
  have hD9 : va_D A (ws u) := by rewrite [hwe]; exact hD
  exact W.vret hx hb hr (fun t ht hW => ⟨⟨u, rfl, trivial, hu, by rw [ht]; exact hP9, va_K.moved hW.alike hK, hD9⟩, hS.F ht⟩) hS.2.2 dX4_init_31 hlocks
theorem kc_4_14 (l : Launch) (D : va_G) (cI cB cZ cQ : ClassId) (h0 : Nat) : cM l yX4_init cX4_init 2 1 2 731 D (xtys cI cB cZ cQ) [.ref h0, .int 0] [(h0, .inr (4, [.null, .null, .int 0, .int 0]))] 14 h0 (fun u => xb cI cB cZ cQ u 14 3) :=
  kg_4 l D cI cB cZ cQ h0 0 rfl rfl 14 _ (fun q1 q2 => ⟨(xj (xj (fun _ => h0) 15 (fun _ => q1)) 16 (fun _ => q2)), rfl, rfl⟩)
theorem kc_4_17 (l : Launch) (D : va_G) (cI cB cZ cQ : ClassId) (h0 : Nat) : cM l yX4_init cX4_init 2 1 2 731 D (xtys cI cB cZ cQ) [.ref h0, .int 1] [(h0, .inr (4, [.null, .null, .int 0, .int 0]))] 17 h0 (fun u => xb cI cB cZ cQ u 17 3) :=
  kg_4 l D cI cB cZ cQ h0 1 rfl rfl 17 _ (fun q1 q2 => ⟨(xj (xj (fun _ => h0) 18 (fun _ => q1)) 19 (fun _ => q2)), rfl, rfl⟩)
set_option maxHeartbeats 4000000 in
set_option maxRecDepth 100000 in
theorem kc_9_4 (l : Launch) (D : va_G) (cI cB cZ cQ : ClassId) (h0 : Nat) : cM l yX9_init cX9_init 1 2 15 1534 D (xtys cI cB cZ cQ) [.ref h0] [(h0, .inr (9, [.int 0, .null, .null, .null, .null, .int 0, .null, .null, .null, .null, .int 0, .null, .int 0, .null, .null]))] 4 h0 (fun u => xb cI cB cZ cQ u 4 16) := by
  intro sz
  refine Met.ofW (cc := cX9_init) (maxL := 1) (ret := none) (by decide) rfl ?_
  intro p e s m args below meth c s₁ B hml hv
  obtain ⟨rfl, hsz, hP, hK, hD0, hN, hAO⟩ := hv
  have hx := B.exec
  have hb := B.bytes
  have hr := B.returns
  have hts : ∀ w ∈ gT, w.before _ s = true := fun w h => atoms_spec (ws := Cond.code yX9_init cX9_init 1 none :: gT) B.pre w (List.mem_cons_of_mem _ h)
  have hown : s.vm.findClass RX9 = some m.cls := findClass_of_methodNamed B.named
  have hlocks := B.notSynchronized
  have hin : meth.name = "<init>" := (name_of_methodNamed B.named B.method).1
  subst hsz
  have hD := hD0.self (sz := s.heap.size)
  generalize hAe : va_A [(h0, .inr (9, [.int 0, .null, .null, .null, .null, .int 0, .null, .null, .null, .null, .int 0, .null, .int 0, .null, .null]))] s.heap.size = A at hD ⊢
  have hA : ∀ q : Nat, s.heap.size ≤ q → A q := fun q h => by rw [← hAe]; exact Or.inr h
  have hS : va_S A s.heap s.heap [] := va_S.rf
  have hl := lv_entry ([.ref h0]) (n := 1) (Nat.le_of_ble_eq_true rfl)
  rw [lg_entry_eq]
  generalize (lg_sl ([.ref h0]) ++ List.replicate (1 - (lg_sl ([.ref h0])).length) Slot.unset).toArray = ls at hl ⊢
  have hl : lv_has ls 1 [(0, .ref h0)] := hl
  obtain ⟨B0, hB0⟩ : ∃ z : va_W, z = [] := ⟨_, rfl⟩
  have hP : va_P D vwCl ([(h0, .inr (9, [.int 0, .null, .null, .null, .null, .int 0, .null, .null, .null, .null, .int 0, .null, .int 0, .null, .null]))] ++ B0) s.heap := by rw [hB0]; exact hP
  have hD : va_D A ([(h0, .inr (9, [.int 0, .null, .null, .null, .null, .int 0, .null, .null, .null, .null, .int 0, .null, .int 0, .null, .null]))] ++ B0) := by rw [hB0]; exact hD
  refine lv_aload_n hx hb dX9_init_0 rfl (lv_at hl 0 rfl) ?_
  refine W.objInit hx hb hown (hts _ c_oi9) (hts _ c_ob.1) (hts _ c_ob.2) rfl (by rw [hml]; exact hl.1) rfl dX9_init_1 (Nat.le_of_ble_eq_true rfl) (Nat.le_of_ble_eq_true rfl) ?_
  refine W.eq (g2 := F0 m 4 ls []) rfl ?_
  refine lv_aload_n hx hb dX9_init_4 rfl (lv_at hl 0 rfl) ?_
  refine lv_iconst (v := 0) hx hb dX9_init_5 (by decide) ?_
  refine va_put (D := D) (ci := 9) (v := .int 0) (ty := tyX9 0) (C := RX9) (T := TX9) (N := 15) hx hb hts x_in9 tyX9 tyX9_ok nmX9 hown hK hP hD hS 0 rfl rfl 0 (by decide) (hts _ xl_X9_9) (fun _ h9 => h9) rfl (tyX9_ok 0 (by decide)) rfl rfl (Nat.le_of_ble_eq_true rfl) dX9_init_6 (fun H locs hP hD hS => ?_)
  have hP : va_P D vwCl ([(h0, .inr (9, [.int 0, .null, .null, .null, .null, .int 0, .null, .null, .null, .null, .int 0, .null, .int 0, .null, .null]))] ++ B0) H := hP
  have hD : va_D A ([(h0, .inr (9, [.int 0, .null, .null, .null, .null, .int 0, .null, .null, .null, .null, .int 0, .null, .int 0, .null, .null]))] ++ B0) := hD
  refine lv_aload_n hx hb dX9_init_9 rfl (lv_at hl 0 rfl) ?_
  refine lv_bipush (v := 8) hx hb dX9_init_10 (by decide) ?_
  refine c_newa (atype := .int) (a0 := (8, .inl (fun _ => 0))) hx hb (hts _ c_ac_int) rfl (fun _ h => by cases h) hK (t0 := 0) rfl hP hD hS hA (fun _ => rfl) (by decide) (by decide) (Nat.le_of_ble_eq_true rfl) (Nat.le_of_ble_eq_true rfl) (Nat.le_of_ble_eq_true rfl) dX9_init_12 (fun q1 H hP hD hS => ?_)
  have hP : va_P D vwCl ([(h0, .inr (9, [.int 0, .null, .null, .null, .null, .int 0, .null, .null, .null, .null, .int 0, .null, .int 0, .null, .null]))] ++ (B0 ++ [(q1, .inl (cI, 8, .inl (fun _ => 0)))])) H := by rw [← List.append_assoc]; exact hP
  have hD : va_D A ([(h0, .inr (9, [.int 0, .null, .null, .null, .null, .int 0, .null, .null, .null, .null, .int 0, .null, .int 0, .null, .null]))] ++ (B0 ++ [(q1, .inl (cI, 8, .inl (fun _ => 0)))])) := by rw [← List.append_assoc]; exact hD
  obtain ⟨B1, hB1⟩ : ∃ z : va_W, z = B0 ++ [(q1, .inl (cI, 8, .inl (fun _ => 0)))] := ⟨_, rfl⟩
  rewrite [← hB1] at hP hD
  refine W.widen (k := 1) (n := 8) (Nat.le_of_ble_eq_true rfl) (Nat.le_of_ble_eq_true rfl) ?_
  refine va_putF (D := D) (ci := 9) (v := .ref q1) (ty := tyX9 1) (C := RX9) (T := TX9) (N := 15) hx hb hts x_in9 tyX9 tyX9_ok nmX9 hown hK hP hD hS 0 rfl rfl 1 (by decide) (hts _ xl_X9_15) (fun _ h9 => h9) rfl hin rfl (tyX9_ok 1 (by decide)) rfl rfl (Nat.le_of_ble_eq_true rfl) dX9_init_14 (fun H locs hP hD hS => ?_)
  have hP : va_P D vwCl ([(h0, .inr (9, [.int 0, .ref q1, .null, .null, .null, .int 0, .null, .null, .null, .null, .int 0, .null, .int 0, .null, .null]))] ++ B1) H := hP
  have hD : va_D A ([(h0, .inr (9, [.int 0, .ref q1, .null, .null, .null, .int 0, .null, .null, .null, .null, .int 0, .null, .int 0, .null, .null]))] ++ B1) := hD
  refine lv_aload_n hx hb dX9_init_17 rfl (lv_at hl 0 rfl) ?_
  refine lv_bipush (v := 8) hx hb dX9_init_18 (by decide) ?_
  refine c_newa (atype := .int) (a0 := (8, .inl (fun _ => 0))) hx hb (hts _ c_ac_int) rfl (fun _ h => by cases h) hK (t0 := 0) rfl hP hD hS hA (fun _ => rfl) (by decide) (by decide) (Nat.le_of_ble_eq_true rfl) (Nat.le_of_ble_eq_true rfl) (Nat.le_of_ble_eq_true rfl) dX9_init_20 (fun q2 H hP hD hS => ?_)
  have hP : va_P D vwCl ([(h0, .inr (9, [.int 0, .ref q1, .null, .null, .null, .int 0, .null, .null, .null, .null, .int 0, .null, .int 0, .null, .null]))] ++ (B1 ++ [(q2, .inl (cI, 8, .inl (fun _ => 0)))])) H := by rw [← List.append_assoc]; exact hP
  have hD : va_D A ([(h0, .inr (9, [.int 0, .ref q1, .null, .null, .null, .int 0, .null, .null, .null, .null, .int 0, .null, .int 0, .null, .null]))] ++ (B1 ++ [(q2, .inl (cI, 8, .inl (fun _ => 0)))])) := by rw [← List.append_assoc]; exact hD
  obtain ⟨B2, hB2⟩ : ∃ z : va_W, z = B1 ++ [(q2, .inl (cI, 8, .inl (fun _ => 0)))] := ⟨_, rfl⟩
  rewrite [← hB2] at hP hD
  refine W.widen (k := 2) (n := 16) (Nat.le_of_ble_eq_true rfl) (Nat.le_of_ble_eq_true rfl) ?_
  refine va_putF (D := D) (ci := 9) (v := .ref q2) (ty := tyX9 2) (C := RX9) (T := TX9) (N := 15) hx hb hts x_in9 tyX9 tyX9_ok nmX9 hown hK hP hD hS 0 rfl rfl 2 (by decide) (hts _ xl_X9_19) (fun _ h9 => h9) rfl hin rfl (tyX9_ok 2 (by decide)) rfl rfl (Nat.le_of_ble_eq_true rfl) dX9_init_22 (fun H locs hP hD hS => ?_)
  have hP : va_P D vwCl ([(h0, .inr (9, [.int 0, .ref q1, .ref q2, .null, .null, .int 0, .null, .null, .null, .null, .int 0, .null, .int 0, .null, .null]))] ++ B2) H := hP
  have hD : va_D A ([(h0, .inr (9, [.int 0, .ref q1, .ref q2, .null, .null, .int 0, .null, .null, .null, .null, .int 0, .null, .int 0, .null, .null]))] ++ B2) := hD
  refine lv_aload_n hx hb dX9_init_25 rfl (lv_at hl 0 rfl) ?_
  refine lv_bipush (v := 8) hx hb dX9_init_26 (by decide) ?_
  refine c_newa (atype := .int) (a0 := (8, .inl (fun _ => 0))) hx hb (hts _ c_ac_int) rfl (fun _ h => by cases h) hK (t0 := 0) rfl hP hD hS hA (fun _ => rfl) (by decide) (by decide) (Nat.le_of_ble_eq_true rfl) (Nat.le_of_ble_eq_true rfl) (Nat.le_of_ble_eq_true rfl) dX9_init_28 (fun q3 H hP hD hS => ?_)
  have hP : va_P D vwCl ([(h0, .inr (9, [.int 0, .ref q1, .ref q2, .null, .null, .int 0, .null, .null, .null, .null, .int 0, .null, .int 0, .null, .null]))] ++ (B2 ++ [(q3, .inl (cI, 8, .inl (fun _ => 0)))])) H := by rw [← List.append_assoc]; exact hP
  have hD : va_D A ([(h0, .inr (9, [.int 0, .ref q1, .ref q2, .null, .null, .int 0, .null, .null, .null, .null, .int 0, .null, .int 0, .null, .null]))] ++ (B2 ++ [(q3, .inl (cI, 8, .inl (fun _ => 0)))])) := by rw [← List.append_assoc]; exact hD
  obtain ⟨B3, hB3⟩ : ∃ z : va_W, z = B2 ++ [(q3, .inl (cI, 8, .inl (fun _ => 0)))] := ⟨_, rfl⟩
  rewrite [← hB3] at hP hD
  refine W.widen (k := 3) (n := 24) (Nat.le_of_ble_eq_true rfl) (Nat.le_of_ble_eq_true rfl) ?_
  refine va_putF (D := D) (ci := 9) (v := .ref q3) (ty := tyX9 3) (C := RX9) (T := TX9) (N := 15) hx hb hts x_in9 tyX9 tyX9_ok nmX9 hown hK hP hD hS 0 rfl rfl 3 (by decide) (hts _ xl_X9_22) (fun _ h9 => h9) rfl hin rfl (tyX9_ok 3 (by decide)) rfl rfl (Nat.le_of_ble_eq_true rfl) dX9_init_30 (fun H locs hP hD hS => ?_)
  have hP : va_P D vwCl ([(h0, .inr (9, [.int 0, .ref q1, .ref q2, .ref q3, .null, .int 0, .null, .null, .null, .null, .int 0, .null, .int 0, .null, .null]))] ++ B3) H := hP
  have hD : va_D A ([(h0, .inr (9, [.int 0, .ref q1, .ref q2, .ref q3, .null, .int 0, .null, .null, .null, .null, .int 0, .null, .int 0, .null, .null]))] ++ B3) := hD
  refine lv_aload_n hx hb dX9_init_33 rfl (lv_at hl 0 rfl) ?_
  refine lv_bipush (v := 8) hx hb dX9_init_34 (by decide) ?_
  refine c_newa (atype := .boolean) (a0 := (8, .inl (fun _ => 0))) hx hb (hts _ c_ac_boolean) rfl (fun _ h => by cases h) hK (t0 := 2) rfl hP hD hS hA (fun _ => rfl) (by decide) (by decide) (Nat.le_of_ble_eq_true rfl) (Nat.le_of_ble_eq_true rfl) (Nat.le_of_ble_eq_true rfl) dX9_init_36 (fun q4 H hP hD hS => ?_)
  have hP : va_P D vwCl ([(h0, .inr (9, [.int 0, .ref q1, .ref q2, .ref q3, .null, .int 0, .null, .null, .null, .null, .int 0, .null, .int 0, .null, .null]))] ++ (B3 ++ [(q4, .inl (cZ, 8, .inl (fun _ => 0)))])) H := by rw [← List.append_assoc]; exact hP
  have hD : va_D A ([(h0, .inr (9, [.int 0, .ref q1, .ref q2, .ref q3, .null, .int 0, .null, .null, .null, .null, .int 0, .null, .int 0, .null, .null]))] ++ (B3 ++ [(q4, .inl (cZ, 8, .inl (fun _ => 0)))])) := by rw [← List.append_assoc]; exact hD
  obtain ⟨B4, hB4⟩ : ∃ z : va_W, z = B3 ++ [(q4, .inl (cZ, 8, .inl (fun _ => 0)))] := ⟨_, rfl⟩
  rewrite [← hB4] at hP hD
  refine W.widen (k := 4) (n := 32) (Nat.le_of_ble_eq_true rfl) (Nat.le_of_ble_eq_true rfl) ?_
  refine va_putF (D := D) (ci := 9) (v := .ref q4) (ty := tyX9 4) (C := RX9) (T := TX9) (N := 15) hx hb hts x_in9 tyX9 tyX9_ok nmX9 hown hK hP hD hS 0 rfl rfl 4 (by decide) (hts _ xl_X9_25) (fun _ h9 => h9) rfl hin rfl (tyX9_ok 4 (by decide)) rfl rfl (Nat.le_of_ble_eq_true rfl) dX9_init_38 (fun H locs hP hD hS => ?_)
  have hP : va_P D vwCl ([(h0, .inr (9, [.int 0, .ref q1, .ref q2, .ref q3, .ref q4, .int 0, .null, .null, .null, .null, .int 0, .null, .int 0, .null, .null]))] ++ B4) H := hP
  have hD : va_D A ([(h0, .inr (9, [.int 0, .ref q1, .ref q2, .ref q3, .ref q4, .int 0, .null, .null, .null, .null, .int 0, .null, .int 0, .null, .null]))] ++ B4) := hD
  refine lv_aload_n hx hb dX9_init_41 rfl (lv_at hl 0 rfl) ?_
  refine lv_iconst (v := 0) hx hb dX9_init_42 (by decide) ?_
  refine va_put (D := D) (ci := 9) (v := .int 0) (ty := tyX9 5) (C := RX9) (T := TX9) (N := 15) hx hb hts x_in9 tyX9 tyX9_ok nmX9 hown hK hP hD hS 0 rfl rfl 5 (by decide) (hts _ xl_X9_29) (fun _ h9 => h9) rfl (tyX9_ok 5 (by decide)) rfl rfl (Nat.le_of_ble_eq_true rfl) dX9_init_43 (fun H locs hP hD hS => ?_)
  have hP : va_P D vwCl ([(h0, .inr (9, [.int 0, .ref q1, .ref q2, .ref q3, .ref q4, .int 0, .null, .null, .null, .null, .int 0, .null, .int 0, .null, .null]))] ++ B4) H := hP
  have hD : va_D A ([(h0, .inr (9, [.int 0, .ref q1, .ref q2, .ref q3, .ref q4, .int 0, .null, .null, .null, .null, .int 0, .null, .int 0, .null, .null]))] ++ B4) := hD
  refine lv_aload_n hx hb dX9_init_46 rfl (lv_at hl 0 rfl) ?_
  refine lv_bipush (v := 6) hx hb dX9_init_47 (by decide) ?_
  refine c_newa (atype := .int) (a0 := (6, .inl (fun _ => 0))) hx hb (hts _ c_ac_int) rfl (fun _ h => by cases h) hK (t0 := 0) rfl hP hD hS hA (fun _ => rfl) (by decide) (by decide) (Nat.le_of_ble_eq_true rfl) (Nat.le_of_ble_eq_true rfl) (Nat.le_of_ble_eq_true rfl) dX9_init_49 (fun q5 H hP hD hS => ?_)
  have hP : va_P D vwCl ([(h0, .inr (9, [.int 0, .ref q1, .ref q2, .ref q3, .ref q4, .int 0, .null, .null, .null, .null, .int 0, .null, .int 0, .null, .null]))] ++ (B4 ++ [(q5, .inl (cI, 6, .inl (fun _ => 0)))])) H := by rw [← List.append_assoc]; exact hP
  have hD : va_D A ([(h0, .inr (9, [.int 0, .ref q1, .ref q2, .ref q3, .ref q4, .int 0, .null, .null, .null, .null, .int 0, .null, .int 0, .null, .null]))] ++ (B4 ++ [(q5, .inl (cI, 6, .inl (fun _ => 0)))])) := by rw [← List.append_assoc]; exact hD
  obtain ⟨B5, hB5⟩ : ∃ z : va_W, z = B4 ++ [(q5, .inl (cI, 6, .inl (fun _ => 0)))] := ⟨_, rfl⟩
  rewrite [← hB5] at hP hD
  refine W.widen (k := 5) (n := 38) (Nat.le_of_ble_eq_true rfl) (Nat.le_of_ble_eq_true rfl) ?_
  refine va_putF (D := D) (ci := 9) (v := .ref q5) (ty := tyX9 6) (C := RX9) (T := TX9) (N := 15) hx hb hts x_in9 tyX9 tyX9_ok nmX9 hown hK hP hD hS 0 rfl rfl 6 (by decide) (hts _ xl_X9_32) (fun _ h9 => h9) rfl hin rfl (tyX9_ok 6 (by decide)) rfl rfl (Nat.le_of_ble_eq_true rfl) dX9_init_51 (fun H locs hP hD hS => ?_)
  have hP : va_P D vwCl ([(h0, .inr (9, [.int 0, .ref q1, .ref q2, .ref q3, .ref q4, .int 0, .ref q5, .null, .null, .null, .int 0, .null, .int 0, .null, .null]))] ++ B5) H := hP
  have hD : va_D A ([(h0, .inr (9, [.int 0, .ref q1, .ref q2, .ref q3, .ref q4, .int 0, .ref q5, .null, .null, .null, .int 0, .null, .int 0, .null, .null]))] ++ B5) := hD
  refine lv_aload_n hx hb dX9_init_54 rfl (lv_at hl 0 rfl) ?_
  refine lv_bipush (v := 6) hx hb dX9_init_55 (by decide) ?_
  refine c_newa (atype := .int) (a0 := (6, .inl (fun _ => 0))) hx hb (hts _ c_ac_int) rfl (fun _ h => by cases h) hK (t0 := 0) rfl hP hD hS hA (fun _ => rfl) (by decide) (by decide) (Nat.le_of_ble_eq_true rfl) (Nat.le_of_ble_eq_true rfl) (Nat.le_of_ble_eq_true rfl) dX9_init_57 (fun q6 H hP hD hS => ?_)
  have hP : va_P D vwCl ([(h0, .inr (9, [.int 0, .ref q1, .ref q2, .ref q3, .ref q4, .int 0, .ref q5, .null, .null, .null, .int 0, .null, .int 0, .null, .null]))] ++ (B5 ++ [(q6, .inl (cI, 6, .inl (fun _ => 0)))])) H := by rw [← List.append_assoc]; exact hP
  have hD : va_D A ([(h0, .inr (9, [.int 0, .ref q1, .ref q2, .ref q3, .ref q4, .int 0, .ref q5, .null, .null, .null, .int 0, .null, .int 0, .null, .null]))] ++ (B5 ++ [(q6, .inl (cI, 6, .inl (fun _ => 0)))])) := by rw [← List.append_assoc]; exact hD
  obtain ⟨B6, hB6⟩ : ∃ z : va_W, z = B5 ++ [(q6, .inl (cI, 6, .inl (fun _ => 0)))] := ⟨_, rfl⟩
  rewrite [← hB6] at hP hD
  refine W.widen (k := 6) (n := 44) (Nat.le_of_ble_eq_true rfl) (Nat.le_of_ble_eq_true rfl) ?_
  refine va_putF (D := D) (ci := 9) (v := .ref q6) (ty := tyX9 7) (C := RX9) (T := TX9) (N := 15) hx hb hts x_in9 tyX9 tyX9_ok nmX9 hown hK hP hD hS 0 rfl rfl 7 (by decide) (hts _ xl_X9_35) (fun _ h9 => h9) rfl hin rfl (tyX9_ok 7 (by decide)) rfl rfl (Nat.le_of_ble_eq_true rfl) dX9_init_59 (fun H locs hP hD hS => ?_)
  have hP : va_P D vwCl ([(h0, .inr (9, [.int 0, .ref q1, .ref q2, .ref q3, .ref q4, .int 0, .ref q5, .ref q6, .null, .null, .int 0, .null, .int 0, .null, .null]))] ++ B6) H := hP
  have hD : va_D A ([(h0, .inr (9, [.int 0, .ref q1, .ref q2, .ref q3, .ref q4, .int 0, .ref q5, .ref q6, .null, .null, .int 0, .null, .int 0, .null, .null]))] ++ B6) := hD
  refine lv_aload_n hx hb dX9_init_62 rfl (lv_at hl 0 rfl) ?_
  refine lv_bipush (v := 6) hx hb dX9_init_63 (by decide) ?_
  refine c_newa (atype := .int) (a0 := (6, .inl (fun _ => 0))) hx hb (hts _ c_ac_int) rfl (fun _ h => by cases h) hK (t0 := 0) rfl hP hD hS hA (fun _ => rfl) (by decide) (by decide) (Nat.le_of_ble_eq_true rfl) (Nat.le_of_ble_eq_true rfl) (Nat.le_of_ble_eq_true rfl) dX9_init_65 (fun q7 H hP hD hS => ?_)
  have hP : va_P D vwCl ([(h0, .inr (9, [.int 0, .ref q1, .ref q2, .ref q3, .ref q4, .int 0, .ref q5, .ref q6, .null, .null, .int 0, .null, .int 0, .null, .null]))] ++ (B6 ++ [(q7, .inl (cI, 6, .inl (fun _ => 0)))])) H := by rw [← List.append_assoc]; exact hP
  have hD : va_D A ([(h0, .inr (9, [.int 0, .ref q1, .ref q2, .ref q3, .ref q4, .int 0, .ref q5, .ref q6, .null, .null, .int 0, .null, .int 0, .null, .null]))] ++ (B6 ++ [(q7, .inl (cI, 6, .inl (fun _ => 0)))])) := by rw [← List.append_assoc]; exact hD
  obtain ⟨B7, hB7⟩ : ∃ z : va_W, z = B6 ++ [(q7, .inl (cI, 6, .inl (fun _ => 0)))] := ⟨_, rfl⟩
  rewrite [← hB7] at hP hD
  refine W.widen (k := 7) (n := 50) (Nat.le_of_ble_eq_true rfl) (Nat.le_of_ble_eq_true rfl) ?_
  refine va_putF (D := D) (ci := 9) (v := .ref q7) (ty := tyX9 8) (C := RX9) (T := TX9) (N := 15) hx hb hts x_in9 tyX9 tyX9_ok nmX9 hown hK hP hD hS 0 rfl rfl 8 (by decide) (hts _ xl_X9_38) (fun _ h9 => h9) rfl hin rfl (tyX9_ok 8 (by decide)) rfl rfl (Nat.le_of_ble_eq_true rfl) dX9_init_67 (fun H locs hP hD hS => ?_)
  have hP : va_P D vwCl ([(h0, .inr (9, [.int 0, .ref q1, .ref q2, .ref q3, .ref q4, .int 0, .ref q5, .ref q6, .ref q7, .null, .int 0, .null, .int 0, .null, .null]))] ++ B7) H := hP
  have hD : va_D A ([(h0, .inr (9, [.int 0, .ref q1, .ref q2, .ref q3, .ref q4, .int 0, .ref q5, .ref q6, .ref q7, .null, .int 0, .null, .int 0, .null, .null]))] ++ B7) := hD
  refine lv_aload_n hx hb dX9_init_70 rfl (lv_at hl 0 rfl) ?_
  refine lv_bipush (v := 6) hx hb dX9_init_71 (by decide) ?_
  refine c_newa (atype := .int) (a0 := (6, .inl (fun _ => 0))) hx hb (hts _ c_ac_int) rfl (fun _ h => by cases h) hK (t0 := 0) rfl hP hD hS hA (fun _ => rfl) (by decide) (by decide) (Nat.le_of_ble_eq_true rfl) (Nat.le_of_ble_eq_true rfl) (Nat.le_of_ble_eq_true rfl) dX9_init_73 (fun q8 H hP hD hS => ?_)
  have hP : va_P D vwCl ([(h0, .inr (9, [.int 0, .ref q1, .ref q2, .ref q3, .ref q4, .int 0, .ref q5, .ref q6, .ref q7, .null, .int 0, .null, .int 0, .null, .null]))] ++ (B7 ++ [(q8, .inl (cI, 6, .inl (fun _ => 0)))])) H := by rw [← List.append_assoc]; exact hP
  have hD : va_D A ([(h0, .inr (9, [.int 0, .ref q1, .ref q2, .ref q3, .ref q4, .int 0, .ref q5, .ref q6, .ref q7, .null, .int 0, .null, .int 0, .null, .null]))] ++ (B7 ++ [(q8, .inl (cI, 6, .inl (fun _ => 0)))])) := by rw [← List.append_assoc]; exact hD
  obtain ⟨B8, hB8⟩ : ∃ z : va_W, z = B7 ++ [(q8, .inl (cI, 6, .inl (fun _ => 0)))] := ⟨_, rfl⟩
  rewrite [← hB8] at hP hD
  refine W.widen (k := 8) (n := 56) (Nat.le_of_ble_eq_true rfl) (Nat.le_of_ble_eq_true rfl) ?_
  refine va_putF (D := D) (ci := 9) (v := .ref q8) (ty := tyX9 9) (C := RX9) (T := TX9) (N := 15) hx hb hts x_in9 tyX9 tyX9_ok nmX9 hown hK hP hD hS 0 rfl rfl 9 (by decide) (hts _ xl_X9_41) (fun _ h9 => h9) rfl hin rfl (tyX9_ok 9 (by decide)) rfl rfl (Nat.le_of_ble_eq_true rfl) dX9_init_75 (fun H locs hP hD hS => ?_)
  have hP : va_P D vwCl ([(h0, .inr (9, [.int 0, .ref q1, .ref q2, .ref q3, .ref q4, .int 0, .ref q5, .ref q6, .ref q7, .ref q8, .int 0, .null, .int 0, .null, .null]))] ++ B8) H := hP
  have hD : va_D A ([(h0, .inr (9, [.int 0, .ref q1, .ref q2, .ref q3, .ref q4, .int 0, .ref q5, .ref q6, .ref q7, .ref q8, .int 0, .null, .int 0, .null, .null]))] ++ B8) := hD
  refine lv_aload_n hx hb dX9_init_78 rfl (lv_at hl 0 rfl) ?_
  refine lv_iconst (v := 0) hx hb dX9_init_79 (by decide) ?_
  refine va_put (D := D) (ci := 9) (v := .int 0) (ty := tyX9 10) (C := RX9) (T := TX9) (N := 15) hx hb hts x_in9 tyX9 tyX9_ok nmX9 hown hK hP hD hS 0 rfl rfl 10 (by decide) (hts _ xl_X9_44) (fun _ h9 => h9) rfl (tyX9_ok 10 (by decide)) rfl rfl (Nat.le_of_ble_eq_true rfl) dX9_init_80 (fun H locs hP hD hS => ?_)
  have hP : va_P D vwCl ([(h0, .inr (9, [.int 0, .ref q1, .ref q2, .ref q3, .ref q4, .int 0, .ref q5, .ref q6, .ref q7, .ref q8, .int 0, .null, .int 0, .null, .null]))] ++ B8) H := hP
  have hD : va_D A ([(h0, .inr (9, [.int 0, .ref q1, .ref q2, .ref q3, .ref q4, .int 0, .ref q5, .ref q6, .ref q7, .ref q8, .int 0, .null, .int 0, .null, .null]))] ++ B8) := hD
  refine lv_aload_n hx hb dX9_init_83 rfl (lv_at hl 0 rfl) ?_
  refine lv_bipush (v := 8) hx hb dX9_init_84 (by decide) ?_
  refine c_newa (atype := .int) (a0 := (8, .inl (fun _ => 0))) hx hb (hts _ c_ac_int) rfl (fun _ h => by cases h) hK (t0 := 0) rfl hP hD hS hA (fun _ => rfl) (by decide) (by decide) (Nat.le_of_ble_eq_true rfl) (Nat.le_of_ble_eq_true rfl) (Nat.le_of_ble_eq_true rfl) dX9_init_86 (fun q9 H hP hD hS => ?_)
  have hP : va_P D vwCl ([(h0, .inr (9, [.int 0, .ref q1, .ref q2, .ref q3, .ref q4, .int 0, .ref q5, .ref q6, .ref q7, .ref q8, .int 0, .null, .int 0, .null, .null]))] ++ (B8 ++ [(q9, .inl (cI, 8, .inl (fun _ => 0)))])) H := by rw [← List.append_assoc]; exact hP
  have hD : va_D A ([(h0, .inr (9, [.int 0, .ref q1, .ref q2, .ref q3, .ref q4, .int 0, .ref q5, .ref q6, .ref q7, .ref q8, .int 0, .null, .int 0, .null, .null]))] ++ (B8 ++ [(q9, .inl (cI, 8, .inl (fun _ => 0)))])) := by rw [← List.append_assoc]; exact hD
  obtain ⟨B9, hB9⟩ : ∃ z : va_W, z = B8 ++ [(q9, .inl (cI, 8, .inl (fun _ => 0)))] := ⟨_, rfl⟩
  rewrite [← hB9] at hP hD
  refine W.widen (k := 9) (n := 64) (Nat.le_of_ble_eq_true rfl) (Nat.le_of_ble_eq_true rfl) ?_
  refine va_putF (D := D) (ci := 9) (v := .ref q9) (ty := tyX9 11) (C := RX9) (T := TX9) (N := 15) hx hb hts x_in9 tyX9 tyX9_ok nmX9 hown hK hP hD hS 0 rfl rfl 11 (by decide) (hts _ xl_X9_47) (fun _ h9 => h9) rfl hin rfl (tyX9_ok 11 (by decide)) rfl rfl (Nat.le_of_ble_eq_true rfl) dX9_init_88 (fun H locs hP hD hS => ?_)
  have hP : va_P D vwCl ([(h0, .inr (9, [.int 0, .ref q1, .ref q2, .ref q3, .ref q4, .int 0, .ref q5, .ref q6, .ref q7, .ref q8, .int 0, .ref q9, .int 0, .null, .null]))] ++ B9) H := hP
  have hD : va_D A ([(h0, .inr (9, [.int 0, .ref q1, .ref q2, .ref q3, .ref q4, .int 0, .ref q5, .ref q6, .ref q7, .ref q8, .int 0, .ref q9, .int 0, .null, .null]))] ++ B9) := hD
  refine lv_aload_n hx hb dX9_init_91 rfl (lv_at hl 0 rfl) ?_
  refine lv_iconst (v := 0) hx hb dX9_init_92 (by decide) ?_
  refine va_put (D := D) (ci := 9) (v := .int 0) (ty := tyX9 12) (C := RX9) (T := TX9) (N := 15) hx hb hts x_in9 tyX9 tyX9_ok nmX9 hown hK hP hD hS 0 rfl rfl 12 (by decide) (hts _ xl_X9_50) (fun _ h9 => h9) rfl (tyX9_ok 12 (by decide)) rfl rfl (Nat.le_of_ble_eq_true rfl) dX9_init_93 (fun H locs hP hD hS => ?_)
  have hP : va_P D vwCl ([(h0, .inr (9, [.int 0, .ref q1, .ref q2, .ref q3, .ref q4, .int 0, .ref q5, .ref q6, .ref q7, .ref q8, .int 0, .ref q9, .int 0, .null, .null]))] ++ B9) H := hP
  have hD : va_D A ([(h0, .inr (9, [.int 0, .ref q1, .ref q2, .ref q3, .ref q4, .int 0, .ref q5, .ref q6, .ref q7, .ref q8, .int 0, .ref q9, .int 0, .null, .null]))] ++ B9) := hD
  refine lv_aload_n hx hb dX9_init_96 rfl (lv_at hl 0 rfl) ?_
  refine va_new (ci := 4) (fs := [.null, .null, .int 0, .int 0]) (C := RX4) (T := TX4) (N := 4) hx hb hts x_in4 tyX4 tyX4_ok hown (hts _ c_cl9_53) (hts _ c_is4.1) (hts _ c_is4.2) hK hP hD hS hA rfl c_df4 (Nat.le_of_ble_eq_true rfl) (Nat.le_of_ble_eq_true rfl) dX9_init_97 (fun q10 H hP hD hS => ?_)
  refine W.widen (k := 10) (n := 68) (Nat.le_of_ble_eq_true rfl) (Nat.le_of_ble_eq_true rfl) ?_
  refine lv_dup hx hb dX9_init_100 rfl ?_
  refine lv_iconst (v := 0) hx hb dX9_init_101 (by decide) ?_
  have hPc : va_P D vwCl [(q10, .inr (4, [.null, .null, .int 0, .int 0]))] H := c_right hP
  have hDc : va_D A [(q10, .inr (4, [.null, .null, .int 0, .int 0]))] := c_rightD hD
  have hFc := c_free (wc := [(q10, .inr (4, [.null, .null, .int 0, .int 0]))]) hD hS hA
  refine va_callv (va_runI (As := [.int 0]) (rest := [.ref q10, .ref h0]) ⟨hx, hb, hml, hown, hts⟩ (kc_4_14 l D cI cB cZ cQ q10 H.size) ⟨callB_of 1 hts (gT_in (fun w h => (List.mem_cons.mp h).elim (fun e => e ▸ c_cw4.1) id)) rfl rfl rfl (hts _ c_is4.2) (hts _ c_lk9_55) c_cw4.2.2 ⟨(Nat.le_of_ble_eq_true rfl), (Nat.le_of_ble_eq_true rfl)⟩, rfl, hts _ c_cw4.2.1⟩ ⟨fun a U g mk q => by obtain ⟨q0, q1, qP, qK, qD, qN, qO⟩ := q; exact ⟨q0, q1, qP, va_K.moved (u := U) (U := U.calling g mk a) (Vm.Alike.refl U.vm) qK, qD, xNest_warm (State.WarmedH.refl U) qN, aoa_moved (u := U) (U := U.calling g mk a) (Vm.Alike.refl U.vm) qO⟩, fun U hU hW => ⟨rfl, by rw [hU], by rw [hU]; exact hPc, va_K.moved hW.alike hK, hDc.weaken (fun _ _ _ _ => trivial), xNest_warm hW hN, aoa_moved hW.alike hAO⟩⟩ rfl rfl hl.1 rfl (lv_room (Nat.le_of_ble_eq_true rfl)) dX9_init_102 ⟨(Nat.le_of_ble_eq_true rfl), (Nat.le_of_ble_eq_true rfl)⟩) hS (fun q _ h => hFc q h) hFc (fun u10 t H1 locs ht hvm hw hB hz1 hk1 hS => ?_)
  obtain ⟨hu10, hP1, hK1, hD1⟩ := hB
  rewrite [ht] at hP1
  obtain ⟨hP, hD⟩ := c_join (wr := [(h0, .inr (9, [.int 0, .ref q1, .ref q2, .ref q3, .ref q4, .int 0, .ref q5, .ref q6, .ref q7, .ref q8, .int 0, .ref q9, .int 0, .null, .null]))] ++ B9) (w1 := xb cI cB cZ cQ u10 14 3) hP hD hk1 hFc hP1 hD1
  generalize H1 = H at hP hS ⊢
  have hP : va_P D vwCl ([(h0, .inr (9, [.int 0, .ref q1, .ref q2, .ref q3, .ref q4, .int 0, .ref q5, .ref q6, .ref q7, .ref q8, .int 0, .ref q9, .int 0, .null, .null]))] ++ (B9 ++ xb cI cB cZ cQ u10 14 3)) H := by rw [← List.append_assoc]; exact hP
  have hD : va_D A ([(h0, .inr (9, [.int 0, .ref q1, .ref q2, .ref q3, .ref q4, .int 0, .ref q5, .ref q6, .ref q7, .ref q8, .int 0, .ref q9, .int 0, .null, .null]))] ++ (B9 ++ xb cI cB cZ cQ u10 14 3)) := by rw [← List.append_assoc]; exact hD
  obtain ⟨B10, hB10⟩ : ∃ z : va_W, z = B9 ++ xb cI cB cZ cQ u10 14 3 := ⟨_, rfl⟩
  rewrite [← hB10] at hP hD
  have hz10 : Value.ref q10 = .ref (u10 14) := by rw [hu10]
  refine W.widen (k := 12) (n := 799) (Nat.le_of_ble_eq_true rfl) (Nat.le_of_ble_eq_true rfl) ?_
  rw [hz10]
  refine va_putF (D := D) (ci := 9) (v := .ref (u10 14)) (ty := tyX9 13) (C := RX9) (T := TX9) (N := 15) hx hb hts x_in9 tyX9 tyX9_ok nmX9 hown hK hP hD hS 0 rfl rfl 13 (by decide) (hts _ xl_X9_58) (fun _ h9 => h9) rfl hin rfl (tyX9_ok 13 (by decide)) rfl rfl (Nat.le_of_ble_eq_true rfl) dX9_init_105 (fun H locs hP hD hS => ?_)
  have hP : va_P D vwCl ([(h0, .inr (9, [.int 0, .ref q1, .ref q2, .ref q3, .ref q4, .int 0, .ref q5, .ref q6, .ref q7, .ref q8, .int 0, .ref q9, .int 0, .ref (u10 14), .null]))] ++ B10) H := hP
  have hD : va_D A ([(h0, .inr (9, [.int 0, .ref q1, .ref q2, .ref q3, .ref q4, .int 0, .ref q5, .ref q6, .ref q7, .ref q8, .int 0, .ref q9, .int 0, .ref (u10 14), .null]))] ++ B10) := hD
  refine lv_aload_n hx hb dX9_init_108 rfl (lv_at hl 0 rfl) ?_
  refine va_new (ci := 4) (fs := [.null, .null, .int 0, .int 0]) (C := RX4) (T := TX4) (N := 4) hx hb hts x_in4 tyX4 tyX4_ok hown (hts _ c_cl9_53) (hts _ c_is4.1) (hts _ c_is4.2) hK hP hD hS hA rfl c_df4 (Nat.le_of_ble_eq_true rfl) (Nat.le_of_ble_eq_true rfl) dX9_init_109 (fun q11 H hP hD hS => ?_)
  refine W.widen (k := 13) (n := 803) (Nat.le_of_ble_eq_true rfl) (Nat.le_of_ble_eq_true rfl) ?_
  refine lv_dup hx hb dX9_init_112 rfl ?_
  refine lv_iconst (v := 1) hx hb dX9_init_113 (by decide) ?_
  have hPc : va_P D vwCl [(q11, .inr (4, [.null, .null, .int 0, .int 0]))] H := c_right hP
  have hDc : va_D A [(q11, .inr (4, [.null, .null, .int 0, .int 0]))] := c_rightD hD
  have hFc := c_free (wc := [(q11, .inr (4, [.null, .null, .int 0, .int 0]))]) hD hS hA
  refine va_callv (va_runI (As := [.int 1]) (rest := [.ref q11, .ref h0]) ⟨hx, hb, hml, hown, hts⟩ (kc_4_17 l D cI cB cZ cQ q11 H.size) ⟨callB_of 1 hts (gT_in (fun w h => (List.mem_cons.mp h).elim (fun e => e ▸ c_cw4.1) id)) rfl rfl rfl (hts _ c_is4.2) (hts _ c_lk9_55) c_cw4.2.2 ⟨(Nat.le_of_ble_eq_true rfl), (Nat.le_of_ble_eq_true rfl)⟩, rfl, hts _ c_cw4.2.1⟩ ⟨fun a U g mk q => by obtain ⟨q0, q1, qP, qK, qD, qN, qO⟩ := q; exact ⟨q0, q1, qP, va_K.moved (u := U) (U := U.calling g mk a) (Vm.Alike.refl U.vm) qK, qD, xNest_warm (State.WarmedH.refl U) qN, aoa_moved (u := U) (U := U.calling g mk a) (Vm.Alike.refl U.vm) qO⟩, fun U hU hW => ⟨rfl, by rw [hU], by rw [hU]; exact hPc, va_K.moved hW.alike hK, hDc.weaken (fun _ _ _ _ => trivial), xNest_warm hW hN, aoa_moved hW.alike hAO⟩⟩ rfl rfl hl.1 rfl (lv_room (Nat.le_of_ble_eq_true rfl)) dX9_init_114 ⟨(Nat.le_of_ble_eq_true rfl), (Nat.le_of_ble_eq_true rfl)⟩) hS (fun q _ h => hFc q h) hFc (fun u11 t H1 locs ht hvm hw hB hz1 hk1 hS => ?_)
  obtain ⟨hu11, hP1, hK1, hD1⟩ := hB
  rewrite [ht] at hP1
  obtain ⟨hP, hD⟩ := c_join (wr := [(h0, .inr (9, [.int 0, .ref q1, .ref q2, .ref q3, .ref q4, .int 0, .ref q5, .ref q6, .ref q7, .ref q8, .int 0, .ref q9, .int 0, .ref (u10 14), .null]))] ++ B10) (w1 := xb cI cB cZ cQ u11 17 3) hP hD hk1 hFc hP1 hD1
  generalize H1 = H at hP hS ⊢
  have hP : va_P D vwCl ([(h0, .inr (9, [.int 0, .ref q1, .ref q2, .ref q3, .ref q4, .int 0, .ref q5, .ref q6, .ref q7, .ref q8, .int 0, .ref q9, .int 0, .ref (u10 14), .null]))] ++ (B10 ++ xb cI cB cZ cQ u11 17 3)) H := by rw [← List.append_assoc]; exact hP
  have hD : va_D A ([(h0, .inr (9, [.int 0, .ref q1, .ref q2, .ref q3, .ref q4, .int 0, .ref q5, .ref q6, .ref q7, .ref q8, .int 0, .ref q9, .int 0, .ref (u10 14), .null]))] ++ (B10 ++ xb cI cB cZ cQ u11 17 3)) := by rw [← List.append_assoc]; exact hD
  obtain ⟨B11, hB11⟩ : ∃ z : va_W, z = B10 ++ xb cI cB cZ cQ u11 17 3 := ⟨_, rfl⟩
  rewrite [← hB11] at hP hD
  have hz11 : Value.ref q11 = .ref (u11 17) := by rw [hu11]
  refine W.widen (k := 15) (n := 1534) (Nat.le_of_ble_eq_true rfl) (Nat.le_of_ble_eq_true rfl) ?_
  rw [hz11]
  refine va_putF (D := D) (ci := 9) (v := .ref (u11 17)) (ty := tyX9 14) (C := RX9) (T := TX9) (N := 15) hx hb hts x_in9 tyX9 tyX9_ok nmX9 hown hK hP hD hS 0 rfl rfl 14 (by decide) (hts _ xl_X9_62) (fun _ h9 => h9) rfl hin rfl (tyX9_ok 14 (by decide)) rfl rfl (Nat.le_of_ble_eq_true rfl) dX9_init_117 (fun H locs hP hD hS => ?_)
  have hP : va_P D vwCl ([(h0, .inr (9, [.int 0, .ref q1, .ref q2, .ref q3, .ref q4, .int 0, .ref q5, .ref q6, .ref q7, .ref q8, .int 0, .ref q9, .int 0, .ref (u10 14), .ref (u11 17)]))] ++ B11) H := hP
  have hD : va_D A ([(h0, .inr (9, [.int 0, .ref q1, .ref q2, .ref q3, .ref q4, .int 0, .ref q5, .ref q6, .ref q7, .ref q8, .int 0, .ref q9, .int 0, .ref (u10 14), .ref (u11 17)]))] ++ B11) := hD
  rewrite [hB11, hB10, hB9, hB8, hB7, hB6, hB5, hB4, hB3, hB2, hB1, hB0] at hP hD
  have hP9 : va_P D vwCl (xb cI cB cZ cQ (xj (xj (xj (xj (xj (xj (xj (xj (xj (xj (xj (fun _ => h0) 5 (fun _ => q1)) 6 (fun _ => q2)) 7 (fun _ => q3)) 8 (fun _ => q4)) 9 (fun _ => q5)) 10 (fun _ => q6)) 11 (fun _ => q7)) 12 (fun _ => q8)) 13 (fun _ => q9)) 14 u10) 17 u11) 4 16) H := hP
  have hD9 : va_D A (xb cI cB cZ cQ (xj (xj (xj (xj (xj (xj (xj (xj (xj (xj (xj (fun _ => h0) 5 (fun _ => q1)) 6 (fun _ => q2)) 7 (fun _ => q3)) 8 (fun _ => q4)) 9 (fun _ => q5)) 10 (fun _ => q6)) 11 (fun _ => q7)) 12 (fun _ => q8)) 13 (fun _ => q9)) 14 u10) 17 u11) 4 16) := hD
  exact W.vret hx hb hr (fun t ht hW => ⟨⟨(xj (xj (xj (xj (xj (xj (xj (xj (xj (xj (xj (fun _ => h0) 5 (fun _ => q1)) 6 (fun _ => q2)) 7 (fun _ => q3)) 8 (fun _ => q4)) 9 (fun _ => q5)) 10 (fun _ => q6)) 11 (fun _ => q7)) 12 (fun _ => q8)) 13 (fun _ => q9)) 14 u10) 17 u11), rfl, trivial, rfl, by rw [ht]; exact hP9, va_K.moved hW.alike hK, hD9⟩, hS.F ht⟩) hS.2.2 dX9_init_120 hlocks
set_option maxHeartbeats 4000000 in
set_option maxRecDepth 100000 in
theorem kg_7 (l : Launch) (D : va_G) (cI cB cZ cQ : ClassId) (h0 : Nat) (b : Nat) (ws : (Nat → Nat) → va_W) (hws : ∀ q1 q2 q3 q4 : Nat, ∃ u : Nat → Nat, u b = h0 ∧ ws u = [(h0, .inr (7, [.int 0, .int 0, .ref q1, .ref q2, .ref q3, .ref q4])), (q1, .inl (cI, 6, .inl (fun _ => 0))), (q2, .inl (cI, 6, .inl (fun _ => 0))), (q3, .inl (cI, 6, .inl (fun _ => 0))), (q4, .inl (cI, 6, .inl (fun _ => 0)))]) : cM l yX7_init cX7_init 1 1 4 24 D (xtys cI cB cZ cQ) [.ref h0] [(h0, .inr (7, [.int 0, .int 0, .null, .null, .null, .null]))] b h0 ws := by
  intro sz
  refine Met.ofW (cc := cX7_init) (maxL := 1) (ret := none) (by decide) rfl ?_
  intro p e s m args below meth c s₁ B hml hv
  obtain ⟨rfl, hsz, hP, hK, hD0, hN, hAO⟩ := hv
  have hx := B.exec
  have hb := B.bytes
  have hr := B.returns
  have hts : ∀ w ∈ gT, w.before _ s = true := fun w h => atoms_spec (ws := Cond.code yX7_init cX7_init 1 none :: gT) B.pre w (List.mem_cons_of_mem _ h)
  have hown : s.vm.findClass RX7 = some m.cls := findClass_of_methodNamed B.named
  have hlocks := B.notSynchronized
  have hin : meth.name = "<init>" := (name_of_methodNamed B.named B.method).1
  subst hsz
  have hD := hD0.self (sz := s.heap.size)
  generalize hAe : va_A [(h0, .inr (7, [.int 0, .int 0, .null, .null, .null, .null]))] s.heap.size = A at hD ⊢
  have hA : ∀ q : Nat, s.heap.size ≤ q → A q := fun q h => by rw [← hAe]; exact Or.inr h
  have hS : va_S A s.heap s.heap [] := va_S.rf
  have hl := lv_entry ([.ref h0]) (n := 1) (Nat.le_of_ble_eq_true rfl)
  rw [lg_entry_eq]
  generalize (lg_sl ([.ref h0]) ++ List.replicate (1 - (lg_sl ([.ref h0])).length) Slot.unset).toArray = ls at hl ⊢
  have hl : lv_has ls 1 [(0, .ref h0)] := hl
  obtain ⟨B0, hB0⟩ : ∃ z : va_W, z = [] := ⟨_, rfl⟩
  have hP : va_P D vwCl ([(h0, .inr (7, [.int 0, .int 0, .null, .null, .null, .null]))] ++ B0) s.heap := by rw [hB0]; exact hP
  have hD : va_D A ([(h0, .inr (7, [.int 0, .int 0, .null, .null, .null, .null]))] ++ B0) := by rw [hB0]; exact hD
  refine lv_aload_n hx hb dX7_init_0 rfl (lv_at hl 0 rfl) ?_
  refine W.objInit hx hb hown (hts _ c_oi7) (hts _ c_ob.1) (hts _ c_ob.2) rfl (by rw [hml]; exact hl.1) rfl dX7_init_1 (Nat.le_of_ble_eq_true rfl) (Nat.le_of_ble_eq_true rfl) ?_
  refine W.eq (g2 := F0 m 4 ls []) rfl ?_
  refine lv_aload_n hx hb dX7_init_4 rfl (lv_at hl 0 rfl) ?_
  refine lv_iconst (v := 0) hx hb dX7_init_5 (by decide) ?_
  refine va_put (D := D) (ci := 7) (v := .int 0) (ty := tyX7 0) (C := RX7) (T := TX7) (N := 6) hx hb hts x_in7 tyX7 tyX7_ok nmX7 hown hK hP hD hS 0 rfl rfl 0 (by decide) (hts _ xl_X7_9) (fun _ h9 => h9) rfl (tyX7_ok 0 (by decide)) rfl rfl (Nat.le_of_ble_eq_true rfl) dX7_init_6 (fun H locs hP hD hS => ?_)
  have hP : va_P D vwCl ([(h0, .inr (7, [.int 0, .int 0, .null, .null, .null, .null]))] ++ B0) H := hP
  have hD : va_D A ([(h0, .inr (7, [.int 0, .int 0, .null, .null, .null, .null]))] ++ B0) := hD
  refine lv_aload_n hx hb dX7_init_9 rfl (lv_at hl 0 rfl) ?_
  refine lv_iconst (v := 0) hx hb dX7_init_10 (by decide) ?_
  refine va_put (D := D) (ci := 7) (v := .int 0) (ty := tyX7 1) (C := RX7) (T := TX7) (N := 6) hx hb hts x_in7 tyX7 tyX7_ok nmX7 hown hK hP hD hS 0 rfl rfl 1 (by decide) (hts _ xl_X7_15) (fun _ h9 => h9) rfl (tyX7_ok 1 (by decide)) rfl rfl (Nat.le_of_ble_eq_true rfl) dX7_init_11 (fun H locs hP hD hS => ?_)
  have hP : va_P D vwCl ([(h0, .inr (7, [.int 0, .int 0, .null, .null, .null, .null]))] ++ B0) H := hP
  have hD : va_D A ([(h0, .inr (7, [.int 0, .int 0, .null, .null, .null, .null]))] ++ B0) := hD
  refine lv_aload_n hx hb dX7_init_14 rfl (lv_at hl 0 rfl) ?_
  refine lv_bipush (v := 6) hx hb dX7_init_15 (by decide) ?_
  refine c_newa (atype := .int) (a0 := (6, .inl (fun _ => 0))) hx hb (hts _ c_ac_int) rfl (fun _ h => by cases h) hK (t0 := 0) rfl hP hD hS hA (fun _ => rfl) (by decide) (by decide) (Nat.le_of_ble_eq_true rfl) (Nat.le_of_ble_eq_true rfl) (Nat.le_of_ble_eq_true rfl) dX7_init_17 (fun q1 H hP hD hS => ?_)
  have hP : va_P D vwCl ([(h0, .inr (7, [.int 0, .int 0, .null, .null, .null, .null]))] ++ (B0 ++ [(q1, .inl (cI, 6, .inl (fun _ => 0)))])) H := by rw [← List.append_assoc]; exact hP
  have hD : va_D A ([(h0, .inr (7, [.int 0, .int 0, .null, .null, .null, .null]))] ++ (B0 ++ [(q1, .inl (cI, 6, .inl (fun _ => 0)))])) := by rw [← List.append_assoc]; exact hD
  obtain ⟨B1, hB1⟩ : ∃ z : va_W, z = B0 ++ [(q1, .inl (cI, 6, .inl (fun _ => 0)))] := ⟨_, rfl⟩
  rewrite [← hB1] at hP hD
  refine W.widen (k := 1) (n := 6) (Nat.le_of_ble_eq_true rfl) (Nat.le_of_ble_eq_true rfl) ?_
  refine va_putF (D := D) (ci := 7) (v := .ref q1) (ty := tyX7 2) (C := RX7) (T := TX7) (N := 6) hx hb hts x_in7 tyX7 tyX7_ok nmX7 hown hK hP hD hS 0 rfl rfl 2 (by decide) (hts _ xl_X7_18) (fun _ h9 => h9) rfl hin rfl (tyX7_ok 2 (by decide)) rfl rfl (Nat.le_of_ble_eq_true rfl) dX7_init_19 (fun H locs hP hD hS => ?_)
  have hP : va_P D vwCl ([(h0, .inr (7, [.int 0, .int 0, .ref q1, .null, .null, .null]))] ++ B1) H := hP
  have hD : va_D A ([(h0, .inr (7, [.int 0, .int 0, .ref q1, .null, .null, .null]))] ++ B1) := hD
  refine lv_aload_n hx hb dX7_init_22 rfl (lv_at hl 0 rfl) ?_
  refine lv_bipush (v := 6) hx hb dX7_init_23 (by decide) ?_
  refine c_newa (atype := .int) (a0 := (6, .inl (fun _ => 0))) hx hb (hts _ c_ac_int) rfl (fun _ h => by cases h) hK (t0 := 0) rfl hP hD hS hA (fun _ => rfl) (by decide) (by decide) (Nat.le_of_ble_eq_true rfl) (Nat.le_of_ble_eq_true rfl) (Nat.le_of_ble_eq_true rfl) dX7_init_25 (fun q2 H hP hD hS => ?_)
  have hP : va_P D vwCl ([(h0, .inr (7, [.int 0, .int 0, .ref q1, .null, .null, .null]))] ++ (B1 ++ [(q2, .inl (cI, 6, .inl (fun _ => 0)))])) H := by rw [← List.append_assoc]; exact hP
  have hD : va_D A ([(h0, .inr (7, [.int 0, .int 0, .ref q1, .null, .null, .null]))] ++ (B1 ++ [(q2, .inl (cI, 6, .inl (fun _ => 0)))])) := by rw [← List.append_assoc]; exact hD
  obtain ⟨B2, hB2⟩ : ∃ z : va_W, z = B1 ++ [(q2, .inl (cI, 6, .inl (fun _ => 0)))] := ⟨_, rfl⟩
  rewrite [← hB2] at hP hD
  refine W.widen (k := 2) (n := 12) (Nat.le_of_ble_eq_true rfl) (Nat.le_of_ble_eq_true rfl) ?_
  refine va_putF (D := D) (ci := 7) (v := .ref q2) (ty := tyX7 3) (C := RX7) (T := TX7) (N := 6) hx hb hts x_in7 tyX7 tyX7_ok nmX7 hown hK hP hD hS 0 rfl rfl 3 (by decide) (hts _ xl_X7_22) (fun _ h9 => h9) rfl hin rfl (tyX7_ok 3 (by decide)) rfl rfl (Nat.le_of_ble_eq_true rfl) dX7_init_27 (fun H locs hP hD hS => ?_)
  have hP : va_P D vwCl ([(h0, .inr (7, [.int 0, .int 0, .ref q1, .ref q2, .null, .null]))] ++ B2) H := hP
  have hD : va_D A ([(h0, .inr (7, [.int 0, .int 0, .ref q1, .ref q2, .null, .null]))] ++ B2) := hD
  refine lv_aload_n hx hb dX7_init_30 rfl (lv_at hl 0 rfl) ?_
  refine lv_bipush (v := 6) hx hb dX7_init_31 (by decide) ?_
  refine c_newa (atype := .int) (a0 := (6, .inl (fun _ => 0))) hx hb (hts _ c_ac_int) rfl (fun _ h => by cases h) hK (t0 := 0) rfl hP hD hS hA (fun _ => rfl) (by decide) (by decide) (Nat.le_of_ble_eq_true rfl) (Nat.le_of_ble_eq_true rfl) (Nat.le_of_ble_eq_true rfl) dX7_init_33 (fun q3 H hP hD hS => ?_)
  have hP : va_P D vwCl ([(h0, .inr (7, [.int 0, .int 0, .ref q1, .ref q2, .null, .null]))] ++ (B2 ++ [(q3, .inl (cI, 6, .inl (fun _ => 0)))])) H := by rw [← List.append_assoc]; exact hP
  have hD : va_D A ([(h0, .inr (7, [.int 0, .int 0, .ref q1, .ref q2, .null, .null]))] ++ (B2 ++ [(q3, .inl (cI, 6, .inl (fun _ => 0)))])) := by rw [← List.append_assoc]; exact hD
  obtain ⟨B3, hB3⟩ : ∃ z : va_W, z = B2 ++ [(q3, .inl (cI, 6, .inl (fun _ => 0)))] := ⟨_, rfl⟩
  rewrite [← hB3] at hP hD
  refine W.widen (k := 3) (n := 18) (Nat.le_of_ble_eq_true rfl) (Nat.le_of_ble_eq_true rfl) ?_
  refine va_putF (D := D) (ci := 7) (v := .ref q3) (ty := tyX7 4) (C := RX7) (T := TX7) (N := 6) hx hb hts x_in7 tyX7 tyX7_ok nmX7 hown hK hP hD hS 0 rfl rfl 4 (by decide) (hts _ xl_X7_25) (fun _ h9 => h9) rfl hin rfl (tyX7_ok 4 (by decide)) rfl rfl (Nat.le_of_ble_eq_true rfl) dX7_init_35 (fun H locs hP hD hS => ?_)
  have hP : va_P D vwCl ([(h0, .inr (7, [.int 0, .int 0, .ref q1, .ref q2, .ref q3, .null]))] ++ B3) H := hP
  have hD : va_D A ([(h0, .inr (7, [.int 0, .int 0, .ref q1, .ref q2, .ref q3, .null]))] ++ B3) := hD
  refine lv_aload_n hx hb dX7_init_38 rfl (lv_at hl 0 rfl) ?_
  refine lv_bipush (v := 6) hx hb dX7_init_39 (by decide) ?_
  refine c_newa (atype := .int) (a0 := (6, .inl (fun _ => 0))) hx hb (hts _ c_ac_int) rfl (fun _ h => by cases h) hK (t0 := 0) rfl hP hD hS hA (fun _ => rfl) (by decide) (by decide) (Nat.le_of_ble_eq_true rfl) (Nat.le_of_ble_eq_true rfl) (Nat.le_of_ble_eq_true rfl) dX7_init_41 (fun q4 H hP hD hS => ?_)
  have hP : va_P D vwCl ([(h0, .inr (7, [.int 0, .int 0, .ref q1, .ref q2, .ref q3, .null]))] ++ (B3 ++ [(q4, .inl (cI, 6, .inl (fun _ => 0)))])) H := by rw [← List.append_assoc]; exact hP
  have hD : va_D A ([(h0, .inr (7, [.int 0, .int 0, .ref q1, .ref q2, .ref q3, .null]))] ++ (B3 ++ [(q4, .inl (cI, 6, .inl (fun _ => 0)))])) := by rw [← List.append_assoc]; exact hD
  obtain ⟨B4, hB4⟩ : ∃ z : va_W, z = B3 ++ [(q4, .inl (cI, 6, .inl (fun _ => 0)))] := ⟨_, rfl⟩
  rewrite [← hB4] at hP hD
  refine W.widen (k := 4) (n := 24) (Nat.le_of_ble_eq_true rfl) (Nat.le_of_ble_eq_true rfl) ?_
  refine va_putF (D := D) (ci := 7) (v := .ref q4) (ty := tyX7 5) (C := RX7) (T := TX7) (N := 6) hx hb hts x_in7 tyX7 tyX7_ok nmX7 hown hK hP hD hS 0 rfl rfl 5 (by decide) (hts _ xl_X7_28) (fun _ h9 => h9) rfl hin rfl (tyX7_ok 5 (by decide)) rfl rfl (Nat.le_of_ble_eq_true rfl) dX7_init_43 (fun H locs hP hD hS => ?_)
  have hP : va_P D vwCl ([(h0, .inr (7, [.int 0, .int 0, .ref q1, .ref q2, .ref q3, .ref q4]))] ++ B4) H := hP
  have hD : va_D A ([(h0, .inr (7, [.int 0, .int 0, .ref q1, .ref q2, .ref q3, .ref q4]))] ++ B4) := hD
  rewrite [hB4, hB3, hB2, hB1, hB0] at hP hD
  obtain ⟨u, hu, hwe⟩ := hws q1 q2 q3 q4
  have hP9 : va_P D vwCl (ws u) H := by rewrite [hwe]; exact hP
  have hD9 : va_D A (ws u) := by rewrite [hwe]; exact hD
  exact W.vret hx hb hr (fun t ht hW => ⟨⟨u, rfl, trivial, hu, by rw [ht]; exact hP9, va_K.moved hW.alike hK, hD9⟩, hS.F ht⟩) hS.2.2 dX7_init_46 hlocks
theorem kc_7_21 (l : Launch) (D : va_G) (cI cB cZ cQ : ClassId) (h0 : Nat) : cM l yX7_init cX7_init 1 1 4 24 D (xtys cI cB cZ cQ) [.ref h0] [(h0, .inr (7, [.int 0, .int 0, .null, .null, .null, .null]))] 21 h0 (fun u => xb cI cB cZ cQ u 21 5) :=
  kg_7 l D cI cB cZ cQ h0 21 _ (fun q1 q2 q3 q4 => ⟨(xj (xj (xj (xj (fun _ => h0) 22 (fun _ => q1)) 23 (fun _ => q2)) 24 (fun _ => q3)) 25 (fun _ => q4)), rfl, rfl⟩)
set_option maxHeartbeats 4000000 in
set_option maxRecDepth 100000 in
theorem kg_0 (l : Launch) (D : va_G) (cI cB cZ cQ : ClassId) (h0 : Nat) (b : Nat) (ws : (Nat → Nat) → va_W) (hws : ∀ q1 : Nat, ∃ u : Nat → Nat, u b = h0 ∧ ws u = [(h0, .inr (0, [.ref q1, .int 0])), (q1, .inl (cI, 1040, .inl (fun _ => 0)))]) : cM l yX0_init cX0_init 1 1 1 1040 D (xtys cI cB cZ cQ) [.ref h0] [(h0, .inr (0, [.null, .int 0]))] b h0 ws := by
  intro sz
  refine Met.ofW (cc := cX0_init) (maxL := 1) (ret := none) (by decide) rfl ?_
  intro p e s m args below meth c s₁ B hml hv
  obtain ⟨rfl, hsz, hP, hK, hD0, hN, hAO⟩ := hv
  have hx := B.exec
  have hb := B.bytes
  have hr := B.returns
  have hts : ∀ w ∈ gT, w.before _ s = true := fun w h => atoms_spec (ws := Cond.code yX0_init cX0_init 1 none :: gT) B.pre w (List.mem_cons_of_mem _ h)
  have hown : s.vm.findClass RX0 = some m.cls := findClass_of_methodNamed B.named
  have hlocks := B.notSynchronized
  have hin : meth.name = "<init>" := (name_of_methodNamed B.named B.method).1
  subst hsz
  have hD := hD0.self (sz := s.heap.size)
  generalize hAe : va_A [(h0, .inr (0, [.null, .int 0]))] s.heap.size = A at hD ⊢
  have hA : ∀ q : Nat, s.heap.size ≤ q → A q := fun q h => by rw [← hAe]; exact Or.inr h
  have hS : va_S A s.heap s.heap [] := va_S.rf
  have hl := lv_entry ([.ref h0]) (n := 1) (Nat.le_of_ble_eq_true rfl)
  rw [lg_entry_eq]
  generalize (lg_sl ([.ref h0]) ++ List.replicate (1 - (lg_sl ([.ref h0])).length) Slot.unset).toArray = ls at hl ⊢
  have hl : lv_has ls 1 [(0, .ref h0)] := hl
  obtain ⟨B0, hB0⟩ : ∃ z : va_W, z = [] := ⟨_, rfl⟩
  have hP : va_P D vwCl ([(h0, .inr (0, [.null, .int 0]))] ++ B0) s.heap := by rw [hB0]; exact hP
  have hD : va_D A ([(h0, .inr (0, [.null, .int 0]))] ++ B0) := by rw [hB0]; exact hD
  refine lv_aload_n hx hb dX0_init_0 rfl (lv_at hl 0 rfl) ?_
  refine W.objInit hx hb hown (hts _ c_oi0) (hts _ c_ob.1) (hts _ c_ob.2) rfl (by rw [hml]; exact hl.1) rfl dX0_init_1 (Nat.le_of_ble_eq_true rfl) (Nat.le_of_ble_eq_true rfl) ?_
  refine W.eq (g2 := F0 m 4 ls []) rfl ?_
  refine lv_aload_n hx hb dX0_init_4 rfl (lv_at hl 0 rfl) ?_
  refine lv_sipush (v := 1040) hx hb dX0_init_5 (by decide) ?_
  refine c_newa (atype := .int) (a0 := (1040, .inl (fun _ => 0))) hx hb (hts _ c_ac_int) rfl (fun _ h => by cases h) hK (t0 := 0) rfl hP hD hS hA (fun _ => rfl) (by decide) (by decide) (Nat.le_of_ble_eq_true rfl) (Nat.le_of_ble_eq_true rfl) (Nat.le_of_ble_eq_true rfl) dX0_init_8 (fun q1 H hP hD hS => ?_)
  have hP : va_P D vwCl ([(h0, .inr (0, [.null, .int 0]))] ++ (B0 ++ [(q1, .inl (cI, 1040, .inl (fun _ => 0)))])) H := by rw [← List.append_assoc]; exact hP
  have hD : va_D A ([(h0, .inr (0, [.null, .int 0]))] ++ (B0 ++ [(q1, .inl (cI, 1040, .inl (fun _ => 0)))])) := by rw [← List.append_assoc]; exact hD
  obtain ⟨B1, hB1⟩ : ∃ z : va_W, z = B0 ++ [(q1, .inl (cI, 1040, .inl (fun _ => 0)))] := ⟨_, rfl⟩
  rewrite [← hB1] at hP hD
  refine W.widen (k := 1) (n := 1040) (Nat.le_of_ble_eq_true rfl) (Nat.le_of_ble_eq_true rfl) ?_
  refine va_putF (D := D) (ci := 0) (v := .ref q1) (ty := tyX0 0) (C := RX0) (T := TX0) (N := 2) hx hb hts x_in0 tyX0 tyX0_ok nmX0 hown hK hP hD hS 0 rfl rfl 0 (by decide) (hts _ xl_X0_11) (fun _ h9 => h9) rfl hin rfl (tyX0_ok 0 (by decide)) rfl rfl (Nat.le_of_ble_eq_true rfl) dX0_init_10 (fun H locs hP hD hS => ?_)
  have hP : va_P D vwCl ([(h0, .inr (0, [.ref q1, .int 0]))] ++ B1) H := hP
  have hD : va_D A ([(h0, .inr (0, [.ref q1, .int 0]))] ++ B1) := hD
  refine lv_aload_n hx hb dX0_init_13 rfl (lv_at hl 0 rfl) ?_
  refine lv_iconst (v := 0) hx hb dX0_init_14 (by decide) ?_
  refine va_put (D := D) (ci := 0) (v := .int 0) (ty := tyX0 1) (C := RX0) (T := TX0) (N := 2) hx hb hts x_in0 tyX0 tyX0_ok nmX0 hown hK hP hD hS 0 rfl rfl 1 (by decide) (hts _ xl_X0_17) (fun _ h9 => h9) rfl (tyX0_ok 1 (by decide)) rfl rfl (Nat.le_of_ble_eq_true rfl) dX0_init_15 (fun H locs hP hD hS => ?_)
  have hP : va_P D vwCl ([(h0, .inr (0, [.ref q1, .int 0]))] ++ B1) H := hP
  have hD : va_D A ([(h0, .inr (0, [.ref q1, .int 0]))] ++ B1) := hD
  rewrite [hB1, hB0] at hP hD
  obtain ⟨u, hu, hwe⟩ := hws q1
  have hP9 : va_P D vwCl (ws u) H := by rewrite [hwe]; exact hP
  have hD9 : va_D A (ws u) := by rewrite [hwe]; exact hD
  exact W.vret hx hb hr (fun t ht hW => ⟨⟨u, rfl, trivial, hu, by rw [ht]; exact hP9, va_K.moved hW.alike hK, hD9⟩, hS.F ht⟩) hS.2.2 dX0_init_18 hlocks
theorem kc_0_26 (l : Launch) (D : va_G) (cI cB cZ cQ : ClassId) (h0 : Nat) : cM l yX0_init cX0_init 1 1 1 1040 D (xtys cI cB cZ cQ) [.ref h0] [(h0, .inr (0, [.null, .int 0]))] 26 h0 (fun u => xb cI cB cZ cQ u 26 2) :=
  kg_0 l D cI cB cZ cQ h0 26 _ (fun q1 => ⟨(xj (fun _ => h0) 27 (fun _ => q1)), rfl, rfl⟩)
set_option maxHeartbeats 4000000 in
set_option maxRecDepth 100000 in
theorem kg_5 (l : Launch) (D : va_G) (cI cB cZ cQ : ClassId) (h0 : Nat) (b : Nat) (ws : (Nat → Nat) → va_W) (hws : ∀ q1 q2 q3 : Nat, ∃ u : Nat → Nat, u b = h0 ∧ ws u = [(h0, .inr (5, [.ref q1, .ref q2, .ref q3, .int 0])), (q1, .inl (cI, 8, .inl (fun _ => 0))), (q2, .inl (cI, 8, .inl (fun _ => 0))), (q3, .inl (cI, 8, .inl (fun _ => 0)))]) : cM l yX5_init cX5_init 1 1 3 24 D (xtys cI cB cZ cQ) [.ref h0] [(h0, .inr (5, [.null, .null, .null, .int 0]))] b h0 ws := by
  intro sz
  refine Met.ofW (cc := cX5_init) (maxL := 1) (ret := none) (by decide) rfl ?_
  intro p e s m args below meth c s₁ B hml hv
  obtain ⟨rfl, hsz, hP, hK, hD0, hN, hAO⟩ := hv
  have hx := B.exec
  have hb := B.bytes
  have hr := B.returns
  have hts : ∀ w ∈ gT, w.before _ s = true := fun w h => atoms_spec (ws := Cond.code yX5_init cX5_init 1 none :: gT) B.pre w (List.mem_cons_of_mem _ h)
  have hown : s.vm.findClass RX5 = some m.cls := findClass_of_methodNamed B.named
  have hlocks := B.notSynchronized
  have hin : meth.name = "<init>" := (name_of_methodNamed B.named B.method).1
  subst hsz
  have hD := hD0.self (sz := s.heap.size)
  generalize hAe : va_A [(h0, .inr (5, [.null, .null, .null, .int 0]))] s.heap.size = A at hD ⊢
  have hA : ∀ q : Nat, s.heap.size ≤ q → A q := fun q h => by rw [← hAe]; exact Or.inr h
  have hS : va_S A s.heap s.heap [] := va_S.rf
  have hl := lv_entry ([.ref h0]) (n := 1) (Nat.le_of_ble_eq_true rfl)
  rw [lg_entry_eq]
  generalize (lg_sl ([.ref h0]) ++ List.replicate (1 - (lg_sl ([.ref h0])).length) Slot.unset).toArray = ls at hl ⊢
  have hl : lv_has ls 1 [(0, .ref h0)] := hl
  obtain ⟨B0, hB0⟩ : ∃ z : va_W, z = [] := ⟨_, rfl⟩
  have hP : va_P D vwCl ([(h0, .inr (5, [.null, .null, .null, .int 0]))] ++ B0) s.heap := by rw [hB0]; exact hP
  have hD : va_D A ([(h0, .inr (5, [.null, .null, .null, .int 0]))] ++ B0) := by rw [hB0]; exact hD
  refine lv_aload_n hx hb dX5_init_0 rfl (lv_at hl 0 rfl) ?_
  refine W.objInit hx hb hown (hts _ c_oi5) (hts _ c_ob.1) (hts _ c_ob.2) rfl (by rw [hml]; exact hl.1) rfl dX5_init_1 (Nat.le_of_ble_eq_true rfl) (Nat.le_of_ble_eq_true rfl) ?_
  refine W.eq (g2 := F0 m 4 ls []) rfl ?_
  refine lv_aload_n hx hb dX5_init_4 rfl (lv_at hl 0 rfl) ?_
  refine lv_bipush (v := 8) hx hb dX5_init_5 (by decide) ?_
  refine c_newa (atype := .int) (a0 := (8, .inl (fun _ => 0))) hx hb (hts _ c_ac_int) rfl (fun _ h => by cases h) hK (t0 := 0) rfl hP hD hS hA (fun _ => rfl) (by decide) (by decide) (Nat.le_of_ble_eq_true rfl) (Nat.le_of_ble_eq_true rfl) (Nat.le_of_ble_eq_true rfl) dX5_init_7 (fun q1 H hP hD hS => ?_)
  have hP : va_P D vwCl ([(h0, .inr (5, [.null, .null, .null, .int 0]))] ++ (B0 ++ [(q1, .inl (cI, 8, .inl (fun _ => 0)))])) H := by rw [← List.append_assoc]; exact hP
  have hD : va_D A ([(h0, .inr (5, [.null, .null, .null, .int 0]))] ++ (B0 ++ [(q1, .inl (cI, 8, .inl (fun _ => 0)))])) := by rw [← List.append_assoc]; exact hD
  obtain ⟨B1, hB1⟩ : ∃ z : va_W, z = B0 ++ [(q1, .inl (cI, 8, .inl (fun _ => 0)))] := ⟨_, rfl⟩
  rewrite [← hB1] at hP hD
  refine W.widen (k := 1) (n := 8) (Nat.le_of_ble_eq_true rfl) (Nat.le_of_ble_eq_true rfl) ?_
  refine va_putF (D := D) (ci := 5) (v := .ref q1) (ty := tyX5 0) (C := RX5) (T := TX5) (N := 4) hx hb hts x_in5 tyX5 tyX5_ok nmX5 hown hK hP hD hS 0 rfl rfl 0 (by decide) (hts _ xl_X5_9) (fun _ h9 => h9) rfl hin rfl (tyX5_ok 0 (by decide)) rfl rfl (Nat.le_of_ble_eq_true rfl) dX5_init_9 (fun H locs hP hD hS => ?_)
  have hP : va_P D vwCl ([(h0, .inr (5, [.ref q1, .null, .null, .int 0]))] ++ B1) H := hP
  have hD : va_D A ([(h0, .inr (5, [.ref q1, .null, .null, .int 0]))] ++ B1) := hD
  refine lv_aload_n hx hb dX5_init_12 rfl (lv_at hl 0 rfl) ?_
  refine lv_bipush (v := 8) hx hb dX5_init_13 (by decide) ?_
  refine c_newa (atype := .int) (a0 := (8, .inl (fun _ => 0))) hx hb (hts _ c_ac_int) rfl (fun _ h => by cases h) hK (t0 := 0) rfl hP hD hS hA (fun _ => rfl) (by decide) (by decide) (Nat.le_of_ble_eq_true rfl) (Nat.le_of_ble_eq_true rfl) (Nat.le_of_ble_eq_true rfl) dX5_init_15 (fun q2 H hP hD hS => ?_)
  have hP : va_P D vwCl ([(h0, .inr (5, [.ref q1, .null, .null, .int 0]))] ++ (B1 ++ [(q2, .inl (cI, 8, .inl (fun _ => 0)))])) H := by rw [← List.append_assoc]; exact hP
  have hD : va_D A ([(h0, .inr (5, [.ref q1, .null, .null, .int 0]))] ++ (B1 ++ [(q2, .inl (cI, 8, .inl (fun _ => 0)))])) := by rw [← List.append_assoc]; exact hD
  obtain ⟨B2, hB2⟩ : ∃ z : va_W, z = B1 ++ [(q2, .inl (cI, 8, .inl (fun _ => 0)))] := ⟨_, rfl⟩
  rewrite [← hB2] at hP hD
  refine W.widen (k := 2) (n := 16) (Nat.le_of_ble_eq_true rfl) (Nat.le_of_ble_eq_true rfl) ?_
  refine va_putF (D := D) (ci := 5) (v := .ref q2) (ty := tyX5 1) (C := RX5) (T := TX5) (N := 4) hx hb hts x_in5 tyX5 tyX5_ok nmX5 hown hK hP hD hS 0 rfl rfl 1 (by decide) (hts _ xl_X5_15) (fun _ h9 => h9) rfl hin rfl (tyX5_ok 1 (by decide)) rfl rfl (Nat.le_of_ble_eq_true rfl) dX5_init_17 (fun H locs hP hD hS => ?_)
  have hP : va_P D vwCl ([(h0, .inr (5, [.ref q1, .ref q2, .null, .int 0]))] ++ B2) H := hP
  have hD : va_D A ([(h0, .inr (5, [.ref q1, .ref q2, .null, .int 0]))] ++ B2) := hD
  refine lv_aload_n hx hb dX5_init_20 rfl (lv_at hl 0 rfl) ?_
  refine lv_bipush (v := 8) hx hb dX5_init_21 (by decide) ?_
  refine c_newa (atype := .int) (a0 := (8, .inl (fun _ => 0))) hx hb (hts _ c_ac_int) rfl (fun _ h => by cases h) hK (t0 := 0) rfl hP hD hS hA (fun _ => rfl) (by decide) (by decide) (Nat.le_of_ble_eq_true rfl) (Nat.le_of_ble_eq_true rfl) (Nat.le_of_ble_eq_true rfl) dX5_init_23 (fun q3 H hP hD hS => ?_)
  have hP : va_P D vwCl ([(h0, .inr (5, [.ref q1, .ref q2, .null, .int 0]))] ++ (B2 ++ [(q3, .inl (cI, 8, .inl (fun _ => 0)))])) H := by rw [← List.append_assoc]; exact hP
  have hD : va_D A ([(h0, .inr (5, [.ref q1, .ref q2, .null, .int 0]))] ++ (B2 ++ [(q3, .inl (cI, 8, .inl (fun _ => 0)))])) := by rw [← List.append_assoc]; exact hD
  obtain ⟨B3, hB3⟩ : ∃ z : va_W, z = B2 ++ [(q3, .inl (cI, 8, .inl (fun _ => 0)))] := ⟨_, rfl⟩
  rewrite [← hB3] at hP hD
  refine W.widen (k := 3) (n := 24) (Nat.le_of_ble_eq_true rfl) (Nat.le_of_ble_eq_true rfl) ?_
  refine va_putF (D := D) (ci := 5) (v := .ref q3) (ty := tyX5 2) (C := RX5) (T := TX5) (N := 4) hx hb hts x_in5 tyX5 tyX5_ok nmX5 hown hK hP hD hS 0 rfl rfl 2 (by decide) (hts _ xl_X5_18) (fun _ h9 => h9) rfl hin rfl (tyX5_ok 2 (by decide)) rfl rfl (Nat.le_of_ble_eq_true rfl) dX5_init_25 (fun H locs hP hD hS => ?_)
  have hP : va_P D vwCl ([(h0, .inr (5, [.ref q1, .ref q2, .ref q3, .int 0]))] ++ B3) H := hP
  have hD : va_D A ([(h0, .inr (5, [.ref q1, .ref q2, .ref q3, .int 0]))] ++ B3) := hD
  refine lv_aload_n hx hb dX5_init_28 rfl (lv_at hl 0 rfl) ?_
  refine lv_iconst (v := 0) hx hb dX5_init_29 (by decide) ?_
  refine va_put (D := D) (ci := 5) (v := .int 0) (ty := tyX5 3) (C := RX5) (T := TX5) (N := 4) hx hb hts x_in5 tyX5 tyX5_ok nmX5 hown hK hP hD hS 0 rfl rfl 3 (by decide) (hts _ xl_X5_21) (fun _ h9 => h9) rfl (tyX5_ok 3 (by decide)) rfl rfl (Nat.le_of_ble_eq_true rfl) dX5_init_30 (fun H locs hP hD hS => ?_)
  have hP : va_P D vwCl ([(h0, .inr (5, [.ref q1, .ref q2, .ref q3, .int 0]))] ++ B3) H := hP
  have hD : va_D A ([(h0, .inr (5, [.ref q1, .ref q2, .ref q3, .int 0]))] ++ B3) := hD
  rewrite [hB3, hB2, hB1, hB0] at hP hD
  obtain ⟨u, hu, hwe⟩ := hws q1 q2 q3
  have hP9 : va_P D vwCl (ws u) H := by rewrite [hwe]; exact hP
  have hD9 : va_D A (ws u) := by rewrite [hwe]; exact hD
  exact W.vret hx hb hr (fun t ht hW => ⟨⟨u, rfl, trivial, hu, by rw [ht]; exact hP9, va_K.moved hW.alike hK, hD9⟩, hS.F ht⟩) hS.2.2 dX5_init_33 hlocks
theorem kc_5_28 (l : Launch) (D : va_G) (cI cB cZ cQ : ClassId) (h0 : Nat) : cM l yX5_init cX5_init 1 1 3 24 D (xtys cI cB cZ cQ) [.ref h0] [(h0, .inr (5, [.null, .null, .null, .int 0]))] 28 h0 (fun u => xb cI cB cZ cQ u 28 4) :=
  kg_5 l D cI cB cZ cQ h0 28 _ (fun q1 q2 q3 => ⟨(xj (xj (xj (fun _ => h0) 29 (fun _ => q1)) 30 (fun _ => q2)) 31 (fun _ => q3)), rfl, rfl⟩)
set_option maxHeartbeats 4000000 in
set_option maxRecDepth 100000 in
theorem kc_1_20 (l : Launch) (D : va_G) (cI cB cZ cQ : ClassId) (h0 : Nat) : cM l yX1_init cX1_init 1 2 12 1103 D (xtys cI cB cZ cQ) [.ref h0] [(h0, .inr (1, [.null, .null, .null, .null]))] 20 h0 (fun u => xb cI cB cZ cQ u 20 13) := by
  intro sz
  refine Met.ofW (cc := cX1_init) (maxL := 1) (ret := none) (by decide) rfl ?_
  intro p e s m args below meth c s₁ B hml hv
  obtain ⟨rfl, hsz, hP, hK, hD0, hN, hAO⟩ := hv
  have hx := B.exec
  have hb := B.bytes
  have hr := B.returns
  have hts : ∀ w ∈ gT, w.before _ s = true := fun w h => atoms_spec (ws := Cond.code yX1_init cX1_init 1 none :: gT) B.pre w (List.mem_cons_of_mem _ h)
  have hown : s.vm.findClass RX1 = some m.cls := findClass_of_methodNamed B.named
  have hlocks := B.notSynchronized
  have hin : meth.name = "<init>" := (name_of_methodNamed B.named B.method).1
  subst hsz
  have hD := hD0.self (sz := s.heap.size)
  generalize hAe : va_A [(h0, .inr (1, [.null, .null, .null, .null]))] s.heap.size = A at hD ⊢
  have hA : ∀ q : Nat, s.heap.size ≤ q → A q := fun q h => by rw [← hAe]; exact Or.inr h
  have hS : va_S A s.heap s.heap [] := va_S.rf
  have hl := lv_entry ([.ref h0]) (n := 1) (Nat.le_of_ble_eq_true rfl)
  rw [lg_entry_eq]
  generalize (lg_sl ([.ref h0]) ++ List.replicate (1 - (lg_sl ([.ref h0])).length) Slot.unset).toArray = ls at hl ⊢
  have hl : lv_has ls 1 [(0, .ref h0)] := hl
  obtain ⟨B0, hB0⟩ : ∃ z : va_W, z = [] := ⟨_, rfl⟩
  have hP : va_P D vwCl ([(h0, .inr (1, [.null, .null, .null, .null]))] ++ B0) s.heap := by rw [hB0]; exact hP
  have hD : va_D A ([(h0, .inr (1, [.null, .null, .null, .null]))] ++ B0) := by rw [hB0]; exact hD
  refine lv_aload_n hx hb dX1_init_0 rfl (lv_at hl 0 rfl) ?_
  refine W.objInit hx hb hown (hts _ c_oi1) (hts _ c_ob.1) (hts _ c_ob.2) rfl (by rw [hml]; exact hl.1) rfl dX1_init_1 (Nat.le_of_ble_eq_true rfl) (Nat.le_of_ble_eq_true rfl) ?_
  refine W.eq (g2 := F0 m 4 ls []) rfl ?_
  refine lv_aload_n hx hb dX1_init_4 rfl (lv_at hl 0 rfl) ?_
  refine va_new (ci := 7) (fs := [.int 0, .int 0, .null, .null, .null, .null]) (C := RX7) (T := TX7) (N := 6) hx hb hts x_in7 tyX7 tyX7_ok hown (hts _ c_cl1_9) (hts _ c_is7.1) (hts _ c_is7.2) hK hP hD hS hA rfl c_df7 (Nat.le_of_ble_eq_true rfl) (Nat.le_of_ble_eq_true rfl) dX1_init_5 (fun q1 H hP hD hS => ?_)
  refine W.widen (k := 1) (n := 6) (Nat.le_of_ble_eq_true rfl) (Nat.le_of_ble_eq_true rfl) ?_
  refine lv_dup hx hb dX1_init_8 rfl ?_
  have hPc : va_P D vwCl [(q1, .inr (7, [.int 0, .int 0, .null, .null, .null, .null]))] H := c_right hP
  have hDc : va_D A [(q1, .inr (7, [.int 0, .int 0, .null, .null, .null, .null]))] := c_rightD hD
  have hFc := c_free (wc := [(q1, .inr (7, [.int 0, .int 0, .null, .null, .null, .null]))]) hD hS hA
  refine va_callv (va_runIN (As := []) (rest := [.ref q1, .ref h0]) ⟨hx, hb, hml, hown, hts⟩ (kc_7_21 l D cI cB cZ cQ q1 H.size) ⟨va_cnB (host := "GrottoHours") 0 hts (gT_in (fun w h => (List.mem_cons.mp h).elim (fun e => e ▸ c_cw7.1) id)) rfl rfl rfl (hN _ (List.mem_of_getElem? (i := 51) rfl)) (hts _ c_is7.2) c_cw7.2.2 ⟨(Nat.le_of_ble_eq_true rfl), (Nat.le_of_ble_eq_true rfl)⟩, rfl, hts _ c_cw7.2.1⟩ ⟨fun a U g mk q => by obtain ⟨q0, q1, qP, qK, qD, qN, qO⟩ := q; exact ⟨q0, q1, qP, va_K.moved (u := U) (U := U.calling g mk a) (Vm.Alike.refl U.vm) qK, qD, xNest_warm (State.WarmedH.refl U) qN, aoa_moved (u := U) (U := U.calling g mk a) (Vm.Alike.refl U.vm) qO⟩, fun U hU hW => ⟨rfl, by rw [hU], by rw [hU]; exact hPc, va_K.moved hW.alike hK, hDc.weaken (fun _ _ _ _ => trivial), xNest_warm hW hN, aoa_moved hW.alike hAO⟩⟩ rfl rfl hl.1 rfl (lv_room (Nat.le_of_ble_eq_true rfl)) dX1_init_9 ⟨(Nat.le_of_ble_eq_true rfl), (Nat.le_of_ble_eq_true rfl)⟩) hS (fun q _ h => hFc q h) hFc (fun u1 t H1 locs ht hvm hw hB hz1 hk1 hS => ?_)
  obtain ⟨hu1, hP1, hK1, hD1⟩ := hB
  rewrite [ht] at hP1
  obtain ⟨hP, hD⟩ := c_join (wr := [(h0, .inr (1, [.null, .null, .null, .null]))] ++ B0) (w1 := xb cI cB cZ cQ u1 21 5) hP hD hk1 hFc hP1 hD1
  generalize H1 = H at hP hS ⊢
  have hP : va_P D vwCl ([(h0, .inr (1, [.null, .null, .null, .null]))] ++ (B0 ++ xb cI cB cZ cQ u1 21 5)) H := by rw [← List.append_assoc]; exact hP
  have hD : va_D A ([(h0, .inr (1, [.null, .null, .null, .null]))] ++ (B0 ++ xb cI cB cZ cQ u1 21 5)) := by rw [← List.append_assoc]; exact hD
  obtain ⟨B1, hB1⟩ : ∃ z : va_W, z = B0 ++ xb cI cB cZ cQ u1 21 5 := ⟨_, rfl⟩
  rewrite [← hB1] at hP hD
  have hz1 : Value.ref q1 = .ref (u1 21) := by rw [hu1]
  refine W.widen (k := 5) (n := 30) (Nat.le_of_ble_eq_true rfl) (Nat.le_of_ble_eq_true rfl) ?_
  rw [hz1]
  refine va_putF (D := D) (ci := 1) (v := .ref (u1 21)) (ty := tyX1 0) (C := RX1) (T := TX1) (N := 4) hx hb hts x_in1 tyX1 tyX1_ok nmX1 hown hK hP hD hS 0 rfl rfl 0 (by decide) (hts _ xl_X1_12) (fun _ h9 => h9) rfl hin rfl (tyX1_ok 0 (by decide)) rfl rfl (Nat.le_of_ble_eq_true rfl) dX1_init_12 (fun H locs hP hD hS => ?_)
  have hP : va_P D vwCl ([(h0, .inr (1, [.ref (u1 21), .null, .null, .null]))] ++ B1) H := hP
  have hD : va_D A ([(h0, .inr (1, [.ref (u1 21), .null, .null, .null]))] ++ B1) := hD
  refine lv_aload_n hx hb dX1_init_15 rfl (lv_at hl 0 rfl) ?_
  refine va_new (ci := 0) (fs := [.null, .int 0]) (C := RX0) (T := TX0) (N := 2) hx hb hts x_in0 tyX0 tyX0_ok hown (hts _ c_cl1_18) (hts _ c_is0.1) (hts _ c_is0.2) hK hP hD hS hA rfl c_df0 (Nat.le_of_ble_eq_true rfl) (Nat.le_of_ble_eq_true rfl) dX1_init_16 (fun q2 H hP hD hS => ?_)
  refine W.widen (k := 6) (n := 32) (Nat.le_of_ble_eq_true rfl) (Nat.le_of_ble_eq_true rfl) ?_
  refine lv_dup hx hb dX1_init_19 rfl ?_
  have hPc : va_P D vwCl [(q2, .inr (0, [.null, .int 0]))] H := c_right hP
  have hDc : va_D A [(q2, .inr (0, [.null, .int 0]))] := c_rightD hD
  have hFc := c_free (wc := [(q2, .inr (0, [.null, .int 0]))]) hD hS hA
  refine va_callv (va_runIN (As := []) (rest := [.ref q2, .ref h0]) ⟨hx, hb, hml, hown, hts⟩ (kc_0_26 l D cI cB cZ cQ q2 H.size) ⟨va_cnB (host := "GrottoHours") 0 hts (gT_in (fun w h => (List.mem_cons.mp h).elim (fun e => e ▸ c_cw0.1) id)) rfl rfl rfl (hN _ (List.mem_of_getElem? (i := 65) rfl)) (hts _ c_is0.2) c_cw0.2.2 ⟨(Nat.le_of_ble_eq_true rfl), (Nat.le_of_ble_eq_true rfl)⟩, rfl, hts _ c_cw0.2.1⟩ ⟨fun a U g mk q => by obtain ⟨q0, q1, qP, qK, qD, qN, qO⟩ := q; exact ⟨q0, q1, qP, va_K.moved (u := U) (U := U.calling g mk a) (Vm.Alike.refl U.vm) qK, qD, xNest_warm (State.WarmedH.refl U) qN, aoa_moved (u := U) (U := U.calling g mk a) (Vm.Alike.refl U.vm) qO⟩, fun U hU hW => ⟨rfl, by rw [hU], by rw [hU]; exact hPc, va_K.moved hW.alike hK, hDc.weaken (fun _ _ _ _ => trivial), xNest_warm hW hN, aoa_moved hW.alike hAO⟩⟩ rfl rfl hl.1 rfl (lv_room (Nat.le_of_ble_eq_true rfl)) dX1_init_20 ⟨(Nat.le_of_ble_eq_true rfl), (Nat.le_of_ble_eq_true rfl)⟩) hS (fun q _ h => hFc q h) hFc (fun u2 t H1 locs ht hvm hw hB hz1 hk1 hS => ?_)
  obtain ⟨hu2, hP1, hK1, hD1⟩ := hB
  rewrite [ht] at hP1
  obtain ⟨hP, hD⟩ := c_join (wr := [(h0, .inr (1, [.ref (u1 21), .null, .null, .null]))] ++ B1) (w1 := xb cI cB cZ cQ u2 26 2) hP hD hk1 hFc hP1 hD1
  generalize H1 = H at hP hS ⊢
  have hP : va_P D vwCl ([(h0, .inr (1, [.ref (u1 21), .null, .null, .null]))] ++ (B1 ++ xb cI cB cZ cQ u2 26 2)) H := by rw [← List.append_assoc]; exact hP
  have hD : va_D A ([(h0, .inr (1, [.ref (u1 21), .null, .null, .null]))] ++ (B1 ++ xb cI cB cZ cQ u2 26 2)) := by rw [← List.append_assoc]; exact hD
  obtain ⟨B2, hB2⟩ : ∃ z : va_W, z = B1 ++ xb cI cB cZ cQ u2 26 2 := ⟨_, rfl⟩
  rewrite [← hB2] at hP hD
  have hz2 : Value.ref q2 = .ref (u2 26) := by rw [hu2]
  refine W.widen (k := 7) (n := 1072) (Nat.le_of_ble_eq_true rfl) (Nat.le_of_ble_eq_true rfl) ?_
  rw [hz2]
  refine va_putF (D := D) (ci := 1) (v := .ref (u2 26)) (ty := tyX1 1) (C := RX1) (T := TX1) (N := 4) hx hb hts x_in1 tyX1 tyX1_ok nmX1 hown hK hP hD hS 0 rfl rfl 1 (by decide) (hts _ xl_X1_21) (fun _ h9 => h9) rfl hin rfl (tyX1_ok 1 (by decide)) rfl rfl (Nat.le_of_ble_eq_true rfl) dX1_init_23 (fun H locs hP hD hS => ?_)
  have hP : va_P D vwCl ([(h0, .inr (1, [.ref (u1 21), .ref (u2 26), .null, .null]))] ++ B2) H := hP
  have hD : va_D A ([(h0, .inr (1, [.ref (u1 21), .ref (u2 26), .null, .null]))] ++ B2) := hD
  refine lv_aload_n hx hb dX1_init_26 rfl (lv_at hl 0 rfl) ?_
  refine va_new (ci := 5) (fs := [.null, .null, .null, .int 0]) (C := RX5) (T := TX5) (N := 4) hx hb hts x_in5 tyX5 tyX5_ok hown (hts _ c_cl1_25) (hts _ c_is5.1) (hts _ c_is5.2) hK hP hD hS hA rfl c_df5 (Nat.le_of_ble_eq_true rfl) (Nat.le_of_ble_eq_true rfl) dX1_init_27 (fun q3 H hP hD hS => ?_)
  refine W.widen (k := 8) (n := 1076) (Nat.le_of_ble_eq_true rfl) (Nat.le_of_ble_eq_true rfl) ?_
  refine lv_dup hx hb dX1_init_30 rfl ?_
  have hPc : va_P D vwCl [(q3, .inr (5, [.null, .null, .null, .int 0]))] H := c_right hP
  have hDc : va_D A [(q3, .inr (5, [.null, .null, .null, .int 0]))] := c_rightD hD
  have hFc := c_free (wc := [(q3, .inr (5, [.null, .null, .null, .int 0]))]) hD hS hA
  refine va_callv (va_runIN (As := []) (rest := [.ref q3, .ref h0]) ⟨hx, hb, hml, hown, hts⟩ (kc_5_28 l D cI cB cZ cQ q3 H.size) ⟨va_cnB (host := "GrottoHours") 0 hts (gT_in (fun w h => (List.mem_cons.mp h).elim (fun e => e ▸ c_cw5.1) id)) rfl rfl rfl (hN _ (List.mem_of_getElem? (i := 68) rfl)) (hts _ c_is5.2) c_cw5.2.2 ⟨(Nat.le_of_ble_eq_true rfl), (Nat.le_of_ble_eq_true rfl)⟩, rfl, hts _ c_cw5.2.1⟩ ⟨fun a U g mk q => by obtain ⟨q0, q1, qP, qK, qD, qN, qO⟩ := q; exact ⟨q0, q1, qP, va_K.moved (u := U) (U := U.calling g mk a) (Vm.Alike.refl U.vm) qK, qD, xNest_warm (State.WarmedH.refl U) qN, aoa_moved (u := U) (U := U.calling g mk a) (Vm.Alike.refl U.vm) qO⟩, fun U hU hW => ⟨rfl, by rw [hU], by rw [hU]; exact hPc, va_K.moved hW.alike hK, hDc.weaken (fun _ _ _ _ => trivial), xNest_warm hW hN, aoa_moved hW.alike hAO⟩⟩ rfl rfl hl.1 rfl (lv_room (Nat.le_of_ble_eq_true rfl)) dX1_init_31 ⟨(Nat.le_of_ble_eq_true rfl), (Nat.le_of_ble_eq_true rfl)⟩) hS (fun q _ h => hFc q h) hFc (fun u3 t H1 locs ht hvm hw hB hz1 hk1 hS => ?_)
  obtain ⟨hu3, hP1, hK1, hD1⟩ := hB
  rewrite [ht] at hP1
  obtain ⟨hP, hD⟩ := c_join (wr := [(h0, .inr (1, [.ref (u1 21), .ref (u2 26), .null, .null]))] ++ B2) (w1 := xb cI cB cZ cQ u3 28 4) hP hD hk1 hFc hP1 hD1
  generalize H1 = H at hP hS ⊢
  have hP : va_P D vwCl ([(h0, .inr (1, [.ref (u1 21), .ref (u2 26), .null, .null]))] ++ (B2 ++ xb cI cB cZ cQ u3 28 4)) H := by rw [← List.append_assoc]; exact hP
  have hD : va_D A ([(h0, .inr (1, [.ref (u1 21), .ref (u2 26), .null, .null]))] ++ (B2 ++ xb cI cB cZ cQ u3 28 4)) := by rw [← List.append_assoc]; exact hD
  obtain ⟨B3, hB3⟩ : ∃ z : va_W, z = B2 ++ xb cI cB cZ cQ u3 28 4 := ⟨_, rfl⟩
  rewrite [← hB3] at hP hD
  have hz3 : Value.ref q3 = .ref (u3 28) := by rw [hu3]
  refine W.widen (k := 11) (n := 1100) (Nat.le_of_ble_eq_true rfl) (Nat.le_of_ble_eq_true rfl) ?_
  rw [hz3]
  refine va_putF (D := D) (ci := 1) (v := .ref (u3 28)) (ty := tyX1 2) (C := RX1) (T := TX1) (N := 4) hx hb hts x_in1 tyX1 tyX1_ok nmX1 hown hK hP hD hS 0 rfl rfl 2 (by decide) (hts _ xl_X1_28) (fun _ h9 => h9) rfl hin rfl (tyX1_ok 2 (by decide)) rfl rfl (Nat.le_of_ble_eq_true rfl) dX1_init_34 (fun H locs hP hD hS => ?_)
  have hP : va_P D vwCl ([(h0, .inr (1, [.ref (u1 21), .ref (u2 26), .ref (u3 28), .null]))] ++ B3) H := hP
  have hD : va_D A ([(h0, .inr (1, [.ref (u1 21), .ref (u2 26), .ref (u3 28), .null]))] ++ B3) := hD
  refine lv_aload_n hx hb dX1_init_37 rfl (lv_at hl 0 rfl) ?_
  refine lv_iconst (v := 3) hx hb dX1_init_38 (by decide) ?_
  refine c_newa (atype := .int) (a0 := (3, .inl (fun _ => 0))) hx hb (hts _ c_ac_int) rfl (fun _ h => by cases h) hK (t0 := 0) rfl hP hD hS hA (fun _ => rfl) (by decide) (by decide) (Nat.le_of_ble_eq_true rfl) (Nat.le_of_ble_eq_true rfl) (Nat.le_of_ble_eq_true rfl) dX1_init_39 (fun q4 H hP hD hS => ?_)
  have hP : va_P D vwCl ([(h0, .inr (1, [.ref (u1 21), .ref (u2 26), .ref (u3 28), .null]))] ++ (B3 ++ [(q4, .inl (cI, 3, .inl (fun _ => 0)))])) H := by rw [← List.append_assoc]; exact hP
  have hD : va_D A ([(h0, .inr (1, [.ref (u1 21), .ref (u2 26), .ref (u3 28), .null]))] ++ (B3 ++ [(q4, .inl (cI, 3, .inl (fun _ => 0)))])) := by rw [← List.append_assoc]; exact hD
  obtain ⟨B4, hB4⟩ : ∃ z : va_W, z = B3 ++ [(q4, .inl (cI, 3, .inl (fun _ => 0)))] := ⟨_, rfl⟩
  rewrite [← hB4] at hP hD
  refine W.widen (k := 12) (n := 1103) (Nat.le_of_ble_eq_true rfl) (Nat.le_of_ble_eq_true rfl) ?_
  refine va_putF (D := D) (ci := 1) (v := .ref q4) (ty := tyX1 3) (C := RX1) (T := TX1) (N := 4) hx hb hts x_in1 tyX1 tyX1_ok nmX1 hown hK hP hD hS 0 rfl rfl 3 (by decide) (hts _ xl_X1_32) (fun _ h9 => h9) rfl hin rfl (tyX1_ok 3 (by decide)) rfl rfl (Nat.le_of_ble_eq_true rfl) dX1_init_41 (fun H locs hP hD hS => ?_)
  have hP : va_P D vwCl ([(h0, .inr (1, [.ref (u1 21), .ref (u2 26), .ref (u3 28), .ref q4]))] ++ B4) H := hP
  have hD : va_D A ([(h0, .inr (1, [.ref (u1 21), .ref (u2 26), .ref (u3 28), .ref q4]))] ++ B4) := hD
  rewrite [hB4, hB3, hB2, hB1, hB0] at hP hD
  have hP9 : va_P D vwCl (xb cI cB cZ cQ (xj (xj (xj (xj (fun _ => h0) 21 u1) 26 u2) 28 u3) 32 (fun _ => q4)) 20 13) H := hP
  have hD9 : va_D A (xb cI cB cZ cQ (xj (xj (xj (xj (fun _ => h0) 21 u1) 26 u2) 28 u3) 32 (fun _ => q4)) 20 13) := hD
  exact W.vret hx hb hr (fun t ht hW => ⟨⟨(xj (xj (xj (xj (fun _ => h0) 21 u1) 26 u2) 28 u3) 32 (fun _ => q4)), rfl, trivial, rfl, by rw [ht]; exact hP9, va_K.moved hW.alike hK, hD9⟩, hS.F ht⟩) hS.2.2 dX1_init_44 hlocks
theorem kc_7_34 (l : Launch) (D : va_G) (cI cB cZ cQ : ClassId) (h0 : Nat) : cM l yX7_init cX7_init 1 1 4 24 D (xtys cI cB cZ cQ) [.ref h0] [(h0, .inr (7, [.int 0, .int 0, .null, .null, .null, .null]))] 34 h0 (fun u => xb cI cB cZ cQ u 34 5) :=
  kg_7 l D cI cB cZ cQ h0 34 _ (fun q1 q2 q3 q4 => ⟨(xj (xj (xj (xj (fun _ => h0) 35 (fun _ => q1)) 36 (fun _ => q2)) 37 (fun _ => q3)) 38 (fun _ => q4)), rfl, rfl⟩)
theorem kc_0_39 (l : Launch) (D : va_G) (cI cB cZ cQ : ClassId) (h0 : Nat) : cM l yX0_init cX0_init 1 1 1 1040 D (xtys cI cB cZ cQ) [.ref h0] [(h0, .inr (0, [.null, .int 0]))] 39 h0 (fun u => xb cI cB cZ cQ u 39 2) :=
  kg_0 l D cI cB cZ cQ h0 39 _ (fun q1 => ⟨(xj (fun _ => h0) 40 (fun _ => q1)), rfl, rfl⟩)
theorem kc_5_41 (l : Launch) (D : va_G) (cI cB cZ cQ : ClassId) (h0 : Nat) : cM l yX5_init cX5_init 1 1 3 24 D (xtys cI cB cZ cQ) [.ref h0] [(h0, .inr (5, [.null, .null, .null, .int 0]))] 41 h0 (fun u => xb cI cB cZ cQ u 41 4) :=
  kg_5 l D cI cB cZ cQ h0 41 _ (fun q1 q2 q3 => ⟨(xj (xj (xj (fun _ => h0) 42 (fun _ => q1)) 43 (fun _ => q2)) 44 (fun _ => q3)), rfl, rfl⟩)
set_option maxHeartbeats 4000000 in
set_option maxRecDepth 100000 in
theorem kc_1_33 (l : Launch) (D : va_G) (cI cB cZ cQ : ClassId) (h0 : Nat) : cM l yX1_init cX1_init 1 2 12 1103 D (xtys cI cB cZ cQ) [.ref h0] [(h0, .inr (1, [.null, .null, .null, .null]))] 33 h0 (fun u => xb cI cB cZ cQ u 33 13) := by
  intro sz
  refine Met.ofW (cc := cX1_init) (maxL := 1) (ret := none) (by decide) rfl ?_
  intro p e s m args below meth c s₁ B hml hv
  obtain ⟨rfl, hsz, hP, hK, hD0, hN, hAO⟩ := hv
  have hx := B.exec
  have hb := B.bytes
  have hr := B.returns
  have hts : ∀ w ∈ gT, w.before _ s = true := fun w h => atoms_spec (ws := Cond.code yX1_init cX1_init 1 none :: gT) B.pre w (List.mem_cons_of_mem _ h)
  have hown : s.vm.findClass RX1 = some m.cls := findClass_of_methodNamed B.named
  have hlocks := B.notSynchronized
  have hin : meth.name = "<init>" := (name_of_methodNamed B.named B.method).1
  subst hsz
  have hD := hD0.self (sz := s.heap.size)
  generalize hAe : va_A [(h0, .inr (1, [.null, .null, .null, .null]))] s.heap.size = A at hD ⊢
  have hA : ∀ q : Nat, s.heap.size ≤ q → A q := fun q h => by rw [← hAe]; exact Or.inr h
  have hS : va_S A s.heap s.heap [] := va_S.rf
  have hl := lv_entry ([.ref h0]) (n := 1) (Nat.le_of_ble_eq_true rfl)
  rw [lg_entry_eq]
  generalize (lg_sl ([.ref h0]) ++ List.replicate (1 - (lg_sl ([.ref h0])).length) Slot.unset).toArray = ls at hl ⊢
  have hl : lv_has ls 1 [(0, .ref h0)] := hl
  obtain ⟨B0, hB0⟩ : ∃ z : va_W, z = [] := ⟨_, rfl⟩
  have hP : va_P D vwCl ([(h0, .inr (1, [.null, .null, .null, .null]))] ++ B0) s.heap := by rw [hB0]; exact hP
  have hD : va_D A ([(h0, .inr (1, [.null, .null, .null, .null]))] ++ B0) := by rw [hB0]; exact hD
  refine lv_aload_n hx hb dX1_init_0 rfl (lv_at hl 0 rfl) ?_
  refine W.objInit hx hb hown (hts _ c_oi1) (hts _ c_ob.1) (hts _ c_ob.2) rfl (by rw [hml]; exact hl.1) rfl dX1_init_1 (Nat.le_of_ble_eq_true rfl) (Nat.le_of_ble_eq_true rfl) ?_
  refine W.eq (g2 := F0 m 4 ls []) rfl ?_
  refine lv_aload_n hx hb dX1_init_4 rfl (lv_at hl 0 rfl) ?_
  refine va_new (ci := 7) (fs := [.int 0, .int 0, .null, .null, .null, .null]) (C := RX7) (T := TX7) (N := 6) hx hb hts x_in7 tyX7 tyX7_ok hown (hts _ c_cl1_9) (hts _ c_is7.1) (hts _ c_is7.2) hK hP hD hS hA rfl c_df7 (Nat.le_of_ble_eq_true rfl) (Nat.le_of_ble_eq_true rfl) dX1_init_5 (fun q1 H hP hD hS => ?_)
  refine W.widen (k := 1) (n := 6) (Nat.le_of_ble_eq_true rfl) (Nat.le_of_ble_eq_true rfl) ?_
  refine lv_dup hx hb dX1_init_8 rfl ?_
  have hPc : va_P D vwCl [(q1, .inr (7, [.int 0, .int 0, .null, .null, .null, .null]))] H := c_right hP
  have hDc : va_D A [(q1, .inr (7, [.int 0, .int 0, .null, .null, .null, .null]))] := c_rightD hD
  have hFc := c_free (wc := [(q1, .inr (7, [.int 0, .int 0, .null, .null, .null, .null]))]) hD hS hA
  refine va_callv (va_runIN (As := []) (rest := [.ref q1, .ref h0]) ⟨hx, hb, hml, hown, hts⟩ (kc_7_34 l D cI cB cZ cQ q1 H.size) ⟨va_cnB (host := "GrottoHours") 0 hts (gT_in (fun w h => (List.mem_cons.mp h).elim (fun e => e ▸ c_cw7.1) id)) rfl rfl rfl (hN _ (List.mem_of_getElem? (i := 51) rfl)) (hts _ c_is7.2) c_cw7.2.2 ⟨(Nat.le_of_ble_eq_true rfl), (Nat.le_of_ble_eq_true rfl)⟩, rfl, hts _ c_cw7.2.1⟩ ⟨fun a U g mk q => by obtain ⟨q0, q1, qP, qK, qD, qN, qO⟩ := q; exact ⟨q0, q1, qP, va_K.moved (u := U) (U := U.calling g mk a) (Vm.Alike.refl U.vm) qK, qD, xNest_warm (State.WarmedH.refl U) qN, aoa_moved (u := U) (U := U.calling g mk a) (Vm.Alike.refl U.vm) qO⟩, fun U hU hW => ⟨rfl, by rw [hU], by rw [hU]; exact hPc, va_K.moved hW.alike hK, hDc.weaken (fun _ _ _ _ => trivial), xNest_warm hW hN, aoa_moved hW.alike hAO⟩⟩ rfl rfl hl.1 rfl (lv_room (Nat.le_of_ble_eq_true rfl)) dX1_init_9 ⟨(Nat.le_of_ble_eq_true rfl), (Nat.le_of_ble_eq_true rfl)⟩) hS (fun q _ h => hFc q h) hFc (fun u1 t H1 locs ht hvm hw hB hz1 hk1 hS => ?_)
  obtain ⟨hu1, hP1, hK1, hD1⟩ := hB
  rewrite [ht] at hP1
  obtain ⟨hP, hD⟩ := c_join (wr := [(h0, .inr (1, [.null, .null, .null, .null]))] ++ B0) (w1 := xb cI cB cZ cQ u1 34 5) hP hD hk1 hFc hP1 hD1
  generalize H1 = H at hP hS ⊢
  have hP : va_P D vwCl ([(h0, .inr (1, [.null, .null, .null, .null]))] ++ (B0 ++ xb cI cB cZ cQ u1 34 5)) H := by rw [← List.append_assoc]; exact hP
  have hD : va_D A ([(h0, .inr (1, [.null, .null, .null, .null]))] ++ (B0 ++ xb cI cB cZ cQ u1 34 5)) := by rw [← List.append_assoc]; exact hD
  obtain ⟨B1, hB1⟩ : ∃ z : va_W, z = B0 ++ xb cI cB cZ cQ u1 34 5 := ⟨_, rfl⟩
  rewrite [← hB1] at hP hD
  have hz1 : Value.ref q1 = .ref (u1 34) := by rw [hu1]
  refine W.widen (k := 5) (n := 30) (Nat.le_of_ble_eq_true rfl) (Nat.le_of_ble_eq_true rfl) ?_
  rw [hz1]
  refine va_putF (D := D) (ci := 1) (v := .ref (u1 34)) (ty := tyX1 0) (C := RX1) (T := TX1) (N := 4) hx hb hts x_in1 tyX1 tyX1_ok nmX1 hown hK hP hD hS 0 rfl rfl 0 (by decide) (hts _ xl_X1_12) (fun _ h9 => h9) rfl hin rfl (tyX1_ok 0 (by decide)) rfl rfl (Nat.le_of_ble_eq_true rfl) dX1_init_12 (fun H locs hP hD hS => ?_)
  have hP : va_P D vwCl ([(h0, .inr (1, [.ref (u1 34), .null, .null, .null]))] ++ B1) H := hP
  have hD : va_D A ([(h0, .inr (1, [.ref (u1 34), .null, .null, .null]))] ++ B1) := hD
  refine lv_aload_n hx hb dX1_init_15 rfl (lv_at hl 0 rfl) ?_
  refine va_new (ci := 0) (fs := [.null, .int 0]) (C := RX0) (T := TX0) (N := 2) hx hb hts x_in0 tyX0 tyX0_ok hown (hts _ c_cl1_18) (hts _ c_is0.1) (hts _ c_is0.2) hK hP hD hS hA rfl c_df0 (Nat.le_of_ble_eq_true rfl) (Nat.le_of_ble_eq_true rfl) dX1_init_16 (fun q2 H hP hD hS => ?_)
  refine W.widen (k := 6) (n := 32) (Nat.le_of_ble_eq_true rfl) (Nat.le_of_ble_eq_true rfl) ?_
  refine lv_dup hx hb dX1_init_19 rfl ?_
  have hPc : va_P D vwCl [(q2, .inr (0, [.null, .int 0]))] H := c_right hP
  have hDc : va_D A [(q2, .inr (0, [.null, .int 0]))] := c_rightD hD
  have hFc := c_free (wc := [(q2, .inr (0, [.null, .int 0]))]) hD hS hA
  refine va_callv (va_runIN (As := []) (rest := [.ref q2, .ref h0]) ⟨hx, hb, hml, hown, hts⟩ (kc_0_39 l D cI cB cZ cQ q2 H.size) ⟨va_cnB (host := "GrottoHours") 0 hts (gT_in (fun w h => (List.mem_cons.mp h).elim (fun e => e ▸ c_cw0.1) id)) rfl rfl rfl (hN _ (List.mem_of_getElem? (i := 65) rfl)) (hts _ c_is0.2) c_cw0.2.2 ⟨(Nat.le_of_ble_eq_true rfl), (Nat.le_of_ble_eq_true rfl)⟩, rfl, hts _ c_cw0.2.1⟩ ⟨fun a U g mk q => by obtain ⟨q0, q1, qP, qK, qD, qN, qO⟩ := q; exact ⟨q0, q1, qP, va_K.moved (u := U) (U := U.calling g mk a) (Vm.Alike.refl U.vm) qK, qD, xNest_warm (State.WarmedH.refl U) qN, aoa_moved (u := U) (U := U.calling g mk a) (Vm.Alike.refl U.vm) qO⟩, fun U hU hW => ⟨rfl, by rw [hU], by rw [hU]; exact hPc, va_K.moved hW.alike hK, hDc.weaken (fun _ _ _ _ => trivial), xNest_warm hW hN, aoa_moved hW.alike hAO⟩⟩ rfl rfl hl.1 rfl (lv_room (Nat.le_of_ble_eq_true rfl)) dX1_init_20 ⟨(Nat.le_of_ble_eq_true rfl), (Nat.le_of_ble_eq_true rfl)⟩) hS (fun q _ h => hFc q h) hFc (fun u2 t H1 locs ht hvm hw hB hz1 hk1 hS => ?_)
  obtain ⟨hu2, hP1, hK1, hD1⟩ := hB
  rewrite [ht] at hP1
  obtain ⟨hP, hD⟩ := c_join (wr := [(h0, .inr (1, [.ref (u1 34), .null, .null, .null]))] ++ B1) (w1 := xb cI cB cZ cQ u2 39 2) hP hD hk1 hFc hP1 hD1
  generalize H1 = H at hP hS ⊢
  have hP : va_P D vwCl ([(h0, .inr (1, [.ref (u1 34), .null, .null, .null]))] ++ (B1 ++ xb cI cB cZ cQ u2 39 2)) H := by rw [← List.append_assoc]; exact hP
  have hD : va_D A ([(h0, .inr (1, [.ref (u1 34), .null, .null, .null]))] ++ (B1 ++ xb cI cB cZ cQ u2 39 2)) := by rw [← List.append_assoc]; exact hD
  obtain ⟨B2, hB2⟩ : ∃ z : va_W, z = B1 ++ xb cI cB cZ cQ u2 39 2 := ⟨_, rfl⟩
  rewrite [← hB2] at hP hD
  have hz2 : Value.ref q2 = .ref (u2 39) := by rw [hu2]
  refine W.widen (k := 7) (n := 1072) (Nat.le_of_ble_eq_true rfl) (Nat.le_of_ble_eq_true rfl) ?_
  rw [hz2]
  refine va_putF (D := D) (ci := 1) (v := .ref (u2 39)) (ty := tyX1 1) (C := RX1) (T := TX1) (N := 4) hx hb hts x_in1 tyX1 tyX1_ok nmX1 hown hK hP hD hS 0 rfl rfl 1 (by decide) (hts _ xl_X1_21) (fun _ h9 => h9) rfl hin rfl (tyX1_ok 1 (by decide)) rfl rfl (Nat.le_of_ble_eq_true rfl) dX1_init_23 (fun H locs hP hD hS => ?_)
  have hP : va_P D vwCl ([(h0, .inr (1, [.ref (u1 34), .ref (u2 39), .null, .null]))] ++ B2) H := hP
  have hD : va_D A ([(h0, .inr (1, [.ref (u1 34), .ref (u2 39), .null, .null]))] ++ B2) := hD
  refine lv_aload_n hx hb dX1_init_26 rfl (lv_at hl 0 rfl) ?_
  refine va_new (ci := 5) (fs := [.null, .null, .null, .int 0]) (C := RX5) (T := TX5) (N := 4) hx hb hts x_in5 tyX5 tyX5_ok hown (hts _ c_cl1_25) (hts _ c_is5.1) (hts _ c_is5.2) hK hP hD hS hA rfl c_df5 (Nat.le_of_ble_eq_true rfl) (Nat.le_of_ble_eq_true rfl) dX1_init_27 (fun q3 H hP hD hS => ?_)
  refine W.widen (k := 8) (n := 1076) (Nat.le_of_ble_eq_true rfl) (Nat.le_of_ble_eq_true rfl) ?_
  refine lv_dup hx hb dX1_init_30 rfl ?_
  have hPc : va_P D vwCl [(q3, .inr (5, [.null, .null, .null, .int 0]))] H := c_right hP
  have hDc : va_D A [(q3, .inr (5, [.null, .null, .null, .int 0]))] := c_rightD hD
  have hFc := c_free (wc := [(q3, .inr (5, [.null, .null, .null, .int 0]))]) hD hS hA
  refine va_callv (va_runIN (As := []) (rest := [.ref q3, .ref h0]) ⟨hx, hb, hml, hown, hts⟩ (kc_5_41 l D cI cB cZ cQ q3 H.size) ⟨va_cnB (host := "GrottoHours") 0 hts (gT_in (fun w h => (List.mem_cons.mp h).elim (fun e => e ▸ c_cw5.1) id)) rfl rfl rfl (hN _ (List.mem_of_getElem? (i := 68) rfl)) (hts _ c_is5.2) c_cw5.2.2 ⟨(Nat.le_of_ble_eq_true rfl), (Nat.le_of_ble_eq_true rfl)⟩, rfl, hts _ c_cw5.2.1⟩ ⟨fun a U g mk q => by obtain ⟨q0, q1, qP, qK, qD, qN, qO⟩ := q; exact ⟨q0, q1, qP, va_K.moved (u := U) (U := U.calling g mk a) (Vm.Alike.refl U.vm) qK, qD, xNest_warm (State.WarmedH.refl U) qN, aoa_moved (u := U) (U := U.calling g mk a) (Vm.Alike.refl U.vm) qO⟩, fun U hU hW => ⟨rfl, by rw [hU], by rw [hU]; exact hPc, va_K.moved hW.alike hK, hDc.weaken (fun _ _ _ _ => trivial), xNest_warm hW hN, aoa_moved hW.alike hAO⟩⟩ rfl rfl hl.1 rfl (lv_room (Nat.le_of_ble_eq_true rfl)) dX1_init_31 ⟨(Nat.le_of_ble_eq_true rfl), (Nat.le_of_ble_eq_true rfl)⟩) hS (fun q _ h => hFc q h) hFc (fun u3 t H1 locs ht hvm hw hB hz1 hk1 hS => ?_)
  obtain ⟨hu3, hP1, hK1, hD1⟩ := hB
  rewrite [ht] at hP1
  obtain ⟨hP, hD⟩ := c_join (wr := [(h0, .inr (1, [.ref (u1 34), .ref (u2 39), .null, .null]))] ++ B2) (w1 := xb cI cB cZ cQ u3 41 4) hP hD hk1 hFc hP1 hD1
  generalize H1 = H at hP hS ⊢
  have hP : va_P D vwCl ([(h0, .inr (1, [.ref (u1 34), .ref (u2 39), .null, .null]))] ++ (B2 ++ xb cI cB cZ cQ u3 41 4)) H := by rw [← List.append_assoc]; exact hP
  have hD : va_D A ([(h0, .inr (1, [.ref (u1 34), .ref (u2 39), .null, .null]))] ++ (B2 ++ xb cI cB cZ cQ u3 41 4)) := by rw [← List.append_assoc]; exact hD
  obtain ⟨B3, hB3⟩ : ∃ z : va_W, z = B2 ++ xb cI cB cZ cQ u3 41 4 := ⟨_, rfl⟩
  rewrite [← hB3] at hP hD
  have hz3 : Value.ref q3 = .ref (u3 41) := by rw [hu3]
  refine W.widen (k := 11) (n := 1100) (Nat.le_of_ble_eq_true rfl) (Nat.le_of_ble_eq_true rfl) ?_
  rw [hz3]
  refine va_putF (D := D) (ci := 1) (v := .ref (u3 41)) (ty := tyX1 2) (C := RX1) (T := TX1) (N := 4) hx hb hts x_in1 tyX1 tyX1_ok nmX1 hown hK hP hD hS 0 rfl rfl 2 (by decide) (hts _ xl_X1_28) (fun _ h9 => h9) rfl hin rfl (tyX1_ok 2 (by decide)) rfl rfl (Nat.le_of_ble_eq_true rfl) dX1_init_34 (fun H locs hP hD hS => ?_)
  have hP : va_P D vwCl ([(h0, .inr (1, [.ref (u1 34), .ref (u2 39), .ref (u3 41), .null]))] ++ B3) H := hP
  have hD : va_D A ([(h0, .inr (1, [.ref (u1 34), .ref (u2 39), .ref (u3 41), .null]))] ++ B3) := hD
  refine lv_aload_n hx hb dX1_init_37 rfl (lv_at hl 0 rfl) ?_
  refine lv_iconst (v := 3) hx hb dX1_init_38 (by decide) ?_
  refine c_newa (atype := .int) (a0 := (3, .inl (fun _ => 0))) hx hb (hts _ c_ac_int) rfl (fun _ h => by cases h) hK (t0 := 0) rfl hP hD hS hA (fun _ => rfl) (by decide) (by decide) (Nat.le_of_ble_eq_true rfl) (Nat.le_of_ble_eq_true rfl) (Nat.le_of_ble_eq_true rfl) dX1_init_39 (fun q4 H hP hD hS => ?_)
  have hP : va_P D vwCl ([(h0, .inr (1, [.ref (u1 34), .ref (u2 39), .ref (u3 41), .null]))] ++ (B3 ++ [(q4, .inl (cI, 3, .inl (fun _ => 0)))])) H := by rw [← List.append_assoc]; exact hP
  have hD : va_D A ([(h0, .inr (1, [.ref (u1 34), .ref (u2 39), .ref (u3 41), .null]))] ++ (B3 ++ [(q4, .inl (cI, 3, .inl (fun _ => 0)))])) := by rw [← List.append_assoc]; exact hD
  obtain ⟨B4, hB4⟩ : ∃ z : va_W, z = B3 ++ [(q4, .inl (cI, 3, .inl (fun _ => 0)))] := ⟨_, rfl⟩
  rewrite [← hB4] at hP hD
  refine W.widen (k := 12) (n := 1103) (Nat.le_of_ble_eq_true rfl) (Nat.le_of_ble_eq_true rfl) ?_
  refine va_putF (D := D) (ci := 1) (v := .ref q4) (ty := tyX1 3) (C := RX1) (T := TX1) (N := 4) hx hb hts x_in1 tyX1 tyX1_ok nmX1 hown hK hP hD hS 0 rfl rfl 3 (by decide) (hts _ xl_X1_32) (fun _ h9 => h9) rfl hin rfl (tyX1_ok 3 (by decide)) rfl rfl (Nat.le_of_ble_eq_true rfl) dX1_init_41 (fun H locs hP hD hS => ?_)
  have hP : va_P D vwCl ([(h0, .inr (1, [.ref (u1 34), .ref (u2 39), .ref (u3 41), .ref q4]))] ++ B4) H := hP
  have hD : va_D A ([(h0, .inr (1, [.ref (u1 34), .ref (u2 39), .ref (u3 41), .ref q4]))] ++ B4) := hD
  rewrite [hB4, hB3, hB2, hB1, hB0] at hP hD
  have hP9 : va_P D vwCl (xb cI cB cZ cQ (xj (xj (xj (xj (fun _ => h0) 34 u1) 39 u2) 41 u3) 45 (fun _ => q4)) 33 13) H := hP
  have hD9 : va_D A (xb cI cB cZ cQ (xj (xj (xj (xj (fun _ => h0) 34 u1) 39 u2) 41 u3) 45 (fun _ => q4)) 33 13) := hD
  exact W.vret hx hb hr (fun t ht hW => ⟨⟨(xj (xj (xj (xj (fun _ => h0) 34 u1) 39 u2) 41 u3) 45 (fun _ => q4)), rfl, trivial, rfl, by rw [ht]; exact hP9, va_K.moved hW.alike hK, hD9⟩, hS.F ht⟩) hS.2.2 dX1_init_44 hlocks
theorem kc_7_46 (l : Launch) (D : va_G) (cI cB cZ cQ : ClassId) (h0 : Nat) : cM l yX7_init cX7_init 1 1 4 24 D (xtys cI cB cZ cQ) [.ref h0] [(h0, .inr (7, [.int 0, .int 0, .null, .null, .null, .null]))] 46 h0 (fun u => xb cI cB cZ cQ u 46 5) :=
  kg_7 l D cI cB cZ cQ h0 46 _ (fun q1 q2 q3 q4 => ⟨(xj (xj (xj (xj (fun _ => h0) 47 (fun _ => q1)) 48 (fun _ => q2)) 49 (fun _ => q3)) 50 (fun _ => q4)), rfl, rfl⟩)
set_option maxHeartbeats 4000000 in
set_option maxRecDepth 100000 in
theorem kc_10_51 (l : Launch) (D : va_G) (cI cB cZ cQ : ClassId) (h0 : Nat) : cM l yX10_init cX10_init 1 1 0 0 D (xtys cI cB cZ cQ) [.ref h0] [(h0, .inr (10, [.int 0, .int 0, .int 0, .int 0, .int 0, .int 0, .int 0, .int 0]))] 51 h0 (fun u => xb cI cB cZ cQ u 51 1) := by
  intro sz
  refine Met.ofW (cc := cX10_init) (maxL := 1) (ret := none) (by decide) rfl ?_
  intro p e s m args below meth c s₁ B hml hv
  obtain ⟨rfl, hsz, hP, hK, hD0, hN, hAO⟩ := hv
  have hx := B.exec
  have hb := B.bytes
  have hr := B.returns
  have hts : ∀ w ∈ gT, w.before _ s = true := fun w h => atoms_spec (ws := Cond.code yX10_init cX10_init 1 none :: gT) B.pre w (List.mem_cons_of_mem _ h)
  have hown : s.vm.findClass RX10 = some m.cls := findClass_of_methodNamed B.named
  have hlocks := B.notSynchronized
  have hin : meth.name = "<init>" := (name_of_methodNamed B.named B.method).1
  subst hsz
  have hD := hD0.self (sz := s.heap.size)
  generalize hAe : va_A [(h0, .inr (10, [.int 0, .int 0, .int 0, .int 0, .int 0, .int 0, .int 0, .int 0]))] s.heap.size = A at hD ⊢
  have hA : ∀ q : Nat, s.heap.size ≤ q → A q := fun q h => by rw [← hAe]; exact Or.inr h
  have hS : va_S A s.heap s.heap [] := va_S.rf
  have hl := lv_entry ([.ref h0]) (n := 1) (Nat.le_of_ble_eq_true rfl)
  rw [lg_entry_eq]
  generalize (lg_sl ([.ref h0]) ++ List.replicate (1 - (lg_sl ([.ref h0])).length) Slot.unset).toArray = ls at hl ⊢
  have hl : lv_has ls 1 [(0, .ref h0)] := hl
  obtain ⟨B0, hB0⟩ : ∃ z : va_W, z = [] := ⟨_, rfl⟩
  have hP : va_P D vwCl ([(h0, .inr (10, [.int 0, .int 0, .int 0, .int 0, .int 0, .int 0, .int 0, .int 0]))] ++ B0) s.heap := by rw [hB0]; exact hP
  have hD : va_D A ([(h0, .inr (10, [.int 0, .int 0, .int 0, .int 0, .int 0, .int 0, .int 0, .int 0]))] ++ B0) := by rw [hB0]; exact hD
  refine lv_aload_n hx hb dX10_init_0 rfl (lv_at hl 0 rfl) ?_
  refine W.objInit hx hb hown (hts _ c_oi10) (hts _ c_ob.1) (hts _ c_ob.2) rfl (by rw [hml]; exact hl.1) rfl dX10_init_1 (Nat.le_of_ble_eq_true rfl) (Nat.le_of_ble_eq_true rfl) ?_
  refine W.eq (g2 := F0 m 4 ls []) rfl ?_
  refine lv_aload_n hx hb dX10_init_4 rfl (lv_at hl 0 rfl) ?_
  refine lv_iconst (v := 0) hx hb dX10_init_5 (by decide) ?_
  refine va_put (D := D) (ci := 10) (v := .int 0) (ty := tyX10 0) (C := RX10) (T := TX10) (N := 8) hx hb hts x_in10 tyX10 tyX10_ok nmX10 hown hK hP hD hS 0 rfl rfl 0 (by decide) (hts _ xl_X10_9) (fun _ h9 => h9) rfl (tyX10_ok 0 (by decide)) rfl rfl (Nat.le_of_ble_eq_true rfl) dX10_init_6 (fun H locs hP hD hS => ?_)
  have hP : va_P D vwCl ([(h0, .inr (10, [.int 0, .int 0, .int 0, .int 0, .int 0, .int 0, .int 0, .int 0]))] ++ B0) H := hP
  have hD : va_D A ([(h0, .inr (10, [.int 0, .int 0, .int 0, .int 0, .int 0, .int 0, .int 0, .int 0]))] ++ B0) := hD
  refine lv_aload_n hx hb dX10_init_9 rfl (lv_at hl 0 rfl) ?_
  refine lv_iconst (v := 0) hx hb dX10_init_10 (by decide) ?_
  refine va_put (D := D) (ci := 10) (v := .int 0) (ty := tyX10 1) (C := RX10) (T := TX10) (N := 8) hx hb hts x_in10 tyX10 tyX10_ok nmX10 hown hK hP hD hS 0 rfl rfl 1 (by decide) (hts _ xl_X10_15) (fun _ h9 => h9) rfl (tyX10_ok 1 (by decide)) rfl rfl (Nat.le_of_ble_eq_true rfl) dX10_init_11 (fun H locs hP hD hS => ?_)
  have hP : va_P D vwCl ([(h0, .inr (10, [.int 0, .int 0, .int 0, .int 0, .int 0, .int 0, .int 0, .int 0]))] ++ B0) H := hP
  have hD : va_D A ([(h0, .inr (10, [.int 0, .int 0, .int 0, .int 0, .int 0, .int 0, .int 0, .int 0]))] ++ B0) := hD
  refine lv_aload_n hx hb dX10_init_14 rfl (lv_at hl 0 rfl) ?_
  refine lv_iconst (v := 0) hx hb dX10_init_15 (by decide) ?_
  refine va_put (D := D) (ci := 10) (v := .int 0) (ty := tyX10 2) (C := RX10) (T := TX10) (N := 8) hx hb hts x_in10 tyX10 tyX10_ok nmX10 hown hK hP hD hS 0 rfl rfl 2 (by decide) (hts _ xl_X10_18) (fun _ h9 => h9) rfl (tyX10_ok 2 (by decide)) rfl rfl (Nat.le_of_ble_eq_true rfl) dX10_init_16 (fun H locs hP hD hS => ?_)
  have hP : va_P D vwCl ([(h0, .inr (10, [.int 0, .int 0, .int 0, .int 0, .int 0, .int 0, .int 0, .int 0]))] ++ B0) H := hP
  have hD : va_D A ([(h0, .inr (10, [.int 0, .int 0, .int 0, .int 0, .int 0, .int 0, .int 0, .int 0]))] ++ B0) := hD
  refine lv_aload_n hx hb dX10_init_19 rfl (lv_at hl 0 rfl) ?_
  refine lv_iconst (v := 0) hx hb dX10_init_20 (by decide) ?_
  refine va_put (D := D) (ci := 10) (v := .int 0) (ty := tyX10 3) (C := RX10) (T := TX10) (N := 8) hx hb hts x_in10 tyX10 tyX10_ok nmX10 hown hK hP hD hS 0 rfl rfl 3 (by decide) (hts _ xl_X10_21) (fun _ h9 => h9) rfl (tyX10_ok 3 (by decide)) rfl rfl (Nat.le_of_ble_eq_true rfl) dX10_init_21 (fun H locs hP hD hS => ?_)
  have hP : va_P D vwCl ([(h0, .inr (10, [.int 0, .int 0, .int 0, .int 0, .int 0, .int 0, .int 0, .int 0]))] ++ B0) H := hP
  have hD : va_D A ([(h0, .inr (10, [.int 0, .int 0, .int 0, .int 0, .int 0, .int 0, .int 0, .int 0]))] ++ B0) := hD
  refine lv_aload_n hx hb dX10_init_24 rfl (lv_at hl 0 rfl) ?_
  refine lv_iconst (v := (-1)) hx hb dX10_init_25 (by decide) ?_
  refine va_put (D := D) (ci := 10) (v := .int (-1)) (ty := tyX10 4) (C := RX10) (T := TX10) (N := 8) hx hb hts x_in10 tyX10 tyX10_ok nmX10 hown hK hP hD hS 0 rfl rfl 4 (by decide) (hts _ xl_X10_24) (fun _ h9 => h9) rfl (tyX10_ok 4 (by decide)) rfl rfl (Nat.le_of_ble_eq_true rfl) dX10_init_26 (fun H locs hP hD hS => ?_)
  have hP : va_P D vwCl ([(h0, .inr (10, [.int 0, .int 0, .int 0, .int 0, .int (-1), .int 0, .int 0, .int 0]))] ++ B0) H := hP
  have hD : va_D A ([(h0, .inr (10, [.int 0, .int 0, .int 0, .int 0, .int (-1), .int 0, .int 0, .int 0]))] ++ B0) := hD
  refine lv_aload_n hx hb dX10_init_29 rfl (lv_at hl 0 rfl) ?_
  refine lv_iconst (v := 0) hx hb dX10_init_30 (by decide) ?_
  refine va_put (D := D) (ci := 10) (v := .int 0) (ty := tyX10 5) (C := RX10) (T := TX10) (N := 8) hx hb hts x_in10 tyX10 tyX10_ok nmX10 hown hK hP hD hS 0 rfl rfl 5 (by decide) (hts _ xl_X10_27) (fun _ h9 => h9) rfl (tyX10_ok 5 (by decide)) rfl rfl (Nat.le_of_ble_eq_true rfl) dX10_init_31 (fun H locs hP hD hS => ?_)
  have hP : va_P D vwCl ([(h0, .inr (10, [.int 0, .int 0, .int 0, .int 0, .int (-1), .int 0, .int 0, .int 0]))] ++ B0) H := hP
  have hD : va_D A ([(h0, .inr (10, [.int 0, .int 0, .int 0, .int 0, .int (-1), .int 0, .int 0, .int 0]))] ++ B0) := hD
  refine lv_aload_n hx hb dX10_init_34 rfl (lv_at hl 0 rfl) ?_
  refine lv_iconst (v := 0) hx hb dX10_init_35 (by decide) ?_
  refine va_put (D := D) (ci := 10) (v := .int 0) (ty := tyX10 6) (C := RX10) (T := TX10) (N := 8) hx hb hts x_in10 tyX10 tyX10_ok nmX10 hown hK hP hD hS 0 rfl rfl 6 (by decide) (hts _ xl_X10_30) (fun _ h9 => h9) rfl (tyX10_ok 6 (by decide)) rfl rfl (Nat.le_of_ble_eq_true rfl) dX10_init_36 (fun H locs hP hD hS => ?_)
  have hP : va_P D vwCl ([(h0, .inr (10, [.int 0, .int 0, .int 0, .int 0, .int (-1), .int 0, .int 0, .int 0]))] ++ B0) H := hP
  have hD : va_D A ([(h0, .inr (10, [.int 0, .int 0, .int 0, .int 0, .int (-1), .int 0, .int 0, .int 0]))] ++ B0) := hD
  refine lv_aload_n hx hb dX10_init_39 rfl (lv_at hl 0 rfl) ?_
  refine lv_iconst (v := 0) hx hb dX10_init_40 (by decide) ?_
  refine va_put (D := D) (ci := 10) (v := .int 0) (ty := tyX10 7) (C := RX10) (T := TX10) (N := 8) hx hb hts x_in10 tyX10 tyX10_ok nmX10 hown hK hP hD hS 0 rfl rfl 7 (by decide) (hts _ xl_X10_33) (fun _ h9 => h9) rfl (tyX10_ok 7 (by decide)) rfl rfl (Nat.le_of_ble_eq_true rfl) dX10_init_41 (fun H locs hP hD hS => ?_)
  have hP : va_P D vwCl ([(h0, .inr (10, [.int 0, .int 0, .int 0, .int 0, .int (-1), .int 0, .int 0, .int 0]))] ++ B0) H := hP
  have hD : va_D A ([(h0, .inr (10, [.int 0, .int 0, .int 0, .int 0, .int (-1), .int 0, .int 0, .int 0]))] ++ B0) := hD
  refine W.widen (k := 0) (n := 0) (Nat.le_of_ble_eq_true rfl) (Nat.le_of_ble_eq_true rfl) ?_
  rewrite [hB0] at hP hD
  have hP9 : va_P D vwCl (xb cI cB cZ cQ (fun _ => h0) 51 1) H := hP
  have hD9 : va_D A (xb cI cB cZ cQ (fun _ => h0) 51 1) := hD
  exact W.vret hx hb hr (fun t ht hW => ⟨⟨(fun _ => h0), rfl, trivial, rfl, by rw [ht]; exact hP9, va_K.moved hW.alike hK, hD9⟩, hS.F ht⟩) hS.2.2 dX10_init_44 hlocks
set_option maxHeartbeats 4000000 in
set_option maxRecDepth 100000 in
theorem kc_6_52 (l : Launch) (D : va_G) (cI cB cZ cQ : ClassId) (h0 : Nat) : cM l yX6_init cX6_init 1 1 9 1805 D (xtys cI cB cZ cQ) [.ref h0] [(h0, .inr (6, [.null, .null, .int 0, .int 0]))] 52 h0 (fun u => xb cI cB cZ cQ u 52 10) := by
  intro sz
  refine Met.ofW (cc := cX6_init) (maxL := 1) (ret := none) (by decide) rfl ?_
  intro p e s m args below meth c s₁ B hml hv
  obtain ⟨rfl, hsz, hP, hK, hD0, hN, hAO⟩ := hv
  have hx := B.exec
  have hb := B.bytes
  have hr := B.returns
  have hts : ∀ w ∈ gT, w.before _ s = true := fun w h => atoms_spec (ws := Cond.code yX6_init cX6_init 1 none :: gT) B.pre w (List.mem_cons_of_mem _ h)
  have hown : s.vm.findClass RX6 = some m.cls := findClass_of_methodNamed B.named
  have hlocks := B.notSynchronized
  have hin : meth.name = "<init>" := (name_of_methodNamed B.named B.method).1
  subst hsz
  have hD := hD0.self (sz := s.heap.size)
  generalize hAe : va_A [(h0, .inr (6, [.null, .null, .int 0, .int 0]))] s.heap.size = A at hD ⊢
  have hA : ∀ q : Nat, s.heap.size ≤ q → A q := fun q h => by rw [← hAe]; exact Or.inr h
  have hS : va_S A s.heap s.heap [] := va_S.rf
  have hl := lv_entry ([.ref h0]) (n := 1) (Nat.le_of_ble_eq_true rfl)
  rw [lg_entry_eq]
  generalize (lg_sl ([.ref h0]) ++ List.replicate (1 - (lg_sl ([.ref h0])).length) Slot.unset).toArray = ls at hl ⊢
  have hl : lv_has ls 1 [(0, .ref h0)] := hl
  obtain ⟨B0, hB0⟩ : ∃ z : va_W, z = [] := ⟨_, rfl⟩
  have hP : va_P D vwCl ([(h0, .inr (6, [.null, .null, .int 0, .int 0]))] ++ B0) s.heap := by rw [hB0]; exact hP
  have hD : va_D A ([(h0, .inr (6, [.null, .null, .int 0, .int 0]))] ++ B0) := by rw [hB0]; exact hD
  refine lv_aload_n hx hb dX6_init_0 rfl (lv_at hl 0 rfl) ?_
  refine W.objInit hx hb hown (hts _ c_oi6) (hts _ c_ob.1) (hts _ c_ob.2) rfl (by rw [hml]; exact hl.1) rfl dX6_init_1 (Nat.le_of_ble_eq_true rfl) (Nat.le_of_ble_eq_true rfl) ?_
  refine W.eq (g2 := F0 m 4 ls []) rfl ?_
  refine lv_aload_n hx hb dX6_init_4 rfl (lv_at hl 0 rfl) ?_
  refine lv_bipush (v := 7) hx hb dX6_init_5 (by decide) ?_
  refine lv_sipush (v := 256) hx hb dX6_init_7 (by decide) ?_
  refine c_mna (N' := 7) (K' := 256) hx hb hown (hts _ c_qq6) hAO (hts _ c_ac_int) hK rfl rfl hP hD hS hA (by decide) (by decide) (by decide) (by decide) (Nat.le_of_ble_eq_true rfl) (Nat.le_of_ble_eq_true rfl) (Nat.le_of_ble_eq_true rfl) (Nat.le_of_ble_eq_true rfl) (Nat.le_of_ble_eq_true rfl) dX6_init_10 (fun q1 r1 H hP hD hS => ?_)
  have hP : va_P D vwCl ([(h0, .inr (6, [.null, .null, .int 0, .int 0]))] ++ (B0 ++ ([(q1, .inl (cQ, 7, .inr (.inr (.inr (.inr (fun i => if i < 7 then some (r1 i) else none))))))] ++ (List.range 7).map (fun i => (r1 i, .inl (cI, 256, .inl (fun _ => 0))))))) H := by rw [← List.append_assoc, ← List.append_assoc]; exact hP
  have hD : va_D A ([(h0, .inr (6, [.null, .null, .int 0, .int 0]))] ++ (B0 ++ ([(q1, .inl (cQ, 7, .inr (.inr (.inr (.inr (fun i => if i < 7 then some (r1 i) else none))))))] ++ (List.range 7).map (fun i => (r1 i, .inl (cI, 256, .inl (fun _ => 0))))))) := by rw [← List.append_assoc, ← List.append_assoc]; exact hD
  obtain ⟨B1, hB1⟩ : ∃ z : va_W, z = B0 ++ ([(q1, .inl (cQ, 7, .inr (.inr (.inr (.inr (fun i => if i < 7 then some (r1 i) else none))))))] ++ (List.range 7).map (fun i => (r1 i, .inl (cI, 256, .inl (fun _ => 0))))) := ⟨_, rfl⟩
  rewrite [← hB1] at hP hD
  refine W.widen (k := 8) (n := 1799) (Nat.le_of_ble_eq_true rfl) (Nat.le_of_ble_eq_true rfl) ?_
  refine va_putF (D := D) (ci := 6) (v := .ref q1) (ty := tyX6 0) (C := RX6) (T := TX6) (N := 4) hx hb hts x_in6 tyX6 tyX6_ok nmX6 hown hK hP hD hS 0 rfl rfl 0 (by decide) (hts _ xl_X6_13) (fun _ h9 => h9) rfl hin rfl (tyX6_ok 0 (by decide)) rfl rfl (Nat.le_of_ble_eq_true rfl) dX6_init_14 (fun H locs hP hD hS => ?_)
  have hP : va_P D vwCl ([(h0, .inr (6, [.ref q1, .null, .int 0, .int 0]))] ++ B1) H := hP
  have hD : va_D A ([(h0, .inr (6, [.ref q1, .null, .int 0, .int 0]))] ++ B1) := hD
  refine lv_aload_n hx hb dX6_init_17 rfl (lv_at hl 0 rfl) ?_
  refine lv_bipush (v := 6) hx hb dX6_init_18 (by decide) ?_
  refine c_newa (atype := .int) (a0 := (6, .inl (fun _ => 0))) hx hb (hts _ c_ac_int) rfl (fun _ h => by cases h) hK (t0 := 0) rfl hP hD hS hA (fun _ => rfl) (by decide) (by decide) (Nat.le_of_ble_eq_true rfl) (Nat.le_of_ble_eq_true rfl) (Nat.le_of_ble_eq_true rfl) dX6_init_20 (fun q2 H hP hD hS => ?_)
  have hP : va_P D vwCl ([(h0, .inr (6, [.ref q1, .null, .int 0, .int 0]))] ++ (B1 ++ [(q2, .inl (cI, 6, .inl (fun _ => 0)))])) H := by rw [← List.append_assoc]; exact hP
  have hD : va_D A ([(h0, .inr (6, [.ref q1, .null, .int 0, .int 0]))] ++ (B1 ++ [(q2, .inl (cI, 6, .inl (fun _ => 0)))])) := by rw [← List.append_assoc]; exact hD
  obtain ⟨B2, hB2⟩ : ∃ z : va_W, z = B1 ++ [(q2, .inl (cI, 6, .inl (fun _ => 0)))] := ⟨_, rfl⟩
  rewrite [← hB2] at hP hD
  refine W.widen (k := 9) (n := 1805) (Nat.le_of_ble_eq_true rfl) (Nat.le_of_ble_eq_true rfl) ?_
  refine va_putF (D := D) (ci := 6) (v := .ref q2) (ty := tyX6 1) (C := RX6) (T := TX6) (N := 4) hx hb hts x_in6 tyX6 tyX6_ok nmX6 hown hK hP hD hS 0 rfl rfl 1 (by decide) (hts _ xl_X6_16) (fun _ h9 => h9) rfl hin rfl (tyX6_ok 1 (by decide)) rfl rfl (Nat.le_of_ble_eq_true rfl) dX6_init_22 (fun H locs hP hD hS => ?_)
  have hP : va_P D vwCl ([(h0, .inr (6, [.ref q1, .ref q2, .int 0, .int 0]))] ++ B2) H := hP
  have hD : va_D A ([(h0, .inr (6, [.ref q1, .ref q2, .int 0, .int 0]))] ++ B2) := hD
  refine lv_aload_n hx hb dX6_init_25 rfl (lv_at hl 0 rfl) ?_
  refine lv_iconst (v := 0) hx hb dX6_init_26 (by decide) ?_
  refine va_put (D := D) (ci := 6) (v := .int 0) (ty := tyX6 2) (C := RX6) (T := TX6) (N := 4) hx hb hts x_in6 tyX6 tyX6_ok nmX6 hown hK hP hD hS 0 rfl rfl 2 (by decide) (hts _ xl_X6_20) (fun _ h9 => h9) rfl (tyX6_ok 2 (by decide)) rfl rfl (Nat.le_of_ble_eq_true rfl) dX6_init_27 (fun H locs hP hD hS => ?_)
  have hP : va_P D vwCl ([(h0, .inr (6, [.ref q1, .ref q2, .int 0, .int 0]))] ++ B2) H := hP
  have hD : va_D A ([(h0, .inr (6, [.ref q1, .ref q2, .int 0, .int 0]))] ++ B2) := hD
  refine lv_aload_n hx hb dX6_init_30 rfl (lv_at hl 0 rfl) ?_
  refine lv_iconst (v := 0) hx hb dX6_init_31 (by decide) ?_
  refine va_put (D := D) (ci := 6) (v := .int 0) (ty := tyX6 3) (C := RX6) (T := TX6) (N := 4) hx hb hts x_in6 tyX6 tyX6_ok nmX6 hown hK hP hD hS 0 rfl rfl 3 (by decide) (hts _ xl_X6_24) (fun _ h9 => h9) rfl (tyX6_ok 3 (by decide)) rfl rfl (Nat.le_of_ble_eq_true rfl) dX6_init_32 (fun H locs hP hD hS => ?_)
  have hP : va_P D vwCl ([(h0, .inr (6, [.ref q1, .ref q2, .int 0, .int 0]))] ++ B2) H := hP
  have hD : va_D A ([(h0, .inr (6, [.ref q1, .ref q2, .int 0, .int 0]))] ++ B2) := hD
  rewrite [hB2, hB1, hB0] at hP hD
  have er : (fun i => if i < 7 then some (r1 i) else none) = (fun i => if i < 7 then some ((xj (xj (xj (fun _ => h0) 53 (fun _ => q1)) 54 (fun i => r1 (i - 54))) 61 (fun _ => q2)) (53 + 1 + i)) else none) := by
    funext i
    by_cases h : i < 7
    · rw [if_pos h, if_pos h]
      simp only [xj]
      rw [if_pos (by omega : 53 + 1 + i < 61), if_neg (by omega : ¬ 53 + 1 + i < 54), show 53 + 1 + i - 54 = i by omega]
    · rw [if_neg h, if_neg h]
  rewrite [er] at hP hD
  have hP9 : va_P D vwCl (xb cI cB cZ cQ (xj (xj (xj (fun _ => h0) 53 (fun _ => q1)) 54 (fun i => r1 (i - 54))) 61 (fun _ => q2)) 52 10) H := hP
  have hD9 : va_D A (xb cI cB cZ cQ (xj (xj (xj (fun _ => h0) 53 (fun _ => q1)) 54 (fun i => r1 (i - 54))) 61 (fun _ => q2)) 52 10) := hD
  exact W.vret hx hb hr (fun t ht hW => ⟨⟨(xj (xj (xj (fun _ => h0) 53 (fun _ => q1)) 54 (fun i => r1 (i - 54))) 61 (fun _ => q2)), rfl, trivial, rfl, by rw [ht]; exact hP9, va_K.moved hW.alike hK, hD9⟩, hS.F ht⟩) hS.2.2 dX6_init_35 hlocks
set_option maxHeartbeats 4000000 in
set_option maxRecDepth 100000 in
theorem kc_2_62 (l : Launch) (D : va_G) (cI cB cZ cQ : ClassId) (h0 : Nat) : cM l yX2_init cX2_init 1 1 9 174 D (xtys cI cB cZ cQ) [.ref h0] [(h0, .inr (2, [.null, .null, .null, .int 0, .int 0, .int 0]))] 62 h0 (fun u => xb cI cB cZ cQ u 62 10) := by
  intro sz
  refine Met.ofW (cc := cX2_init) (maxL := 1) (ret := none) (by decide) rfl ?_
  intro p e s m args below meth c s₁ B hml hv
  obtain ⟨rfl, hsz, hP, hK, hD0, hN, hAO⟩ := hv
  have hx := B.exec
  have hb := B.bytes
  have hr := B.returns
  have hts : ∀ w ∈ gT, w.before _ s = true := fun w h => atoms_spec (ws := Cond.code yX2_init cX2_init 1 none :: gT) B.pre w (List.mem_cons_of_mem _ h)
  have hown : s.vm.findClass RX2 = some m.cls := findClass_of_methodNamed B.named
  have hlocks := B.notSynchronized
  have hin : meth.name = "<init>" := (name_of_methodNamed B.named B.method).1
  subst hsz
  have hD := hD0.self (sz := s.heap.size)
  generalize hAe : va_A [(h0, .inr (2, [.null, .null, .null, .int 0, .int 0, .int 0]))] s.heap.size = A at hD ⊢
  have hA : ∀ q : Nat, s.heap.size ≤ q → A q := fun q h => by rw [← hAe]; exact Or.inr h
  have hS : va_S A s.heap s.heap [] := va_S.rf
  have hl := lv_entry ([.ref h0]) (n := 1) (Nat.le_of_ble_eq_true rfl)
  rw [lg_entry_eq]
  generalize (lg_sl ([.ref h0]) ++ List.replicate (1 - (lg_sl ([.ref h0])).length) Slot.unset).toArray = ls at hl ⊢
  have hl : lv_has ls 1 [(0, .ref h0)] := hl
  obtain ⟨B0, hB0⟩ : ∃ z : va_W, z = [] := ⟨_, rfl⟩
  have hP : va_P D vwCl ([(h0, .inr (2, [.null, .null, .null, .int 0, .int 0, .int 0]))] ++ B0) s.heap := by rw [hB0]; exact hP
  have hD : va_D A ([(h0, .inr (2, [.null, .null, .null, .int 0, .int 0, .int 0]))] ++ B0) := by rw [hB0]; exact hD
  refine lv_aload_n hx hb dX2_init_0 rfl (lv_at hl 0 rfl) ?_
  refine W.objInit hx hb hown (hts _ c_oi2) (hts _ c_ob.1) (hts _ c_ob.2) rfl (by rw [hml]; exact hl.1) rfl dX2_init_1 (Nat.le_of_ble_eq_true rfl) (Nat.le_of_ble_eq_true rfl) ?_
  refine W.eq (g2 := F0 m 4 ls []) rfl ?_
  refine lv_aload_n hx hb dX2_init_4 rfl (lv_at hl 0 rfl) ?_
  refine lv_bipush (v := 6) hx hb dX2_init_5 (by decide) ?_
  refine lv_bipush (v := 21) hx hb dX2_init_7 (by decide) ?_
  refine c_mna (N' := 6) (K' := 21) hx hb hown (hts _ c_qq2) hAO (hts _ c_ac_int) hK rfl rfl hP hD hS hA (by decide) (by decide) (by decide) (by decide) (Nat.le_of_ble_eq_true rfl) (Nat.le_of_ble_eq_true rfl) (Nat.le_of_ble_eq_true rfl) (Nat.le_of_ble_eq_true rfl) (Nat.le_of_ble_eq_true rfl) dX2_init_9 (fun q1 r1 H hP hD hS => ?_)
  have hP : va_P D vwCl ([(h0, .inr (2, [.null, .null, .null, .int 0, .int 0, .int 0]))] ++ (B0 ++ ([(q1, .inl (cQ, 6, .inr (.inr (.inr (.inr (fun i => if i < 6 then some (r1 i) else none))))))] ++ (List.range 6).map (fun i => (r1 i, .inl (cI, 21, .inl (fun _ => 0))))))) H := by rw [← List.append_assoc, ← List.append_assoc]; exact hP
  have hD : va_D A ([(h0, .inr (2, [.null, .null, .null, .int 0, .int 0, .int 0]))] ++ (B0 ++ ([(q1, .inl (cQ, 6, .inr (.inr (.inr (.inr (fun i => if i < 6 then some (r1 i) else none))))))] ++ (List.range 6).map (fun i => (r1 i, .inl (cI, 21, .inl (fun _ => 0))))))) := by rw [← List.append_assoc, ← List.append_assoc]; exact hD
  obtain ⟨B1, hB1⟩ : ∃ z : va_W, z = B0 ++ ([(q1, .inl (cQ, 6, .inr (.inr (.inr (.inr (fun i => if i < 6 then some (r1 i) else none))))))] ++ (List.range 6).map (fun i => (r1 i, .inl (cI, 21, .inl (fun _ => 0))))) := ⟨_, rfl⟩
  rewrite [← hB1] at hP hD
  refine W.widen (k := 7) (n := 132) (Nat.le_of_ble_eq_true rfl) (Nat.le_of_ble_eq_true rfl) ?_
  refine va_putF (D := D) (ci := 2) (v := .ref q1) (ty := tyX2 0) (C := RX2) (T := TX2) (N := 6) hx hb hts x_in2 tyX2 tyX2_ok nmX2 hown hK hP hD hS 0 rfl rfl 0 (by decide) (hts _ xl_X2_11) (fun _ h9 => h9) rfl hin rfl (tyX2_ok 0 (by decide)) rfl rfl (Nat.le_of_ble_eq_true rfl) dX2_init_13 (fun H locs hP hD hS => ?_)
  have hP : va_P D vwCl ([(h0, .inr (2, [.ref q1, .null, .null, .int 0, .int 0, .int 0]))] ++ B1) H := hP
  have hD : va_D A ([(h0, .inr (2, [.ref q1, .null, .null, .int 0, .int 0, .int 0]))] ++ B1) := hD
  refine lv_aload_n hx hb dX2_init_16 rfl (lv_at hl 0 rfl) ?_
  refine lv_bipush (v := 21) hx hb dX2_init_17 (by decide) ?_
  refine c_newa (atype := .int) (a0 := (21, .inl (fun _ => 0))) hx hb (hts _ c_ac_int) rfl (fun _ h => by cases h) hK (t0 := 0) rfl hP hD hS hA (fun _ => rfl) (by decide) (by decide) (Nat.le_of_ble_eq_true rfl) (Nat.le_of_ble_eq_true rfl) (Nat.le_of_ble_eq_true rfl) dX2_init_19 (fun q2 H hP hD hS => ?_)
  have hP : va_P D vwCl ([(h0, .inr (2, [.ref q1, .null, .null, .int 0, .int 0, .int 0]))] ++ (B1 ++ [(q2, .inl (cI, 21, .inl (fun _ => 0)))])) H := by rw [← List.append_assoc]; exact hP
  have hD : va_D A ([(h0, .inr (2, [.ref q1, .null, .null, .int 0, .int 0, .int 0]))] ++ (B1 ++ [(q2, .inl (cI, 21, .inl (fun _ => 0)))])) := by rw [← List.append_assoc]; exact hD
  obtain ⟨B2, hB2⟩ : ∃ z : va_W, z = B1 ++ [(q2, .inl (cI, 21, .inl (fun _ => 0)))] := ⟨_, rfl⟩
  rewrite [← hB2] at hP hD
  refine W.widen (k := 8) (n := 153) (Nat.le_of_ble_eq_true rfl) (Nat.le_of_ble_eq_true rfl) ?_
  refine va_putF (D := D) (ci := 2) (v := .ref q2) (ty := tyX2 1) (C := RX2) (T := TX2) (N := 6) hx hb hts x_in2 tyX2 tyX2_ok nmX2 hown hK hP hD hS 0 rfl rfl 1 (by decide) (hts _ xl_X2_16) (fun _ h9 => h9) rfl hin rfl (tyX2_ok 1 (by decide)) rfl rfl (Nat.le_of_ble_eq_true rfl) dX2_init_21 (fun H locs hP hD hS => ?_)
  have hP : va_P D vwCl ([(h0, .inr (2, [.ref q1, .ref q2, .null, .int 0, .int 0, .int 0]))] ++ B2) H := hP
  have hD : va_D A ([(h0, .inr (2, [.ref q1, .ref q2, .null, .int 0, .int 0, .int 0]))] ++ B2) := hD
  refine lv_aload_n hx hb dX2_init_24 rfl (lv_at hl 0 rfl) ?_
  refine lv_bipush (v := 21) hx hb dX2_init_25 (by decide) ?_
  refine c_newa (atype := .int) (a0 := (21, .inl (fun _ => 0))) hx hb (hts _ c_ac_int) rfl (fun _ h => by cases h) hK (t0 := 0) rfl hP hD hS hA (fun _ => rfl) (by decide) (by decide) (Nat.le_of_ble_eq_true rfl) (Nat.le_of_ble_eq_true rfl) (Nat.le_of_ble_eq_true rfl) dX2_init_27 (fun q3 H hP hD hS => ?_)
  have hP : va_P D vwCl ([(h0, .inr (2, [.ref q1, .ref q2, .null, .int 0, .int 0, .int 0]))] ++ (B2 ++ [(q3, .inl (cI, 21, .inl (fun _ => 0)))])) H := by rw [← List.append_assoc]; exact hP
  have hD : va_D A ([(h0, .inr (2, [.ref q1, .ref q2, .null, .int 0, .int 0, .int 0]))] ++ (B2 ++ [(q3, .inl (cI, 21, .inl (fun _ => 0)))])) := by rw [← List.append_assoc]; exact hD
  obtain ⟨B3, hB3⟩ : ∃ z : va_W, z = B2 ++ [(q3, .inl (cI, 21, .inl (fun _ => 0)))] := ⟨_, rfl⟩
  rewrite [← hB3] at hP hD
  refine W.widen (k := 9) (n := 174) (Nat.le_of_ble_eq_true rfl) (Nat.le_of_ble_eq_true rfl) ?_
  refine va_putF (D := D) (ci := 2) (v := .ref q3) (ty := tyX2 2) (C := RX2) (T := TX2) (N := 6) hx hb hts x_in2 tyX2 tyX2_ok nmX2 hown hK hP hD hS 0 rfl rfl 2 (by decide) (hts _ xl_X2_20) (fun _ h9 => h9) rfl hin rfl (tyX2_ok 2 (by decide)) rfl rfl (Nat.le_of_ble_eq_true rfl) dX2_init_29 (fun H locs hP hD hS => ?_)
  have hP : va_P D vwCl ([(h0, .inr (2, [.ref q1, .ref q2, .ref q3, .int 0, .int 0, .int 0]))] ++ B3) H := hP
  have hD : va_D A ([(h0, .inr (2, [.ref q1, .ref q2, .ref q3, .int 0, .int 0, .int 0]))] ++ B3) := hD
  refine lv_aload_n hx hb dX2_init_32 rfl (lv_at hl 0 rfl) ?_
  refine lv_iconst (v := 0) hx hb dX2_init_33 (by decide) ?_
  refine va_put (D := D) (ci := 2) (v := .int 0) (ty := tyX2 3) (C := RX2) (T := TX2) (N := 6) hx hb hts x_in2 tyX2 tyX2_ok nmX2 hown hK hP hD hS 0 rfl rfl 3 (by decide) (hts _ xl_X2_23) (fun _ h9 => h9) rfl (tyX2_ok 3 (by decide)) rfl rfl (Nat.le_of_ble_eq_true rfl) dX2_init_34 (fun H locs hP hD hS => ?_)
  have hP : va_P D vwCl ([(h0, .inr (2, [.ref q1, .ref q2, .ref q3, .int 0, .int 0, .int 0]))] ++ B3) H := hP
  have hD : va_D A ([(h0, .inr (2, [.ref q1, .ref q2, .ref q3, .int 0, .int 0, .int 0]))] ++ B3) := hD
  refine lv_aload_n hx hb dX2_init_37 rfl (lv_at hl 0 rfl) ?_
  refine lv_iconst (v := (-1)) hx hb dX2_init_38 (by decide) ?_
  refine va_put (D := D) (ci := 2) (v := .int (-1)) (ty := tyX2 4) (C := RX2) (T := TX2) (N := 6) hx hb hts x_in2 tyX2 tyX2_ok nmX2 hown hK hP hD hS 0 rfl rfl 4 (by decide) (hts _ xl_X2_27) (fun _ h9 => h9) rfl (tyX2_ok 4 (by decide)) rfl rfl (Nat.le_of_ble_eq_true rfl) dX2_init_39 (fun H locs hP hD hS => ?_)
  have hP : va_P D vwCl ([(h0, .inr (2, [.ref q1, .ref q2, .ref q3, .int 0, .int (-1), .int 0]))] ++ B3) H := hP
  have hD : va_D A ([(h0, .inr (2, [.ref q1, .ref q2, .ref q3, .int 0, .int (-1), .int 0]))] ++ B3) := hD
  refine lv_aload_n hx hb dX2_init_42 rfl (lv_at hl 0 rfl) ?_
  refine lv_iconst (v := 1) hx hb dX2_init_43 (by decide) ?_
  refine va_put (D := D) (ci := 2) (v := .int 1) (ty := tyX2 5) (C := RX2) (T := TX2) (N := 6) hx hb hts x_in2 tyX2 tyX2_ok nmX2 hown hK hP hD hS 0 rfl rfl 5 (by decide) (hts _ xl_X2_30) (fun _ h9 => h9) rfl (tyX2_ok 5 (by decide)) rfl rfl (Nat.le_of_ble_eq_true rfl) dX2_init_44 (fun H locs hP hD hS => ?_)
  have hP : va_P D vwCl ([(h0, .inr (2, [.ref q1, .ref q2, .ref q3, .int 0, .int (-1), .int 1]))] ++ B3) H := hP
  have hD : va_D A ([(h0, .inr (2, [.ref q1, .ref q2, .ref q3, .int 0, .int (-1), .int 1]))] ++ B3) := hD
  rewrite [hB3, hB2, hB1, hB0] at hP hD
  have er : (fun i => if i < 6 then some (r1 i) else none) = (fun i => if i < 6 then some ((xj (xj (xj (xj (fun _ => h0) 63 (fun _ => q1)) 64 (fun i => r1 (i - 64))) 70 (fun _ => q2)) 71 (fun _ => q3)) (63 + 1 + i)) else none) := by
    funext i
    by_cases h : i < 6
    · rw [if_pos h, if_pos h]
      simp only [xj]
      rw [if_pos (by omega : 63 + 1 + i < 71), if_pos (by omega : 63 + 1 + i < 70), if_neg (by omega : ¬ 63 + 1 + i < 64), show 63 + 1 + i - 64 = i by omega]
    · rw [if_neg h, if_neg h]
  rewrite [er] at hP hD
  have hP9 : va_P D vwCl (xb cI cB cZ cQ (xj (xj (xj (xj (fun _ => h0) 63 (fun _ => q1)) 64 (fun i => r1 (i - 64))) 70 (fun _ => q2)) 71 (fun _ => q3)) 62 10) H := hP
  have hD9 : va_D A (xb cI cB cZ cQ (xj (xj (xj (xj (fun _ => h0) 63 (fun _ => q1)) 64 (fun i => r1 (i - 64))) 70 (fun _ => q2)) 71 (fun _ => q3)) 62 10) := hD
  exact W.vret hx hb hr (fun t ht hW => ⟨⟨(xj (xj (xj (xj (fun _ => h0) 63 (fun _ => q1)) 64 (fun i => r1 (i - 64))) 70 (fun _ => q2)) 71 (fun _ => q3)), rfl, trivial, rfl, by rw [ht]; exact hP9, va_K.moved hW.alike hK, hD9⟩, hS.F ht⟩) hS.2.2 dX2_init_47 hlocks
theorem kc_4_82 (l : Launch) (D : va_G) (cI cB cZ cQ : ClassId) (h0 : Nat) : cM l yX4_init cX4_init 2 1 2 731 D (xtys cI cB cZ cQ) [.ref h0, .int 0] [(h0, .inr (4, [.null, .null, .int 0, .int 0]))] 82 h0 (fun u => xb cI cB cZ cQ u 82 3) :=
  kg_4 l D cI cB cZ cQ h0 0 rfl rfl 82 _ (fun q1 q2 => ⟨(xj (xj (fun _ => h0) 83 (fun _ => q1)) 84 (fun _ => q2)), rfl, rfl⟩)
theorem kc_4_85 (l : Launch) (D : va_G) (cI cB cZ cQ : ClassId) (h0 : Nat) : cM l yX4_init cX4_init 2 1 2 731 D (xtys cI cB cZ cQ) [.ref h0, .int 1] [(h0, .inr (4, [.null, .null, .int 0, .int 0]))] 85 h0 (fun u => xb cI cB cZ cQ u 85 3) :=
  kg_4 l D cI cB cZ cQ h0 1 rfl rfl 85 _ (fun q1 q2 => ⟨(xj (xj (fun _ => h0) 86 (fun _ => q1)) 87 (fun _ => q2)), rfl, rfl⟩)
set_option maxHeartbeats 4000000 in
set_option maxRecDepth 100000 in
theorem kc_9_72 (l : Launch) (D : va_G) (cI cB cZ cQ : ClassId) (h0 : Nat) : cM l yX9_init cX9_init 1 2 15 1534 D (xtys cI cB cZ cQ) [.ref h0] [(h0, .inr (9, [.int 0, .null, .null, .null, .null, .int 0, .null, .null, .null, .null, .int 0, .null, .int 0, .null, .null]))] 72 h0 (fun u => xb cI cB cZ cQ u 72 16) := by
  intro sz
  refine Met.ofW (cc := cX9_init) (maxL := 1) (ret := none) (by decide) rfl ?_
  intro p e s m args below meth c s₁ B hml hv
  obtain ⟨rfl, hsz, hP, hK, hD0, hN, hAO⟩ := hv
  have hx := B.exec
  have hb := B.bytes
  have hr := B.returns
  have hts : ∀ w ∈ gT, w.before _ s = true := fun w h => atoms_spec (ws := Cond.code yX9_init cX9_init 1 none :: gT) B.pre w (List.mem_cons_of_mem _ h)
  have hown : s.vm.findClass RX9 = some m.cls := findClass_of_methodNamed B.named
  have hlocks := B.notSynchronized
  have hin : meth.name = "<init>" := (name_of_methodNamed B.named B.method).1
  subst hsz
  have hD := hD0.self (sz := s.heap.size)
  generalize hAe : va_A [(h0, .inr (9, [.int 0, .null, .null, .null, .null, .int 0, .null, .null, .null, .null, .int 0, .null, .int 0, .null, .null]))] s.heap.size = A at hD ⊢
  have hA : ∀ q : Nat, s.heap.size ≤ q → A q := fun q h => by rw [← hAe]; exact Or.inr h
  have hS : va_S A s.heap s.heap [] := va_S.rf
  have hl := lv_entry ([.ref h0]) (n := 1) (Nat.le_of_ble_eq_true rfl)
  rw [lg_entry_eq]
  generalize (lg_sl ([.ref h0]) ++ List.replicate (1 - (lg_sl ([.ref h0])).length) Slot.unset).toArray = ls at hl ⊢
  have hl : lv_has ls 1 [(0, .ref h0)] := hl
  obtain ⟨B0, hB0⟩ : ∃ z : va_W, z = [] := ⟨_, rfl⟩
  have hP : va_P D vwCl ([(h0, .inr (9, [.int 0, .null, .null, .null, .null, .int 0, .null, .null, .null, .null, .int 0, .null, .int 0, .null, .null]))] ++ B0) s.heap := by rw [hB0]; exact hP
  have hD : va_D A ([(h0, .inr (9, [.int 0, .null, .null, .null, .null, .int 0, .null, .null, .null, .null, .int 0, .null, .int 0, .null, .null]))] ++ B0) := by rw [hB0]; exact hD
  refine lv_aload_n hx hb dX9_init_0 rfl (lv_at hl 0 rfl) ?_
  refine W.objInit hx hb hown (hts _ c_oi9) (hts _ c_ob.1) (hts _ c_ob.2) rfl (by rw [hml]; exact hl.1) rfl dX9_init_1 (Nat.le_of_ble_eq_true rfl) (Nat.le_of_ble_eq_true rfl) ?_
  refine W.eq (g2 := F0 m 4 ls []) rfl ?_
  refine lv_aload_n hx hb dX9_init_4 rfl (lv_at hl 0 rfl) ?_
  refine lv_iconst (v := 0) hx hb dX9_init_5 (by decide) ?_
  refine va_put (D := D) (ci := 9) (v := .int 0) (ty := tyX9 0) (C := RX9) (T := TX9) (N := 15) hx hb hts x_in9 tyX9 tyX9_ok nmX9 hown hK hP hD hS 0 rfl rfl 0 (by decide) (hts _ xl_X9_9) (fun _ h9 => h9) rfl (tyX9_ok 0 (by decide)) rfl rfl (Nat.le_of_ble_eq_true rfl) dX9_init_6 (fun H locs hP hD hS => ?_)
  have hP : va_P D vwCl ([(h0, .inr (9, [.int 0, .null, .null, .null, .null, .int 0, .null, .null, .null, .null, .int 0, .null, .int 0, .null, .null]))] ++ B0) H := hP
  have hD : va_D A ([(h0, .inr (9, [.int 0, .null, .null, .null, .null, .int 0, .null, .null, .null, .null, .int 0, .null, .int 0, .null, .null]))] ++ B0) := hD
  refine lv_aload_n hx hb dX9_init_9 rfl (lv_at hl 0 rfl) ?_
  refine lv_bipush (v := 8) hx hb dX9_init_10 (by decide) ?_
  refine c_newa (atype := .int) (a0 := (8, .inl (fun _ => 0))) hx hb (hts _ c_ac_int) rfl (fun _ h => by cases h) hK (t0 := 0) rfl hP hD hS hA (fun _ => rfl) (by decide) (by decide) (Nat.le_of_ble_eq_true rfl) (Nat.le_of_ble_eq_true rfl) (Nat.le_of_ble_eq_true rfl) dX9_init_12 (fun q1 H hP hD hS => ?_)
  have hP : va_P D vwCl ([(h0, .inr (9, [.int 0, .null, .null, .null, .null, .int 0, .null, .null, .null, .null, .int 0, .null, .int 0, .null, .null]))] ++ (B0 ++ [(q1, .inl (cI, 8, .inl (fun _ => 0)))])) H := by rw [← List.append_assoc]; exact hP
  have hD : va_D A ([(h0, .inr (9, [.int 0, .null, .null, .null, .null, .int 0, .null, .null, .null, .null, .int 0, .null, .int 0, .null, .null]))] ++ (B0 ++ [(q1, .inl (cI, 8, .inl (fun _ => 0)))])) := by rw [← List.append_assoc]; exact hD
  obtain ⟨B1, hB1⟩ : ∃ z : va_W, z = B0 ++ [(q1, .inl (cI, 8, .inl (fun _ => 0)))] := ⟨_, rfl⟩
  rewrite [← hB1] at hP hD
  refine W.widen (k := 1) (n := 8) (Nat.le_of_ble_eq_true rfl) (Nat.le_of_ble_eq_true rfl) ?_
  refine va_putF (D := D) (ci := 9) (v := .ref q1) (ty := tyX9 1) (C := RX9) (T := TX9) (N := 15) hx hb hts x_in9 tyX9 tyX9_ok nmX9 hown hK hP hD hS 0 rfl rfl 1 (by decide) (hts _ xl_X9_15) (fun _ h9 => h9) rfl hin rfl (tyX9_ok 1 (by decide)) rfl rfl (Nat.le_of_ble_eq_true rfl) dX9_init_14 (fun H locs hP hD hS => ?_)
  have hP : va_P D vwCl ([(h0, .inr (9, [.int 0, .ref q1, .null, .null, .null, .int 0, .null, .null, .null, .null, .int 0, .null, .int 0, .null, .null]))] ++ B1) H := hP
  have hD : va_D A ([(h0, .inr (9, [.int 0, .ref q1, .null, .null, .null, .int 0, .null, .null, .null, .null, .int 0, .null, .int 0, .null, .null]))] ++ B1) := hD
  refine lv_aload_n hx hb dX9_init_17 rfl (lv_at hl 0 rfl) ?_
  refine lv_bipush (v := 8) hx hb dX9_init_18 (by decide) ?_
  refine c_newa (atype := .int) (a0 := (8, .inl (fun _ => 0))) hx hb (hts _ c_ac_int) rfl (fun _ h => by cases h) hK (t0 := 0) rfl hP hD hS hA (fun _ => rfl) (by decide) (by decide) (Nat.le_of_ble_eq_true rfl) (Nat.le_of_ble_eq_true rfl) (Nat.le_of_ble_eq_true rfl) dX9_init_20 (fun q2 H hP hD hS => ?_)
  have hP : va_P D vwCl ([(h0, .inr (9, [.int 0, .ref q1, .null, .null, .null, .int 0, .null, .null, .null, .null, .int 0, .null, .int 0, .null, .null]))] ++ (B1 ++ [(q2, .inl (cI, 8, .inl (fun _ => 0)))])) H := by rw [← List.append_assoc]; exact hP
  have hD : va_D A ([(h0, .inr (9, [.int 0, .ref q1, .null, .null, .null, .int 0, .null, .null, .null, .null, .int 0, .null, .int 0, .null, .null]))] ++ (B1 ++ [(q2, .inl (cI, 8, .inl (fun _ => 0)))])) := by rw [← List.append_assoc]; exact hD
  obtain ⟨B2, hB2⟩ : ∃ z : va_W, z = B1 ++ [(q2, .inl (cI, 8, .inl (fun _ => 0)))] := ⟨_, rfl⟩
  rewrite [← hB2] at hP hD
  refine W.widen (k := 2) (n := 16) (Nat.le_of_ble_eq_true rfl) (Nat.le_of_ble_eq_true rfl) ?_
  refine va_putF (D := D) (ci := 9) (v := .ref q2) (ty := tyX9 2) (C := RX9) (T := TX9) (N := 15) hx hb hts x_in9 tyX9 tyX9_ok nmX9 hown hK hP hD hS 0 rfl rfl 2 (by decide) (hts _ xl_X9_19) (fun _ h9 => h9) rfl hin rfl (tyX9_ok 2 (by decide)) rfl rfl (Nat.le_of_ble_eq_true rfl) dX9_init_22 (fun H locs hP hD hS => ?_)
  have hP : va_P D vwCl ([(h0, .inr (9, [.int 0, .ref q1, .ref q2, .null, .null, .int 0, .null, .null, .null, .null, .int 0, .null, .int 0, .null, .null]))] ++ B2) H := hP
  have hD : va_D A ([(h0, .inr (9, [.int 0, .ref q1, .ref q2, .null, .null, .int 0, .null, .null, .null, .null, .int 0, .null, .int 0, .null, .null]))] ++ B2) := hD
  refine lv_aload_n hx hb dX9_init_25 rfl (lv_at hl 0 rfl) ?_
  refine lv_bipush (v := 8) hx hb dX9_init_26 (by decide) ?_
  refine c_newa (atype := .int) (a0 := (8, .inl (fun _ => 0))) hx hb (hts _ c_ac_int) rfl (fun _ h => by cases h) hK (t0 := 0) rfl hP hD hS hA (fun _ => rfl) (by decide) (by decide) (Nat.le_of_ble_eq_true rfl) (Nat.le_of_ble_eq_true rfl) (Nat.le_of_ble_eq_true rfl) dX9_init_28 (fun q3 H hP hD hS => ?_)
  have hP : va_P D vwCl ([(h0, .inr (9, [.int 0, .ref q1, .ref q2, .null, .null, .int 0, .null, .null, .null, .null, .int 0, .null, .int 0, .null, .null]))] ++ (B2 ++ [(q3, .inl (cI, 8, .inl (fun _ => 0)))])) H := by rw [← List.append_assoc]; exact hP
  have hD : va_D A ([(h0, .inr (9, [.int 0, .ref q1, .ref q2, .null, .null, .int 0, .null, .null, .null, .null, .int 0, .null, .int 0, .null, .null]))] ++ (B2 ++ [(q3, .inl (cI, 8, .inl (fun _ => 0)))])) := by rw [← List.append_assoc]; exact hD
  obtain ⟨B3, hB3⟩ : ∃ z : va_W, z = B2 ++ [(q3, .inl (cI, 8, .inl (fun _ => 0)))] := ⟨_, rfl⟩
  rewrite [← hB3] at hP hD
  refine W.widen (k := 3) (n := 24) (Nat.le_of_ble_eq_true rfl) (Nat.le_of_ble_eq_true rfl) ?_
  refine va_putF (D := D) (ci := 9) (v := .ref q3) (ty := tyX9 3) (C := RX9) (T := TX9) (N := 15) hx hb hts x_in9 tyX9 tyX9_ok nmX9 hown hK hP hD hS 0 rfl rfl 3 (by decide) (hts _ xl_X9_22) (fun _ h9 => h9) rfl hin rfl (tyX9_ok 3 (by decide)) rfl rfl (Nat.le_of_ble_eq_true rfl) dX9_init_30 (fun H locs hP hD hS => ?_)
  have hP : va_P D vwCl ([(h0, .inr (9, [.int 0, .ref q1, .ref q2, .ref q3, .null, .int 0, .null, .null, .null, .null, .int 0, .null, .int 0, .null, .null]))] ++ B3) H := hP
  have hD : va_D A ([(h0, .inr (9, [.int 0, .ref q1, .ref q2, .ref q3, .null, .int 0, .null, .null, .null, .null, .int 0, .null, .int 0, .null, .null]))] ++ B3) := hD
  refine lv_aload_n hx hb dX9_init_33 rfl (lv_at hl 0 rfl) ?_
  refine lv_bipush (v := 8) hx hb dX9_init_34 (by decide) ?_
  refine c_newa (atype := .boolean) (a0 := (8, .inl (fun _ => 0))) hx hb (hts _ c_ac_boolean) rfl (fun _ h => by cases h) hK (t0 := 2) rfl hP hD hS hA (fun _ => rfl) (by decide) (by decide) (Nat.le_of_ble_eq_true rfl) (Nat.le_of_ble_eq_true rfl) (Nat.le_of_ble_eq_true rfl) dX9_init_36 (fun q4 H hP hD hS => ?_)
  have hP : va_P D vwCl ([(h0, .inr (9, [.int 0, .ref q1, .ref q2, .ref q3, .null, .int 0, .null, .null, .null, .null, .int 0, .null, .int 0, .null, .null]))] ++ (B3 ++ [(q4, .inl (cZ, 8, .inl (fun _ => 0)))])) H := by rw [← List.append_assoc]; exact hP
  have hD : va_D A ([(h0, .inr (9, [.int 0, .ref q1, .ref q2, .ref q3, .null, .int 0, .null, .null, .null, .null, .int 0, .null, .int 0, .null, .null]))] ++ (B3 ++ [(q4, .inl (cZ, 8, .inl (fun _ => 0)))])) := by rw [← List.append_assoc]; exact hD
  obtain ⟨B4, hB4⟩ : ∃ z : va_W, z = B3 ++ [(q4, .inl (cZ, 8, .inl (fun _ => 0)))] := ⟨_, rfl⟩
  rewrite [← hB4] at hP hD
  refine W.widen (k := 4) (n := 32) (Nat.le_of_ble_eq_true rfl) (Nat.le_of_ble_eq_true rfl) ?_
  refine va_putF (D := D) (ci := 9) (v := .ref q4) (ty := tyX9 4) (C := RX9) (T := TX9) (N := 15) hx hb hts x_in9 tyX9 tyX9_ok nmX9 hown hK hP hD hS 0 rfl rfl 4 (by decide) (hts _ xl_X9_25) (fun _ h9 => h9) rfl hin rfl (tyX9_ok 4 (by decide)) rfl rfl (Nat.le_of_ble_eq_true rfl) dX9_init_38 (fun H locs hP hD hS => ?_)
  have hP : va_P D vwCl ([(h0, .inr (9, [.int 0, .ref q1, .ref q2, .ref q3, .ref q4, .int 0, .null, .null, .null, .null, .int 0, .null, .int 0, .null, .null]))] ++ B4) H := hP
  have hD : va_D A ([(h0, .inr (9, [.int 0, .ref q1, .ref q2, .ref q3, .ref q4, .int 0, .null, .null, .null, .null, .int 0, .null, .int 0, .null, .null]))] ++ B4) := hD
  refine lv_aload_n hx hb dX9_init_41 rfl (lv_at hl 0 rfl) ?_
  refine lv_iconst (v := 0) hx hb dX9_init_42 (by decide) ?_
  refine va_put (D := D) (ci := 9) (v := .int 0) (ty := tyX9 5) (C := RX9) (T := TX9) (N := 15) hx hb hts x_in9 tyX9 tyX9_ok nmX9 hown hK hP hD hS 0 rfl rfl 5 (by decide) (hts _ xl_X9_29) (fun _ h9 => h9) rfl (tyX9_ok 5 (by decide)) rfl rfl (Nat.le_of_ble_eq_true rfl) dX9_init_43 (fun H locs hP hD hS => ?_)
  have hP : va_P D vwCl ([(h0, .inr (9, [.int 0, .ref q1, .ref q2, .ref q3, .ref q4, .int 0, .null, .null, .null, .null, .int 0, .null, .int 0, .null, .null]))] ++ B4) H := hP
  have hD : va_D A ([(h0, .inr (9, [.int 0, .ref q1, .ref q2, .ref q3, .ref q4, .int 0, .null, .null, .null, .null, .int 0, .null, .int 0, .null, .null]))] ++ B4) := hD
  refine lv_aload_n hx hb dX9_init_46 rfl (lv_at hl 0 rfl) ?_
  refine lv_bipush (v := 6) hx hb dX9_init_47 (by decide) ?_
  refine c_newa (atype := .int) (a0 := (6, .inl (fun _ => 0))) hx hb (hts _ c_ac_int) rfl (fun _ h => by cases h) hK (t0 := 0) rfl hP hD hS hA (fun _ => rfl) (by decide) (by decide) (Nat.le_of_ble_eq_true rfl) (Nat.le_of_ble_eq_true rfl) (Nat.le_of_ble_eq_true rfl) dX9_init_49 (fun q5 H hP hD hS => ?_)
  have hP : va_P D vwCl ([(h0, .inr (9, [.int 0, .ref q1, .ref q2, .ref q3, .ref q4, .int 0, .null, .null, .null, .null, .int 0, .null, .int 0, .null, .null]))] ++ (B4 ++ [(q5, .inl (cI, 6, .inl (fun _ => 0)))])) H := by rw [← List.append_assoc]; exact hP
  have hD : va_D A ([(h0, .inr (9, [.int 0, .ref q1, .ref q2, .ref q3, .ref q4, .int 0, .null, .null, .null, .null, .int 0, .null, .int 0, .null, .null]))] ++ (B4 ++ [(q5, .inl (cI, 6, .inl (fun _ => 0)))])) := by rw [← List.append_assoc]; exact hD
  obtain ⟨B5, hB5⟩ : ∃ z : va_W, z = B4 ++ [(q5, .inl (cI, 6, .inl (fun _ => 0)))] := ⟨_, rfl⟩
  rewrite [← hB5] at hP hD
  refine W.widen (k := 5) (n := 38) (Nat.le_of_ble_eq_true rfl) (Nat.le_of_ble_eq_true rfl) ?_
  refine va_putF (D := D) (ci := 9) (v := .ref q5) (ty := tyX9 6) (C := RX9) (T := TX9) (N := 15) hx hb hts x_in9 tyX9 tyX9_ok nmX9 hown hK hP hD hS 0 rfl rfl 6 (by decide) (hts _ xl_X9_32) (fun _ h9 => h9) rfl hin rfl (tyX9_ok 6 (by decide)) rfl rfl (Nat.le_of_ble_eq_true rfl) dX9_init_51 (fun H locs hP hD hS => ?_)
  have hP : va_P D vwCl ([(h0, .inr (9, [.int 0, .ref q1, .ref q2, .ref q3, .ref q4, .int 0, .ref q5, .null, .null, .null, .int 0, .null, .int 0, .null, .null]))] ++ B5) H := hP
  have hD : va_D A ([(h0, .inr (9, [.int 0, .ref q1, .ref q2, .ref q3, .ref q4, .int 0, .ref q5, .null, .null, .null, .int 0, .null, .int 0, .null, .null]))] ++ B5) := hD
  refine lv_aload_n hx hb dX9_init_54 rfl (lv_at hl 0 rfl) ?_
  refine lv_bipush (v := 6) hx hb dX9_init_55 (by decide) ?_
  refine c_newa (atype := .int) (a0 := (6, .inl (fun _ => 0))) hx hb (hts _ c_ac_int) rfl (fun _ h => by cases h) hK (t0 := 0) rfl hP hD hS hA (fun _ => rfl) (by decide) (by decide) (Nat.le_of_ble_eq_true rfl) (Nat.le_of_ble_eq_true rfl) (Nat.le_of_ble_eq_true rfl) dX9_init_57 (fun q6 H hP hD hS => ?_)
  have hP : va_P D vwCl ([(h0, .inr (9, [.int 0, .ref q1, .ref q2, .ref q3, .ref q4, .int 0, .ref q5, .null, .null, .null, .int 0, .null, .int 0, .null, .null]))] ++ (B5 ++ [(q6, .inl (cI, 6, .inl (fun _ => 0)))])) H := by rw [← List.append_assoc]; exact hP
  have hD : va_D A ([(h0, .inr (9, [.int 0, .ref q1, .ref q2, .ref q3, .ref q4, .int 0, .ref q5, .null, .null, .null, .int 0, .null, .int 0, .null, .null]))] ++ (B5 ++ [(q6, .inl (cI, 6, .inl (fun _ => 0)))])) := by rw [← List.append_assoc]; exact hD
  obtain ⟨B6, hB6⟩ : ∃ z : va_W, z = B5 ++ [(q6, .inl (cI, 6, .inl (fun _ => 0)))] := ⟨_, rfl⟩
  rewrite [← hB6] at hP hD
  refine W.widen (k := 6) (n := 44) (Nat.le_of_ble_eq_true rfl) (Nat.le_of_ble_eq_true rfl) ?_
  refine va_putF (D := D) (ci := 9) (v := .ref q6) (ty := tyX9 7) (C := RX9) (T := TX9) (N := 15) hx hb hts x_in9 tyX9 tyX9_ok nmX9 hown hK hP hD hS 0 rfl rfl 7 (by decide) (hts _ xl_X9_35) (fun _ h9 => h9) rfl hin rfl (tyX9_ok 7 (by decide)) rfl rfl (Nat.le_of_ble_eq_true rfl) dX9_init_59 (fun H locs hP hD hS => ?_)
  have hP : va_P D vwCl ([(h0, .inr (9, [.int 0, .ref q1, .ref q2, .ref q3, .ref q4, .int 0, .ref q5, .ref q6, .null, .null, .int 0, .null, .int 0, .null, .null]))] ++ B6) H := hP
  have hD : va_D A ([(h0, .inr (9, [.int 0, .ref q1, .ref q2, .ref q3, .ref q4, .int 0, .ref q5, .ref q6, .null, .null, .int 0, .null, .int 0, .null, .null]))] ++ B6) := hD
  refine lv_aload_n hx hb dX9_init_62 rfl (lv_at hl 0 rfl) ?_
  refine lv_bipush (v := 6) hx hb dX9_init_63 (by decide) ?_
  refine c_newa (atype := .int) (a0 := (6, .inl (fun _ => 0))) hx hb (hts _ c_ac_int) rfl (fun _ h => by cases h) hK (t0 := 0) rfl hP hD hS hA (fun _ => rfl) (by decide) (by decide) (Nat.le_of_ble_eq_true rfl) (Nat.le_of_ble_eq_true rfl) (Nat.le_of_ble_eq_true rfl) dX9_init_65 (fun q7 H hP hD hS => ?_)
  have hP : va_P D vwCl ([(h0, .inr (9, [.int 0, .ref q1, .ref q2, .ref q3, .ref q4, .int 0, .ref q5, .ref q6, .null, .null, .int 0, .null, .int 0, .null, .null]))] ++ (B6 ++ [(q7, .inl (cI, 6, .inl (fun _ => 0)))])) H := by rw [← List.append_assoc]; exact hP
  have hD : va_D A ([(h0, .inr (9, [.int 0, .ref q1, .ref q2, .ref q3, .ref q4, .int 0, .ref q5, .ref q6, .null, .null, .int 0, .null, .int 0, .null, .null]))] ++ (B6 ++ [(q7, .inl (cI, 6, .inl (fun _ => 0)))])) := by rw [← List.append_assoc]; exact hD
  obtain ⟨B7, hB7⟩ : ∃ z : va_W, z = B6 ++ [(q7, .inl (cI, 6, .inl (fun _ => 0)))] := ⟨_, rfl⟩
  rewrite [← hB7] at hP hD
  refine W.widen (k := 7) (n := 50) (Nat.le_of_ble_eq_true rfl) (Nat.le_of_ble_eq_true rfl) ?_
  refine va_putF (D := D) (ci := 9) (v := .ref q7) (ty := tyX9 8) (C := RX9) (T := TX9) (N := 15) hx hb hts x_in9 tyX9 tyX9_ok nmX9 hown hK hP hD hS 0 rfl rfl 8 (by decide) (hts _ xl_X9_38) (fun _ h9 => h9) rfl hin rfl (tyX9_ok 8 (by decide)) rfl rfl (Nat.le_of_ble_eq_true rfl) dX9_init_67 (fun H locs hP hD hS => ?_)
  have hP : va_P D vwCl ([(h0, .inr (9, [.int 0, .ref q1, .ref q2, .ref q3, .ref q4, .int 0, .ref q5, .ref q6, .ref q7, .null, .int 0, .null, .int 0, .null, .null]))] ++ B7) H := hP
  have hD : va_D A ([(h0, .inr (9, [.int 0, .ref q1, .ref q2, .ref q3, .ref q4, .int 0, .ref q5, .ref q6, .ref q7, .null, .int 0, .null, .int 0, .null, .null]))] ++ B7) := hD
  refine lv_aload_n hx hb dX9_init_70 rfl (lv_at hl 0 rfl) ?_
  refine lv_bipush (v := 6) hx hb dX9_init_71 (by decide) ?_
  refine c_newa (atype := .int) (a0 := (6, .inl (fun _ => 0))) hx hb (hts _ c_ac_int) rfl (fun _ h => by cases h) hK (t0 := 0) rfl hP hD hS hA (fun _ => rfl) (by decide) (by decide) (Nat.le_of_ble_eq_true rfl) (Nat.le_of_ble_eq_true rfl) (Nat.le_of_ble_eq_true rfl) dX9_init_73 (fun q8 H hP hD hS => ?_)
  have hP : va_P D vwCl ([(h0, .inr (9, [.int 0, .ref q1, .ref q2, .ref q3, .ref q4, .int 0, .ref q5, .ref q6, .ref q7, .null, .int 0, .null, .int 0, .null, .null]))] ++ (B7 ++ [(q8, .inl (cI, 6, .inl (fun _ => 0)))])) H := by rw [← List.append_assoc]; exact hP
  have hD : va_D A ([(h0, .inr (9, [.int 0, .ref q1, .ref q2, .ref q3, .ref q4, .int 0, .ref q5, .ref q6, .ref q7, .null, .int 0, .null, .int 0, .null, .null]))] ++ (B7 ++ [(q8, .inl (cI, 6, .inl (fun _ => 0)))])) := by rw [← List.append_assoc]; exact hD
  obtain ⟨B8, hB8⟩ : ∃ z : va_W, z = B7 ++ [(q8, .inl (cI, 6, .inl (fun _ => 0)))] := ⟨_, rfl⟩
  rewrite [← hB8] at hP hD
  refine W.widen (k := 8) (n := 56) (Nat.le_of_ble_eq_true rfl) (Nat.le_of_ble_eq_true rfl) ?_
  refine va_putF (D := D) (ci := 9) (v := .ref q8) (ty := tyX9 9) (C := RX9) (T := TX9) (N := 15) hx hb hts x_in9 tyX9 tyX9_ok nmX9 hown hK hP hD hS 0 rfl rfl 9 (by decide) (hts _ xl_X9_41) (fun _ h9 => h9) rfl hin rfl (tyX9_ok 9 (by decide)) rfl rfl (Nat.le_of_ble_eq_true rfl) dX9_init_75 (fun H locs hP hD hS => ?_)
  have hP : va_P D vwCl ([(h0, .inr (9, [.int 0, .ref q1, .ref q2, .ref q3, .ref q4, .int 0, .ref q5, .ref q6, .ref q7, .ref q8, .int 0, .null, .int 0, .null, .null]))] ++ B8) H := hP
  have hD : va_D A ([(h0, .inr (9, [.int 0, .ref q1, .ref q2, .ref q3, .ref q4, .int 0, .ref q5, .ref q6, .ref q7, .ref q8, .int 0, .null, .int 0, .null, .null]))] ++ B8) := hD
  refine lv_aload_n hx hb dX9_init_78 rfl (lv_at hl 0 rfl) ?_
  refine lv_iconst (v := 0) hx hb dX9_init_79 (by decide) ?_
  refine va_put (D := D) (ci := 9) (v := .int 0) (ty := tyX9 10) (C := RX9) (T := TX9) (N := 15) hx hb hts x_in9 tyX9 tyX9_ok nmX9 hown hK hP hD hS 0 rfl rfl 10 (by decide) (hts _ xl_X9_44) (fun _ h9 => h9) rfl (tyX9_ok 10 (by decide)) rfl rfl (Nat.le_of_ble_eq_true rfl) dX9_init_80 (fun H locs hP hD hS => ?_)
  have hP : va_P D vwCl ([(h0, .inr (9, [.int 0, .ref q1, .ref q2, .ref q3, .ref q4, .int 0, .ref q5, .ref q6, .ref q7, .ref q8, .int 0, .null, .int 0, .null, .null]))] ++ B8) H := hP
  have hD : va_D A ([(h0, .inr (9, [.int 0, .ref q1, .ref q2, .ref q3, .ref q4, .int 0, .ref q5, .ref q6, .ref q7, .ref q8, .int 0, .null, .int 0, .null, .null]))] ++ B8) := hD
  refine lv_aload_n hx hb dX9_init_83 rfl (lv_at hl 0 rfl) ?_
  refine lv_bipush (v := 8) hx hb dX9_init_84 (by decide) ?_
  refine c_newa (atype := .int) (a0 := (8, .inl (fun _ => 0))) hx hb (hts _ c_ac_int) rfl (fun _ h => by cases h) hK (t0 := 0) rfl hP hD hS hA (fun _ => rfl) (by decide) (by decide) (Nat.le_of_ble_eq_true rfl) (Nat.le_of_ble_eq_true rfl) (Nat.le_of_ble_eq_true rfl) dX9_init_86 (fun q9 H hP hD hS => ?_)
  have hP : va_P D vwCl ([(h0, .inr (9, [.int 0, .ref q1, .ref q2, .ref q3, .ref q4, .int 0, .ref q5, .ref q6, .ref q7, .ref q8, .int 0, .null, .int 0, .null, .null]))] ++ (B8 ++ [(q9, .inl (cI, 8, .inl (fun _ => 0)))])) H := by rw [← List.append_assoc]; exact hP
  have hD : va_D A ([(h0, .inr (9, [.int 0, .ref q1, .ref q2, .ref q3, .ref q4, .int 0, .ref q5, .ref q6, .ref q7, .ref q8, .int 0, .null, .int 0, .null, .null]))] ++ (B8 ++ [(q9, .inl (cI, 8, .inl (fun _ => 0)))])) := by rw [← List.append_assoc]; exact hD
  obtain ⟨B9, hB9⟩ : ∃ z : va_W, z = B8 ++ [(q9, .inl (cI, 8, .inl (fun _ => 0)))] := ⟨_, rfl⟩
  rewrite [← hB9] at hP hD
  refine W.widen (k := 9) (n := 64) (Nat.le_of_ble_eq_true rfl) (Nat.le_of_ble_eq_true rfl) ?_
  refine va_putF (D := D) (ci := 9) (v := .ref q9) (ty := tyX9 11) (C := RX9) (T := TX9) (N := 15) hx hb hts x_in9 tyX9 tyX9_ok nmX9 hown hK hP hD hS 0 rfl rfl 11 (by decide) (hts _ xl_X9_47) (fun _ h9 => h9) rfl hin rfl (tyX9_ok 11 (by decide)) rfl rfl (Nat.le_of_ble_eq_true rfl) dX9_init_88 (fun H locs hP hD hS => ?_)
  have hP : va_P D vwCl ([(h0, .inr (9, [.int 0, .ref q1, .ref q2, .ref q3, .ref q4, .int 0, .ref q5, .ref q6, .ref q7, .ref q8, .int 0, .ref q9, .int 0, .null, .null]))] ++ B9) H := hP
  have hD : va_D A ([(h0, .inr (9, [.int 0, .ref q1, .ref q2, .ref q3, .ref q4, .int 0, .ref q5, .ref q6, .ref q7, .ref q8, .int 0, .ref q9, .int 0, .null, .null]))] ++ B9) := hD
  refine lv_aload_n hx hb dX9_init_91 rfl (lv_at hl 0 rfl) ?_
  refine lv_iconst (v := 0) hx hb dX9_init_92 (by decide) ?_
  refine va_put (D := D) (ci := 9) (v := .int 0) (ty := tyX9 12) (C := RX9) (T := TX9) (N := 15) hx hb hts x_in9 tyX9 tyX9_ok nmX9 hown hK hP hD hS 0 rfl rfl 12 (by decide) (hts _ xl_X9_50) (fun _ h9 => h9) rfl (tyX9_ok 12 (by decide)) rfl rfl (Nat.le_of_ble_eq_true rfl) dX9_init_93 (fun H locs hP hD hS => ?_)
  have hP : va_P D vwCl ([(h0, .inr (9, [.int 0, .ref q1, .ref q2, .ref q3, .ref q4, .int 0, .ref q5, .ref q6, .ref q7, .ref q8, .int 0, .ref q9, .int 0, .null, .null]))] ++ B9) H := hP
  have hD : va_D A ([(h0, .inr (9, [.int 0, .ref q1, .ref q2, .ref q3, .ref q4, .int 0, .ref q5, .ref q6, .ref q7, .ref q8, .int 0, .ref q9, .int 0, .null, .null]))] ++ B9) := hD
  refine lv_aload_n hx hb dX9_init_96 rfl (lv_at hl 0 rfl) ?_
  refine va_new (ci := 4) (fs := [.null, .null, .int 0, .int 0]) (C := RX4) (T := TX4) (N := 4) hx hb hts x_in4 tyX4 tyX4_ok hown (hts _ c_cl9_53) (hts _ c_is4.1) (hts _ c_is4.2) hK hP hD hS hA rfl c_df4 (Nat.le_of_ble_eq_true rfl) (Nat.le_of_ble_eq_true rfl) dX9_init_97 (fun q10 H hP hD hS => ?_)
  refine W.widen (k := 10) (n := 68) (Nat.le_of_ble_eq_true rfl) (Nat.le_of_ble_eq_true rfl) ?_
  refine lv_dup hx hb dX9_init_100 rfl ?_
  refine lv_iconst (v := 0) hx hb dX9_init_101 (by decide) ?_
  have hPc : va_P D vwCl [(q10, .inr (4, [.null, .null, .int 0, .int 0]))] H := c_right hP
  have hDc : va_D A [(q10, .inr (4, [.null, .null, .int 0, .int 0]))] := c_rightD hD
  have hFc := c_free (wc := [(q10, .inr (4, [.null, .null, .int 0, .int 0]))]) hD hS hA
  refine va_callv (va_runI (As := [.int 0]) (rest := [.ref q10, .ref h0]) ⟨hx, hb, hml, hown, hts⟩ (kc_4_82 l D cI cB cZ cQ q10 H.size) ⟨callB_of 1 hts (gT_in (fun w h => (List.mem_cons.mp h).elim (fun e => e ▸ c_cw4.1) id)) rfl rfl rfl (hts _ c_is4.2) (hts _ c_lk9_55) c_cw4.2.2 ⟨(Nat.le_of_ble_eq_true rfl), (Nat.le_of_ble_eq_true rfl)⟩, rfl, hts _ c_cw4.2.1⟩ ⟨fun a U g mk q => by obtain ⟨q0, q1, qP, qK, qD, qN, qO⟩ := q; exact ⟨q0, q1, qP, va_K.moved (u := U) (U := U.calling g mk a) (Vm.Alike.refl U.vm) qK, qD, xNest_warm (State.WarmedH.refl U) qN, aoa_moved (u := U) (U := U.calling g mk a) (Vm.Alike.refl U.vm) qO⟩, fun U hU hW => ⟨rfl, by rw [hU], by rw [hU]; exact hPc, va_K.moved hW.alike hK, hDc.weaken (fun _ _ _ _ => trivial), xNest_warm hW hN, aoa_moved hW.alike hAO⟩⟩ rfl rfl hl.1 rfl (lv_room (Nat.le_of_ble_eq_true rfl)) dX9_init_102 ⟨(Nat.le_of_ble_eq_true rfl), (Nat.le_of_ble_eq_true rfl)⟩) hS (fun q _ h => hFc q h) hFc (fun u10 t H1 locs ht hvm hw hB hz1 hk1 hS => ?_)
  obtain ⟨hu10, hP1, hK1, hD1⟩ := hB
  rewrite [ht] at hP1
  obtain ⟨hP, hD⟩ := c_join (wr := [(h0, .inr (9, [.int 0, .ref q1, .ref q2, .ref q3, .ref q4, .int 0, .ref q5, .ref q6, .ref q7, .ref q8, .int 0, .ref q9, .int 0, .null, .null]))] ++ B9) (w1 := xb cI cB cZ cQ u10 82 3) hP hD hk1 hFc hP1 hD1
  generalize H1 = H at hP hS ⊢
  have hP : va_P D vwCl ([(h0, .inr (9, [.int 0, .ref q1, .ref q2, .ref q3, .ref q4, .int 0, .ref q5, .ref q6, .ref q7, .ref q8, .int 0, .ref q9, .int 0, .null, .null]))] ++ (B9 ++ xb cI cB cZ cQ u10 82 3)) H := by rw [← List.append_assoc]; exact hP
  have hD : va_D A ([(h0, .inr (9, [.int 0, .ref q1, .ref q2, .ref q3, .ref q4, .int 0, .ref q5, .ref q6, .ref q7, .ref q8, .int 0, .ref q9, .int 0, .null, .null]))] ++ (B9 ++ xb cI cB cZ cQ u10 82 3)) := by rw [← List.append_assoc]; exact hD
  obtain ⟨B10, hB10⟩ : ∃ z : va_W, z = B9 ++ xb cI cB cZ cQ u10 82 3 := ⟨_, rfl⟩
  rewrite [← hB10] at hP hD
  have hz10 : Value.ref q10 = .ref (u10 82) := by rw [hu10]
  refine W.widen (k := 12) (n := 799) (Nat.le_of_ble_eq_true rfl) (Nat.le_of_ble_eq_true rfl) ?_
  rw [hz10]
  refine va_putF (D := D) (ci := 9) (v := .ref (u10 82)) (ty := tyX9 13) (C := RX9) (T := TX9) (N := 15) hx hb hts x_in9 tyX9 tyX9_ok nmX9 hown hK hP hD hS 0 rfl rfl 13 (by decide) (hts _ xl_X9_58) (fun _ h9 => h9) rfl hin rfl (tyX9_ok 13 (by decide)) rfl rfl (Nat.le_of_ble_eq_true rfl) dX9_init_105 (fun H locs hP hD hS => ?_)
  have hP : va_P D vwCl ([(h0, .inr (9, [.int 0, .ref q1, .ref q2, .ref q3, .ref q4, .int 0, .ref q5, .ref q6, .ref q7, .ref q8, .int 0, .ref q9, .int 0, .ref (u10 82), .null]))] ++ B10) H := hP
  have hD : va_D A ([(h0, .inr (9, [.int 0, .ref q1, .ref q2, .ref q3, .ref q4, .int 0, .ref q5, .ref q6, .ref q7, .ref q8, .int 0, .ref q9, .int 0, .ref (u10 82), .null]))] ++ B10) := hD
  refine lv_aload_n hx hb dX9_init_108 rfl (lv_at hl 0 rfl) ?_
  refine va_new (ci := 4) (fs := [.null, .null, .int 0, .int 0]) (C := RX4) (T := TX4) (N := 4) hx hb hts x_in4 tyX4 tyX4_ok hown (hts _ c_cl9_53) (hts _ c_is4.1) (hts _ c_is4.2) hK hP hD hS hA rfl c_df4 (Nat.le_of_ble_eq_true rfl) (Nat.le_of_ble_eq_true rfl) dX9_init_109 (fun q11 H hP hD hS => ?_)
  refine W.widen (k := 13) (n := 803) (Nat.le_of_ble_eq_true rfl) (Nat.le_of_ble_eq_true rfl) ?_
  refine lv_dup hx hb dX9_init_112 rfl ?_
  refine lv_iconst (v := 1) hx hb dX9_init_113 (by decide) ?_
  have hPc : va_P D vwCl [(q11, .inr (4, [.null, .null, .int 0, .int 0]))] H := c_right hP
  have hDc : va_D A [(q11, .inr (4, [.null, .null, .int 0, .int 0]))] := c_rightD hD
  have hFc := c_free (wc := [(q11, .inr (4, [.null, .null, .int 0, .int 0]))]) hD hS hA
  refine va_callv (va_runI (As := [.int 1]) (rest := [.ref q11, .ref h0]) ⟨hx, hb, hml, hown, hts⟩ (kc_4_85 l D cI cB cZ cQ q11 H.size) ⟨callB_of 1 hts (gT_in (fun w h => (List.mem_cons.mp h).elim (fun e => e ▸ c_cw4.1) id)) rfl rfl rfl (hts _ c_is4.2) (hts _ c_lk9_55) c_cw4.2.2 ⟨(Nat.le_of_ble_eq_true rfl), (Nat.le_of_ble_eq_true rfl)⟩, rfl, hts _ c_cw4.2.1⟩ ⟨fun a U g mk q => by obtain ⟨q0, q1, qP, qK, qD, qN, qO⟩ := q; exact ⟨q0, q1, qP, va_K.moved (u := U) (U := U.calling g mk a) (Vm.Alike.refl U.vm) qK, qD, xNest_warm (State.WarmedH.refl U) qN, aoa_moved (u := U) (U := U.calling g mk a) (Vm.Alike.refl U.vm) qO⟩, fun U hU hW => ⟨rfl, by rw [hU], by rw [hU]; exact hPc, va_K.moved hW.alike hK, hDc.weaken (fun _ _ _ _ => trivial), xNest_warm hW hN, aoa_moved hW.alike hAO⟩⟩ rfl rfl hl.1 rfl (lv_room (Nat.le_of_ble_eq_true rfl)) dX9_init_114 ⟨(Nat.le_of_ble_eq_true rfl), (Nat.le_of_ble_eq_true rfl)⟩) hS (fun q _ h => hFc q h) hFc (fun u11 t H1 locs ht hvm hw hB hz1 hk1 hS => ?_)
  obtain ⟨hu11, hP1, hK1, hD1⟩ := hB
  rewrite [ht] at hP1
  obtain ⟨hP, hD⟩ := c_join (wr := [(h0, .inr (9, [.int 0, .ref q1, .ref q2, .ref q3, .ref q4, .int 0, .ref q5, .ref q6, .ref q7, .ref q8, .int 0, .ref q9, .int 0, .ref (u10 82), .null]))] ++ B10) (w1 := xb cI cB cZ cQ u11 85 3) hP hD hk1 hFc hP1 hD1
  generalize H1 = H at hP hS ⊢
  have hP : va_P D vwCl ([(h0, .inr (9, [.int 0, .ref q1, .ref q2, .ref q3, .ref q4, .int 0, .ref q5, .ref q6, .ref q7, .ref q8, .int 0, .ref q9, .int 0, .ref (u10 82), .null]))] ++ (B10 ++ xb cI cB cZ cQ u11 85 3)) H := by rw [← List.append_assoc]; exact hP
  have hD : va_D A ([(h0, .inr (9, [.int 0, .ref q1, .ref q2, .ref q3, .ref q4, .int 0, .ref q5, .ref q6, .ref q7, .ref q8, .int 0, .ref q9, .int 0, .ref (u10 82), .null]))] ++ (B10 ++ xb cI cB cZ cQ u11 85 3)) := by rw [← List.append_assoc]; exact hD
  obtain ⟨B11, hB11⟩ : ∃ z : va_W, z = B10 ++ xb cI cB cZ cQ u11 85 3 := ⟨_, rfl⟩
  rewrite [← hB11] at hP hD
  have hz11 : Value.ref q11 = .ref (u11 85) := by rw [hu11]
  refine W.widen (k := 15) (n := 1534) (Nat.le_of_ble_eq_true rfl) (Nat.le_of_ble_eq_true rfl) ?_
  rw [hz11]
  refine va_putF (D := D) (ci := 9) (v := .ref (u11 85)) (ty := tyX9 14) (C := RX9) (T := TX9) (N := 15) hx hb hts x_in9 tyX9 tyX9_ok nmX9 hown hK hP hD hS 0 rfl rfl 14 (by decide) (hts _ xl_X9_62) (fun _ h9 => h9) rfl hin rfl (tyX9_ok 14 (by decide)) rfl rfl (Nat.le_of_ble_eq_true rfl) dX9_init_117 (fun H locs hP hD hS => ?_)
  have hP : va_P D vwCl ([(h0, .inr (9, [.int 0, .ref q1, .ref q2, .ref q3, .ref q4, .int 0, .ref q5, .ref q6, .ref q7, .ref q8, .int 0, .ref q9, .int 0, .ref (u10 82), .ref (u11 85)]))] ++ B11) H := hP
  have hD : va_D A ([(h0, .inr (9, [.int 0, .ref q1, .ref q2, .ref q3, .ref q4, .int 0, .ref q5, .ref q6, .ref q7, .ref q8, .int 0, .ref q9, .int 0, .ref (u10 82), .ref (u11 85)]))] ++ B11) := hD
  rewrite [hB11, hB10, hB9, hB8, hB7, hB6, hB5, hB4, hB3, hB2, hB1, hB0] at hP hD
  have hP9 : va_P D vwCl (xb cI cB cZ cQ (xj (xj (xj (xj (xj (xj (xj (xj (xj (xj (xj (fun _ => h0) 73 (fun _ => q1)) 74 (fun _ => q2)) 75 (fun _ => q3)) 76 (fun _ => q4)) 77 (fun _ => q5)) 78 (fun _ => q6)) 79 (fun _ => q7)) 80 (fun _ => q8)) 81 (fun _ => q9)) 82 u10) 85 u11) 72 16) H := hP
  have hD9 : va_D A (xb cI cB cZ cQ (xj (xj (xj (xj (xj (xj (xj (xj (xj (xj (xj (fun _ => h0) 73 (fun _ => q1)) 74 (fun _ => q2)) 75 (fun _ => q3)) 76 (fun _ => q4)) 77 (fun _ => q5)) 78 (fun _ => q6)) 79 (fun _ => q7)) 80 (fun _ => q8)) 81 (fun _ => q9)) 82 u10) 85 u11) 72 16) := hD
  exact W.vret hx hb hr (fun t ht hW => ⟨⟨(xj (xj (xj (xj (xj (xj (xj (xj (xj (xj (xj (fun _ => h0) 73 (fun _ => q1)) 74 (fun _ => q2)) 75 (fun _ => q3)) 76 (fun _ => q4)) 77 (fun _ => q5)) 78 (fun _ => q6)) 79 (fun _ => q7)) 80 (fun _ => q8)) 81 (fun _ => q9)) 82 u10) 85 u11), rfl, trivial, rfl, by rw [ht]; exact hP9, va_K.moved hW.alike hK, hD9⟩, hS.F ht⟩) hS.2.2 dX9_init_120 hlocks

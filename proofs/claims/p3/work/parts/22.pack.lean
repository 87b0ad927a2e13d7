/-! part 19.dctor -/
section
set_option maxHeartbeats 4000000 in
set_option maxRecDepth 100000 in
theorem kc_3_1 (l : Launch) (D : va_G) (cI cB cZ cQ : ClassId) (h0 : Nat) : cM l yX3_init cX3_init 1 3 18 2256 D (xtys cI cB cZ cQ) [.ref h0] [(h0, .inr (3, [.null, .null, .int 0, .int 0]))] 1 h0 (fun u => xb cI cB cZ cQ u 1 19) := by
  intro sz
  refine Met.ofW (cc := cX3_init) (maxL := 1) (ret := none) (by decide) rfl ?_
  intro p e s m args below meth c s₁ B hml hv
  obtain ⟨rfl, hsz, hP, hK, hD0, hN, hAO⟩ := hv
  have hx := B.exec
  have hb := B.bytes
  have hr := B.returns
  have hts : ∀ w ∈ gT, w.before _ s = true := fun w h => atoms_spec (ws := Cond.code yX3_init cX3_init 1 none :: gT) B.pre w (List.mem_cons_of_mem _ h)
  have hown : s.vm.findClass RX3 = some m.cls := findClass_of_methodNamed B.named
  have hlocks := B.notSynchronized
  have hin : meth.name = "<init>" := (name_of_methodNamed B.named B.method).1
  subst hsz
  have hD := hD0.self (sz := s.heap.size)
  generalize hAe : va_A [(h0, .inr (3, [.null, .null, .int 0, .int 0]))] s.heap.size = A at hD ⊢
  have hA : ∀ q : Nat, s.heap.size ≤ q → A q := fun q h => by rw [← hAe]; exact Or.inr h
  have hS : va_S A s.heap s.heap [] := va_S.rf
  have hl := lv_entry ([.ref h0]) (n := 1) (Nat.le_of_ble_eq_true rfl)
  rw [lg_entry_eq]
  generalize (lg_sl ([.ref h0]) ++ List.replicate (1 - (lg_sl ([.ref h0])).length) Slot.unset).toArray = ls at hl ⊢
  have hl : lv_has ls 1 [(0, .ref h0)] := hl
  obtain ⟨B0, hB0⟩ : ∃ z : va_W, z = [] := ⟨_, rfl⟩
  have hP : va_P D vwCl ([(h0, .inr (3, [.null, .null, .int 0, .int 0]))] ++ B0) s.heap := by rw [hB0]; exact hP
  have hD : va_D A ([(h0, .inr (3, [.null, .null, .int 0, .int 0]))] ++ B0) := by rw [hB0]; exact hD
  refine lv_aload_n hx hb dX3_init_0 rfl (lv_at hl 0 rfl) ?_
  refine W.objInit hx hb hown (hts _ c_oi3) (hts _ c_ob.1) (hts _ c_ob.2) rfl (by rw [hml]; exact hl.1) rfl dX3_init_1 (Nat.le_of_ble_eq_true rfl) (Nat.le_of_ble_eq_true rfl) ?_
  refine W.eq (g2 := F0 m 4 ls []) rfl ?_
  refine lv_aload_n hx hb dX3_init_4 rfl (lv_at hl 0 rfl) ?_
  refine va_new (ci := 8) (fs := [.null, .int 0, .int 0, .int 0, .int 0, .int 0, .int 0]) (C := RX8) (T := TX8) (N := 7) hx hb hts x_in8 tyX8 tyX8_ok hown (hts _ c_cl3_9) (hts _ c_is8.1) (hts _ c_is8.2) hK hP hD hS hA rfl c_df8 (Nat.le_of_ble_eq_true rfl) (Nat.le_of_ble_eq_true rfl) dX3_init_5 (fun q1 H hP hD hS => ?_)
  refine W.widen (k := 1) (n := 7) (Nat.le_of_ble_eq_true rfl) (Nat.le_of_ble_eq_true rfl) ?_
  refine lv_dup hx hb dX3_init_8 rfl ?_
  have hPc : va_P D vwCl [(q1, .inr (8, [.null, .int 0, .int 0, .int 0, .int 0, .int 0, .int 0]))] H := c_right hP
  have hDc : va_D A [(q1, .inr (8, [.null, .int 0, .int 0, .int 0, .int 0, .int 0, .int 0]))] := c_rightD hD
  have hFc := c_free (wc := [(q1, .inr (8, [.null, .int 0, .int 0, .int 0, .int 0, .int 0, .int 0]))]) hD hS hA
  refine va_callv (va_runIN (As := []) (rest := [.ref q1, .ref h0]) ⟨hx, hb, hml, hown, hts⟩ (kc_8_2 l D cI cB cZ cQ q1 H.size) ⟨va_cnB (host := "GrottoHours") 0 hts (gT_in (fun w h => (List.mem_cons.mp h).elim (fun e => e ▸ c_cw8.1) id)) rfl rfl rfl (hN _ (List.mem_of_getElem? (i := 1) rfl)) (hts _ c_is8.2) c_cw8.2.2 ⟨(Nat.le_of_ble_eq_true rfl), (Nat.le_of_ble_eq_true rfl)⟩, rfl, hts _ c_cw8.2.1⟩ ⟨fun a U g mk q => by obtain ⟨q0, q1, qP, qK, qD, qN, qO⟩ := q; exact ⟨q0, q1, qP, va_K.moved (u := U) (U := U.calling g mk a) (Vm.Alike.refl U.vm) qK, qD, xNest_warm (State.WarmedH.refl U) qN, aoa_moved (u := U) (U := U.calling g mk a) (Vm.Alike.refl U.vm) qO⟩, fun U hU hW => ⟨rfl, by rw [hU], by rw [hU]; exact hPc, va_K.moved hW.alike hK, hDc.weaken (fun _ _ _ _ => trivial), xNest_warm hW hN, aoa_moved hW.alike hAO⟩⟩ rfl rfl hl.1 rfl (lv_room (Nat.le_of_ble_eq_true rfl)) dX3_init_9 ⟨(Nat.le_of_ble_eq_true rfl), (Nat.le_of_ble_eq_true rfl)⟩) hS (fun q _ h => hFc q h) hFc (fun u1 t H1 locs ht hvm hw hB hz1 hk1 hS => ?_)
  obtain ⟨hu1, hP1, hK1, hD1⟩ := hB
  rewrite [ht] at hP1
  obtain ⟨hP, hD⟩ := c_join (wr := [(h0, .inr (3, [.null, .null, .int 0, .int 0]))] ++ B0) (w1 := xb cI cB cZ cQ u1 2 2) hP hD hk1 hFc hP1 hD1
  generalize H1 = H at hP hS ⊢
  have hP : va_P D vwCl ([(h0, .inr (3, [.null, .null, .int 0, .int 0]))] ++ (B0 ++ xb cI cB cZ cQ u1 2 2)) H := by rw [← List.append_assoc]; exact hP
  have hD : va_D A ([(h0, .inr (3, [.null, .null, .int 0, .int 0]))] ++ (B0 ++ xb cI cB cZ cQ u1 2 2)) := by rw [← List.append_assoc]; exact hD
  obtain ⟨B1, hB1⟩ : ∃ z : va_W, z = B0 ++ xb cI cB cZ cQ u1 2 2 := ⟨_, rfl⟩
  rewrite [← hB1] at hP hD
  have hz1 : Value.ref q1 = .ref (u1 2) := by rw [hu1]
  refine W.widen (k := 2) (n := 707) (Nat.le_of_ble_eq_true rfl) (Nat.le_of_ble_eq_true rfl) ?_
  rw [hz1]
  refine va_putF (D := D) (ci := 3) (v := .ref (u1 2)) (ty := tyX3 0) (C := RX3) (T := TX3) (N := 4) hx hb hts x_in3 tyX3 tyX3_ok nmX3 hown hK hP hD hS 0 rfl rfl 0 (by decide) (hts _ xl_X3_12) (fun _ h9 => h9) rfl hin rfl (tyX3_ok 0 (by decide)) rfl rfl (Nat.le_of_ble_eq_true rfl) dX3_init_12 (fun H locs hP hD hS => ?_)
  have hP : va_P D vwCl ([(h0, .inr (3, [.ref (u1 2), .null, .int 0, .int 0]))] ++ B1) H := hP
  have hD : va_D A ([(h0, .inr (3, [.ref (u1 2), .null, .int 0, .int 0]))] ++ B1) := hD
  refine lv_aload_n hx hb dX3_init_15 rfl (lv_at hl 0 rfl) ?_
  refine va_new (ci := 9) (fs := [.int 0, .null, .null, .null, .null, .int 0, .null, .null, .null, .null, .int 0, .null, .int 0, .null, .null]) (C := RX9) (T := TX9) (N := 15) hx hb hts x_in9 tyX9 tyX9_ok hown (hts _ c_cl3_18) (hts _ c_is9.1) (hts _ c_is9.2) hK hP hD hS hA rfl c_df9 (Nat.le_of_ble_eq_true rfl) (Nat.le_of_ble_eq_true rfl) dX3_init_16 (fun q2 H hP hD hS => ?_)
  refine W.widen (k := 3) (n := 722) (Nat.le_of_ble_eq_true rfl) (Nat.le_of_ble_eq_true rfl) ?_
  refine lv_dup hx hb dX3_init_19 rfl ?_
  have hPc : va_P D vwCl [(q2, .inr (9, [.int 0, .null, .null, .null, .null, .int 0, .null, .null, .null, .null, .int 0, .null, .int 0, .null, .null]))] H := c_right hP
  have hDc : va_D A [(q2, .inr (9, [.int 0, .null, .null, .null, .null, .int 0, .null, .null, .null, .null, .int 0, .null, .int 0, .null, .null]))] := c_rightD hD
  have hFc := c_free (wc := [(q2, .inr (9, [.int 0, .null, .null, .null, .null, .int 0, .null, .null, .null, .null, .int 0, .null, .int 0, .null, .null]))]) hD hS hA
  refine va_callv (va_runIN (As := []) (rest := [.ref q2, .ref h0]) ⟨hx, hb, hml, hown, hts⟩ (kc_9_4 l D cI cB cZ cQ q2 H.size) ⟨va_cnB (host := "GrottoHours") 0 hts (gT_in (fun w h => (List.mem_cons.mp h).elim (fun e => e ▸ c_cw9.1) id)) rfl rfl rfl (hN _ (List.mem_of_getElem? (i := 6) rfl)) (hts _ c_is9.2) c_cw9.2.2 ⟨(Nat.le_of_ble_eq_true rfl), (Nat.le_of_ble_eq_true rfl)⟩, rfl, hts _ c_cw9.2.1⟩ ⟨fun a U g mk q => by obtain ⟨q0, q1, qP, qK, qD, qN, qO⟩ := q; exact ⟨q0, q1, qP, va_K.moved (u := U) (U := U.calling g mk a) (Vm.Alike.refl U.vm) qK, qD, xNest_warm (State.WarmedH.refl U) qN, aoa_moved (u := U) (U := U.calling g mk a) (Vm.Alike.refl U.vm) qO⟩, fun U hU hW => ⟨rfl, by rw [hU], by rw [hU]; exact hPc, va_K.moved hW.alike hK, hDc.weaken (fun _ _ _ _ => trivial), xNest_warm hW hN, aoa_moved hW.alike hAO⟩⟩ rfl rfl hl.1 rfl (lv_room (Nat.le_of_ble_eq_true rfl)) dX3_init_20 ⟨(Nat.le_of_ble_eq_true rfl), (Nat.le_of_ble_eq_true rfl)⟩) hS (fun q _ h => hFc q h) hFc (fun u2 t H1 locs ht hvm hw hB hz1 hk1 hS => ?_)
  obtain ⟨hu2, hP1, hK1, hD1⟩ := hB
  rewrite [ht] at hP1
  obtain ⟨hP, hD⟩ := c_join (wr := [(h0, .inr (3, [.ref (u1 2), .null, .int 0, .int 0]))] ++ B1) (w1 := xb cI cB cZ cQ u2 4 16) hP hD hk1 hFc hP1 hD1
  generalize H1 = H at hP hS ⊢
  have hP : va_P D vwCl ([(h0, .inr (3, [.ref (u1 2), .null, .int 0, .int 0]))] ++ (B1 ++ xb cI cB cZ cQ u2 4 16)) H := by rw [← List.append_assoc]; exact hP
  have hD : va_D A ([(h0, .inr (3, [.ref (u1 2), .null, .int 0, .int 0]))] ++ (B1 ++ xb cI cB cZ cQ u2 4 16)) := by rw [← List.append_assoc]; exact hD
  obtain ⟨B2, hB2⟩ : ∃ z : va_W, z = B1 ++ xb cI cB cZ cQ u2 4 16 := ⟨_, rfl⟩
  rewrite [← hB2] at hP hD
  have hz2 : Value.ref q2 = .ref (u2 4) := by rw [hu2]
  refine W.widen (k := 18) (n := 2256) (Nat.le_of_ble_eq_true rfl) (Nat.le_of_ble_eq_true rfl) ?_
  rw [hz2]
  refine va_put (D := D) (ci := 3) (v := .ref (u2 4)) (ty := tyX3 1) (C := RX3) (T := TX3) (N := 4) hx hb hts x_in3 tyX3 tyX3_ok nmX3 hown hK hP hD hS 0 rfl rfl 1 (by decide) (hts _ xl_X3_21) (fun _ h9 => h9) rfl (tyX3_ok 1 (by decide)) rfl rfl (Nat.le_of_ble_eq_true rfl) dX3_init_23 (fun H locs hP hD hS => ?_)
  have hP : va_P D vwCl ([(h0, .inr (3, [.ref (u1 2), .ref (u2 4), .int 0, .int 0]))] ++ B2) H := hP
  have hD : va_D A ([(h0, .inr (3, [.ref (u1 2), .ref (u2 4), .int 0, .int 0]))] ++ B2) := hD
  refine lv_aload_n hx hb dX3_init_26 rfl (lv_at hl 0 rfl) ?_
  refine lv_iconst (v := 0) hx hb dX3_init_27 (by decide) ?_
  refine va_put (D := D) (ci := 3) (v := .int 0) (ty := tyX3 2) (C := RX3) (T := TX3) (N := 4) hx hb hts x_in3 tyX3 tyX3_ok nmX3 hown hK hP hD hS 0 rfl rfl 2 (by decide) (hts _ xl_X3_25) (fun _ h9 => h9) rfl (tyX3_ok 2 (by decide)) rfl rfl (Nat.le_of_ble_eq_true rfl) dX3_init_28 (fun H locs hP hD hS => ?_)
  have hP : va_P D vwCl ([(h0, .inr (3, [.ref (u1 2), .ref (u2 4), .int 0, .int 0]))] ++ B2) H := hP
  have hD : va_D A ([(h0, .inr (3, [.ref (u1 2), .ref (u2 4), .int 0, .int 0]))] ++ B2) := hD
  refine lv_aload_n hx hb dX3_init_31 rfl (lv_at hl 0 rfl) ?_
  refine lv_iconst (v := (-1)) hx hb dX3_init_32 (by decide) ?_
  refine va_put (D := D) (ci := 3) (v := .int (-1)) (ty := tyX3 3) (C := RX3) (T := TX3) (N := 4) hx hb hts x_in3 tyX3 tyX3_ok nmX3 hown hK hP hD hS 0 rfl rfl 3 (by decide) (hts _ xl_X3_29) (fun _ h9 => h9) rfl (tyX3_ok 3 (by decide)) rfl rfl (Nat.le_of_ble_eq_true rfl) dX3_init_33 (fun H locs hP hD hS => ?_)
  have hP : va_P D vwCl ([(h0, .inr (3, [.ref (u1 2), .ref (u2 4), .int 0, .int (-1)]))] ++ B2) H := hP
  have hD : va_D A ([(h0, .inr (3, [.ref (u1 2), .ref (u2 4), .int 0, .int (-1)]))] ++ B2) := hD
  rewrite [hB2, hB1, hB0] at hP hD
  have hP9 : va_P D vwCl (xb cI cB cZ cQ (xj (xj (fun _ => h0) 2 u1) 4 u2) 1 19) H := hP
  have hD9 : va_D A (xb cI cB cZ cQ (xj (xj (fun _ => h0) 2 u1) 4 u2) 1 19) := hD
  exact W.vret hx hb hr (fun t ht hW => ⟨⟨(xj (xj (fun _ => h0) 2 u1) 4 u2), rfl, trivial, rfl, by rw [ht]; exact hP9, va_K.moved hW.alike hK, hD9⟩, hS.F ht⟩) hS.2.2 dX3_init_36 hlocks
set_option maxHeartbeats 4000000 in
set_option maxRecDepth 100000 in
theorem kc_11_0 (l : Launch) (D : va_G) (cI cB cZ cQ : ClassId) (h0 : Nat) : cM l yX11_init cX11_init 1 4 87 8050 D (xtys cI cB cZ cQ) [.ref h0] [(h0, .inr (11, [.null, .null, .null, .null, .null, .null, .null, .null, .int 0, .int 0]))] 0 h0 (fun u => xb cI cB cZ cQ u 0 88) := by
  intro sz
  refine Met.ofW (cc := cX11_init) (maxL := 1) (ret := none) (by decide) rfl ?_
  intro p e s m args below meth c s₁ B hml hv
  obtain ⟨rfl, hsz, hP, hK, hD0, hN, hAO⟩ := hv
  have hx := B.exec
  have hb := B.bytes
  have hr := B.returns
  have hts : ∀ w ∈ gT, w.before _ s = true := fun w h => atoms_spec (ws := Cond.code yX11_init cX11_init 1 none :: gT) B.pre w (List.mem_cons_of_mem _ h)
  have hown : s.vm.findClass RX11 = some m.cls := findClass_of_methodNamed B.named
  have hlocks := B.notSynchronized
  have hin : meth.name = "<init>" := (name_of_methodNamed B.named B.method).1
  subst hsz
  have hD := hD0.self (sz := s.heap.size)
  generalize hAe : va_A [(h0, .inr (11, [.null, .null, .null, .null, .null, .null, .null, .null, .int 0, .int 0]))] s.heap.size = A at hD ⊢
  have hA : ∀ q : Nat, s.heap.size ≤ q → A q := fun q h => by rw [← hAe]; exact Or.inr h
  have hS : va_S A s.heap s.heap [] := va_S.rf
  have hl := lv_entry ([.ref h0]) (n := 1) (Nat.le_of_ble_eq_true rfl)
  rw [lg_entry_eq]
  generalize (lg_sl ([.ref h0]) ++ List.replicate (1 - (lg_sl ([.ref h0])).length) Slot.unset).toArray = ls at hl ⊢
  have hl : lv_has ls 1 [(0, .ref h0)] := hl
  obtain ⟨B0, hB0⟩ : ∃ z : va_W, z = [] := ⟨_, rfl⟩
  have hP : va_P D vwCl ([(h0, .inr (11, [.null, .null, .null, .null, .null, .null, .null, .null, .int 0, .int 0]))] ++ B0) s.heap := by rw [hB0]; exact hP
  have hD : va_D A ([(h0, .inr (11, [.null, .null, .null, .null, .null, .null, .null, .null, .int 0, .int 0]))] ++ B0) := by rw [hB0]; exact hD
  refine lv_aload_n hx hb dX11_init_0 rfl (lv_at hl 0 rfl) ?_
  refine W.objInit hx hb hown (hts _ c_oi11) (hts _ c_ob.1) (hts _ c_ob.2) rfl (by rw [hml]; exact hl.1) rfl dX11_init_1 (Nat.le_of_ble_eq_true rfl) (Nat.le_of_ble_eq_true rfl) ?_
  refine W.eq (g2 := F0 m 4 ls []) rfl ?_
  refine lv_aload_n hx hb dX11_init_4 rfl (lv_at hl 0 rfl) ?_
  refine va_new (ci := 3) (fs := [.null, .null, .int 0, .int 0]) (C := RX3) (T := TX3) (N := 4) hx hb hts x_in3 tyX3 tyX3_ok hown (hts _ c_cl11_9) (hts _ c_is3.1) (hts _ c_is3.2) hK hP hD hS hA rfl c_df3 (Nat.le_of_ble_eq_true rfl) (Nat.le_of_ble_eq_true rfl) dX11_init_5 (fun q1 H hP hD hS => ?_)
  refine W.widen (k := 1) (n := 4) (Nat.le_of_ble_eq_true rfl) (Nat.le_of_ble_eq_true rfl) ?_
  refine lv_dup hx hb dX11_init_8 rfl ?_
  have hPc : va_P D vwCl [(q1, .inr (3, [.null, .null, .int 0, .int 0]))] H := c_right hP
  have hDc : va_D A [(q1, .inr (3, [.null, .null, .int 0, .int 0]))] := c_rightD hD
  have hFc := c_free (wc := [(q1, .inr (3, [.null, .null, .int 0, .int 0]))]) hD hS hA
  refine va_callv (va_runIN (As := []) (rest := [.ref q1, .ref h0]) ⟨hx, hb, hml, hown, hts⟩ (kc_3_1 l D cI cB cZ cQ q1 H.size) ⟨va_cnB (host := "GrottoHours") 0 hts (gT_in (fun w h => (List.mem_cons.mp h).elim (fun e => e ▸ c_cw3.1) id)) rfl rfl rfl (hN _ (List.mem_of_getElem? (i := 0) rfl)) (hts _ c_is3.2) c_cw3.2.2 ⟨(Nat.le_of_ble_eq_true rfl), (Nat.le_of_ble_eq_true rfl)⟩, rfl, hts _ c_cw3.2.1⟩ ⟨fun a U g mk q => by obtain ⟨q0, q1, qP, qK, qD, qN, qO⟩ := q; exact ⟨q0, q1, qP, va_K.moved (u := U) (U := U.calling g mk a) (Vm.Alike.refl U.vm) qK, qD, xNest_warm (State.WarmedH.refl U) qN, aoa_moved (u := U) (U := U.calling g mk a) (Vm.Alike.refl U.vm) qO⟩, fun U hU hW => ⟨rfl, by rw [hU], by rw [hU]; exact hPc, va_K.moved hW.alike hK, hDc.weaken (fun _ _ _ _ => trivial), xNest_warm hW hN, aoa_moved hW.alike hAO⟩⟩ rfl rfl hl.1 rfl (lv_room (Nat.le_of_ble_eq_true rfl)) dX11_init_9 ⟨(Nat.le_of_ble_eq_true rfl), (Nat.le_of_ble_eq_true rfl)⟩) hS (fun q _ h => hFc q h) hFc (fun u1 t H1 locs ht hvm hw hB hz1 hk1 hS => ?_)
  obtain ⟨hu1, hP1, hK1, hD1⟩ := hB
  rewrite [ht] at hP1
  obtain ⟨hP, hD⟩ := c_join (wr := [(h0, .inr (11, [.null, .null, .null, .null, .null, .null, .null, .null, .int 0, .int 0]))] ++ B0) (w1 := xb cI cB cZ cQ u1 1 19) hP hD hk1 hFc hP1 hD1
  generalize H1 = H at hP hS ⊢
  have hP : va_P D vwCl ([(h0, .inr (11, [.null, .null, .null, .null, .null, .null, .null, .null, .int 0, .int 0]))] ++ (B0 ++ xb cI cB cZ cQ u1 1 19)) H := by rw [← List.append_assoc]; exact hP
  have hD : va_D A ([(h0, .inr (11, [.null, .null, .null, .null, .null, .null, .null, .null, .int 0, .int 0]))] ++ (B0 ++ xb cI cB cZ cQ u1 1 19)) := by rw [← List.append_assoc]; exact hD
  obtain ⟨B1, hB1⟩ : ∃ z : va_W, z = B0 ++ xb cI cB cZ cQ u1 1 19 := ⟨_, rfl⟩
  rewrite [← hB1] at hP hD
  have hz1 : Value.ref q1 = .ref (u1 1) := by rw [hu1]
  refine W.widen (k := 19) (n := 2260) (Nat.le_of_ble_eq_true rfl) (Nat.le_of_ble_eq_true rfl) ?_
  rw [hz1]
  refine va_putF (D := D) (ci := 11) (v := .ref (u1 1)) (ty := tyX11 0) (C := RX11) (T := TX11) (N := 10) hx hb hts x_in11 tyX11 tyX11_ok nmX11 hown hK hP hD hS 0 rfl rfl 0 (by decide) (hts _ xl_X11_12) (fun _ h9 => h9) rfl hin rfl (tyX11_ok 0 (by decide)) rfl rfl (Nat.le_of_ble_eq_true rfl) dX11_init_12 (fun H locs hP hD hS => ?_)
  have hP : va_P D vwCl ([(h0, .inr (11, [.ref (u1 1), .null, .null, .null, .null, .null, .null, .null, .int 0, .int 0]))] ++ B1) H := hP
  have hD : va_D A ([(h0, .inr (11, [.ref (u1 1), .null, .null, .null, .null, .null, .null, .null, .int 0, .int 0]))] ++ B1) := hD
  refine lv_aload_n hx hb dX11_init_15 rfl (lv_at hl 0 rfl) ?_
  refine va_new (ci := 1) (fs := [.null, .null, .null, .null]) (C := RX1) (T := TX1) (N := 4) hx hb hts x_in1 tyX1 tyX1_ok hown (hts _ c_cl11_16) (hts _ c_is1.1) (hts _ c_is1.2) hK hP hD hS hA rfl c_df1 (Nat.le_of_ble_eq_true rfl) (Nat.le_of_ble_eq_true rfl) dX11_init_16 (fun q2 H hP hD hS => ?_)
  refine W.widen (k := 20) (n := 2264) (Nat.le_of_ble_eq_true rfl) (Nat.le_of_ble_eq_true rfl) ?_
  refine lv_dup hx hb dX11_init_19 rfl ?_
  have hPc : va_P D vwCl [(q2, .inr (1, [.null, .null, .null, .null]))] H := c_right hP
  have hDc : va_D A [(q2, .inr (1, [.null, .null, .null, .null]))] := c_rightD hD
  have hFc := c_free (wc := [(q2, .inr (1, [.null, .null, .null, .null]))]) hD hS hA
  refine va_callv (va_runIN (As := []) (rest := [.ref q2, .ref h0]) ⟨hx, hb, hml, hown, hts⟩ (kc_1_20 l D cI cB cZ cQ q2 H.size) ⟨va_cnB (host := "GrottoHours") 0 hts (gT_in (fun w h => (List.mem_cons.mp h).elim (fun e => e ▸ c_cw1.1) id)) rfl rfl rfl (hN _ (List.mem_of_getElem? (i := 50) rfl)) (hts _ c_is1.2) c_cw1.2.2 ⟨(Nat.le_of_ble_eq_true rfl), (Nat.le_of_ble_eq_true rfl)⟩, rfl, hts _ c_cw1.2.1⟩ ⟨fun a U g mk q => by obtain ⟨q0, q1, qP, qK, qD, qN, qO⟩ := q; exact ⟨q0, q1, qP, va_K.moved (u := U) (U := U.calling g mk a) (Vm.Alike.refl U.vm) qK, qD, xNest_warm (State.WarmedH.refl U) qN, aoa_moved (u := U) (U := U.calling g mk a) (Vm.Alike.refl U.vm) qO⟩, fun U hU hW => ⟨rfl, by rw [hU], by rw [hU]; exact hPc, va_K.moved hW.alike hK, hDc.weaken (fun _ _ _ _ => trivial), xNest_warm hW hN, aoa_moved hW.alike hAO⟩⟩ rfl rfl hl.1 rfl (lv_room (Nat.le_of_ble_eq_true rfl)) dX11_init_20 ⟨(Nat.le_of_ble_eq_true rfl), (Nat.le_of_ble_eq_true rfl)⟩) hS (fun q _ h => hFc q h) hFc (fun u2 t H1 locs ht hvm hw hB hz1 hk1 hS => ?_)
  obtain ⟨hu2, hP1, hK1, hD1⟩ := hB
  rewrite [ht] at hP1
  obtain ⟨hP, hD⟩ := c_join (wr := [(h0, .inr (11, [.ref (u1 1), .null, .null, .null, .null, .null, .null, .null, .int 0, .int 0]))] ++ B1) (w1 := xb cI cB cZ cQ u2 20 13) hP hD hk1 hFc hP1 hD1
  generalize H1 = H at hP hS ⊢
  have hP : va_P D vwCl ([(h0, .inr (11, [.ref (u1 1), .null, .null, .null, .null, .null, .null, .null, .int 0, .int 0]))] ++ (B1 ++ xb cI cB cZ cQ u2 20 13)) H := by rw [← List.append_assoc]; exact hP
  have hD : va_D A ([(h0, .inr (11, [.ref (u1 1), .null, .null, .null, .null, .null, .null, .null, .int 0, .int 0]))] ++ (B1 ++ xb cI cB cZ cQ u2 20 13)) := by rw [← List.append_assoc]; exact hD
  obtain ⟨B2, hB2⟩ : ∃ z : va_W, z = B1 ++ xb cI cB cZ cQ u2 20 13 := ⟨_, rfl⟩
  rewrite [← hB2] at hP hD
  have hz2 : Value.ref q2 = .ref (u2 20) := by rw [hu2]
  refine W.widen (k := 32) (n := 3367) (Nat.le_of_ble_eq_true rfl) (Nat.le_of_ble_eq_true rfl) ?_
  rw [hz2]
  refine va_putF (D := D) (ci := 11) (v := .ref (u2 20)) (ty := tyX11 1) (C := RX11) (T := TX11) (N := 10) hx hb hts x_in11 tyX11 tyX11_ok nmX11 hown hK hP hD hS 0 rfl rfl 1 (by decide) (hts _ xl_X11_19) (fun _ h9 => h9) rfl hin rfl (tyX11_ok 1 (by decide)) rfl rfl (Nat.le_of_ble_eq_true rfl) dX11_init_23 (fun H locs hP hD hS => ?_)
  have hP : va_P D vwCl ([(h0, .inr (11, [.ref (u1 1), .ref (u2 20), .null, .null, .null, .null, .null, .null, .int 0, .int 0]))] ++ B2) H := hP
  have hD : va_D A ([(h0, .inr (11, [.ref (u1 1), .ref (u2 20), .null, .null, .null, .null, .null, .null, .int 0, .int 0]))] ++ B2) := hD
  refine lv_aload_n hx hb dX11_init_26 rfl (lv_at hl 0 rfl) ?_
  refine va_new (ci := 1) (fs := [.null, .null, .null, .null]) (C := RX1) (T := TX1) (N := 4) hx hb hts x_in1 tyX1 tyX1_ok hown (hts _ c_cl11_16) (hts _ c_is1.1) (hts _ c_is1.2) hK hP hD hS hA rfl c_df1 (Nat.le_of_ble_eq_true rfl) (Nat.le_of_ble_eq_true rfl) dX11_init_27 (fun q3 H hP hD hS => ?_)
  refine W.widen (k := 33) (n := 3371) (Nat.le_of_ble_eq_true rfl) (Nat.le_of_ble_eq_true rfl) ?_
  refine lv_dup hx hb dX11_init_30 rfl ?_
  have hPc : va_P D vwCl [(q3, .inr (1, [.null, .null, .null, .null]))] H := c_right hP
  have hDc : va_D A [(q3, .inr (1, [.null, .null, .null, .null]))] := c_rightD hD
  have hFc := c_free (wc := [(q3, .inr (1, [.null, .null, .null, .null]))]) hD hS hA
  refine va_callv (va_runIN (As := []) (rest := [.ref q3, .ref h0]) ⟨hx, hb, hml, hown, hts⟩ (kc_1_33 l D cI cB cZ cQ q3 H.size) ⟨va_cnB (host := "GrottoHours") 0 hts (gT_in (fun w h => (List.mem_cons.mp h).elim (fun e => e ▸ c_cw1.1) id)) rfl rfl rfl (hN _ (List.mem_of_getElem? (i := 50) rfl)) (hts _ c_is1.2) c_cw1.2.2 ⟨(Nat.le_of_ble_eq_true rfl), (Nat.le_of_ble_eq_true rfl)⟩, rfl, hts _ c_cw1.2.1⟩ ⟨fun a U g mk q => by obtain ⟨q0, q1, qP, qK, qD, qN, qO⟩ := q; exact ⟨q0, q1, qP, va_K.moved (u := U) (U := U.calling g mk a) (Vm.Alike.refl U.vm) qK, qD, xNest_warm (State.WarmedH.refl U) qN, aoa_moved (u := U) (U := U.calling g mk a) (Vm.Alike.refl U.vm) qO⟩, fun U hU hW => ⟨rfl, by rw [hU], by rw [hU]; exact hPc, va_K.moved hW.alike hK, hDc.weaken (fun _ _ _ _ => trivial), xNest_warm hW hN, aoa_moved hW.alike hAO⟩⟩ rfl rfl hl.1 rfl (lv_room (Nat.le_of_ble_eq_true rfl)) dX11_init_31 ⟨(Nat.le_of_ble_eq_true rfl), (Nat.le_of_ble_eq_true rfl)⟩) hS (fun q _ h => hFc q h) hFc (fun u3 t H1 locs ht hvm hw hB hz1 hk1 hS => ?_)
  obtain ⟨hu3, hP1, hK1, hD1⟩ := hB
  rewrite [ht] at hP1
  obtain ⟨hP, hD⟩ := c_join (wr := [(h0, .inr (11, [.ref (u1 1), .ref (u2 20), .null, .null, .null, .null, .null, .null, .int 0, .int 0]))] ++ B2) (w1 := xb cI cB cZ cQ u3 33 13) hP hD hk1 hFc hP1 hD1
  generalize H1 = H at hP hS ⊢
  have hP : va_P D vwCl ([(h0, .inr (11, [.ref (u1 1), .ref (u2 20), .null, .null, .null, .null, .null, .null, .int 0, .int 0]))] ++ (B2 ++ xb cI cB cZ cQ u3 33 13)) H := by rw [← List.append_assoc]; exact hP
  have hD : va_D A ([(h0, .inr (11, [.ref (u1 1), .ref (u2 20), .null, .null, .null, .null, .null, .null, .int 0, .int 0]))] ++ (B2 ++ xb cI cB cZ cQ u3 33 13)) := by rw [← List.append_assoc]; exact hD
  obtain ⟨B3, hB3⟩ : ∃ z : va_W, z = B2 ++ xb cI cB cZ cQ u3 33 13 := ⟨_, rfl⟩
  rewrite [← hB3] at hP hD
  have hz3 : Value.ref q3 = .ref (u3 33) := by rw [hu3]
  refine W.widen (k := 45) (n := 4474) (Nat.le_of_ble_eq_true rfl) (Nat.le_of_ble_eq_true rfl) ?_
  rw [hz3]
  refine va_putF (D := D) (ci := 11) (v := .ref (u3 33)) (ty := tyX11 2) (C := RX11) (T := TX11) (N := 10) hx hb hts x_in11 tyX11 tyX11_ok nmX11 hown hK hP hD hS 0 rfl rfl 2 (by decide) (hts _ xl_X11_23) (fun _ h9 => h9) rfl hin rfl (tyX11_ok 2 (by decide)) rfl rfl (Nat.le_of_ble_eq_true rfl) dX11_init_34 (fun H locs hP hD hS => ?_)
  have hP : va_P D vwCl ([(h0, .inr (11, [.ref (u1 1), .ref (u2 20), .ref (u3 33), .null, .null, .null, .null, .null, .int 0, .int 0]))] ++ B3) H := hP
  have hD : va_D A ([(h0, .inr (11, [.ref (u1 1), .ref (u2 20), .ref (u3 33), .null, .null, .null, .null, .null, .int 0, .int 0]))] ++ B3) := hD
  refine lv_aload_n hx hb dX11_init_37 rfl (lv_at hl 0 rfl) ?_
  refine va_new (ci := 7) (fs := [.int 0, .int 0, .null, .null, .null, .null]) (C := RX7) (T := TX7) (N := 6) hx hb hts x_in7 tyX7 tyX7_ok hown (hts _ c_cl11_26) (hts _ c_is7.1) (hts _ c_is7.2) hK hP hD hS hA rfl c_df7 (Nat.le_of_ble_eq_true rfl) (Nat.le_of_ble_eq_true rfl) dX11_init_38 (fun q4 H hP hD hS => ?_)
  refine W.widen (k := 46) (n := 4480) (Nat.le_of_ble_eq_true rfl) (Nat.le_of_ble_eq_true rfl) ?_
  refine lv_dup hx hb dX11_init_41 rfl ?_
  have hPc : va_P D vwCl [(q4, .inr (7, [.int 0, .int 0, .null, .null, .null, .null]))] H := c_right hP
  have hDc : va_D A [(q4, .inr (7, [.int 0, .int 0, .null, .null, .null, .null]))] := c_rightD hD
  have hFc := c_free (wc := [(q4, .inr (7, [.int 0, .int 0, .null, .null, .null, .null]))]) hD hS hA
  refine va_callv (va_runIN (As := []) (rest := [.ref q4, .ref h0]) ⟨hx, hb, hml, hown, hts⟩ (kc_7_46 l D cI cB cZ cQ q4 H.size) ⟨va_cnB (host := "GrottoHours") 0 hts (gT_in (fun w h => (List.mem_cons.mp h).elim (fun e => e ▸ c_cw7.1) id)) rfl rfl rfl (hN _ (List.mem_of_getElem? (i := 77) rfl)) (hts _ c_is7.2) c_cw7.2.2 ⟨(Nat.le_of_ble_eq_true rfl), (Nat.le_of_ble_eq_true rfl)⟩, rfl, hts _ c_cw7.2.1⟩ ⟨fun a U g mk q => by obtain ⟨q0, q1, qP, qK, qD, qN, qO⟩ := q; exact ⟨q0, q1, qP, va_K.moved (u := U) (U := U.calling g mk a) (Vm.Alike.refl U.vm) qK, qD, xNest_warm (State.WarmedH.refl U) qN, aoa_moved (u := U) (U := U.calling g mk a) (Vm.Alike.refl U.vm) qO⟩, fun U hU hW => ⟨rfl, by rw [hU], by rw [hU]; exact hPc, va_K.moved hW.alike hK, hDc.weaken (fun _ _ _ _ => trivial), xNest_warm hW hN, aoa_moved hW.alike hAO⟩⟩ rfl rfl hl.1 rfl (lv_room (Nat.le_of_ble_eq_true rfl)) dX11_init_42 ⟨(Nat.le_of_ble_eq_true rfl), (Nat.le_of_ble_eq_true rfl)⟩) hS (fun q _ h => hFc q h) hFc (fun u4 t H1 locs ht hvm hw hB hz1 hk1 hS => ?_)
  obtain ⟨hu4, hP1, hK1, hD1⟩ := hB
  rewrite [ht] at hP1
  obtain ⟨hP, hD⟩ := c_join (wr := [(h0, .inr (11, [.ref (u1 1), .ref (u2 20), .ref (u3 33), .null, .null, .null, .null, .null, .int 0, .int 0]))] ++ B3) (w1 := xb cI cB cZ cQ u4 46 5) hP hD hk1 hFc hP1 hD1
  generalize H1 = H at hP hS ⊢
  have hP : va_P D vwCl ([(h0, .inr (11, [.ref (u1 1), .ref (u2 20), .ref (u3 33), .null, .null, .null, .null, .null, .int 0, .int 0]))] ++ (B3 ++ xb cI cB cZ cQ u4 46 5)) H := by rw [← List.append_assoc]; exact hP
  have hD : va_D A ([(h0, .inr (11, [.ref (u1 1), .ref (u2 20), .ref (u3 33), .null, .null, .null, .null, .null, .int 0, .int 0]))] ++ (B3 ++ xb cI cB cZ cQ u4 46 5)) := by rw [← List.append_assoc]; exact hD
  obtain ⟨B4, hB4⟩ : ∃ z : va_W, z = B3 ++ xb cI cB cZ cQ u4 46 5 := ⟨_, rfl⟩
  rewrite [← hB4] at hP hD
  have hz4 : Value.ref q4 = .ref (u4 46) := by rw [hu4]
  refine W.widen (k := 50) (n := 4504) (Nat.le_of_ble_eq_true rfl) (Nat.le_of_ble_eq_true rfl) ?_
  rw [hz4]
  refine va_putF (D := D) (ci := 11) (v := .ref (u4 46)) (ty := tyX11 3) (C := RX11) (T := TX11) (N := 10) hx hb hts x_in11 tyX11 tyX11_ok nmX11 hown hK hP hD hS 0 rfl rfl 3 (by decide) (hts _ xl_X11_29) (fun _ h9 => h9) rfl hin rfl (tyX11_ok 3 (by decide)) rfl rfl (Nat.le_of_ble_eq_true rfl) dX11_init_45 (fun H locs hP hD hS => ?_)
  have hP : va_P D vwCl ([(h0, .inr (11, [.ref (u1 1), .ref (u2 20), .ref (u3 33), .ref (u4 46), .null, .null, .null, .null, .int 0, .int 0]))] ++ B4) H := hP
  have hD : va_D A ([(h0, .inr (11, [.ref (u1 1), .ref (u2 20), .ref (u3 33), .ref (u4 46), .null, .null, .null, .null, .int 0, .int 0]))] ++ B4) := hD
  refine lv_aload_n hx hb dX11_init_48 rfl (lv_at hl 0 rfl) ?_
  refine va_new (ci := 10) (fs := [.int 0, .int 0, .int 0, .int 0, .int 0, .int 0, .int 0, .int 0]) (C := RX10) (T := TX10) (N := 8) hx hb hts x_in10 tyX10 tyX10_ok hown (hts _ c_cl11_33) (hts _ c_is10.1) (hts _ c_is10.2) hK hP hD hS hA rfl c_df10 (Nat.le_of_ble_eq_true rfl) (Nat.le_of_ble_eq_true rfl) dX11_init_49 (fun q5 H hP hD hS => ?_)
  refine W.widen (k := 51) (n := 4512) (Nat.le_of_ble_eq_true rfl) (Nat.le_of_ble_eq_true rfl) ?_
  refine lv_dup hx hb dX11_init_52 rfl ?_
  have hPc : va_P D vwCl [(q5, .inr (10, [.int 0, .int 0, .int 0, .int 0, .int 0, .int 0, .int 0, .int 0]))] H := c_right hP
  have hDc : va_D A [(q5, .inr (10, [.int 0, .int 0, .int 0, .int 0, .int 0, .int 0, .int 0, .int 0]))] := c_rightD hD
  have hFc := c_free (wc := [(q5, .inr (10, [.int 0, .int 0, .int 0, .int 0, .int 0, .int 0, .int 0, .int 0]))]) hD hS hA
  refine va_callv (va_runIN (As := []) (rest := [.ref q5, .ref h0]) ⟨hx, hb, hml, hown, hts⟩ (kc_10_51 l D cI cB cZ cQ q5 H.size) ⟨va_cnB (host := "GrottoHours") 0 hts (gT_in (fun w h => (List.mem_cons.mp h).elim (fun e => e ▸ c_cw10.1) id)) rfl rfl rfl (hN _ (List.mem_of_getElem? (i := 78) rfl)) (hts _ c_is10.2) c_cw10.2.2 ⟨(Nat.le_of_ble_eq_true rfl), (Nat.le_of_ble_eq_true rfl)⟩, rfl, hts _ c_cw10.2.1⟩ ⟨fun a U g mk q => by obtain ⟨q0, q1, qP, qK, qD, qN, qO⟩ := q; exact ⟨q0, q1, qP, va_K.moved (u := U) (U := U.calling g mk a) (Vm.Alike.refl U.vm) qK, qD, xNest_warm (State.WarmedH.refl U) qN, aoa_moved (u := U) (U := U.calling g mk a) (Vm.Alike.refl U.vm) qO⟩, fun U hU hW => ⟨rfl, by rw [hU], by rw [hU]; exact hPc, va_K.moved hW.alike hK, hDc.weaken (fun _ _ _ _ => trivial), xNest_warm hW hN, aoa_moved hW.alike hAO⟩⟩ rfl rfl hl.1 rfl (lv_room (Nat.le_of_ble_eq_true rfl)) dX11_init_53 ⟨(Nat.le_of_ble_eq_true rfl), (Nat.le_of_ble_eq_true rfl)⟩) hS (fun q _ h => hFc q h) hFc (fun u5 t H1 locs ht hvm hw hB hz1 hk1 hS => ?_)
  obtain ⟨hu5, hP1, hK1, hD1⟩ := hB
  rewrite [ht] at hP1
  obtain ⟨hP, hD⟩ := c_join (wr := [(h0, .inr (11, [.ref (u1 1), .ref (u2 20), .ref (u3 33), .ref (u4 46), .null, .null, .null, .null, .int 0, .int 0]))] ++ B4) (w1 := xb cI cB cZ cQ u5 51 1) hP hD hk1 hFc hP1 hD1
  generalize H1 = H at hP hS ⊢
  have hP : va_P D vwCl ([(h0, .inr (11, [.ref (u1 1), .ref (u2 20), .ref (u3 33), .ref (u4 46), .null, .null, .null, .null, .int 0, .int 0]))] ++ (B4 ++ xb cI cB cZ cQ u5 51 1)) H := by rw [← List.append_assoc]; exact hP
  have hD : va_D A ([(h0, .inr (11, [.ref (u1 1), .ref (u2 20), .ref (u3 33), .ref (u4 46), .null, .null, .null, .null, .int 0, .int 0]))] ++ (B4 ++ xb cI cB cZ cQ u5 51 1)) := by rw [← List.append_assoc]; exact hD
  obtain ⟨B5, hB5⟩ : ∃ z : va_W, z = B4 ++ xb cI cB cZ cQ u5 51 1 := ⟨_, rfl⟩
  rewrite [← hB5] at hP hD
  have hz5 : Value.ref q5 = .ref (u5 51) := by rw [hu5]
  refine W.widen (k := 51) (n := 4512) (Nat.le_of_ble_eq_true rfl) (Nat.le_of_ble_eq_true rfl) ?_
  rw [hz5]
  refine va_putF (D := D) (ci := 11) (v := .ref (u5 51)) (ty := tyX11 4) (C := RX11) (T := TX11) (N := 10) hx hb hts x_in11 tyX11 tyX11_ok nmX11 hown hK hP hD hS 0 rfl rfl 4 (by decide) (hts _ xl_X11_36) (fun _ h9 => h9) rfl hin rfl (tyX11_ok 4 (by decide)) rfl rfl (Nat.le_of_ble_eq_true rfl) dX11_init_56 (fun H locs hP hD hS => ?_)
  have hP : va_P D vwCl ([(h0, .inr (11, [.ref (u1 1), .ref (u2 20), .ref (u3 33), .ref (u4 46), .ref (u5 51), .null, .null, .null, .int 0, .int 0]))] ++ B5) H := hP
  have hD : va_D A ([(h0, .inr (11, [.ref (u1 1), .ref (u2 20), .ref (u3 33), .ref (u4 46), .ref (u5 51), .null, .null, .null, .int 0, .int 0]))] ++ B5) := hD
  refine lv_aload_n hx hb dX11_init_59 rfl (lv_at hl 0 rfl) ?_
  refine va_new (ci := 6) (fs := [.null, .null, .int 0, .int 0]) (C := RX6) (T := TX6) (N := 4) hx hb hts x_in6 tyX6 tyX6_ok hown (hts _ c_cl11_40) (hts _ c_is6.1) (hts _ c_is6.2) hK hP hD hS hA rfl c_df6 (Nat.le_of_ble_eq_true rfl) (Nat.le_of_ble_eq_true rfl) dX11_init_60 (fun q6 H hP hD hS => ?_)
  refine W.widen (k := 52) (n := 4516) (Nat.le_of_ble_eq_true rfl) (Nat.le_of_ble_eq_true rfl) ?_
  refine lv_dup hx hb dX11_init_63 rfl ?_
  have hPc : va_P D vwCl [(q6, .inr (6, [.null, .null, .int 0, .int 0]))] H := c_right hP
  have hDc : va_D A [(q6, .inr (6, [.null, .null, .int 0, .int 0]))] := c_rightD hD
  have hFc := c_free (wc := [(q6, .inr (6, [.null, .null, .int 0, .int 0]))]) hD hS hA
  refine va_callv (va_runIN (As := []) (rest := [.ref q6, .ref h0]) ⟨hx, hb, hml, hown, hts⟩ (kc_6_52 l D cI cB cZ cQ q6 H.size) ⟨va_cnB (host := "GrottoHours") 0 hts (gT_in (fun w h => (List.mem_cons.mp h).elim (fun e => e ▸ c_cw6.1) id)) rfl rfl rfl (hN _ (List.mem_of_getElem? (i := 87) rfl)) (hts _ c_is6.2) c_cw6.2.2 ⟨(Nat.le_of_ble_eq_true rfl), (Nat.le_of_ble_eq_true rfl)⟩, rfl, hts _ c_cw6.2.1⟩ ⟨fun a U g mk q => by obtain ⟨q0, q1, qP, qK, qD, qN, qO⟩ := q; exact ⟨q0, q1, qP, va_K.moved (u := U) (U := U.calling g mk a) (Vm.Alike.refl U.vm) qK, qD, xNest_warm (State.WarmedH.refl U) qN, aoa_moved (u := U) (U := U.calling g mk a) (Vm.Alike.refl U.vm) qO⟩, fun U hU hW => ⟨rfl, by rw [hU], by rw [hU]; exact hPc, va_K.moved hW.alike hK, hDc.weaken (fun _ _ _ _ => trivial), xNest_warm hW hN, aoa_moved hW.alike hAO⟩⟩ rfl rfl hl.1 rfl (lv_room (Nat.le_of_ble_eq_true rfl)) dX11_init_64 ⟨(Nat.le_of_ble_eq_true rfl), (Nat.le_of_ble_eq_true rfl)⟩) hS (fun q _ h => hFc q h) hFc (fun u6 t H1 locs ht hvm hw hB hz1 hk1 hS => ?_)
  obtain ⟨hu6, hP1, hK1, hD1⟩ := hB
  rewrite [ht] at hP1
  obtain ⟨hP, hD⟩ := c_join (wr := [(h0, .inr (11, [.ref (u1 1), .ref (u2 20), .ref (u3 33), .ref (u4 46), .ref (u5 51), .null, .null, .null, .int 0, .int 0]))] ++ B5) (w1 := xb cI cB cZ cQ u6 52 10) hP hD hk1 hFc hP1 hD1
  generalize H1 = H at hP hS ⊢
  have hP : va_P D vwCl ([(h0, .inr (11, [.ref (u1 1), .ref (u2 20), .ref (u3 33), .ref (u4 46), .ref (u5 51), .null, .null, .null, .int 0, .int 0]))] ++ (B5 ++ xb cI cB cZ cQ u6 52 10)) H := by rw [← List.append_assoc]; exact hP
  have hD : va_D A ([(h0, .inr (11, [.ref (u1 1), .ref (u2 20), .ref (u3 33), .ref (u4 46), .ref (u5 51), .null, .null, .null, .int 0, .int 0]))] ++ (B5 ++ xb cI cB cZ cQ u6 52 10)) := by rw [← List.append_assoc]; exact hD
  obtain ⟨B6, hB6⟩ : ∃ z : va_W, z = B5 ++ xb cI cB cZ cQ u6 52 10 := ⟨_, rfl⟩
  rewrite [← hB6] at hP hD
  have hz6 : Value.ref q6 = .ref (u6 52) := by rw [hu6]
  refine W.widen (k := 61) (n := 6321) (Nat.le_of_ble_eq_true rfl) (Nat.le_of_ble_eq_true rfl) ?_
  rw [hz6]
  refine va_putF (D := D) (ci := 11) (v := .ref (u6 52)) (ty := tyX11 5) (C := RX11) (T := TX11) (N := 10) hx hb hts x_in11 tyX11 tyX11_ok nmX11 hown hK hP hD hS 0 rfl rfl 5 (by decide) (hts _ xl_X11_43) (fun _ h9 => h9) rfl hin rfl (tyX11_ok 5 (by decide)) rfl rfl (Nat.le_of_ble_eq_true rfl) dX11_init_67 (fun H locs hP hD hS => ?_)
  have hP : va_P D vwCl ([(h0, .inr (11, [.ref (u1 1), .ref (u2 20), .ref (u3 33), .ref (u4 46), .ref (u5 51), .ref (u6 52), .null, .null, .int 0, .int 0]))] ++ B6) H := hP
  have hD : va_D A ([(h0, .inr (11, [.ref (u1 1), .ref (u2 20), .ref (u3 33), .ref (u4 46), .ref (u5 51), .ref (u6 52), .null, .null, .int 0, .int 0]))] ++ B6) := hD
  refine lv_aload_n hx hb dX11_init_70 rfl (lv_at hl 0 rfl) ?_
  refine va_new (ci := 2) (fs := [.null, .null, .null, .int 0, .int 0, .int 0]) (C := RX2) (T := TX2) (N := 6) hx hb hts x_in2 tyX2 tyX2_ok hown (hts _ c_cl11_47) (hts _ c_is2.1) (hts _ c_is2.2) hK hP hD hS hA rfl c_df2 (Nat.le_of_ble_eq_true rfl) (Nat.le_of_ble_eq_true rfl) dX11_init_71 (fun q7 H hP hD hS => ?_)
  refine W.widen (k := 62) (n := 6327) (Nat.le_of_ble_eq_true rfl) (Nat.le_of_ble_eq_true rfl) ?_
  refine lv_dup hx hb dX11_init_74 rfl ?_
  have hPc : va_P D vwCl [(q7, .inr (2, [.null, .null, .null, .int 0, .int 0, .int 0]))] H := c_right hP
  have hDc : va_D A [(q7, .inr (2, [.null, .null, .null, .int 0, .int 0, .int 0]))] := c_rightD hD
  have hFc := c_free (wc := [(q7, .inr (2, [.null, .null, .null, .int 0, .int 0, .int 0]))]) hD hS hA
  refine va_callv (va_runIN (As := []) (rest := [.ref q7, .ref h0]) ⟨hx, hb, hml, hown, hts⟩ (kc_2_62 l D cI cB cZ cQ q7 H.size) ⟨va_cnB (host := "GrottoHours") 0 hts (gT_in (fun w h => (List.mem_cons.mp h).elim (fun e => e ▸ c_cw2.1) id)) rfl rfl rfl (hN _ (List.mem_of_getElem? (i := 91) rfl)) (hts _ c_is2.2) c_cw2.2.2 ⟨(Nat.le_of_ble_eq_true rfl), (Nat.le_of_ble_eq_true rfl)⟩, rfl, hts _ c_cw2.2.1⟩ ⟨fun a U g mk q => by obtain ⟨q0, q1, qP, qK, qD, qN, qO⟩ := q; exact ⟨q0, q1, qP, va_K.moved (u := U) (U := U.calling g mk a) (Vm.Alike.refl U.vm) qK, qD, xNest_warm (State.WarmedH.refl U) qN, aoa_moved (u := U) (U := U.calling g mk a) (Vm.Alike.refl U.vm) qO⟩, fun U hU hW => ⟨rfl, by rw [hU], by rw [hU]; exact hPc, va_K.moved hW.alike hK, hDc.weaken (fun _ _ _ _ => trivial), xNest_warm hW hN, aoa_moved hW.alike hAO⟩⟩ rfl rfl hl.1 rfl (lv_room (Nat.le_of_ble_eq_true rfl)) dX11_init_75 ⟨(Nat.le_of_ble_eq_true rfl), (Nat.le_of_ble_eq_true rfl)⟩) hS (fun q _ h => hFc q h) hFc (fun u7 t H1 locs ht hvm hw hB hz1 hk1 hS => ?_)
  obtain ⟨hu7, hP1, hK1, hD1⟩ := hB
  rewrite [ht] at hP1
  obtain ⟨hP, hD⟩ := c_join (wr := [(h0, .inr (11, [.ref (u1 1), .ref (u2 20), .ref (u3 33), .ref (u4 46), .ref (u5 51), .ref (u6 52), .null, .null, .int 0, .int 0]))] ++ B6) (w1 := xb cI cB cZ cQ u7 62 10) hP hD hk1 hFc hP1 hD1
  generalize H1 = H at hP hS ⊢
  have hP : va_P D vwCl ([(h0, .inr (11, [.ref (u1 1), .ref (u2 20), .ref (u3 33), .ref (u4 46), .ref (u5 51), .ref (u6 52), .null, .null, .int 0, .int 0]))] ++ (B6 ++ xb cI cB cZ cQ u7 62 10)) H := by rw [← List.append_assoc]; exact hP
  have hD : va_D A ([(h0, .inr (11, [.ref (u1 1), .ref (u2 20), .ref (u3 33), .ref (u4 46), .ref (u5 51), .ref (u6 52), .null, .null, .int 0, .int 0]))] ++ (B6 ++ xb cI cB cZ cQ u7 62 10)) := by rw [← List.append_assoc]; exact hD
  obtain ⟨B7, hB7⟩ : ∃ z : va_W, z = B6 ++ xb cI cB cZ cQ u7 62 10 := ⟨_, rfl⟩
  rewrite [← hB7] at hP hD
  have hz7 : Value.ref q7 = .ref (u7 62) := by rw [hu7]
  refine W.widen (k := 71) (n := 6501) (Nat.le_of_ble_eq_true rfl) (Nat.le_of_ble_eq_true rfl) ?_
  rw [hz7]
  refine va_putF (D := D) (ci := 11) (v := .ref (u7 62)) (ty := tyX11 6) (C := RX11) (T := TX11) (N := 10) hx hb hts x_in11 tyX11 tyX11_ok nmX11 hown hK hP hD hS 0 rfl rfl 6 (by decide) (hts _ xl_X11_50) (fun _ h9 => h9) rfl hin rfl (tyX11_ok 6 (by decide)) rfl rfl (Nat.le_of_ble_eq_true rfl) dX11_init_78 (fun H locs hP hD hS => ?_)
  have hP : va_P D vwCl ([(h0, .inr (11, [.ref (u1 1), .ref (u2 20), .ref (u3 33), .ref (u4 46), .ref (u5 51), .ref (u6 52), .ref (u7 62), .null, .int 0, .int 0]))] ++ B7) H := hP
  have hD : va_D A ([(h0, .inr (11, [.ref (u1 1), .ref (u2 20), .ref (u3 33), .ref (u4 46), .ref (u5 51), .ref (u6 52), .ref (u7 62), .null, .int 0, .int 0]))] ++ B7) := hD
  refine lv_aload_n hx hb dX11_init_81 rfl (lv_at hl 0 rfl) ?_
  refine va_new (ci := 9) (fs := [.int 0, .null, .null, .null, .null, .int 0, .null, .null, .null, .null, .int 0, .null, .int 0, .null, .null]) (C := RX9) (T := TX9) (N := 15) hx hb hts x_in9 tyX9 tyX9_ok hown (hts _ c_cl11_54) (hts _ c_is9.1) (hts _ c_is9.2) hK hP hD hS hA rfl c_df9 (Nat.le_of_ble_eq_true rfl) (Nat.le_of_ble_eq_true rfl) dX11_init_82 (fun q8 H hP hD hS => ?_)
  refine W.widen (k := 72) (n := 6516) (Nat.le_of_ble_eq_true rfl) (Nat.le_of_ble_eq_true rfl) ?_
  refine lv_dup hx hb dX11_init_85 rfl ?_
  have hPc : va_P D vwCl [(q8, .inr (9, [.int 0, .null, .null, .null, .null, .int 0, .null, .null, .null, .null, .int 0, .null, .int 0, .null, .null]))] H := c_right hP
  have hDc : va_D A [(q8, .inr (9, [.int 0, .null, .null, .null, .null, .int 0, .null, .null, .null, .null, .int 0, .null, .int 0, .null, .null]))] := c_rightD hD
  have hFc := c_free (wc := [(q8, .inr (9, [.int 0, .null, .null, .null, .null, .int 0, .null, .null, .null, .null, .int 0, .null, .int 0, .null, .null]))]) hD hS hA
  refine va_callv (va_runIN (As := []) (rest := [.ref q8, .ref h0]) ⟨hx, hb, hml, hown, hts⟩ (kc_9_72 l D cI cB cZ cQ q8 H.size) ⟨va_cnB (host := "GrottoHours") 0 hts (gT_in (fun w h => (List.mem_cons.mp h).elim (fun e => e ▸ c_cw9.1) id)) rfl rfl rfl (hN _ (List.mem_of_getElem? (i := 95) rfl)) (hts _ c_is9.2) c_cw9.2.2 ⟨(Nat.le_of_ble_eq_true rfl), (Nat.le_of_ble_eq_true rfl)⟩, rfl, hts _ c_cw9.2.1⟩ ⟨fun a U g mk q => by obtain ⟨q0, q1, qP, qK, qD, qN, qO⟩ := q; exact ⟨q0, q1, qP, va_K.moved (u := U) (U := U.calling g mk a) (Vm.Alike.refl U.vm) qK, qD, xNest_warm (State.WarmedH.refl U) qN, aoa_moved (u := U) (U := U.calling g mk a) (Vm.Alike.refl U.vm) qO⟩, fun U hU hW => ⟨rfl, by rw [hU], by rw [hU]; exact hPc, va_K.moved hW.alike hK, hDc.weaken (fun _ _ _ _ => trivial), xNest_warm hW hN, aoa_moved hW.alike hAO⟩⟩ rfl rfl hl.1 rfl (lv_room (Nat.le_of_ble_eq_true rfl)) dX11_init_86 ⟨(Nat.le_of_ble_eq_true rfl), (Nat.le_of_ble_eq_true rfl)⟩) hS (fun q _ h => hFc q h) hFc (fun u8 t H1 locs ht hvm hw hB hz1 hk1 hS => ?_)
  obtain ⟨hu8, hP1, hK1, hD1⟩ := hB
  rewrite [ht] at hP1
  obtain ⟨hP, hD⟩ := c_join (wr := [(h0, .inr (11, [.ref (u1 1), .ref (u2 20), .ref (u3 33), .ref (u4 46), .ref (u5 51), .ref (u6 52), .ref (u7 62), .null, .int 0, .int 0]))] ++ B7) (w1 := xb cI cB cZ cQ u8 72 16) hP hD hk1 hFc hP1 hD1
  generalize H1 = H at hP hS ⊢
  have hP : va_P D vwCl ([(h0, .inr (11, [.ref (u1 1), .ref (u2 20), .ref (u3 33), .ref (u4 46), .ref (u5 51), .ref (u6 52), .ref (u7 62), .null, .int 0, .int 0]))] ++ (B7 ++ xb cI cB cZ cQ u8 72 16)) H := by rw [← List.append_assoc]; exact hP
  have hD : va_D A ([(h0, .inr (11, [.ref (u1 1), .ref (u2 20), .ref (u3 33), .ref (u4 46), .ref (u5 51), .ref (u6 52), .ref (u7 62), .null, .int 0, .int 0]))] ++ (B7 ++ xb cI cB cZ cQ u8 72 16)) := by rw [← List.append_assoc]; exact hD
  obtain ⟨B8, hB8⟩ : ∃ z : va_W, z = B7 ++ xb cI cB cZ cQ u8 72 16 := ⟨_, rfl⟩
  rewrite [← hB8] at hP hD
  have hz8 : Value.ref q8 = .ref (u8 72) := by rw [hu8]
  refine W.widen (k := 87) (n := 8050) (Nat.le_of_ble_eq_true rfl) (Nat.le_of_ble_eq_true rfl) ?_
  rw [hz8]
  refine va_put (D := D) (ci := 11) (v := .ref (u8 72)) (ty := tyX11 7) (C := RX11) (T := TX11) (N := 10) hx hb hts x_in11 tyX11 tyX11_ok nmX11 hown hK hP hD hS 0 rfl rfl 7 (by decide) (hts _ xl_X11_57) (fun _ h9 => h9) rfl (tyX11_ok 7 (by decide)) rfl rfl (Nat.le_of_ble_eq_true rfl) dX11_init_89 (fun H locs hP hD hS => ?_)
  have hP : va_P D vwCl ([(h0, .inr (11, [.ref (u1 1), .ref (u2 20), .ref (u3 33), .ref (u4 46), .ref (u5 51), .ref (u6 52), .ref (u7 62), .ref (u8 72), .int 0, .int 0]))] ++ B8) H := hP
  have hD : va_D A ([(h0, .inr (11, [.ref (u1 1), .ref (u2 20), .ref (u3 33), .ref (u4 46), .ref (u5 51), .ref (u6 52), .ref (u7 62), .ref (u8 72), .int 0, .int 0]))] ++ B8) := hD
  refine lv_aload_n hx hb dX11_init_92 rfl (lv_at hl 0 rfl) ?_
  refine lv_iconst (v := 0) hx hb dX11_init_93 (by decide) ?_
  refine va_put (D := D) (ci := 11) (v := .int 0) (ty := tyX11 8) (C := RX11) (T := TX11) (N := 10) hx hb hts x_in11 tyX11 tyX11_ok nmX11 hown hK hP hD hS 0 rfl rfl 8 (by decide) (hts _ xl_X11_61) (fun _ h9 => h9) rfl (tyX11_ok 8 (by decide)) rfl rfl (Nat.le_of_ble_eq_true rfl) dX11_init_94 (fun H locs hP hD hS => ?_)
  have hP : va_P D vwCl ([(h0, .inr (11, [.ref (u1 1), .ref (u2 20), .ref (u3 33), .ref (u4 46), .ref (u5 51), .ref (u6 52), .ref (u7 62), .ref (u8 72), .int 0, .int 0]))] ++ B8) H := hP
  have hD : va_D A ([(h0, .inr (11, [.ref (u1 1), .ref (u2 20), .ref (u3 33), .ref (u4 46), .ref (u5 51), .ref (u6 52), .ref (u7 62), .ref (u8 72), .int 0, .int 0]))] ++ B8) := hD
  refine lv_aload_n hx hb dX11_init_97 rfl (lv_at hl 0 rfl) ?_
  refine lv_iconst (v := 0) hx hb dX11_init_98 (by decide) ?_
  refine va_put (D := D) (ci := 11) (v := .int 0) (ty := tyX11 9) (C := RX11) (T := TX11) (N := 10) hx hb hts x_in11 tyX11 tyX11_ok nmX11 hown hK hP hD hS 0 rfl rfl 9 (by decide) (hts _ xl_X11_65) (fun _ h9 => h9) rfl (tyX11_ok 9 (by decide)) rfl rfl (Nat.le_of_ble_eq_true rfl) dX11_init_99 (fun H locs hP hD hS => ?_)
  have hP : va_P D vwCl ([(h0, .inr (11, [.ref (u1 1), .ref (u2 20), .ref (u3 33), .ref (u4 46), .ref (u5 51), .ref (u6 52), .ref (u7 62), .ref (u8 72), .int 0, .int 0]))] ++ B8) H := hP
  have hD : va_D A ([(h0, .inr (11, [.ref (u1 1), .ref (u2 20), .ref (u3 33), .ref (u4 46), .ref (u5 51), .ref (u6 52), .ref (u7 62), .ref (u8 72), .int 0, .int 0]))] ++ B8) := hD
  rewrite [hB8, hB7, hB6, hB5, hB4, hB3, hB2, hB1, hB0] at hP hD
  obtain ⟨G, hG⟩ : ∃ z : Nat → Nat, z = (xj (xj (xj (xj (xj (xj (xj (xj (fun _ => h0) 1 u1) 20 u2) 33 u3) 46 u4) 51 u5) 52 u6) 62 u7) 72 u8) := ⟨_, rfl⟩
  rw [xb_52 (G := G) (fun i h1 h2 => by rw [hG]; simp only [xj]; rw [if_pos (by omega), if_pos (by omega), if_neg (by omega)]), xb_62 (G := G) (fun i h1 h2 => by rw [hG]; simp only [xj]; rw [if_pos (by omega), if_neg (by omega)])] at hP hD
  subst hG
  have hP9 : va_P D vwCl (xb cI cB cZ cQ (xj (xj (xj (xj (xj (xj (xj (xj (fun _ => h0) 1 u1) 20 u2) 33 u3) 46 u4) 51 u5) 52 u6) 62 u7) 72 u8) 0 88) H := hP
  have hD9 : va_D A (xb cI cB cZ cQ (xj (xj (xj (xj (xj (xj (xj (xj (fun _ => h0) 1 u1) 20 u2) 33 u3) 46 u4) 51 u5) 52 u6) 62 u7) 72 u8) 0 88) := hD
  exact W.vret hx hb hr (fun t ht hW => ⟨⟨(xj (xj (xj (xj (xj (xj (xj (xj (fun _ => h0) 1 u1) 20 u2) 33 u3) 46 u4) 51 u5) 52 u6) 62 u7) 72 u8), rfl, trivial, rfl, by rw [ht]; exact hP9, va_K.moved hW.alike hK, hD9⟩, hS.F ht⟩) hS.2.2 dX11_init_102 hlocks
end

/-! part 20.alaw -/
section
/-! THE LAW'S STATIC METHODS: each calls one of the class's methods, keeps its answer in the row out, and catches what it throws -/
def lP (D : va_G) (g : Nat → Nat) (cI cB cZ cQ cJ : ClassId) (aO : Nat) (S : gS) (f : Nat → Int64) (H : Heap) : Prop :=
  va_P D vwCl (gw (xcell g cI cB cZ cQ) xord S) H ∧ va_P D vwCl [(aO, .inl (cJ, 1, .inr (.inl f)))] H
def lA (g : Nat → Nat) (aO sz : Nat) : Nat → Prop := fun q => gA xord g sz q ∨ q = aO
def lQ (D : va_G) (g : Nat → Nat) (cI cB cZ cQ cJ : ClassId) (aO sz : Nat) (k : Int32) (S : gS) (f : Nat → Int64) : Array Value → State → Outcome → State → Prop := fun _ st oc t =>
  (oc = .returned (some (.int k)) ∧ lP D g cI cB cZ cQ cJ aO S f t.heap) ∧ va_F (lA g aO sz) st t
def lM (l : Launch) (y : MethodName) (cy : ByteArray) (mL : Nat) (hh : List (Nat × Nat × Nat × Nat)) (d u : Nat) (D : va_G) (g : Nat → Nat) (cI cB cZ cQ cJ : ClassId) (aO : Nat) (Am : (Nat → Prop) → State → Heap → Prop) (av : List Value) (S : gS) (f : Nat → Int64) (k : Int32) (S' : gS) (f' : Nat → Int64) : Prop :=
  ∀ sz : Nat, Met l y (Cond.codeWith y cy mL (some .int) hh :: gT) (rmx d u) (va_Pc av (fun U => U.heap.size = sz ∧ lP D g cI cB cZ cQ cJ aO S f U.heap ∧ va_K D vwCl (xtys cI cB cZ cQ) U ∧ va_K D vwCl [(cJ, .long)] U ∧ Am (gA xord g sz) U U.heap ∧ va_Nc (tE 2) (tE 1) U)) (lQ D g cI cB cZ cQ cJ aO sz k S' f') u (6 * u) (lA g aO sz)
def lC (p : Program) (s : State) (m : MethodId) (args : Array Value) (meth : Method) (c : Code) (cc : ByteArray) (nL : Nat) (hh : List (Nat × Nat × Nat × Nat)) (D : va_G) (g : Nat → Nat) (cI cB cZ cQ cJ : ClassId) (aO : Nat) (Am : (Nat → Prop) → State → Heap → Prop) : Prop :=
  gC p s m args meth c cc nL RL (some .int) D (xtys cI cB cZ cQ) xord g Am ∧ c.exceptionTable.toList = tableOf hh ∧ va_K D vwCl [(cJ, .long)] s ∧ va_Nc (tE 2) (tE 1) s ∧ ∀ k, k ∈ xord → g k ≠ aO
def lE (below : List Frame) (args : Array Value) (s : State) (D : va_G) (g : Nat → Nat) (cI cB cZ cQ cJ : ClassId) (aO u : Nat) (k : Int32) (S' : gS) (f' : Nat → Int64) : State → Prop :=
  MQ below (lQ D g cI cB cZ cQ cJ aO s.heap.size k S' f') args s u (6 * u) (lA g aO s.heap.size)
section LAW1
variable {p : Program} {l : Launch} {e : Env} {R : Room} {s : State} {m : MethodId} {args : Array Value} {below : List Frame} {meth : Method} {c : Code} {H : Heap} {locs : List Loc} {cs sl : Nat} {Q : State → Prop} {Am : (Nat → Prop) → State → Heap → Prop}
variable {cc cy : ByteArray} {nL mL pc n index d u u2 : Nat} {hh : List (Nat × Nat × Nat × Nat)} {ret rt : Option FieldType} {D : va_G} {g : Nat → Nat} {cI cB cZ cQ cJ : ClassId} {aO : Nat} {S S' : gS} {f f' : Nat → Int64} {ls : Array Slot} {rest As av : List Value} {y : MethodName} {vd : Bool} {o : tR} {k : Int32} {aK aV : Nat → Nat}
theorem lM_of (P : gAm Am) (hy : plainName y.cls = true) (hyl : y.cls = RL) (hg : ∀ k, k ∈ xord → g k ≠ aO) (hn : (lg_sl av).length ≤ mL)
    (hw : ∀ (p : Program) (e : Env) (s : State) (m : MethodId) (args : Array Value) (below : List Frame) (meth : Method) (c : Code) (ls : Array Slot), lC p s m args meth c cy mL hh D g cI cB cZ cQ cJ aO Am → lP D g cI cB cZ cQ cJ aO S f s.heap → lv_has ls mL (lv_args 0 av) →
      W p l e (rmx d u) s m args below meth c s.heap [] 0 0 (lE below args s D g cI cB cZ cQ cJ aO u k S' f') (F0 m 0 ls [])) : lM l y cy mL hh d u D g cI cB cZ cQ cJ aO Am av S f k S' f' := by
  intro sz
  unfold Met
  refine MetFree.of_bodyS (code := cy) (maxLocals := mL) (ret := some .int) hy ?_ ?_
  · intro args s m h hn
    obtain ⟨m9, meth, c, hn9, h1, h2, h3, h4, -, h5, h6, -⟩ := Cond.codeWith_spec (atoms_spec (ws := Cond.codeWith y cy mL (some .int) hh :: gT) h _ List.mem_cons_self)
    cases hn.symm.trans hn9
    exact ⟨meth, c, h1, h2, h3, h4, h5, h6⟩
  · intro p e s m args below meth c s₁ B hml hP _
    have hh0 : s₁.heap = s.heap := by rw [B.state]; rfl
    obtain ⟨rfl, hsz, hP, hK, hK2, hY, hN⟩ := hP
    have hts := atoms_spec (ws := Cond.codeWith y cy mL (some .int) hh :: gT) B.pre
    subst hsz
    have hf : s.vm.findClass RL = some m.cls := by
      have := findClass_of_methodNamed B.named
      rewrite [hyl] at this
      exact this
    have K := hw p e s m _ below meth c _ ⟨⟨⟨B.exec, B.bytes, hml, hf, fun w h => hts w (List.mem_cons_of_mem _ h)⟩, hK, B.returns, B.notSynchronized, P, hY⟩, vx_table (x := y) B (hts _ List.mem_cons_self), hK2, hN, hg⟩ hP (lv_entry av hn)
    rewrite [← lg_entry_eq] at K
    obtain ⟨t, a1, o, b1, b2, b3⟩ := K s₁ hh0 (Stand.of_body B)
    exact ⟨t, o, a1, b1, b2, ⟨b3.1, b3.2⟩⟩
theorem lA_of {sz q : Nat} (h : gA xord g sz q) : lA g aO sz q := Or.inl h
theorem l_keep {t : State} {T' : State} {L : List Loc} {S1 : gS} (hg : ∀ k, k ∈ xord → g k ≠ aO) (hP : lP D g cI cB cZ cQ cJ aO S f s.heap) (hP1 : va_P D vwCl (gw (xcell g cI cB cZ cQ) xord S1) t.heap) (hF : s.heap.size ≤ t.heap.size ∧ ∀ q : Nat, q < s.heap.size → ¬ gA xord g s.heap.size q → t.heap[q]? = s.heap[q]?) (hL : ∀ z ∈ L, gA xord g s.heap.size z.base) (e1 : T'.heap = t.heap) :
    lP D g cI cB cZ cQ cJ aO S1 f T'.heap ∧ va_S (lA g aO s.heap.size) s.heap T'.heap ([] ++ L) := by
  have hO : aO < s.heap.size := by
    have h1 : s.heap[aO]? = some _ := hP.2 0 _ rfl
    exact (Array.getElem?_eq_some_iff.mp h1).1
  have hn : ¬ gA xord g s.heap.size aO := by
    rintro (⟨k, hk, h1⟩ | h1)
    · exact hg k hk h1.symm
    · exact absurd hO (Nat.not_lt.mpr h1)
  refine ⟨⟨by rw [e1]; exact hP1, ?_⟩, by rw [e1]; exact hF.1, fun q h1 h2 => by rw [e1]; exact hF.2 q h1 (fun z => h2 (lA_of z)), fun z hz => lA_of (hL z (by simpa using hz))⟩
  refine hP.2.kept (fun i q hq => ?_)
  have h2 : q.1 = aO := by
    cases i with
    | zero => cases Option.some.inj hq; rfl
    | succ i => cases hq
  rw [h2, e1]
  exact hF.2 aO hO hn
/-- the class's method is called: it has come back, or has thrown -/
theorem l_call {st0 : List Value} {a : Array Value} {mc ms : Nat} (hg : ∀ k, k ∈ xord → g k ≠ aO) (hP : lP D g cI cB cZ cQ cJ aO S f s.heap) (hr : vx_Run p l e R s m args below meth c s.heap [] 0 0 mc ms (F0 m pc ls st0) rest (gXQ D (xtys cI cB cZ cQ) (xcell g cI cB cZ cQ) xord g s.heap.size false o a) (gXX D (xtys cI cB cZ cQ) (xcell g cI cB cZ cQ) xord g s.heap.size o) (gA xord g s.heap.size))
    (hok : o.1 = 0 → ∀ (H1 : Heap) (locs1 : List Loc), lP D g cI cB cZ cQ cJ aO o.2.2 f H1 → va_S (lA g aO s.heap.size) s.heap H1 locs1 → W p l e R s m args below meth c H1 locs1 (0 + mc) (0 + ms) Q (F0 m (pc + 3) ls (.int o.2.1 :: rest)))
    (hthr : o.1 ≠ 0 → ∀ (q : Addr) (ce : Cell) (H1 : Heap) (locs1 : List Loc), lP D g cI cB cZ cQ cJ aO o.2.2 f H1 → va_S (lA g aO s.heap.size) s.heap H1 locs1 → H1[q]? = some ce → ce.vm = .none → s.vm.findClass (tE o.1) = some ce.cls → vx_W p l e R s m args below meth c H1 locs1 (0 + mc) (0 + ms) Q (F0 m pc ls rest) q) :
    W p l e R s m args below meth c s.heap [] 0 0 Q (F0 m pc ls st0) := by
  intro T hT X0
  rcases hr T hT X0 with ⟨v', st₀, t, T', L, h0, X', hL, e1, e2, ⟨h9, ⟨hv, hP1, hK⟩, hz, hk⟩, st⟩ | ⟨q, st₀, t, T', L, E, ce, h0, X', hL, e1, e2, ⟨hn, hE, hP1, hK, hz, hk⟩, hce, hcv, hcl, st⟩
  · cases hv
    rewrite [h0] at hz hk
    obtain ⟨k1, k2⟩ := l_keep hg hP hP1 ⟨hz, hk⟩ hL e1
    obtain ⟨t2, a1, b1⟩ := hok h9 T'.heap ([] ++ L) k1 k2 T' rfl X'
    exact ⟨t2, st t2 a1, b1⟩
  · rewrite [h0] at hz hk
    obtain ⟨k1, k2⟩ := l_keep hg hP hP1 ⟨hz, hk⟩ hL e1
    subst hE
    obtain ⟨t2, a1, b1⟩ := hthr hn q ce T'.heap ([] ++ L) k1 k2 (by rw [e1]; exact hce) hcv hcl T' rfl X'
    exact ⟨t2, st.trans a1, b1⟩
theorem l_ret (C : lC p s m args meth c cc nL hh D g cI cB cZ cQ cJ aO Am) (hP : lP D g cI cB cZ cQ cJ aO S f H) (hS : va_S (lA g aO s.heap.size) s.heap H locs) (h1 : cs ≤ u) (h2 : sl ≤ 6 * u) {x : Int32} (hdg : decode cc pc = .ok (.ireturn, 1)) :
    W p l e R s m args below meth c H locs cs sl (lE below args s D g cI cB cZ cQ cJ aO u x S f) (F0 m pc ls [.int x]) :=
  W.widen (k := u) (n := 6 * u) h1 h2 (W.iret (v := x) C.1.1.1 C.1.1.2.1 C.1.2.2.1 (fun t ht hW => ⟨⟨rfl, by rw [ht]; exact hP⟩, hS.F ht⟩) hS.2.2 hdg C.1.2.2.2.1)
/-- the answer is laid into the row -/
theorem l_lay (O : gO (xcell g cI cB cZ cQ) xord g) (C : lC p s m args meth c cc nL hh D g cI cB cZ cQ cJ aO Am) (hP : lP D g cI cB cZ cQ cJ aO S f H) (hS : va_S (lA g aO s.heap.size) s.heap H locs) {x : Int64} (hdg : decode cc pc = .ok (.lastore, 1))
    (kk : ∀ (H1 : Heap) (locs1 : List Loc), lP D g cI cB cZ cQ cJ aO S (vp_updL f 0 x) H1 → va_S (lA g aO s.heap.size) s.heap H1 locs1 → W p l e R s m args below meth c H1 locs1 cs sl Q (F0 m (pc + 1) ls rest)) : W p l e R s m args below meth c H locs cs sl Q (F0 m pc ls (.long x :: .int 0 :: .ref aO :: rest)) := by
  have h0 : ((gw (xcell g cI cB cZ cQ) xord S) ++ [(aO, (.inl (cJ, 1, .inr (.inl f)) : va_E))])[(gw (xcell g cI cB cZ cQ) xord S).length]? = some (aO, .inl (cJ, 1, .inr (.inl f))) := by
    rw [List.getElem?_append_right (Nat.le_refl _), Nat.sub_self]
    rfl
  have hD : va_D (lA g aO s.heap.size) ((gw (xcell g cI cB cZ cQ) xord S) ++ [(aO, (.inl (cJ, 1, .inr (.inl f)) : va_E))]) := by
    have h1 := gw_D O S s.heap.size
    have h2 : ∀ (i : Nat) (q : Nat × va_E), ((gw (xcell g cI cB cZ cQ) xord S) ++ [(aO, (.inl (cJ, 1, .inr (.inl f)) : va_E))])[i]? = some q → (gw (xcell g cI cB cZ cQ) xord S)[i]? = some q ∨ i = (gw (xcell g cI cB cZ cQ) xord S).length ∧ q.1 = aO := by
      intro i q hq
      rcases Nat.lt_or_ge i (gw (xcell g cI cB cZ cQ) xord S).length with hi | hi
      · rewrite [List.getElem?_append_left hi] at hq
        exact Or.inl hq
      · rewrite [List.getElem?_append_right hi] at hq
        have h3 : i - (gw (xcell g cI cB cZ cQ) xord S).length = 0 := by
          cases h4 : i - (gw (xcell g cI cB cZ cQ) xord S).length with
          | zero => rfl
          | succ j => rewrite [h4] at hq; cases hq
        rewrite [h3] at hq
        refine Or.inr ⟨Nat.le_antisymm (Nat.le_of_sub_eq_zero h3) hi, ?_⟩
        cases Option.some.inj hq
        rfl
    have h5 : ∀ (i : Nat) (q : Nat × va_E), (gw (xcell g cI cB cZ cQ) xord S)[i]? = some q → q.1 ≠ aO := by
      intro i q hq
      obtain ⟨k, hk, rfl⟩ := gw_of hq
      rw [O.2.1]
      exact C.2.2.2.2 k (List.mem_of_getElem? hk)
    refine ⟨fun i j a b hi hj e9 => ?_, fun k q hk => ?_⟩
    · rcases h2 i a hi with hi | ⟨hi, ha⟩
      · rcases h2 j b hj with hj | ⟨hj, hb⟩
        · exact h1.1 i j a b hi hj e9
        · exact absurd (e9.trans hb) (h5 i a hi)
      · rcases h2 j b hj with hj | ⟨hj, hb⟩
        · exact absurd (e9.symm.trans ha) (h5 j b hj)
        · rw [hi, hj]
    · rcases h2 k q hk with hk | ⟨-, hk⟩
      · exact Or.inl (h1.2 k q hk)
      · exact Or.inr hk
  refine va_last C.1.1.1 C.1.1.2.1 C.2.2.1 (va_P.app hP.1 hP.2) hD hS _ 0 h0 rfl (by unfold vp_in; decide) hdg (fun H1 L1 k1 k2 k3 => ?_)
  rewrite [List.set_append_right _ _ (Nat.le_refl _), Nat.sub_self] at k1
  refine kk H1 L1 ⟨fun i q hi => k1 i q ?_, fun i q hi => k1 ((gw (xcell g cI cB cZ cQ) xord S).length + i) q ?_⟩ k3
  · rw [List.getElem?_append_left (List.getElem?_eq_some_iff.mp hi).1]
    exact hi
  · rw [List.getElem?_append_right (Nat.le_add_right _ _), Nat.add_sub_cancel_left]
    exact hi
/-- caught by the first row of the table -/
theorem l_catchA {i1 i2 i3 i4 t : Nat} {h' : List (Nat × Nat × Nat × Nat)} (C : lC p s m args meth c cc nL ((i1, i2, i3, i4) :: h') D g cI cB cZ cQ cJ aO Am) (O : tO l g cI cB cZ cQ Am aK aV) (hw : Cond.classLink RL i4 (tE t) ∈ gT) (ht : t = 1 ∨ t = 2) (h0 : i4 ≠ 0) (hcov : ∀ x : ExceptionTableEntry, (tableOf ((i1, i2, i3, i4) :: h')).head? = some x → covers x pc = true ∧ x.catchType = i4 ∧ x.handlerPc = i3)
    {q : Addr} {ce : Cell} (hc : H[q]? = some ce) (hv : ce.vm = .none) (hcl : s.vm.findClass (tE t) = some ce.cls) (kk : W p l e R s m args below meth c H locs cs sl Q (F0 m i3 ls [.ref q])) : vx_W p l e R s m args below meth c H locs cs sl Q (F0 m pc ls rest) q := by
  obtain ⟨k1, k2, k3⟩ := hcov _ rfl
  have hct : (Cond.castable (tE t) (tE t)).before args s = true := by
    have h1 := (O.2.1 _ _ _ C.1.2.2.2.2.2).1
    rcases ht with rfl | rfl
    · exact va_tabs rfl rfl (h1 (.castable (tE 1) (tE 1)) (List.mem_of_getElem? (i := 0) rfl))
    · exact va_tabs rfl rfl (h1 (.castable (tE 2) (tE 2)) (List.mem_of_getElem? (i := 1) rfl))
  refine vx_catch (own := RL) (name := tE t) (E := tE t) C.1.1.2.2.2.1 [] _ _ (C.2.1.trans rfl) (fun z hz => by cases hz) k1 (by rw [k2]; exact h0) (by rw [k2]; exact C.1.1.2.2.2.2 _ hw) hct hc hv hcl ?_
  rw [k3]
  exact kk
/-- caught by the second row: the first one takes NoSuchElementException alone -/
theorem l_catchB {j1 j2 j3 j4 i1 i2 i3 i4 : Nat} (C : lC p s m args meth c cc nL [(j1, j2, j3, j4), (i1, i2, i3, i4)] D g cI cB cZ cQ cJ aO Am) (O : tO l g cI cB cZ cQ Am aK aV) (hw1 : Cond.classLink RL j4 (tE 1) ∈ gT) (hw : Cond.classLink RL i4 (tE 2) ∈ gT) (hj : j4 ≠ 0) (h0 : i4 ≠ 0)
    (hc1 : ∀ x : ExceptionTableEntry, (tableOf [(j1, j2, j3, j4), (i1, i2, i3, i4)])[0]? = some x → x.catchType = j4) (hcov : ∀ x : ExceptionTableEntry, (tableOf [(j1, j2, j3, j4), (i1, i2, i3, i4)])[1]? = some x → covers x pc = true ∧ x.catchType = i4 ∧ x.handlerPc = i3)
    {q : Addr} {ce : Cell} (hc : H[q]? = some ce) (hv : ce.vm = .none) (hcl : s.vm.findClass (tE 2) = some ce.cls) (kk : W p l e R s m args below meth c H locs cs sl Q (F0 m i3 ls [.ref q])) : vx_W p l e R s m args below meth c H locs cs sl Q (F0 m pc ls rest) q := by
  obtain ⟨k1, k2, k3⟩ := hcov _ rfl
  have j2' := hc1 _ rfl
  have hct : (Cond.castable (tE 2) (tE 2)).before args s = true := va_tabs rfl rfl ((O.2.1 _ _ _ C.1.2.2.2.2.2).1 (.castable (tE 2) (tE 2)) (List.mem_of_getElem? (i := 1) rfl))
  refine vx_catch (own := RL) (name := tE 2) (E := tE 2) C.1.1.2.2.2.1 [_] _ _ (C.2.1.trans rfl) (fun z hz => ?_) k1 (by rw [k2]; exact h0) (by rw [k2]; exact C.1.1.2.2.2.2 _ hw) hct hc hv hcl ?_
  · cases List.mem_singleton.mp hz
    exact Or.inr ⟨by rw [j2']; exact hj, tE 1, by rw [j2']; exact C.1.1.2.2.2.2 _ hw1, C.2.2.2.1⟩
  · rw [k3]
    exact kk
end LAW1
noncomputable def lcA (t : Nat) : Int32 := if t = 0 then 0 else 1
noncomputable def lcC (t : Nat) : Int32 := if t = 0 then 0 else if t = 1 then 1 else 2
noncomputable def lrow (f : Nat → Int64) (o : tR) : Nat → Int64 := if o.1 = 0 then vp_updL f 0 o.2.1.toInt64 else f
noncomputable def lrowZ (f : Nat → Int64) (o : tR) : Nat → Int64 := if o.1 = 0 then vp_updL f 0 (if o.2.1 = 0 then 0 else 1) else f
end

/-! part 20.bwords -/
section
/-! words of the law's calls (printed by wip/whole/mklaw.py) -/
theorem xc_X11_port : Cond.code yX11_port cX11_port 4 (some .int) ∈ gT := gT_c3 112 rfl rfl
theorem xi_X11_port : Cond.instanceMethod yX11_port ∈ gT ∧ Cond.selects yX11_port.cls yX11_port yX11_port ∈ gT := ⟨gT_c3 110 rfl rfl, gT_c3 111 rfl rfl⟩
theorem xd_X11_port : yX11_port.cls ≠ "java/lang/invoke/MethodHandle" ∧ yX11_port.cls ≠ "java/lang/invoke/VarHandle" ∧ (parseMethodDescriptor yX11_port.desc).map (fun d => d.parameters.length) = some 1 := by decide +kernel
theorem xv_L_7 : gWV RL 7 yX11_port cX11_port 4 (some .int) 1 := ⟨gT_c3 109 rfl rfl, xi_X11_port.1, xi_X11_port.2, xini_X11, xc_X11_port, xd_X11_port⟩
theorem xc_X11_count : Cond.code yX11_count cX11_count 3 (some .int) ∈ gT := gT_c4 200 rfl rfl
theorem xi_X11_count : Cond.instanceMethod yX11_count ∈ gT ∧ Cond.selects yX11_count.cls yX11_count yX11_count ∈ gT := ⟨gT_c4 198 rfl rfl, gT_c4 199 rfl rfl⟩
theorem xd_X11_count : yX11_count.cls ≠ "java/lang/invoke/MethodHandle" ∧ yX11_count.cls ≠ "java/lang/invoke/VarHandle" ∧ (parseMethodDescriptor yX11_count.desc).map (fun d => d.parameters.length) = some 1 := by decide +kernel
theorem xv_L_15 : gWV RL 15 yX11_count cX11_count 3 (some .int) 1 := ⟨gT_c4 197 rfl rfl, xi_X11_count.1, xi_X11_count.2, xini_X11, xc_X11_count, xd_X11_count⟩
theorem xc_X11_grotto : Cond.code yX11_grotto cX11_grotto 3 (some .int) ∈ gT := gT_c4 236 rfl rfl
theorem xi_X11_grotto : Cond.instanceMethod yX11_grotto ∈ gT ∧ Cond.selects yX11_grotto.cls yX11_grotto yX11_grotto ∈ gT := ⟨gT_c4 234 rfl rfl, gT_c4 235 rfl rfl⟩
theorem xd_X11_grotto : yX11_grotto.cls ≠ "java/lang/invoke/MethodHandle" ∧ yX11_grotto.cls ≠ "java/lang/invoke/VarHandle" ∧ (parseMethodDescriptor yX11_grotto.desc).map (fun d => d.parameters.length) = some 2 := by decide +kernel
theorem xv_L_20 : gWV RL 20 yX11_grotto cX11_grotto 3 (some .int) 2 := ⟨gT_c4 233 rfl rfl, xi_X11_grotto.1, xi_X11_grotto.2, xini_X11, xc_X11_grotto, xd_X11_grotto⟩
theorem xc_X11_guild : Cond.code yX11_guild cX11_guild 4 (some .int) ∈ gT := gT_c5 28 rfl rfl
theorem xi_X11_guild : Cond.instanceMethod yX11_guild ∈ gT ∧ Cond.selects yX11_guild.cls yX11_guild yX11_guild ∈ gT := ⟨gT_c5 26 rfl rfl, gT_c5 27 rfl rfl⟩
theorem xd_X11_guild : yX11_guild.cls ≠ "java/lang/invoke/MethodHandle" ∧ yX11_guild.cls ≠ "java/lang/invoke/VarHandle" ∧ (parseMethodDescriptor yX11_guild.desc).map (fun d => d.parameters.length) = some 2 := by decide +kernel
theorem xv_L_24 : gWV RL 24 yX11_guild cX11_guild 4 (some .int) 2 := ⟨gT_c5 25 rfl rfl, xi_X11_guild.1, xi_X11_guild.2, xini_X11, xc_X11_guild, xd_X11_guild⟩
theorem xc_X11_hire : Cond.code yX11_hire cX11_hire 3 (some .boolean) ∈ gT := gT_c5 47 rfl rfl
theorem xi_X11_hire : Cond.instanceMethod yX11_hire ∈ gT ∧ Cond.selects yX11_hire.cls yX11_hire yX11_hire ∈ gT := ⟨gT_c5 45 rfl rfl, gT_c5 46 rfl rfl⟩
theorem xd_X11_hire : yX11_hire.cls ≠ "java/lang/invoke/MethodHandle" ∧ yX11_hire.cls ≠ "java/lang/invoke/VarHandle" ∧ (parseMethodDescriptor yX11_hire.desc).map (fun d => d.parameters.length) = some 2 := by decide +kernel
theorem xv_L_27 : gWV RL 27 yX11_hire cX11_hire 3 (some .boolean) 2 := ⟨gT_c5 44 rfl rfl, xi_X11_hire.1, xi_X11_hire.2, xini_X11, xc_X11_hire, xd_X11_hire⟩
theorem xc_X11_dismiss : Cond.code yX11_dismiss cX11_dismiss 3 (some .int) ∈ gT := gT_c5 54 rfl rfl
theorem xi_X11_dismiss : Cond.instanceMethod yX11_dismiss ∈ gT ∧ Cond.selects yX11_dismiss.cls yX11_dismiss yX11_dismiss ∈ gT := ⟨gT_c5 52 rfl rfl, gT_c5 53 rfl rfl⟩
theorem xd_X11_dismiss : yX11_dismiss.cls ≠ "java/lang/invoke/MethodHandle" ∧ yX11_dismiss.cls ≠ "java/lang/invoke/VarHandle" ∧ (parseMethodDescriptor yX11_dismiss.desc).map (fun d => d.parameters.length) = some 1 := by decide +kernel
theorem xv_L_31 : gWV RL 31 yX11_dismiss cX11_dismiss 3 (some .int) 1 := ⟨gT_c5 51 rfl rfl, xi_X11_dismiss.1, xi_X11_dismiss.2, xini_X11, xc_X11_dismiss, xd_X11_dismiss⟩
theorem xc_X11_confess : Cond.code yX11_confess cX11_confess 3 (some .int) ∈ gT := gT_c5 61 rfl rfl
theorem xi_X11_confess : Cond.instanceMethod yX11_confess ∈ gT ∧ Cond.selects yX11_confess.cls yX11_confess yX11_confess ∈ gT := ⟨gT_c5 59 rfl rfl, gT_c5 60 rfl rfl⟩
theorem xd_X11_confess : yX11_confess.cls ≠ "java/lang/invoke/MethodHandle" ∧ yX11_confess.cls ≠ "java/lang/invoke/VarHandle" ∧ (parseMethodDescriptor yX11_confess.desc).map (fun d => d.parameters.length) = some 1 := by decide +kernel
theorem xv_L_34 : gWV RL 34 yX11_confess cX11_confess 3 (some .int) 1 := ⟨gT_c5 58 rfl rfl, xi_X11_confess.1, xi_X11_confess.2, xini_X11, xc_X11_confess, xd_X11_confess⟩
theorem xc_X11_drain : Cond.code yX11_drain cX11_drain 3 (some .boolean) ∈ gT := gT_c5 68 rfl rfl
theorem xi_X11_drain : Cond.instanceMethod yX11_drain ∈ gT ∧ Cond.selects yX11_drain.cls yX11_drain yX11_drain ∈ gT := ⟨gT_c5 66 rfl rfl, gT_c5 67 rfl rfl⟩
theorem xd_X11_drain : yX11_drain.cls ≠ "java/lang/invoke/MethodHandle" ∧ yX11_drain.cls ≠ "java/lang/invoke/VarHandle" ∧ (parseMethodDescriptor yX11_drain.desc).map (fun d => d.parameters.length) = some 2 := by decide +kernel
theorem xv_L_37 : gWV RL 37 yX11_drain cX11_drain 3 (some .boolean) 2 := ⟨gT_c5 65 rfl rfl, xi_X11_drain.1, xi_X11_drain.2, xini_X11, xc_X11_drain, xd_X11_drain⟩
theorem xc_X11_give : Cond.code yX11_give cX11_give 3 (some .int) ∈ gT := gT_c5 79 rfl rfl
theorem xi_X11_give : Cond.instanceMethod yX11_give ∈ gT ∧ Cond.selects yX11_give.cls yX11_give yX11_give ∈ gT := ⟨gT_c5 77 rfl rfl, gT_c5 78 rfl rfl⟩
theorem xd_X11_give : yX11_give.cls ≠ "java/lang/invoke/MethodHandle" ∧ yX11_give.cls ≠ "java/lang/invoke/VarHandle" ∧ (parseMethodDescriptor yX11_give.desc).map (fun d => d.parameters.length) = some 2 := by decide +kernel
theorem xv_L_41 : gWV RL 41 yX11_give cX11_give 3 (some .int) 2 := ⟨gT_c5 76 rfl rfl, xi_X11_give.1, xi_X11_give.2, xini_X11, xc_X11_give, xd_X11_give⟩
theorem xc_X11_then : Cond.code yX11_then cX11_then 4 (some .int) ∈ gT := gT_c5 91 rfl rfl
theorem xi_X11_then : Cond.instanceMethod yX11_then ∈ gT ∧ Cond.selects yX11_then.cls yX11_then yX11_then ∈ gT := ⟨gT_c5 89 rfl rfl, gT_c5 90 rfl rfl⟩
theorem xd_X11_then : yX11_then.cls ≠ "java/lang/invoke/MethodHandle" ∧ yX11_then.cls ≠ "java/lang/invoke/VarHandle" ∧ (parseMethodDescriptor yX11_then.desc).map (fun d => d.parameters.length) = some 3 := by decide +kernel
theorem xv_L_44 : gWV RL 44 yX11_then cX11_then 4 (some .int) 3 := ⟨gT_c5 88 rfl rfl, xi_X11_then.1, xi_X11_then.2, xini_X11, xc_X11_then, xd_X11_then⟩
theorem xc_X11_dripping : Cond.code yX11_dripping cX11_dripping 2 (some .int) ∈ gT := gT_c5 111 rfl rfl
theorem xi_X11_dripping : Cond.instanceMethod yX11_dripping ∈ gT ∧ Cond.selects yX11_dripping.cls yX11_dripping yX11_dripping ∈ gT := ⟨gT_c5 109 rfl rfl, gT_c5 110 rfl rfl⟩
theorem xd_X11_dripping : yX11_dripping.cls ≠ "java/lang/invoke/MethodHandle" ∧ yX11_dripping.cls ≠ "java/lang/invoke/VarHandle" ∧ (parseMethodDescriptor yX11_dripping.desc).map (fun d => d.parameters.length) = some 1 := by decide +kernel
theorem xv_L_48 : gWV RL 48 yX11_dripping cX11_dripping 2 (some .int) 1 := ⟨gT_c5 108 rfl rfl, xi_X11_dripping.1, xi_X11_dripping.2, xini_X11, xc_X11_dripping, xd_X11_dripping⟩
theorem xc_X11_first : Cond.code yX11_first cX11_first 3 (some .int) ∈ gT := gT_c5 122 rfl rfl
theorem xi_X11_first : Cond.instanceMethod yX11_first ∈ gT ∧ Cond.selects yX11_first.cls yX11_first yX11_first ∈ gT := ⟨gT_c5 120 rfl rfl, gT_c5 121 rfl rfl⟩
theorem xd_X11_first : yX11_first.cls ≠ "java/lang/invoke/MethodHandle" ∧ yX11_first.cls ≠ "java/lang/invoke/VarHandle" ∧ (parseMethodDescriptor yX11_first.desc).map (fun d => d.parameters.length) = some 1 := by decide +kernel
theorem xv_L_51 : gWV RL 51 yX11_first cX11_first 3 (some .int) 1 := ⟨gT_c5 119 rfl rfl, xi_X11_first.1, xi_X11_first.2, xini_X11, xc_X11_first, xd_X11_first⟩
theorem xc_X11_dismissed : Cond.code yX11_dismissed cX11_dismissed 3 (some .int) ∈ gT := gT_c5 129 rfl rfl
theorem xi_X11_dismissed : Cond.instanceMethod yX11_dismissed ∈ gT ∧ Cond.selects yX11_dismissed.cls yX11_dismissed yX11_dismissed ∈ gT := ⟨gT_c5 127 rfl rfl, gT_c5 128 rfl rfl⟩
theorem xd_X11_dismissed : yX11_dismissed.cls ≠ "java/lang/invoke/MethodHandle" ∧ yX11_dismissed.cls ≠ "java/lang/invoke/VarHandle" ∧ (parseMethodDescriptor yX11_dismissed.desc).map (fun d => d.parameters.length) = some 1 := by decide +kernel
theorem xv_L_54 : gWV RL 54 yX11_dismissed cX11_dismissed 3 (some .int) 1 := ⟨gT_c5 126 rfl rfl, xi_X11_dismissed.1, xi_X11_dismissed.2, xini_X11, xc_X11_dismissed, xd_X11_dismissed⟩
theorem xc_X11_most : Cond.code yX11_most cX11_most 7 (some .int) ∈ gT := gT_c5 136 rfl rfl
theorem xi_X11_most : Cond.instanceMethod yX11_most ∈ gT ∧ Cond.selects yX11_most.cls yX11_most yX11_most ∈ gT := ⟨gT_c5 134 rfl rfl, gT_c5 135 rfl rfl⟩
theorem xd_X11_most : yX11_most.cls ≠ "java/lang/invoke/MethodHandle" ∧ yX11_most.cls ≠ "java/lang/invoke/VarHandle" ∧ (parseMethodDescriptor yX11_most.desc).map (fun d => d.parameters.length) = some 2 := by decide +kernel
theorem xv_L_57 : gWV RL 57 yX11_most cX11_most 7 (some .int) 2 := ⟨gT_c5 133 rfl rfl, xi_X11_most.1, xi_X11_most.2, xini_X11, xc_X11_most, xd_X11_most⟩
theorem xc_X11_hush : Cond.code yX11_hush cX11_hush 5 (some .int) ∈ gT := gT_c5 143 rfl rfl
theorem xi_X11_hush : Cond.instanceMethod yX11_hush ∈ gT ∧ Cond.selects yX11_hush.cls yX11_hush yX11_hush ∈ gT := ⟨gT_c5 141 rfl rfl, gT_c5 142 rfl rfl⟩
theorem xd_X11_hush : yX11_hush.cls ≠ "java/lang/invoke/MethodHandle" ∧ yX11_hush.cls ≠ "java/lang/invoke/VarHandle" ∧ (parseMethodDescriptor yX11_hush.desc).map (fun d => d.parameters.length) = some 1 := by decide +kernel
theorem xv_L_60 : gWV RL 60 yX11_hush cX11_hush 5 (some .int) 1 := ⟨gT_c5 140 rfl rfl, xi_X11_hush.1, xi_X11_hush.2, xini_X11, xc_X11_hush, xd_X11_hush⟩
theorem xc_X11_chorus : Cond.code yX11_chorus cX11_chorus 6 (some .int) ∈ gT := gT_c5 151 rfl rfl
theorem xi_X11_chorus : Cond.instanceMethod yX11_chorus ∈ gT ∧ Cond.selects yX11_chorus.cls yX11_chorus yX11_chorus ∈ gT := ⟨gT_c5 149 rfl rfl, gT_c5 150 rfl rfl⟩
theorem xd_X11_chorus : yX11_chorus.cls ≠ "java/lang/invoke/MethodHandle" ∧ yX11_chorus.cls ≠ "java/lang/invoke/VarHandle" ∧ (parseMethodDescriptor yX11_chorus.desc).map (fun d => d.parameters.length) = some 1 := by decide +kernel
theorem xv_L_63 : gWV RL 63 yX11_chorus cX11_chorus 6 (some .int) 1 := ⟨gT_c5 148 rfl rfl, xi_X11_chorus.1, xi_X11_chorus.2, xini_X11, xc_X11_chorus, xd_X11_chorus⟩
theorem xc_X11_together : Cond.code yX11_together cX11_together 5 (some .int) ∈ gT := gT_c5 164 rfl rfl
theorem xi_X11_together : Cond.instanceMethod yX11_together ∈ gT ∧ Cond.selects yX11_together.cls yX11_together yX11_together ∈ gT := ⟨gT_c5 162 rfl rfl, gT_c5 163 rfl rfl⟩
theorem xd_X11_together : yX11_together.cls ≠ "java/lang/invoke/MethodHandle" ∧ yX11_together.cls ≠ "java/lang/invoke/VarHandle" ∧ (parseMethodDescriptor yX11_together.desc).map (fun d => d.parameters.length) = some 1 := by decide +kernel
theorem xv_L_66 : gWV RL 66 yX11_together cX11_together 5 (some .int) 1 := ⟨gT_c5 161 rfl rfl, xi_X11_together.1, xi_X11_together.2, xini_X11, xc_X11_together, xd_X11_together⟩
theorem xc_X11_rhythm : Cond.code yX11_rhythm cX11_rhythm 4 (some .int) ∈ gT := gT_c5 185 rfl rfl
theorem xi_X11_rhythm : Cond.instanceMethod yX11_rhythm ∈ gT ∧ Cond.selects yX11_rhythm.cls yX11_rhythm yX11_rhythm ∈ gT := ⟨gT_c5 183 rfl rfl, gT_c5 184 rfl rfl⟩
theorem xd_X11_rhythm : yX11_rhythm.cls ≠ "java/lang/invoke/MethodHandle" ∧ yX11_rhythm.cls ≠ "java/lang/invoke/VarHandle" ∧ (parseMethodDescriptor yX11_rhythm.desc).map (fun d => d.parameters.length) = some 1 := by decide +kernel
theorem xv_L_69 : gWV RL 69 yX11_rhythm cX11_rhythm 4 (some .int) 1 := ⟨gT_c5 182 rfl rfl, xi_X11_rhythm.1, xi_X11_rhythm.2, xini_X11, xc_X11_rhythm, xd_X11_rhythm⟩
theorem xc_X11_often : Cond.code yX11_often cX11_often 5 (some .int) ∈ gT := gT_c5 192 rfl rfl
theorem xi_X11_often : Cond.instanceMethod yX11_often ∈ gT ∧ Cond.selects yX11_often.cls yX11_often yX11_often ∈ gT := ⟨gT_c5 190 rfl rfl, gT_c5 191 rfl rfl⟩
theorem xd_X11_often : yX11_often.cls ≠ "java/lang/invoke/MethodHandle" ∧ yX11_often.cls ≠ "java/lang/invoke/VarHandle" ∧ (parseMethodDescriptor yX11_often.desc).map (fun d => d.parameters.length) = some 2 := by decide +kernel
theorem xv_L_72 : gWV RL 72 yX11_often cX11_often 5 (some .int) 2 := ⟨gT_c5 189 rfl rfl, xi_X11_often.1, xi_X11_often.2, xini_X11, xc_X11_often, xd_X11_often⟩
theorem xc_X11_toHire : Cond.code yX11_toHire cX11_toHire 8 (some .int) ∈ gT := gT_c5 199 rfl rfl
theorem xi_X11_toHire : Cond.instanceMethod yX11_toHire ∈ gT ∧ Cond.selects yX11_toHire.cls yX11_toHire yX11_toHire ∈ gT := ⟨gT_c5 197 rfl rfl, gT_c5 198 rfl rfl⟩
theorem xd_X11_toHire : yX11_toHire.cls ≠ "java/lang/invoke/MethodHandle" ∧ yX11_toHire.cls ≠ "java/lang/invoke/VarHandle" ∧ (parseMethodDescriptor yX11_toHire.desc).map (fun d => d.parameters.length) = some 3 := by decide +kernel
theorem xv_L_75 : gWV RL 75 yX11_toHire cX11_toHire 8 (some .int) 3 := ⟨gT_c5 196 rfl rfl, xi_X11_toHire.1, xi_X11_toHire.2, xini_X11, xc_X11_toHire, xd_X11_toHire⟩
theorem xc_X11_shared : Cond.code yX11_shared cX11_shared 2 (some .int) ∈ gT := gT_c5 206 rfl rfl
theorem xi_X11_shared : Cond.instanceMethod yX11_shared ∈ gT ∧ Cond.selects yX11_shared.cls yX11_shared yX11_shared ∈ gT := ⟨gT_c5 204 rfl rfl, gT_c5 205 rfl rfl⟩
theorem xd_X11_shared : yX11_shared.cls ≠ "java/lang/invoke/MethodHandle" ∧ yX11_shared.cls ≠ "java/lang/invoke/VarHandle" ∧ (parseMethodDescriptor yX11_shared.desc).map (fun d => d.parameters.length) = some 1 := by decide +kernel
theorem xv_L_78 : gWV RL 78 yX11_shared cX11_shared 2 (some .int) 1 := ⟨gT_c5 203 rfl rfl, xi_X11_shared.1, xi_X11_shared.2, xini_X11, xc_X11_shared, xd_X11_shared⟩
theorem xc_X11_has : Cond.code yX11_has cX11_has 2 (some .int) ∈ gT := gT_c6 0 rfl rfl
theorem xi_X11_has : Cond.instanceMethod yX11_has ∈ gT ∧ Cond.selects yX11_has.cls yX11_has yX11_has ∈ gT := ⟨gT_c5 238 rfl rfl, gT_c5 239 rfl rfl⟩
theorem xd_X11_has : yX11_has.cls ≠ "java/lang/invoke/MethodHandle" ∧ yX11_has.cls ≠ "java/lang/invoke/VarHandle" ∧ (parseMethodDescriptor yX11_has.desc).map (fun d => d.parameters.length) = some 1 := by decide +kernel
theorem xv_L_81 : gWV RL 81 yX11_has cX11_has 2 (some .int) 1 := ⟨gT_c5 237 rfl rfl, xi_X11_has.1, xi_X11_has.2, xini_X11, xc_X11_has, xd_X11_has⟩
theorem xc_X11_toGive : Cond.code yX11_toGive cX11_toGive 3 (some .int) ∈ gT := gT_c6 7 rfl rfl
theorem xi_X11_toGive : Cond.instanceMethod yX11_toGive ∈ gT ∧ Cond.selects yX11_toGive.cls yX11_toGive yX11_toGive ∈ gT := ⟨gT_c6 5 rfl rfl, gT_c6 6 rfl rfl⟩
theorem xd_X11_toGive : yX11_toGive.cls ≠ "java/lang/invoke/MethodHandle" ∧ yX11_toGive.cls ≠ "java/lang/invoke/VarHandle" ∧ (parseMethodDescriptor yX11_toGive.desc).map (fun d => d.parameters.length) = some 2 := by decide +kernel
theorem xv_L_84 : gWV RL 84 yX11_toGive cX11_toGive 3 (some .int) 2 := ⟨gT_c6 4 rfl rfl, xi_X11_toGive.1, xi_X11_toGive.2, xini_X11, xc_X11_toGive, xd_X11_toGive⟩
theorem xc_X11_confessing : Cond.code yX11_confessing cX11_confessing 4 (some .int) ∈ gT := gT_c6 30 rfl rfl
theorem xi_X11_confessing : Cond.instanceMethod yX11_confessing ∈ gT ∧ Cond.selects yX11_confessing.cls yX11_confessing yX11_confessing ∈ gT := ⟨gT_c6 28 rfl rfl, gT_c6 29 rfl rfl⟩
theorem xd_X11_confessing : yX11_confessing.cls ≠ "java/lang/invoke/MethodHandle" ∧ yX11_confessing.cls ≠ "java/lang/invoke/VarHandle" ∧ (parseMethodDescriptor yX11_confessing.desc).map (fun d => d.parameters.length) = some 2 := by decide +kernel
theorem xv_L_87 : gWV RL 87 yX11_confessing cX11_confessing 4 (some .int) 2 := ⟨gT_c6 27 rfl rfl, xi_X11_confessing.1, xi_X11_confessing.2, xini_X11, xc_X11_confessing, xd_X11_confessing⟩
theorem xc_X11_see : Cond.code yX11_see cX11_see 6 (some .int) ∈ gT := gT_c6 41 rfl rfl
theorem xi_X11_see : Cond.instanceMethod yX11_see ∈ gT ∧ Cond.selects yX11_see.cls yX11_see yX11_see ∈ gT := ⟨gT_c6 39 rfl rfl, gT_c6 40 rfl rfl⟩
theorem xd_X11_see : yX11_see.cls ≠ "java/lang/invoke/MethodHandle" ∧ yX11_see.cls ≠ "java/lang/invoke/VarHandle" ∧ (parseMethodDescriptor yX11_see.desc).map (fun d => d.parameters.length) = some 3 := by decide +kernel
theorem xv_L_90 : gWV RL 90 yX11_see cX11_see 6 (some .int) 3 := ⟨gT_c6 38 rfl rfl, xi_X11_see.1, xi_X11_see.2, xini_X11, xc_X11_see, xd_X11_see⟩
theorem xc_X11_greedy : Cond.code yX11_greedy cX11_greedy 2 (some .int) ∈ gT := gT_c6 52 rfl rfl
theorem xi_X11_greedy : Cond.instanceMethod yX11_greedy ∈ gT ∧ Cond.selects yX11_greedy.cls yX11_greedy yX11_greedy ∈ gT := ⟨gT_c6 50 rfl rfl, gT_c6 51 rfl rfl⟩
theorem xd_X11_greedy : yX11_greedy.cls ≠ "java/lang/invoke/MethodHandle" ∧ yX11_greedy.cls ≠ "java/lang/invoke/VarHandle" ∧ (parseMethodDescriptor yX11_greedy.desc).map (fun d => d.parameters.length) = some 1 := by decide +kernel
theorem xv_L_93 : gWV RL 93 yX11_greedy cX11_greedy 2 (some .int) 1 := ⟨gT_c6 49 rfl rfl, xi_X11_greedy.1, xi_X11_greedy.2, xini_X11, xc_X11_greedy, xd_X11_greedy⟩
theorem xc_X11_look : Cond.code yX11_look cX11_look 3 (some .int) ∈ gT := gT_c6 85 rfl rfl
theorem xi_X11_look : Cond.instanceMethod yX11_look ∈ gT ∧ Cond.selects yX11_look.cls yX11_look yX11_look ∈ gT := ⟨gT_c6 83 rfl rfl, gT_c6 84 rfl rfl⟩
theorem xd_X11_look : yX11_look.cls ≠ "java/lang/invoke/MethodHandle" ∧ yX11_look.cls ≠ "java/lang/invoke/VarHandle" ∧ (parseMethodDescriptor yX11_look.desc).map (fun d => d.parameters.length) = some 1 := by decide +kernel
theorem xv_L_96 : gWV RL 96 yX11_look cX11_look 3 (some .int) 1 := ⟨gT_c6 82 rfl rfl, xi_X11_look.1, xi_X11_look.2, xini_X11, xc_X11_look, xd_X11_look⟩
theorem xc_X11_drought : Cond.code yX11_drought cX11_drought 10 (some .int) ∈ gT := gT_c6 102 rfl rfl
theorem xi_X11_drought : Cond.instanceMethod yX11_drought ∈ gT ∧ Cond.selects yX11_drought.cls yX11_drought yX11_drought ∈ gT := ⟨gT_c6 100 rfl rfl, gT_c6 101 rfl rfl⟩
theorem xd_X11_drought : yX11_drought.cls ≠ "java/lang/invoke/MethodHandle" ∧ yX11_drought.cls ≠ "java/lang/invoke/VarHandle" ∧ (parseMethodDescriptor yX11_drought.desc).map (fun d => d.parameters.length) = some 3 := by decide +kernel
theorem xv_L_99 : gWV RL 99 yX11_drought cX11_drought 10 (some .int) 3 := ⟨gT_c6 99 rfl rfl, xi_X11_drought.1, xi_X11_drought.2, xini_X11, xc_X11_drought, xd_X11_drought⟩
theorem xc_X11_game : Cond.code yX11_game cX11_game 8 (some .int) ∈ gT := gT_c6 109 rfl rfl
theorem xi_X11_game : Cond.instanceMethod yX11_game ∈ gT ∧ Cond.selects yX11_game.cls yX11_game yX11_game ∈ gT := ⟨gT_c6 107 rfl rfl, gT_c6 108 rfl rfl⟩
theorem xd_X11_game : yX11_game.cls ≠ "java/lang/invoke/MethodHandle" ∧ yX11_game.cls ≠ "java/lang/invoke/VarHandle" ∧ (parseMethodDescriptor yX11_game.desc).map (fun d => d.parameters.length) = some 3 := by decide +kernel
theorem xv_L_102 : gWV RL 102 yX11_game cX11_game 8 (some .int) 3 := ⟨gT_c6 106 rfl rfl, xi_X11_game.1, xi_X11_game.2, xini_X11, xc_X11_game, xd_X11_game⟩
theorem xc_X11_years : Cond.code yX11_years cX11_years 6 (some .int) ∈ gT := gT_c6 133 rfl rfl
theorem xi_X11_years : Cond.instanceMethod yX11_years ∈ gT ∧ Cond.selects yX11_years.cls yX11_years yX11_years ∈ gT := ⟨gT_c6 131 rfl rfl, gT_c6 132 rfl rfl⟩
theorem xd_X11_years : yX11_years.cls ≠ "java/lang/invoke/MethodHandle" ∧ yX11_years.cls ≠ "java/lang/invoke/VarHandle" ∧ (parseMethodDescriptor yX11_years.desc).map (fun d => d.parameters.length) = some 3 := by decide +kernel
theorem xv_L_105 : gWV RL 105 yX11_years cX11_years 6 (some .int) 3 := ⟨gT_c6 130 rfl rfl, xi_X11_years.1, xi_X11_years.2, xini_X11, xc_X11_years, xd_X11_years⟩
theorem xc_X11_feed : Cond.code yX11_feed cX11_feed 7 (some .int) ∈ gT := gT_c2 192 rfl rfl
theorem xi_X11_feed : Cond.instanceMethod yX11_feed ∈ gT ∧ Cond.selects yX11_feed.cls yX11_feed yX11_feed ∈ gT := ⟨gT_c2 190 rfl rfl, gT_c2 191 rfl rfl⟩
theorem xd_X11_feed : yX11_feed.cls ≠ "java/lang/invoke/MethodHandle" ∧ yX11_feed.cls ≠ "java/lang/invoke/VarHandle" ∧ (parseMethodDescriptor yX11_feed.desc).map (fun d => d.parameters.length) = some 5 := by decide +kernel
theorem xv_L_112 : gWV RL 112 yX11_feed cX11_feed 7 (some .int) 5 := ⟨gT_c2 189 rfl rfl, xi_X11_feed.1, xi_X11_feed.2, xini_X11, xc_X11_feed, xd_X11_feed⟩
theorem xc_X12_feed : Cond.code yX12_feed cX12_feed 8 (some .int) ∈ gT := gT_c7 127 rfl rfl
theorem xi_X12_feed : Cond.instanceMethod yX12_feed ∈ gT ∧ Cond.selects yX12_feed.cls yX12_feed yX12_feed ∈ gT := ⟨gT_c7 125 rfl rfl, gT_c7 126 rfl rfl⟩
theorem xd_X12_feed : yX12_feed.cls ≠ "java/lang/invoke/MethodHandle" ∧ yX12_feed.cls ≠ "java/lang/invoke/VarHandle" ∧ (parseMethodDescriptor yX12_feed.desc).map (fun d => d.parameters.length) = some 5 := by decide +kernel
theorem xini_X12 : Cond.initialized RX12 ∈ gT := gT_c1 13 rfl rfl
theorem xv_L_116 : gWV RL 116 yX12_feed cX12_feed 8 (some .int) 5 := ⟨gT_c7 124 rfl rfl, xi_X12_feed.1, xi_X12_feed.2, xini_X12, xc_X12_feed, xd_X12_feed⟩
theorem xini_L : Cond.initialized RL ∈ gT := gT_c1 0 rfl rfl
theorem lw_port : Cond.methodLink RL 117 yL_port ∈ gT ∧ Cond.static yL_port ∈ gT ∧ Cond.initialized RL ∈ gT ∧ Cond.codeWith yL_port cL_port 4 (some .int) [(0, 9, 12, 13)] ∈ gT ∧ (yL_port.cls ≠ "java/lang/invoke/MethodHandle" ∧ yL_port.cls ≠ "java/lang/invoke/VarHandle" ∧ (parseMethodDescriptor yL_port.desc).map (fun d => d.parameters.length) = some 3) := ⟨gT_c3 105 rfl rfl, gT_c3 106 rfl rfl, xini_L, gT_c3 107 rfl rfl, by decide +kernel⟩
theorem xc_X12_port : Cond.code yX12_port cX12_port 3 (some .int) ∈ gT := gT_c7 131 rfl rfl
theorem xi_X12_port : Cond.instanceMethod yX12_port ∈ gT ∧ Cond.selects yX12_port.cls yX12_port yX12_port ∈ gT := ⟨gT_c7 129 rfl rfl, gT_c7 130 rfl rfl⟩
theorem xd_X12_port : yX12_port.cls ≠ "java/lang/invoke/MethodHandle" ∧ yX12_port.cls ≠ "java/lang/invoke/VarHandle" ∧ (parseMethodDescriptor yX12_port.desc).map (fun d => d.parameters.length) = some 1 := by decide +kernel
theorem xv_L_122 : gWV RL 122 yX12_port cX12_port 3 (some .int) 1 := ⟨gT_c7 128 rfl rfl, xi_X12_port.1, xi_X12_port.2, xini_X12, xc_X12_port, xd_X12_port⟩
theorem xc_X12_thrown : Cond.code yX12_thrown cX12_thrown 1 (some .int) ∈ gT := gT_c7 123 rfl rfl
theorem xi_X12_thrown : Cond.instanceMethod yX12_thrown ∈ gT ∧ Cond.selects yX12_thrown.cls yX12_thrown yX12_thrown ∈ gT := ⟨gT_c7 121 rfl rfl, gT_c7 122 rfl rfl⟩
theorem xd_X12_thrown : yX12_thrown.cls ≠ "java/lang/invoke/MethodHandle" ∧ yX12_thrown.cls ≠ "java/lang/invoke/VarHandle" ∧ (parseMethodDescriptor yX12_thrown.desc).map (fun d => d.parameters.length) = some 0 := by decide +kernel
theorem xv_L_123 : gWV RL 123 yX12_thrown cX12_thrown 1 (some .int) 0 := ⟨gT_c7 120 rfl rfl, xi_X12_thrown.1, xi_X12_thrown.2, xini_X12, xc_X12_thrown, xd_X12_thrown⟩
theorem xc_X11_fault : Cond.code yX11_fault cX11_fault 1 (some .int) ∈ gT := gT_c2 200 rfl rfl
theorem xi_X11_fault : Cond.instanceMethod yX11_fault ∈ gT ∧ Cond.selects yX11_fault.cls yX11_fault yX11_fault ∈ gT := ⟨gT_c2 198 rfl rfl, gT_c2 199 rfl rfl⟩
theorem xd_X11_fault : yX11_fault.cls ≠ "java/lang/invoke/MethodHandle" ∧ yX11_fault.cls ≠ "java/lang/invoke/VarHandle" ∧ (parseMethodDescriptor yX11_fault.desc).map (fun d => d.parameters.length) = some 0 := by decide +kernel
theorem xv_L_127 : gWV RL 127 yX11_fault cX11_fault 1 (some .int) 0 := ⟨gT_c2 197 rfl rfl, xi_X11_fault.1, xi_X11_fault.2, xini_X11, xc_X11_fault, xd_X11_fault⟩
theorem xc_X12_fault : Cond.code yX12_fault cX12_fault 1 (some .int) ∈ gT := gT_c8 18 rfl rfl
theorem xi_X12_fault : Cond.instanceMethod yX12_fault ∈ gT ∧ Cond.selects yX12_fault.cls yX12_fault yX12_fault ∈ gT := ⟨gT_c8 16 rfl rfl, gT_c8 17 rfl rfl⟩
theorem xd_X12_fault : yX12_fault.cls ≠ "java/lang/invoke/MethodHandle" ∧ yX12_fault.cls ≠ "java/lang/invoke/VarHandle" ∧ (parseMethodDescriptor yX12_fault.desc).map (fun d => d.parameters.length) = some 0 := by decide +kernel
theorem xv_L_130 : gWV RL 130 yX12_fault cX12_fault 1 (some .int) 0 := ⟨gT_c8 15 rfl rfl, xi_X12_fault.1, xi_X12_fault.2, xini_X12, xc_X12_fault, xd_X12_fault⟩
theorem lw_count : Cond.methodLink RL 131 yL_count ∈ gT ∧ Cond.static yL_count ∈ gT ∧ Cond.initialized RL ∈ gT ∧ Cond.codeWith yL_count cL_count 4 (some .int) [(0, 9, 12, 18)] ∈ gT ∧ (yL_count.cls ≠ "java/lang/invoke/MethodHandle" ∧ yL_count.cls ≠ "java/lang/invoke/VarHandle" ∧ (parseMethodDescriptor yL_count.desc).map (fun d => d.parameters.length) = some 3) := ⟨gT_c4 193 rfl rfl, gT_c4 194 rfl rfl, xini_L, gT_c4 195 rfl rfl, by decide +kernel⟩
theorem xc_X12_count : Cond.code yX12_count cX12_count 2 (some .int) ∈ gT := gT_c8 22 rfl rfl
theorem xi_X12_count : Cond.instanceMethod yX12_count ∈ gT ∧ Cond.selects yX12_count.cls yX12_count yX12_count ∈ gT := ⟨gT_c8 20 rfl rfl, gT_c8 21 rfl rfl⟩
theorem xd_X12_count : yX12_count.cls ≠ "java/lang/invoke/MethodHandle" ∧ yX12_count.cls ≠ "java/lang/invoke/VarHandle" ∧ (parseMethodDescriptor yX12_count.desc).map (fun d => d.parameters.length) = some 1 := by decide +kernel
theorem xv_L_133 : gWV RL 133 yX12_count cX12_count 2 (some .int) 1 := ⟨gT_c8 19 rfl rfl, xi_X12_count.1, xi_X12_count.2, xini_X12, xc_X12_count, xd_X12_count⟩
theorem lw_grotto : Cond.methodLink RL 134 yL_grotto ∈ gT ∧ Cond.static yL_grotto ∈ gT ∧ Cond.initialized RL ∈ gT ∧ Cond.codeWith yL_grotto cL_grotto 5 (some .int) [(0, 10, 13, 18)] ∈ gT ∧ (yL_grotto.cls ≠ "java/lang/invoke/MethodHandle" ∧ yL_grotto.cls ≠ "java/lang/invoke/VarHandle" ∧ (parseMethodDescriptor yL_grotto.desc).map (fun d => d.parameters.length) = some 4) := ⟨gT_c4 230 rfl rfl, gT_c4 231 rfl rfl, xini_L, gT_c4 232 rfl rfl, by decide +kernel⟩
theorem xc_X12_grotto : Cond.code yX12_grotto cX12_grotto 3 (some .int) ∈ gT := gT_c8 38 rfl rfl
theorem xi_X12_grotto : Cond.instanceMethod yX12_grotto ∈ gT ∧ Cond.selects yX12_grotto.cls yX12_grotto yX12_grotto ∈ gT := ⟨gT_c8 36 rfl rfl, gT_c8 37 rfl rfl⟩
theorem xd_X12_grotto : yX12_grotto.cls ≠ "java/lang/invoke/MethodHandle" ∧ yX12_grotto.cls ≠ "java/lang/invoke/VarHandle" ∧ (parseMethodDescriptor yX12_grotto.desc).map (fun d => d.parameters.length) = some 2 := by decide +kernel
theorem xv_L_137 : gWV RL 137 yX12_grotto cX12_grotto 3 (some .int) 2 := ⟨gT_c8 35 rfl rfl, xi_X12_grotto.1, xi_X12_grotto.2, xini_X12, xc_X12_grotto, xd_X12_grotto⟩
theorem lw_guild : Cond.methodLink RL 138 yL_guild ∈ gT ∧ Cond.static yL_guild ∈ gT ∧ Cond.initialized RL ∈ gT ∧ Cond.codeWith yL_guild cL_guild 5 (some .int) [(0, 10, 13, 18)] ∈ gT ∧ (yL_guild.cls ≠ "java/lang/invoke/MethodHandle" ∧ yL_guild.cls ≠ "java/lang/invoke/VarHandle" ∧ (parseMethodDescriptor yL_guild.desc).map (fun d => d.parameters.length) = some 4) := ⟨gT_c5 22 rfl rfl, gT_c5 23 rfl rfl, xini_L, gT_c5 24 rfl rfl, by decide +kernel⟩
theorem xc_X12_guild : Cond.code yX12_guild cX12_guild 3 (some .int) ∈ gT := gT_c8 73 rfl rfl
theorem xi_X12_guild : Cond.instanceMethod yX12_guild ∈ gT ∧ Cond.selects yX12_guild.cls yX12_guild yX12_guild ∈ gT := ⟨gT_c8 71 rfl rfl, gT_c8 72 rfl rfl⟩
theorem xd_X12_guild : yX12_guild.cls ≠ "java/lang/invoke/MethodHandle" ∧ yX12_guild.cls ≠ "java/lang/invoke/VarHandle" ∧ (parseMethodDescriptor yX12_guild.desc).map (fun d => d.parameters.length) = some 2 := by decide +kernel
theorem xv_L_140 : gWV RL 140 yX12_guild cX12_guild 3 (some .int) 2 := ⟨gT_c8 70 rfl rfl, xi_X12_guild.1, xi_X12_guild.2, xini_X12, xc_X12_guild, xd_X12_guild⟩
theorem xc_X11_hours : Cond.code yX11_hours cX11_hours 4 (some .int) ∈ gT := gT_c2 204 rfl rfl
theorem xi_X11_hours : Cond.instanceMethod yX11_hours ∈ gT ∧ Cond.selects yX11_hours.cls yX11_hours yX11_hours ∈ gT := ⟨gT_c2 202 rfl rfl, gT_c2 203 rfl rfl⟩
theorem xd_X11_hours : yX11_hours.cls ≠ "java/lang/invoke/MethodHandle" ∧ yX11_hours.cls ≠ "java/lang/invoke/VarHandle" ∧ (parseMethodDescriptor yX11_hours.desc).map (fun d => d.parameters.length) = some 1 := by decide +kernel
theorem xv_L_141 : gWV RL 141 yX11_hours cX11_hours 4 (some .int) 1 := ⟨gT_c2 201 rfl rfl, xi_X11_hours.1, xi_X11_hours.2, xini_X11, xc_X11_hours, xd_X11_hours⟩
theorem xc_X12_hours : Cond.code yX12_hours cX12_hours 2 (some .int) ∈ gT := gT_c8 97 rfl rfl
theorem xi_X12_hours : Cond.instanceMethod yX12_hours ∈ gT ∧ Cond.selects yX12_hours.cls yX12_hours yX12_hours ∈ gT := ⟨gT_c8 95 rfl rfl, gT_c8 96 rfl rfl⟩
theorem xd_X12_hours : yX12_hours.cls ≠ "java/lang/invoke/MethodHandle" ∧ yX12_hours.cls ≠ "java/lang/invoke/VarHandle" ∧ (parseMethodDescriptor yX12_hours.desc).map (fun d => d.parameters.length) = some 1 := by decide +kernel
theorem xv_L_144 : gWV RL 144 yX12_hours cX12_hours 2 (some .int) 1 := ⟨gT_c8 94 rfl rfl, xi_X12_hours.1, xi_X12_hours.2, xini_X12, xc_X12_hours, xd_X12_hours⟩
theorem lw_hire : Cond.methodLink RL 145 yL_hire ∈ gT ∧ Cond.static yL_hire ∈ gT ∧ Cond.initialized RL ∈ gT ∧ Cond.codeWith yL_hire cL_hire 5 (some .int) [(0, 17, 20, 18)] ∈ gT ∧ (yL_hire.cls ≠ "java/lang/invoke/MethodHandle" ∧ yL_hire.cls ≠ "java/lang/invoke/VarHandle" ∧ (parseMethodDescriptor yL_hire.desc).map (fun d => d.parameters.length) = some 4) := ⟨gT_c5 41 rfl rfl, gT_c5 42 rfl rfl, xini_L, gT_c5 43 rfl rfl, by decide +kernel⟩
theorem xc_X12_hire : Cond.code yX12_hire cX12_hire 3 (some .boolean) ∈ gT := gT_c8 126 rfl rfl
theorem xi_X12_hire : Cond.instanceMethod yX12_hire ∈ gT ∧ Cond.selects yX12_hire.cls yX12_hire yX12_hire ∈ gT := ⟨gT_c8 124 rfl rfl, gT_c8 125 rfl rfl⟩
theorem xd_X12_hire : yX12_hire.cls ≠ "java/lang/invoke/MethodHandle" ∧ yX12_hire.cls ≠ "java/lang/invoke/VarHandle" ∧ (parseMethodDescriptor yX12_hire.desc).map (fun d => d.parameters.length) = some 2 := by decide +kernel
theorem xv_L_147 : gWV RL 147 yX12_hire cX12_hire 3 (some .boolean) 2 := ⟨gT_c8 123 rfl rfl, xi_X12_hire.1, xi_X12_hire.2, xini_X12, xc_X12_hire, xd_X12_hire⟩
theorem lw_dismiss : Cond.methodLink RL 148 yL_dismiss ∈ gT ∧ Cond.static yL_dismiss ∈ gT ∧ Cond.initialized RL ∈ gT ∧ Cond.codeWith yL_dismiss cL_dismiss 4 (some .int) [(0, 9, 12, 18)] ∈ gT ∧ (yL_dismiss.cls ≠ "java/lang/invoke/MethodHandle" ∧ yL_dismiss.cls ≠ "java/lang/invoke/VarHandle" ∧ (parseMethodDescriptor yL_dismiss.desc).map (fun d => d.parameters.length) = some 3) := ⟨gT_c5 48 rfl rfl, gT_c5 49 rfl rfl, xini_L, gT_c5 50 rfl rfl, by decide +kernel⟩
theorem xc_X12_dismiss : Cond.code yX12_dismiss cX12_dismiss 3 (some .int) ∈ gT := gT_c8 138 rfl rfl
theorem xi_X12_dismiss : Cond.instanceMethod yX12_dismiss ∈ gT ∧ Cond.selects yX12_dismiss.cls yX12_dismiss yX12_dismiss ∈ gT := ⟨gT_c8 136 rfl rfl, gT_c8 137 rfl rfl⟩
theorem xd_X12_dismiss : yX12_dismiss.cls ≠ "java/lang/invoke/MethodHandle" ∧ yX12_dismiss.cls ≠ "java/lang/invoke/VarHandle" ∧ (parseMethodDescriptor yX12_dismiss.desc).map (fun d => d.parameters.length) = some 1 := by decide +kernel
theorem xv_L_150 : gWV RL 150 yX12_dismiss cX12_dismiss 3 (some .int) 1 := ⟨gT_c8 135 rfl rfl, xi_X12_dismiss.1, xi_X12_dismiss.2, xini_X12, xc_X12_dismiss, xd_X12_dismiss⟩
theorem lw_confess : Cond.methodLink RL 151 yL_confess ∈ gT ∧ Cond.static yL_confess ∈ gT ∧ Cond.initialized RL ∈ gT ∧ Cond.codeWith yL_confess cL_confess 4 (some .int) [(0, 9, 12, 18)] ∈ gT ∧ (yL_confess.cls ≠ "java/lang/invoke/MethodHandle" ∧ yL_confess.cls ≠ "java/lang/invoke/VarHandle" ∧ (parseMethodDescriptor yL_confess.desc).map (fun d => d.parameters.length) = some 3) := ⟨gT_c5 55 rfl rfl, gT_c5 56 rfl rfl, xini_L, gT_c5 57 rfl rfl, by decide +kernel⟩
theorem xc_X12_confess : Cond.code yX12_confess cX12_confess 2 (some .int) ∈ gT := gT_c8 142 rfl rfl
theorem xi_X12_confess : Cond.instanceMethod yX12_confess ∈ gT ∧ Cond.selects yX12_confess.cls yX12_confess yX12_confess ∈ gT := ⟨gT_c8 140 rfl rfl, gT_c8 141 rfl rfl⟩
theorem xd_X12_confess : yX12_confess.cls ≠ "java/lang/invoke/MethodHandle" ∧ yX12_confess.cls ≠ "java/lang/invoke/VarHandle" ∧ (parseMethodDescriptor yX12_confess.desc).map (fun d => d.parameters.length) = some 1 := by decide +kernel
theorem xv_L_153 : gWV RL 153 yX12_confess cX12_confess 2 (some .int) 1 := ⟨gT_c8 139 rfl rfl, xi_X12_confess.1, xi_X12_confess.2, xini_X12, xc_X12_confess, xd_X12_confess⟩
theorem lw_drain : Cond.methodLink RL 154 yL_drain ∈ gT ∧ Cond.static yL_drain ∈ gT ∧ Cond.initialized RL ∈ gT ∧ Cond.codeWith yL_drain cL_drain 5 (some .int) [(0, 17, 20, 18)] ∈ gT ∧ (yL_drain.cls ≠ "java/lang/invoke/MethodHandle" ∧ yL_drain.cls ≠ "java/lang/invoke/VarHandle" ∧ (parseMethodDescriptor yL_drain.desc).map (fun d => d.parameters.length) = some 4) := ⟨gT_c5 62 rfl rfl, gT_c5 63 rfl rfl, xini_L, gT_c5 64 rfl rfl, by decide +kernel⟩
theorem xc_X12_drain : Cond.code yX12_drain cX12_drain 3 (some .boolean) ∈ gT := gT_c8 154 rfl rfl
theorem xi_X12_drain : Cond.instanceMethod yX12_drain ∈ gT ∧ Cond.selects yX12_drain.cls yX12_drain yX12_drain ∈ gT := ⟨gT_c8 152 rfl rfl, gT_c8 153 rfl rfl⟩
theorem xd_X12_drain : yX12_drain.cls ≠ "java/lang/invoke/MethodHandle" ∧ yX12_drain.cls ≠ "java/lang/invoke/VarHandle" ∧ (parseMethodDescriptor yX12_drain.desc).map (fun d => d.parameters.length) = some 2 := by decide +kernel
theorem xv_L_157 : gWV RL 157 yX12_drain cX12_drain 3 (some .boolean) 2 := ⟨gT_c8 151 rfl rfl, xi_X12_drain.1, xi_X12_drain.2, xini_X12, xc_X12_drain, xd_X12_drain⟩
theorem lw_give : Cond.methodLink RL 158 yL_give ∈ gT ∧ Cond.static yL_give ∈ gT ∧ Cond.initialized RL ∈ gT ∧ Cond.codeWith yL_give cL_give 5 (some .int) [(0, 10, 13, 18)] ∈ gT ∧ (yL_give.cls ≠ "java/lang/invoke/MethodHandle" ∧ yL_give.cls ≠ "java/lang/invoke/VarHandle" ∧ (parseMethodDescriptor yL_give.desc).map (fun d => d.parameters.length) = some 4) := ⟨gT_c5 73 rfl rfl, gT_c5 74 rfl rfl, xini_L, gT_c5 75 rfl rfl, by decide +kernel⟩
theorem xc_X12_give : Cond.code yX12_give cX12_give 3 (some .int) ∈ gT := gT_c8 158 rfl rfl
theorem xi_X12_give : Cond.instanceMethod yX12_give ∈ gT ∧ Cond.selects yX12_give.cls yX12_give yX12_give ∈ gT := ⟨gT_c8 156 rfl rfl, gT_c8 157 rfl rfl⟩
theorem xd_X12_give : yX12_give.cls ≠ "java/lang/invoke/MethodHandle" ∧ yX12_give.cls ≠ "java/lang/invoke/VarHandle" ∧ (parseMethodDescriptor yX12_give.desc).map (fun d => d.parameters.length) = some 2 := by decide +kernel
theorem xv_L_160 : gWV RL 160 yX12_give cX12_give 3 (some .int) 2 := ⟨gT_c8 155 rfl rfl, xi_X12_give.1, xi_X12_give.2, xini_X12, xc_X12_give, xd_X12_give⟩
theorem xc_X11_undo : Cond.code yX11_undo cX11_undo 1 (some .int) ∈ gT := gT_c3 68 rfl rfl
theorem xi_X11_undo : Cond.instanceMethod yX11_undo ∈ gT ∧ Cond.selects yX11_undo.cls yX11_undo yX11_undo ∈ gT := ⟨gT_c3 66 rfl rfl, gT_c3 67 rfl rfl⟩
theorem xd_X11_undo : yX11_undo.cls ≠ "java/lang/invoke/MethodHandle" ∧ yX11_undo.cls ≠ "java/lang/invoke/VarHandle" ∧ (parseMethodDescriptor yX11_undo.desc).map (fun d => d.parameters.length) = some 0 := by decide +kernel
theorem xv_L_161 : gWV RL 161 yX11_undo cX11_undo 1 (some .int) 0 := ⟨gT_c3 65 rfl rfl, xi_X11_undo.1, xi_X11_undo.2, xini_X11, xc_X11_undo, xd_X11_undo⟩
theorem xc_X12_undo : Cond.code yX12_undo cX12_undo 1 (some .int) ∈ gT := gT_c8 163 rfl rfl
theorem xi_X12_undo : Cond.instanceMethod yX12_undo ∈ gT ∧ Cond.selects yX12_undo.cls yX12_undo yX12_undo ∈ gT := ⟨gT_c8 161 rfl rfl, gT_c8 162 rfl rfl⟩
theorem xd_X12_undo : yX12_undo.cls ≠ "java/lang/invoke/MethodHandle" ∧ yX12_undo.cls ≠ "java/lang/invoke/VarHandle" ∧ (parseMethodDescriptor yX12_undo.desc).map (fun d => d.parameters.length) = some 0 := by decide +kernel
theorem xv_L_164 : gWV RL 164 yX12_undo cX12_undo 1 (some .int) 0 := ⟨gT_c8 160 rfl rfl, xi_X12_undo.1, xi_X12_undo.2, xini_X12, xc_X12_undo, xd_X12_undo⟩
theorem lw_then : Cond.methodLink RL 165 yL_then ∈ gT ∧ Cond.static yL_then ∈ gT ∧ Cond.initialized RL ∈ gT ∧ Cond.codeWith yL_then cL_then 6 (some .int) [(0, 12, 15, 18), (0, 12, 19, 13)] ∈ gT ∧ (yL_then.cls ≠ "java/lang/invoke/MethodHandle" ∧ yL_then.cls ≠ "java/lang/invoke/VarHandle" ∧ (parseMethodDescriptor yL_then.desc).map (fun d => d.parameters.length) = some 5) := ⟨gT_c5 85 rfl rfl, gT_c5 86 rfl rfl, xini_L, gT_c5 87 rfl rfl, by decide +kernel⟩
theorem xc_X12_then : Cond.code yX12_then cX12_then 5 (some .int) ∈ gT := gT_c8 167 rfl rfl
theorem xi_X12_then : Cond.instanceMethod yX12_then ∈ gT ∧ Cond.selects yX12_then.cls yX12_then yX12_then ∈ gT := ⟨gT_c8 165 rfl rfl, gT_c8 166 rfl rfl⟩
theorem xd_X12_then : yX12_then.cls ≠ "java/lang/invoke/MethodHandle" ∧ yX12_then.cls ≠ "java/lang/invoke/VarHandle" ∧ (parseMethodDescriptor yX12_then.desc).map (fun d => d.parameters.length) = some 3 := by decide +kernel
theorem xv_L_168 : gWV RL 168 yX12_then cX12_then 5 (some .int) 3 := ⟨gT_c8 164 rfl rfl, xi_X12_then.1, xi_X12_then.2, xini_X12, xc_X12_then, xd_X12_then⟩
theorem lw_dripping : Cond.methodLink RL 169 yL_dripping ∈ gT ∧ Cond.static yL_dripping ∈ gT ∧ Cond.initialized RL ∈ gT ∧ Cond.codeWith yL_dripping cL_dripping 4 (some .int) [(0, 9, 12, 13)] ∈ gT ∧ (yL_dripping.cls ≠ "java/lang/invoke/MethodHandle" ∧ yL_dripping.cls ≠ "java/lang/invoke/VarHandle" ∧ (parseMethodDescriptor yL_dripping.desc).map (fun d => d.parameters.length) = some 3) := ⟨gT_c5 105 rfl rfl, gT_c5 106 rfl rfl, xini_L, gT_c5 107 rfl rfl, by decide +kernel⟩
theorem xc_X12_dripping : Cond.code yX12_dripping cX12_dripping 3 (some .int) ∈ gT := gT_c8 173 rfl rfl
theorem xi_X12_dripping : Cond.instanceMethod yX12_dripping ∈ gT ∧ Cond.selects yX12_dripping.cls yX12_dripping yX12_dripping ∈ gT := ⟨gT_c8 171 rfl rfl, gT_c8 172 rfl rfl⟩
theorem xd_X12_dripping : yX12_dripping.cls ≠ "java/lang/invoke/MethodHandle" ∧ yX12_dripping.cls ≠ "java/lang/invoke/VarHandle" ∧ (parseMethodDescriptor yX12_dripping.desc).map (fun d => d.parameters.length) = some 1 := by decide +kernel
theorem xv_L_171 : gWV RL 171 yX12_dripping cX12_dripping 3 (some .int) 1 := ⟨gT_c8 170 rfl rfl, xi_X12_dripping.1, xi_X12_dripping.2, xini_X12, xc_X12_dripping, xd_X12_dripping⟩
theorem lw_first : Cond.methodLink RL 172 yL_first ∈ gT ∧ Cond.static yL_first ∈ gT ∧ Cond.initialized RL ∈ gT ∧ Cond.codeWith yL_first cL_first 4 (some .int) [(0, 9, 12, 18)] ∈ gT ∧ (yL_first.cls ≠ "java/lang/invoke/MethodHandle" ∧ yL_first.cls ≠ "java/lang/invoke/VarHandle" ∧ (parseMethodDescriptor yL_first.desc).map (fun d => d.parameters.length) = some 3) := ⟨gT_c5 116 rfl rfl, gT_c5 117 rfl rfl, xini_L, gT_c5 118 rfl rfl, by decide +kernel⟩
theorem xc_X12_first : Cond.code yX12_first cX12_first 4 (some .int) ∈ gT := gT_c8 177 rfl rfl
theorem xi_X12_first : Cond.instanceMethod yX12_first ∈ gT ∧ Cond.selects yX12_first.cls yX12_first yX12_first ∈ gT := ⟨gT_c8 175 rfl rfl, gT_c8 176 rfl rfl⟩
theorem xd_X12_first : yX12_first.cls ≠ "java/lang/invoke/MethodHandle" ∧ yX12_first.cls ≠ "java/lang/invoke/VarHandle" ∧ (parseMethodDescriptor yX12_first.desc).map (fun d => d.parameters.length) = some 1 := by decide +kernel
theorem xv_L_174 : gWV RL 174 yX12_first cX12_first 4 (some .int) 1 := ⟨gT_c8 174 rfl rfl, xi_X12_first.1, xi_X12_first.2, xini_X12, xc_X12_first, xd_X12_first⟩
theorem lw_dismissed : Cond.methodLink RL 175 yL_dismissed ∈ gT ∧ Cond.static yL_dismissed ∈ gT ∧ Cond.initialized RL ∈ gT ∧ Cond.codeWith yL_dismissed cL_dismissed 4 (some .int) [(0, 9, 12, 18)] ∈ gT ∧ (yL_dismissed.cls ≠ "java/lang/invoke/MethodHandle" ∧ yL_dismissed.cls ≠ "java/lang/invoke/VarHandle" ∧ (parseMethodDescriptor yL_dismissed.desc).map (fun d => d.parameters.length) = some 3) := ⟨gT_c5 123 rfl rfl, gT_c5 124 rfl rfl, xini_L, gT_c5 125 rfl rfl, by decide +kernel⟩
theorem xc_X12_dismissed : Cond.code yX12_dismissed cX12_dismissed 4 (some .int) ∈ gT := gT_c8 181 rfl rfl
theorem xi_X12_dismissed : Cond.instanceMethod yX12_dismissed ∈ gT ∧ Cond.selects yX12_dismissed.cls yX12_dismissed yX12_dismissed ∈ gT := ⟨gT_c8 179 rfl rfl, gT_c8 180 rfl rfl⟩
theorem xd_X12_dismissed : yX12_dismissed.cls ≠ "java/lang/invoke/MethodHandle" ∧ yX12_dismissed.cls ≠ "java/lang/invoke/VarHandle" ∧ (parseMethodDescriptor yX12_dismissed.desc).map (fun d => d.parameters.length) = some 1 := by decide +kernel
theorem xv_L_177 : gWV RL 177 yX12_dismissed cX12_dismissed 4 (some .int) 1 := ⟨gT_c8 178 rfl rfl, xi_X12_dismissed.1, xi_X12_dismissed.2, xini_X12, xc_X12_dismissed, xd_X12_dismissed⟩
theorem lw_most : Cond.methodLink RL 178 yL_most ∈ gT ∧ Cond.static yL_most ∈ gT ∧ Cond.initialized RL ∈ gT ∧ Cond.codeWith yL_most cL_most 5 (some .int) [(0, 10, 13, 18), (0, 10, 17, 13)] ∈ gT ∧ (yL_most.cls ≠ "java/lang/invoke/MethodHandle" ∧ yL_most.cls ≠ "java/lang/invoke/VarHandle" ∧ (parseMethodDescriptor yL_most.desc).map (fun d => d.parameters.length) = some 4) := ⟨gT_c5 130 rfl rfl, gT_c5 131 rfl rfl, xini_L, gT_c5 132 rfl rfl, by decide +kernel⟩
theorem xc_X12_most : Cond.code yX12_most cX12_most 4 (some .int) ∈ gT := gT_c8 185 rfl rfl
theorem xi_X12_most : Cond.instanceMethod yX12_most ∈ gT ∧ Cond.selects yX12_most.cls yX12_most yX12_most ∈ gT := ⟨gT_c8 183 rfl rfl, gT_c8 184 rfl rfl⟩
theorem xd_X12_most : yX12_most.cls ≠ "java/lang/invoke/MethodHandle" ∧ yX12_most.cls ≠ "java/lang/invoke/VarHandle" ∧ (parseMethodDescriptor yX12_most.desc).map (fun d => d.parameters.length) = some 2 := by decide +kernel
theorem xv_L_180 : gWV RL 180 yX12_most cX12_most 4 (some .int) 2 := ⟨gT_c8 182 rfl rfl, xi_X12_most.1, xi_X12_most.2, xini_X12, xc_X12_most, xd_X12_most⟩
theorem lw_hush : Cond.methodLink RL 181 yL_hush ∈ gT ∧ Cond.static yL_hush ∈ gT ∧ Cond.initialized RL ∈ gT ∧ Cond.codeWith yL_hush cL_hush 4 (some .int) [(0, 9, 12, 13)] ∈ gT ∧ (yL_hush.cls ≠ "java/lang/invoke/MethodHandle" ∧ yL_hush.cls ≠ "java/lang/invoke/VarHandle" ∧ (parseMethodDescriptor yL_hush.desc).map (fun d => d.parameters.length) = some 3) := ⟨gT_c5 137 rfl rfl, gT_c5 138 rfl rfl, xini_L, gT_c5 139 rfl rfl, by decide +kernel⟩
theorem xc_X12_hush : Cond.code yX12_hush cX12_hush 5 (some .int) ∈ gT := gT_c8 193 rfl rfl
theorem xi_X12_hush : Cond.instanceMethod yX12_hush ∈ gT ∧ Cond.selects yX12_hush.cls yX12_hush yX12_hush ∈ gT := ⟨gT_c8 191 rfl rfl, gT_c8 192 rfl rfl⟩
theorem xd_X12_hush : yX12_hush.cls ≠ "java/lang/invoke/MethodHandle" ∧ yX12_hush.cls ≠ "java/lang/invoke/VarHandle" ∧ (parseMethodDescriptor yX12_hush.desc).map (fun d => d.parameters.length) = some 1 := by decide +kernel
theorem xv_L_183 : gWV RL 183 yX12_hush cX12_hush 5 (some .int) 1 := ⟨gT_c8 190 rfl rfl, xi_X12_hush.1, xi_X12_hush.2, xini_X12, xc_X12_hush, xd_X12_hush⟩
theorem lw_chorus : Cond.methodLink RL 184 yL_chorus ∈ gT ∧ Cond.static yL_chorus ∈ gT ∧ Cond.initialized RL ∈ gT ∧ Cond.codeWith yL_chorus cL_chorus 4 (some .int) [(0, 9, 12, 13)] ∈ gT ∧ (yL_chorus.cls ≠ "java/lang/invoke/MethodHandle" ∧ yL_chorus.cls ≠ "java/lang/invoke/VarHandle" ∧ (parseMethodDescriptor yL_chorus.desc).map (fun d => d.parameters.length) = some 3) := ⟨gT_c5 145 rfl rfl, gT_c5 146 rfl rfl, xini_L, gT_c5 147 rfl rfl, by decide +kernel⟩
theorem xc_X12_chorus : Cond.code yX12_chorus cX12_chorus 6 (some .int) ∈ gT := gT_c8 197 rfl rfl
theorem xi_X12_chorus : Cond.instanceMethod yX12_chorus ∈ gT ∧ Cond.selects yX12_chorus.cls yX12_chorus yX12_chorus ∈ gT := ⟨gT_c8 195 rfl rfl, gT_c8 196 rfl rfl⟩
theorem xd_X12_chorus : yX12_chorus.cls ≠ "java/lang/invoke/MethodHandle" ∧ yX12_chorus.cls ≠ "java/lang/invoke/VarHandle" ∧ (parseMethodDescriptor yX12_chorus.desc).map (fun d => d.parameters.length) = some 1 := by decide +kernel
theorem xv_L_186 : gWV RL 186 yX12_chorus cX12_chorus 6 (some .int) 1 := ⟨gT_c8 194 rfl rfl, xi_X12_chorus.1, xi_X12_chorus.2, xini_X12, xc_X12_chorus, xd_X12_chorus⟩
theorem lw_together : Cond.methodLink RL 187 yL_together ∈ gT ∧ Cond.static yL_together ∈ gT ∧ Cond.initialized RL ∈ gT ∧ Cond.codeWith yL_together cL_together 4 (some .int) [(0, 9, 12, 13)] ∈ gT ∧ (yL_together.cls ≠ "java/lang/invoke/MethodHandle" ∧ yL_together.cls ≠ "java/lang/invoke/VarHandle" ∧ (parseMethodDescriptor yL_together.desc).map (fun d => d.parameters.length) = some 3) := ⟨gT_c5 158 rfl rfl, gT_c5 159 rfl rfl, xini_L, gT_c5 160 rfl rfl, by decide +kernel⟩
theorem xc_X12_together : Cond.code yX12_together cX12_together 5 (some .int) ∈ gT := gT_c8 208 rfl rfl
theorem xi_X12_together : Cond.instanceMethod yX12_together ∈ gT ∧ Cond.selects yX12_together.cls yX12_together yX12_together ∈ gT := ⟨gT_c8 206 rfl rfl, gT_c8 207 rfl rfl⟩
theorem xd_X12_together : yX12_together.cls ≠ "java/lang/invoke/MethodHandle" ∧ yX12_together.cls ≠ "java/lang/invoke/VarHandle" ∧ (parseMethodDescriptor yX12_together.desc).map (fun d => d.parameters.length) = some 1 := by decide +kernel
theorem xv_L_189 : gWV RL 189 yX12_together cX12_together 5 (some .int) 1 := ⟨gT_c8 205 rfl rfl, xi_X12_together.1, xi_X12_together.2, xini_X12, xc_X12_together, xd_X12_together⟩
theorem lw_rhythm : Cond.methodLink RL 190 yL_rhythm ∈ gT ∧ Cond.static yL_rhythm ∈ gT ∧ Cond.initialized RL ∈ gT ∧ Cond.codeWith yL_rhythm cL_rhythm 4 (some .int) [(0, 9, 12, 13)] ∈ gT ∧ (yL_rhythm.cls ≠ "java/lang/invoke/MethodHandle" ∧ yL_rhythm.cls ≠ "java/lang/invoke/VarHandle" ∧ (parseMethodDescriptor yL_rhythm.desc).map (fun d => d.parameters.length) = some 3) := ⟨gT_c5 179 rfl rfl, gT_c5 180 rfl rfl, xini_L, gT_c5 181 rfl rfl, by decide +kernel⟩
theorem xc_X12_rhythm : Cond.code yX12_rhythm cX12_rhythm 5 (some .int) ∈ gT := gT_c8 216 rfl rfl
theorem xi_X12_rhythm : Cond.instanceMethod yX12_rhythm ∈ gT ∧ Cond.selects yX12_rhythm.cls yX12_rhythm yX12_rhythm ∈ gT := ⟨gT_c8 214 rfl rfl, gT_c8 215 rfl rfl⟩
theorem xd_X12_rhythm : yX12_rhythm.cls ≠ "java/lang/invoke/MethodHandle" ∧ yX12_rhythm.cls ≠ "java/lang/invoke/VarHandle" ∧ (parseMethodDescriptor yX12_rhythm.desc).map (fun d => d.parameters.length) = some 1 := by decide +kernel
theorem xv_L_192 : gWV RL 192 yX12_rhythm cX12_rhythm 5 (some .int) 1 := ⟨gT_c8 213 rfl rfl, xi_X12_rhythm.1, xi_X12_rhythm.2, xini_X12, xc_X12_rhythm, xd_X12_rhythm⟩
theorem lw_often : Cond.methodLink RL 193 yL_often ∈ gT ∧ Cond.static yL_often ∈ gT ∧ Cond.initialized RL ∈ gT ∧ Cond.codeWith yL_often cL_often 5 (some .int) [(0, 10, 13, 18), (0, 10, 17, 13)] ∈ gT ∧ (yL_often.cls ≠ "java/lang/invoke/MethodHandle" ∧ yL_often.cls ≠ "java/lang/invoke/VarHandle" ∧ (parseMethodDescriptor yL_often.desc).map (fun d => d.parameters.length) = some 4) := ⟨gT_c5 186 rfl rfl, gT_c5 187 rfl rfl, xini_L, gT_c5 188 rfl rfl, by decide +kernel⟩
theorem xc_X12_often : Cond.code yX12_often cX12_often 5 (some .int) ∈ gT := gT_c8 204 rfl rfl
theorem xi_X12_often : Cond.instanceMethod yX12_often ∈ gT ∧ Cond.selects yX12_often.cls yX12_often yX12_often ∈ gT := ⟨gT_c8 202 rfl rfl, gT_c8 203 rfl rfl⟩
theorem xd_X12_often : yX12_often.cls ≠ "java/lang/invoke/MethodHandle" ∧ yX12_often.cls ≠ "java/lang/invoke/VarHandle" ∧ (parseMethodDescriptor yX12_often.desc).map (fun d => d.parameters.length) = some 2 := by decide +kernel
theorem xv_L_195 : gWV RL 195 yX12_often cX12_often 5 (some .int) 2 := ⟨gT_c8 201 rfl rfl, xi_X12_often.1, xi_X12_often.2, xini_X12, xc_X12_often, xd_X12_often⟩
theorem lw_toHire : Cond.methodLink RL 196 yL_toHire ∈ gT ∧ Cond.static yL_toHire ∈ gT ∧ Cond.initialized RL ∈ gT ∧ Cond.codeWith yL_toHire cL_toHire 6 (some .int) [(0, 12, 15, 18), (0, 12, 19, 13)] ∈ gT ∧ (yL_toHire.cls ≠ "java/lang/invoke/MethodHandle" ∧ yL_toHire.cls ≠ "java/lang/invoke/VarHandle" ∧ (parseMethodDescriptor yL_toHire.desc).map (fun d => d.parameters.length) = some 5) := ⟨gT_c5 193 rfl rfl, gT_c5 194 rfl rfl, xini_L, gT_c5 195 rfl rfl, by decide +kernel⟩
theorem xc_X12_toHire : Cond.code yX12_toHire cX12_toHire 9 (some .int) ∈ gT := gT_c8 220 rfl rfl
theorem xi_X12_toHire : Cond.instanceMethod yX12_toHire ∈ gT ∧ Cond.selects yX12_toHire.cls yX12_toHire yX12_toHire ∈ gT := ⟨gT_c8 218 rfl rfl, gT_c8 219 rfl rfl⟩
theorem xd_X12_toHire : yX12_toHire.cls ≠ "java/lang/invoke/MethodHandle" ∧ yX12_toHire.cls ≠ "java/lang/invoke/VarHandle" ∧ (parseMethodDescriptor yX12_toHire.desc).map (fun d => d.parameters.length) = some 3 := by decide +kernel
theorem xv_L_198 : gWV RL 198 yX12_toHire cX12_toHire 9 (some .int) 3 := ⟨gT_c8 217 rfl rfl, xi_X12_toHire.1, xi_X12_toHire.2, xini_X12, xc_X12_toHire, xd_X12_toHire⟩
theorem lw_shared : Cond.methodLink RL 199 yL_shared ∈ gT ∧ Cond.static yL_shared ∈ gT ∧ Cond.initialized RL ∈ gT ∧ Cond.codeWith yL_shared cL_shared 4 (some .int) [(0, 9, 12, 18)] ∈ gT ∧ (yL_shared.cls ≠ "java/lang/invoke/MethodHandle" ∧ yL_shared.cls ≠ "java/lang/invoke/VarHandle" ∧ (parseMethodDescriptor yL_shared.desc).map (fun d => d.parameters.length) = some 3) := ⟨gT_c5 200 rfl rfl, gT_c5 201 rfl rfl, xini_L, gT_c5 202 rfl rfl, by decide +kernel⟩
theorem xc_X12_shared : Cond.code yX12_shared cX12_shared 2 (some .int) ∈ gT := gT_c8 224 rfl rfl
theorem xi_X12_shared : Cond.instanceMethod yX12_shared ∈ gT ∧ Cond.selects yX12_shared.cls yX12_shared yX12_shared ∈ gT := ⟨gT_c8 222 rfl rfl, gT_c8 223 rfl rfl⟩
theorem xd_X12_shared : yX12_shared.cls ≠ "java/lang/invoke/MethodHandle" ∧ yX12_shared.cls ≠ "java/lang/invoke/VarHandle" ∧ (parseMethodDescriptor yX12_shared.desc).map (fun d => d.parameters.length) = some 1 := by decide +kernel
theorem xv_L_201 : gWV RL 201 yX12_shared cX12_shared 2 (some .int) 1 := ⟨gT_c8 221 rfl rfl, xi_X12_shared.1, xi_X12_shared.2, xini_X12, xc_X12_shared, xd_X12_shared⟩
theorem lw_has : Cond.methodLink RL 202 yL_has ∈ gT ∧ Cond.static yL_has ∈ gT ∧ Cond.initialized RL ∈ gT ∧ Cond.codeWith yL_has cL_has 4 (some .int) [(0, 9, 12, 18)] ∈ gT ∧ (yL_has.cls ≠ "java/lang/invoke/MethodHandle" ∧ yL_has.cls ≠ "java/lang/invoke/VarHandle" ∧ (parseMethodDescriptor yL_has.desc).map (fun d => d.parameters.length) = some 3) := ⟨gT_c5 234 rfl rfl, gT_c5 235 rfl rfl, xini_L, gT_c5 236 rfl rfl, by decide +kernel⟩
theorem xc_X12_has : Cond.code yX12_has cX12_has 6 (some .int) ∈ gT := gT_c9 0 rfl rfl
theorem xi_X12_has : Cond.instanceMethod yX12_has ∈ gT ∧ Cond.selects yX12_has.cls yX12_has yX12_has ∈ gT := ⟨gT_c8 238 rfl rfl, gT_c8 239 rfl rfl⟩
theorem xd_X12_has : yX12_has.cls ≠ "java/lang/invoke/MethodHandle" ∧ yX12_has.cls ≠ "java/lang/invoke/VarHandle" ∧ (parseMethodDescriptor yX12_has.desc).map (fun d => d.parameters.length) = some 1 := by decide +kernel
theorem xv_L_204 : gWV RL 204 yX12_has cX12_has 6 (some .int) 1 := ⟨gT_c8 237 rfl rfl, xi_X12_has.1, xi_X12_has.2, xini_X12, xc_X12_has, xd_X12_has⟩
theorem lw_toGive : Cond.methodLink RL 205 yL_toGive ∈ gT ∧ Cond.static yL_toGive ∈ gT ∧ Cond.initialized RL ∈ gT ∧ Cond.codeWith yL_toGive cL_toGive 5 (some .int) [(0, 10, 13, 18), (0, 10, 17, 13)] ∈ gT ∧ (yL_toGive.cls ≠ "java/lang/invoke/MethodHandle" ∧ yL_toGive.cls ≠ "java/lang/invoke/VarHandle" ∧ (parseMethodDescriptor yL_toGive.desc).map (fun d => d.parameters.length) = some 4) := ⟨gT_c6 1 rfl rfl, gT_c6 2 rfl rfl, xini_L, gT_c6 3 rfl rfl, by decide +kernel⟩
theorem xc_X12_toGive : Cond.code yX12_toGive cX12_toGive 6 (some .int) ∈ gT := gT_c9 4 rfl rfl
theorem xi_X12_toGive : Cond.instanceMethod yX12_toGive ∈ gT ∧ Cond.selects yX12_toGive.cls yX12_toGive yX12_toGive ∈ gT := ⟨gT_c9 2 rfl rfl, gT_c9 3 rfl rfl⟩
theorem xd_X12_toGive : yX12_toGive.cls ≠ "java/lang/invoke/MethodHandle" ∧ yX12_toGive.cls ≠ "java/lang/invoke/VarHandle" ∧ (parseMethodDescriptor yX12_toGive.desc).map (fun d => d.parameters.length) = some 2 := by decide +kernel
theorem xv_L_207 : gWV RL 207 yX12_toGive cX12_toGive 6 (some .int) 2 := ⟨gT_c9 1 rfl rfl, xi_X12_toGive.1, xi_X12_toGive.2, xini_X12, xc_X12_toGive, xd_X12_toGive⟩
theorem lw_confessing : Cond.methodLink RL 208 yL_confessing ∈ gT ∧ Cond.static yL_confessing ∈ gT ∧ Cond.initialized RL ∈ gT ∧ Cond.codeWith yL_confessing cL_confessing 5 (some .int) [(0, 10, 13, 18), (0, 10, 17, 13)] ∈ gT ∧ (yL_confessing.cls ≠ "java/lang/invoke/MethodHandle" ∧ yL_confessing.cls ≠ "java/lang/invoke/VarHandle" ∧ (parseMethodDescriptor yL_confessing.desc).map (fun d => d.parameters.length) = some 4) := ⟨gT_c6 24 rfl rfl, gT_c6 25 rfl rfl, xini_L, gT_c6 26 rfl rfl, by decide +kernel⟩
theorem xc_X12_confessing : Cond.code yX12_confessing cX12_confessing 5 (some .int) ∈ gT := gT_c9 8 rfl rfl
theorem xi_X12_confessing : Cond.instanceMethod yX12_confessing ∈ gT ∧ Cond.selects yX12_confessing.cls yX12_confessing yX12_confessing ∈ gT := ⟨gT_c9 6 rfl rfl, gT_c9 7 rfl rfl⟩
theorem xd_X12_confessing : yX12_confessing.cls ≠ "java/lang/invoke/MethodHandle" ∧ yX12_confessing.cls ≠ "java/lang/invoke/VarHandle" ∧ (parseMethodDescriptor yX12_confessing.desc).map (fun d => d.parameters.length) = some 2 := by decide +kernel
theorem xv_L_210 : gWV RL 210 yX12_confessing cX12_confessing 5 (some .int) 2 := ⟨gT_c9 5 rfl rfl, xi_X12_confessing.1, xi_X12_confessing.2, xini_X12, xc_X12_confessing, xd_X12_confessing⟩
theorem lw_see : Cond.methodLink RL 211 yL_see ∈ gT ∧ Cond.static yL_see ∈ gT ∧ Cond.initialized RL ∈ gT ∧ Cond.codeWith yL_see cL_see 6 (some .int) [(0, 12, 15, 18)] ∈ gT ∧ (yL_see.cls ≠ "java/lang/invoke/MethodHandle" ∧ yL_see.cls ≠ "java/lang/invoke/VarHandle" ∧ (parseMethodDescriptor yL_see.desc).map (fun d => d.parameters.length) = some 5) := ⟨gT_c6 35 rfl rfl, gT_c6 36 rfl rfl, xini_L, gT_c6 37 rfl rfl, by decide +kernel⟩
theorem xc_X12_see : Cond.code yX12_see cX12_see 4 (some .int) ∈ gT := gT_c9 12 rfl rfl
theorem xi_X12_see : Cond.instanceMethod yX12_see ∈ gT ∧ Cond.selects yX12_see.cls yX12_see yX12_see ∈ gT := ⟨gT_c9 10 rfl rfl, gT_c9 11 rfl rfl⟩
theorem xd_X12_see : yX12_see.cls ≠ "java/lang/invoke/MethodHandle" ∧ yX12_see.cls ≠ "java/lang/invoke/VarHandle" ∧ (parseMethodDescriptor yX12_see.desc).map (fun d => d.parameters.length) = some 3 := by decide +kernel
theorem xv_L_213 : gWV RL 213 yX12_see cX12_see 4 (some .int) 3 := ⟨gT_c9 9 rfl rfl, xi_X12_see.1, xi_X12_see.2, xini_X12, xc_X12_see, xd_X12_see⟩
theorem lw_greedy : Cond.methodLink RL 214 yL_greedy ∈ gT ∧ Cond.static yL_greedy ∈ gT ∧ Cond.initialized RL ∈ gT ∧ Cond.codeWith yL_greedy cL_greedy 4 (some .int) [(0, 9, 12, 18)] ∈ gT ∧ (yL_greedy.cls ≠ "java/lang/invoke/MethodHandle" ∧ yL_greedy.cls ≠ "java/lang/invoke/VarHandle" ∧ (parseMethodDescriptor yL_greedy.desc).map (fun d => d.parameters.length) = some 3) := ⟨gT_c6 46 rfl rfl, gT_c6 47 rfl rfl, xini_L, gT_c6 48 rfl rfl, by decide +kernel⟩
theorem xc_X12_greedy : Cond.code yX12_greedy cX12_greedy 2 (some .int) ∈ gT := gT_c9 17 rfl rfl
theorem xi_X12_greedy : Cond.instanceMethod yX12_greedy ∈ gT ∧ Cond.selects yX12_greedy.cls yX12_greedy yX12_greedy ∈ gT := ⟨gT_c9 15 rfl rfl, gT_c9 16 rfl rfl⟩
theorem xd_X12_greedy : yX12_greedy.cls ≠ "java/lang/invoke/MethodHandle" ∧ yX12_greedy.cls ≠ "java/lang/invoke/VarHandle" ∧ (parseMethodDescriptor yX12_greedy.desc).map (fun d => d.parameters.length) = some 1 := by decide +kernel
theorem xv_L_216 : gWV RL 216 yX12_greedy cX12_greedy 2 (some .int) 1 := ⟨gT_c9 14 rfl rfl, xi_X12_greedy.1, xi_X12_greedy.2, xini_X12, xc_X12_greedy, xd_X12_greedy⟩
theorem lw_look : Cond.methodLink RL 217 yL_look ∈ gT ∧ Cond.static yL_look ∈ gT ∧ Cond.initialized RL ∈ gT ∧ Cond.codeWith yL_look cL_look 4 (some .int) [(0, 9, 12, 18)] ∈ gT ∧ (yL_look.cls ≠ "java/lang/invoke/MethodHandle" ∧ yL_look.cls ≠ "java/lang/invoke/VarHandle" ∧ (parseMethodDescriptor yL_look.desc).map (fun d => d.parameters.length) = some 3) := ⟨gT_c6 79 rfl rfl, gT_c6 80 rfl rfl, xini_L, gT_c6 81 rfl rfl, by decide +kernel⟩
theorem xc_X12_look : Cond.code yX12_look cX12_look 6 (some .int) ∈ gT := gT_c9 30 rfl rfl
theorem xi_X12_look : Cond.instanceMethod yX12_look ∈ gT ∧ Cond.selects yX12_look.cls yX12_look yX12_look ∈ gT := ⟨gT_c9 28 rfl rfl, gT_c9 29 rfl rfl⟩
theorem xd_X12_look : yX12_look.cls ≠ "java/lang/invoke/MethodHandle" ∧ yX12_look.cls ≠ "java/lang/invoke/VarHandle" ∧ (parseMethodDescriptor yX12_look.desc).map (fun d => d.parameters.length) = some 1 := by decide +kernel
theorem xv_L_219 : gWV RL 219 yX12_look cX12_look 6 (some .int) 1 := ⟨gT_c9 27 rfl rfl, xi_X12_look.1, xi_X12_look.2, xini_X12, xc_X12_look, xd_X12_look⟩
theorem xc_X11_forget : Cond.code yX11_forget cX11_forget 1 none ∈ gT := gT_c3 80 rfl rfl
theorem xi_X11_forget : Cond.instanceMethod yX11_forget ∈ gT ∧ Cond.selects yX11_forget.cls yX11_forget yX11_forget ∈ gT := ⟨gT_c3 78 rfl rfl, gT_c3 79 rfl rfl⟩
theorem xd_X11_forget : yX11_forget.cls ≠ "java/lang/invoke/MethodHandle" ∧ yX11_forget.cls ≠ "java/lang/invoke/VarHandle" ∧ (parseMethodDescriptor yX11_forget.desc).map (fun d => d.parameters.length) = some 0 := by decide +kernel
theorem xv_L_220 : gWV RL 220 yX11_forget cX11_forget 1 none 0 := ⟨gT_c3 77 rfl rfl, xi_X11_forget.1, xi_X11_forget.2, xini_X11, xc_X11_forget, xd_X11_forget⟩
theorem xc_X12_forget : Cond.code yX12_forget cX12_forget 1 none ∈ gT := gT_c9 38 rfl rfl
theorem xi_X12_forget : Cond.instanceMethod yX12_forget ∈ gT ∧ Cond.selects yX12_forget.cls yX12_forget yX12_forget ∈ gT := ⟨gT_c9 36 rfl rfl, gT_c9 37 rfl rfl⟩
theorem xd_X12_forget : yX12_forget.cls ≠ "java/lang/invoke/MethodHandle" ∧ yX12_forget.cls ≠ "java/lang/invoke/VarHandle" ∧ (parseMethodDescriptor yX12_forget.desc).map (fun d => d.parameters.length) = some 0 := by decide +kernel
theorem xv_L_223 : gWV RL 223 yX12_forget cX12_forget 1 none 0 := ⟨gT_c9 35 rfl rfl, xi_X12_forget.1, xi_X12_forget.2, xini_X12, xc_X12_forget, xd_X12_forget⟩
theorem lw_drought : Cond.methodLink RL 224 yL_drought ∈ gT ∧ Cond.static yL_drought ∈ gT ∧ Cond.initialized RL ∈ gT ∧ Cond.codeWith yL_drought cL_drought 6 (some .int) [(0, 12, 15, 18), (0, 12, 19, 13)] ∈ gT ∧ (yL_drought.cls ≠ "java/lang/invoke/MethodHandle" ∧ yL_drought.cls ≠ "java/lang/invoke/VarHandle" ∧ (parseMethodDescriptor yL_drought.desc).map (fun d => d.parameters.length) = some 5) := ⟨gT_c6 96 rfl rfl, gT_c6 97 rfl rfl, xini_L, gT_c6 98 rfl rfl, by decide +kernel⟩
theorem xc_X12_drought : Cond.code yX12_drought cX12_drought 9 (some .int) ∈ gT := gT_c9 42 rfl rfl
theorem xi_X12_drought : Cond.instanceMethod yX12_drought ∈ gT ∧ Cond.selects yX12_drought.cls yX12_drought yX12_drought ∈ gT := ⟨gT_c9 40 rfl rfl, gT_c9 41 rfl rfl⟩
theorem xd_X12_drought : yX12_drought.cls ≠ "java/lang/invoke/MethodHandle" ∧ yX12_drought.cls ≠ "java/lang/invoke/VarHandle" ∧ (parseMethodDescriptor yX12_drought.desc).map (fun d => d.parameters.length) = some 3 := by decide +kernel
theorem xv_L_226 : gWV RL 226 yX12_drought cX12_drought 9 (some .int) 3 := ⟨gT_c9 39 rfl rfl, xi_X12_drought.1, xi_X12_drought.2, xini_X12, xc_X12_drought, xd_X12_drought⟩
theorem lw_game : Cond.methodLink RL 227 yL_game ∈ gT ∧ Cond.static yL_game ∈ gT ∧ Cond.initialized RL ∈ gT ∧ Cond.codeWith yL_game cL_game 6 (some .int) [(0, 12, 15, 18), (0, 12, 19, 13)] ∈ gT ∧ (yL_game.cls ≠ "java/lang/invoke/MethodHandle" ∧ yL_game.cls ≠ "java/lang/invoke/VarHandle" ∧ (parseMethodDescriptor yL_game.desc).map (fun d => d.parameters.length) = some 5) := ⟨gT_c6 103 rfl rfl, gT_c6 104 rfl rfl, xini_L, gT_c6 105 rfl rfl, by decide +kernel⟩
theorem xc_X12_game : Cond.code yX12_game cX12_game 9 (some .int) ∈ gT := gT_c9 48 rfl rfl
theorem xi_X12_game : Cond.instanceMethod yX12_game ∈ gT ∧ Cond.selects yX12_game.cls yX12_game yX12_game ∈ gT := ⟨gT_c9 46 rfl rfl, gT_c9 47 rfl rfl⟩
theorem xd_X12_game : yX12_game.cls ≠ "java/lang/invoke/MethodHandle" ∧ yX12_game.cls ≠ "java/lang/invoke/VarHandle" ∧ (parseMethodDescriptor yX12_game.desc).map (fun d => d.parameters.length) = some 3 := by decide +kernel
theorem xv_L_229 : gWV RL 229 yX12_game cX12_game 9 (some .int) 3 := ⟨gT_c9 45 rfl rfl, xi_X12_game.1, xi_X12_game.2, xini_X12, xc_X12_game, xd_X12_game⟩
theorem lw_years : Cond.methodLink RL 230 yL_years ∈ gT ∧ Cond.static yL_years ∈ gT ∧ Cond.initialized RL ∈ gT ∧ Cond.codeWith yL_years cL_years 6 (some .int) [(0, 12, 15, 18), (0, 12, 19, 13)] ∈ gT ∧ (yL_years.cls ≠ "java/lang/invoke/MethodHandle" ∧ yL_years.cls ≠ "java/lang/invoke/VarHandle" ∧ (parseMethodDescriptor yL_years.desc).map (fun d => d.parameters.length) = some 5) := ⟨gT_c6 127 rfl rfl, gT_c6 128 rfl rfl, xini_L, gT_c6 129 rfl rfl, by decide +kernel⟩
theorem xc_X12_years : Cond.code yX12_years cX12_years 6 (some .int) ∈ gT := gT_c9 56 rfl rfl
theorem xi_X12_years : Cond.instanceMethod yX12_years ∈ gT ∧ Cond.selects yX12_years.cls yX12_years yX12_years ∈ gT := ⟨gT_c9 54 rfl rfl, gT_c9 55 rfl rfl⟩
theorem xd_X12_years : yX12_years.cls ≠ "java/lang/invoke/MethodHandle" ∧ yX12_years.cls ≠ "java/lang/invoke/VarHandle" ∧ (parseMethodDescriptor yX12_years.desc).map (fun d => d.parameters.length) = some 3 := by decide +kernel
theorem xv_L_232 : gWV RL 232 yX12_years cX12_years 6 (some .int) 3 := ⟨gT_c9 53 rfl rfl, xi_X12_years.1, xi_X12_years.2, xini_X12, xc_X12_years, xd_X12_years⟩
theorem xc_X11_image : Cond.code yX11_image cX11_image 1 none ∈ gT := gT_c3 84 rfl rfl
theorem xi_X11_image : Cond.instanceMethod yX11_image ∈ gT ∧ Cond.selects yX11_image.cls yX11_image yX11_image ∈ gT := ⟨gT_c3 82 rfl rfl, gT_c3 83 rfl rfl⟩
theorem xd_X11_image : yX11_image.cls ≠ "java/lang/invoke/MethodHandle" ∧ yX11_image.cls ≠ "java/lang/invoke/VarHandle" ∧ (parseMethodDescriptor yX11_image.desc).map (fun d => d.parameters.length) = some 0 := by decide +kernel
theorem xv_L_233 : gWV RL 233 yX11_image cX11_image 1 none 0 := ⟨gT_c3 81 rfl rfl, xi_X11_image.1, xi_X11_image.2, xini_X11, xc_X11_image, xd_X11_image⟩
theorem xc_X12_image : Cond.code yX12_image cX12_image 1 none ∈ gT := gT_c9 69 rfl rfl
theorem xi_X12_image : Cond.instanceMethod yX12_image ∈ gT ∧ Cond.selects yX12_image.cls yX12_image yX12_image ∈ gT := ⟨gT_c9 67 rfl rfl, gT_c9 68 rfl rfl⟩
theorem xd_X12_image : yX12_image.cls ≠ "java/lang/invoke/MethodHandle" ∧ yX12_image.cls ≠ "java/lang/invoke/VarHandle" ∧ (parseMethodDescriptor yX12_image.desc).map (fun d => d.parameters.length) = some 0 := by decide +kernel
theorem xv_L_236 : gWV RL 236 yX12_image cX12_image 1 none 0 := ⟨gT_c9 66 rfl rfl, xi_X12_image.1, xi_X12_image.2, xini_X12, xc_X12_image, xd_X12_image⟩
theorem xc_X11_restore : Cond.code yX11_restore cX11_restore 1 (some .boolean) ∈ gT := gT_c3 104 rfl rfl
theorem xi_X11_restore : Cond.instanceMethod yX11_restore ∈ gT ∧ Cond.selects yX11_restore.cls yX11_restore yX11_restore ∈ gT := ⟨gT_c3 102 rfl rfl, gT_c3 103 rfl rfl⟩
theorem xd_X11_restore : yX11_restore.cls ≠ "java/lang/invoke/MethodHandle" ∧ yX11_restore.cls ≠ "java/lang/invoke/VarHandle" ∧ (parseMethodDescriptor yX11_restore.desc).map (fun d => d.parameters.length) = some 0 := by decide +kernel
theorem xv_L_237 : gWV RL 237 yX11_restore cX11_restore 1 (some .boolean) 0 := ⟨gT_c3 101 rfl rfl, xi_X11_restore.1, xi_X11_restore.2, xini_X11, xc_X11_restore, xd_X11_restore⟩
theorem xc_X12_restore : Cond.code yX12_restore cX12_restore 1 (some .boolean) ∈ gT := gT_c9 76 rfl rfl
theorem xi_X12_restore : Cond.instanceMethod yX12_restore ∈ gT ∧ Cond.selects yX12_restore.cls yX12_restore yX12_restore ∈ gT := ⟨gT_c9 74 rfl rfl, gT_c9 75 rfl rfl⟩
theorem xd_X12_restore : yX12_restore.cls ≠ "java/lang/invoke/MethodHandle" ∧ yX12_restore.cls ≠ "java/lang/invoke/VarHandle" ∧ (parseMethodDescriptor yX12_restore.desc).map (fun d => d.parameters.length) = some 0 := by decide +kernel
theorem xv_L_241 : gWV RL 241 yX12_restore cX12_restore 1 (some .boolean) 0 := ⟨gT_c9 73 rfl rfl, xi_X12_restore.1, xi_X12_restore.2, xini_X12, xc_X12_restore, xd_X12_restore⟩
theorem lx_13 : Cond.classLink RL 13 (tE 2) ∈ gT := gT_c3 108 rfl rfl
theorem lx_18 : Cond.classLink RL 18 (tE 1) ∈ gT := gT_c4 196 rfl rfl
end

/-! part 20.c0 -/
section
theorem dzL_port_0 : dq_F cL_port [(0, .aload_n 2, 1), (1, .iconst 0, 1), (2, .aload_n 0, 1), (3, .iload_n 1, 1), (4, .invokevirtual 7, 3), (7, .i2l, 1), (8, .lastore, 1), (9, .goto 6, 3), (12, .astore_n 3, 1), (13, .iconst 1, 1), (14, .ireturn, 1), (15, .iconst 0, 1), (16, .ireturn, 1)] := dq_s 13 0 (by decide +kernel)
theorem dL_port_0 : decode cL_port 0 = .ok (.aload_n 2, 1) := dq_h dzL_port_0
theorem dL_port_1 : decode cL_port 1 = .ok (.iconst 0, 1) := dq_h (dq_t dzL_port_0)
theorem dL_port_2 : decode cL_port 2 = .ok (.aload_n 0, 1) := dq_h (dq_t (dq_t dzL_port_0))
theorem dL_port_3 : decode cL_port 3 = .ok (.iload_n 1, 1) := dq_h (dq_t (dq_t (dq_t dzL_port_0)))
theorem dL_port_4 : decode cL_port 4 = .ok (.invokevirtual 7, 3) := dq_h (dq_t (dq_t (dq_t (dq_t dzL_port_0))))
theorem dL_port_7 : decode cL_port 7 = .ok (.i2l, 1) := dq_h (dq_t (dq_t (dq_t (dq_t (dq_t dzL_port_0)))))
theorem dL_port_8 : decode cL_port 8 = .ok (.lastore, 1) := dq_h (dq_t (dq_t (dq_t (dq_t (dq_t (dq_t dzL_port_0))))))
theorem dL_port_9 : decode cL_port 9 = .ok (.goto 6, 3) := dq_h (dq_t (dq_t (dq_t (dq_t (dq_t (dq_t (dq_t dzL_port_0)))))))
theorem dL_port_12 : decode cL_port 12 = .ok (.astore_n 3, 1) := dq_h (dq_t (dq_t (dq_t (dq_t (dq_t (dq_t (dq_t (dq_t dzL_port_0))))))))
theorem dL_port_13 : decode cL_port 13 = .ok (.iconst 1, 1) := dq_h (dq_t (dq_t (dq_t (dq_t (dq_t (dq_t (dq_t (dq_t (dq_t dzL_port_0)))))))))
theorem dL_port_14 : decode cL_port 14 = .ok (.ireturn, 1) := dq_h (dq_t (dq_t (dq_t (dq_t (dq_t (dq_t (dq_t (dq_t (dq_t (dq_t dzL_port_0))))))))))
theorem dL_port_15 : decode cL_port 15 = .ok (.iconst 0, 1) := dq_h (dq_t (dq_t (dq_t (dq_t (dq_t (dq_t (dq_t (dq_t (dq_t (dq_t (dq_t dzL_port_0)))))))))))
theorem dL_port_16 : decode cL_port 16 = .ok (.ireturn, 1) := dq_h (dq_t (dq_t (dq_t (dq_t (dq_t (dq_t (dq_t (dq_t (dq_t (dq_t (dq_t (dq_t dzL_port_0))))))))))))
theorem dzL_count_0 : dq_F cL_count [(0, .aload_n 2, 1), (1, .iconst 0, 1), (2, .aload_n 0, 1), (3, .iload_n 1, 1), (4, .invokevirtual 15, 3), (7, .i2l, 1), (8, .lastore, 1), (9, .goto 6, 3), (12, .astore_n 3, 1), (13, .iconst 1, 1), (14, .ireturn, 1), (15, .iconst 0, 1), (16, .ireturn, 1)] := dq_s 13 0 (by decide +kernel)
theorem dL_count_0 : decode cL_count 0 = .ok (.aload_n 2, 1) := dq_h dzL_count_0
theorem dL_count_1 : decode cL_count 1 = .ok (.iconst 0, 1) := dq_h (dq_t dzL_count_0)
theorem dL_count_2 : decode cL_count 2 = .ok (.aload_n 0, 1) := dq_h (dq_t (dq_t dzL_count_0))
theorem dL_count_3 : decode cL_count 3 = .ok (.iload_n 1, 1) := dq_h (dq_t (dq_t (dq_t dzL_count_0)))
theorem dL_count_4 : decode cL_count 4 = .ok (.invokevirtual 15, 3) := dq_h (dq_t (dq_t (dq_t (dq_t dzL_count_0))))
theorem dL_count_7 : decode cL_count 7 = .ok (.i2l, 1) := dq_h (dq_t (dq_t (dq_t (dq_t (dq_t dzL_count_0)))))
theorem dL_count_8 : decode cL_count 8 = .ok (.lastore, 1) := dq_h (dq_t (dq_t (dq_t (dq_t (dq_t (dq_t dzL_count_0))))))
theorem dL_count_9 : decode cL_count 9 = .ok (.goto 6, 3) := dq_h (dq_t (dq_t (dq_t (dq_t (dq_t (dq_t (dq_t dzL_count_0)))))))
theorem dL_count_12 : decode cL_count 12 = .ok (.astore_n 3, 1) := dq_h (dq_t (dq_t (dq_t (dq_t (dq_t (dq_t (dq_t (dq_t dzL_count_0))))))))
theorem dL_count_13 : decode cL_count 13 = .ok (.iconst 1, 1) := dq_h (dq_t (dq_t (dq_t (dq_t (dq_t (dq_t (dq_t (dq_t (dq_t dzL_count_0)))))))))
theorem dL_count_14 : decode cL_count 14 = .ok (.ireturn, 1) := dq_h (dq_t (dq_t (dq_t (dq_t (dq_t (dq_t (dq_t (dq_t (dq_t (dq_t dzL_count_0))))))))))
theorem dL_count_15 : decode cL_count 15 = .ok (.iconst 0, 1) := dq_h (dq_t (dq_t (dq_t (dq_t (dq_t (dq_t (dq_t (dq_t (dq_t (dq_t (dq_t dzL_count_0)))))))))))
theorem dL_count_16 : decode cL_count 16 = .ok (.ireturn, 1) := dq_h (dq_t (dq_t (dq_t (dq_t (dq_t (dq_t (dq_t (dq_t (dq_t (dq_t (dq_t (dq_t dzL_count_0))))))))))))
theorem dzL_grotto_0 : dq_F cL_grotto [(0, .aload_n 3, 1), (1, .iconst 0, 1), (2, .aload_n 0, 1), (3, .iload_n 1, 1), (4, .iload_n 2, 1), (5, .invokevirtual 20, 3), (8, .i2l, 1), (9, .lastore, 1), (10, .goto 7, 3), (13, .astore 4, 2), (15, .iconst 1, 1), (16, .ireturn, 1), (17, .iconst 0, 1), (18, .ireturn, 1)] := dq_s 14 0 (by decide +kernel)
theorem dL_grotto_0 : decode cL_grotto 0 = .ok (.aload_n 3, 1) := dq_h dzL_grotto_0
theorem dL_grotto_1 : decode cL_grotto 1 = .ok (.iconst 0, 1) := dq_h (dq_t dzL_grotto_0)
theorem dL_grotto_2 : decode cL_grotto 2 = .ok (.aload_n 0, 1) := dq_h (dq_t (dq_t dzL_grotto_0))
theorem dL_grotto_3 : decode cL_grotto 3 = .ok (.iload_n 1, 1) := dq_h (dq_t (dq_t (dq_t dzL_grotto_0)))
theorem dL_grotto_4 : decode cL_grotto 4 = .ok (.iload_n 2, 1) := dq_h (dq_t (dq_t (dq_t (dq_t dzL_grotto_0))))
theorem dL_grotto_5 : decode cL_grotto 5 = .ok (.invokevirtual 20, 3) := dq_h (dq_t (dq_t (dq_t (dq_t (dq_t dzL_grotto_0)))))
theorem dL_grotto_8 : decode cL_grotto 8 = .ok (.i2l, 1) := dq_h (dq_t (dq_t (dq_t (dq_t (dq_t (dq_t dzL_grotto_0))))))
theorem dL_grotto_9 : decode cL_grotto 9 = .ok (.lastore, 1) := dq_h (dq_t (dq_t (dq_t (dq_t (dq_t (dq_t (dq_t dzL_grotto_0)))))))
theorem dL_grotto_10 : decode cL_grotto 10 = .ok (.goto 7, 3) := dq_h (dq_t (dq_t (dq_t (dq_t (dq_t (dq_t (dq_t (dq_t dzL_grotto_0))))))))
theorem dL_grotto_13 : decode cL_grotto 13 = .ok (.astore 4, 2) := dq_h (dq_t (dq_t (dq_t (dq_t (dq_t (dq_t (dq_t (dq_t (dq_t dzL_grotto_0)))))))))
theorem dL_grotto_15 : decode cL_grotto 15 = .ok (.iconst 1, 1) := dq_h (dq_t (dq_t (dq_t (dq_t (dq_t (dq_t (dq_t (dq_t (dq_t (dq_t dzL_grotto_0))))))))))
theorem dL_grotto_16 : decode cL_grotto 16 = .ok (.ireturn, 1) := dq_h (dq_t (dq_t (dq_t (dq_t (dq_t (dq_t (dq_t (dq_t (dq_t (dq_t (dq_t dzL_grotto_0)))))))))))
theorem dL_grotto_17 : decode cL_grotto 17 = .ok (.iconst 0, 1) := dq_h (dq_t (dq_t (dq_t (dq_t (dq_t (dq_t (dq_t (dq_t (dq_t (dq_t (dq_t (dq_t dzL_grotto_0))))))))))))
theorem dL_grotto_18 : decode cL_grotto 18 = .ok (.ireturn, 1) := dq_h (dq_t (dq_t (dq_t (dq_t (dq_t (dq_t (dq_t (dq_t (dq_t (dq_t (dq_t (dq_t (dq_t dzL_grotto_0)))))))))))))
theorem dzL_guild_0 : dq_F cL_guild [(0, .aload_n 3, 1), (1, .iconst 0, 1), (2, .aload_n 0, 1), (3, .iload_n 1, 1), (4, .iload_n 2, 1), (5, .invokevirtual 24, 3), (8, .i2l, 1), (9, .lastore, 1), (10, .goto 7, 3), (13, .astore 4, 2), (15, .iconst 1, 1), (16, .ireturn, 1), (17, .iconst 0, 1), (18, .ireturn, 1)] := dq_s 14 0 (by decide +kernel)
theorem dL_guild_0 : decode cL_guild 0 = .ok (.aload_n 3, 1) := dq_h dzL_guild_0
theorem dL_guild_1 : decode cL_guild 1 = .ok (.iconst 0, 1) := dq_h (dq_t dzL_guild_0)
theorem dL_guild_2 : decode cL_guild 2 = .ok (.aload_n 0, 1) := dq_h (dq_t (dq_t dzL_guild_0))
theorem dL_guild_3 : decode cL_guild 3 = .ok (.iload_n 1, 1) := dq_h (dq_t (dq_t (dq_t dzL_guild_0)))
theorem dL_guild_4 : decode cL_guild 4 = .ok (.iload_n 2, 1) := dq_h (dq_t (dq_t (dq_t (dq_t dzL_guild_0))))
theorem dL_guild_5 : decode cL_guild 5 = .ok (.invokevirtual 24, 3) := dq_h (dq_t (dq_t (dq_t (dq_t (dq_t dzL_guild_0)))))
theorem dL_guild_8 : decode cL_guild 8 = .ok (.i2l, 1) := dq_h (dq_t (dq_t (dq_t (dq_t (dq_t (dq_t dzL_guild_0))))))
theorem dL_guild_9 : decode cL_guild 9 = .ok (.lastore, 1) := dq_h (dq_t (dq_t (dq_t (dq_t (dq_t (dq_t (dq_t dzL_guild_0)))))))
theorem dL_guild_10 : decode cL_guild 10 = .ok (.goto 7, 3) := dq_h (dq_t (dq_t (dq_t (dq_t (dq_t (dq_t (dq_t (dq_t dzL_guild_0))))))))
theorem dL_guild_13 : decode cL_guild 13 = .ok (.astore 4, 2) := dq_h (dq_t (dq_t (dq_t (dq_t (dq_t (dq_t (dq_t (dq_t (dq_t dzL_guild_0)))))))))
theorem dL_guild_15 : decode cL_guild 15 = .ok (.iconst 1, 1) := dq_h (dq_t (dq_t (dq_t (dq_t (dq_t (dq_t (dq_t (dq_t (dq_t (dq_t dzL_guild_0))))))))))
theorem dL_guild_16 : decode cL_guild 16 = .ok (.ireturn, 1) := dq_h (dq_t (dq_t (dq_t (dq_t (dq_t (dq_t (dq_t (dq_t (dq_t (dq_t (dq_t dzL_guild_0)))))))))))
theorem dL_guild_17 : decode cL_guild 17 = .ok (.iconst 0, 1) := dq_h (dq_t (dq_t (dq_t (dq_t (dq_t (dq_t (dq_t (dq_t (dq_t (dq_t (dq_t (dq_t dzL_guild_0))))))))))))
theorem dL_guild_18 : decode cL_guild 18 = .ok (.ireturn, 1) := dq_h (dq_t (dq_t (dq_t (dq_t (dq_t (dq_t (dq_t (dq_t (dq_t (dq_t (dq_t (dq_t (dq_t dzL_guild_0)))))))))))))
theorem dzL_hire_0 : dq_F cL_hire [(0, .aload_n 3, 1), (1, .iconst 0, 1), (2, .aload_n 0, 1), (3, .iload_n 1, 1), (4, .iload_n 2, 1), (5, .invokevirtual 27, 3), (8, .ifCond .eq 7, 3), (11, .lconst 1, 1), (12, .goto 4, 3), (15, .lconst 0, 1), (16, .lastore, 1), (17, .goto 7, 3), (20, .astore 4, 2), (22, .iconst 1, 1), (23, .ireturn, 1), (24, .iconst 0, 1), (25, .ireturn, 1)] := dq_s 17 0 (by decide +kernel)
theorem dL_hire_0 : decode cL_hire 0 = .ok (.aload_n 3, 1) := dq_h dzL_hire_0
theorem dL_hire_1 : decode cL_hire 1 = .ok (.iconst 0, 1) := dq_h (dq_t dzL_hire_0)
theorem dL_hire_2 : decode cL_hire 2 = .ok (.aload_n 0, 1) := dq_h (dq_t (dq_t dzL_hire_0))
theorem dL_hire_3 : decode cL_hire 3 = .ok (.iload_n 1, 1) := dq_h (dq_t (dq_t (dq_t dzL_hire_0)))
theorem dL_hire_4 : decode cL_hire 4 = .ok (.iload_n 2, 1) := dq_h (dq_t (dq_t (dq_t (dq_t dzL_hire_0))))
theorem dL_hire_5 : decode cL_hire 5 = .ok (.invokevirtual 27, 3) := dq_h (dq_t (dq_t (dq_t (dq_t (dq_t dzL_hire_0)))))
theorem dL_hire_8 : decode cL_hire 8 = .ok (.ifCond .eq 7, 3) := dq_h (dq_t (dq_t (dq_t (dq_t (dq_t (dq_t dzL_hire_0))))))
theorem dL_hire_11 : decode cL_hire 11 = .ok (.lconst 1, 1) := dq_h (dq_t (dq_t (dq_t (dq_t (dq_t (dq_t (dq_t dzL_hire_0)))))))
theorem dL_hire_12 : decode cL_hire 12 = .ok (.goto 4, 3) := dq_h (dq_t (dq_t (dq_t (dq_t (dq_t (dq_t (dq_t (dq_t dzL_hire_0))))))))
theorem dL_hire_15 : decode cL_hire 15 = .ok (.lconst 0, 1) := dq_h (dq_t (dq_t (dq_t (dq_t (dq_t (dq_t (dq_t (dq_t (dq_t dzL_hire_0)))))))))
theorem dL_hire_16 : decode cL_hire 16 = .ok (.lastore, 1) := dq_h (dq_t (dq_t (dq_t (dq_t (dq_t (dq_t (dq_t (dq_t (dq_t (dq_t dzL_hire_0))))))))))
theorem dL_hire_17 : decode cL_hire 17 = .ok (.goto 7, 3) := dq_h (dq_t (dq_t (dq_t (dq_t (dq_t (dq_t (dq_t (dq_t (dq_t (dq_t (dq_t dzL_hire_0)))))))))))
theorem dL_hire_20 : decode cL_hire 20 = .ok (.astore 4, 2) := dq_h (dq_t (dq_t (dq_t (dq_t (dq_t (dq_t (dq_t (dq_t (dq_t (dq_t (dq_t (dq_t dzL_hire_0))))))))))))
theorem dL_hire_22 : decode cL_hire 22 = .ok (.iconst 1, 1) := dq_h (dq_t (dq_t (dq_t (dq_t (dq_t (dq_t (dq_t (dq_t (dq_t (dq_t (dq_t (dq_t (dq_t dzL_hire_0)))))))))))))
theorem dL_hire_23 : decode cL_hire 23 = .ok (.ireturn, 1) := dq_h (dq_t (dq_t (dq_t (dq_t (dq_t (dq_t (dq_t (dq_t (dq_t (dq_t (dq_t (dq_t (dq_t (dq_t dzL_hire_0))))))))))))))
theorem dL_hire_24 : decode cL_hire 24 = .ok (.iconst 0, 1) := dq_h (dq_t (dq_t (dq_t (dq_t (dq_t (dq_t (dq_t (dq_t (dq_t (dq_t (dq_t (dq_t (dq_t (dq_t (dq_t dzL_hire_0)))))))))))))))
theorem dL_hire_25 : decode cL_hire 25 = .ok (.ireturn, 1) := dq_h (dq_t (dq_t (dq_t (dq_t (dq_t (dq_t (dq_t (dq_t (dq_t (dq_t (dq_t (dq_t (dq_t (dq_t (dq_t (dq_t dzL_hire_0))))))))))))))))
theorem dzL_dismiss_0 : dq_F cL_dismiss [(0, .aload_n 2, 1), (1, .iconst 0, 1), (2, .aload_n 0, 1), (3, .iload_n 1, 1), (4, .invokevirtual 31, 3), (7, .i2l, 1), (8, .lastore, 1), (9, .goto 6, 3), (12, .astore_n 3, 1), (13, .iconst 1, 1), (14, .ireturn, 1), (15, .iconst 0, 1), (16, .ireturn, 1)] := dq_s 13 0 (by decide +kernel)
theorem dL_dismiss_0 : decode cL_dismiss 0 = .ok (.aload_n 2, 1) := dq_h dzL_dismiss_0
theorem dL_dismiss_1 : decode cL_dismiss 1 = .ok (.iconst 0, 1) := dq_h (dq_t dzL_dismiss_0)
theorem dL_dismiss_2 : decode cL_dismiss 2 = .ok (.aload_n 0, 1) := dq_h (dq_t (dq_t dzL_dismiss_0))
theorem dL_dismiss_3 : decode cL_dismiss 3 = .ok (.iload_n 1, 1) := dq_h (dq_t (dq_t (dq_t dzL_dismiss_0)))
theorem dL_dismiss_4 : decode cL_dismiss 4 = .ok (.invokevirtual 31, 3) := dq_h (dq_t (dq_t (dq_t (dq_t dzL_dismiss_0))))
theorem dL_dismiss_7 : decode cL_dismiss 7 = .ok (.i2l, 1) := dq_h (dq_t (dq_t (dq_t (dq_t (dq_t dzL_dismiss_0)))))
theorem dL_dismiss_8 : decode cL_dismiss 8 = .ok (.lastore, 1) := dq_h (dq_t (dq_t (dq_t (dq_t (dq_t (dq_t dzL_dismiss_0))))))
theorem dL_dismiss_9 : decode cL_dismiss 9 = .ok (.goto 6, 3) := dq_h (dq_t (dq_t (dq_t (dq_t (dq_t (dq_t (dq_t dzL_dismiss_0)))))))
theorem dL_dismiss_12 : decode cL_dismiss 12 = .ok (.astore_n 3, 1) := dq_h (dq_t (dq_t (dq_t (dq_t (dq_t (dq_t (dq_t (dq_t dzL_dismiss_0))))))))
theorem dL_dismiss_13 : decode cL_dismiss 13 = .ok (.iconst 1, 1) := dq_h (dq_t (dq_t (dq_t (dq_t (dq_t (dq_t (dq_t (dq_t (dq_t dzL_dismiss_0)))))))))
theorem dL_dismiss_14 : decode cL_dismiss 14 = .ok (.ireturn, 1) := dq_h (dq_t (dq_t (dq_t (dq_t (dq_t (dq_t (dq_t (dq_t (dq_t (dq_t dzL_dismiss_0))))))))))
theorem dL_dismiss_15 : decode cL_dismiss 15 = .ok (.iconst 0, 1) := dq_h (dq_t (dq_t (dq_t (dq_t (dq_t (dq_t (dq_t (dq_t (dq_t (dq_t (dq_t dzL_dismiss_0)))))))))))
theorem dL_dismiss_16 : decode cL_dismiss 16 = .ok (.ireturn, 1) := dq_h (dq_t (dq_t (dq_t (dq_t (dq_t (dq_t (dq_t (dq_t (dq_t (dq_t (dq_t (dq_t dzL_dismiss_0))))))))))))
theorem dzL_confess_0 : dq_F cL_confess [(0, .aload_n 2, 1), (1, .iconst 0, 1), (2, .aload_n 0, 1), (3, .iload_n 1, 1), (4, .invokevirtual 34, 3), (7, .i2l, 1), (8, .lastore, 1), (9, .goto 6, 3), (12, .astore_n 3, 1), (13, .iconst 1, 1), (14, .ireturn, 1), (15, .iconst 0, 1), (16, .ireturn, 1)] := dq_s 13 0 (by decide +kernel)
theorem dL_confess_0 : decode cL_confess 0 = .ok (.aload_n 2, 1) := dq_h dzL_confess_0
theorem dL_confess_1 : decode cL_confess 1 = .ok (.iconst 0, 1) := dq_h (dq_t dzL_confess_0)
theorem dL_confess_2 : decode cL_confess 2 = .ok (.aload_n 0, 1) := dq_h (dq_t (dq_t dzL_confess_0))
theorem dL_confess_3 : decode cL_confess 3 = .ok (.iload_n 1, 1) := dq_h (dq_t (dq_t (dq_t dzL_confess_0)))
theorem dL_confess_4 : decode cL_confess 4 = .ok (.invokevirtual 34, 3) := dq_h (dq_t (dq_t (dq_t (dq_t dzL_confess_0))))
theorem dL_confess_7 : decode cL_confess 7 = .ok (.i2l, 1) := dq_h (dq_t (dq_t (dq_t (dq_t (dq_t dzL_confess_0)))))
theorem dL_confess_8 : decode cL_confess 8 = .ok (.lastore, 1) := dq_h (dq_t (dq_t (dq_t (dq_t (dq_t (dq_t dzL_confess_0))))))
theorem dL_confess_9 : decode cL_confess 9 = .ok (.goto 6, 3) := dq_h (dq_t (dq_t (dq_t (dq_t (dq_t (dq_t (dq_t dzL_confess_0)))))))
theorem dL_confess_12 : decode cL_confess 12 = .ok (.astore_n 3, 1) := dq_h (dq_t (dq_t (dq_t (dq_t (dq_t (dq_t (dq_t (dq_t dzL_confess_0))))))))
theorem dL_confess_13 : decode cL_confess 13 = .ok (.iconst 1, 1) := dq_h (dq_t (dq_t (dq_t (dq_t (dq_t (dq_t (dq_t (dq_t (dq_t dzL_confess_0)))))))))
theorem dL_confess_14 : decode cL_confess 14 = .ok (.ireturn, 1) := dq_h (dq_t (dq_t (dq_t (dq_t (dq_t (dq_t (dq_t (dq_t (dq_t (dq_t dzL_confess_0))))))))))
theorem dL_confess_15 : decode cL_confess 15 = .ok (.iconst 0, 1) := dq_h (dq_t (dq_t (dq_t (dq_t (dq_t (dq_t (dq_t (dq_t (dq_t (dq_t (dq_t dzL_confess_0)))))))))))
theorem dL_confess_16 : decode cL_confess 16 = .ok (.ireturn, 1) := dq_h (dq_t (dq_t (dq_t (dq_t (dq_t (dq_t (dq_t (dq_t (dq_t (dq_t (dq_t (dq_t dzL_confess_0))))))))))))
theorem dzL_drain_0 : dq_F cL_drain [(0, .aload_n 3, 1), (1, .iconst 0, 1), (2, .aload_n 0, 1), (3, .iload_n 1, 1), (4, .iload_n 2, 1), (5, .invokevirtual 37, 3), (8, .ifCond .eq 7, 3), (11, .lconst 1, 1), (12, .goto 4, 3), (15, .lconst 0, 1), (16, .lastore, 1), (17, .goto 7, 3), (20, .astore 4, 2), (22, .iconst 1, 1), (23, .ireturn, 1), (24, .iconst 0, 1), (25, .ireturn, 1)] := dq_s 17 0 (by decide +kernel)
theorem dL_drain_0 : decode cL_drain 0 = .ok (.aload_n 3, 1) := dq_h dzL_drain_0
theorem dL_drain_1 : decode cL_drain 1 = .ok (.iconst 0, 1) := dq_h (dq_t dzL_drain_0)
theorem dL_drain_2 : decode cL_drain 2 = .ok (.aload_n 0, 1) := dq_h (dq_t (dq_t dzL_drain_0))
theorem dL_drain_3 : decode cL_drain 3 = .ok (.iload_n 1, 1) := dq_h (dq_t (dq_t (dq_t dzL_drain_0)))
theorem dL_drain_4 : decode cL_drain 4 = .ok (.iload_n 2, 1) := dq_h (dq_t (dq_t (dq_t (dq_t dzL_drain_0))))
theorem dL_drain_5 : decode cL_drain 5 = .ok (.invokevirtual 37, 3) := dq_h (dq_t (dq_t (dq_t (dq_t (dq_t dzL_drain_0)))))
theorem dL_drain_8 : decode cL_drain 8 = .ok (.ifCond .eq 7, 3) := dq_h (dq_t (dq_t (dq_t (dq_t (dq_t (dq_t dzL_drain_0))))))
theorem dL_drain_11 : decode cL_drain 11 = .ok (.lconst 1, 1) := dq_h (dq_t (dq_t (dq_t (dq_t (dq_t (dq_t (dq_t dzL_drain_0)))))))
theorem dL_drain_12 : decode cL_drain 12 = .ok (.goto 4, 3) := dq_h (dq_t (dq_t (dq_t (dq_t (dq_t (dq_t (dq_t (dq_t dzL_drain_0))))))))
theorem dL_drain_15 : decode cL_drain 15 = .ok (.lconst 0, 1) := dq_h (dq_t (dq_t (dq_t (dq_t (dq_t (dq_t (dq_t (dq_t (dq_t dzL_drain_0)))))))))
theorem dL_drain_16 : decode cL_drain 16 = .ok (.lastore, 1) := dq_h (dq_t (dq_t (dq_t (dq_t (dq_t (dq_t (dq_t (dq_t (dq_t (dq_t dzL_drain_0))))))))))
theorem dL_drain_17 : decode cL_drain 17 = .ok (.goto 7, 3) := dq_h (dq_t (dq_t (dq_t (dq_t (dq_t (dq_t (dq_t (dq_t (dq_t (dq_t (dq_t dzL_drain_0)))))))))))
theorem dL_drain_20 : decode cL_drain 20 = .ok (.astore 4, 2) := dq_h (dq_t (dq_t (dq_t (dq_t (dq_t (dq_t (dq_t (dq_t (dq_t (dq_t (dq_t (dq_t dzL_drain_0))))))))))))
theorem dL_drain_22 : decode cL_drain 22 = .ok (.iconst 1, 1) := dq_h (dq_t (dq_t (dq_t (dq_t (dq_t (dq_t (dq_t (dq_t (dq_t (dq_t (dq_t (dq_t (dq_t dzL_drain_0)))))))))))))
theorem dL_drain_23 : decode cL_drain 23 = .ok (.ireturn, 1) := dq_h (dq_t (dq_t (dq_t (dq_t (dq_t (dq_t (dq_t (dq_t (dq_t (dq_t (dq_t (dq_t (dq_t (dq_t dzL_drain_0))))))))))))))
theorem dL_drain_24 : decode cL_drain 24 = .ok (.iconst 0, 1) := dq_h (dq_t (dq_t (dq_t (dq_t (dq_t (dq_t (dq_t (dq_t (dq_t (dq_t (dq_t (dq_t (dq_t (dq_t (dq_t dzL_drain_0)))))))))))))))
theorem dL_drain_25 : decode cL_drain 25 = .ok (.ireturn, 1) := dq_h (dq_t (dq_t (dq_t (dq_t (dq_t (dq_t (dq_t (dq_t (dq_t (dq_t (dq_t (dq_t (dq_t (dq_t (dq_t (dq_t dzL_drain_0))))))))))))))))
theorem dzL_give_0 : dq_F cL_give [(0, .aload_n 3, 1), (1, .iconst 0, 1), (2, .aload_n 0, 1), (3, .iload_n 1, 1), (4, .iload_n 2, 1), (5, .invokevirtual 41, 3), (8, .i2l, 1), (9, .lastore, 1), (10, .goto 7, 3), (13, .astore 4, 2), (15, .iconst 1, 1), (16, .ireturn, 1), (17, .iconst 0, 1), (18, .ireturn, 1)] := dq_s 14 0 (by decide +kernel)
theorem dL_give_0 : decode cL_give 0 = .ok (.aload_n 3, 1) := dq_h dzL_give_0
theorem dL_give_1 : decode cL_give 1 = .ok (.iconst 0, 1) := dq_h (dq_t dzL_give_0)
theorem dL_give_2 : decode cL_give 2 = .ok (.aload_n 0, 1) := dq_h (dq_t (dq_t dzL_give_0))
theorem dL_give_3 : decode cL_give 3 = .ok (.iload_n 1, 1) := dq_h (dq_t (dq_t (dq_t dzL_give_0)))
theorem dL_give_4 : decode cL_give 4 = .ok (.iload_n 2, 1) := dq_h (dq_t (dq_t (dq_t (dq_t dzL_give_0))))
theorem dL_give_5 : decode cL_give 5 = .ok (.invokevirtual 41, 3) := dq_h (dq_t (dq_t (dq_t (dq_t (dq_t dzL_give_0)))))
theorem dL_give_8 : decode cL_give 8 = .ok (.i2l, 1) := dq_h (dq_t (dq_t (dq_t (dq_t (dq_t (dq_t dzL_give_0))))))
theorem dL_give_9 : decode cL_give 9 = .ok (.lastore, 1) := dq_h (dq_t (dq_t (dq_t (dq_t (dq_t (dq_t (dq_t dzL_give_0)))))))
theorem dL_give_10 : decode cL_give 10 = .ok (.goto 7, 3) := dq_h (dq_t (dq_t (dq_t (dq_t (dq_t (dq_t (dq_t (dq_t dzL_give_0))))))))
theorem dL_give_13 : decode cL_give 13 = .ok (.astore 4, 2) := dq_h (dq_t (dq_t (dq_t (dq_t (dq_t (dq_t (dq_t (dq_t (dq_t dzL_give_0)))))))))
theorem dL_give_15 : decode cL_give 15 = .ok (.iconst 1, 1) := dq_h (dq_t (dq_t (dq_t (dq_t (dq_t (dq_t (dq_t (dq_t (dq_t (dq_t dzL_give_0))))))))))
theorem dL_give_16 : decode cL_give 16 = .ok (.ireturn, 1) := dq_h (dq_t (dq_t (dq_t (dq_t (dq_t (dq_t (dq_t (dq_t (dq_t (dq_t (dq_t dzL_give_0)))))))))))
theorem dL_give_17 : decode cL_give 17 = .ok (.iconst 0, 1) := dq_h (dq_t (dq_t (dq_t (dq_t (dq_t (dq_t (dq_t (dq_t (dq_t (dq_t (dq_t (dq_t dzL_give_0))))))))))))
theorem dL_give_18 : decode cL_give 18 = .ok (.ireturn, 1) := dq_h (dq_t (dq_t (dq_t (dq_t (dq_t (dq_t (dq_t (dq_t (dq_t (dq_t (dq_t (dq_t (dq_t dzL_give_0)))))))))))))
theorem dzL_then_0 : dq_F cL_then [(0, .aload 4, 2), (2, .iconst 0, 1), (3, .aload_n 0, 1), (4, .iload_n 1, 1), (5, .iload_n 2, 1), (6, .iload_n 3, 1), (7, .invokevirtual 44, 3), (10, .i2l, 1), (11, .lastore, 1), (12, .goto 11, 3), (15, .astore 5, 2), (17, .iconst 1, 1), (18, .ireturn, 1), (19, .astore 5, 2), (21, .iconst 2, 1), (22, .ireturn, 1), (23, .iconst 0, 1), (24, .ireturn, 1)] := dq_s 18 0 (by decide +kernel)
theorem dL_then_0 : decode cL_then 0 = .ok (.aload 4, 2) := dq_h dzL_then_0
theorem dL_then_2 : decode cL_then 2 = .ok (.iconst 0, 1) := dq_h (dq_t dzL_then_0)
theorem dL_then_3 : decode cL_then 3 = .ok (.aload_n 0, 1) := dq_h (dq_t (dq_t dzL_then_0))
theorem dL_then_4 : decode cL_then 4 = .ok (.iload_n 1, 1) := dq_h (dq_t (dq_t (dq_t dzL_then_0)))
theorem dL_then_5 : decode cL_then 5 = .ok (.iload_n 2, 1) := dq_h (dq_t (dq_t (dq_t (dq_t dzL_then_0))))
theorem dL_then_6 : decode cL_then 6 = .ok (.iload_n 3, 1) := dq_h (dq_t (dq_t (dq_t (dq_t (dq_t dzL_then_0)))))
theorem dL_then_7 : decode cL_then 7 = .ok (.invokevirtual 44, 3) := dq_h (dq_t (dq_t (dq_t (dq_t (dq_t (dq_t dzL_then_0))))))
theorem dL_then_10 : decode cL_then 10 = .ok (.i2l, 1) := dq_h (dq_t (dq_t (dq_t (dq_t (dq_t (dq_t (dq_t dzL_then_0)))))))
theorem dL_then_11 : decode cL_then 11 = .ok (.lastore, 1) := dq_h (dq_t (dq_t (dq_t (dq_t (dq_t (dq_t (dq_t (dq_t dzL_then_0))))))))
theorem dL_then_12 : decode cL_then 12 = .ok (.goto 11, 3) := dq_h (dq_t (dq_t (dq_t (dq_t (dq_t (dq_t (dq_t (dq_t (dq_t dzL_then_0)))))))))
theorem dL_then_15 : decode cL_then 15 = .ok (.astore 5, 2) := dq_h (dq_t (dq_t (dq_t (dq_t (dq_t (dq_t (dq_t (dq_t (dq_t (dq_t dzL_then_0))))))))))
theorem dL_then_17 : decode cL_then 17 = .ok (.iconst 1, 1) := dq_h (dq_t (dq_t (dq_t (dq_t (dq_t (dq_t (dq_t (dq_t (dq_t (dq_t (dq_t dzL_then_0)))))))))))
theorem dL_then_18 : decode cL_then 18 = .ok (.ireturn, 1) := dq_h (dq_t (dq_t (dq_t (dq_t (dq_t (dq_t (dq_t (dq_t (dq_t (dq_t (dq_t (dq_t dzL_then_0))))))))))))
theorem dL_then_19 : decode cL_then 19 = .ok (.astore 5, 2) := dq_h (dq_t (dq_t (dq_t (dq_t (dq_t (dq_t (dq_t (dq_t (dq_t (dq_t (dq_t (dq_t (dq_t dzL_then_0)))))))))))))
theorem dL_then_21 : decode cL_then 21 = .ok (.iconst 2, 1) := dq_h (dq_t (dq_t (dq_t (dq_t (dq_t (dq_t (dq_t (dq_t (dq_t (dq_t (dq_t (dq_t (dq_t (dq_t dzL_then_0))))))))))))))
theorem dL_then_22 : decode cL_then 22 = .ok (.ireturn, 1) := dq_h (dq_t (dq_t (dq_t (dq_t (dq_t (dq_t (dq_t (dq_t (dq_t (dq_t (dq_t (dq_t (dq_t (dq_t (dq_t dzL_then_0)))))))))))))))
theorem dL_then_23 : decode cL_then 23 = .ok (.iconst 0, 1) := dq_h (dq_t (dq_t (dq_t (dq_t (dq_t (dq_t (dq_t (dq_t (dq_t (dq_t (dq_t (dq_t (dq_t (dq_t (dq_t (dq_t dzL_then_0))))))))))))))))
theorem dL_then_24 : decode cL_then 24 = .ok (.ireturn, 1) := dq_h (dq_t (dq_t (dq_t (dq_t (dq_t (dq_t (dq_t (dq_t (dq_t (dq_t (dq_t (dq_t (dq_t (dq_t (dq_t (dq_t (dq_t dzL_then_0)))))))))))))))))
theorem dzL_dripping_0 : dq_F cL_dripping [(0, .aload_n 2, 1), (1, .iconst 0, 1), (2, .aload_n 0, 1), (3, .iload_n 1, 1), (4, .invokevirtual 48, 3), (7, .i2l, 1), (8, .lastore, 1), (9, .goto 6, 3), (12, .astore_n 3, 1), (13, .iconst 1, 1), (14, .ireturn, 1), (15, .iconst 0, 1), (16, .ireturn, 1)] := dq_s 13 0 (by decide +kernel)
theorem dL_dripping_0 : decode cL_dripping 0 = .ok (.aload_n 2, 1) := dq_h dzL_dripping_0
theorem dL_dripping_1 : decode cL_dripping 1 = .ok (.iconst 0, 1) := dq_h (dq_t dzL_dripping_0)
theorem dL_dripping_2 : decode cL_dripping 2 = .ok (.aload_n 0, 1) := dq_h (dq_t (dq_t dzL_dripping_0))
theorem dL_dripping_3 : decode cL_dripping 3 = .ok (.iload_n 1, 1) := dq_h (dq_t (dq_t (dq_t dzL_dripping_0)))
theorem dL_dripping_4 : decode cL_dripping 4 = .ok (.invokevirtual 48, 3) := dq_h (dq_t (dq_t (dq_t (dq_t dzL_dripping_0))))
theorem dL_dripping_7 : decode cL_dripping 7 = .ok (.i2l, 1) := dq_h (dq_t (dq_t (dq_t (dq_t (dq_t dzL_dripping_0)))))
theorem dL_dripping_8 : decode cL_dripping 8 = .ok (.lastore, 1) := dq_h (dq_t (dq_t (dq_t (dq_t (dq_t (dq_t dzL_dripping_0))))))
theorem dL_dripping_9 : decode cL_dripping 9 = .ok (.goto 6, 3) := dq_h (dq_t (dq_t (dq_t (dq_t (dq_t (dq_t (dq_t dzL_dripping_0)))))))
theorem dL_dripping_12 : decode cL_dripping 12 = .ok (.astore_n 3, 1) := dq_h (dq_t (dq_t (dq_t (dq_t (dq_t (dq_t (dq_t (dq_t dzL_dripping_0))))))))
theorem dL_dripping_13 : decode cL_dripping 13 = .ok (.iconst 1, 1) := dq_h (dq_t (dq_t (dq_t (dq_t (dq_t (dq_t (dq_t (dq_t (dq_t dzL_dripping_0)))))))))
theorem dL_dripping_14 : decode cL_dripping 14 = .ok (.ireturn, 1) := dq_h (dq_t (dq_t (dq_t (dq_t (dq_t (dq_t (dq_t (dq_t (dq_t (dq_t dzL_dripping_0))))))))))
theorem dL_dripping_15 : decode cL_dripping 15 = .ok (.iconst 0, 1) := dq_h (dq_t (dq_t (dq_t (dq_t (dq_t (dq_t (dq_t (dq_t (dq_t (dq_t (dq_t dzL_dripping_0)))))))))))
theorem dL_dripping_16 : decode cL_dripping 16 = .ok (.ireturn, 1) := dq_h (dq_t (dq_t (dq_t (dq_t (dq_t (dq_t (dq_t (dq_t (dq_t (dq_t (dq_t (dq_t dzL_dripping_0))))))))))))
theorem dzL_first_0 : dq_F cL_first [(0, .aload_n 2, 1), (1, .iconst 0, 1), (2, .aload_n 0, 1), (3, .iload_n 1, 1), (4, .invokevirtual 51, 3), (7, .i2l, 1), (8, .lastore, 1), (9, .goto 6, 3), (12, .astore_n 3, 1), (13, .iconst 1, 1), (14, .ireturn, 1), (15, .iconst 0, 1), (16, .ireturn, 1)] := dq_s 13 0 (by decide +kernel)
theorem dL_first_0 : decode cL_first 0 = .ok (.aload_n 2, 1) := dq_h dzL_first_0
theorem dL_first_1 : decode cL_first 1 = .ok (.iconst 0, 1) := dq_h (dq_t dzL_first_0)
theorem dL_first_2 : decode cL_first 2 = .ok (.aload_n 0, 1) := dq_h (dq_t (dq_t dzL_first_0))
theorem dL_first_3 : decode cL_first 3 = .ok (.iload_n 1, 1) := dq_h (dq_t (dq_t (dq_t dzL_first_0)))
theorem dL_first_4 : decode cL_first 4 = .ok (.invokevirtual 51, 3) := dq_h (dq_t (dq_t (dq_t (dq_t dzL_first_0))))
theorem dL_first_7 : decode cL_first 7 = .ok (.i2l, 1) := dq_h (dq_t (dq_t (dq_t (dq_t (dq_t dzL_first_0)))))
theorem dL_first_8 : decode cL_first 8 = .ok (.lastore, 1) := dq_h (dq_t (dq_t (dq_t (dq_t (dq_t (dq_t dzL_first_0))))))
theorem dL_first_9 : decode cL_first 9 = .ok (.goto 6, 3) := dq_h (dq_t (dq_t (dq_t (dq_t (dq_t (dq_t (dq_t dzL_first_0)))))))
theorem dL_first_12 : decode cL_first 12 = .ok (.astore_n 3, 1) := dq_h (dq_t (dq_t (dq_t (dq_t (dq_t (dq_t (dq_t (dq_t dzL_first_0))))))))
theorem dL_first_13 : decode cL_first 13 = .ok (.iconst 1, 1) := dq_h (dq_t (dq_t (dq_t (dq_t (dq_t (dq_t (dq_t (dq_t (dq_t dzL_first_0)))))))))
theorem dL_first_14 : decode cL_first 14 = .ok (.ireturn, 1) := dq_h (dq_t (dq_t (dq_t (dq_t (dq_t (dq_t (dq_t (dq_t (dq_t (dq_t dzL_first_0))))))))))
theorem dL_first_15 : decode cL_first 15 = .ok (.iconst 0, 1) := dq_h (dq_t (dq_t (dq_t (dq_t (dq_t (dq_t (dq_t (dq_t (dq_t (dq_t (dq_t dzL_first_0)))))))))))
theorem dL_first_16 : decode cL_first 16 = .ok (.ireturn, 1) := dq_h (dq_t (dq_t (dq_t (dq_t (dq_t (dq_t (dq_t (dq_t (dq_t (dq_t (dq_t (dq_t dzL_first_0))))))))))))
theorem dzL_dismissed_0 : dq_F cL_dismissed [(0, .aload_n 2, 1), (1, .iconst 0, 1), (2, .aload_n 0, 1), (3, .iload_n 1, 1), (4, .invokevirtual 54, 3), (7, .i2l, 1), (8, .lastore, 1), (9, .goto 6, 3), (12, .astore_n 3, 1), (13, .iconst 1, 1), (14, .ireturn, 1), (15, .iconst 0, 1), (16, .ireturn, 1)] := dq_s 13 0 (by decide +kernel)
theorem dL_dismissed_0 : decode cL_dismissed 0 = .ok (.aload_n 2, 1) := dq_h dzL_dismissed_0
theorem dL_dismissed_1 : decode cL_dismissed 1 = .ok (.iconst 0, 1) := dq_h (dq_t dzL_dismissed_0)
theorem dL_dismissed_2 : decode cL_dismissed 2 = .ok (.aload_n 0, 1) := dq_h (dq_t (dq_t dzL_dismissed_0))
theorem dL_dismissed_3 : decode cL_dismissed 3 = .ok (.iload_n 1, 1) := dq_h (dq_t (dq_t (dq_t dzL_dismissed_0)))
theorem dL_dismissed_4 : decode cL_dismissed 4 = .ok (.invokevirtual 54, 3) := dq_h (dq_t (dq_t (dq_t (dq_t dzL_dismissed_0))))
theorem dL_dismissed_7 : decode cL_dismissed 7 = .ok (.i2l, 1) := dq_h (dq_t (dq_t (dq_t (dq_t (dq_t dzL_dismissed_0)))))
theorem dL_dismissed_8 : decode cL_dismissed 8 = .ok (.lastore, 1) := dq_h (dq_t (dq_t (dq_t (dq_t (dq_t (dq_t dzL_dismissed_0))))))
theorem dL_dismissed_9 : decode cL_dismissed 9 = .ok (.goto 6, 3) := dq_h (dq_t (dq_t (dq_t (dq_t (dq_t (dq_t (dq_t dzL_dismissed_0)))))))
theorem dL_dismissed_12 : decode cL_dismissed 12 = .ok (.astore_n 3, 1) := dq_h (dq_t (dq_t (dq_t (dq_t (dq_t (dq_t (dq_t (dq_t dzL_dismissed_0))))))))
theorem dL_dismissed_13 : decode cL_dismissed 13 = .ok (.iconst 1, 1) := dq_h (dq_t (dq_t (dq_t (dq_t (dq_t (dq_t (dq_t (dq_t (dq_t dzL_dismissed_0)))))))))
theorem dL_dismissed_14 : decode cL_dismissed 14 = .ok (.ireturn, 1) := dq_h (dq_t (dq_t (dq_t (dq_t (dq_t (dq_t (dq_t (dq_t (dq_t (dq_t dzL_dismissed_0))))))))))
theorem dL_dismissed_15 : decode cL_dismissed 15 = .ok (.iconst 0, 1) := dq_h (dq_t (dq_t (dq_t (dq_t (dq_t (dq_t (dq_t (dq_t (dq_t (dq_t (dq_t dzL_dismissed_0)))))))))))
theorem dL_dismissed_16 : decode cL_dismissed 16 = .ok (.ireturn, 1) := dq_h (dq_t (dq_t (dq_t (dq_t (dq_t (dq_t (dq_t (dq_t (dq_t (dq_t (dq_t (dq_t dzL_dismissed_0))))))))))))
theorem dzL_most_0 : dq_F cL_most [(0, .aload_n 3, 1), (1, .iconst 0, 1), (2, .aload_n 0, 1), (3, .iload_n 1, 1), (4, .iload_n 2, 1), (5, .invokevirtual 57, 3), (8, .i2l, 1), (9, .lastore, 1), (10, .goto 11, 3), (13, .astore 4, 2), (15, .iconst 1, 1), (16, .ireturn, 1), (17, .astore 4, 2), (19, .iconst 2, 1), (20, .ireturn, 1), (21, .iconst 0, 1), (22, .ireturn, 1)] := dq_s 17 0 (by decide +kernel)
theorem dL_most_0 : decode cL_most 0 = .ok (.aload_n 3, 1) := dq_h dzL_most_0
theorem dL_most_1 : decode cL_most 1 = .ok (.iconst 0, 1) := dq_h (dq_t dzL_most_0)
theorem dL_most_2 : decode cL_most 2 = .ok (.aload_n 0, 1) := dq_h (dq_t (dq_t dzL_most_0))
theorem dL_most_3 : decode cL_most 3 = .ok (.iload_n 1, 1) := dq_h (dq_t (dq_t (dq_t dzL_most_0)))
theorem dL_most_4 : decode cL_most 4 = .ok (.iload_n 2, 1) := dq_h (dq_t (dq_t (dq_t (dq_t dzL_most_0))))
theorem dL_most_5 : decode cL_most 5 = .ok (.invokevirtual 57, 3) := dq_h (dq_t (dq_t (dq_t (dq_t (dq_t dzL_most_0)))))
theorem dL_most_8 : decode cL_most 8 = .ok (.i2l, 1) := dq_h (dq_t (dq_t (dq_t (dq_t (dq_t (dq_t dzL_most_0))))))
theorem dL_most_9 : decode cL_most 9 = .ok (.lastore, 1) := dq_h (dq_t (dq_t (dq_t (dq_t (dq_t (dq_t (dq_t dzL_most_0)))))))
theorem dL_most_10 : decode cL_most 10 = .ok (.goto 11, 3) := dq_h (dq_t (dq_t (dq_t (dq_t (dq_t (dq_t (dq_t (dq_t dzL_most_0))))))))
theorem dL_most_13 : decode cL_most 13 = .ok (.astore 4, 2) := dq_h (dq_t (dq_t (dq_t (dq_t (dq_t (dq_t (dq_t (dq_t (dq_t dzL_most_0)))))))))
theorem dL_most_15 : decode cL_most 15 = .ok (.iconst 1, 1) := dq_h (dq_t (dq_t (dq_t (dq_t (dq_t (dq_t (dq_t (dq_t (dq_t (dq_t dzL_most_0))))))))))
theorem dL_most_16 : decode cL_most 16 = .ok (.ireturn, 1) := dq_h (dq_t (dq_t (dq_t (dq_t (dq_t (dq_t (dq_t (dq_t (dq_t (dq_t (dq_t dzL_most_0)))))))))))
theorem dL_most_17 : decode cL_most 17 = .ok (.astore 4, 2) := dq_h (dq_t (dq_t (dq_t (dq_t (dq_t (dq_t (dq_t (dq_t (dq_t (dq_t (dq_t (dq_t dzL_most_0))))))))))))
theorem dL_most_19 : decode cL_most 19 = .ok (.iconst 2, 1) := dq_h (dq_t (dq_t (dq_t (dq_t (dq_t (dq_t (dq_t (dq_t (dq_t (dq_t (dq_t (dq_t (dq_t dzL_most_0)))))))))))))
theorem dL_most_20 : decode cL_most 20 = .ok (.ireturn, 1) := dq_h (dq_t (dq_t (dq_t (dq_t (dq_t (dq_t (dq_t (dq_t (dq_t (dq_t (dq_t (dq_t (dq_t (dq_t dzL_most_0))))))))))))))
theorem dL_most_21 : decode cL_most 21 = .ok (.iconst 0, 1) := dq_h (dq_t (dq_t (dq_t (dq_t (dq_t (dq_t (dq_t (dq_t (dq_t (dq_t (dq_t (dq_t (dq_t (dq_t (dq_t dzL_most_0)))))))))))))))
theorem dL_most_22 : decode cL_most 22 = .ok (.ireturn, 1) := dq_h (dq_t (dq_t (dq_t (dq_t (dq_t (dq_t (dq_t (dq_t (dq_t (dq_t (dq_t (dq_t (dq_t (dq_t (dq_t (dq_t dzL_most_0))))))))))))))))
theorem dzL_hush_0 : dq_F cL_hush [(0, .aload_n 2, 1), (1, .iconst 0, 1), (2, .aload_n 0, 1), (3, .iload_n 1, 1), (4, .invokevirtual 60, 3), (7, .i2l, 1), (8, .lastore, 1), (9, .goto 6, 3), (12, .astore_n 3, 1), (13, .iconst 1, 1), (14, .ireturn, 1), (15, .iconst 0, 1), (16, .ireturn, 1)] := dq_s 13 0 (by decide +kernel)
theorem dL_hush_0 : decode cL_hush 0 = .ok (.aload_n 2, 1) := dq_h dzL_hush_0
theorem dL_hush_1 : decode cL_hush 1 = .ok (.iconst 0, 1) := dq_h (dq_t dzL_hush_0)
theorem dL_hush_2 : decode cL_hush 2 = .ok (.aload_n 0, 1) := dq_h (dq_t (dq_t dzL_hush_0))
theorem dL_hush_3 : decode cL_hush 3 = .ok (.iload_n 1, 1) := dq_h (dq_t (dq_t (dq_t dzL_hush_0)))
theorem dL_hush_4 : decode cL_hush 4 = .ok (.invokevirtual 60, 3) := dq_h (dq_t (dq_t (dq_t (dq_t dzL_hush_0))))
theorem dL_hush_7 : decode cL_hush 7 = .ok (.i2l, 1) := dq_h (dq_t (dq_t (dq_t (dq_t (dq_t dzL_hush_0)))))
theorem dL_hush_8 : decode cL_hush 8 = .ok (.lastore, 1) := dq_h (dq_t (dq_t (dq_t (dq_t (dq_t (dq_t dzL_hush_0))))))
theorem dL_hush_9 : decode cL_hush 9 = .ok (.goto 6, 3) := dq_h (dq_t (dq_t (dq_t (dq_t (dq_t (dq_t (dq_t dzL_hush_0)))))))
theorem dL_hush_12 : decode cL_hush 12 = .ok (.astore_n 3, 1) := dq_h (dq_t (dq_t (dq_t (dq_t (dq_t (dq_t (dq_t (dq_t dzL_hush_0))))))))
theorem dL_hush_13 : decode cL_hush 13 = .ok (.iconst 1, 1) := dq_h (dq_t (dq_t (dq_t (dq_t (dq_t (dq_t (dq_t (dq_t (dq_t dzL_hush_0)))))))))
theorem dL_hush_14 : decode cL_hush 14 = .ok (.ireturn, 1) := dq_h (dq_t (dq_t (dq_t (dq_t (dq_t (dq_t (dq_t (dq_t (dq_t (dq_t dzL_hush_0))))))))))
theorem dL_hush_15 : decode cL_hush 15 = .ok (.iconst 0, 1) := dq_h (dq_t (dq_t (dq_t (dq_t (dq_t (dq_t (dq_t (dq_t (dq_t (dq_t (dq_t dzL_hush_0)))))))))))
theorem dL_hush_16 : decode cL_hush 16 = .ok (.ireturn, 1) := dq_h (dq_t (dq_t (dq_t (dq_t (dq_t (dq_t (dq_t (dq_t (dq_t (dq_t (dq_t (dq_t dzL_hush_0))))))))))))
theorem dzL_chorus_0 : dq_F cL_chorus [(0, .aload_n 2, 1), (1, .iconst 0, 1), (2, .aload_n 0, 1), (3, .iload_n 1, 1), (4, .invokevirtual 63, 3), (7, .i2l, 1), (8, .lastore, 1), (9, .goto 6, 3), (12, .astore_n 3, 1), (13, .iconst 1, 1), (14, .ireturn, 1), (15, .iconst 0, 1), (16, .ireturn, 1)] := dq_s 13 0 (by decide +kernel)
theorem dL_chorus_0 : decode cL_chorus 0 = .ok (.aload_n 2, 1) := dq_h dzL_chorus_0
theorem dL_chorus_1 : decode cL_chorus 1 = .ok (.iconst 0, 1) := dq_h (dq_t dzL_chorus_0)
theorem dL_chorus_2 : decode cL_chorus 2 = .ok (.aload_n 0, 1) := dq_h (dq_t (dq_t dzL_chorus_0))
theorem dL_chorus_3 : decode cL_chorus 3 = .ok (.iload_n 1, 1) := dq_h (dq_t (dq_t (dq_t dzL_chorus_0)))
theorem dL_chorus_4 : decode cL_chorus 4 = .ok (.invokevirtual 63, 3) := dq_h (dq_t (dq_t (dq_t (dq_t dzL_chorus_0))))
theorem dL_chorus_7 : decode cL_chorus 7 = .ok (.i2l, 1) := dq_h (dq_t (dq_t (dq_t (dq_t (dq_t dzL_chorus_0)))))
theorem dL_chorus_8 : decode cL_chorus 8 = .ok (.lastore, 1) := dq_h (dq_t (dq_t (dq_t (dq_t (dq_t (dq_t dzL_chorus_0))))))
theorem dL_chorus_9 : decode cL_chorus 9 = .ok (.goto 6, 3) := dq_h (dq_t (dq_t (dq_t (dq_t (dq_t (dq_t (dq_t dzL_chorus_0)))))))
theorem dL_chorus_12 : decode cL_chorus 12 = .ok (.astore_n 3, 1) := dq_h (dq_t (dq_t (dq_t (dq_t (dq_t (dq_t (dq_t (dq_t dzL_chorus_0))))))))
theorem dL_chorus_13 : decode cL_chorus 13 = .ok (.iconst 1, 1) := dq_h (dq_t (dq_t (dq_t (dq_t (dq_t (dq_t (dq_t (dq_t (dq_t dzL_chorus_0)))))))))
theorem dL_chorus_14 : decode cL_chorus 14 = .ok (.ireturn, 1) := dq_h (dq_t (dq_t (dq_t (dq_t (dq_t (dq_t (dq_t (dq_t (dq_t (dq_t dzL_chorus_0))))))))))
theorem dL_chorus_15 : decode cL_chorus 15 = .ok (.iconst 0, 1) := dq_h (dq_t (dq_t (dq_t (dq_t (dq_t (dq_t (dq_t (dq_t (dq_t (dq_t (dq_t dzL_chorus_0)))))))))))
theorem dL_chorus_16 : decode cL_chorus 16 = .ok (.ireturn, 1) := dq_h (dq_t (dq_t (dq_t (dq_t (dq_t (dq_t (dq_t (dq_t (dq_t (dq_t (dq_t (dq_t dzL_chorus_0))))))))))))
theorem dzL_together_0 : dq_F cL_together [(0, .aload_n 2, 1), (1, .iconst 0, 1), (2, .aload_n 0, 1), (3, .iload_n 1, 1), (4, .invokevirtual 66, 3), (7, .i2l, 1), (8, .lastore, 1), (9, .goto 6, 3), (12, .astore_n 3, 1), (13, .iconst 1, 1), (14, .ireturn, 1), (15, .iconst 0, 1), (16, .ireturn, 1)] := dq_s 13 0 (by decide +kernel)
theorem dL_together_0 : decode cL_together 0 = .ok (.aload_n 2, 1) := dq_h dzL_together_0
theorem dL_together_1 : decode cL_together 1 = .ok (.iconst 0, 1) := dq_h (dq_t dzL_together_0)
theorem dL_together_2 : decode cL_together 2 = .ok (.aload_n 0, 1) := dq_h (dq_t (dq_t dzL_together_0))
theorem dL_together_3 : decode cL_together 3 = .ok (.iload_n 1, 1) := dq_h (dq_t (dq_t (dq_t dzL_together_0)))
theorem dL_together_4 : decode cL_together 4 = .ok (.invokevirtual 66, 3) := dq_h (dq_t (dq_t (dq_t (dq_t dzL_together_0))))
theorem dL_together_7 : decode cL_together 7 = .ok (.i2l, 1) := dq_h (dq_t (dq_t (dq_t (dq_t (dq_t dzL_together_0)))))
theorem dL_together_8 : decode cL_together 8 = .ok (.lastore, 1) := dq_h (dq_t (dq_t (dq_t (dq_t (dq_t (dq_t dzL_together_0))))))
theorem dL_together_9 : decode cL_together 9 = .ok (.goto 6, 3) := dq_h (dq_t (dq_t (dq_t (dq_t (dq_t (dq_t (dq_t dzL_together_0)))))))
theorem dL_together_12 : decode cL_together 12 = .ok (.astore_n 3, 1) := dq_h (dq_t (dq_t (dq_t (dq_t (dq_t (dq_t (dq_t (dq_t dzL_together_0))))))))
theorem dL_together_13 : decode cL_together 13 = .ok (.iconst 1, 1) := dq_h (dq_t (dq_t (dq_t (dq_t (dq_t (dq_t (dq_t (dq_t (dq_t dzL_together_0)))))))))
theorem dL_together_14 : decode cL_together 14 = .ok (.ireturn, 1) := dq_h (dq_t (dq_t (dq_t (dq_t (dq_t (dq_t (dq_t (dq_t (dq_t (dq_t dzL_together_0))))))))))
theorem dL_together_15 : decode cL_together 15 = .ok (.iconst 0, 1) := dq_h (dq_t (dq_t (dq_t (dq_t (dq_t (dq_t (dq_t (dq_t (dq_t (dq_t (dq_t dzL_together_0)))))))))))
theorem dL_together_16 : decode cL_together 16 = .ok (.ireturn, 1) := dq_h (dq_t (dq_t (dq_t (dq_t (dq_t (dq_t (dq_t (dq_t (dq_t (dq_t (dq_t (dq_t dzL_together_0))))))))))))
theorem dzL_rhythm_0 : dq_F cL_rhythm [(0, .aload_n 2, 1), (1, .iconst 0, 1), (2, .aload_n 0, 1), (3, .iload_n 1, 1), (4, .invokevirtual 69, 3), (7, .i2l, 1), (8, .lastore, 1), (9, .goto 6, 3), (12, .astore_n 3, 1), (13, .iconst 1, 1), (14, .ireturn, 1), (15, .iconst 0, 1), (16, .ireturn, 1)] := dq_s 13 0 (by decide +kernel)
theorem dL_rhythm_0 : decode cL_rhythm 0 = .ok (.aload_n 2, 1) := dq_h dzL_rhythm_0
theorem dL_rhythm_1 : decode cL_rhythm 1 = .ok (.iconst 0, 1) := dq_h (dq_t dzL_rhythm_0)
theorem dL_rhythm_2 : decode cL_rhythm 2 = .ok (.aload_n 0, 1) := dq_h (dq_t (dq_t dzL_rhythm_0))
theorem dL_rhythm_3 : decode cL_rhythm 3 = .ok (.iload_n 1, 1) := dq_h (dq_t (dq_t (dq_t dzL_rhythm_0)))
theorem dL_rhythm_4 : decode cL_rhythm 4 = .ok (.invokevirtual 69, 3) := dq_h (dq_t (dq_t (dq_t (dq_t dzL_rhythm_0))))
theorem dL_rhythm_7 : decode cL_rhythm 7 = .ok (.i2l, 1) := dq_h (dq_t (dq_t (dq_t (dq_t (dq_t dzL_rhythm_0)))))
theorem dL_rhythm_8 : decode cL_rhythm 8 = .ok (.lastore, 1) := dq_h (dq_t (dq_t (dq_t (dq_t (dq_t (dq_t dzL_rhythm_0))))))
theorem dL_rhythm_9 : decode cL_rhythm 9 = .ok (.goto 6, 3) := dq_h (dq_t (dq_t (dq_t (dq_t (dq_t (dq_t (dq_t dzL_rhythm_0)))))))
theorem dL_rhythm_12 : decode cL_rhythm 12 = .ok (.astore_n 3, 1) := dq_h (dq_t (dq_t (dq_t (dq_t (dq_t (dq_t (dq_t (dq_t dzL_rhythm_0))))))))
theorem dL_rhythm_13 : decode cL_rhythm 13 = .ok (.iconst 1, 1) := dq_h (dq_t (dq_t (dq_t (dq_t (dq_t (dq_t (dq_t (dq_t (dq_t dzL_rhythm_0)))))))))
theorem dL_rhythm_14 : decode cL_rhythm 14 = .ok (.ireturn, 1) := dq_h (dq_t (dq_t (dq_t (dq_t (dq_t (dq_t (dq_t (dq_t (dq_t (dq_t dzL_rhythm_0))))))))))
theorem dL_rhythm_15 : decode cL_rhythm 15 = .ok (.iconst 0, 1) := dq_h (dq_t (dq_t (dq_t (dq_t (dq_t (dq_t (dq_t (dq_t (dq_t (dq_t (dq_t dzL_rhythm_0)))))))))))
theorem dL_rhythm_16 : decode cL_rhythm 16 = .ok (.ireturn, 1) := dq_h (dq_t (dq_t (dq_t (dq_t (dq_t (dq_t (dq_t (dq_t (dq_t (dq_t (dq_t (dq_t dzL_rhythm_0))))))))))))
theorem dzL_often_0 : dq_F cL_often [(0, .aload_n 3, 1), (1, .iconst 0, 1), (2, .aload_n 0, 1), (3, .iload_n 1, 1), (4, .iload_n 2, 1), (5, .invokevirtual 72, 3), (8, .i2l, 1), (9, .lastore, 1), (10, .goto 11, 3), (13, .astore 4, 2), (15, .iconst 1, 1), (16, .ireturn, 1), (17, .astore 4, 2), (19, .iconst 2, 1), (20, .ireturn, 1), (21, .iconst 0, 1), (22, .ireturn, 1)] := dq_s 17 0 (by decide +kernel)
theorem dL_often_0 : decode cL_often 0 = .ok (.aload_n 3, 1) := dq_h dzL_often_0
theorem dL_often_1 : decode cL_often 1 = .ok (.iconst 0, 1) := dq_h (dq_t dzL_often_0)
theorem dL_often_2 : decode cL_often 2 = .ok (.aload_n 0, 1) := dq_h (dq_t (dq_t dzL_often_0))
theorem dL_often_3 : decode cL_often 3 = .ok (.iload_n 1, 1) := dq_h (dq_t (dq_t (dq_t dzL_often_0)))
theorem dL_often_4 : decode cL_often 4 = .ok (.iload_n 2, 1) := dq_h (dq_t (dq_t (dq_t (dq_t dzL_often_0))))
theorem dL_often_5 : decode cL_often 5 = .ok (.invokevirtual 72, 3) := dq_h (dq_t (dq_t (dq_t (dq_t (dq_t dzL_often_0)))))
theorem dL_often_8 : decode cL_often 8 = .ok (.i2l, 1) := dq_h (dq_t (dq_t (dq_t (dq_t (dq_t (dq_t dzL_often_0))))))
theorem dL_often_9 : decode cL_often 9 = .ok (.lastore, 1) := dq_h (dq_t (dq_t (dq_t (dq_t (dq_t (dq_t (dq_t dzL_often_0)))))))
theorem dL_often_10 : decode cL_often 10 = .ok (.goto 11, 3) := dq_h (dq_t (dq_t (dq_t (dq_t (dq_t (dq_t (dq_t (dq_t dzL_often_0))))))))
theorem dL_often_13 : decode cL_often 13 = .ok (.astore 4, 2) := dq_h (dq_t (dq_t (dq_t (dq_t (dq_t (dq_t (dq_t (dq_t (dq_t dzL_often_0)))))))))
theorem dL_often_15 : decode cL_often 15 = .ok (.iconst 1, 1) := dq_h (dq_t (dq_t (dq_t (dq_t (dq_t (dq_t (dq_t (dq_t (dq_t (dq_t dzL_often_0))))))))))
theorem dL_often_16 : decode cL_often 16 = .ok (.ireturn, 1) := dq_h (dq_t (dq_t (dq_t (dq_t (dq_t (dq_t (dq_t (dq_t (dq_t (dq_t (dq_t dzL_often_0)))))))))))
theorem dL_often_17 : decode cL_often 17 = .ok (.astore 4, 2) := dq_h (dq_t (dq_t (dq_t (dq_t (dq_t (dq_t (dq_t (dq_t (dq_t (dq_t (dq_t (dq_t dzL_often_0))))))))))))
theorem dL_often_19 : decode cL_often 19 = .ok (.iconst 2, 1) := dq_h (dq_t (dq_t (dq_t (dq_t (dq_t (dq_t (dq_t (dq_t (dq_t (dq_t (dq_t (dq_t (dq_t dzL_often_0)))))))))))))
theorem dL_often_20 : decode cL_often 20 = .ok (.ireturn, 1) := dq_h (dq_t (dq_t (dq_t (dq_t (dq_t (dq_t (dq_t (dq_t (dq_t (dq_t (dq_t (dq_t (dq_t (dq_t dzL_often_0))))))))))))))
theorem dL_often_21 : decode cL_often 21 = .ok (.iconst 0, 1) := dq_h (dq_t (dq_t (dq_t (dq_t (dq_t (dq_t (dq_t (dq_t (dq_t (dq_t (dq_t (dq_t (dq_t (dq_t (dq_t dzL_often_0)))))))))))))))
theorem dL_often_22 : decode cL_often 22 = .ok (.ireturn, 1) := dq_h (dq_t (dq_t (dq_t (dq_t (dq_t (dq_t (dq_t (dq_t (dq_t (dq_t (dq_t (dq_t (dq_t (dq_t (dq_t (dq_t dzL_often_0))))))))))))))))
theorem dzL_toHire_0 : dq_F cL_toHire [(0, .aload 4, 2), (2, .iconst 0, 1), (3, .aload_n 0, 1), (4, .iload_n 1, 1), (5, .iload_n 2, 1), (6, .iload_n 3, 1), (7, .invokevirtual 75, 3), (10, .i2l, 1), (11, .lastore, 1), (12, .goto 11, 3), (15, .astore 5, 2), (17, .iconst 1, 1), (18, .ireturn, 1), (19, .astore 5, 2), (21, .iconst 2, 1), (22, .ireturn, 1), (23, .iconst 0, 1), (24, .ireturn, 1)] := dq_s 18 0 (by decide +kernel)
theorem dL_toHire_0 : decode cL_toHire 0 = .ok (.aload 4, 2) := dq_h dzL_toHire_0
theorem dL_toHire_2 : decode cL_toHire 2 = .ok (.iconst 0, 1) := dq_h (dq_t dzL_toHire_0)
theorem dL_toHire_3 : decode cL_toHire 3 = .ok (.aload_n 0, 1) := dq_h (dq_t (dq_t dzL_toHire_0))
theorem dL_toHire_4 : decode cL_toHire 4 = .ok (.iload_n 1, 1) := dq_h (dq_t (dq_t (dq_t dzL_toHire_0)))
theorem dL_toHire_5 : decode cL_toHire 5 = .ok (.iload_n 2, 1) := dq_h (dq_t (dq_t (dq_t (dq_t dzL_toHire_0))))
theorem dL_toHire_6 : decode cL_toHire 6 = .ok (.iload_n 3, 1) := dq_h (dq_t (dq_t (dq_t (dq_t (dq_t dzL_toHire_0)))))
theorem dL_toHire_7 : decode cL_toHire 7 = .ok (.invokevirtual 75, 3) := dq_h (dq_t (dq_t (dq_t (dq_t (dq_t (dq_t dzL_toHire_0))))))
theorem dL_toHire_10 : decode cL_toHire 10 = .ok (.i2l, 1) := dq_h (dq_t (dq_t (dq_t (dq_t (dq_t (dq_t (dq_t dzL_toHire_0)))))))
theorem dL_toHire_11 : decode cL_toHire 11 = .ok (.lastore, 1) := dq_h (dq_t (dq_t (dq_t (dq_t (dq_t (dq_t (dq_t (dq_t dzL_toHire_0))))))))
theorem dL_toHire_12 : decode cL_toHire 12 = .ok (.goto 11, 3) := dq_h (dq_t (dq_t (dq_t (dq_t (dq_t (dq_t (dq_t (dq_t (dq_t dzL_toHire_0)))))))))
theorem dL_toHire_15 : decode cL_toHire 15 = .ok (.astore 5, 2) := dq_h (dq_t (dq_t (dq_t (dq_t (dq_t (dq_t (dq_t (dq_t (dq_t (dq_t dzL_toHire_0))))))))))
theorem dL_toHire_17 : decode cL_toHire 17 = .ok (.iconst 1, 1) := dq_h (dq_t (dq_t (dq_t (dq_t (dq_t (dq_t (dq_t (dq_t (dq_t (dq_t (dq_t dzL_toHire_0)))))))))))
theorem dL_toHire_18 : decode cL_toHire 18 = .ok (.ireturn, 1) := dq_h (dq_t (dq_t (dq_t (dq_t (dq_t (dq_t (dq_t (dq_t (dq_t (dq_t (dq_t (dq_t dzL_toHire_0))))))))))))
theorem dL_toHire_19 : decode cL_toHire 19 = .ok (.astore 5, 2) := dq_h (dq_t (dq_t (dq_t (dq_t (dq_t (dq_t (dq_t (dq_t (dq_t (dq_t (dq_t (dq_t (dq_t dzL_toHire_0)))))))))))))
theorem dL_toHire_21 : decode cL_toHire 21 = .ok (.iconst 2, 1) := dq_h (dq_t (dq_t (dq_t (dq_t (dq_t (dq_t (dq_t (dq_t (dq_t (dq_t (dq_t (dq_t (dq_t (dq_t dzL_toHire_0))))))))))))))
theorem dL_toHire_22 : decode cL_toHire 22 = .ok (.ireturn, 1) := dq_h (dq_t (dq_t (dq_t (dq_t (dq_t (dq_t (dq_t (dq_t (dq_t (dq_t (dq_t (dq_t (dq_t (dq_t (dq_t dzL_toHire_0)))))))))))))))
theorem dL_toHire_23 : decode cL_toHire 23 = .ok (.iconst 0, 1) := dq_h (dq_t (dq_t (dq_t (dq_t (dq_t (dq_t (dq_t (dq_t (dq_t (dq_t (dq_t (dq_t (dq_t (dq_t (dq_t (dq_t dzL_toHire_0))))))))))))))))
theorem dL_toHire_24 : decode cL_toHire 24 = .ok (.ireturn, 1) := dq_h (dq_t (dq_t (dq_t (dq_t (dq_t (dq_t (dq_t (dq_t (dq_t (dq_t (dq_t (dq_t (dq_t (dq_t (dq_t (dq_t (dq_t dzL_toHire_0)))))))))))))))))
theorem dzL_shared_0 : dq_F cL_shared [(0, .aload_n 2, 1), (1, .iconst 0, 1), (2, .aload_n 0, 1), (3, .iload_n 1, 1), (4, .invokevirtual 78, 3), (7, .i2l, 1), (8, .lastore, 1), (9, .goto 6, 3), (12, .astore_n 3, 1), (13, .iconst 1, 1), (14, .ireturn, 1), (15, .iconst 0, 1), (16, .ireturn, 1)] := dq_s 13 0 (by decide +kernel)
theorem dL_shared_0 : decode cL_shared 0 = .ok (.aload_n 2, 1) := dq_h dzL_shared_0
theorem dL_shared_1 : decode cL_shared 1 = .ok (.iconst 0, 1) := dq_h (dq_t dzL_shared_0)
theorem dL_shared_2 : decode cL_shared 2 = .ok (.aload_n 0, 1) := dq_h (dq_t (dq_t dzL_shared_0))
theorem dL_shared_3 : decode cL_shared 3 = .ok (.iload_n 1, 1) := dq_h (dq_t (dq_t (dq_t dzL_shared_0)))
theorem dL_shared_4 : decode cL_shared 4 = .ok (.invokevirtual 78, 3) := dq_h (dq_t (dq_t (dq_t (dq_t dzL_shared_0))))
theorem dL_shared_7 : decode cL_shared 7 = .ok (.i2l, 1) := dq_h (dq_t (dq_t (dq_t (dq_t (dq_t dzL_shared_0)))))
theorem dL_shared_8 : decode cL_shared 8 = .ok (.lastore, 1) := dq_h (dq_t (dq_t (dq_t (dq_t (dq_t (dq_t dzL_shared_0))))))
theorem dL_shared_9 : decode cL_shared 9 = .ok (.goto 6, 3) := dq_h (dq_t (dq_t (dq_t (dq_t (dq_t (dq_t (dq_t dzL_shared_0)))))))
theorem dL_shared_12 : decode cL_shared 12 = .ok (.astore_n 3, 1) := dq_h (dq_t (dq_t (dq_t (dq_t (dq_t (dq_t (dq_t (dq_t dzL_shared_0))))))))
theorem dL_shared_13 : decode cL_shared 13 = .ok (.iconst 1, 1) := dq_h (dq_t (dq_t (dq_t (dq_t (dq_t (dq_t (dq_t (dq_t (dq_t dzL_shared_0)))))))))
theorem dL_shared_14 : decode cL_shared 14 = .ok (.ireturn, 1) := dq_h (dq_t (dq_t (dq_t (dq_t (dq_t (dq_t (dq_t (dq_t (dq_t (dq_t dzL_shared_0))))))))))
theorem dL_shared_15 : decode cL_shared 15 = .ok (.iconst 0, 1) := dq_h (dq_t (dq_t (dq_t (dq_t (dq_t (dq_t (dq_t (dq_t (dq_t (dq_t (dq_t dzL_shared_0)))))))))))
theorem dL_shared_16 : decode cL_shared 16 = .ok (.ireturn, 1) := dq_h (dq_t (dq_t (dq_t (dq_t (dq_t (dq_t (dq_t (dq_t (dq_t (dq_t (dq_t (dq_t dzL_shared_0))))))))))))
theorem dzL_has_0 : dq_F cL_has [(0, .aload_n 2, 1), (1, .iconst 0, 1), (2, .aload_n 0, 1), (3, .iload_n 1, 1), (4, .invokevirtual 81, 3), (7, .i2l, 1), (8, .lastore, 1), (9, .goto 6, 3), (12, .astore_n 3, 1), (13, .iconst 1, 1), (14, .ireturn, 1), (15, .iconst 0, 1), (16, .ireturn, 1)] := dq_s 13 0 (by decide +kernel)
theorem dL_has_0 : decode cL_has 0 = .ok (.aload_n 2, 1) := dq_h dzL_has_0
theorem dL_has_1 : decode cL_has 1 = .ok (.iconst 0, 1) := dq_h (dq_t dzL_has_0)
theorem dL_has_2 : decode cL_has 2 = .ok (.aload_n 0, 1) := dq_h (dq_t (dq_t dzL_has_0))
theorem dL_has_3 : decode cL_has 3 = .ok (.iload_n 1, 1) := dq_h (dq_t (dq_t (dq_t dzL_has_0)))
theorem dL_has_4 : decode cL_has 4 = .ok (.invokevirtual 81, 3) := dq_h (dq_t (dq_t (dq_t (dq_t dzL_has_0))))
theorem dL_has_7 : decode cL_has 7 = .ok (.i2l, 1) := dq_h (dq_t (dq_t (dq_t (dq_t (dq_t dzL_has_0)))))
theorem dL_has_8 : decode cL_has 8 = .ok (.lastore, 1) := dq_h (dq_t (dq_t (dq_t (dq_t (dq_t (dq_t dzL_has_0))))))
theorem dL_has_9 : decode cL_has 9 = .ok (.goto 6, 3) := dq_h (dq_t (dq_t (dq_t (dq_t (dq_t (dq_t (dq_t dzL_has_0)))))))
theorem dL_has_12 : decode cL_has 12 = .ok (.astore_n 3, 1) := dq_h (dq_t (dq_t (dq_t (dq_t (dq_t (dq_t (dq_t (dq_t dzL_has_0))))))))
theorem dL_has_13 : decode cL_has 13 = .ok (.iconst 1, 1) := dq_h (dq_t (dq_t (dq_t (dq_t (dq_t (dq_t (dq_t (dq_t (dq_t dzL_has_0)))))))))
theorem dL_has_14 : decode cL_has 14 = .ok (.ireturn, 1) := dq_h (dq_t (dq_t (dq_t (dq_t (dq_t (dq_t (dq_t (dq_t (dq_t (dq_t dzL_has_0))))))))))
theorem dL_has_15 : decode cL_has 15 = .ok (.iconst 0, 1) := dq_h (dq_t (dq_t (dq_t (dq_t (dq_t (dq_t (dq_t (dq_t (dq_t (dq_t (dq_t dzL_has_0)))))))))))
theorem dL_has_16 : decode cL_has 16 = .ok (.ireturn, 1) := dq_h (dq_t (dq_t (dq_t (dq_t (dq_t (dq_t (dq_t (dq_t (dq_t (dq_t (dq_t (dq_t dzL_has_0))))))))))))
theorem dzL_toGive_0 : dq_F cL_toGive [(0, .aload_n 3, 1), (1, .iconst 0, 1), (2, .aload_n 0, 1), (3, .iload_n 1, 1), (4, .iload_n 2, 1), (5, .invokevirtual 84, 3), (8, .i2l, 1), (9, .lastore, 1), (10, .goto 11, 3), (13, .astore 4, 2), (15, .iconst 1, 1), (16, .ireturn, 1), (17, .astore 4, 2), (19, .iconst 2, 1), (20, .ireturn, 1), (21, .iconst 0, 1), (22, .ireturn, 1)] := dq_s 17 0 (by decide +kernel)
theorem dL_toGive_0 : decode cL_toGive 0 = .ok (.aload_n 3, 1) := dq_h dzL_toGive_0
theorem dL_toGive_1 : decode cL_toGive 1 = .ok (.iconst 0, 1) := dq_h (dq_t dzL_toGive_0)
theorem dL_toGive_2 : decode cL_toGive 2 = .ok (.aload_n 0, 1) := dq_h (dq_t (dq_t dzL_toGive_0))
theorem dL_toGive_3 : decode cL_toGive 3 = .ok (.iload_n 1, 1) := dq_h (dq_t (dq_t (dq_t dzL_toGive_0)))
theorem dL_toGive_4 : decode cL_toGive 4 = .ok (.iload_n 2, 1) := dq_h (dq_t (dq_t (dq_t (dq_t dzL_toGive_0))))
theorem dL_toGive_5 : decode cL_toGive 5 = .ok (.invokevirtual 84, 3) := dq_h (dq_t (dq_t (dq_t (dq_t (dq_t dzL_toGive_0)))))
theorem dL_toGive_8 : decode cL_toGive 8 = .ok (.i2l, 1) := dq_h (dq_t (dq_t (dq_t (dq_t (dq_t (dq_t dzL_toGive_0))))))
theorem dL_toGive_9 : decode cL_toGive 9 = .ok (.lastore, 1) := dq_h (dq_t (dq_t (dq_t (dq_t (dq_t (dq_t (dq_t dzL_toGive_0)))))))
theorem dL_toGive_10 : decode cL_toGive 10 = .ok (.goto 11, 3) := dq_h (dq_t (dq_t (dq_t (dq_t (dq_t (dq_t (dq_t (dq_t dzL_toGive_0))))))))
theorem dL_toGive_13 : decode cL_toGive 13 = .ok (.astore 4, 2) := dq_h (dq_t (dq_t (dq_t (dq_t (dq_t (dq_t (dq_t (dq_t (dq_t dzL_toGive_0)))))))))
theorem dL_toGive_15 : decode cL_toGive 15 = .ok (.iconst 1, 1) := dq_h (dq_t (dq_t (dq_t (dq_t (dq_t (dq_t (dq_t (dq_t (dq_t (dq_t dzL_toGive_0))))))))))
theorem dL_toGive_16 : decode cL_toGive 16 = .ok (.ireturn, 1) := dq_h (dq_t (dq_t (dq_t (dq_t (dq_t (dq_t (dq_t (dq_t (dq_t (dq_t (dq_t dzL_toGive_0)))))))))))
theorem dL_toGive_17 : decode cL_toGive 17 = .ok (.astore 4, 2) := dq_h (dq_t (dq_t (dq_t (dq_t (dq_t (dq_t (dq_t (dq_t (dq_t (dq_t (dq_t (dq_t dzL_toGive_0))))))))))))
theorem dL_toGive_19 : decode cL_toGive 19 = .ok (.iconst 2, 1) := dq_h (dq_t (dq_t (dq_t (dq_t (dq_t (dq_t (dq_t (dq_t (dq_t (dq_t (dq_t (dq_t (dq_t dzL_toGive_0)))))))))))))
theorem dL_toGive_20 : decode cL_toGive 20 = .ok (.ireturn, 1) := dq_h (dq_t (dq_t (dq_t (dq_t (dq_t (dq_t (dq_t (dq_t (dq_t (dq_t (dq_t (dq_t (dq_t (dq_t dzL_toGive_0))))))))))))))
theorem dL_toGive_21 : decode cL_toGive 21 = .ok (.iconst 0, 1) := dq_h (dq_t (dq_t (dq_t (dq_t (dq_t (dq_t (dq_t (dq_t (dq_t (dq_t (dq_t (dq_t (dq_t (dq_t (dq_t dzL_toGive_0)))))))))))))))
theorem dL_toGive_22 : decode cL_toGive 22 = .ok (.ireturn, 1) := dq_h (dq_t (dq_t (dq_t (dq_t (dq_t (dq_t (dq_t (dq_t (dq_t (dq_t (dq_t (dq_t (dq_t (dq_t (dq_t (dq_t dzL_toGive_0))))))))))))))))
theorem dzL_confessing_0 : dq_F cL_confessing [(0, .aload_n 3, 1), (1, .iconst 0, 1), (2, .aload_n 0, 1), (3, .iload_n 1, 1), (4, .iload_n 2, 1), (5, .invokevirtual 87, 3), (8, .i2l, 1), (9, .lastore, 1), (10, .goto 11, 3), (13, .astore 4, 2), (15, .iconst 1, 1), (16, .ireturn, 1), (17, .astore 4, 2), (19, .iconst 2, 1), (20, .ireturn, 1), (21, .iconst 0, 1), (22, .ireturn, 1)] := dq_s 17 0 (by decide +kernel)
theorem dL_confessing_0 : decode cL_confessing 0 = .ok (.aload_n 3, 1) := dq_h dzL_confessing_0
theorem dL_confessing_1 : decode cL_confessing 1 = .ok (.iconst 0, 1) := dq_h (dq_t dzL_confessing_0)
theorem dL_confessing_2 : decode cL_confessing 2 = .ok (.aload_n 0, 1) := dq_h (dq_t (dq_t dzL_confessing_0))
theorem dL_confessing_3 : decode cL_confessing 3 = .ok (.iload_n 1, 1) := dq_h (dq_t (dq_t (dq_t dzL_confessing_0)))
theorem dL_confessing_4 : decode cL_confessing 4 = .ok (.iload_n 2, 1) := dq_h (dq_t (dq_t (dq_t (dq_t dzL_confessing_0))))
theorem dL_confessing_5 : decode cL_confessing 5 = .ok (.invokevirtual 87, 3) := dq_h (dq_t (dq_t (dq_t (dq_t (dq_t dzL_confessing_0)))))
theorem dL_confessing_8 : decode cL_confessing 8 = .ok (.i2l, 1) := dq_h (dq_t (dq_t (dq_t (dq_t (dq_t (dq_t dzL_confessing_0))))))
theorem dL_confessing_9 : decode cL_confessing 9 = .ok (.lastore, 1) := dq_h (dq_t (dq_t (dq_t (dq_t (dq_t (dq_t (dq_t dzL_confessing_0)))))))
theorem dL_confessing_10 : decode cL_confessing 10 = .ok (.goto 11, 3) := dq_h (dq_t (dq_t (dq_t (dq_t (dq_t (dq_t (dq_t (dq_t dzL_confessing_0))))))))
theorem dL_confessing_13 : decode cL_confessing 13 = .ok (.astore 4, 2) := dq_h (dq_t (dq_t (dq_t (dq_t (dq_t (dq_t (dq_t (dq_t (dq_t dzL_confessing_0)))))))))
theorem dL_confessing_15 : decode cL_confessing 15 = .ok (.iconst 1, 1) := dq_h (dq_t (dq_t (dq_t (dq_t (dq_t (dq_t (dq_t (dq_t (dq_t (dq_t dzL_confessing_0))))))))))
theorem dL_confessing_16 : decode cL_confessing 16 = .ok (.ireturn, 1) := dq_h (dq_t (dq_t (dq_t (dq_t (dq_t (dq_t (dq_t (dq_t (dq_t (dq_t (dq_t dzL_confessing_0)))))))))))
theorem dL_confessing_17 : decode cL_confessing 17 = .ok (.astore 4, 2) := dq_h (dq_t (dq_t (dq_t (dq_t (dq_t (dq_t (dq_t (dq_t (dq_t (dq_t (dq_t (dq_t dzL_confessing_0))))))))))))
theorem dL_confessing_19 : decode cL_confessing 19 = .ok (.iconst 2, 1) := dq_h (dq_t (dq_t (dq_t (dq_t (dq_t (dq_t (dq_t (dq_t (dq_t (dq_t (dq_t (dq_t (dq_t dzL_confessing_0)))))))))))))
theorem dL_confessing_20 : decode cL_confessing 20 = .ok (.ireturn, 1) := dq_h (dq_t (dq_t (dq_t (dq_t (dq_t (dq_t (dq_t (dq_t (dq_t (dq_t (dq_t (dq_t (dq_t (dq_t dzL_confessing_0))))))))))))))
theorem dL_confessing_21 : decode cL_confessing 21 = .ok (.iconst 0, 1) := dq_h (dq_t (dq_t (dq_t (dq_t (dq_t (dq_t (dq_t (dq_t (dq_t (dq_t (dq_t (dq_t (dq_t (dq_t (dq_t dzL_confessing_0)))))))))))))))
theorem dL_confessing_22 : decode cL_confessing 22 = .ok (.ireturn, 1) := dq_h (dq_t (dq_t (dq_t (dq_t (dq_t (dq_t (dq_t (dq_t (dq_t (dq_t (dq_t (dq_t (dq_t (dq_t (dq_t (dq_t dzL_confessing_0))))))))))))))))
theorem dzL_see_0 : dq_F cL_see [(0, .aload 4, 2), (2, .iconst 0, 1), (3, .aload_n 0, 1), (4, .iload_n 1, 1), (5, .iload_n 2, 1), (6, .iload_n 3, 1), (7, .invokevirtual 90, 3), (10, .i2l, 1), (11, .lastore, 1), (12, .goto 7, 3), (15, .astore 5, 2), (17, .iconst 1, 1), (18, .ireturn, 1), (19, .iconst 0, 1), (20, .ireturn, 1)] := dq_s 15 0 (by decide +kernel)
theorem dL_see_0 : decode cL_see 0 = .ok (.aload 4, 2) := dq_h dzL_see_0
theorem dL_see_2 : decode cL_see 2 = .ok (.iconst 0, 1) := dq_h (dq_t dzL_see_0)
theorem dL_see_3 : decode cL_see 3 = .ok (.aload_n 0, 1) := dq_h (dq_t (dq_t dzL_see_0))
theorem dL_see_4 : decode cL_see 4 = .ok (.iload_n 1, 1) := dq_h (dq_t (dq_t (dq_t dzL_see_0)))
theorem dL_see_5 : decode cL_see 5 = .ok (.iload_n 2, 1) := dq_h (dq_t (dq_t (dq_t (dq_t dzL_see_0))))
theorem dL_see_6 : decode cL_see 6 = .ok (.iload_n 3, 1) := dq_h (dq_t (dq_t (dq_t (dq_t (dq_t dzL_see_0)))))
theorem dL_see_7 : decode cL_see 7 = .ok (.invokevirtual 90, 3) := dq_h (dq_t (dq_t (dq_t (dq_t (dq_t (dq_t dzL_see_0))))))
theorem dL_see_10 : decode cL_see 10 = .ok (.i2l, 1) := dq_h (dq_t (dq_t (dq_t (dq_t (dq_t (dq_t (dq_t dzL_see_0)))))))
theorem dL_see_11 : decode cL_see 11 = .ok (.lastore, 1) := dq_h (dq_t (dq_t (dq_t (dq_t (dq_t (dq_t (dq_t (dq_t dzL_see_0))))))))
theorem dL_see_12 : decode cL_see 12 = .ok (.goto 7, 3) := dq_h (dq_t (dq_t (dq_t (dq_t (dq_t (dq_t (dq_t (dq_t (dq_t dzL_see_0)))))))))
theorem dL_see_15 : decode cL_see 15 = .ok (.astore 5, 2) := dq_h (dq_t (dq_t (dq_t (dq_t (dq_t (dq_t (dq_t (dq_t (dq_t (dq_t dzL_see_0))))))))))
theorem dL_see_17 : decode cL_see 17 = .ok (.iconst 1, 1) := dq_h (dq_t (dq_t (dq_t (dq_t (dq_t (dq_t (dq_t (dq_t (dq_t (dq_t (dq_t dzL_see_0)))))))))))
theorem dL_see_18 : decode cL_see 18 = .ok (.ireturn, 1) := dq_h (dq_t (dq_t (dq_t (dq_t (dq_t (dq_t (dq_t (dq_t (dq_t (dq_t (dq_t (dq_t dzL_see_0))))))))))))
theorem dL_see_19 : decode cL_see 19 = .ok (.iconst 0, 1) := dq_h (dq_t (dq_t (dq_t (dq_t (dq_t (dq_t (dq_t (dq_t (dq_t (dq_t (dq_t (dq_t (dq_t dzL_see_0)))))))))))))
theorem dL_see_20 : decode cL_see 20 = .ok (.ireturn, 1) := dq_h (dq_t (dq_t (dq_t (dq_t (dq_t (dq_t (dq_t (dq_t (dq_t (dq_t (dq_t (dq_t (dq_t (dq_t dzL_see_0))))))))))))))
theorem dzL_greedy_0 : dq_F cL_greedy [(0, .aload_n 2, 1), (1, .iconst 0, 1), (2, .aload_n 0, 1), (3, .iload_n 1, 1), (4, .invokevirtual 93, 3), (7, .i2l, 1), (8, .lastore, 1), (9, .goto 6, 3), (12, .astore_n 3, 1), (13, .iconst 1, 1), (14, .ireturn, 1), (15, .iconst 0, 1), (16, .ireturn, 1)] := dq_s 13 0 (by decide +kernel)
theorem dL_greedy_0 : decode cL_greedy 0 = .ok (.aload_n 2, 1) := dq_h dzL_greedy_0
theorem dL_greedy_1 : decode cL_greedy 1 = .ok (.iconst 0, 1) := dq_h (dq_t dzL_greedy_0)
theorem dL_greedy_2 : decode cL_greedy 2 = .ok (.aload_n 0, 1) := dq_h (dq_t (dq_t dzL_greedy_0))
theorem dL_greedy_3 : decode cL_greedy 3 = .ok (.iload_n 1, 1) := dq_h (dq_t (dq_t (dq_t dzL_greedy_0)))
theorem dL_greedy_4 : decode cL_greedy 4 = .ok (.invokevirtual 93, 3) := dq_h (dq_t (dq_t (dq_t (dq_t dzL_greedy_0))))
theorem dL_greedy_7 : decode cL_greedy 7 = .ok (.i2l, 1) := dq_h (dq_t (dq_t (dq_t (dq_t (dq_t dzL_greedy_0)))))
theorem dL_greedy_8 : decode cL_greedy 8 = .ok (.lastore, 1) := dq_h (dq_t (dq_t (dq_t (dq_t (dq_t (dq_t dzL_greedy_0))))))
theorem dL_greedy_9 : decode cL_greedy 9 = .ok (.goto 6, 3) := dq_h (dq_t (dq_t (dq_t (dq_t (dq_t (dq_t (dq_t dzL_greedy_0)))))))
theorem dL_greedy_12 : decode cL_greedy 12 = .ok (.astore_n 3, 1) := dq_h (dq_t (dq_t (dq_t (dq_t (dq_t (dq_t (dq_t (dq_t dzL_greedy_0))))))))
theorem dL_greedy_13 : decode cL_greedy 13 = .ok (.iconst 1, 1) := dq_h (dq_t (dq_t (dq_t (dq_t (dq_t (dq_t (dq_t (dq_t (dq_t dzL_greedy_0)))))))))
theorem dL_greedy_14 : decode cL_greedy 14 = .ok (.ireturn, 1) := dq_h (dq_t (dq_t (dq_t (dq_t (dq_t (dq_t (dq_t (dq_t (dq_t (dq_t dzL_greedy_0))))))))))
theorem dL_greedy_15 : decode cL_greedy 15 = .ok (.iconst 0, 1) := dq_h (dq_t (dq_t (dq_t (dq_t (dq_t (dq_t (dq_t (dq_t (dq_t (dq_t (dq_t dzL_greedy_0)))))))))))
theorem dL_greedy_16 : decode cL_greedy 16 = .ok (.ireturn, 1) := dq_h (dq_t (dq_t (dq_t (dq_t (dq_t (dq_t (dq_t (dq_t (dq_t (dq_t (dq_t (dq_t dzL_greedy_0))))))))))))
theorem dzL_look_0 : dq_F cL_look [(0, .aload_n 2, 1), (1, .iconst 0, 1), (2, .aload_n 0, 1), (3, .iload_n 1, 1), (4, .invokevirtual 96, 3), (7, .i2l, 1), (8, .lastore, 1), (9, .goto 6, 3), (12, .astore_n 3, 1), (13, .iconst 1, 1), (14, .ireturn, 1), (15, .iconst 0, 1), (16, .ireturn, 1)] := dq_s 13 0 (by decide +kernel)
theorem dL_look_0 : decode cL_look 0 = .ok (.aload_n 2, 1) := dq_h dzL_look_0
theorem dL_look_1 : decode cL_look 1 = .ok (.iconst 0, 1) := dq_h (dq_t dzL_look_0)
theorem dL_look_2 : decode cL_look 2 = .ok (.aload_n 0, 1) := dq_h (dq_t (dq_t dzL_look_0))
theorem dL_look_3 : decode cL_look 3 = .ok (.iload_n 1, 1) := dq_h (dq_t (dq_t (dq_t dzL_look_0)))
theorem dL_look_4 : decode cL_look 4 = .ok (.invokevirtual 96, 3) := dq_h (dq_t (dq_t (dq_t (dq_t dzL_look_0))))
theorem dL_look_7 : decode cL_look 7 = .ok (.i2l, 1) := dq_h (dq_t (dq_t (dq_t (dq_t (dq_t dzL_look_0)))))
theorem dL_look_8 : decode cL_look 8 = .ok (.lastore, 1) := dq_h (dq_t (dq_t (dq_t (dq_t (dq_t (dq_t dzL_look_0))))))
theorem dL_look_9 : decode cL_look 9 = .ok (.goto 6, 3) := dq_h (dq_t (dq_t (dq_t (dq_t (dq_t (dq_t (dq_t dzL_look_0)))))))
theorem dL_look_12 : decode cL_look 12 = .ok (.astore_n 3, 1) := dq_h (dq_t (dq_t (dq_t (dq_t (dq_t (dq_t (dq_t (dq_t dzL_look_0))))))))
theorem dL_look_13 : decode cL_look 13 = .ok (.iconst 1, 1) := dq_h (dq_t (dq_t (dq_t (dq_t (dq_t (dq_t (dq_t (dq_t (dq_t dzL_look_0)))))))))
theorem dL_look_14 : decode cL_look 14 = .ok (.ireturn, 1) := dq_h (dq_t (dq_t (dq_t (dq_t (dq_t (dq_t (dq_t (dq_t (dq_t (dq_t dzL_look_0))))))))))
theorem dL_look_15 : decode cL_look 15 = .ok (.iconst 0, 1) := dq_h (dq_t (dq_t (dq_t (dq_t (dq_t (dq_t (dq_t (dq_t (dq_t (dq_t (dq_t dzL_look_0)))))))))))
theorem dL_look_16 : decode cL_look 16 = .ok (.ireturn, 1) := dq_h (dq_t (dq_t (dq_t (dq_t (dq_t (dq_t (dq_t (dq_t (dq_t (dq_t (dq_t (dq_t dzL_look_0))))))))))))
theorem dzL_drought_0 : dq_F cL_drought [(0, .aload 4, 2), (2, .iconst 0, 1), (3, .aload_n 0, 1), (4, .iload_n 1, 1), (5, .iload_n 2, 1), (6, .iload_n 3, 1), (7, .invokevirtual 99, 3), (10, .i2l, 1), (11, .lastore, 1), (12, .goto 11, 3), (15, .astore 5, 2), (17, .iconst 1, 1), (18, .ireturn, 1), (19, .astore 5, 2), (21, .iconst 2, 1), (22, .ireturn, 1), (23, .iconst 0, 1), (24, .ireturn, 1)] := dq_s 18 0 (by decide +kernel)
theorem dL_drought_0 : decode cL_drought 0 = .ok (.aload 4, 2) := dq_h dzL_drought_0
theorem dL_drought_2 : decode cL_drought 2 = .ok (.iconst 0, 1) := dq_h (dq_t dzL_drought_0)
theorem dL_drought_3 : decode cL_drought 3 = .ok (.aload_n 0, 1) := dq_h (dq_t (dq_t dzL_drought_0))
theorem dL_drought_4 : decode cL_drought 4 = .ok (.iload_n 1, 1) := dq_h (dq_t (dq_t (dq_t dzL_drought_0)))
theorem dL_drought_5 : decode cL_drought 5 = .ok (.iload_n 2, 1) := dq_h (dq_t (dq_t (dq_t (dq_t dzL_drought_0))))
theorem dL_drought_6 : decode cL_drought 6 = .ok (.iload_n 3, 1) := dq_h (dq_t (dq_t (dq_t (dq_t (dq_t dzL_drought_0)))))
theorem dL_drought_7 : decode cL_drought 7 = .ok (.invokevirtual 99, 3) := dq_h (dq_t (dq_t (dq_t (dq_t (dq_t (dq_t dzL_drought_0))))))
theorem dL_drought_10 : decode cL_drought 10 = .ok (.i2l, 1) := dq_h (dq_t (dq_t (dq_t (dq_t (dq_t (dq_t (dq_t dzL_drought_0)))))))
theorem dL_drought_11 : decode cL_drought 11 = .ok (.lastore, 1) := dq_h (dq_t (dq_t (dq_t (dq_t (dq_t (dq_t (dq_t (dq_t dzL_drought_0))))))))
theorem dL_drought_12 : decode cL_drought 12 = .ok (.goto 11, 3) := dq_h (dq_t (dq_t (dq_t (dq_t (dq_t (dq_t (dq_t (dq_t (dq_t dzL_drought_0)))))))))
theorem dL_drought_15 : decode cL_drought 15 = .ok (.astore 5, 2) := dq_h (dq_t (dq_t (dq_t (dq_t (dq_t (dq_t (dq_t (dq_t (dq_t (dq_t dzL_drought_0))))))))))
theorem dL_drought_17 : decode cL_drought 17 = .ok (.iconst 1, 1) := dq_h (dq_t (dq_t (dq_t (dq_t (dq_t (dq_t (dq_t (dq_t (dq_t (dq_t (dq_t dzL_drought_0)))))))))))
theorem dL_drought_18 : decode cL_drought 18 = .ok (.ireturn, 1) := dq_h (dq_t (dq_t (dq_t (dq_t (dq_t (dq_t (dq_t (dq_t (dq_t (dq_t (dq_t (dq_t dzL_drought_0))))))))))))
theorem dL_drought_19 : decode cL_drought 19 = .ok (.astore 5, 2) := dq_h (dq_t (dq_t (dq_t (dq_t (dq_t (dq_t (dq_t (dq_t (dq_t (dq_t (dq_t (dq_t (dq_t dzL_drought_0)))))))))))))
theorem dL_drought_21 : decode cL_drought 21 = .ok (.iconst 2, 1) := dq_h (dq_t (dq_t (dq_t (dq_t (dq_t (dq_t (dq_t (dq_t (dq_t (dq_t (dq_t (dq_t (dq_t (dq_t dzL_drought_0))))))))))))))
theorem dL_drought_22 : decode cL_drought 22 = .ok (.ireturn, 1) := dq_h (dq_t (dq_t (dq_t (dq_t (dq_t (dq_t (dq_t (dq_t (dq_t (dq_t (dq_t (dq_t (dq_t (dq_t (dq_t dzL_drought_0)))))))))))))))
theorem dL_drought_23 : decode cL_drought 23 = .ok (.iconst 0, 1) := dq_h (dq_t (dq_t (dq_t (dq_t (dq_t (dq_t (dq_t (dq_t (dq_t (dq_t (dq_t (dq_t (dq_t (dq_t (dq_t (dq_t dzL_drought_0))))))))))))))))
theorem dL_drought_24 : decode cL_drought 24 = .ok (.ireturn, 1) := dq_h (dq_t (dq_t (dq_t (dq_t (dq_t (dq_t (dq_t (dq_t (dq_t (dq_t (dq_t (dq_t (dq_t (dq_t (dq_t (dq_t (dq_t dzL_drought_0)))))))))))))))))
theorem dzL_game_0 : dq_F cL_game [(0, .aload 4, 2), (2, .iconst 0, 1), (3, .aload_n 0, 1), (4, .iload_n 1, 1), (5, .iload_n 2, 1), (6, .iload_n 3, 1), (7, .invokevirtual 102, 3), (10, .i2l, 1), (11, .lastore, 1), (12, .goto 11, 3), (15, .astore 5, 2), (17, .iconst 1, 1), (18, .ireturn, 1), (19, .astore 5, 2), (21, .iconst 2, 1), (22, .ireturn, 1), (23, .iconst 0, 1), (24, .ireturn, 1)] := dq_s 18 0 (by decide +kernel)
theorem dL_game_0 : decode cL_game 0 = .ok (.aload 4, 2) := dq_h dzL_game_0
theorem dL_game_2 : decode cL_game 2 = .ok (.iconst 0, 1) := dq_h (dq_t dzL_game_0)
theorem dL_game_3 : decode cL_game 3 = .ok (.aload_n 0, 1) := dq_h (dq_t (dq_t dzL_game_0))
theorem dL_game_4 : decode cL_game 4 = .ok (.iload_n 1, 1) := dq_h (dq_t (dq_t (dq_t dzL_game_0)))
theorem dL_game_5 : decode cL_game 5 = .ok (.iload_n 2, 1) := dq_h (dq_t (dq_t (dq_t (dq_t dzL_game_0))))
theorem dL_game_6 : decode cL_game 6 = .ok (.iload_n 3, 1) := dq_h (dq_t (dq_t (dq_t (dq_t (dq_t dzL_game_0)))))
theorem dL_game_7 : decode cL_game 7 = .ok (.invokevirtual 102, 3) := dq_h (dq_t (dq_t (dq_t (dq_t (dq_t (dq_t dzL_game_0))))))
theorem dL_game_10 : decode cL_game 10 = .ok (.i2l, 1) := dq_h (dq_t (dq_t (dq_t (dq_t (dq_t (dq_t (dq_t dzL_game_0)))))))
theorem dL_game_11 : decode cL_game 11 = .ok (.lastore, 1) := dq_h (dq_t (dq_t (dq_t (dq_t (dq_t (dq_t (dq_t (dq_t dzL_game_0))))))))
theorem dL_game_12 : decode cL_game 12 = .ok (.goto 11, 3) := dq_h (dq_t (dq_t (dq_t (dq_t (dq_t (dq_t (dq_t (dq_t (dq_t dzL_game_0)))))))))
theorem dL_game_15 : decode cL_game 15 = .ok (.astore 5, 2) := dq_h (dq_t (dq_t (dq_t (dq_t (dq_t (dq_t (dq_t (dq_t (dq_t (dq_t dzL_game_0))))))))))
theorem dL_game_17 : decode cL_game 17 = .ok (.iconst 1, 1) := dq_h (dq_t (dq_t (dq_t (dq_t (dq_t (dq_t (dq_t (dq_t (dq_t (dq_t (dq_t dzL_game_0)))))))))))
theorem dL_game_18 : decode cL_game 18 = .ok (.ireturn, 1) := dq_h (dq_t (dq_t (dq_t (dq_t (dq_t (dq_t (dq_t (dq_t (dq_t (dq_t (dq_t (dq_t dzL_game_0))))))))))))
theorem dL_game_19 : decode cL_game 19 = .ok (.astore 5, 2) := dq_h (dq_t (dq_t (dq_t (dq_t (dq_t (dq_t (dq_t (dq_t (dq_t (dq_t (dq_t (dq_t (dq_t dzL_game_0)))))))))))))
theorem dL_game_21 : decode cL_game 21 = .ok (.iconst 2, 1) := dq_h (dq_t (dq_t (dq_t (dq_t (dq_t (dq_t (dq_t (dq_t (dq_t (dq_t (dq_t (dq_t (dq_t (dq_t dzL_game_0))))))))))))))
theorem dL_game_22 : decode cL_game 22 = .ok (.ireturn, 1) := dq_h (dq_t (dq_t (dq_t (dq_t (dq_t (dq_t (dq_t (dq_t (dq_t (dq_t (dq_t (dq_t (dq_t (dq_t (dq_t dzL_game_0)))))))))))))))
theorem dL_game_23 : decode cL_game 23 = .ok (.iconst 0, 1) := dq_h (dq_t (dq_t (dq_t (dq_t (dq_t (dq_t (dq_t (dq_t (dq_t (dq_t (dq_t (dq_t (dq_t (dq_t (dq_t (dq_t dzL_game_0))))))))))))))))
theorem dL_game_24 : decode cL_game 24 = .ok (.ireturn, 1) := dq_h (dq_t (dq_t (dq_t (dq_t (dq_t (dq_t (dq_t (dq_t (dq_t (dq_t (dq_t (dq_t (dq_t (dq_t (dq_t (dq_t (dq_t dzL_game_0)))))))))))))))))
theorem dzL_years_0 : dq_F cL_years [(0, .aload 4, 2), (2, .iconst 0, 1), (3, .aload_n 0, 1), (4, .iload_n 1, 1), (5, .iload_n 2, 1), (6, .iload_n 3, 1), (7, .invokevirtual 105, 3), (10, .i2l, 1), (11, .lastore, 1), (12, .goto 11, 3), (15, .astore 5, 2), (17, .iconst 1, 1), (18, .ireturn, 1), (19, .astore 5, 2), (21, .iconst 2, 1), (22, .ireturn, 1), (23, .iconst 0, 1), (24, .ireturn, 1)] := dq_s 18 0 (by decide +kernel)
theorem dL_years_0 : decode cL_years 0 = .ok (.aload 4, 2) := dq_h dzL_years_0
theorem dL_years_2 : decode cL_years 2 = .ok (.iconst 0, 1) := dq_h (dq_t dzL_years_0)
theorem dL_years_3 : decode cL_years 3 = .ok (.aload_n 0, 1) := dq_h (dq_t (dq_t dzL_years_0))
theorem dL_years_4 : decode cL_years 4 = .ok (.iload_n 1, 1) := dq_h (dq_t (dq_t (dq_t dzL_years_0)))
theorem dL_years_5 : decode cL_years 5 = .ok (.iload_n 2, 1) := dq_h (dq_t (dq_t (dq_t (dq_t dzL_years_0))))
theorem dL_years_6 : decode cL_years 6 = .ok (.iload_n 3, 1) := dq_h (dq_t (dq_t (dq_t (dq_t (dq_t dzL_years_0)))))
theorem dL_years_7 : decode cL_years 7 = .ok (.invokevirtual 105, 3) := dq_h (dq_t (dq_t (dq_t (dq_t (dq_t (dq_t dzL_years_0))))))
theorem dL_years_10 : decode cL_years 10 = .ok (.i2l, 1) := dq_h (dq_t (dq_t (dq_t (dq_t (dq_t (dq_t (dq_t dzL_years_0)))))))
theorem dL_years_11 : decode cL_years 11 = .ok (.lastore, 1) := dq_h (dq_t (dq_t (dq_t (dq_t (dq_t (dq_t (dq_t (dq_t dzL_years_0))))))))
theorem dL_years_12 : decode cL_years 12 = .ok (.goto 11, 3) := dq_h (dq_t (dq_t (dq_t (dq_t (dq_t (dq_t (dq_t (dq_t (dq_t dzL_years_0)))))))))
theorem dL_years_15 : decode cL_years 15 = .ok (.astore 5, 2) := dq_h (dq_t (dq_t (dq_t (dq_t (dq_t (dq_t (dq_t (dq_t (dq_t (dq_t dzL_years_0))))))))))
theorem dL_years_17 : decode cL_years 17 = .ok (.iconst 1, 1) := dq_h (dq_t (dq_t (dq_t (dq_t (dq_t (dq_t (dq_t (dq_t (dq_t (dq_t (dq_t dzL_years_0)))))))))))
theorem dL_years_18 : decode cL_years 18 = .ok (.ireturn, 1) := dq_h (dq_t (dq_t (dq_t (dq_t (dq_t (dq_t (dq_t (dq_t (dq_t (dq_t (dq_t (dq_t dzL_years_0))))))))))))
theorem dL_years_19 : decode cL_years 19 = .ok (.astore 5, 2) := dq_h (dq_t (dq_t (dq_t (dq_t (dq_t (dq_t (dq_t (dq_t (dq_t (dq_t (dq_t (dq_t (dq_t dzL_years_0)))))))))))))
theorem dL_years_21 : decode cL_years 21 = .ok (.iconst 2, 1) := dq_h (dq_t (dq_t (dq_t (dq_t (dq_t (dq_t (dq_t (dq_t (dq_t (dq_t (dq_t (dq_t (dq_t (dq_t dzL_years_0))))))))))))))
theorem dL_years_22 : decode cL_years 22 = .ok (.ireturn, 1) := dq_h (dq_t (dq_t (dq_t (dq_t (dq_t (dq_t (dq_t (dq_t (dq_t (dq_t (dq_t (dq_t (dq_t (dq_t (dq_t dzL_years_0)))))))))))))))
theorem dL_years_23 : decode cL_years 23 = .ok (.iconst 0, 1) := dq_h (dq_t (dq_t (dq_t (dq_t (dq_t (dq_t (dq_t (dq_t (dq_t (dq_t (dq_t (dq_t (dq_t (dq_t (dq_t (dq_t dzL_years_0))))))))))))))))
theorem dL_years_24 : decode cL_years 24 = .ok (.ireturn, 1) := dq_h (dq_t (dq_t (dq_t (dq_t (dq_t (dq_t (dq_t (dq_t (dq_t (dq_t (dq_t (dq_t (dq_t (dq_t (dq_t (dq_t (dq_t dzL_years_0)))))))))))))))))
theorem dzL_law_0 : dq_F cL_law [(0, .new 8, 3), (3, .dup, 1), (4, .invokespecial 108, 3), (7, .astore_n 1, 1), (8, .new 109, 3), (11, .dup, 1), (12, .invokespecial 111, 3), (15, .astore_n 2, 1), (16, .iconst 1, 1)] := dq_s 9 0 (by decide +kernel)
theorem dL_law_0 : decode cL_law 0 = .ok (.new 8, 3) := dq_h dzL_law_0
theorem dL_law_3 : decode cL_law 3 = .ok (.dup, 1) := dq_h (dq_t dzL_law_0)
theorem dL_law_4 : decode cL_law 4 = .ok (.invokespecial 108, 3) := dq_h (dq_t (dq_t dzL_law_0))
theorem dL_law_7 : decode cL_law 7 = .ok (.astore_n 1, 1) := dq_h (dq_t (dq_t (dq_t dzL_law_0)))
theorem dL_law_8 : decode cL_law 8 = .ok (.new 109, 3) := dq_h (dq_t (dq_t (dq_t (dq_t dzL_law_0))))
theorem dL_law_11 : decode cL_law 11 = .ok (.dup, 1) := dq_h (dq_t (dq_t (dq_t (dq_t (dq_t dzL_law_0)))))
theorem dL_law_12 : decode cL_law 12 = .ok (.invokespecial 111, 3) := dq_h (dq_t (dq_t (dq_t (dq_t (dq_t (dq_t dzL_law_0))))))
theorem dL_law_15 : decode cL_law 15 = .ok (.astore_n 2, 1) := dq_h (dq_t (dq_t (dq_t (dq_t (dq_t (dq_t (dq_t dzL_law_0)))))))
theorem dL_law_16 : decode cL_law 16 = .ok (.iconst 1, 1) := dq_h (dq_t (dq_t (dq_t (dq_t (dq_t (dq_t (dq_t (dq_t dzL_law_0))))))))
theorem dL_law_17 : decode cL_law 17 = .ok (.newarray .long, 2) := by decide +kernel
theorem dzL_law_19 : dq_F cL_law [(19, .astore_n 3, 1), (20, .iconst 0, 1), (21, .istore 4, 2), (23, .iload 4, 2), (25, .aload_n 0, 1), (26, .arraylength, 1), (27, .bipush 6, 2), (29, .isub, 1), (30, .if_icmp .gt 1475, 3), (33, .aload_n 0, 1), (34, .iload 4, 2), (36, .iaload, 1), (37, .bipush 63, 2), (39, .iand, 1)] := dq_s 14 19 (by decide +kernel)
theorem dL_law_19 : decode cL_law 19 = .ok (.astore_n 3, 1) := dq_h dzL_law_19
theorem dL_law_20 : decode cL_law 20 = .ok (.iconst 0, 1) := dq_h (dq_t dzL_law_19)
theorem dL_law_21 : decode cL_law 21 = .ok (.istore 4, 2) := dq_h (dq_t (dq_t dzL_law_19))
theorem dL_law_23 : decode cL_law 23 = .ok (.iload 4, 2) := dq_h (dq_t (dq_t (dq_t dzL_law_19)))
theorem dL_law_25 : decode cL_law 25 = .ok (.aload_n 0, 1) := dq_h (dq_t (dq_t (dq_t (dq_t dzL_law_19))))
theorem dL_law_26 : decode cL_law 26 = .ok (.arraylength, 1) := dq_h (dq_t (dq_t (dq_t (dq_t (dq_t dzL_law_19)))))
theorem dL_law_27 : decode cL_law 27 = .ok (.bipush 6, 2) := dq_h (dq_t (dq_t (dq_t (dq_t (dq_t (dq_t dzL_law_19))))))
theorem dL_law_29 : decode cL_law 29 = .ok (.isub, 1) := dq_h (dq_t (dq_t (dq_t (dq_t (dq_t (dq_t (dq_t dzL_law_19)))))))
theorem dL_law_30 : decode cL_law 30 = .ok (.if_icmp .gt 1475, 3) := dq_h (dq_t (dq_t (dq_t (dq_t (dq_t (dq_t (dq_t (dq_t dzL_law_19))))))))
theorem dL_law_33 : decode cL_law 33 = .ok (.aload_n 0, 1) := dq_h (dq_t (dq_t (dq_t (dq_t (dq_t (dq_t (dq_t (dq_t (dq_t dzL_law_19)))))))))
theorem dL_law_34 : decode cL_law 34 = .ok (.iload 4, 2) := dq_h (dq_t (dq_t (dq_t (dq_t (dq_t (dq_t (dq_t (dq_t (dq_t (dq_t dzL_law_19))))))))))
theorem dL_law_36 : decode cL_law 36 = .ok (.iaload, 1) := dq_h (dq_t (dq_t (dq_t (dq_t (dq_t (dq_t (dq_t (dq_t (dq_t (dq_t (dq_t dzL_law_19)))))))))))
theorem dL_law_37 : decode cL_law 37 = .ok (.bipush 63, 2) := dq_h (dq_t (dq_t (dq_t (dq_t (dq_t (dq_t (dq_t (dq_t (dq_t (dq_t (dq_t (dq_t dzL_law_19))))))))))))
theorem dL_law_39 : decode cL_law 39 = .ok (.iand, 1) := dq_h (dq_t (dq_t (dq_t (dq_t (dq_t (dq_t (dq_t (dq_t (dq_t (dq_t (dq_t (dq_t (dq_t dzL_law_19)))))))))))))
theorem dL_law_40 : decode cL_law 40 = .ok (.tableswitch 1459 0 36 #[164, 237, 293, 306, 334, 374, 414, 439, 479, 507, 535, 591, 631, 644, 696, 724, 752, 780, 820, 848, 876, 904, 932, 972, 1024, 1052, 1080, 1120, 1160, 1212, 1240, 1268, 1279, 1331, 1383, 1435, 1446], 164) := by decide +kernel
theorem dzL_law_204 : dq_F cL_law [(204, .aload_n 1, 1), (205, .aload_n 0, 1), (206, .iload 4, 2), (208, .iconst 1, 1), (209, .iadd, 1), (210, .iaload, 1), (211, .aload_n 0, 1), (212, .iload 4, 2), (214, .iconst 2, 1), (215, .iadd, 1), (216, .iaload, 1), (217, .aload_n 0, 1), (218, .iload 4, 2), (220, .iconst 3, 1), (221, .iadd, 1), (222, .iaload, 1), (223, .aload_n 0, 1), (224, .iload 4, 2), (226, .iconst 4, 1), (227, .iadd, 1), (228, .iaload, 1), (229, .aload_n 0, 1), (230, .iload 4, 2), (232, .iconst 5, 1)] := dq_s 24 204 (by decide +kernel)
theorem dL_law_204 : decode cL_law 204 = .ok (.aload_n 1, 1) := dq_h dzL_law_204
theorem dL_law_205 : decode cL_law 205 = .ok (.aload_n 0, 1) := dq_h (dq_t dzL_law_204)
theorem dL_law_206 : decode cL_law 206 = .ok (.iload 4, 2) := dq_h (dq_t (dq_t dzL_law_204))
theorem dL_law_208 : decode cL_law 208 = .ok (.iconst 1, 1) := dq_h (dq_t (dq_t (dq_t dzL_law_204)))
theorem dL_law_209 : decode cL_law 209 = .ok (.iadd, 1) := dq_h (dq_t (dq_t (dq_t (dq_t dzL_law_204))))
theorem dL_law_210 : decode cL_law 210 = .ok (.iaload, 1) := dq_h (dq_t (dq_t (dq_t (dq_t (dq_t dzL_law_204)))))
theorem dL_law_211 : decode cL_law 211 = .ok (.aload_n 0, 1) := dq_h (dq_t (dq_t (dq_t (dq_t (dq_t (dq_t dzL_law_204))))))
theorem dL_law_212 : decode cL_law 212 = .ok (.iload 4, 2) := dq_h (dq_t (dq_t (dq_t (dq_t (dq_t (dq_t (dq_t dzL_law_204)))))))
theorem dL_law_214 : decode cL_law 214 = .ok (.iconst 2, 1) := dq_h (dq_t (dq_t (dq_t (dq_t (dq_t (dq_t (dq_t (dq_t dzL_law_204))))))))
theorem dL_law_215 : decode cL_law 215 = .ok (.iadd, 1) := dq_h (dq_t (dq_t (dq_t (dq_t (dq_t (dq_t (dq_t (dq_t (dq_t dzL_law_204)))))))))
theorem dL_law_216 : decode cL_law 216 = .ok (.iaload, 1) := dq_h (dq_t (dq_t (dq_t (dq_t (dq_t (dq_t (dq_t (dq_t (dq_t (dq_t dzL_law_204))))))))))
theorem dL_law_217 : decode cL_law 217 = .ok (.aload_n 0, 1) := dq_h (dq_t (dq_t (dq_t (dq_t (dq_t (dq_t (dq_t (dq_t (dq_t (dq_t (dq_t dzL_law_204)))))))))))
theorem dL_law_218 : decode cL_law 218 = .ok (.iload 4, 2) := dq_h (dq_t (dq_t (dq_t (dq_t (dq_t (dq_t (dq_t (dq_t (dq_t (dq_t (dq_t (dq_t dzL_law_204))))))))))))
theorem dL_law_220 : decode cL_law 220 = .ok (.iconst 3, 1) := dq_h (dq_t (dq_t (dq_t (dq_t (dq_t (dq_t (dq_t (dq_t (dq_t (dq_t (dq_t (dq_t (dq_t dzL_law_204)))))))))))))
theorem dL_law_221 : decode cL_law 221 = .ok (.iadd, 1) := dq_h (dq_t (dq_t (dq_t (dq_t (dq_t (dq_t (dq_t (dq_t (dq_t (dq_t (dq_t (dq_t (dq_t (dq_t dzL_law_204))))))))))))))
theorem dL_law_222 : decode cL_law 222 = .ok (.iaload, 1) := dq_h (dq_t (dq_t (dq_t (dq_t (dq_t (dq_t (dq_t (dq_t (dq_t (dq_t (dq_t (dq_t (dq_t (dq_t (dq_t dzL_law_204)))))))))))))))
theorem dL_law_223 : decode cL_law 223 = .ok (.aload_n 0, 1) := dq_h (dq_t (dq_t (dq_t (dq_t (dq_t (dq_t (dq_t (dq_t (dq_t (dq_t (dq_t (dq_t (dq_t (dq_t (dq_t (dq_t dzL_law_204))))))))))))))))
theorem dL_law_224 : decode cL_law 224 = .ok (.iload 4, 2) := dq_h (dq_t (dq_t (dq_t (dq_t (dq_t (dq_t (dq_t (dq_t (dq_t (dq_t (dq_t (dq_t (dq_t (dq_t (dq_t (dq_t (dq_t dzL_law_204)))))))))))))))))
theorem dL_law_226 : decode cL_law 226 = .ok (.iconst 4, 1) := dq_h (dq_t (dq_t (dq_t (dq_t (dq_t (dq_t (dq_t (dq_t (dq_t (dq_t (dq_t (dq_t (dq_t (dq_t (dq_t (dq_t (dq_t (dq_t dzL_law_204))))))))))))))))))
theorem dL_law_227 : decode cL_law 227 = .ok (.iadd, 1) := dq_h (dq_t (dq_t (dq_t (dq_t (dq_t (dq_t (dq_t (dq_t (dq_t (dq_t (dq_t (dq_t (dq_t (dq_t (dq_t (dq_t (dq_t (dq_t (dq_t dzL_law_204)))))))))))))))))))
theorem dL_law_228 : decode cL_law 228 = .ok (.iaload, 1) := dq_h (dq_t (dq_t (dq_t (dq_t (dq_t (dq_t (dq_t (dq_t (dq_t (dq_t (dq_t (dq_t (dq_t (dq_t (dq_t (dq_t (dq_t (dq_t (dq_t (dq_t dzL_law_204))))))))))))))))))))
theorem dL_law_229 : decode cL_law 229 = .ok (.aload_n 0, 1) := dq_h (dq_t (dq_t (dq_t (dq_t (dq_t (dq_t (dq_t (dq_t (dq_t (dq_t (dq_t (dq_t (dq_t (dq_t (dq_t (dq_t (dq_t (dq_t (dq_t (dq_t (dq_t dzL_law_204)))))))))))))))))))))
theorem dL_law_230 : decode cL_law 230 = .ok (.iload 4, 2) := dq_h (dq_t (dq_t (dq_t (dq_t (dq_t (dq_t (dq_t (dq_t (dq_t (dq_t (dq_t (dq_t (dq_t (dq_t (dq_t (dq_t (dq_t (dq_t (dq_t (dq_t (dq_t (dq_t dzL_law_204))))))))))))))))))))))
theorem dL_law_232 : decode cL_law 232 = .ok (.iconst 5, 1) := dq_h (dq_t (dq_t (dq_t (dq_t (dq_t (dq_t (dq_t (dq_t (dq_t (dq_t (dq_t (dq_t (dq_t (dq_t (dq_t (dq_t (dq_t (dq_t (dq_t (dq_t (dq_t (dq_t (dq_t dzL_law_204)))))))))))))))))))))))
theorem dzL_law_233 : dq_F cL_law [(233, .iadd, 1), (234, .iaload, 1), (235, .invokevirtual 112, 3), (238, .pop, 1), (239, .aload_n 2, 1), (240, .aload_n 0, 1), (241, .iload 4, 2), (243, .iconst 1, 1), (244, .iadd, 1), (245, .iaload, 1), (246, .aload_n 0, 1), (247, .iload 4, 2), (249, .iconst 2, 1), (250, .iadd, 1), (251, .iaload, 1), (252, .aload_n 0, 1), (253, .iload 4, 2), (255, .iconst 3, 1), (256, .iadd, 1), (257, .iaload, 1), (258, .aload_n 0, 1), (259, .iload 4, 2), (261, .iconst 4, 1), (262, .iadd, 1)] := dq_s 24 233 (by decide +kernel)
theorem dL_law_233 : decode cL_law 233 = .ok (.iadd, 1) := dq_h dzL_law_233
theorem dL_law_234 : decode cL_law 234 = .ok (.iaload, 1) := dq_h (dq_t dzL_law_233)
theorem dL_law_235 : decode cL_law 235 = .ok (.invokevirtual 112, 3) := dq_h (dq_t (dq_t dzL_law_233))
theorem dL_law_238 : decode cL_law 238 = .ok (.pop, 1) := dq_h (dq_t (dq_t (dq_t dzL_law_233)))
theorem dL_law_239 : decode cL_law 239 = .ok (.aload_n 2, 1) := dq_h (dq_t (dq_t (dq_t (dq_t dzL_law_233))))
theorem dL_law_240 : decode cL_law 240 = .ok (.aload_n 0, 1) := dq_h (dq_t (dq_t (dq_t (dq_t (dq_t dzL_law_233)))))
theorem dL_law_241 : decode cL_law 241 = .ok (.iload 4, 2) := dq_h (dq_t (dq_t (dq_t (dq_t (dq_t (dq_t dzL_law_233))))))
theorem dL_law_243 : decode cL_law 243 = .ok (.iconst 1, 1) := dq_h (dq_t (dq_t (dq_t (dq_t (dq_t (dq_t (dq_t dzL_law_233)))))))
theorem dL_law_244 : decode cL_law 244 = .ok (.iadd, 1) := dq_h (dq_t (dq_t (dq_t (dq_t (dq_t (dq_t (dq_t (dq_t dzL_law_233))))))))
theorem dL_law_245 : decode cL_law 245 = .ok (.iaload, 1) := dq_h (dq_t (dq_t (dq_t (dq_t (dq_t (dq_t (dq_t (dq_t (dq_t dzL_law_233)))))))))
theorem dL_law_246 : decode cL_law 246 = .ok (.aload_n 0, 1) := dq_h (dq_t (dq_t (dq_t (dq_t (dq_t (dq_t (dq_t (dq_t (dq_t (dq_t dzL_law_233))))))))))
theorem dL_law_247 : decode cL_law 247 = .ok (.iload 4, 2) := dq_h (dq_t (dq_t (dq_t (dq_t (dq_t (dq_t (dq_t (dq_t (dq_t (dq_t (dq_t dzL_law_233)))))))))))
theorem dL_law_249 : decode cL_law 249 = .ok (.iconst 2, 1) := dq_h (dq_t (dq_t (dq_t (dq_t (dq_t (dq_t (dq_t (dq_t (dq_t (dq_t (dq_t (dq_t dzL_law_233))))))))))))
theorem dL_law_250 : decode cL_law 250 = .ok (.iadd, 1) := dq_h (dq_t (dq_t (dq_t (dq_t (dq_t (dq_t (dq_t (dq_t (dq_t (dq_t (dq_t (dq_t (dq_t dzL_law_233)))))))))))))
theorem dL_law_251 : decode cL_law 251 = .ok (.iaload, 1) := dq_h (dq_t (dq_t (dq_t (dq_t (dq_t (dq_t (dq_t (dq_t (dq_t (dq_t (dq_t (dq_t (dq_t (dq_t dzL_law_233))))))))))))))
theorem dL_law_252 : decode cL_law 252 = .ok (.aload_n 0, 1) := dq_h (dq_t (dq_t (dq_t (dq_t (dq_t (dq_t (dq_t (dq_t (dq_t (dq_t (dq_t (dq_t (dq_t (dq_t (dq_t dzL_law_233)))))))))))))))
theorem dL_law_253 : decode cL_law 253 = .ok (.iload 4, 2) := dq_h (dq_t (dq_t (dq_t (dq_t (dq_t (dq_t (dq_t (dq_t (dq_t (dq_t (dq_t (dq_t (dq_t (dq_t (dq_t (dq_t dzL_law_233))))))))))))))))
theorem dL_law_255 : decode cL_law 255 = .ok (.iconst 3, 1) := dq_h (dq_t (dq_t (dq_t (dq_t (dq_t (dq_t (dq_t (dq_t (dq_t (dq_t (dq_t (dq_t (dq_t (dq_t (dq_t (dq_t (dq_t dzL_law_233)))))))))))))))))
theorem dL_law_256 : decode cL_law 256 = .ok (.iadd, 1) := dq_h (dq_t (dq_t (dq_t (dq_t (dq_t (dq_t (dq_t (dq_t (dq_t (dq_t (dq_t (dq_t (dq_t (dq_t (dq_t (dq_t (dq_t (dq_t dzL_law_233))))))))))))))))))
theorem dL_law_257 : decode cL_law 257 = .ok (.iaload, 1) := dq_h (dq_t (dq_t (dq_t (dq_t (dq_t (dq_t (dq_t (dq_t (dq_t (dq_t (dq_t (dq_t (dq_t (dq_t (dq_t (dq_t (dq_t (dq_t (dq_t dzL_law_233)))))))))))))))))))
theorem dL_law_258 : decode cL_law 258 = .ok (.aload_n 0, 1) := dq_h (dq_t (dq_t (dq_t (dq_t (dq_t (dq_t (dq_t (dq_t (dq_t (dq_t (dq_t (dq_t (dq_t (dq_t (dq_t (dq_t (dq_t (dq_t (dq_t (dq_t dzL_law_233))))))))))))))))))))
theorem dL_law_259 : decode cL_law 259 = .ok (.iload 4, 2) := dq_h (dq_t (dq_t (dq_t (dq_t (dq_t (dq_t (dq_t (dq_t (dq_t (dq_t (dq_t (dq_t (dq_t (dq_t (dq_t (dq_t (dq_t (dq_t (dq_t (dq_t (dq_t dzL_law_233)))))))))))))))))))))
theorem dL_law_261 : decode cL_law 261 = .ok (.iconst 4, 1) := dq_h (dq_t (dq_t (dq_t (dq_t (dq_t (dq_t (dq_t (dq_t (dq_t (dq_t (dq_t (dq_t (dq_t (dq_t (dq_t (dq_t (dq_t (dq_t (dq_t (dq_t (dq_t (dq_t dzL_law_233))))))))))))))))))))))
theorem dL_law_262 : decode cL_law 262 = .ok (.iadd, 1) := dq_h (dq_t (dq_t (dq_t (dq_t (dq_t (dq_t (dq_t (dq_t (dq_t (dq_t (dq_t (dq_t (dq_t (dq_t (dq_t (dq_t (dq_t (dq_t (dq_t (dq_t (dq_t (dq_t (dq_t dzL_law_233)))))))))))))))))))))))
theorem dzL_law_263 : dq_F cL_law [(263, .iaload, 1), (264, .aload_n 0, 1), (265, .iload 4, 2), (267, .iconst 5, 1), (268, .iadd, 1), (269, .iaload, 1), (270, .invokevirtual 116, 3), (273, .pop, 1), (274, .goto 1225, 3), (277, .aload_n 1, 1), (278, .aload_n 0, 1), (279, .iload 4, 2), (281, .iconst 1, 1), (282, .iadd, 1), (283, .iaload, 1), (284, .aload_n 3, 1), (285, .invokestatic 117, 3), (288, .istore 5, 2), (290, .aload_n 2, 1), (291, .aload_n 0, 1), (292, .iload 4, 2), (294, .iconst 1, 1), (295, .iadd, 1), (296, .iaload, 1)] := dq_s 24 263 (by decide +kernel)
theorem dL_law_263 : decode cL_law 263 = .ok (.iaload, 1) := dq_h dzL_law_263
theorem dL_law_264 : decode cL_law 264 = .ok (.aload_n 0, 1) := dq_h (dq_t dzL_law_263)
theorem dL_law_265 : decode cL_law 265 = .ok (.iload 4, 2) := dq_h (dq_t (dq_t dzL_law_263))
theorem dL_law_267 : decode cL_law 267 = .ok (.iconst 5, 1) := dq_h (dq_t (dq_t (dq_t dzL_law_263)))
theorem dL_law_268 : decode cL_law 268 = .ok (.iadd, 1) := dq_h (dq_t (dq_t (dq_t (dq_t dzL_law_263))))
theorem dL_law_269 : decode cL_law 269 = .ok (.iaload, 1) := dq_h (dq_t (dq_t (dq_t (dq_t (dq_t dzL_law_263)))))
theorem dL_law_270 : decode cL_law 270 = .ok (.invokevirtual 116, 3) := dq_h (dq_t (dq_t (dq_t (dq_t (dq_t (dq_t dzL_law_263))))))
theorem dL_law_273 : decode cL_law 273 = .ok (.pop, 1) := dq_h (dq_t (dq_t (dq_t (dq_t (dq_t (dq_t (dq_t dzL_law_263)))))))
theorem dL_law_274 : decode cL_law 274 = .ok (.goto 1225, 3) := dq_h (dq_t (dq_t (dq_t (dq_t (dq_t (dq_t (dq_t (dq_t dzL_law_263))))))))
theorem dL_law_277 : decode cL_law 277 = .ok (.aload_n 1, 1) := dq_h (dq_t (dq_t (dq_t (dq_t (dq_t (dq_t (dq_t (dq_t (dq_t dzL_law_263)))))))))
theorem dL_law_278 : decode cL_law 278 = .ok (.aload_n 0, 1) := dq_h (dq_t (dq_t (dq_t (dq_t (dq_t (dq_t (dq_t (dq_t (dq_t (dq_t dzL_law_263))))))))))
theorem dL_law_279 : decode cL_law 279 = .ok (.iload 4, 2) := dq_h (dq_t (dq_t (dq_t (dq_t (dq_t (dq_t (dq_t (dq_t (dq_t (dq_t (dq_t dzL_law_263)))))))))))
theorem dL_law_281 : decode cL_law 281 = .ok (.iconst 1, 1) := dq_h (dq_t (dq_t (dq_t (dq_t (dq_t (dq_t (dq_t (dq_t (dq_t (dq_t (dq_t (dq_t dzL_law_263))))))))))))
theorem dL_law_282 : decode cL_law 282 = .ok (.iadd, 1) := dq_h (dq_t (dq_t (dq_t (dq_t (dq_t (dq_t (dq_t (dq_t (dq_t (dq_t (dq_t (dq_t (dq_t dzL_law_263)))))))))))))
theorem dL_law_283 : decode cL_law 283 = .ok (.iaload, 1) := dq_h (dq_t (dq_t (dq_t (dq_t (dq_t (dq_t (dq_t (dq_t (dq_t (dq_t (dq_t (dq_t (dq_t (dq_t dzL_law_263))))))))))))))
theorem dL_law_284 : decode cL_law 284 = .ok (.aload_n 3, 1) := dq_h (dq_t (dq_t (dq_t (dq_t (dq_t (dq_t (dq_t (dq_t (dq_t (dq_t (dq_t (dq_t (dq_t (dq_t (dq_t dzL_law_263)))))))))))))))
theorem dL_law_285 : decode cL_law 285 = .ok (.invokestatic 117, 3) := dq_h (dq_t (dq_t (dq_t (dq_t (dq_t (dq_t (dq_t (dq_t (dq_t (dq_t (dq_t (dq_t (dq_t (dq_t (dq_t (dq_t dzL_law_263))))))))))))))))
theorem dL_law_288 : decode cL_law 288 = .ok (.istore 5, 2) := dq_h (dq_t (dq_t (dq_t (dq_t (dq_t (dq_t (dq_t (dq_t (dq_t (dq_t (dq_t (dq_t (dq_t (dq_t (dq_t (dq_t (dq_t dzL_law_263)))))))))))))))))
theorem dL_law_290 : decode cL_law 290 = .ok (.aload_n 2, 1) := dq_h (dq_t (dq_t (dq_t (dq_t (dq_t (dq_t (dq_t (dq_t (dq_t (dq_t (dq_t (dq_t (dq_t (dq_t (dq_t (dq_t (dq_t (dq_t dzL_law_263))))))))))))))))))
theorem dL_law_291 : decode cL_law 291 = .ok (.aload_n 0, 1) := dq_h (dq_t (dq_t (dq_t (dq_t (dq_t (dq_t (dq_t (dq_t (dq_t (dq_t (dq_t (dq_t (dq_t (dq_t (dq_t (dq_t (dq_t (dq_t (dq_t dzL_law_263)))))))))))))))))))
theorem dL_law_292 : decode cL_law 292 = .ok (.iload 4, 2) := dq_h (dq_t (dq_t (dq_t (dq_t (dq_t (dq_t (dq_t (dq_t (dq_t (dq_t (dq_t (dq_t (dq_t (dq_t (dq_t (dq_t (dq_t (dq_t (dq_t (dq_t dzL_law_263))))))))))))))))))))
theorem dL_law_294 : decode cL_law 294 = .ok (.iconst 1, 1) := dq_h (dq_t (dq_t (dq_t (dq_t (dq_t (dq_t (dq_t (dq_t (dq_t (dq_t (dq_t (dq_t (dq_t (dq_t (dq_t (dq_t (dq_t (dq_t (dq_t (dq_t (dq_t dzL_law_263)))))))))))))))))))))
theorem dL_law_295 : decode cL_law 295 = .ok (.iadd, 1) := dq_h (dq_t (dq_t (dq_t (dq_t (dq_t (dq_t (dq_t (dq_t (dq_t (dq_t (dq_t (dq_t (dq_t (dq_t (dq_t (dq_t (dq_t (dq_t (dq_t (dq_t (dq_t (dq_t dzL_law_263))))))))))))))))))))))
theorem dL_law_296 : decode cL_law 296 = .ok (.iaload, 1) := dq_h (dq_t (dq_t (dq_t (dq_t (dq_t (dq_t (dq_t (dq_t (dq_t (dq_t (dq_t (dq_t (dq_t (dq_t (dq_t (dq_t (dq_t (dq_t (dq_t (dq_t (dq_t (dq_t (dq_t dzL_law_263)))))))))))))))))))))))
theorem dzL_law_297 : dq_F cL_law [(297, .invokevirtual 122, 3), (300, .istore 6, 2), (302, .aload_n 2, 1), (303, .invokevirtual 123, 3), (306, .iload 5, 2), (308, .if_icmp .eq 5, 3), (311, .iconst 0, 1), (312, .ireturn, 1), (313, .iload 5, 2), (315, .ifCond .ne 15, 3), (318, .aload_n 3, 1), (319, .iconst 0, 1), (320, .laload, 1), (321, .iload 6, 2), (323, .i2l, 1), (324, .lcmp, 1), (325, .ifCond .eq 5, 3), (328, .iconst 0, 1), (329, .ireturn, 1), (330, .goto 1169, 3), (333, .aload_n 1, 1), (334, .invokevirtual 127, 3), (337, .pop, 1), (338, .aload_n 2, 1)] := dq_s 24 297 (by decide +kernel)
theorem dL_law_297 : decode cL_law 297 = .ok (.invokevirtual 122, 3) := dq_h dzL_law_297
theorem dL_law_300 : decode cL_law 300 = .ok (.istore 6, 2) := dq_h (dq_t dzL_law_297)
theorem dL_law_302 : decode cL_law 302 = .ok (.aload_n 2, 1) := dq_h (dq_t (dq_t dzL_law_297))
theorem dL_law_303 : decode cL_law 303 = .ok (.invokevirtual 123, 3) := dq_h (dq_t (dq_t (dq_t dzL_law_297)))
theorem dL_law_306 : decode cL_law 306 = .ok (.iload 5, 2) := dq_h (dq_t (dq_t (dq_t (dq_t dzL_law_297))))
theorem dL_law_308 : decode cL_law 308 = .ok (.if_icmp .eq 5, 3) := dq_h (dq_t (dq_t (dq_t (dq_t (dq_t dzL_law_297)))))
theorem dL_law_311 : decode cL_law 311 = .ok (.iconst 0, 1) := dq_h (dq_t (dq_t (dq_t (dq_t (dq_t (dq_t dzL_law_297))))))
theorem dL_law_312 : decode cL_law 312 = .ok (.ireturn, 1) := dq_h (dq_t (dq_t (dq_t (dq_t (dq_t (dq_t (dq_t dzL_law_297)))))))
theorem dL_law_313 : decode cL_law 313 = .ok (.iload 5, 2) := dq_h (dq_t (dq_t (dq_t (dq_t (dq_t (dq_t (dq_t (dq_t dzL_law_297))))))))
theorem dL_law_315 : decode cL_law 315 = .ok (.ifCond .ne 15, 3) := dq_h (dq_t (dq_t (dq_t (dq_t (dq_t (dq_t (dq_t (dq_t (dq_t dzL_law_297)))))))))
theorem dL_law_318 : decode cL_law 318 = .ok (.aload_n 3, 1) := dq_h (dq_t (dq_t (dq_t (dq_t (dq_t (dq_t (dq_t (dq_t (dq_t (dq_t dzL_law_297))))))))))
theorem dL_law_319 : decode cL_law 319 = .ok (.iconst 0, 1) := dq_h (dq_t (dq_t (dq_t (dq_t (dq_t (dq_t (dq_t (dq_t (dq_t (dq_t (dq_t dzL_law_297)))))))))))
theorem dL_law_320 : decode cL_law 320 = .ok (.laload, 1) := dq_h (dq_t (dq_t (dq_t (dq_t (dq_t (dq_t (dq_t (dq_t (dq_t (dq_t (dq_t (dq_t dzL_law_297))))))))))))
theorem dL_law_321 : decode cL_law 321 = .ok (.iload 6, 2) := dq_h (dq_t (dq_t (dq_t (dq_t (dq_t (dq_t (dq_t (dq_t (dq_t (dq_t (dq_t (dq_t (dq_t dzL_law_297)))))))))))))
theorem dL_law_323 : decode cL_law 323 = .ok (.i2l, 1) := dq_h (dq_t (dq_t (dq_t (dq_t (dq_t (dq_t (dq_t (dq_t (dq_t (dq_t (dq_t (dq_t (dq_t (dq_t dzL_law_297))))))))))))))
theorem dL_law_324 : decode cL_law 324 = .ok (.lcmp, 1) := dq_h (dq_t (dq_t (dq_t (dq_t (dq_t (dq_t (dq_t (dq_t (dq_t (dq_t (dq_t (dq_t (dq_t (dq_t (dq_t dzL_law_297)))))))))))))))
theorem dL_law_325 : decode cL_law 325 = .ok (.ifCond .eq 5, 3) := dq_h (dq_t (dq_t (dq_t (dq_t (dq_t (dq_t (dq_t (dq_t (dq_t (dq_t (dq_t (dq_t (dq_t (dq_t (dq_t (dq_t dzL_law_297))))))))))))))))
theorem dL_law_328 : decode cL_law 328 = .ok (.iconst 0, 1) := dq_h (dq_t (dq_t (dq_t (dq_t (dq_t (dq_t (dq_t (dq_t (dq_t (dq_t (dq_t (dq_t (dq_t (dq_t (dq_t (dq_t (dq_t dzL_law_297)))))))))))))))))
theorem dL_law_329 : decode cL_law 329 = .ok (.ireturn, 1) := dq_h (dq_t (dq_t (dq_t (dq_t (dq_t (dq_t (dq_t (dq_t (dq_t (dq_t (dq_t (dq_t (dq_t (dq_t (dq_t (dq_t (dq_t (dq_t dzL_law_297))))))))))))))))))
theorem dL_law_330 : decode cL_law 330 = .ok (.goto 1169, 3) := dq_h (dq_t (dq_t (dq_t (dq_t (dq_t (dq_t (dq_t (dq_t (dq_t (dq_t (dq_t (dq_t (dq_t (dq_t (dq_t (dq_t (dq_t (dq_t (dq_t dzL_law_297)))))))))))))))))))
theorem dL_law_333 : decode cL_law 333 = .ok (.aload_n 1, 1) := dq_h (dq_t (dq_t (dq_t (dq_t (dq_t (dq_t (dq_t (dq_t (dq_t (dq_t (dq_t (dq_t (dq_t (dq_t (dq_t (dq_t (dq_t (dq_t (dq_t (dq_t dzL_law_297))))))))))))))))))))
theorem dL_law_334 : decode cL_law 334 = .ok (.invokevirtual 127, 3) := dq_h (dq_t (dq_t (dq_t (dq_t (dq_t (dq_t (dq_t (dq_t (dq_t (dq_t (dq_t (dq_t (dq_t (dq_t (dq_t (dq_t (dq_t (dq_t (dq_t (dq_t (dq_t dzL_law_297)))))))))))))))))))))
theorem dL_law_337 : decode cL_law 337 = .ok (.pop, 1) := dq_h (dq_t (dq_t (dq_t (dq_t (dq_t (dq_t (dq_t (dq_t (dq_t (dq_t (dq_t (dq_t (dq_t (dq_t (dq_t (dq_t (dq_t (dq_t (dq_t (dq_t (dq_t (dq_t dzL_law_297))))))))))))))))))))))
theorem dL_law_338 : decode cL_law 338 = .ok (.aload_n 2, 1) := dq_h (dq_t (dq_t (dq_t (dq_t (dq_t (dq_t (dq_t (dq_t (dq_t (dq_t (dq_t (dq_t (dq_t (dq_t (dq_t (dq_t (dq_t (dq_t (dq_t (dq_t (dq_t (dq_t (dq_t dzL_law_297)))))))))))))))))))))))
theorem dzL_law_339 : dq_F cL_law [(339, .invokevirtual 130, 3), (342, .pop, 1), (343, .goto 1156, 3), (346, .aload_n 1, 1), (347, .aload_n 0, 1), (348, .iload 4, 2), (350, .iconst 1, 1), (351, .iadd, 1), (352, .iaload, 1), (353, .aload_n 3, 1), (354, .invokestatic 131, 3), (357, .istore 5, 2), (359, .aload_n 2, 1), (360, .aload_n 0, 1), (361, .iload 4, 2), (363, .iconst 1, 1), (364, .iadd, 1), (365, .iaload, 1), (366, .invokevirtual 133, 3), (369, .istore 6, 2), (371, .goto 1128, 3), (374, .aload_n 1, 1), (375, .aload_n 0, 1), (376, .iload 4, 2)] := dq_s 24 339 (by decide +kernel)
theorem dL_law_339 : decode cL_law 339 = .ok (.invokevirtual 130, 3) := dq_h dzL_law_339
theorem dL_law_342 : decode cL_law 342 = .ok (.pop, 1) := dq_h (dq_t dzL_law_339)
theorem dL_law_343 : decode cL_law 343 = .ok (.goto 1156, 3) := dq_h (dq_t (dq_t dzL_law_339))
theorem dL_law_346 : decode cL_law 346 = .ok (.aload_n 1, 1) := dq_h (dq_t (dq_t (dq_t dzL_law_339)))
theorem dL_law_347 : decode cL_law 347 = .ok (.aload_n 0, 1) := dq_h (dq_t (dq_t (dq_t (dq_t dzL_law_339))))
theorem dL_law_348 : decode cL_law 348 = .ok (.iload 4, 2) := dq_h (dq_t (dq_t (dq_t (dq_t (dq_t dzL_law_339)))))
theorem dL_law_350 : decode cL_law 350 = .ok (.iconst 1, 1) := dq_h (dq_t (dq_t (dq_t (dq_t (dq_t (dq_t dzL_law_339))))))
theorem dL_law_351 : decode cL_law 351 = .ok (.iadd, 1) := dq_h (dq_t (dq_t (dq_t (dq_t (dq_t (dq_t (dq_t dzL_law_339)))))))
theorem dL_law_352 : decode cL_law 352 = .ok (.iaload, 1) := dq_h (dq_t (dq_t (dq_t (dq_t (dq_t (dq_t (dq_t (dq_t dzL_law_339))))))))
theorem dL_law_353 : decode cL_law 353 = .ok (.aload_n 3, 1) := dq_h (dq_t (dq_t (dq_t (dq_t (dq_t (dq_t (dq_t (dq_t (dq_t dzL_law_339)))))))))
theorem dL_law_354 : decode cL_law 354 = .ok (.invokestatic 131, 3) := dq_h (dq_t (dq_t (dq_t (dq_t (dq_t (dq_t (dq_t (dq_t (dq_t (dq_t dzL_law_339))))))))))
theorem dL_law_357 : decode cL_law 357 = .ok (.istore 5, 2) := dq_h (dq_t (dq_t (dq_t (dq_t (dq_t (dq_t (dq_t (dq_t (dq_t (dq_t (dq_t dzL_law_339)))))))))))
theorem dL_law_359 : decode cL_law 359 = .ok (.aload_n 2, 1) := dq_h (dq_t (dq_t (dq_t (dq_t (dq_t (dq_t (dq_t (dq_t (dq_t (dq_t (dq_t (dq_t dzL_law_339))))))))))))
theorem dL_law_360 : decode cL_law 360 = .ok (.aload_n 0, 1) := dq_h (dq_t (dq_t (dq_t (dq_t (dq_t (dq_t (dq_t (dq_t (dq_t (dq_t (dq_t (dq_t (dq_t dzL_law_339)))))))))))))
theorem dL_law_361 : decode cL_law 361 = .ok (.iload 4, 2) := dq_h (dq_t (dq_t (dq_t (dq_t (dq_t (dq_t (dq_t (dq_t (dq_t (dq_t (dq_t (dq_t (dq_t (dq_t dzL_law_339))))))))))))))
theorem dL_law_363 : decode cL_law 363 = .ok (.iconst 1, 1) := dq_h (dq_t (dq_t (dq_t (dq_t (dq_t (dq_t (dq_t (dq_t (dq_t (dq_t (dq_t (dq_t (dq_t (dq_t (dq_t dzL_law_339)))))))))))))))
theorem dL_law_364 : decode cL_law 364 = .ok (.iadd, 1) := dq_h (dq_t (dq_t (dq_t (dq_t (dq_t (dq_t (dq_t (dq_t (dq_t (dq_t (dq_t (dq_t (dq_t (dq_t (dq_t (dq_t dzL_law_339))))))))))))))))
theorem dL_law_365 : decode cL_law 365 = .ok (.iaload, 1) := dq_h (dq_t (dq_t (dq_t (dq_t (dq_t (dq_t (dq_t (dq_t (dq_t (dq_t (dq_t (dq_t (dq_t (dq_t (dq_t (dq_t (dq_t dzL_law_339)))))))))))))))))
theorem dL_law_366 : decode cL_law 366 = .ok (.invokevirtual 133, 3) := dq_h (dq_t (dq_t (dq_t (dq_t (dq_t (dq_t (dq_t (dq_t (dq_t (dq_t (dq_t (dq_t (dq_t (dq_t (dq_t (dq_t (dq_t (dq_t dzL_law_339))))))))))))))))))
theorem dL_law_369 : decode cL_law 369 = .ok (.istore 6, 2) := dq_h (dq_t (dq_t (dq_t (dq_t (dq_t (dq_t (dq_t (dq_t (dq_t (dq_t (dq_t (dq_t (dq_t (dq_t (dq_t (dq_t (dq_t (dq_t (dq_t dzL_law_339)))))))))))))))))))
theorem dL_law_371 : decode cL_law 371 = .ok (.goto 1128, 3) := dq_h (dq_t (dq_t (dq_t (dq_t (dq_t (dq_t (dq_t (dq_t (dq_t (dq_t (dq_t (dq_t (dq_t (dq_t (dq_t (dq_t (dq_t (dq_t (dq_t (dq_t dzL_law_339))))))))))))))))))))
theorem dL_law_374 : decode cL_law 374 = .ok (.aload_n 1, 1) := dq_h (dq_t (dq_t (dq_t (dq_t (dq_t (dq_t (dq_t (dq_t (dq_t (dq_t (dq_t (dq_t (dq_t (dq_t (dq_t (dq_t (dq_t (dq_t (dq_t (dq_t (dq_t dzL_law_339)))))))))))))))))))))
theorem dL_law_375 : decode cL_law 375 = .ok (.aload_n 0, 1) := dq_h (dq_t (dq_t (dq_t (dq_t (dq_t (dq_t (dq_t (dq_t (dq_t (dq_t (dq_t (dq_t (dq_t (dq_t (dq_t (dq_t (dq_t (dq_t (dq_t (dq_t (dq_t (dq_t dzL_law_339))))))))))))))))))))))
theorem dL_law_376 : decode cL_law 376 = .ok (.iload 4, 2) := dq_h (dq_t (dq_t (dq_t (dq_t (dq_t (dq_t (dq_t (dq_t (dq_t (dq_t (dq_t (dq_t (dq_t (dq_t (dq_t (dq_t (dq_t (dq_t (dq_t (dq_t (dq_t (dq_t (dq_t dzL_law_339)))))))))))))))))))))))
theorem dzL_law_378 : dq_F cL_law [(378, .iconst 1, 1), (379, .iadd, 1), (380, .iaload, 1), (381, .aload_n 0, 1), (382, .iload 4, 2), (384, .iconst 2, 1), (385, .iadd, 1), (386, .iaload, 1), (387, .aload_n 3, 1), (388, .invokestatic 134, 3), (391, .istore 5, 2), (393, .aload_n 2, 1), (394, .aload_n 0, 1), (395, .iload 4, 2), (397, .iconst 1, 1), (398, .iadd, 1), (399, .iaload, 1), (400, .aload_n 0, 1), (401, .iload 4, 2), (403, .iconst 2, 1), (404, .iadd, 1), (405, .iaload, 1), (406, .invokevirtual 137, 3), (409, .istore 6, 2)] := dq_s 24 378 (by decide +kernel)
theorem dL_law_378 : decode cL_law 378 = .ok (.iconst 1, 1) := dq_h dzL_law_378
theorem dL_law_379 : decode cL_law 379 = .ok (.iadd, 1) := dq_h (dq_t dzL_law_378)
theorem dL_law_380 : decode cL_law 380 = .ok (.iaload, 1) := dq_h (dq_t (dq_t dzL_law_378))
theorem dL_law_381 : decode cL_law 381 = .ok (.aload_n 0, 1) := dq_h (dq_t (dq_t (dq_t dzL_law_378)))
theorem dL_law_382 : decode cL_law 382 = .ok (.iload 4, 2) := dq_h (dq_t (dq_t (dq_t (dq_t dzL_law_378))))
theorem dL_law_384 : decode cL_law 384 = .ok (.iconst 2, 1) := dq_h (dq_t (dq_t (dq_t (dq_t (dq_t dzL_law_378)))))
theorem dL_law_385 : decode cL_law 385 = .ok (.iadd, 1) := dq_h (dq_t (dq_t (dq_t (dq_t (dq_t (dq_t dzL_law_378))))))
theorem dL_law_386 : decode cL_law 386 = .ok (.iaload, 1) := dq_h (dq_t (dq_t (dq_t (dq_t (dq_t (dq_t (dq_t dzL_law_378)))))))
theorem dL_law_387 : decode cL_law 387 = .ok (.aload_n 3, 1) := dq_h (dq_t (dq_t (dq_t (dq_t (dq_t (dq_t (dq_t (dq_t dzL_law_378))))))))
theorem dL_law_388 : decode cL_law 388 = .ok (.invokestatic 134, 3) := dq_h (dq_t (dq_t (dq_t (dq_t (dq_t (dq_t (dq_t (dq_t (dq_t dzL_law_378)))))))))
theorem dL_law_391 : decode cL_law 391 = .ok (.istore 5, 2) := dq_h (dq_t (dq_t (dq_t (dq_t (dq_t (dq_t (dq_t (dq_t (dq_t (dq_t dzL_law_378))))))))))
theorem dL_law_393 : decode cL_law 393 = .ok (.aload_n 2, 1) := dq_h (dq_t (dq_t (dq_t (dq_t (dq_t (dq_t (dq_t (dq_t (dq_t (dq_t (dq_t dzL_law_378)))))))))))
theorem dL_law_394 : decode cL_law 394 = .ok (.aload_n 0, 1) := dq_h (dq_t (dq_t (dq_t (dq_t (dq_t (dq_t (dq_t (dq_t (dq_t (dq_t (dq_t (dq_t dzL_law_378))))))))))))
theorem dL_law_395 : decode cL_law 395 = .ok (.iload 4, 2) := dq_h (dq_t (dq_t (dq_t (dq_t (dq_t (dq_t (dq_t (dq_t (dq_t (dq_t (dq_t (dq_t (dq_t dzL_law_378)))))))))))))
theorem dL_law_397 : decode cL_law 397 = .ok (.iconst 1, 1) := dq_h (dq_t (dq_t (dq_t (dq_t (dq_t (dq_t (dq_t (dq_t (dq_t (dq_t (dq_t (dq_t (dq_t (dq_t dzL_law_378))))))))))))))
theorem dL_law_398 : decode cL_law 398 = .ok (.iadd, 1) := dq_h (dq_t (dq_t (dq_t (dq_t (dq_t (dq_t (dq_t (dq_t (dq_t (dq_t (dq_t (dq_t (dq_t (dq_t (dq_t dzL_law_378)))))))))))))))
theorem dL_law_399 : decode cL_law 399 = .ok (.iaload, 1) := dq_h (dq_t (dq_t (dq_t (dq_t (dq_t (dq_t (dq_t (dq_t (dq_t (dq_t (dq_t (dq_t (dq_t (dq_t (dq_t (dq_t dzL_law_378))))))))))))))))
theorem dL_law_400 : decode cL_law 400 = .ok (.aload_n 0, 1) := dq_h (dq_t (dq_t (dq_t (dq_t (dq_t (dq_t (dq_t (dq_t (dq_t (dq_t (dq_t (dq_t (dq_t (dq_t (dq_t (dq_t (dq_t dzL_law_378)))))))))))))))))
theorem dL_law_401 : decode cL_law 401 = .ok (.iload 4, 2) := dq_h (dq_t (dq_t (dq_t (dq_t (dq_t (dq_t (dq_t (dq_t (dq_t (dq_t (dq_t (dq_t (dq_t (dq_t (dq_t (dq_t (dq_t (dq_t dzL_law_378))))))))))))))))))
theorem dL_law_403 : decode cL_law 403 = .ok (.iconst 2, 1) := dq_h (dq_t (dq_t (dq_t (dq_t (dq_t (dq_t (dq_t (dq_t (dq_t (dq_t (dq_t (dq_t (dq_t (dq_t (dq_t (dq_t (dq_t (dq_t (dq_t dzL_law_378)))))))))))))))))))
theorem dL_law_404 : decode cL_law 404 = .ok (.iadd, 1) := dq_h (dq_t (dq_t (dq_t (dq_t (dq_t (dq_t (dq_t (dq_t (dq_t (dq_t (dq_t (dq_t (dq_t (dq_t (dq_t (dq_t (dq_t (dq_t (dq_t (dq_t dzL_law_378))))))))))))))))))))
theorem dL_law_405 : decode cL_law 405 = .ok (.iaload, 1) := dq_h (dq_t (dq_t (dq_t (dq_t (dq_t (dq_t (dq_t (dq_t (dq_t (dq_t (dq_t (dq_t (dq_t (dq_t (dq_t (dq_t (dq_t (dq_t (dq_t (dq_t (dq_t dzL_law_378)))))))))))))))))))))
theorem dL_law_406 : decode cL_law 406 = .ok (.invokevirtual 137, 3) := dq_h (dq_t (dq_t (dq_t (dq_t (dq_t (dq_t (dq_t (dq_t (dq_t (dq_t (dq_t (dq_t (dq_t (dq_t (dq_t (dq_t (dq_t (dq_t (dq_t (dq_t (dq_t (dq_t dzL_law_378))))))))))))))))))))))
theorem dL_law_409 : decode cL_law 409 = .ok (.istore 6, 2) := dq_h (dq_t (dq_t (dq_t (dq_t (dq_t (dq_t (dq_t (dq_t (dq_t (dq_t (dq_t (dq_t (dq_t (dq_t (dq_t (dq_t (dq_t (dq_t (dq_t (dq_t (dq_t (dq_t (dq_t dzL_law_378)))))))))))))))))))))))
theorem dzL_law_411 : dq_F cL_law [(411, .goto 1088, 3), (414, .aload_n 1, 1), (415, .aload_n 0, 1), (416, .iload 4, 2), (418, .iconst 1, 1), (419, .iadd, 1), (420, .iaload, 1), (421, .aload_n 0, 1), (422, .iload 4, 2), (424, .iconst 2, 1), (425, .iadd, 1), (426, .iaload, 1), (427, .aload_n 3, 1), (428, .invokestatic 138, 3), (431, .istore 5, 2), (433, .aload_n 2, 1), (434, .aload_n 0, 1), (435, .iload 4, 2), (437, .iconst 1, 1), (438, .iadd, 1), (439, .iaload, 1), (440, .aload_n 0, 1), (441, .iload 4, 2), (443, .iconst 2, 1)] := dq_s 24 411 (by decide +kernel)
theorem dL_law_411 : decode cL_law 411 = .ok (.goto 1088, 3) := dq_h dzL_law_411
theorem dL_law_414 : decode cL_law 414 = .ok (.aload_n 1, 1) := dq_h (dq_t dzL_law_411)
theorem dL_law_415 : decode cL_law 415 = .ok (.aload_n 0, 1) := dq_h (dq_t (dq_t dzL_law_411))
theorem dL_law_416 : decode cL_law 416 = .ok (.iload 4, 2) := dq_h (dq_t (dq_t (dq_t dzL_law_411)))
theorem dL_law_418 : decode cL_law 418 = .ok (.iconst 1, 1) := dq_h (dq_t (dq_t (dq_t (dq_t dzL_law_411))))
theorem dL_law_419 : decode cL_law 419 = .ok (.iadd, 1) := dq_h (dq_t (dq_t (dq_t (dq_t (dq_t dzL_law_411)))))
theorem dL_law_420 : decode cL_law 420 = .ok (.iaload, 1) := dq_h (dq_t (dq_t (dq_t (dq_t (dq_t (dq_t dzL_law_411))))))
theorem dL_law_421 : decode cL_law 421 = .ok (.aload_n 0, 1) := dq_h (dq_t (dq_t (dq_t (dq_t (dq_t (dq_t (dq_t dzL_law_411)))))))
theorem dL_law_422 : decode cL_law 422 = .ok (.iload 4, 2) := dq_h (dq_t (dq_t (dq_t (dq_t (dq_t (dq_t (dq_t (dq_t dzL_law_411))))))))
theorem dL_law_424 : decode cL_law 424 = .ok (.iconst 2, 1) := dq_h (dq_t (dq_t (dq_t (dq_t (dq_t (dq_t (dq_t (dq_t (dq_t dzL_law_411)))))))))
theorem dL_law_425 : decode cL_law 425 = .ok (.iadd, 1) := dq_h (dq_t (dq_t (dq_t (dq_t (dq_t (dq_t (dq_t (dq_t (dq_t (dq_t dzL_law_411))))))))))
theorem dL_law_426 : decode cL_law 426 = .ok (.iaload, 1) := dq_h (dq_t (dq_t (dq_t (dq_t (dq_t (dq_t (dq_t (dq_t (dq_t (dq_t (dq_t dzL_law_411)))))))))))
theorem dL_law_427 : decode cL_law 427 = .ok (.aload_n 3, 1) := dq_h (dq_t (dq_t (dq_t (dq_t (dq_t (dq_t (dq_t (dq_t (dq_t (dq_t (dq_t (dq_t dzL_law_411))))))))))))
theorem dL_law_428 : decode cL_law 428 = .ok (.invokestatic 138, 3) := dq_h (dq_t (dq_t (dq_t (dq_t (dq_t (dq_t (dq_t (dq_t (dq_t (dq_t (dq_t (dq_t (dq_t dzL_law_411)))))))))))))
theorem dL_law_431 : decode cL_law 431 = .ok (.istore 5, 2) := dq_h (dq_t (dq_t (dq_t (dq_t (dq_t (dq_t (dq_t (dq_t (dq_t (dq_t (dq_t (dq_t (dq_t (dq_t dzL_law_411))))))))))))))
theorem dL_law_433 : decode cL_law 433 = .ok (.aload_n 2, 1) := dq_h (dq_t (dq_t (dq_t (dq_t (dq_t (dq_t (dq_t (dq_t (dq_t (dq_t (dq_t (dq_t (dq_t (dq_t (dq_t dzL_law_411)))))))))))))))
theorem dL_law_434 : decode cL_law 434 = .ok (.aload_n 0, 1) := dq_h (dq_t (dq_t (dq_t (dq_t (dq_t (dq_t (dq_t (dq_t (dq_t (dq_t (dq_t (dq_t (dq_t (dq_t (dq_t (dq_t dzL_law_411))))))))))))))))
theorem dL_law_435 : decode cL_law 435 = .ok (.iload 4, 2) := dq_h (dq_t (dq_t (dq_t (dq_t (dq_t (dq_t (dq_t (dq_t (dq_t (dq_t (dq_t (dq_t (dq_t (dq_t (dq_t (dq_t (dq_t dzL_law_411)))))))))))))))))
theorem dL_law_437 : decode cL_law 437 = .ok (.iconst 1, 1) := dq_h (dq_t (dq_t (dq_t (dq_t (dq_t (dq_t (dq_t (dq_t (dq_t (dq_t (dq_t (dq_t (dq_t (dq_t (dq_t (dq_t (dq_t (dq_t dzL_law_411))))))))))))))))))
theorem dL_law_438 : decode cL_law 438 = .ok (.iadd, 1) := dq_h (dq_t (dq_t (dq_t (dq_t (dq_t (dq_t (dq_t (dq_t (dq_t (dq_t (dq_t (dq_t (dq_t (dq_t (dq_t (dq_t (dq_t (dq_t (dq_t dzL_law_411)))))))))))))))))))
theorem dL_law_439 : decode cL_law 439 = .ok (.iaload, 1) := dq_h (dq_t (dq_t (dq_t (dq_t (dq_t (dq_t (dq_t (dq_t (dq_t (dq_t (dq_t (dq_t (dq_t (dq_t (dq_t (dq_t (dq_t (dq_t (dq_t (dq_t dzL_law_411))))))))))))))))))))
theorem dL_law_440 : decode cL_law 440 = .ok (.aload_n 0, 1) := dq_h (dq_t (dq_t (dq_t (dq_t (dq_t (dq_t (dq_t (dq_t (dq_t (dq_t (dq_t (dq_t (dq_t (dq_t (dq_t (dq_t (dq_t (dq_t (dq_t (dq_t (dq_t dzL_law_411)))))))))))))))))))))
theorem dL_law_441 : decode cL_law 441 = .ok (.iload 4, 2) := dq_h (dq_t (dq_t (dq_t (dq_t (dq_t (dq_t (dq_t (dq_t (dq_t (dq_t (dq_t (dq_t (dq_t (dq_t (dq_t (dq_t (dq_t (dq_t (dq_t (dq_t (dq_t (dq_t dzL_law_411))))))))))))))))))))))
theorem dL_law_443 : decode cL_law 443 = .ok (.iconst 2, 1) := dq_h (dq_t (dq_t (dq_t (dq_t (dq_t (dq_t (dq_t (dq_t (dq_t (dq_t (dq_t (dq_t (dq_t (dq_t (dq_t (dq_t (dq_t (dq_t (dq_t (dq_t (dq_t (dq_t (dq_t dzL_law_411)))))))))))))))))))))))
theorem dzL_law_444 : dq_F cL_law [(444, .iadd, 1), (445, .iaload, 1), (446, .invokevirtual 140, 3), (449, .istore 6, 2), (451, .goto 1048, 3), (454, .aload_n 1, 1), (455, .aload_n 0, 1), (456, .iload 4, 2), (458, .iconst 1, 1), (459, .iadd, 1), (460, .iaload, 1), (461, .invokevirtual 141, 3), (464, .pop, 1), (465, .aload_n 2, 1), (466, .aload_n 0, 1), (467, .iload 4, 2), (469, .iconst 1, 1), (470, .iadd, 1), (471, .iaload, 1), (472, .invokevirtual 144, 3), (475, .pop, 1), (476, .goto 1023, 3), (479, .aload_n 1, 1), (480, .aload_n 0, 1)] := dq_s 24 444 (by decide +kernel)
theorem dL_law_444 : decode cL_law 444 = .ok (.iadd, 1) := dq_h dzL_law_444
theorem dL_law_445 : decode cL_law 445 = .ok (.iaload, 1) := dq_h (dq_t dzL_law_444)
theorem dL_law_446 : decode cL_law 446 = .ok (.invokevirtual 140, 3) := dq_h (dq_t (dq_t dzL_law_444))
theorem dL_law_449 : decode cL_law 449 = .ok (.istore 6, 2) := dq_h (dq_t (dq_t (dq_t dzL_law_444)))
theorem dL_law_451 : decode cL_law 451 = .ok (.goto 1048, 3) := dq_h (dq_t (dq_t (dq_t (dq_t dzL_law_444))))
theorem dL_law_454 : decode cL_law 454 = .ok (.aload_n 1, 1) := dq_h (dq_t (dq_t (dq_t (dq_t (dq_t dzL_law_444)))))
theorem dL_law_455 : decode cL_law 455 = .ok (.aload_n 0, 1) := dq_h (dq_t (dq_t (dq_t (dq_t (dq_t (dq_t dzL_law_444))))))
theorem dL_law_456 : decode cL_law 456 = .ok (.iload 4, 2) := dq_h (dq_t (dq_t (dq_t (dq_t (dq_t (dq_t (dq_t dzL_law_444)))))))
theorem dL_law_458 : decode cL_law 458 = .ok (.iconst 1, 1) := dq_h (dq_t (dq_t (dq_t (dq_t (dq_t (dq_t (dq_t (dq_t dzL_law_444))))))))
theorem dL_law_459 : decode cL_law 459 = .ok (.iadd, 1) := dq_h (dq_t (dq_t (dq_t (dq_t (dq_t (dq_t (dq_t (dq_t (dq_t dzL_law_444)))))))))
theorem dL_law_460 : decode cL_law 460 = .ok (.iaload, 1) := dq_h (dq_t (dq_t (dq_t (dq_t (dq_t (dq_t (dq_t (dq_t (dq_t (dq_t dzL_law_444))))))))))
theorem dL_law_461 : decode cL_law 461 = .ok (.invokevirtual 141, 3) := dq_h (dq_t (dq_t (dq_t (dq_t (dq_t (dq_t (dq_t (dq_t (dq_t (dq_t (dq_t dzL_law_444)))))))))))
theorem dL_law_464 : decode cL_law 464 = .ok (.pop, 1) := dq_h (dq_t (dq_t (dq_t (dq_t (dq_t (dq_t (dq_t (dq_t (dq_t (dq_t (dq_t (dq_t dzL_law_444))))))))))))
theorem dL_law_465 : decode cL_law 465 = .ok (.aload_n 2, 1) := dq_h (dq_t (dq_t (dq_t (dq_t (dq_t (dq_t (dq_t (dq_t (dq_t (dq_t (dq_t (dq_t (dq_t dzL_law_444)))))))))))))
theorem dL_law_466 : decode cL_law 466 = .ok (.aload_n 0, 1) := dq_h (dq_t (dq_t (dq_t (dq_t (dq_t (dq_t (dq_t (dq_t (dq_t (dq_t (dq_t (dq_t (dq_t (dq_t dzL_law_444))))))))))))))
theorem dL_law_467 : decode cL_law 467 = .ok (.iload 4, 2) := dq_h (dq_t (dq_t (dq_t (dq_t (dq_t (dq_t (dq_t (dq_t (dq_t (dq_t (dq_t (dq_t (dq_t (dq_t (dq_t dzL_law_444)))))))))))))))
theorem dL_law_469 : decode cL_law 469 = .ok (.iconst 1, 1) := dq_h (dq_t (dq_t (dq_t (dq_t (dq_t (dq_t (dq_t (dq_t (dq_t (dq_t (dq_t (dq_t (dq_t (dq_t (dq_t (dq_t dzL_law_444))))))))))))))))
theorem dL_law_470 : decode cL_law 470 = .ok (.iadd, 1) := dq_h (dq_t (dq_t (dq_t (dq_t (dq_t (dq_t (dq_t (dq_t (dq_t (dq_t (dq_t (dq_t (dq_t (dq_t (dq_t (dq_t (dq_t dzL_law_444)))))))))))))))))
theorem dL_law_471 : decode cL_law 471 = .ok (.iaload, 1) := dq_h (dq_t (dq_t (dq_t (dq_t (dq_t (dq_t (dq_t (dq_t (dq_t (dq_t (dq_t (dq_t (dq_t (dq_t (dq_t (dq_t (dq_t (dq_t dzL_law_444))))))))))))))))))
theorem dL_law_472 : decode cL_law 472 = .ok (.invokevirtual 144, 3) := dq_h (dq_t (dq_t (dq_t (dq_t (dq_t (dq_t (dq_t (dq_t (dq_t (dq_t (dq_t (dq_t (dq_t (dq_t (dq_t (dq_t (dq_t (dq_t (dq_t dzL_law_444)))))))))))))))))))
theorem dL_law_475 : decode cL_law 475 = .ok (.pop, 1) := dq_h (dq_t (dq_t (dq_t (dq_t (dq_t (dq_t (dq_t (dq_t (dq_t (dq_t (dq_t (dq_t (dq_t (dq_t (dq_t (dq_t (dq_t (dq_t (dq_t (dq_t dzL_law_444))))))))))))))))))))
theorem dL_law_476 : decode cL_law 476 = .ok (.goto 1023, 3) := dq_h (dq_t (dq_t (dq_t (dq_t (dq_t (dq_t (dq_t (dq_t (dq_t (dq_t (dq_t (dq_t (dq_t (dq_t (dq_t (dq_t (dq_t (dq_t (dq_t (dq_t (dq_t dzL_law_444)))))))))))))))))))))
theorem dL_law_479 : decode cL_law 479 = .ok (.aload_n 1, 1) := dq_h (dq_t (dq_t (dq_t (dq_t (dq_t (dq_t (dq_t (dq_t (dq_t (dq_t (dq_t (dq_t (dq_t (dq_t (dq_t (dq_t (dq_t (dq_t (dq_t (dq_t (dq_t (dq_t dzL_law_444))))))))))))))))))))))
theorem dL_law_480 : decode cL_law 480 = .ok (.aload_n 0, 1) := dq_h (dq_t (dq_t (dq_t (dq_t (dq_t (dq_t (dq_t (dq_t (dq_t (dq_t (dq_t (dq_t (dq_t (dq_t (dq_t (dq_t (dq_t (dq_t (dq_t (dq_t (dq_t (dq_t (dq_t dzL_law_444)))))))))))))))))))))))
theorem dzL_law_481 : dq_F cL_law [(481, .iload 4, 2), (483, .iconst 1, 1), (484, .iadd, 1), (485, .iaload, 1), (486, .aload_n 0, 1), (487, .iload 4, 2), (489, .iconst 2, 1), (490, .iadd, 1), (491, .iaload, 1), (492, .aload_n 3, 1), (493, .invokestatic 145, 3), (496, .istore 5, 2), (498, .aload_n 2, 1), (499, .aload_n 0, 1), (500, .iload 4, 2), (502, .iconst 1, 1), (503, .iadd, 1), (504, .iaload, 1), (505, .aload_n 0, 1), (506, .iload 4, 2), (508, .iconst 2, 1), (509, .iadd, 1), (510, .iaload, 1), (511, .invokevirtual 147, 3)] := dq_s 24 481 (by decide +kernel)
theorem dL_law_481 : decode cL_law 481 = .ok (.iload 4, 2) := dq_h dzL_law_481
theorem dL_law_483 : decode cL_law 483 = .ok (.iconst 1, 1) := dq_h (dq_t dzL_law_481)
theorem dL_law_484 : decode cL_law 484 = .ok (.iadd, 1) := dq_h (dq_t (dq_t dzL_law_481))
theorem dL_law_485 : decode cL_law 485 = .ok (.iaload, 1) := dq_h (dq_t (dq_t (dq_t dzL_law_481)))
theorem dL_law_486 : decode cL_law 486 = .ok (.aload_n 0, 1) := dq_h (dq_t (dq_t (dq_t (dq_t dzL_law_481))))
theorem dL_law_487 : decode cL_law 487 = .ok (.iload 4, 2) := dq_h (dq_t (dq_t (dq_t (dq_t (dq_t dzL_law_481)))))
theorem dL_law_489 : decode cL_law 489 = .ok (.iconst 2, 1) := dq_h (dq_t (dq_t (dq_t (dq_t (dq_t (dq_t dzL_law_481))))))
theorem dL_law_490 : decode cL_law 490 = .ok (.iadd, 1) := dq_h (dq_t (dq_t (dq_t (dq_t (dq_t (dq_t (dq_t dzL_law_481)))))))
theorem dL_law_491 : decode cL_law 491 = .ok (.iaload, 1) := dq_h (dq_t (dq_t (dq_t (dq_t (dq_t (dq_t (dq_t (dq_t dzL_law_481))))))))
theorem dL_law_492 : decode cL_law 492 = .ok (.aload_n 3, 1) := dq_h (dq_t (dq_t (dq_t (dq_t (dq_t (dq_t (dq_t (dq_t (dq_t dzL_law_481)))))))))
theorem dL_law_493 : decode cL_law 493 = .ok (.invokestatic 145, 3) := dq_h (dq_t (dq_t (dq_t (dq_t (dq_t (dq_t (dq_t (dq_t (dq_t (dq_t dzL_law_481))))))))))
theorem dL_law_496 : decode cL_law 496 = .ok (.istore 5, 2) := dq_h (dq_t (dq_t (dq_t (dq_t (dq_t (dq_t (dq_t (dq_t (dq_t (dq_t (dq_t dzL_law_481)))))))))))
theorem dL_law_498 : decode cL_law 498 = .ok (.aload_n 2, 1) := dq_h (dq_t (dq_t (dq_t (dq_t (dq_t (dq_t (dq_t (dq_t (dq_t (dq_t (dq_t (dq_t dzL_law_481))))))))))))
theorem dL_law_499 : decode cL_law 499 = .ok (.aload_n 0, 1) := dq_h (dq_t (dq_t (dq_t (dq_t (dq_t (dq_t (dq_t (dq_t (dq_t (dq_t (dq_t (dq_t (dq_t dzL_law_481)))))))))))))
theorem dL_law_500 : decode cL_law 500 = .ok (.iload 4, 2) := dq_h (dq_t (dq_t (dq_t (dq_t (dq_t (dq_t (dq_t (dq_t (dq_t (dq_t (dq_t (dq_t (dq_t (dq_t dzL_law_481))))))))))))))
theorem dL_law_502 : decode cL_law 502 = .ok (.iconst 1, 1) := dq_h (dq_t (dq_t (dq_t (dq_t (dq_t (dq_t (dq_t (dq_t (dq_t (dq_t (dq_t (dq_t (dq_t (dq_t (dq_t dzL_law_481)))))))))))))))
theorem dL_law_503 : decode cL_law 503 = .ok (.iadd, 1) := dq_h (dq_t (dq_t (dq_t (dq_t (dq_t (dq_t (dq_t (dq_t (dq_t (dq_t (dq_t (dq_t (dq_t (dq_t (dq_t (dq_t dzL_law_481))))))))))))))))
theorem dL_law_504 : decode cL_law 504 = .ok (.iaload, 1) := dq_h (dq_t (dq_t (dq_t (dq_t (dq_t (dq_t (dq_t (dq_t (dq_t (dq_t (dq_t (dq_t (dq_t (dq_t (dq_t (dq_t (dq_t dzL_law_481)))))))))))))))))
theorem dL_law_505 : decode cL_law 505 = .ok (.aload_n 0, 1) := dq_h (dq_t (dq_t (dq_t (dq_t (dq_t (dq_t (dq_t (dq_t (dq_t (dq_t (dq_t (dq_t (dq_t (dq_t (dq_t (dq_t (dq_t (dq_t dzL_law_481))))))))))))))))))
theorem dL_law_506 : decode cL_law 506 = .ok (.iload 4, 2) := dq_h (dq_t (dq_t (dq_t (dq_t (dq_t (dq_t (dq_t (dq_t (dq_t (dq_t (dq_t (dq_t (dq_t (dq_t (dq_t (dq_t (dq_t (dq_t (dq_t dzL_law_481)))))))))))))))))))
theorem dL_law_508 : decode cL_law 508 = .ok (.iconst 2, 1) := dq_h (dq_t (dq_t (dq_t (dq_t (dq_t (dq_t (dq_t (dq_t (dq_t (dq_t (dq_t (dq_t (dq_t (dq_t (dq_t (dq_t (dq_t (dq_t (dq_t (dq_t dzL_law_481))))))))))))))))))))
theorem dL_law_509 : decode cL_law 509 = .ok (.iadd, 1) := dq_h (dq_t (dq_t (dq_t (dq_t (dq_t (dq_t (dq_t (dq_t (dq_t (dq_t (dq_t (dq_t (dq_t (dq_t (dq_t (dq_t (dq_t (dq_t (dq_t (dq_t (dq_t dzL_law_481)))))))))))))))))))))
theorem dL_law_510 : decode cL_law 510 = .ok (.iaload, 1) := dq_h (dq_t (dq_t (dq_t (dq_t (dq_t (dq_t (dq_t (dq_t (dq_t (dq_t (dq_t (dq_t (dq_t (dq_t (dq_t (dq_t (dq_t (dq_t (dq_t (dq_t (dq_t (dq_t dzL_law_481))))))))))))))))))))))
theorem dL_law_511 : decode cL_law 511 = .ok (.invokevirtual 147, 3) := dq_h (dq_t (dq_t (dq_t (dq_t (dq_t (dq_t (dq_t (dq_t (dq_t (dq_t (dq_t (dq_t (dq_t (dq_t (dq_t (dq_t (dq_t (dq_t (dq_t (dq_t (dq_t (dq_t (dq_t dzL_law_481)))))))))))))))))))))))
theorem dzL_law_514 : dq_F cL_law [(514, .istore 6, 2), (516, .goto 983, 3), (519, .aload_n 1, 1), (520, .aload_n 0, 1), (521, .iload 4, 2), (523, .iconst 1, 1), (524, .iadd, 1), (525, .iaload, 1), (526, .aload_n 3, 1), (527, .invokestatic 148, 3), (530, .istore 5, 2), (532, .aload_n 2, 1), (533, .aload_n 0, 1), (534, .iload 4, 2), (536, .iconst 1, 1), (537, .iadd, 1), (538, .iaload, 1), (539, .invokevirtual 150, 3), (542, .istore 6, 2), (544, .goto 955, 3), (547, .aload_n 1, 1), (548, .aload_n 0, 1), (549, .iload 4, 2), (551, .iconst 1, 1)] := dq_s 24 514 (by decide +kernel)
theorem dL_law_514 : decode cL_law 514 = .ok (.istore 6, 2) := dq_h dzL_law_514
theorem dL_law_516 : decode cL_law 516 = .ok (.goto 983, 3) := dq_h (dq_t dzL_law_514)
theorem dL_law_519 : decode cL_law 519 = .ok (.aload_n 1, 1) := dq_h (dq_t (dq_t dzL_law_514))
theorem dL_law_520 : decode cL_law 520 = .ok (.aload_n 0, 1) := dq_h (dq_t (dq_t (dq_t dzL_law_514)))
theorem dL_law_521 : decode cL_law 521 = .ok (.iload 4, 2) := dq_h (dq_t (dq_t (dq_t (dq_t dzL_law_514))))
theorem dL_law_523 : decode cL_law 523 = .ok (.iconst 1, 1) := dq_h (dq_t (dq_t (dq_t (dq_t (dq_t dzL_law_514)))))
theorem dL_law_524 : decode cL_law 524 = .ok (.iadd, 1) := dq_h (dq_t (dq_t (dq_t (dq_t (dq_t (dq_t dzL_law_514))))))
theorem dL_law_525 : decode cL_law 525 = .ok (.iaload, 1) := dq_h (dq_t (dq_t (dq_t (dq_t (dq_t (dq_t (dq_t dzL_law_514)))))))
theorem dL_law_526 : decode cL_law 526 = .ok (.aload_n 3, 1) := dq_h (dq_t (dq_t (dq_t (dq_t (dq_t (dq_t (dq_t (dq_t dzL_law_514))))))))
theorem dL_law_527 : decode cL_law 527 = .ok (.invokestatic 148, 3) := dq_h (dq_t (dq_t (dq_t (dq_t (dq_t (dq_t (dq_t (dq_t (dq_t dzL_law_514)))))))))
theorem dL_law_530 : decode cL_law 530 = .ok (.istore 5, 2) := dq_h (dq_t (dq_t (dq_t (dq_t (dq_t (dq_t (dq_t (dq_t (dq_t (dq_t dzL_law_514))))))))))
theorem dL_law_532 : decode cL_law 532 = .ok (.aload_n 2, 1) := dq_h (dq_t (dq_t (dq_t (dq_t (dq_t (dq_t (dq_t (dq_t (dq_t (dq_t (dq_t dzL_law_514)))))))))))
theorem dL_law_533 : decode cL_law 533 = .ok (.aload_n 0, 1) := dq_h (dq_t (dq_t (dq_t (dq_t (dq_t (dq_t (dq_t (dq_t (dq_t (dq_t (dq_t (dq_t dzL_law_514))))))))))))
theorem dL_law_534 : decode cL_law 534 = .ok (.iload 4, 2) := dq_h (dq_t (dq_t (dq_t (dq_t (dq_t (dq_t (dq_t (dq_t (dq_t (dq_t (dq_t (dq_t (dq_t dzL_law_514)))))))))))))
theorem dL_law_536 : decode cL_law 536 = .ok (.iconst 1, 1) := dq_h (dq_t (dq_t (dq_t (dq_t (dq_t (dq_t (dq_t (dq_t (dq_t (dq_t (dq_t (dq_t (dq_t (dq_t dzL_law_514))))))))))))))
theorem dL_law_537 : decode cL_law 537 = .ok (.iadd, 1) := dq_h (dq_t (dq_t (dq_t (dq_t (dq_t (dq_t (dq_t (dq_t (dq_t (dq_t (dq_t (dq_t (dq_t (dq_t (dq_t dzL_law_514)))))))))))))))
theorem dL_law_538 : decode cL_law 538 = .ok (.iaload, 1) := dq_h (dq_t (dq_t (dq_t (dq_t (dq_t (dq_t (dq_t (dq_t (dq_t (dq_t (dq_t (dq_t (dq_t (dq_t (dq_t (dq_t dzL_law_514))))))))))))))))
theorem dL_law_539 : decode cL_law 539 = .ok (.invokevirtual 150, 3) := dq_h (dq_t (dq_t (dq_t (dq_t (dq_t (dq_t (dq_t (dq_t (dq_t (dq_t (dq_t (dq_t (dq_t (dq_t (dq_t (dq_t (dq_t dzL_law_514)))))))))))))))))
theorem dL_law_542 : decode cL_law 542 = .ok (.istore 6, 2) := dq_h (dq_t (dq_t (dq_t (dq_t (dq_t (dq_t (dq_t (dq_t (dq_t (dq_t (dq_t (dq_t (dq_t (dq_t (dq_t (dq_t (dq_t (dq_t dzL_law_514))))))))))))))))))
theorem dL_law_544 : decode cL_law 544 = .ok (.goto 955, 3) := dq_h (dq_t (dq_t (dq_t (dq_t (dq_t (dq_t (dq_t (dq_t (dq_t (dq_t (dq_t (dq_t (dq_t (dq_t (dq_t (dq_t (dq_t (dq_t (dq_t dzL_law_514)))))))))))))))))))
theorem dL_law_547 : decode cL_law 547 = .ok (.aload_n 1, 1) := dq_h (dq_t (dq_t (dq_t (dq_t (dq_t (dq_t (dq_t (dq_t (dq_t (dq_t (dq_t (dq_t (dq_t (dq_t (dq_t (dq_t (dq_t (dq_t (dq_t (dq_t dzL_law_514))))))))))))))))))))
theorem dL_law_548 : decode cL_law 548 = .ok (.aload_n 0, 1) := dq_h (dq_t (dq_t (dq_t (dq_t (dq_t (dq_t (dq_t (dq_t (dq_t (dq_t (dq_t (dq_t (dq_t (dq_t (dq_t (dq_t (dq_t (dq_t (dq_t (dq_t (dq_t dzL_law_514)))))))))))))))))))))
theorem dL_law_549 : decode cL_law 549 = .ok (.iload 4, 2) := dq_h (dq_t (dq_t (dq_t (dq_t (dq_t (dq_t (dq_t (dq_t (dq_t (dq_t (dq_t (dq_t (dq_t (dq_t (dq_t (dq_t (dq_t (dq_t (dq_t (dq_t (dq_t (dq_t dzL_law_514))))))))))))))))))))))
theorem dL_law_551 : decode cL_law 551 = .ok (.iconst 1, 1) := dq_h (dq_t (dq_t (dq_t (dq_t (dq_t (dq_t (dq_t (dq_t (dq_t (dq_t (dq_t (dq_t (dq_t (dq_t (dq_t (dq_t (dq_t (dq_t (dq_t (dq_t (dq_t (dq_t (dq_t dzL_law_514)))))))))))))))))))))))
theorem dzL_law_552 : dq_F cL_law [(552, .iadd, 1), (553, .iaload, 1), (554, .aload_n 3, 1), (555, .invokestatic 151, 3), (558, .istore 5, 2), (560, .aload_n 2, 1), (561, .aload_n 0, 1), (562, .iload 4, 2), (564, .iconst 1, 1), (565, .iadd, 1), (566, .iaload, 1), (567, .invokevirtual 153, 3), (570, .istore 6, 2), (572, .goto 927, 3), (575, .aload_n 1, 1), (576, .aload_n 0, 1), (577, .iload 4, 2), (579, .iconst 1, 1), (580, .iadd, 1), (581, .iaload, 1), (582, .aload_n 0, 1), (583, .iload 4, 2), (585, .iconst 2, 1), (586, .iadd, 1)] := dq_s 24 552 (by decide +kernel)
theorem dL_law_552 : decode cL_law 552 = .ok (.iadd, 1) := dq_h dzL_law_552
theorem dL_law_553 : decode cL_law 553 = .ok (.iaload, 1) := dq_h (dq_t dzL_law_552)
theorem dL_law_554 : decode cL_law 554 = .ok (.aload_n 3, 1) := dq_h (dq_t (dq_t dzL_law_552))
theorem dL_law_555 : decode cL_law 555 = .ok (.invokestatic 151, 3) := dq_h (dq_t (dq_t (dq_t dzL_law_552)))
theorem dL_law_558 : decode cL_law 558 = .ok (.istore 5, 2) := dq_h (dq_t (dq_t (dq_t (dq_t dzL_law_552))))
theorem dL_law_560 : decode cL_law 560 = .ok (.aload_n 2, 1) := dq_h (dq_t (dq_t (dq_t (dq_t (dq_t dzL_law_552)))))
theorem dL_law_561 : decode cL_law 561 = .ok (.aload_n 0, 1) := dq_h (dq_t (dq_t (dq_t (dq_t (dq_t (dq_t dzL_law_552))))))
theorem dL_law_562 : decode cL_law 562 = .ok (.iload 4, 2) := dq_h (dq_t (dq_t (dq_t (dq_t (dq_t (dq_t (dq_t dzL_law_552)))))))
theorem dL_law_564 : decode cL_law 564 = .ok (.iconst 1, 1) := dq_h (dq_t (dq_t (dq_t (dq_t (dq_t (dq_t (dq_t (dq_t dzL_law_552))))))))
theorem dL_law_565 : decode cL_law 565 = .ok (.iadd, 1) := dq_h (dq_t (dq_t (dq_t (dq_t (dq_t (dq_t (dq_t (dq_t (dq_t dzL_law_552)))))))))
theorem dL_law_566 : decode cL_law 566 = .ok (.iaload, 1) := dq_h (dq_t (dq_t (dq_t (dq_t (dq_t (dq_t (dq_t (dq_t (dq_t (dq_t dzL_law_552))))))))))
theorem dL_law_567 : decode cL_law 567 = .ok (.invokevirtual 153, 3) := dq_h (dq_t (dq_t (dq_t (dq_t (dq_t (dq_t (dq_t (dq_t (dq_t (dq_t (dq_t dzL_law_552)))))))))))
theorem dL_law_570 : decode cL_law 570 = .ok (.istore 6, 2) := dq_h (dq_t (dq_t (dq_t (dq_t (dq_t (dq_t (dq_t (dq_t (dq_t (dq_t (dq_t (dq_t dzL_law_552))))))))))))
theorem dL_law_572 : decode cL_law 572 = .ok (.goto 927, 3) := dq_h (dq_t (dq_t (dq_t (dq_t (dq_t (dq_t (dq_t (dq_t (dq_t (dq_t (dq_t (dq_t (dq_t dzL_law_552)))))))))))))
theorem dL_law_575 : decode cL_law 575 = .ok (.aload_n 1, 1) := dq_h (dq_t (dq_t (dq_t (dq_t (dq_t (dq_t (dq_t (dq_t (dq_t (dq_t (dq_t (dq_t (dq_t (dq_t dzL_law_552))))))))))))))
theorem dL_law_576 : decode cL_law 576 = .ok (.aload_n 0, 1) := dq_h (dq_t (dq_t (dq_t (dq_t (dq_t (dq_t (dq_t (dq_t (dq_t (dq_t (dq_t (dq_t (dq_t (dq_t (dq_t dzL_law_552)))))))))))))))
theorem dL_law_577 : decode cL_law 577 = .ok (.iload 4, 2) := dq_h (dq_t (dq_t (dq_t (dq_t (dq_t (dq_t (dq_t (dq_t (dq_t (dq_t (dq_t (dq_t (dq_t (dq_t (dq_t (dq_t dzL_law_552))))))))))))))))
theorem dL_law_579 : decode cL_law 579 = .ok (.iconst 1, 1) := dq_h (dq_t (dq_t (dq_t (dq_t (dq_t (dq_t (dq_t (dq_t (dq_t (dq_t (dq_t (dq_t (dq_t (dq_t (dq_t (dq_t (dq_t dzL_law_552)))))))))))))))))
theorem dL_law_580 : decode cL_law 580 = .ok (.iadd, 1) := dq_h (dq_t (dq_t (dq_t (dq_t (dq_t (dq_t (dq_t (dq_t (dq_t (dq_t (dq_t (dq_t (dq_t (dq_t (dq_t (dq_t (dq_t (dq_t dzL_law_552))))))))))))))))))
theorem dL_law_581 : decode cL_law 581 = .ok (.iaload, 1) := dq_h (dq_t (dq_t (dq_t (dq_t (dq_t (dq_t (dq_t (dq_t (dq_t (dq_t (dq_t (dq_t (dq_t (dq_t (dq_t (dq_t (dq_t (dq_t (dq_t dzL_law_552)))))))))))))))))))
theorem dL_law_582 : decode cL_law 582 = .ok (.aload_n 0, 1) := dq_h (dq_t (dq_t (dq_t (dq_t (dq_t (dq_t (dq_t (dq_t (dq_t (dq_t (dq_t (dq_t (dq_t (dq_t (dq_t (dq_t (dq_t (dq_t (dq_t (dq_t dzL_law_552))))))))))))))))))))
theorem dL_law_583 : decode cL_law 583 = .ok (.iload 4, 2) := dq_h (dq_t (dq_t (dq_t (dq_t (dq_t (dq_t (dq_t (dq_t (dq_t (dq_t (dq_t (dq_t (dq_t (dq_t (dq_t (dq_t (dq_t (dq_t (dq_t (dq_t (dq_t dzL_law_552)))))))))))))))))))))
theorem dL_law_585 : decode cL_law 585 = .ok (.iconst 2, 1) := dq_h (dq_t (dq_t (dq_t (dq_t (dq_t (dq_t (dq_t (dq_t (dq_t (dq_t (dq_t (dq_t (dq_t (dq_t (dq_t (dq_t (dq_t (dq_t (dq_t (dq_t (dq_t (dq_t dzL_law_552))))))))))))))))))))))
theorem dL_law_586 : decode cL_law 586 = .ok (.iadd, 1) := dq_h (dq_t (dq_t (dq_t (dq_t (dq_t (dq_t (dq_t (dq_t (dq_t (dq_t (dq_t (dq_t (dq_t (dq_t (dq_t (dq_t (dq_t (dq_t (dq_t (dq_t (dq_t (dq_t (dq_t dzL_law_552)))))))))))))))))))))))
theorem dzL_law_587 : dq_F cL_law [(587, .iaload, 1), (588, .ifCond .eq 7, 3), (591, .iconst 1, 1), (592, .goto 4, 3), (595, .iconst 0, 1), (596, .aload_n 3, 1), (597, .invokestatic 154, 3), (600, .istore 5, 2), (602, .aload_n 2, 1), (603, .aload_n 0, 1), (604, .iload 4, 2), (606, .iconst 1, 1), (607, .iadd, 1), (608, .iaload, 1), (609, .aload_n 0, 1), (610, .iload 4, 2), (612, .iconst 2, 1), (613, .iadd, 1), (614, .iaload, 1), (615, .ifCond .eq 7, 3), (618, .iconst 1, 1), (619, .goto 4, 3), (622, .iconst 0, 1), (623, .invokevirtual 157, 3)] := dq_s 24 587 (by decide +kernel)
theorem dL_law_587 : decode cL_law 587 = .ok (.iaload, 1) := dq_h dzL_law_587
theorem dL_law_588 : decode cL_law 588 = .ok (.ifCond .eq 7, 3) := dq_h (dq_t dzL_law_587)
theorem dL_law_591 : decode cL_law 591 = .ok (.iconst 1, 1) := dq_h (dq_t (dq_t dzL_law_587))
theorem dL_law_592 : decode cL_law 592 = .ok (.goto 4, 3) := dq_h (dq_t (dq_t (dq_t dzL_law_587)))
theorem dL_law_595 : decode cL_law 595 = .ok (.iconst 0, 1) := dq_h (dq_t (dq_t (dq_t (dq_t dzL_law_587))))
theorem dL_law_596 : decode cL_law 596 = .ok (.aload_n 3, 1) := dq_h (dq_t (dq_t (dq_t (dq_t (dq_t dzL_law_587)))))
theorem dL_law_597 : decode cL_law 597 = .ok (.invokestatic 154, 3) := dq_h (dq_t (dq_t (dq_t (dq_t (dq_t (dq_t dzL_law_587))))))
theorem dL_law_600 : decode cL_law 600 = .ok (.istore 5, 2) := dq_h (dq_t (dq_t (dq_t (dq_t (dq_t (dq_t (dq_t dzL_law_587)))))))
theorem dL_law_602 : decode cL_law 602 = .ok (.aload_n 2, 1) := dq_h (dq_t (dq_t (dq_t (dq_t (dq_t (dq_t (dq_t (dq_t dzL_law_587))))))))
theorem dL_law_603 : decode cL_law 603 = .ok (.aload_n 0, 1) := dq_h (dq_t (dq_t (dq_t (dq_t (dq_t (dq_t (dq_t (dq_t (dq_t dzL_law_587)))))))))
theorem dL_law_604 : decode cL_law 604 = .ok (.iload 4, 2) := dq_h (dq_t (dq_t (dq_t (dq_t (dq_t (dq_t (dq_t (dq_t (dq_t (dq_t dzL_law_587))))))))))
theorem dL_law_606 : decode cL_law 606 = .ok (.iconst 1, 1) := dq_h (dq_t (dq_t (dq_t (dq_t (dq_t (dq_t (dq_t (dq_t (dq_t (dq_t (dq_t dzL_law_587)))))))))))
theorem dL_law_607 : decode cL_law 607 = .ok (.iadd, 1) := dq_h (dq_t (dq_t (dq_t (dq_t (dq_t (dq_t (dq_t (dq_t (dq_t (dq_t (dq_t (dq_t dzL_law_587))))))))))))
theorem dL_law_608 : decode cL_law 608 = .ok (.iaload, 1) := dq_h (dq_t (dq_t (dq_t (dq_t (dq_t (dq_t (dq_t (dq_t (dq_t (dq_t (dq_t (dq_t (dq_t dzL_law_587)))))))))))))
theorem dL_law_609 : decode cL_law 609 = .ok (.aload_n 0, 1) := dq_h (dq_t (dq_t (dq_t (dq_t (dq_t (dq_t (dq_t (dq_t (dq_t (dq_t (dq_t (dq_t (dq_t (dq_t dzL_law_587))))))))))))))
theorem dL_law_610 : decode cL_law 610 = .ok (.iload 4, 2) := dq_h (dq_t (dq_t (dq_t (dq_t (dq_t (dq_t (dq_t (dq_t (dq_t (dq_t (dq_t (dq_t (dq_t (dq_t (dq_t dzL_law_587)))))))))))))))
theorem dL_law_612 : decode cL_law 612 = .ok (.iconst 2, 1) := dq_h (dq_t (dq_t (dq_t (dq_t (dq_t (dq_t (dq_t (dq_t (dq_t (dq_t (dq_t (dq_t (dq_t (dq_t (dq_t (dq_t dzL_law_587))))))))))))))))
theorem dL_law_613 : decode cL_law 613 = .ok (.iadd, 1) := dq_h (dq_t (dq_t (dq_t (dq_t (dq_t (dq_t (dq_t (dq_t (dq_t (dq_t (dq_t (dq_t (dq_t (dq_t (dq_t (dq_t (dq_t dzL_law_587)))))))))))))))))
theorem dL_law_614 : decode cL_law 614 = .ok (.iaload, 1) := dq_h (dq_t (dq_t (dq_t (dq_t (dq_t (dq_t (dq_t (dq_t (dq_t (dq_t (dq_t (dq_t (dq_t (dq_t (dq_t (dq_t (dq_t (dq_t dzL_law_587))))))))))))))))))
theorem dL_law_615 : decode cL_law 615 = .ok (.ifCond .eq 7, 3) := dq_h (dq_t (dq_t (dq_t (dq_t (dq_t (dq_t (dq_t (dq_t (dq_t (dq_t (dq_t (dq_t (dq_t (dq_t (dq_t (dq_t (dq_t (dq_t (dq_t dzL_law_587)))))))))))))))))))
theorem dL_law_618 : decode cL_law 618 = .ok (.iconst 1, 1) := dq_h (dq_t (dq_t (dq_t (dq_t (dq_t (dq_t (dq_t (dq_t (dq_t (dq_t (dq_t (dq_t (dq_t (dq_t (dq_t (dq_t (dq_t (dq_t (dq_t (dq_t dzL_law_587))))))))))))))))))))
theorem dL_law_619 : decode cL_law 619 = .ok (.goto 4, 3) := dq_h (dq_t (dq_t (dq_t (dq_t (dq_t (dq_t (dq_t (dq_t (dq_t (dq_t (dq_t (dq_t (dq_t (dq_t (dq_t (dq_t (dq_t (dq_t (dq_t (dq_t (dq_t dzL_law_587)))))))))))))))))))))
theorem dL_law_622 : decode cL_law 622 = .ok (.iconst 0, 1) := dq_h (dq_t (dq_t (dq_t (dq_t (dq_t (dq_t (dq_t (dq_t (dq_t (dq_t (dq_t (dq_t (dq_t (dq_t (dq_t (dq_t (dq_t (dq_t (dq_t (dq_t (dq_t (dq_t dzL_law_587))))))))))))))))))))))
theorem dL_law_623 : decode cL_law 623 = .ok (.invokevirtual 157, 3) := dq_h (dq_t (dq_t (dq_t (dq_t (dq_t (dq_t (dq_t (dq_t (dq_t (dq_t (dq_t (dq_t (dq_t (dq_t (dq_t (dq_t (dq_t (dq_t (dq_t (dq_t (dq_t (dq_t (dq_t dzL_law_587)))))))))))))))))))))))
theorem dzL_law_626 : dq_F cL_law [(626, .istore 6, 2), (628, .goto 871, 3), (631, .aload_n 1, 1), (632, .aload_n 0, 1), (633, .iload 4, 2), (635, .iconst 1, 1), (636, .iadd, 1), (637, .iaload, 1), (638, .aload_n 0, 1), (639, .iload 4, 2), (641, .iconst 2, 1), (642, .iadd, 1), (643, .iaload, 1), (644, .aload_n 3, 1), (645, .invokestatic 158, 3), (648, .istore 5, 2), (650, .aload_n 2, 1), (651, .aload_n 0, 1), (652, .iload 4, 2), (654, .iconst 1, 1), (655, .iadd, 1), (656, .iaload, 1), (657, .aload_n 0, 1), (658, .iload 4, 2)] := dq_s 24 626 (by decide +kernel)
theorem dL_law_626 : decode cL_law 626 = .ok (.istore 6, 2) := dq_h dzL_law_626
theorem dL_law_628 : decode cL_law 628 = .ok (.goto 871, 3) := dq_h (dq_t dzL_law_626)
theorem dL_law_631 : decode cL_law 631 = .ok (.aload_n 1, 1) := dq_h (dq_t (dq_t dzL_law_626))
theorem dL_law_632 : decode cL_law 632 = .ok (.aload_n 0, 1) := dq_h (dq_t (dq_t (dq_t dzL_law_626)))
theorem dL_law_633 : decode cL_law 633 = .ok (.iload 4, 2) := dq_h (dq_t (dq_t (dq_t (dq_t dzL_law_626))))
theorem dL_law_635 : decode cL_law 635 = .ok (.iconst 1, 1) := dq_h (dq_t (dq_t (dq_t (dq_t (dq_t dzL_law_626)))))
theorem dL_law_636 : decode cL_law 636 = .ok (.iadd, 1) := dq_h (dq_t (dq_t (dq_t (dq_t (dq_t (dq_t dzL_law_626))))))
theorem dL_law_637 : decode cL_law 637 = .ok (.iaload, 1) := dq_h (dq_t (dq_t (dq_t (dq_t (dq_t (dq_t (dq_t dzL_law_626)))))))
theorem dL_law_638 : decode cL_law 638 = .ok (.aload_n 0, 1) := dq_h (dq_t (dq_t (dq_t (dq_t (dq_t (dq_t (dq_t (dq_t dzL_law_626))))))))
theorem dL_law_639 : decode cL_law 639 = .ok (.iload 4, 2) := dq_h (dq_t (dq_t (dq_t (dq_t (dq_t (dq_t (dq_t (dq_t (dq_t dzL_law_626)))))))))
theorem dL_law_641 : decode cL_law 641 = .ok (.iconst 2, 1) := dq_h (dq_t (dq_t (dq_t (dq_t (dq_t (dq_t (dq_t (dq_t (dq_t (dq_t dzL_law_626))))))))))
theorem dL_law_642 : decode cL_law 642 = .ok (.iadd, 1) := dq_h (dq_t (dq_t (dq_t (dq_t (dq_t (dq_t (dq_t (dq_t (dq_t (dq_t (dq_t dzL_law_626)))))))))))
theorem dL_law_643 : decode cL_law 643 = .ok (.iaload, 1) := dq_h (dq_t (dq_t (dq_t (dq_t (dq_t (dq_t (dq_t (dq_t (dq_t (dq_t (dq_t (dq_t dzL_law_626))))))))))))
theorem dL_law_644 : decode cL_law 644 = .ok (.aload_n 3, 1) := dq_h (dq_t (dq_t (dq_t (dq_t (dq_t (dq_t (dq_t (dq_t (dq_t (dq_t (dq_t (dq_t (dq_t dzL_law_626)))))))))))))
theorem dL_law_645 : decode cL_law 645 = .ok (.invokestatic 158, 3) := dq_h (dq_t (dq_t (dq_t (dq_t (dq_t (dq_t (dq_t (dq_t (dq_t (dq_t (dq_t (dq_t (dq_t (dq_t dzL_law_626))))))))))))))
theorem dL_law_648 : decode cL_law 648 = .ok (.istore 5, 2) := dq_h (dq_t (dq_t (dq_t (dq_t (dq_t (dq_t (dq_t (dq_t (dq_t (dq_t (dq_t (dq_t (dq_t (dq_t (dq_t dzL_law_626)))))))))))))))
theorem dL_law_650 : decode cL_law 650 = .ok (.aload_n 2, 1) := dq_h (dq_t (dq_t (dq_t (dq_t (dq_t (dq_t (dq_t (dq_t (dq_t (dq_t (dq_t (dq_t (dq_t (dq_t (dq_t (dq_t dzL_law_626))))))))))))))))
theorem dL_law_651 : decode cL_law 651 = .ok (.aload_n 0, 1) := dq_h (dq_t (dq_t (dq_t (dq_t (dq_t (dq_t (dq_t (dq_t (dq_t (dq_t (dq_t (dq_t (dq_t (dq_t (dq_t (dq_t (dq_t dzL_law_626)))))))))))))))))
theorem dL_law_652 : decode cL_law 652 = .ok (.iload 4, 2) := dq_h (dq_t (dq_t (dq_t (dq_t (dq_t (dq_t (dq_t (dq_t (dq_t (dq_t (dq_t (dq_t (dq_t (dq_t (dq_t (dq_t (dq_t (dq_t dzL_law_626))))))))))))))))))
theorem dL_law_654 : decode cL_law 654 = .ok (.iconst 1, 1) := dq_h (dq_t (dq_t (dq_t (dq_t (dq_t (dq_t (dq_t (dq_t (dq_t (dq_t (dq_t (dq_t (dq_t (dq_t (dq_t (dq_t (dq_t (dq_t (dq_t dzL_law_626)))))))))))))))))))
theorem dL_law_655 : decode cL_law 655 = .ok (.iadd, 1) := dq_h (dq_t (dq_t (dq_t (dq_t (dq_t (dq_t (dq_t (dq_t (dq_t (dq_t (dq_t (dq_t (dq_t (dq_t (dq_t (dq_t (dq_t (dq_t (dq_t (dq_t dzL_law_626))))))))))))))))))))
theorem dL_law_656 : decode cL_law 656 = .ok (.iaload, 1) := dq_h (dq_t (dq_t (dq_t (dq_t (dq_t (dq_t (dq_t (dq_t (dq_t (dq_t (dq_t (dq_t (dq_t (dq_t (dq_t (dq_t (dq_t (dq_t (dq_t (dq_t (dq_t dzL_law_626)))))))))))))))))))))
theorem dL_law_657 : decode cL_law 657 = .ok (.aload_n 0, 1) := dq_h (dq_t (dq_t (dq_t (dq_t (dq_t (dq_t (dq_t (dq_t (dq_t (dq_t (dq_t (dq_t (dq_t (dq_t (dq_t (dq_t (dq_t (dq_t (dq_t (dq_t (dq_t (dq_t dzL_law_626))))))))))))))))))))))
theorem dL_law_658 : decode cL_law 658 = .ok (.iload 4, 2) := dq_h (dq_t (dq_t (dq_t (dq_t (dq_t (dq_t (dq_t (dq_t (dq_t (dq_t (dq_t (dq_t (dq_t (dq_t (dq_t (dq_t (dq_t (dq_t (dq_t (dq_t (dq_t (dq_t (dq_t dzL_law_626)))))))))))))))))))))))
theorem dzL_law_660 : dq_F cL_law [(660, .iconst 2, 1), (661, .iadd, 1), (662, .iaload, 1), (663, .invokevirtual 160, 3), (666, .istore 6, 2), (668, .goto 831, 3), (671, .aload_n 1, 1), (672, .invokevirtual 161, 3), (675, .pop, 1), (676, .aload_n 2, 1), (677, .invokevirtual 164, 3), (680, .pop, 1), (681, .goto 818, 3), (684, .aload_n 1, 1), (685, .aload_n 0, 1), (686, .iload 4, 2), (688, .iconst 1, 1), (689, .iadd, 1), (690, .iaload, 1), (691, .aload_n 0, 1), (692, .iload 4, 2), (694, .iconst 2, 1), (695, .iadd, 1), (696, .iaload, 1)] := dq_s 24 660 (by decide +kernel)
theorem dL_law_660 : decode cL_law 660 = .ok (.iconst 2, 1) := dq_h dzL_law_660
theorem dL_law_661 : decode cL_law 661 = .ok (.iadd, 1) := dq_h (dq_t dzL_law_660)
theorem dL_law_662 : decode cL_law 662 = .ok (.iaload, 1) := dq_h (dq_t (dq_t dzL_law_660))
theorem dL_law_663 : decode cL_law 663 = .ok (.invokevirtual 160, 3) := dq_h (dq_t (dq_t (dq_t dzL_law_660)))
theorem dL_law_666 : decode cL_law 666 = .ok (.istore 6, 2) := dq_h (dq_t (dq_t (dq_t (dq_t dzL_law_660))))
theorem dL_law_668 : decode cL_law 668 = .ok (.goto 831, 3) := dq_h (dq_t (dq_t (dq_t (dq_t (dq_t dzL_law_660)))))
theorem dL_law_671 : decode cL_law 671 = .ok (.aload_n 1, 1) := dq_h (dq_t (dq_t (dq_t (dq_t (dq_t (dq_t dzL_law_660))))))
theorem dL_law_672 : decode cL_law 672 = .ok (.invokevirtual 161, 3) := dq_h (dq_t (dq_t (dq_t (dq_t (dq_t (dq_t (dq_t dzL_law_660)))))))
theorem dL_law_675 : decode cL_law 675 = .ok (.pop, 1) := dq_h (dq_t (dq_t (dq_t (dq_t (dq_t (dq_t (dq_t (dq_t dzL_law_660))))))))
theorem dL_law_676 : decode cL_law 676 = .ok (.aload_n 2, 1) := dq_h (dq_t (dq_t (dq_t (dq_t (dq_t (dq_t (dq_t (dq_t (dq_t dzL_law_660)))))))))
theorem dL_law_677 : decode cL_law 677 = .ok (.invokevirtual 164, 3) := dq_h (dq_t (dq_t (dq_t (dq_t (dq_t (dq_t (dq_t (dq_t (dq_t (dq_t dzL_law_660))))))))))
theorem dL_law_680 : decode cL_law 680 = .ok (.pop, 1) := dq_h (dq_t (dq_t (dq_t (dq_t (dq_t (dq_t (dq_t (dq_t (dq_t (dq_t (dq_t dzL_law_660)))))))))))
theorem dL_law_681 : decode cL_law 681 = .ok (.goto 818, 3) := dq_h (dq_t (dq_t (dq_t (dq_t (dq_t (dq_t (dq_t (dq_t (dq_t (dq_t (dq_t (dq_t dzL_law_660))))))))))))
theorem dL_law_684 : decode cL_law 684 = .ok (.aload_n 1, 1) := dq_h (dq_t (dq_t (dq_t (dq_t (dq_t (dq_t (dq_t (dq_t (dq_t (dq_t (dq_t (dq_t (dq_t dzL_law_660)))))))))))))
theorem dL_law_685 : decode cL_law 685 = .ok (.aload_n 0, 1) := dq_h (dq_t (dq_t (dq_t (dq_t (dq_t (dq_t (dq_t (dq_t (dq_t (dq_t (dq_t (dq_t (dq_t (dq_t dzL_law_660))))))))))))))
theorem dL_law_686 : decode cL_law 686 = .ok (.iload 4, 2) := dq_h (dq_t (dq_t (dq_t (dq_t (dq_t (dq_t (dq_t (dq_t (dq_t (dq_t (dq_t (dq_t (dq_t (dq_t (dq_t dzL_law_660)))))))))))))))
theorem dL_law_688 : decode cL_law 688 = .ok (.iconst 1, 1) := dq_h (dq_t (dq_t (dq_t (dq_t (dq_t (dq_t (dq_t (dq_t (dq_t (dq_t (dq_t (dq_t (dq_t (dq_t (dq_t (dq_t dzL_law_660))))))))))))))))
theorem dL_law_689 : decode cL_law 689 = .ok (.iadd, 1) := dq_h (dq_t (dq_t (dq_t (dq_t (dq_t (dq_t (dq_t (dq_t (dq_t (dq_t (dq_t (dq_t (dq_t (dq_t (dq_t (dq_t (dq_t dzL_law_660)))))))))))))))))
theorem dL_law_690 : decode cL_law 690 = .ok (.iaload, 1) := dq_h (dq_t (dq_t (dq_t (dq_t (dq_t (dq_t (dq_t (dq_t (dq_t (dq_t (dq_t (dq_t (dq_t (dq_t (dq_t (dq_t (dq_t (dq_t dzL_law_660))))))))))))))))))
theorem dL_law_691 : decode cL_law 691 = .ok (.aload_n 0, 1) := dq_h (dq_t (dq_t (dq_t (dq_t (dq_t (dq_t (dq_t (dq_t (dq_t (dq_t (dq_t (dq_t (dq_t (dq_t (dq_t (dq_t (dq_t (dq_t (dq_t dzL_law_660)))))))))))))))))))
theorem dL_law_692 : decode cL_law 692 = .ok (.iload 4, 2) := dq_h (dq_t (dq_t (dq_t (dq_t (dq_t (dq_t (dq_t (dq_t (dq_t (dq_t (dq_t (dq_t (dq_t (dq_t (dq_t (dq_t (dq_t (dq_t (dq_t (dq_t dzL_law_660))))))))))))))))))))
theorem dL_law_694 : decode cL_law 694 = .ok (.iconst 2, 1) := dq_h (dq_t (dq_t (dq_t (dq_t (dq_t (dq_t (dq_t (dq_t (dq_t (dq_t (dq_t (dq_t (dq_t (dq_t (dq_t (dq_t (dq_t (dq_t (dq_t (dq_t (dq_t dzL_law_660)))))))))))))))))))))
theorem dL_law_695 : decode cL_law 695 = .ok (.iadd, 1) := dq_h (dq_t (dq_t (dq_t (dq_t (dq_t (dq_t (dq_t (dq_t (dq_t (dq_t (dq_t (dq_t (dq_t (dq_t (dq_t (dq_t (dq_t (dq_t (dq_t (dq_t (dq_t (dq_t dzL_law_660))))))))))))))))))))))
theorem dL_law_696 : decode cL_law 696 = .ok (.iaload, 1) := dq_h (dq_t (dq_t (dq_t (dq_t (dq_t (dq_t (dq_t (dq_t (dq_t (dq_t (dq_t (dq_t (dq_t (dq_t (dq_t (dq_t (dq_t (dq_t (dq_t (dq_t (dq_t (dq_t (dq_t dzL_law_660)))))))))))))))))))))))
theorem dzL_law_697 : dq_F cL_law [(697, .aload_n 0, 1), (698, .iload 4, 2), (700, .iconst 3, 1), (701, .iadd, 1), (702, .iaload, 1), (703, .aload_n 3, 1), (704, .invokestatic 165, 3), (707, .istore 5, 2), (709, .aload_n 2, 1), (710, .aload_n 0, 1), (711, .iload 4, 2), (713, .iconst 1, 1), (714, .iadd, 1), (715, .iaload, 1), (716, .aload_n 0, 1), (717, .iload 4, 2), (719, .iconst 2, 1), (720, .iadd, 1), (721, .iaload, 1), (722, .aload_n 0, 1), (723, .iload 4, 2), (725, .iconst 3, 1), (726, .iadd, 1), (727, .iaload, 1)] := dq_s 24 697 (by decide +kernel)
theorem dL_law_697 : decode cL_law 697 = .ok (.aload_n 0, 1) := dq_h dzL_law_697
theorem dL_law_698 : decode cL_law 698 = .ok (.iload 4, 2) := dq_h (dq_t dzL_law_697)
theorem dL_law_700 : decode cL_law 700 = .ok (.iconst 3, 1) := dq_h (dq_t (dq_t dzL_law_697))
theorem dL_law_701 : decode cL_law 701 = .ok (.iadd, 1) := dq_h (dq_t (dq_t (dq_t dzL_law_697)))
theorem dL_law_702 : decode cL_law 702 = .ok (.iaload, 1) := dq_h (dq_t (dq_t (dq_t (dq_t dzL_law_697))))
theorem dL_law_703 : decode cL_law 703 = .ok (.aload_n 3, 1) := dq_h (dq_t (dq_t (dq_t (dq_t (dq_t dzL_law_697)))))
theorem dL_law_704 : decode cL_law 704 = .ok (.invokestatic 165, 3) := dq_h (dq_t (dq_t (dq_t (dq_t (dq_t (dq_t dzL_law_697))))))
theorem dL_law_707 : decode cL_law 707 = .ok (.istore 5, 2) := dq_h (dq_t (dq_t (dq_t (dq_t (dq_t (dq_t (dq_t dzL_law_697)))))))
theorem dL_law_709 : decode cL_law 709 = .ok (.aload_n 2, 1) := dq_h (dq_t (dq_t (dq_t (dq_t (dq_t (dq_t (dq_t (dq_t dzL_law_697))))))))
theorem dL_law_710 : decode cL_law 710 = .ok (.aload_n 0, 1) := dq_h (dq_t (dq_t (dq_t (dq_t (dq_t (dq_t (dq_t (dq_t (dq_t dzL_law_697)))))))))
theorem dL_law_711 : decode cL_law 711 = .ok (.iload 4, 2) := dq_h (dq_t (dq_t (dq_t (dq_t (dq_t (dq_t (dq_t (dq_t (dq_t (dq_t dzL_law_697))))))))))
theorem dL_law_713 : decode cL_law 713 = .ok (.iconst 1, 1) := dq_h (dq_t (dq_t (dq_t (dq_t (dq_t (dq_t (dq_t (dq_t (dq_t (dq_t (dq_t dzL_law_697)))))))))))
theorem dL_law_714 : decode cL_law 714 = .ok (.iadd, 1) := dq_h (dq_t (dq_t (dq_t (dq_t (dq_t (dq_t (dq_t (dq_t (dq_t (dq_t (dq_t (dq_t dzL_law_697))))))))))))
theorem dL_law_715 : decode cL_law 715 = .ok (.iaload, 1) := dq_h (dq_t (dq_t (dq_t (dq_t (dq_t (dq_t (dq_t (dq_t (dq_t (dq_t (dq_t (dq_t (dq_t dzL_law_697)))))))))))))
theorem dL_law_716 : decode cL_law 716 = .ok (.aload_n 0, 1) := dq_h (dq_t (dq_t (dq_t (dq_t (dq_t (dq_t (dq_t (dq_t (dq_t (dq_t (dq_t (dq_t (dq_t (dq_t dzL_law_697))))))))))))))
theorem dL_law_717 : decode cL_law 717 = .ok (.iload 4, 2) := dq_h (dq_t (dq_t (dq_t (dq_t (dq_t (dq_t (dq_t (dq_t (dq_t (dq_t (dq_t (dq_t (dq_t (dq_t (dq_t dzL_law_697)))))))))))))))
theorem dL_law_719 : decode cL_law 719 = .ok (.iconst 2, 1) := dq_h (dq_t (dq_t (dq_t (dq_t (dq_t (dq_t (dq_t (dq_t (dq_t (dq_t (dq_t (dq_t (dq_t (dq_t (dq_t (dq_t dzL_law_697))))))))))))))))
theorem dL_law_720 : decode cL_law 720 = .ok (.iadd, 1) := dq_h (dq_t (dq_t (dq_t (dq_t (dq_t (dq_t (dq_t (dq_t (dq_t (dq_t (dq_t (dq_t (dq_t (dq_t (dq_t (dq_t (dq_t dzL_law_697)))))))))))))))))
theorem dL_law_721 : decode cL_law 721 = .ok (.iaload, 1) := dq_h (dq_t (dq_t (dq_t (dq_t (dq_t (dq_t (dq_t (dq_t (dq_t (dq_t (dq_t (dq_t (dq_t (dq_t (dq_t (dq_t (dq_t (dq_t dzL_law_697))))))))))))))))))
theorem dL_law_722 : decode cL_law 722 = .ok (.aload_n 0, 1) := dq_h (dq_t (dq_t (dq_t (dq_t (dq_t (dq_t (dq_t (dq_t (dq_t (dq_t (dq_t (dq_t (dq_t (dq_t (dq_t (dq_t (dq_t (dq_t (dq_t dzL_law_697)))))))))))))))))))
theorem dL_law_723 : decode cL_law 723 = .ok (.iload 4, 2) := dq_h (dq_t (dq_t (dq_t (dq_t (dq_t (dq_t (dq_t (dq_t (dq_t (dq_t (dq_t (dq_t (dq_t (dq_t (dq_t (dq_t (dq_t (dq_t (dq_t (dq_t dzL_law_697))))))))))))))))))))
theorem dL_law_725 : decode cL_law 725 = .ok (.iconst 3, 1) := dq_h (dq_t (dq_t (dq_t (dq_t (dq_t (dq_t (dq_t (dq_t (dq_t (dq_t (dq_t (dq_t (dq_t (dq_t (dq_t (dq_t (dq_t (dq_t (dq_t (dq_t (dq_t dzL_law_697)))))))))))))))))))))
theorem dL_law_726 : decode cL_law 726 = .ok (.iadd, 1) := dq_h (dq_t (dq_t (dq_t (dq_t (dq_t (dq_t (dq_t (dq_t (dq_t (dq_t (dq_t (dq_t (dq_t (dq_t (dq_t (dq_t (dq_t (dq_t (dq_t (dq_t (dq_t (dq_t dzL_law_697))))))))))))))))))))))
theorem dL_law_727 : decode cL_law 727 = .ok (.iaload, 1) := dq_h (dq_t (dq_t (dq_t (dq_t (dq_t (dq_t (dq_t (dq_t (dq_t (dq_t (dq_t (dq_t (dq_t (dq_t (dq_t (dq_t (dq_t (dq_t (dq_t (dq_t (dq_t (dq_t (dq_t dzL_law_697)))))))))))))))))))))))
theorem dzL_law_728 : dq_F cL_law [(728, .invokevirtual 168, 3), (731, .istore 6, 2), (733, .goto 766, 3), (736, .aload_n 1, 1), (737, .aload_n 0, 1), (738, .iload 4, 2), (740, .iconst 1, 1), (741, .iadd, 1), (742, .iaload, 1), (743, .aload_n 3, 1), (744, .invokestatic 169, 3), (747, .istore 5, 2), (749, .aload_n 2, 1), (750, .aload_n 0, 1), (751, .iload 4, 2), (753, .iconst 1, 1), (754, .iadd, 1), (755, .iaload, 1), (756, .invokevirtual 171, 3), (759, .istore 6, 2), (761, .goto 738, 3), (764, .aload_n 1, 1), (765, .aload_n 0, 1), (766, .iload 4, 2)] := dq_s 24 728 (by decide +kernel)
theorem dL_law_728 : decode cL_law 728 = .ok (.invokevirtual 168, 3) := dq_h dzL_law_728
theorem dL_law_731 : decode cL_law 731 = .ok (.istore 6, 2) := dq_h (dq_t dzL_law_728)
theorem dL_law_733 : decode cL_law 733 = .ok (.goto 766, 3) := dq_h (dq_t (dq_t dzL_law_728))
theorem dL_law_736 : decode cL_law 736 = .ok (.aload_n 1, 1) := dq_h (dq_t (dq_t (dq_t dzL_law_728)))
theorem dL_law_737 : decode cL_law 737 = .ok (.aload_n 0, 1) := dq_h (dq_t (dq_t (dq_t (dq_t dzL_law_728))))
theorem dL_law_738 : decode cL_law 738 = .ok (.iload 4, 2) := dq_h (dq_t (dq_t (dq_t (dq_t (dq_t dzL_law_728)))))
theorem dL_law_740 : decode cL_law 740 = .ok (.iconst 1, 1) := dq_h (dq_t (dq_t (dq_t (dq_t (dq_t (dq_t dzL_law_728))))))
theorem dL_law_741 : decode cL_law 741 = .ok (.iadd, 1) := dq_h (dq_t (dq_t (dq_t (dq_t (dq_t (dq_t (dq_t dzL_law_728)))))))
theorem dL_law_742 : decode cL_law 742 = .ok (.iaload, 1) := dq_h (dq_t (dq_t (dq_t (dq_t (dq_t (dq_t (dq_t (dq_t dzL_law_728))))))))
theorem dL_law_743 : decode cL_law 743 = .ok (.aload_n 3, 1) := dq_h (dq_t (dq_t (dq_t (dq_t (dq_t (dq_t (dq_t (dq_t (dq_t dzL_law_728)))))))))
theorem dL_law_744 : decode cL_law 744 = .ok (.invokestatic 169, 3) := dq_h (dq_t (dq_t (dq_t (dq_t (dq_t (dq_t (dq_t (dq_t (dq_t (dq_t dzL_law_728))))))))))
theorem dL_law_747 : decode cL_law 747 = .ok (.istore 5, 2) := dq_h (dq_t (dq_t (dq_t (dq_t (dq_t (dq_t (dq_t (dq_t (dq_t (dq_t (dq_t dzL_law_728)))))))))))
theorem dL_law_749 : decode cL_law 749 = .ok (.aload_n 2, 1) := dq_h (dq_t (dq_t (dq_t (dq_t (dq_t (dq_t (dq_t (dq_t (dq_t (dq_t (dq_t (dq_t dzL_law_728))))))))))))
theorem dL_law_750 : decode cL_law 750 = .ok (.aload_n 0, 1) := dq_h (dq_t (dq_t (dq_t (dq_t (dq_t (dq_t (dq_t (dq_t (dq_t (dq_t (dq_t (dq_t (dq_t dzL_law_728)))))))))))))
theorem dL_law_751 : decode cL_law 751 = .ok (.iload 4, 2) := dq_h (dq_t (dq_t (dq_t (dq_t (dq_t (dq_t (dq_t (dq_t (dq_t (dq_t (dq_t (dq_t (dq_t (dq_t dzL_law_728))))))))))))))
theorem dL_law_753 : decode cL_law 753 = .ok (.iconst 1, 1) := dq_h (dq_t (dq_t (dq_t (dq_t (dq_t (dq_t (dq_t (dq_t (dq_t (dq_t (dq_t (dq_t (dq_t (dq_t (dq_t dzL_law_728)))))))))))))))
theorem dL_law_754 : decode cL_law 754 = .ok (.iadd, 1) := dq_h (dq_t (dq_t (dq_t (dq_t (dq_t (dq_t (dq_t (dq_t (dq_t (dq_t (dq_t (dq_t (dq_t (dq_t (dq_t (dq_t dzL_law_728))))))))))))))))
theorem dL_law_755 : decode cL_law 755 = .ok (.iaload, 1) := dq_h (dq_t (dq_t (dq_t (dq_t (dq_t (dq_t (dq_t (dq_t (dq_t (dq_t (dq_t (dq_t (dq_t (dq_t (dq_t (dq_t (dq_t dzL_law_728)))))))))))))))))
theorem dL_law_756 : decode cL_law 756 = .ok (.invokevirtual 171, 3) := dq_h (dq_t (dq_t (dq_t (dq_t (dq_t (dq_t (dq_t (dq_t (dq_t (dq_t (dq_t (dq_t (dq_t (dq_t (dq_t (dq_t (dq_t (dq_t dzL_law_728))))))))))))))))))
theorem dL_law_759 : decode cL_law 759 = .ok (.istore 6, 2) := dq_h (dq_t (dq_t (dq_t (dq_t (dq_t (dq_t (dq_t (dq_t (dq_t (dq_t (dq_t (dq_t (dq_t (dq_t (dq_t (dq_t (dq_t (dq_t (dq_t dzL_law_728)))))))))))))))))))
theorem dL_law_761 : decode cL_law 761 = .ok (.goto 738, 3) := dq_h (dq_t (dq_t (dq_t (dq_t (dq_t (dq_t (dq_t (dq_t (dq_t (dq_t (dq_t (dq_t (dq_t (dq_t (dq_t (dq_t (dq_t (dq_t (dq_t (dq_t dzL_law_728))))))))))))))))))))
theorem dL_law_764 : decode cL_law 764 = .ok (.aload_n 1, 1) := dq_h (dq_t (dq_t (dq_t (dq_t (dq_t (dq_t (dq_t (dq_t (dq_t (dq_t (dq_t (dq_t (dq_t (dq_t (dq_t (dq_t (dq_t (dq_t (dq_t (dq_t (dq_t dzL_law_728)))))))))))))))))))))
theorem dL_law_765 : decode cL_law 765 = .ok (.aload_n 0, 1) := dq_h (dq_t (dq_t (dq_t (dq_t (dq_t (dq_t (dq_t (dq_t (dq_t (dq_t (dq_t (dq_t (dq_t (dq_t (dq_t (dq_t (dq_t (dq_t (dq_t (dq_t (dq_t (dq_t dzL_law_728))))))))))))))))))))))
theorem dL_law_766 : decode cL_law 766 = .ok (.iload 4, 2) := dq_h (dq_t (dq_t (dq_t (dq_t (dq_t (dq_t (dq_t (dq_t (dq_t (dq_t (dq_t (dq_t (dq_t (dq_t (dq_t (dq_t (dq_t (dq_t (dq_t (dq_t (dq_t (dq_t (dq_t dzL_law_728)))))))))))))))))))))))
theorem dzL_law_768 : dq_F cL_law [(768, .iconst 1, 1), (769, .iadd, 1), (770, .iaload, 1), (771, .aload_n 3, 1), (772, .invokestatic 172, 3), (775, .istore 5, 2), (777, .aload_n 2, 1), (778, .aload_n 0, 1), (779, .iload 4, 2), (781, .iconst 1, 1), (782, .iadd, 1), (783, .iaload, 1), (784, .invokevirtual 174, 3), (787, .istore 6, 2), (789, .goto 710, 3), (792, .aload_n 1, 1), (793, .aload_n 0, 1), (794, .iload 4, 2), (796, .iconst 1, 1), (797, .iadd, 1), (798, .iaload, 1), (799, .aload_n 3, 1), (800, .invokestatic 175, 3), (803, .istore 5, 2)] := dq_s 24 768 (by decide +kernel)
theorem dL_law_768 : decode cL_law 768 = .ok (.iconst 1, 1) := dq_h dzL_law_768
theorem dL_law_769 : decode cL_law 769 = .ok (.iadd, 1) := dq_h (dq_t dzL_law_768)
theorem dL_law_770 : decode cL_law 770 = .ok (.iaload, 1) := dq_h (dq_t (dq_t dzL_law_768))
theorem dL_law_771 : decode cL_law 771 = .ok (.aload_n 3, 1) := dq_h (dq_t (dq_t (dq_t dzL_law_768)))
theorem dL_law_772 : decode cL_law 772 = .ok (.invokestatic 172, 3) := dq_h (dq_t (dq_t (dq_t (dq_t dzL_law_768))))
theorem dL_law_775 : decode cL_law 775 = .ok (.istore 5, 2) := dq_h (dq_t (dq_t (dq_t (dq_t (dq_t dzL_law_768)))))
theorem dL_law_777 : decode cL_law 777 = .ok (.aload_n 2, 1) := dq_h (dq_t (dq_t (dq_t (dq_t (dq_t (dq_t dzL_law_768))))))
theorem dL_law_778 : decode cL_law 778 = .ok (.aload_n 0, 1) := dq_h (dq_t (dq_t (dq_t (dq_t (dq_t (dq_t (dq_t dzL_law_768)))))))
theorem dL_law_779 : decode cL_law 779 = .ok (.iload 4, 2) := dq_h (dq_t (dq_t (dq_t (dq_t (dq_t (dq_t (dq_t (dq_t dzL_law_768))))))))
theorem dL_law_781 : decode cL_law 781 = .ok (.iconst 1, 1) := dq_h (dq_t (dq_t (dq_t (dq_t (dq_t (dq_t (dq_t (dq_t (dq_t dzL_law_768)))))))))
theorem dL_law_782 : decode cL_law 782 = .ok (.iadd, 1) := dq_h (dq_t (dq_t (dq_t (dq_t (dq_t (dq_t (dq_t (dq_t (dq_t (dq_t dzL_law_768))))))))))
theorem dL_law_783 : decode cL_law 783 = .ok (.iaload, 1) := dq_h (dq_t (dq_t (dq_t (dq_t (dq_t (dq_t (dq_t (dq_t (dq_t (dq_t (dq_t dzL_law_768)))))))))))
theorem dL_law_784 : decode cL_law 784 = .ok (.invokevirtual 174, 3) := dq_h (dq_t (dq_t (dq_t (dq_t (dq_t (dq_t (dq_t (dq_t (dq_t (dq_t (dq_t (dq_t dzL_law_768))))))))))))
theorem dL_law_787 : decode cL_law 787 = .ok (.istore 6, 2) := dq_h (dq_t (dq_t (dq_t (dq_t (dq_t (dq_t (dq_t (dq_t (dq_t (dq_t (dq_t (dq_t (dq_t dzL_law_768)))))))))))))
theorem dL_law_789 : decode cL_law 789 = .ok (.goto 710, 3) := dq_h (dq_t (dq_t (dq_t (dq_t (dq_t (dq_t (dq_t (dq_t (dq_t (dq_t (dq_t (dq_t (dq_t (dq_t dzL_law_768))))))))))))))
theorem dL_law_792 : decode cL_law 792 = .ok (.aload_n 1, 1) := dq_h (dq_t (dq_t (dq_t (dq_t (dq_t (dq_t (dq_t (dq_t (dq_t (dq_t (dq_t (dq_t (dq_t (dq_t (dq_t dzL_law_768)))))))))))))))
theorem dL_law_793 : decode cL_law 793 = .ok (.aload_n 0, 1) := dq_h (dq_t (dq_t (dq_t (dq_t (dq_t (dq_t (dq_t (dq_t (dq_t (dq_t (dq_t (dq_t (dq_t (dq_t (dq_t (dq_t dzL_law_768))))))))))))))))
theorem dL_law_794 : decode cL_law 794 = .ok (.iload 4, 2) := dq_h (dq_t (dq_t (dq_t (dq_t (dq_t (dq_t (dq_t (dq_t (dq_t (dq_t (dq_t (dq_t (dq_t (dq_t (dq_t (dq_t (dq_t dzL_law_768)))))))))))))))))
theorem dL_law_796 : decode cL_law 796 = .ok (.iconst 1, 1) := dq_h (dq_t (dq_t (dq_t (dq_t (dq_t (dq_t (dq_t (dq_t (dq_t (dq_t (dq_t (dq_t (dq_t (dq_t (dq_t (dq_t (dq_t (dq_t dzL_law_768))))))))))))))))))
theorem dL_law_797 : decode cL_law 797 = .ok (.iadd, 1) := dq_h (dq_t (dq_t (dq_t (dq_t (dq_t (dq_t (dq_t (dq_t (dq_t (dq_t (dq_t (dq_t (dq_t (dq_t (dq_t (dq_t (dq_t (dq_t (dq_t dzL_law_768)))))))))))))))))))
theorem dL_law_798 : decode cL_law 798 = .ok (.iaload, 1) := dq_h (dq_t (dq_t (dq_t (dq_t (dq_t (dq_t (dq_t (dq_t (dq_t (dq_t (dq_t (dq_t (dq_t (dq_t (dq_t (dq_t (dq_t (dq_t (dq_t (dq_t dzL_law_768))))))))))))))))))))
theorem dL_law_799 : decode cL_law 799 = .ok (.aload_n 3, 1) := dq_h (dq_t (dq_t (dq_t (dq_t (dq_t (dq_t (dq_t (dq_t (dq_t (dq_t (dq_t (dq_t (dq_t (dq_t (dq_t (dq_t (dq_t (dq_t (dq_t (dq_t (dq_t dzL_law_768)))))))))))))))))))))
theorem dL_law_800 : decode cL_law 800 = .ok (.invokestatic 175, 3) := dq_h (dq_t (dq_t (dq_t (dq_t (dq_t (dq_t (dq_t (dq_t (dq_t (dq_t (dq_t (dq_t (dq_t (dq_t (dq_t (dq_t (dq_t (dq_t (dq_t (dq_t (dq_t (dq_t dzL_law_768))))))))))))))))))))))
theorem dL_law_803 : decode cL_law 803 = .ok (.istore 5, 2) := dq_h (dq_t (dq_t (dq_t (dq_t (dq_t (dq_t (dq_t (dq_t (dq_t (dq_t (dq_t (dq_t (dq_t (dq_t (dq_t (dq_t (dq_t (dq_t (dq_t (dq_t (dq_t (dq_t (dq_t dzL_law_768)))))))))))))))))))))))
theorem dzL_law_805 : dq_F cL_law [(805, .aload_n 2, 1), (806, .aload_n 0, 1), (807, .iload 4, 2), (809, .iconst 1, 1), (810, .iadd, 1), (811, .iaload, 1), (812, .invokevirtual 177, 3), (815, .istore 6, 2), (817, .goto 682, 3), (820, .aload_n 1, 1), (821, .aload_n 0, 1), (822, .iload 4, 2), (824, .iconst 1, 1), (825, .iadd, 1), (826, .iaload, 1), (827, .aload_n 0, 1), (828, .iload 4, 2), (830, .iconst 2, 1), (831, .iadd, 1), (832, .iaload, 1), (833, .aload_n 3, 1), (834, .invokestatic 178, 3), (837, .istore 5, 2), (839, .aload_n 2, 1)] := dq_s 24 805 (by decide +kernel)
theorem dL_law_805 : decode cL_law 805 = .ok (.aload_n 2, 1) := dq_h dzL_law_805
theorem dL_law_806 : decode cL_law 806 = .ok (.aload_n 0, 1) := dq_h (dq_t dzL_law_805)
theorem dL_law_807 : decode cL_law 807 = .ok (.iload 4, 2) := dq_h (dq_t (dq_t dzL_law_805))
theorem dL_law_809 : decode cL_law 809 = .ok (.iconst 1, 1) := dq_h (dq_t (dq_t (dq_t dzL_law_805)))
theorem dL_law_810 : decode cL_law 810 = .ok (.iadd, 1) := dq_h (dq_t (dq_t (dq_t (dq_t dzL_law_805))))
theorem dL_law_811 : decode cL_law 811 = .ok (.iaload, 1) := dq_h (dq_t (dq_t (dq_t (dq_t (dq_t dzL_law_805)))))
theorem dL_law_812 : decode cL_law 812 = .ok (.invokevirtual 177, 3) := dq_h (dq_t (dq_t (dq_t (dq_t (dq_t (dq_t dzL_law_805))))))
theorem dL_law_815 : decode cL_law 815 = .ok (.istore 6, 2) := dq_h (dq_t (dq_t (dq_t (dq_t (dq_t (dq_t (dq_t dzL_law_805)))))))
theorem dL_law_817 : decode cL_law 817 = .ok (.goto 682, 3) := dq_h (dq_t (dq_t (dq_t (dq_t (dq_t (dq_t (dq_t (dq_t dzL_law_805))))))))
theorem dL_law_820 : decode cL_law 820 = .ok (.aload_n 1, 1) := dq_h (dq_t (dq_t (dq_t (dq_t (dq_t (dq_t (dq_t (dq_t (dq_t dzL_law_805)))))))))
theorem dL_law_821 : decode cL_law 821 = .ok (.aload_n 0, 1) := dq_h (dq_t (dq_t (dq_t (dq_t (dq_t (dq_t (dq_t (dq_t (dq_t (dq_t dzL_law_805))))))))))
theorem dL_law_822 : decode cL_law 822 = .ok (.iload 4, 2) := dq_h (dq_t (dq_t (dq_t (dq_t (dq_t (dq_t (dq_t (dq_t (dq_t (dq_t (dq_t dzL_law_805)))))))))))
theorem dL_law_824 : decode cL_law 824 = .ok (.iconst 1, 1) := dq_h (dq_t (dq_t (dq_t (dq_t (dq_t (dq_t (dq_t (dq_t (dq_t (dq_t (dq_t (dq_t dzL_law_805))))))))))))
theorem dL_law_825 : decode cL_law 825 = .ok (.iadd, 1) := dq_h (dq_t (dq_t (dq_t (dq_t (dq_t (dq_t (dq_t (dq_t (dq_t (dq_t (dq_t (dq_t (dq_t dzL_law_805)))))))))))))
theorem dL_law_826 : decode cL_law 826 = .ok (.iaload, 1) := dq_h (dq_t (dq_t (dq_t (dq_t (dq_t (dq_t (dq_t (dq_t (dq_t (dq_t (dq_t (dq_t (dq_t (dq_t dzL_law_805))))))))))))))
theorem dL_law_827 : decode cL_law 827 = .ok (.aload_n 0, 1) := dq_h (dq_t (dq_t (dq_t (dq_t (dq_t (dq_t (dq_t (dq_t (dq_t (dq_t (dq_t (dq_t (dq_t (dq_t (dq_t dzL_law_805)))))))))))))))
theorem dL_law_828 : decode cL_law 828 = .ok (.iload 4, 2) := dq_h (dq_t (dq_t (dq_t (dq_t (dq_t (dq_t (dq_t (dq_t (dq_t (dq_t (dq_t (dq_t (dq_t (dq_t (dq_t (dq_t dzL_law_805))))))))))))))))
theorem dL_law_830 : decode cL_law 830 = .ok (.iconst 2, 1) := dq_h (dq_t (dq_t (dq_t (dq_t (dq_t (dq_t (dq_t (dq_t (dq_t (dq_t (dq_t (dq_t (dq_t (dq_t (dq_t (dq_t (dq_t dzL_law_805)))))))))))))))))
theorem dL_law_831 : decode cL_law 831 = .ok (.iadd, 1) := dq_h (dq_t (dq_t (dq_t (dq_t (dq_t (dq_t (dq_t (dq_t (dq_t (dq_t (dq_t (dq_t (dq_t (dq_t (dq_t (dq_t (dq_t (dq_t dzL_law_805))))))))))))))))))
theorem dL_law_832 : decode cL_law 832 = .ok (.iaload, 1) := dq_h (dq_t (dq_t (dq_t (dq_t (dq_t (dq_t (dq_t (dq_t (dq_t (dq_t (dq_t (dq_t (dq_t (dq_t (dq_t (dq_t (dq_t (dq_t (dq_t dzL_law_805)))))))))))))))))))
theorem dL_law_833 : decode cL_law 833 = .ok (.aload_n 3, 1) := dq_h (dq_t (dq_t (dq_t (dq_t (dq_t (dq_t (dq_t (dq_t (dq_t (dq_t (dq_t (dq_t (dq_t (dq_t (dq_t (dq_t (dq_t (dq_t (dq_t (dq_t dzL_law_805))))))))))))))))))))
theorem dL_law_834 : decode cL_law 834 = .ok (.invokestatic 178, 3) := dq_h (dq_t (dq_t (dq_t (dq_t (dq_t (dq_t (dq_t (dq_t (dq_t (dq_t (dq_t (dq_t (dq_t (dq_t (dq_t (dq_t (dq_t (dq_t (dq_t (dq_t (dq_t dzL_law_805)))))))))))))))))))))
theorem dL_law_837 : decode cL_law 837 = .ok (.istore 5, 2) := dq_h (dq_t (dq_t (dq_t (dq_t (dq_t (dq_t (dq_t (dq_t (dq_t (dq_t (dq_t (dq_t (dq_t (dq_t (dq_t (dq_t (dq_t (dq_t (dq_t (dq_t (dq_t (dq_t dzL_law_805))))))))))))))))))))))
theorem dL_law_839 : decode cL_law 839 = .ok (.aload_n 2, 1) := dq_h (dq_t (dq_t (dq_t (dq_t (dq_t (dq_t (dq_t (dq_t (dq_t (dq_t (dq_t (dq_t (dq_t (dq_t (dq_t (dq_t (dq_t (dq_t (dq_t (dq_t (dq_t (dq_t (dq_t dzL_law_805)))))))))))))))))))))))
theorem dzL_law_840 : dq_F cL_law [(840, .aload_n 0, 1), (841, .iload 4, 2), (843, .iconst 1, 1), (844, .iadd, 1), (845, .iaload, 1), (846, .aload_n 0, 1), (847, .iload 4, 2), (849, .iconst 2, 1), (850, .iadd, 1), (851, .iaload, 1), (852, .invokevirtual 180, 3), (855, .istore 6, 2), (857, .goto 642, 3), (860, .aload_n 1, 1), (861, .aload_n 0, 1), (862, .iload 4, 2), (864, .iconst 1, 1), (865, .iadd, 1), (866, .iaload, 1), (867, .aload_n 3, 1), (868, .invokestatic 181, 3), (871, .istore 5, 2), (873, .aload_n 2, 1), (874, .aload_n 0, 1)] := dq_s 24 840 (by decide +kernel)
theorem dL_law_840 : decode cL_law 840 = .ok (.aload_n 0, 1) := dq_h dzL_law_840
theorem dL_law_841 : decode cL_law 841 = .ok (.iload 4, 2) := dq_h (dq_t dzL_law_840)
theorem dL_law_843 : decode cL_law 843 = .ok (.iconst 1, 1) := dq_h (dq_t (dq_t dzL_law_840))
theorem dL_law_844 : decode cL_law 844 = .ok (.iadd, 1) := dq_h (dq_t (dq_t (dq_t dzL_law_840)))
theorem dL_law_845 : decode cL_law 845 = .ok (.iaload, 1) := dq_h (dq_t (dq_t (dq_t (dq_t dzL_law_840))))
theorem dL_law_846 : decode cL_law 846 = .ok (.aload_n 0, 1) := dq_h (dq_t (dq_t (dq_t (dq_t (dq_t dzL_law_840)))))
theorem dL_law_847 : decode cL_law 847 = .ok (.iload 4, 2) := dq_h (dq_t (dq_t (dq_t (dq_t (dq_t (dq_t dzL_law_840))))))
theorem dL_law_849 : decode cL_law 849 = .ok (.iconst 2, 1) := dq_h (dq_t (dq_t (dq_t (dq_t (dq_t (dq_t (dq_t dzL_law_840)))))))
theorem dL_law_850 : decode cL_law 850 = .ok (.iadd, 1) := dq_h (dq_t (dq_t (dq_t (dq_t (dq_t (dq_t (dq_t (dq_t dzL_law_840))))))))
theorem dL_law_851 : decode cL_law 851 = .ok (.iaload, 1) := dq_h (dq_t (dq_t (dq_t (dq_t (dq_t (dq_t (dq_t (dq_t (dq_t dzL_law_840)))))))))
theorem dL_law_852 : decode cL_law 852 = .ok (.invokevirtual 180, 3) := dq_h (dq_t (dq_t (dq_t (dq_t (dq_t (dq_t (dq_t (dq_t (dq_t (dq_t dzL_law_840))))))))))
theorem dL_law_855 : decode cL_law 855 = .ok (.istore 6, 2) := dq_h (dq_t (dq_t (dq_t (dq_t (dq_t (dq_t (dq_t (dq_t (dq_t (dq_t (dq_t dzL_law_840)))))))))))
theorem dL_law_857 : decode cL_law 857 = .ok (.goto 642, 3) := dq_h (dq_t (dq_t (dq_t (dq_t (dq_t (dq_t (dq_t (dq_t (dq_t (dq_t (dq_t (dq_t dzL_law_840))))))))))))
theorem dL_law_860 : decode cL_law 860 = .ok (.aload_n 1, 1) := dq_h (dq_t (dq_t (dq_t (dq_t (dq_t (dq_t (dq_t (dq_t (dq_t (dq_t (dq_t (dq_t (dq_t dzL_law_840)))))))))))))
theorem dL_law_861 : decode cL_law 861 = .ok (.aload_n 0, 1) := dq_h (dq_t (dq_t (dq_t (dq_t (dq_t (dq_t (dq_t (dq_t (dq_t (dq_t (dq_t (dq_t (dq_t (dq_t dzL_law_840))))))))))))))
theorem dL_law_862 : decode cL_law 862 = .ok (.iload 4, 2) := dq_h (dq_t (dq_t (dq_t (dq_t (dq_t (dq_t (dq_t (dq_t (dq_t (dq_t (dq_t (dq_t (dq_t (dq_t (dq_t dzL_law_840)))))))))))))))
theorem dL_law_864 : decode cL_law 864 = .ok (.iconst 1, 1) := dq_h (dq_t (dq_t (dq_t (dq_t (dq_t (dq_t (dq_t (dq_t (dq_t (dq_t (dq_t (dq_t (dq_t (dq_t (dq_t (dq_t dzL_law_840))))))))))))))))
theorem dL_law_865 : decode cL_law 865 = .ok (.iadd, 1) := dq_h (dq_t (dq_t (dq_t (dq_t (dq_t (dq_t (dq_t (dq_t (dq_t (dq_t (dq_t (dq_t (dq_t (dq_t (dq_t (dq_t (dq_t dzL_law_840)))))))))))))))))
theorem dL_law_866 : decode cL_law 866 = .ok (.iaload, 1) := dq_h (dq_t (dq_t (dq_t (dq_t (dq_t (dq_t (dq_t (dq_t (dq_t (dq_t (dq_t (dq_t (dq_t (dq_t (dq_t (dq_t (dq_t (dq_t dzL_law_840))))))))))))))))))
theorem dL_law_867 : decode cL_law 867 = .ok (.aload_n 3, 1) := dq_h (dq_t (dq_t (dq_t (dq_t (dq_t (dq_t (dq_t (dq_t (dq_t (dq_t (dq_t (dq_t (dq_t (dq_t (dq_t (dq_t (dq_t (dq_t (dq_t dzL_law_840)))))))))))))))))))
theorem dL_law_868 : decode cL_law 868 = .ok (.invokestatic 181, 3) := dq_h (dq_t (dq_t (dq_t (dq_t (dq_t (dq_t (dq_t (dq_t (dq_t (dq_t (dq_t (dq_t (dq_t (dq_t (dq_t (dq_t (dq_t (dq_t (dq_t (dq_t dzL_law_840))))))))))))))))))))
theorem dL_law_871 : decode cL_law 871 = .ok (.istore 5, 2) := dq_h (dq_t (dq_t (dq_t (dq_t (dq_t (dq_t (dq_t (dq_t (dq_t (dq_t (dq_t (dq_t (dq_t (dq_t (dq_t (dq_t (dq_t (dq_t (dq_t (dq_t (dq_t dzL_law_840)))))))))))))))))))))
theorem dL_law_873 : decode cL_law 873 = .ok (.aload_n 2, 1) := dq_h (dq_t (dq_t (dq_t (dq_t (dq_t (dq_t (dq_t (dq_t (dq_t (dq_t (dq_t (dq_t (dq_t (dq_t (dq_t (dq_t (dq_t (dq_t (dq_t (dq_t (dq_t (dq_t dzL_law_840))))))))))))))))))))))
theorem dL_law_874 : decode cL_law 874 = .ok (.aload_n 0, 1) := dq_h (dq_t (dq_t (dq_t (dq_t (dq_t (dq_t (dq_t (dq_t (dq_t (dq_t (dq_t (dq_t (dq_t (dq_t (dq_t (dq_t (dq_t (dq_t (dq_t (dq_t (dq_t (dq_t (dq_t dzL_law_840)))))))))))))))))))))))
theorem dzL_law_875 : dq_F cL_law [(875, .iload 4, 2), (877, .iconst 1, 1), (878, .iadd, 1), (879, .iaload, 1), (880, .invokevirtual 183, 3), (883, .istore 6, 2), (885, .goto 614, 3), (888, .aload_n 1, 1), (889, .aload_n 0, 1), (890, .iload 4, 2), (892, .iconst 1, 1), (893, .iadd, 1), (894, .iaload, 1), (895, .aload_n 3, 1), (896, .invokestatic 184, 3), (899, .istore 5, 2), (901, .aload_n 2, 1), (902, .aload_n 0, 1), (903, .iload 4, 2), (905, .iconst 1, 1), (906, .iadd, 1), (907, .iaload, 1), (908, .invokevirtual 186, 3), (911, .istore 6, 2)] := dq_s 24 875 (by decide +kernel)
theorem dL_law_875 : decode cL_law 875 = .ok (.iload 4, 2) := dq_h dzL_law_875
theorem dL_law_877 : decode cL_law 877 = .ok (.iconst 1, 1) := dq_h (dq_t dzL_law_875)
theorem dL_law_878 : decode cL_law 878 = .ok (.iadd, 1) := dq_h (dq_t (dq_t dzL_law_875))
theorem dL_law_879 : decode cL_law 879 = .ok (.iaload, 1) := dq_h (dq_t (dq_t (dq_t dzL_law_875)))
theorem dL_law_880 : decode cL_law 880 = .ok (.invokevirtual 183, 3) := dq_h (dq_t (dq_t (dq_t (dq_t dzL_law_875))))
theorem dL_law_883 : decode cL_law 883 = .ok (.istore 6, 2) := dq_h (dq_t (dq_t (dq_t (dq_t (dq_t dzL_law_875)))))
theorem dL_law_885 : decode cL_law 885 = .ok (.goto 614, 3) := dq_h (dq_t (dq_t (dq_t (dq_t (dq_t (dq_t dzL_law_875))))))
theorem dL_law_888 : decode cL_law 888 = .ok (.aload_n 1, 1) := dq_h (dq_t (dq_t (dq_t (dq_t (dq_t (dq_t (dq_t dzL_law_875)))))))
theorem dL_law_889 : decode cL_law 889 = .ok (.aload_n 0, 1) := dq_h (dq_t (dq_t (dq_t (dq_t (dq_t (dq_t (dq_t (dq_t dzL_law_875))))))))
theorem dL_law_890 : decode cL_law 890 = .ok (.iload 4, 2) := dq_h (dq_t (dq_t (dq_t (dq_t (dq_t (dq_t (dq_t (dq_t (dq_t dzL_law_875)))))))))
theorem dL_law_892 : decode cL_law 892 = .ok (.iconst 1, 1) := dq_h (dq_t (dq_t (dq_t (dq_t (dq_t (dq_t (dq_t (dq_t (dq_t (dq_t dzL_law_875))))))))))
theorem dL_law_893 : decode cL_law 893 = .ok (.iadd, 1) := dq_h (dq_t (dq_t (dq_t (dq_t (dq_t (dq_t (dq_t (dq_t (dq_t (dq_t (dq_t dzL_law_875)))))))))))
theorem dL_law_894 : decode cL_law 894 = .ok (.iaload, 1) := dq_h (dq_t (dq_t (dq_t (dq_t (dq_t (dq_t (dq_t (dq_t (dq_t (dq_t (dq_t (dq_t dzL_law_875))))))))))))
theorem dL_law_895 : decode cL_law 895 = .ok (.aload_n 3, 1) := dq_h (dq_t (dq_t (dq_t (dq_t (dq_t (dq_t (dq_t (dq_t (dq_t (dq_t (dq_t (dq_t (dq_t dzL_law_875)))))))))))))
theorem dL_law_896 : decode cL_law 896 = .ok (.invokestatic 184, 3) := dq_h (dq_t (dq_t (dq_t (dq_t (dq_t (dq_t (dq_t (dq_t (dq_t (dq_t (dq_t (dq_t (dq_t (dq_t dzL_law_875))))))))))))))
theorem dL_law_899 : decode cL_law 899 = .ok (.istore 5, 2) := dq_h (dq_t (dq_t (dq_t (dq_t (dq_t (dq_t (dq_t (dq_t (dq_t (dq_t (dq_t (dq_t (dq_t (dq_t (dq_t dzL_law_875)))))))))))))))
theorem dL_law_901 : decode cL_law 901 = .ok (.aload_n 2, 1) := dq_h (dq_t (dq_t (dq_t (dq_t (dq_t (dq_t (dq_t (dq_t (dq_t (dq_t (dq_t (dq_t (dq_t (dq_t (dq_t (dq_t dzL_law_875))))))))))))))))
theorem dL_law_902 : decode cL_law 902 = .ok (.aload_n 0, 1) := dq_h (dq_t (dq_t (dq_t (dq_t (dq_t (dq_t (dq_t (dq_t (dq_t (dq_t (dq_t (dq_t (dq_t (dq_t (dq_t (dq_t (dq_t dzL_law_875)))))))))))))))))
theorem dL_law_903 : decode cL_law 903 = .ok (.iload 4, 2) := dq_h (dq_t (dq_t (dq_t (dq_t (dq_t (dq_t (dq_t (dq_t (dq_t (dq_t (dq_t (dq_t (dq_t (dq_t (dq_t (dq_t (dq_t (dq_t dzL_law_875))))))))))))))))))
theorem dL_law_905 : decode cL_law 905 = .ok (.iconst 1, 1) := dq_h (dq_t (dq_t (dq_t (dq_t (dq_t (dq_t (dq_t (dq_t (dq_t (dq_t (dq_t (dq_t (dq_t (dq_t (dq_t (dq_t (dq_t (dq_t (dq_t dzL_law_875)))))))))))))))))))
theorem dL_law_906 : decode cL_law 906 = .ok (.iadd, 1) := dq_h (dq_t (dq_t (dq_t (dq_t (dq_t (dq_t (dq_t (dq_t (dq_t (dq_t (dq_t (dq_t (dq_t (dq_t (dq_t (dq_t (dq_t (dq_t (dq_t (dq_t dzL_law_875))))))))))))))))))))
theorem dL_law_907 : decode cL_law 907 = .ok (.iaload, 1) := dq_h (dq_t (dq_t (dq_t (dq_t (dq_t (dq_t (dq_t (dq_t (dq_t (dq_t (dq_t (dq_t (dq_t (dq_t (dq_t (dq_t (dq_t (dq_t (dq_t (dq_t (dq_t dzL_law_875)))))))))))))))))))))
theorem dL_law_908 : decode cL_law 908 = .ok (.invokevirtual 186, 3) := dq_h (dq_t (dq_t (dq_t (dq_t (dq_t (dq_t (dq_t (dq_t (dq_t (dq_t (dq_t (dq_t (dq_t (dq_t (dq_t (dq_t (dq_t (dq_t (dq_t (dq_t (dq_t (dq_t dzL_law_875))))))))))))))))))))))
theorem dL_law_911 : decode cL_law 911 = .ok (.istore 6, 2) := dq_h (dq_t (dq_t (dq_t (dq_t (dq_t (dq_t (dq_t (dq_t (dq_t (dq_t (dq_t (dq_t (dq_t (dq_t (dq_t (dq_t (dq_t (dq_t (dq_t (dq_t (dq_t (dq_t (dq_t dzL_law_875)))))))))))))))))))))))
theorem dzL_law_913 : dq_F cL_law [(913, .goto 586, 3), (916, .aload_n 1, 1), (917, .aload_n 0, 1), (918, .iload 4, 2), (920, .iconst 1, 1), (921, .iadd, 1), (922, .iaload, 1), (923, .aload_n 3, 1), (924, .invokestatic 187, 3), (927, .istore 5, 2), (929, .aload_n 2, 1), (930, .aload_n 0, 1), (931, .iload 4, 2), (933, .iconst 1, 1), (934, .iadd, 1), (935, .iaload, 1), (936, .invokevirtual 189, 3), (939, .istore 6, 2), (941, .goto 558, 3), (944, .aload_n 1, 1), (945, .aload_n 0, 1), (946, .iload 4, 2), (948, .iconst 1, 1), (949, .iadd, 1)] := dq_s 24 913 (by decide +kernel)
theorem dL_law_913 : decode cL_law 913 = .ok (.goto 586, 3) := dq_h dzL_law_913
theorem dL_law_916 : decode cL_law 916 = .ok (.aload_n 1, 1) := dq_h (dq_t dzL_law_913)
theorem dL_law_917 : decode cL_law 917 = .ok (.aload_n 0, 1) := dq_h (dq_t (dq_t dzL_law_913))
theorem dL_law_918 : decode cL_law 918 = .ok (.iload 4, 2) := dq_h (dq_t (dq_t (dq_t dzL_law_913)))
theorem dL_law_920 : decode cL_law 920 = .ok (.iconst 1, 1) := dq_h (dq_t (dq_t (dq_t (dq_t dzL_law_913))))
theorem dL_law_921 : decode cL_law 921 = .ok (.iadd, 1) := dq_h (dq_t (dq_t (dq_t (dq_t (dq_t dzL_law_913)))))
theorem dL_law_922 : decode cL_law 922 = .ok (.iaload, 1) := dq_h (dq_t (dq_t (dq_t (dq_t (dq_t (dq_t dzL_law_913))))))
theorem dL_law_923 : decode cL_law 923 = .ok (.aload_n 3, 1) := dq_h (dq_t (dq_t (dq_t (dq_t (dq_t (dq_t (dq_t dzL_law_913)))))))
theorem dL_law_924 : decode cL_law 924 = .ok (.invokestatic 187, 3) := dq_h (dq_t (dq_t (dq_t (dq_t (dq_t (dq_t (dq_t (dq_t dzL_law_913))))))))
theorem dL_law_927 : decode cL_law 927 = .ok (.istore 5, 2) := dq_h (dq_t (dq_t (dq_t (dq_t (dq_t (dq_t (dq_t (dq_t (dq_t dzL_law_913)))))))))
theorem dL_law_929 : decode cL_law 929 = .ok (.aload_n 2, 1) := dq_h (dq_t (dq_t (dq_t (dq_t (dq_t (dq_t (dq_t (dq_t (dq_t (dq_t dzL_law_913))))))))))
theorem dL_law_930 : decode cL_law 930 = .ok (.aload_n 0, 1) := dq_h (dq_t (dq_t (dq_t (dq_t (dq_t (dq_t (dq_t (dq_t (dq_t (dq_t (dq_t dzL_law_913)))))))))))
theorem dL_law_931 : decode cL_law 931 = .ok (.iload 4, 2) := dq_h (dq_t (dq_t (dq_t (dq_t (dq_t (dq_t (dq_t (dq_t (dq_t (dq_t (dq_t (dq_t dzL_law_913))))))))))))
theorem dL_law_933 : decode cL_law 933 = .ok (.iconst 1, 1) := dq_h (dq_t (dq_t (dq_t (dq_t (dq_t (dq_t (dq_t (dq_t (dq_t (dq_t (dq_t (dq_t (dq_t dzL_law_913)))))))))))))
theorem dL_law_934 : decode cL_law 934 = .ok (.iadd, 1) := dq_h (dq_t (dq_t (dq_t (dq_t (dq_t (dq_t (dq_t (dq_t (dq_t (dq_t (dq_t (dq_t (dq_t (dq_t dzL_law_913))))))))))))))
theorem dL_law_935 : decode cL_law 935 = .ok (.iaload, 1) := dq_h (dq_t (dq_t (dq_t (dq_t (dq_t (dq_t (dq_t (dq_t (dq_t (dq_t (dq_t (dq_t (dq_t (dq_t (dq_t dzL_law_913)))))))))))))))
theorem dL_law_936 : decode cL_law 936 = .ok (.invokevirtual 189, 3) := dq_h (dq_t (dq_t (dq_t (dq_t (dq_t (dq_t (dq_t (dq_t (dq_t (dq_t (dq_t (dq_t (dq_t (dq_t (dq_t (dq_t dzL_law_913))))))))))))))))
theorem dL_law_939 : decode cL_law 939 = .ok (.istore 6, 2) := dq_h (dq_t (dq_t (dq_t (dq_t (dq_t (dq_t (dq_t (dq_t (dq_t (dq_t (dq_t (dq_t (dq_t (dq_t (dq_t (dq_t (dq_t dzL_law_913)))))))))))))))))
theorem dL_law_941 : decode cL_law 941 = .ok (.goto 558, 3) := dq_h (dq_t (dq_t (dq_t (dq_t (dq_t (dq_t (dq_t (dq_t (dq_t (dq_t (dq_t (dq_t (dq_t (dq_t (dq_t (dq_t (dq_t (dq_t dzL_law_913))))))))))))))))))
theorem dL_law_944 : decode cL_law 944 = .ok (.aload_n 1, 1) := dq_h (dq_t (dq_t (dq_t (dq_t (dq_t (dq_t (dq_t (dq_t (dq_t (dq_t (dq_t (dq_t (dq_t (dq_t (dq_t (dq_t (dq_t (dq_t (dq_t dzL_law_913)))))))))))))))))))
theorem dL_law_945 : decode cL_law 945 = .ok (.aload_n 0, 1) := dq_h (dq_t (dq_t (dq_t (dq_t (dq_t (dq_t (dq_t (dq_t (dq_t (dq_t (dq_t (dq_t (dq_t (dq_t (dq_t (dq_t (dq_t (dq_t (dq_t (dq_t dzL_law_913))))))))))))))))))))
theorem dL_law_946 : decode cL_law 946 = .ok (.iload 4, 2) := dq_h (dq_t (dq_t (dq_t (dq_t (dq_t (dq_t (dq_t (dq_t (dq_t (dq_t (dq_t (dq_t (dq_t (dq_t (dq_t (dq_t (dq_t (dq_t (dq_t (dq_t (dq_t dzL_law_913)))))))))))))))))))))
theorem dL_law_948 : decode cL_law 948 = .ok (.iconst 1, 1) := dq_h (dq_t (dq_t (dq_t (dq_t (dq_t (dq_t (dq_t (dq_t (dq_t (dq_t (dq_t (dq_t (dq_t (dq_t (dq_t (dq_t (dq_t (dq_t (dq_t (dq_t (dq_t (dq_t dzL_law_913))))))))))))))))))))))
theorem dL_law_949 : decode cL_law 949 = .ok (.iadd, 1) := dq_h (dq_t (dq_t (dq_t (dq_t (dq_t (dq_t (dq_t (dq_t (dq_t (dq_t (dq_t (dq_t (dq_t (dq_t (dq_t (dq_t (dq_t (dq_t (dq_t (dq_t (dq_t (dq_t (dq_t dzL_law_913)))))))))))))))))))))))
theorem dzL_law_950 : dq_F cL_law [(950, .iaload, 1), (951, .aload_n 3, 1), (952, .invokestatic 190, 3), (955, .istore 5, 2), (957, .aload_n 2, 1), (958, .aload_n 0, 1), (959, .iload 4, 2), (961, .iconst 1, 1), (962, .iadd, 1), (963, .iaload, 1), (964, .invokevirtual 192, 3), (967, .istore 6, 2), (969, .goto 530, 3), (972, .aload_n 1, 1), (973, .aload_n 0, 1), (974, .iload 4, 2), (976, .iconst 1, 1), (977, .iadd, 1), (978, .iaload, 1), (979, .aload_n 0, 1), (980, .iload 4, 2), (982, .iconst 2, 1), (983, .iadd, 1), (984, .iaload, 1)] := dq_s 24 950 (by decide +kernel)
theorem dL_law_950 : decode cL_law 950 = .ok (.iaload, 1) := dq_h dzL_law_950
theorem dL_law_951 : decode cL_law 951 = .ok (.aload_n 3, 1) := dq_h (dq_t dzL_law_950)
theorem dL_law_952 : decode cL_law 952 = .ok (.invokestatic 190, 3) := dq_h (dq_t (dq_t dzL_law_950))
theorem dL_law_955 : decode cL_law 955 = .ok (.istore 5, 2) := dq_h (dq_t (dq_t (dq_t dzL_law_950)))
theorem dL_law_957 : decode cL_law 957 = .ok (.aload_n 2, 1) := dq_h (dq_t (dq_t (dq_t (dq_t dzL_law_950))))
theorem dL_law_958 : decode cL_law 958 = .ok (.aload_n 0, 1) := dq_h (dq_t (dq_t (dq_t (dq_t (dq_t dzL_law_950)))))
theorem dL_law_959 : decode cL_law 959 = .ok (.iload 4, 2) := dq_h (dq_t (dq_t (dq_t (dq_t (dq_t (dq_t dzL_law_950))))))
theorem dL_law_961 : decode cL_law 961 = .ok (.iconst 1, 1) := dq_h (dq_t (dq_t (dq_t (dq_t (dq_t (dq_t (dq_t dzL_law_950)))))))
theorem dL_law_962 : decode cL_law 962 = .ok (.iadd, 1) := dq_h (dq_t (dq_t (dq_t (dq_t (dq_t (dq_t (dq_t (dq_t dzL_law_950))))))))
theorem dL_law_963 : decode cL_law 963 = .ok (.iaload, 1) := dq_h (dq_t (dq_t (dq_t (dq_t (dq_t (dq_t (dq_t (dq_t (dq_t dzL_law_950)))))))))
theorem dL_law_964 : decode cL_law 964 = .ok (.invokevirtual 192, 3) := dq_h (dq_t (dq_t (dq_t (dq_t (dq_t (dq_t (dq_t (dq_t (dq_t (dq_t dzL_law_950))))))))))
theorem dL_law_967 : decode cL_law 967 = .ok (.istore 6, 2) := dq_h (dq_t (dq_t (dq_t (dq_t (dq_t (dq_t (dq_t (dq_t (dq_t (dq_t (dq_t dzL_law_950)))))))))))
theorem dL_law_969 : decode cL_law 969 = .ok (.goto 530, 3) := dq_h (dq_t (dq_t (dq_t (dq_t (dq_t (dq_t (dq_t (dq_t (dq_t (dq_t (dq_t (dq_t dzL_law_950))))))))))))
theorem dL_law_972 : decode cL_law 972 = .ok (.aload_n 1, 1) := dq_h (dq_t (dq_t (dq_t (dq_t (dq_t (dq_t (dq_t (dq_t (dq_t (dq_t (dq_t (dq_t (dq_t dzL_law_950)))))))))))))
theorem dL_law_973 : decode cL_law 973 = .ok (.aload_n 0, 1) := dq_h (dq_t (dq_t (dq_t (dq_t (dq_t (dq_t (dq_t (dq_t (dq_t (dq_t (dq_t (dq_t (dq_t (dq_t dzL_law_950))))))))))))))
theorem dL_law_974 : decode cL_law 974 = .ok (.iload 4, 2) := dq_h (dq_t (dq_t (dq_t (dq_t (dq_t (dq_t (dq_t (dq_t (dq_t (dq_t (dq_t (dq_t (dq_t (dq_t (dq_t dzL_law_950)))))))))))))))
theorem dL_law_976 : decode cL_law 976 = .ok (.iconst 1, 1) := dq_h (dq_t (dq_t (dq_t (dq_t (dq_t (dq_t (dq_t (dq_t (dq_t (dq_t (dq_t (dq_t (dq_t (dq_t (dq_t (dq_t dzL_law_950))))))))))))))))
theorem dL_law_977 : decode cL_law 977 = .ok (.iadd, 1) := dq_h (dq_t (dq_t (dq_t (dq_t (dq_t (dq_t (dq_t (dq_t (dq_t (dq_t (dq_t (dq_t (dq_t (dq_t (dq_t (dq_t (dq_t dzL_law_950)))))))))))))))))
theorem dL_law_978 : decode cL_law 978 = .ok (.iaload, 1) := dq_h (dq_t (dq_t (dq_t (dq_t (dq_t (dq_t (dq_t (dq_t (dq_t (dq_t (dq_t (dq_t (dq_t (dq_t (dq_t (dq_t (dq_t (dq_t dzL_law_950))))))))))))))))))
theorem dL_law_979 : decode cL_law 979 = .ok (.aload_n 0, 1) := dq_h (dq_t (dq_t (dq_t (dq_t (dq_t (dq_t (dq_t (dq_t (dq_t (dq_t (dq_t (dq_t (dq_t (dq_t (dq_t (dq_t (dq_t (dq_t (dq_t dzL_law_950)))))))))))))))))))
theorem dL_law_980 : decode cL_law 980 = .ok (.iload 4, 2) := dq_h (dq_t (dq_t (dq_t (dq_t (dq_t (dq_t (dq_t (dq_t (dq_t (dq_t (dq_t (dq_t (dq_t (dq_t (dq_t (dq_t (dq_t (dq_t (dq_t (dq_t dzL_law_950))))))))))))))))))))
theorem dL_law_982 : decode cL_law 982 = .ok (.iconst 2, 1) := dq_h (dq_t (dq_t (dq_t (dq_t (dq_t (dq_t (dq_t (dq_t (dq_t (dq_t (dq_t (dq_t (dq_t (dq_t (dq_t (dq_t (dq_t (dq_t (dq_t (dq_t (dq_t dzL_law_950)))))))))))))))))))))
theorem dL_law_983 : decode cL_law 983 = .ok (.iadd, 1) := dq_h (dq_t (dq_t (dq_t (dq_t (dq_t (dq_t (dq_t (dq_t (dq_t (dq_t (dq_t (dq_t (dq_t (dq_t (dq_t (dq_t (dq_t (dq_t (dq_t (dq_t (dq_t (dq_t dzL_law_950))))))))))))))))))))))
theorem dL_law_984 : decode cL_law 984 = .ok (.iaload, 1) := dq_h (dq_t (dq_t (dq_t (dq_t (dq_t (dq_t (dq_t (dq_t (dq_t (dq_t (dq_t (dq_t (dq_t (dq_t (dq_t (dq_t (dq_t (dq_t (dq_t (dq_t (dq_t (dq_t (dq_t dzL_law_950)))))))))))))))))))))))
theorem dzL_law_985 : dq_F cL_law [(985, .aload_n 3, 1), (986, .invokestatic 193, 3), (989, .istore 5, 2)] := dq_s 3 985 (by decide +kernel)
theorem dL_law_985 : decode cL_law 985 = .ok (.aload_n 3, 1) := dq_h dzL_law_985
theorem dL_law_986 : decode cL_law 986 = .ok (.invokestatic 193, 3) := dq_h (dq_t dzL_law_985)
theorem dL_law_989 : decode cL_law 989 = .ok (.istore 5, 2) := dq_h (dq_t (dq_t dzL_law_985))
end

/-! part 20.c1 -/
section
theorem dzL_law_991 : dq_F cL_law [(991, .aload_n 2, 1), (992, .aload_n 0, 1), (993, .iload 4, 2), (995, .iconst 1, 1), (996, .iadd, 1), (997, .iaload, 1), (998, .aload_n 0, 1), (999, .iload 4, 2), (1001, .iconst 2, 1), (1002, .iadd, 1), (1003, .iaload, 1), (1004, .invokevirtual 195, 3), (1007, .istore 6, 2), (1009, .goto 490, 3), (1012, .aload_n 1, 1), (1013, .aload_n 0, 1), (1014, .iload 4, 2), (1016, .iconst 1, 1), (1017, .iadd, 1), (1018, .iaload, 1), (1019, .aload_n 0, 1), (1020, .iload 4, 2), (1022, .iconst 2, 1), (1023, .iadd, 1)] := dq_s 24 991 (by decide +kernel)
theorem dL_law_991 : decode cL_law 991 = .ok (.aload_n 2, 1) := dq_h dzL_law_991
theorem dL_law_992 : decode cL_law 992 = .ok (.aload_n 0, 1) := dq_h (dq_t dzL_law_991)
theorem dL_law_993 : decode cL_law 993 = .ok (.iload 4, 2) := dq_h (dq_t (dq_t dzL_law_991))
theorem dL_law_995 : decode cL_law 995 = .ok (.iconst 1, 1) := dq_h (dq_t (dq_t (dq_t dzL_law_991)))
theorem dL_law_996 : decode cL_law 996 = .ok (.iadd, 1) := dq_h (dq_t (dq_t (dq_t (dq_t dzL_law_991))))
theorem dL_law_997 : decode cL_law 997 = .ok (.iaload, 1) := dq_h (dq_t (dq_t (dq_t (dq_t (dq_t dzL_law_991)))))
theorem dL_law_998 : decode cL_law 998 = .ok (.aload_n 0, 1) := dq_h (dq_t (dq_t (dq_t (dq_t (dq_t (dq_t dzL_law_991))))))
theorem dL_law_999 : decode cL_law 999 = .ok (.iload 4, 2) := dq_h (dq_t (dq_t (dq_t (dq_t (dq_t (dq_t (dq_t dzL_law_991)))))))
theorem dL_law_1001 : decode cL_law 1001 = .ok (.iconst 2, 1) := dq_h (dq_t (dq_t (dq_t (dq_t (dq_t (dq_t (dq_t (dq_t dzL_law_991))))))))
theorem dL_law_1002 : decode cL_law 1002 = .ok (.iadd, 1) := dq_h (dq_t (dq_t (dq_t (dq_t (dq_t (dq_t (dq_t (dq_t (dq_t dzL_law_991)))))))))
theorem dL_law_1003 : decode cL_law 1003 = .ok (.iaload, 1) := dq_h (dq_t (dq_t (dq_t (dq_t (dq_t (dq_t (dq_t (dq_t (dq_t (dq_t dzL_law_991))))))))))
theorem dL_law_1004 : decode cL_law 1004 = .ok (.invokevirtual 195, 3) := dq_h (dq_t (dq_t (dq_t (dq_t (dq_t (dq_t (dq_t (dq_t (dq_t (dq_t (dq_t dzL_law_991)))))))))))
theorem dL_law_1007 : decode cL_law 1007 = .ok (.istore 6, 2) := dq_h (dq_t (dq_t (dq_t (dq_t (dq_t (dq_t (dq_t (dq_t (dq_t (dq_t (dq_t (dq_t dzL_law_991))))))))))))
theorem dL_law_1009 : decode cL_law 1009 = .ok (.goto 490, 3) := dq_h (dq_t (dq_t (dq_t (dq_t (dq_t (dq_t (dq_t (dq_t (dq_t (dq_t (dq_t (dq_t (dq_t dzL_law_991)))))))))))))
theorem dL_law_1012 : decode cL_law 1012 = .ok (.aload_n 1, 1) := dq_h (dq_t (dq_t (dq_t (dq_t (dq_t (dq_t (dq_t (dq_t (dq_t (dq_t (dq_t (dq_t (dq_t (dq_t dzL_law_991))))))))))))))
theorem dL_law_1013 : decode cL_law 1013 = .ok (.aload_n 0, 1) := dq_h (dq_t (dq_t (dq_t (dq_t (dq_t (dq_t (dq_t (dq_t (dq_t (dq_t (dq_t (dq_t (dq_t (dq_t (dq_t dzL_law_991)))))))))))))))
theorem dL_law_1014 : decode cL_law 1014 = .ok (.iload 4, 2) := dq_h (dq_t (dq_t (dq_t (dq_t (dq_t (dq_t (dq_t (dq_t (dq_t (dq_t (dq_t (dq_t (dq_t (dq_t (dq_t (dq_t dzL_law_991))))))))))))))))
theorem dL_law_1016 : decode cL_law 1016 = .ok (.iconst 1, 1) := dq_h (dq_t (dq_t (dq_t (dq_t (dq_t (dq_t (dq_t (dq_t (dq_t (dq_t (dq_t (dq_t (dq_t (dq_t (dq_t (dq_t (dq_t dzL_law_991)))))))))))))))))
theorem dL_law_1017 : decode cL_law 1017 = .ok (.iadd, 1) := dq_h (dq_t (dq_t (dq_t (dq_t (dq_t (dq_t (dq_t (dq_t (dq_t (dq_t (dq_t (dq_t (dq_t (dq_t (dq_t (dq_t (dq_t (dq_t dzL_law_991))))))))))))))))))
theorem dL_law_1018 : decode cL_law 1018 = .ok (.iaload, 1) := dq_h (dq_t (dq_t (dq_t (dq_t (dq_t (dq_t (dq_t (dq_t (dq_t (dq_t (dq_t (dq_t (dq_t (dq_t (dq_t (dq_t (dq_t (dq_t (dq_t dzL_law_991)))))))))))))))))))
theorem dL_law_1019 : decode cL_law 1019 = .ok (.aload_n 0, 1) := dq_h (dq_t (dq_t (dq_t (dq_t (dq_t (dq_t (dq_t (dq_t (dq_t (dq_t (dq_t (dq_t (dq_t (dq_t (dq_t (dq_t (dq_t (dq_t (dq_t (dq_t dzL_law_991))))))))))))))))))))
theorem dL_law_1020 : decode cL_law 1020 = .ok (.iload 4, 2) := dq_h (dq_t (dq_t (dq_t (dq_t (dq_t (dq_t (dq_t (dq_t (dq_t (dq_t (dq_t (dq_t (dq_t (dq_t (dq_t (dq_t (dq_t (dq_t (dq_t (dq_t (dq_t dzL_law_991)))))))))))))))))))))
theorem dL_law_1022 : decode cL_law 1022 = .ok (.iconst 2, 1) := dq_h (dq_t (dq_t (dq_t (dq_t (dq_t (dq_t (dq_t (dq_t (dq_t (dq_t (dq_t (dq_t (dq_t (dq_t (dq_t (dq_t (dq_t (dq_t (dq_t (dq_t (dq_t (dq_t dzL_law_991))))))))))))))))))))))
theorem dL_law_1023 : decode cL_law 1023 = .ok (.iadd, 1) := dq_h (dq_t (dq_t (dq_t (dq_t (dq_t (dq_t (dq_t (dq_t (dq_t (dq_t (dq_t (dq_t (dq_t (dq_t (dq_t (dq_t (dq_t (dq_t (dq_t (dq_t (dq_t (dq_t (dq_t dzL_law_991)))))))))))))))))))))))
theorem dzL_law_1024 : dq_F cL_law [(1024, .iaload, 1), (1025, .aload_n 0, 1), (1026, .iload 4, 2), (1028, .iconst 3, 1), (1029, .iadd, 1), (1030, .iaload, 1), (1031, .aload_n 3, 1), (1032, .invokestatic 196, 3), (1035, .istore 5, 2), (1037, .aload_n 2, 1), (1038, .aload_n 0, 1), (1039, .iload 4, 2), (1041, .iconst 1, 1), (1042, .iadd, 1), (1043, .iaload, 1), (1044, .aload_n 0, 1), (1045, .iload 4, 2), (1047, .iconst 2, 1), (1048, .iadd, 1), (1049, .iaload, 1), (1050, .aload_n 0, 1), (1051, .iload 4, 2), (1053, .iconst 3, 1), (1054, .iadd, 1)] := dq_s 24 1024 (by decide +kernel)
theorem dL_law_1024 : decode cL_law 1024 = .ok (.iaload, 1) := dq_h dzL_law_1024
theorem dL_law_1025 : decode cL_law 1025 = .ok (.aload_n 0, 1) := dq_h (dq_t dzL_law_1024)
theorem dL_law_1026 : decode cL_law 1026 = .ok (.iload 4, 2) := dq_h (dq_t (dq_t dzL_law_1024))
theorem dL_law_1028 : decode cL_law 1028 = .ok (.iconst 3, 1) := dq_h (dq_t (dq_t (dq_t dzL_law_1024)))
theorem dL_law_1029 : decode cL_law 1029 = .ok (.iadd, 1) := dq_h (dq_t (dq_t (dq_t (dq_t dzL_law_1024))))
theorem dL_law_1030 : decode cL_law 1030 = .ok (.iaload, 1) := dq_h (dq_t (dq_t (dq_t (dq_t (dq_t dzL_law_1024)))))
theorem dL_law_1031 : decode cL_law 1031 = .ok (.aload_n 3, 1) := dq_h (dq_t (dq_t (dq_t (dq_t (dq_t (dq_t dzL_law_1024))))))
theorem dL_law_1032 : decode cL_law 1032 = .ok (.invokestatic 196, 3) := dq_h (dq_t (dq_t (dq_t (dq_t (dq_t (dq_t (dq_t dzL_law_1024)))))))
theorem dL_law_1035 : decode cL_law 1035 = .ok (.istore 5, 2) := dq_h (dq_t (dq_t (dq_t (dq_t (dq_t (dq_t (dq_t (dq_t dzL_law_1024))))))))
theorem dL_law_1037 : decode cL_law 1037 = .ok (.aload_n 2, 1) := dq_h (dq_t (dq_t (dq_t (dq_t (dq_t (dq_t (dq_t (dq_t (dq_t dzL_law_1024)))))))))
theorem dL_law_1038 : decode cL_law 1038 = .ok (.aload_n 0, 1) := dq_h (dq_t (dq_t (dq_t (dq_t (dq_t (dq_t (dq_t (dq_t (dq_t (dq_t dzL_law_1024))))))))))
theorem dL_law_1039 : decode cL_law 1039 = .ok (.iload 4, 2) := dq_h (dq_t (dq_t (dq_t (dq_t (dq_t (dq_t (dq_t (dq_t (dq_t (dq_t (dq_t dzL_law_1024)))))))))))
theorem dL_law_1041 : decode cL_law 1041 = .ok (.iconst 1, 1) := dq_h (dq_t (dq_t (dq_t (dq_t (dq_t (dq_t (dq_t (dq_t (dq_t (dq_t (dq_t (dq_t dzL_law_1024))))))))))))
theorem dL_law_1042 : decode cL_law 1042 = .ok (.iadd, 1) := dq_h (dq_t (dq_t (dq_t (dq_t (dq_t (dq_t (dq_t (dq_t (dq_t (dq_t (dq_t (dq_t (dq_t dzL_law_1024)))))))))))))
theorem dL_law_1043 : decode cL_law 1043 = .ok (.iaload, 1) := dq_h (dq_t (dq_t (dq_t (dq_t (dq_t (dq_t (dq_t (dq_t (dq_t (dq_t (dq_t (dq_t (dq_t (dq_t dzL_law_1024))))))))))))))
theorem dL_law_1044 : decode cL_law 1044 = .ok (.aload_n 0, 1) := dq_h (dq_t (dq_t (dq_t (dq_t (dq_t (dq_t (dq_t (dq_t (dq_t (dq_t (dq_t (dq_t (dq_t (dq_t (dq_t dzL_law_1024)))))))))))))))
theorem dL_law_1045 : decode cL_law 1045 = .ok (.iload 4, 2) := dq_h (dq_t (dq_t (dq_t (dq_t (dq_t (dq_t (dq_t (dq_t (dq_t (dq_t (dq_t (dq_t (dq_t (dq_t (dq_t (dq_t dzL_law_1024))))))))))))))))
theorem dL_law_1047 : decode cL_law 1047 = .ok (.iconst 2, 1) := dq_h (dq_t (dq_t (dq_t (dq_t (dq_t (dq_t (dq_t (dq_t (dq_t (dq_t (dq_t (dq_t (dq_t (dq_t (dq_t (dq_t (dq_t dzL_law_1024)))))))))))))))))
theorem dL_law_1048 : decode cL_law 1048 = .ok (.iadd, 1) := dq_h (dq_t (dq_t (dq_t (dq_t (dq_t (dq_t (dq_t (dq_t (dq_t (dq_t (dq_t (dq_t (dq_t (dq_t (dq_t (dq_t (dq_t (dq_t dzL_law_1024))))))))))))))))))
theorem dL_law_1049 : decode cL_law 1049 = .ok (.iaload, 1) := dq_h (dq_t (dq_t (dq_t (dq_t (dq_t (dq_t (dq_t (dq_t (dq_t (dq_t (dq_t (dq_t (dq_t (dq_t (dq_t (dq_t (dq_t (dq_t (dq_t dzL_law_1024)))))))))))))))))))
theorem dL_law_1050 : decode cL_law 1050 = .ok (.aload_n 0, 1) := dq_h (dq_t (dq_t (dq_t (dq_t (dq_t (dq_t (dq_t (dq_t (dq_t (dq_t (dq_t (dq_t (dq_t (dq_t (dq_t (dq_t (dq_t (dq_t (dq_t (dq_t dzL_law_1024))))))))))))))))))))
theorem dL_law_1051 : decode cL_law 1051 = .ok (.iload 4, 2) := dq_h (dq_t (dq_t (dq_t (dq_t (dq_t (dq_t (dq_t (dq_t (dq_t (dq_t (dq_t (dq_t (dq_t (dq_t (dq_t (dq_t (dq_t (dq_t (dq_t (dq_t (dq_t dzL_law_1024)))))))))))))))))))))
theorem dL_law_1053 : decode cL_law 1053 = .ok (.iconst 3, 1) := dq_h (dq_t (dq_t (dq_t (dq_t (dq_t (dq_t (dq_t (dq_t (dq_t (dq_t (dq_t (dq_t (dq_t (dq_t (dq_t (dq_t (dq_t (dq_t (dq_t (dq_t (dq_t (dq_t dzL_law_1024))))))))))))))))))))))
theorem dL_law_1054 : decode cL_law 1054 = .ok (.iadd, 1) := dq_h (dq_t (dq_t (dq_t (dq_t (dq_t (dq_t (dq_t (dq_t (dq_t (dq_t (dq_t (dq_t (dq_t (dq_t (dq_t (dq_t (dq_t (dq_t (dq_t (dq_t (dq_t (dq_t (dq_t dzL_law_1024)))))))))))))))))))))))
theorem dzL_law_1055 : dq_F cL_law [(1055, .iaload, 1), (1056, .invokevirtual 198, 3), (1059, .istore 6, 2), (1061, .goto 438, 3), (1064, .aload_n 1, 1), (1065, .aload_n 0, 1), (1066, .iload 4, 2), (1068, .iconst 1, 1), (1069, .iadd, 1), (1070, .iaload, 1), (1071, .aload_n 3, 1), (1072, .invokestatic 199, 3), (1075, .istore 5, 2), (1077, .aload_n 2, 1), (1078, .aload_n 0, 1), (1079, .iload 4, 2), (1081, .iconst 1, 1), (1082, .iadd, 1), (1083, .iaload, 1), (1084, .invokevirtual 201, 3), (1087, .istore 6, 2), (1089, .goto 410, 3), (1092, .aload_n 1, 1), (1093, .aload_n 0, 1)] := dq_s 24 1055 (by decide +kernel)
theorem dL_law_1055 : decode cL_law 1055 = .ok (.iaload, 1) := dq_h dzL_law_1055
theorem dL_law_1056 : decode cL_law 1056 = .ok (.invokevirtual 198, 3) := dq_h (dq_t dzL_law_1055)
theorem dL_law_1059 : decode cL_law 1059 = .ok (.istore 6, 2) := dq_h (dq_t (dq_t dzL_law_1055))
theorem dL_law_1061 : decode cL_law 1061 = .ok (.goto 438, 3) := dq_h (dq_t (dq_t (dq_t dzL_law_1055)))
theorem dL_law_1064 : decode cL_law 1064 = .ok (.aload_n 1, 1) := dq_h (dq_t (dq_t (dq_t (dq_t dzL_law_1055))))
theorem dL_law_1065 : decode cL_law 1065 = .ok (.aload_n 0, 1) := dq_h (dq_t (dq_t (dq_t (dq_t (dq_t dzL_law_1055)))))
theorem dL_law_1066 : decode cL_law 1066 = .ok (.iload 4, 2) := dq_h (dq_t (dq_t (dq_t (dq_t (dq_t (dq_t dzL_law_1055))))))
theorem dL_law_1068 : decode cL_law 1068 = .ok (.iconst 1, 1) := dq_h (dq_t (dq_t (dq_t (dq_t (dq_t (dq_t (dq_t dzL_law_1055)))))))
theorem dL_law_1069 : decode cL_law 1069 = .ok (.iadd, 1) := dq_h (dq_t (dq_t (dq_t (dq_t (dq_t (dq_t (dq_t (dq_t dzL_law_1055))))))))
theorem dL_law_1070 : decode cL_law 1070 = .ok (.iaload, 1) := dq_h (dq_t (dq_t (dq_t (dq_t (dq_t (dq_t (dq_t (dq_t (dq_t dzL_law_1055)))))))))
theorem dL_law_1071 : decode cL_law 1071 = .ok (.aload_n 3, 1) := dq_h (dq_t (dq_t (dq_t (dq_t (dq_t (dq_t (dq_t (dq_t (dq_t (dq_t dzL_law_1055))))))))))
theorem dL_law_1072 : decode cL_law 1072 = .ok (.invokestatic 199, 3) := dq_h (dq_t (dq_t (dq_t (dq_t (dq_t (dq_t (dq_t (dq_t (dq_t (dq_t (dq_t dzL_law_1055)))))))))))
theorem dL_law_1075 : decode cL_law 1075 = .ok (.istore 5, 2) := dq_h (dq_t (dq_t (dq_t (dq_t (dq_t (dq_t (dq_t (dq_t (dq_t (dq_t (dq_t (dq_t dzL_law_1055))))))))))))
theorem dL_law_1077 : decode cL_law 1077 = .ok (.aload_n 2, 1) := dq_h (dq_t (dq_t (dq_t (dq_t (dq_t (dq_t (dq_t (dq_t (dq_t (dq_t (dq_t (dq_t (dq_t dzL_law_1055)))))))))))))
theorem dL_law_1078 : decode cL_law 1078 = .ok (.aload_n 0, 1) := dq_h (dq_t (dq_t (dq_t (dq_t (dq_t (dq_t (dq_t (dq_t (dq_t (dq_t (dq_t (dq_t (dq_t (dq_t dzL_law_1055))))))))))))))
theorem dL_law_1079 : decode cL_law 1079 = .ok (.iload 4, 2) := dq_h (dq_t (dq_t (dq_t (dq_t (dq_t (dq_t (dq_t (dq_t (dq_t (dq_t (dq_t (dq_t (dq_t (dq_t (dq_t dzL_law_1055)))))))))))))))
theorem dL_law_1081 : decode cL_law 1081 = .ok (.iconst 1, 1) := dq_h (dq_t (dq_t (dq_t (dq_t (dq_t (dq_t (dq_t (dq_t (dq_t (dq_t (dq_t (dq_t (dq_t (dq_t (dq_t (dq_t dzL_law_1055))))))))))))))))
theorem dL_law_1082 : decode cL_law 1082 = .ok (.iadd, 1) := dq_h (dq_t (dq_t (dq_t (dq_t (dq_t (dq_t (dq_t (dq_t (dq_t (dq_t (dq_t (dq_t (dq_t (dq_t (dq_t (dq_t (dq_t dzL_law_1055)))))))))))))))))
theorem dL_law_1083 : decode cL_law 1083 = .ok (.iaload, 1) := dq_h (dq_t (dq_t (dq_t (dq_t (dq_t (dq_t (dq_t (dq_t (dq_t (dq_t (dq_t (dq_t (dq_t (dq_t (dq_t (dq_t (dq_t (dq_t dzL_law_1055))))))))))))))))))
theorem dL_law_1084 : decode cL_law 1084 = .ok (.invokevirtual 201, 3) := dq_h (dq_t (dq_t (dq_t (dq_t (dq_t (dq_t (dq_t (dq_t (dq_t (dq_t (dq_t (dq_t (dq_t (dq_t (dq_t (dq_t (dq_t (dq_t (dq_t dzL_law_1055)))))))))))))))))))
theorem dL_law_1087 : decode cL_law 1087 = .ok (.istore 6, 2) := dq_h (dq_t (dq_t (dq_t (dq_t (dq_t (dq_t (dq_t (dq_t (dq_t (dq_t (dq_t (dq_t (dq_t (dq_t (dq_t (dq_t (dq_t (dq_t (dq_t (dq_t dzL_law_1055))))))))))))))))))))
theorem dL_law_1089 : decode cL_law 1089 = .ok (.goto 410, 3) := dq_h (dq_t (dq_t (dq_t (dq_t (dq_t (dq_t (dq_t (dq_t (dq_t (dq_t (dq_t (dq_t (dq_t (dq_t (dq_t (dq_t (dq_t (dq_t (dq_t (dq_t (dq_t dzL_law_1055)))))))))))))))))))))
theorem dL_law_1092 : decode cL_law 1092 = .ok (.aload_n 1, 1) := dq_h (dq_t (dq_t (dq_t (dq_t (dq_t (dq_t (dq_t (dq_t (dq_t (dq_t (dq_t (dq_t (dq_t (dq_t (dq_t (dq_t (dq_t (dq_t (dq_t (dq_t (dq_t (dq_t dzL_law_1055))))))))))))))))))))))
theorem dL_law_1093 : decode cL_law 1093 = .ok (.aload_n 0, 1) := dq_h (dq_t (dq_t (dq_t (dq_t (dq_t (dq_t (dq_t (dq_t (dq_t (dq_t (dq_t (dq_t (dq_t (dq_t (dq_t (dq_t (dq_t (dq_t (dq_t (dq_t (dq_t (dq_t (dq_t dzL_law_1055)))))))))))))))))))))))
theorem dzL_law_1094 : dq_F cL_law [(1094, .iload 4, 2), (1096, .iconst 1, 1), (1097, .iadd, 1), (1098, .iaload, 1), (1099, .aload_n 3, 1), (1100, .invokestatic 202, 3), (1103, .istore 5, 2), (1105, .aload_n 2, 1), (1106, .aload_n 0, 1), (1107, .iload 4, 2), (1109, .iconst 1, 1), (1110, .iadd, 1), (1111, .iaload, 1), (1112, .invokevirtual 204, 3), (1115, .istore 6, 2), (1117, .goto 382, 3), (1120, .aload_n 1, 1), (1121, .aload_n 0, 1), (1122, .iload 4, 2), (1124, .iconst 1, 1), (1125, .iadd, 1), (1126, .iaload, 1), (1127, .aload_n 0, 1), (1128, .iload 4, 2)] := dq_s 24 1094 (by decide +kernel)
theorem dL_law_1094 : decode cL_law 1094 = .ok (.iload 4, 2) := dq_h dzL_law_1094
theorem dL_law_1096 : decode cL_law 1096 = .ok (.iconst 1, 1) := dq_h (dq_t dzL_law_1094)
theorem dL_law_1097 : decode cL_law 1097 = .ok (.iadd, 1) := dq_h (dq_t (dq_t dzL_law_1094))
theorem dL_law_1098 : decode cL_law 1098 = .ok (.iaload, 1) := dq_h (dq_t (dq_t (dq_t dzL_law_1094)))
theorem dL_law_1099 : decode cL_law 1099 = .ok (.aload_n 3, 1) := dq_h (dq_t (dq_t (dq_t (dq_t dzL_law_1094))))
theorem dL_law_1100 : decode cL_law 1100 = .ok (.invokestatic 202, 3) := dq_h (dq_t (dq_t (dq_t (dq_t (dq_t dzL_law_1094)))))
theorem dL_law_1103 : decode cL_law 1103 = .ok (.istore 5, 2) := dq_h (dq_t (dq_t (dq_t (dq_t (dq_t (dq_t dzL_law_1094))))))
theorem dL_law_1105 : decode cL_law 1105 = .ok (.aload_n 2, 1) := dq_h (dq_t (dq_t (dq_t (dq_t (dq_t (dq_t (dq_t dzL_law_1094)))))))
theorem dL_law_1106 : decode cL_law 1106 = .ok (.aload_n 0, 1) := dq_h (dq_t (dq_t (dq_t (dq_t (dq_t (dq_t (dq_t (dq_t dzL_law_1094))))))))
theorem dL_law_1107 : decode cL_law 1107 = .ok (.iload 4, 2) := dq_h (dq_t (dq_t (dq_t (dq_t (dq_t (dq_t (dq_t (dq_t (dq_t dzL_law_1094)))))))))
theorem dL_law_1109 : decode cL_law 1109 = .ok (.iconst 1, 1) := dq_h (dq_t (dq_t (dq_t (dq_t (dq_t (dq_t (dq_t (dq_t (dq_t (dq_t dzL_law_1094))))))))))
theorem dL_law_1110 : decode cL_law 1110 = .ok (.iadd, 1) := dq_h (dq_t (dq_t (dq_t (dq_t (dq_t (dq_t (dq_t (dq_t (dq_t (dq_t (dq_t dzL_law_1094)))))))))))
theorem dL_law_1111 : decode cL_law 1111 = .ok (.iaload, 1) := dq_h (dq_t (dq_t (dq_t (dq_t (dq_t (dq_t (dq_t (dq_t (dq_t (dq_t (dq_t (dq_t dzL_law_1094))))))))))))
theorem dL_law_1112 : decode cL_law 1112 = .ok (.invokevirtual 204, 3) := dq_h (dq_t (dq_t (dq_t (dq_t (dq_t (dq_t (dq_t (dq_t (dq_t (dq_t (dq_t (dq_t (dq_t dzL_law_1094)))))))))))))
theorem dL_law_1115 : decode cL_law 1115 = .ok (.istore 6, 2) := dq_h (dq_t (dq_t (dq_t (dq_t (dq_t (dq_t (dq_t (dq_t (dq_t (dq_t (dq_t (dq_t (dq_t (dq_t dzL_law_1094))))))))))))))
theorem dL_law_1117 : decode cL_law 1117 = .ok (.goto 382, 3) := dq_h (dq_t (dq_t (dq_t (dq_t (dq_t (dq_t (dq_t (dq_t (dq_t (dq_t (dq_t (dq_t (dq_t (dq_t (dq_t dzL_law_1094)))))))))))))))
theorem dL_law_1120 : decode cL_law 1120 = .ok (.aload_n 1, 1) := dq_h (dq_t (dq_t (dq_t (dq_t (dq_t (dq_t (dq_t (dq_t (dq_t (dq_t (dq_t (dq_t (dq_t (dq_t (dq_t (dq_t dzL_law_1094))))))))))))))))
theorem dL_law_1121 : decode cL_law 1121 = .ok (.aload_n 0, 1) := dq_h (dq_t (dq_t (dq_t (dq_t (dq_t (dq_t (dq_t (dq_t (dq_t (dq_t (dq_t (dq_t (dq_t (dq_t (dq_t (dq_t (dq_t dzL_law_1094)))))))))))))))))
theorem dL_law_1122 : decode cL_law 1122 = .ok (.iload 4, 2) := dq_h (dq_t (dq_t (dq_t (dq_t (dq_t (dq_t (dq_t (dq_t (dq_t (dq_t (dq_t (dq_t (dq_t (dq_t (dq_t (dq_t (dq_t (dq_t dzL_law_1094))))))))))))))))))
theorem dL_law_1124 : decode cL_law 1124 = .ok (.iconst 1, 1) := dq_h (dq_t (dq_t (dq_t (dq_t (dq_t (dq_t (dq_t (dq_t (dq_t (dq_t (dq_t (dq_t (dq_t (dq_t (dq_t (dq_t (dq_t (dq_t (dq_t dzL_law_1094)))))))))))))))))))
theorem dL_law_1125 : decode cL_law 1125 = .ok (.iadd, 1) := dq_h (dq_t (dq_t (dq_t (dq_t (dq_t (dq_t (dq_t (dq_t (dq_t (dq_t (dq_t (dq_t (dq_t (dq_t (dq_t (dq_t (dq_t (dq_t (dq_t (dq_t dzL_law_1094))))))))))))))))))))
theorem dL_law_1126 : decode cL_law 1126 = .ok (.iaload, 1) := dq_h (dq_t (dq_t (dq_t (dq_t (dq_t (dq_t (dq_t (dq_t (dq_t (dq_t (dq_t (dq_t (dq_t (dq_t (dq_t (dq_t (dq_t (dq_t (dq_t (dq_t (dq_t dzL_law_1094)))))))))))))))))))))
theorem dL_law_1127 : decode cL_law 1127 = .ok (.aload_n 0, 1) := dq_h (dq_t (dq_t (dq_t (dq_t (dq_t (dq_t (dq_t (dq_t (dq_t (dq_t (dq_t (dq_t (dq_t (dq_t (dq_t (dq_t (dq_t (dq_t (dq_t (dq_t (dq_t (dq_t dzL_law_1094))))))))))))))))))))))
theorem dL_law_1128 : decode cL_law 1128 = .ok (.iload 4, 2) := dq_h (dq_t (dq_t (dq_t (dq_t (dq_t (dq_t (dq_t (dq_t (dq_t (dq_t (dq_t (dq_t (dq_t (dq_t (dq_t (dq_t (dq_t (dq_t (dq_t (dq_t (dq_t (dq_t (dq_t dzL_law_1094)))))))))))))))))))))))
theorem dzL_law_1130 : dq_F cL_law [(1130, .iconst 2, 1), (1131, .iadd, 1), (1132, .iaload, 1), (1133, .aload_n 3, 1), (1134, .invokestatic 205, 3), (1137, .istore 5, 2), (1139, .aload_n 2, 1), (1140, .aload_n 0, 1), (1141, .iload 4, 2), (1143, .iconst 1, 1), (1144, .iadd, 1), (1145, .iaload, 1), (1146, .aload_n 0, 1), (1147, .iload 4, 2), (1149, .iconst 2, 1), (1150, .iadd, 1), (1151, .iaload, 1), (1152, .invokevirtual 207, 3), (1155, .istore 6, 2), (1157, .goto 342, 3), (1160, .aload_n 1, 1), (1161, .aload_n 0, 1), (1162, .iload 4, 2), (1164, .iconst 1, 1)] := dq_s 24 1130 (by decide +kernel)
theorem dL_law_1130 : decode cL_law 1130 = .ok (.iconst 2, 1) := dq_h dzL_law_1130
theorem dL_law_1131 : decode cL_law 1131 = .ok (.iadd, 1) := dq_h (dq_t dzL_law_1130)
theorem dL_law_1132 : decode cL_law 1132 = .ok (.iaload, 1) := dq_h (dq_t (dq_t dzL_law_1130))
theorem dL_law_1133 : decode cL_law 1133 = .ok (.aload_n 3, 1) := dq_h (dq_t (dq_t (dq_t dzL_law_1130)))
theorem dL_law_1134 : decode cL_law 1134 = .ok (.invokestatic 205, 3) := dq_h (dq_t (dq_t (dq_t (dq_t dzL_law_1130))))
theorem dL_law_1137 : decode cL_law 1137 = .ok (.istore 5, 2) := dq_h (dq_t (dq_t (dq_t (dq_t (dq_t dzL_law_1130)))))
theorem dL_law_1139 : decode cL_law 1139 = .ok (.aload_n 2, 1) := dq_h (dq_t (dq_t (dq_t (dq_t (dq_t (dq_t dzL_law_1130))))))
theorem dL_law_1140 : decode cL_law 1140 = .ok (.aload_n 0, 1) := dq_h (dq_t (dq_t (dq_t (dq_t (dq_t (dq_t (dq_t dzL_law_1130)))))))
theorem dL_law_1141 : decode cL_law 1141 = .ok (.iload 4, 2) := dq_h (dq_t (dq_t (dq_t (dq_t (dq_t (dq_t (dq_t (dq_t dzL_law_1130))))))))
theorem dL_law_1143 : decode cL_law 1143 = .ok (.iconst 1, 1) := dq_h (dq_t (dq_t (dq_t (dq_t (dq_t (dq_t (dq_t (dq_t (dq_t dzL_law_1130)))))))))
theorem dL_law_1144 : decode cL_law 1144 = .ok (.iadd, 1) := dq_h (dq_t (dq_t (dq_t (dq_t (dq_t (dq_t (dq_t (dq_t (dq_t (dq_t dzL_law_1130))))))))))
theorem dL_law_1145 : decode cL_law 1145 = .ok (.iaload, 1) := dq_h (dq_t (dq_t (dq_t (dq_t (dq_t (dq_t (dq_t (dq_t (dq_t (dq_t (dq_t dzL_law_1130)))))))))))
theorem dL_law_1146 : decode cL_law 1146 = .ok (.aload_n 0, 1) := dq_h (dq_t (dq_t (dq_t (dq_t (dq_t (dq_t (dq_t (dq_t (dq_t (dq_t (dq_t (dq_t dzL_law_1130))))))))))))
theorem dL_law_1147 : decode cL_law 1147 = .ok (.iload 4, 2) := dq_h (dq_t (dq_t (dq_t (dq_t (dq_t (dq_t (dq_t (dq_t (dq_t (dq_t (dq_t (dq_t (dq_t dzL_law_1130)))))))))))))
theorem dL_law_1149 : decode cL_law 1149 = .ok (.iconst 2, 1) := dq_h (dq_t (dq_t (dq_t (dq_t (dq_t (dq_t (dq_t (dq_t (dq_t (dq_t (dq_t (dq_t (dq_t (dq_t dzL_law_1130))))))))))))))
theorem dL_law_1150 : decode cL_law 1150 = .ok (.iadd, 1) := dq_h (dq_t (dq_t (dq_t (dq_t (dq_t (dq_t (dq_t (dq_t (dq_t (dq_t (dq_t (dq_t (dq_t (dq_t (dq_t dzL_law_1130)))))))))))))))
theorem dL_law_1151 : decode cL_law 1151 = .ok (.iaload, 1) := dq_h (dq_t (dq_t (dq_t (dq_t (dq_t (dq_t (dq_t (dq_t (dq_t (dq_t (dq_t (dq_t (dq_t (dq_t (dq_t (dq_t dzL_law_1130))))))))))))))))
theorem dL_law_1152 : decode cL_law 1152 = .ok (.invokevirtual 207, 3) := dq_h (dq_t (dq_t (dq_t (dq_t (dq_t (dq_t (dq_t (dq_t (dq_t (dq_t (dq_t (dq_t (dq_t (dq_t (dq_t (dq_t (dq_t dzL_law_1130)))))))))))))))))
theorem dL_law_1155 : decode cL_law 1155 = .ok (.istore 6, 2) := dq_h (dq_t (dq_t (dq_t (dq_t (dq_t (dq_t (dq_t (dq_t (dq_t (dq_t (dq_t (dq_t (dq_t (dq_t (dq_t (dq_t (dq_t (dq_t dzL_law_1130))))))))))))))))))
theorem dL_law_1157 : decode cL_law 1157 = .ok (.goto 342, 3) := dq_h (dq_t (dq_t (dq_t (dq_t (dq_t (dq_t (dq_t (dq_t (dq_t (dq_t (dq_t (dq_t (dq_t (dq_t (dq_t (dq_t (dq_t (dq_t (dq_t dzL_law_1130)))))))))))))))))))
theorem dL_law_1160 : decode cL_law 1160 = .ok (.aload_n 1, 1) := dq_h (dq_t (dq_t (dq_t (dq_t (dq_t (dq_t (dq_t (dq_t (dq_t (dq_t (dq_t (dq_t (dq_t (dq_t (dq_t (dq_t (dq_t (dq_t (dq_t (dq_t dzL_law_1130))))))))))))))))))))
theorem dL_law_1161 : decode cL_law 1161 = .ok (.aload_n 0, 1) := dq_h (dq_t (dq_t (dq_t (dq_t (dq_t (dq_t (dq_t (dq_t (dq_t (dq_t (dq_t (dq_t (dq_t (dq_t (dq_t (dq_t (dq_t (dq_t (dq_t (dq_t (dq_t dzL_law_1130)))))))))))))))))))))
theorem dL_law_1162 : decode cL_law 1162 = .ok (.iload 4, 2) := dq_h (dq_t (dq_t (dq_t (dq_t (dq_t (dq_t (dq_t (dq_t (dq_t (dq_t (dq_t (dq_t (dq_t (dq_t (dq_t (dq_t (dq_t (dq_t (dq_t (dq_t (dq_t (dq_t dzL_law_1130))))))))))))))))))))))
theorem dL_law_1164 : decode cL_law 1164 = .ok (.iconst 1, 1) := dq_h (dq_t (dq_t (dq_t (dq_t (dq_t (dq_t (dq_t (dq_t (dq_t (dq_t (dq_t (dq_t (dq_t (dq_t (dq_t (dq_t (dq_t (dq_t (dq_t (dq_t (dq_t (dq_t (dq_t dzL_law_1130)))))))))))))))))))))))
theorem dzL_law_1165 : dq_F cL_law [(1165, .iadd, 1), (1166, .iaload, 1), (1167, .aload_n 0, 1), (1168, .iload 4, 2), (1170, .iconst 2, 1), (1171, .iadd, 1), (1172, .iaload, 1), (1173, .aload_n 3, 1), (1174, .invokestatic 208, 3), (1177, .istore 5, 2), (1179, .aload_n 2, 1), (1180, .aload_n 0, 1), (1181, .iload 4, 2), (1183, .iconst 1, 1), (1184, .iadd, 1), (1185, .iaload, 1), (1186, .aload_n 0, 1), (1187, .iload 4, 2), (1189, .iconst 2, 1), (1190, .iadd, 1), (1191, .iaload, 1), (1192, .invokevirtual 210, 3), (1195, .istore 6, 2), (1197, .goto 302, 3)] := dq_s 24 1165 (by decide +kernel)
theorem dL_law_1165 : decode cL_law 1165 = .ok (.iadd, 1) := dq_h dzL_law_1165
theorem dL_law_1166 : decode cL_law 1166 = .ok (.iaload, 1) := dq_h (dq_t dzL_law_1165)
theorem dL_law_1167 : decode cL_law 1167 = .ok (.aload_n 0, 1) := dq_h (dq_t (dq_t dzL_law_1165))
theorem dL_law_1168 : decode cL_law 1168 = .ok (.iload 4, 2) := dq_h (dq_t (dq_t (dq_t dzL_law_1165)))
theorem dL_law_1170 : decode cL_law 1170 = .ok (.iconst 2, 1) := dq_h (dq_t (dq_t (dq_t (dq_t dzL_law_1165))))
theorem dL_law_1171 : decode cL_law 1171 = .ok (.iadd, 1) := dq_h (dq_t (dq_t (dq_t (dq_t (dq_t dzL_law_1165)))))
theorem dL_law_1172 : decode cL_law 1172 = .ok (.iaload, 1) := dq_h (dq_t (dq_t (dq_t (dq_t (dq_t (dq_t dzL_law_1165))))))
theorem dL_law_1173 : decode cL_law 1173 = .ok (.aload_n 3, 1) := dq_h (dq_t (dq_t (dq_t (dq_t (dq_t (dq_t (dq_t dzL_law_1165)))))))
theorem dL_law_1174 : decode cL_law 1174 = .ok (.invokestatic 208, 3) := dq_h (dq_t (dq_t (dq_t (dq_t (dq_t (dq_t (dq_t (dq_t dzL_law_1165))))))))
theorem dL_law_1177 : decode cL_law 1177 = .ok (.istore 5, 2) := dq_h (dq_t (dq_t (dq_t (dq_t (dq_t (dq_t (dq_t (dq_t (dq_t dzL_law_1165)))))))))
theorem dL_law_1179 : decode cL_law 1179 = .ok (.aload_n 2, 1) := dq_h (dq_t (dq_t (dq_t (dq_t (dq_t (dq_t (dq_t (dq_t (dq_t (dq_t dzL_law_1165))))))))))
theorem dL_law_1180 : decode cL_law 1180 = .ok (.aload_n 0, 1) := dq_h (dq_t (dq_t (dq_t (dq_t (dq_t (dq_t (dq_t (dq_t (dq_t (dq_t (dq_t dzL_law_1165)))))))))))
theorem dL_law_1181 : decode cL_law 1181 = .ok (.iload 4, 2) := dq_h (dq_t (dq_t (dq_t (dq_t (dq_t (dq_t (dq_t (dq_t (dq_t (dq_t (dq_t (dq_t dzL_law_1165))))))))))))
theorem dL_law_1183 : decode cL_law 1183 = .ok (.iconst 1, 1) := dq_h (dq_t (dq_t (dq_t (dq_t (dq_t (dq_t (dq_t (dq_t (dq_t (dq_t (dq_t (dq_t (dq_t dzL_law_1165)))))))))))))
theorem dL_law_1184 : decode cL_law 1184 = .ok (.iadd, 1) := dq_h (dq_t (dq_t (dq_t (dq_t (dq_t (dq_t (dq_t (dq_t (dq_t (dq_t (dq_t (dq_t (dq_t (dq_t dzL_law_1165))))))))))))))
theorem dL_law_1185 : decode cL_law 1185 = .ok (.iaload, 1) := dq_h (dq_t (dq_t (dq_t (dq_t (dq_t (dq_t (dq_t (dq_t (dq_t (dq_t (dq_t (dq_t (dq_t (dq_t (dq_t dzL_law_1165)))))))))))))))
theorem dL_law_1186 : decode cL_law 1186 = .ok (.aload_n 0, 1) := dq_h (dq_t (dq_t (dq_t (dq_t (dq_t (dq_t (dq_t (dq_t (dq_t (dq_t (dq_t (dq_t (dq_t (dq_t (dq_t (dq_t dzL_law_1165))))))))))))))))
theorem dL_law_1187 : decode cL_law 1187 = .ok (.iload 4, 2) := dq_h (dq_t (dq_t (dq_t (dq_t (dq_t (dq_t (dq_t (dq_t (dq_t (dq_t (dq_t (dq_t (dq_t (dq_t (dq_t (dq_t (dq_t dzL_law_1165)))))))))))))))))
theorem dL_law_1189 : decode cL_law 1189 = .ok (.iconst 2, 1) := dq_h (dq_t (dq_t (dq_t (dq_t (dq_t (dq_t (dq_t (dq_t (dq_t (dq_t (dq_t (dq_t (dq_t (dq_t (dq_t (dq_t (dq_t (dq_t dzL_law_1165))))))))))))))))))
theorem dL_law_1190 : decode cL_law 1190 = .ok (.iadd, 1) := dq_h (dq_t (dq_t (dq_t (dq_t (dq_t (dq_t (dq_t (dq_t (dq_t (dq_t (dq_t (dq_t (dq_t (dq_t (dq_t (dq_t (dq_t (dq_t (dq_t dzL_law_1165)))))))))))))))))))
theorem dL_law_1191 : decode cL_law 1191 = .ok (.iaload, 1) := dq_h (dq_t (dq_t (dq_t (dq_t (dq_t (dq_t (dq_t (dq_t (dq_t (dq_t (dq_t (dq_t (dq_t (dq_t (dq_t (dq_t (dq_t (dq_t (dq_t (dq_t dzL_law_1165))))))))))))))))))))
theorem dL_law_1192 : decode cL_law 1192 = .ok (.invokevirtual 210, 3) := dq_h (dq_t (dq_t (dq_t (dq_t (dq_t (dq_t (dq_t (dq_t (dq_t (dq_t (dq_t (dq_t (dq_t (dq_t (dq_t (dq_t (dq_t (dq_t (dq_t (dq_t (dq_t dzL_law_1165)))))))))))))))))))))
theorem dL_law_1195 : decode cL_law 1195 = .ok (.istore 6, 2) := dq_h (dq_t (dq_t (dq_t (dq_t (dq_t (dq_t (dq_t (dq_t (dq_t (dq_t (dq_t (dq_t (dq_t (dq_t (dq_t (dq_t (dq_t (dq_t (dq_t (dq_t (dq_t (dq_t dzL_law_1165))))))))))))))))))))))
theorem dL_law_1197 : decode cL_law 1197 = .ok (.goto 302, 3) := dq_h (dq_t (dq_t (dq_t (dq_t (dq_t (dq_t (dq_t (dq_t (dq_t (dq_t (dq_t (dq_t (dq_t (dq_t (dq_t (dq_t (dq_t (dq_t (dq_t (dq_t (dq_t (dq_t (dq_t dzL_law_1165)))))))))))))))))))))))
theorem dzL_law_1200 : dq_F cL_law [(1200, .aload_n 1, 1), (1201, .aload_n 0, 1), (1202, .iload 4, 2), (1204, .iconst 1, 1), (1205, .iadd, 1), (1206, .iaload, 1), (1207, .aload_n 0, 1), (1208, .iload 4, 2), (1210, .iconst 2, 1), (1211, .iadd, 1), (1212, .iaload, 1), (1213, .aload_n 0, 1), (1214, .iload 4, 2), (1216, .iconst 3, 1), (1217, .iadd, 1), (1218, .iaload, 1), (1219, .aload_n 3, 1), (1220, .invokestatic 211, 3), (1223, .istore 5, 2), (1225, .aload_n 2, 1), (1226, .aload_n 0, 1), (1227, .iload 4, 2), (1229, .iconst 1, 1), (1230, .iadd, 1)] := dq_s 24 1200 (by decide +kernel)
theorem dL_law_1200 : decode cL_law 1200 = .ok (.aload_n 1, 1) := dq_h dzL_law_1200
theorem dL_law_1201 : decode cL_law 1201 = .ok (.aload_n 0, 1) := dq_h (dq_t dzL_law_1200)
theorem dL_law_1202 : decode cL_law 1202 = .ok (.iload 4, 2) := dq_h (dq_t (dq_t dzL_law_1200))
theorem dL_law_1204 : decode cL_law 1204 = .ok (.iconst 1, 1) := dq_h (dq_t (dq_t (dq_t dzL_law_1200)))
theorem dL_law_1205 : decode cL_law 1205 = .ok (.iadd, 1) := dq_h (dq_t (dq_t (dq_t (dq_t dzL_law_1200))))
theorem dL_law_1206 : decode cL_law 1206 = .ok (.iaload, 1) := dq_h (dq_t (dq_t (dq_t (dq_t (dq_t dzL_law_1200)))))
theorem dL_law_1207 : decode cL_law 1207 = .ok (.aload_n 0, 1) := dq_h (dq_t (dq_t (dq_t (dq_t (dq_t (dq_t dzL_law_1200))))))
theorem dL_law_1208 : decode cL_law 1208 = .ok (.iload 4, 2) := dq_h (dq_t (dq_t (dq_t (dq_t (dq_t (dq_t (dq_t dzL_law_1200)))))))
theorem dL_law_1210 : decode cL_law 1210 = .ok (.iconst 2, 1) := dq_h (dq_t (dq_t (dq_t (dq_t (dq_t (dq_t (dq_t (dq_t dzL_law_1200))))))))
theorem dL_law_1211 : decode cL_law 1211 = .ok (.iadd, 1) := dq_h (dq_t (dq_t (dq_t (dq_t (dq_t (dq_t (dq_t (dq_t (dq_t dzL_law_1200)))))))))
theorem dL_law_1212 : decode cL_law 1212 = .ok (.iaload, 1) := dq_h (dq_t (dq_t (dq_t (dq_t (dq_t (dq_t (dq_t (dq_t (dq_t (dq_t dzL_law_1200))))))))))
theorem dL_law_1213 : decode cL_law 1213 = .ok (.aload_n 0, 1) := dq_h (dq_t (dq_t (dq_t (dq_t (dq_t (dq_t (dq_t (dq_t (dq_t (dq_t (dq_t dzL_law_1200)))))))))))
theorem dL_law_1214 : decode cL_law 1214 = .ok (.iload 4, 2) := dq_h (dq_t (dq_t (dq_t (dq_t (dq_t (dq_t (dq_t (dq_t (dq_t (dq_t (dq_t (dq_t dzL_law_1200))))))))))))
theorem dL_law_1216 : decode cL_law 1216 = .ok (.iconst 3, 1) := dq_h (dq_t (dq_t (dq_t (dq_t (dq_t (dq_t (dq_t (dq_t (dq_t (dq_t (dq_t (dq_t (dq_t dzL_law_1200)))))))))))))
theorem dL_law_1217 : decode cL_law 1217 = .ok (.iadd, 1) := dq_h (dq_t (dq_t (dq_t (dq_t (dq_t (dq_t (dq_t (dq_t (dq_t (dq_t (dq_t (dq_t (dq_t (dq_t dzL_law_1200))))))))))))))
theorem dL_law_1218 : decode cL_law 1218 = .ok (.iaload, 1) := dq_h (dq_t (dq_t (dq_t (dq_t (dq_t (dq_t (dq_t (dq_t (dq_t (dq_t (dq_t (dq_t (dq_t (dq_t (dq_t dzL_law_1200)))))))))))))))
theorem dL_law_1219 : decode cL_law 1219 = .ok (.aload_n 3, 1) := dq_h (dq_t (dq_t (dq_t (dq_t (dq_t (dq_t (dq_t (dq_t (dq_t (dq_t (dq_t (dq_t (dq_t (dq_t (dq_t (dq_t dzL_law_1200))))))))))))))))
theorem dL_law_1220 : decode cL_law 1220 = .ok (.invokestatic 211, 3) := dq_h (dq_t (dq_t (dq_t (dq_t (dq_t (dq_t (dq_t (dq_t (dq_t (dq_t (dq_t (dq_t (dq_t (dq_t (dq_t (dq_t (dq_t dzL_law_1200)))))))))))))))))
theorem dL_law_1223 : decode cL_law 1223 = .ok (.istore 5, 2) := dq_h (dq_t (dq_t (dq_t (dq_t (dq_t (dq_t (dq_t (dq_t (dq_t (dq_t (dq_t (dq_t (dq_t (dq_t (dq_t (dq_t (dq_t (dq_t dzL_law_1200))))))))))))))))))
theorem dL_law_1225 : decode cL_law 1225 = .ok (.aload_n 2, 1) := dq_h (dq_t (dq_t (dq_t (dq_t (dq_t (dq_t (dq_t (dq_t (dq_t (dq_t (dq_t (dq_t (dq_t (dq_t (dq_t (dq_t (dq_t (dq_t (dq_t dzL_law_1200)))))))))))))))))))
theorem dL_law_1226 : decode cL_law 1226 = .ok (.aload_n 0, 1) := dq_h (dq_t (dq_t (dq_t (dq_t (dq_t (dq_t (dq_t (dq_t (dq_t (dq_t (dq_t (dq_t (dq_t (dq_t (dq_t (dq_t (dq_t (dq_t (dq_t (dq_t dzL_law_1200))))))))))))))))))))
theorem dL_law_1227 : decode cL_law 1227 = .ok (.iload 4, 2) := dq_h (dq_t (dq_t (dq_t (dq_t (dq_t (dq_t (dq_t (dq_t (dq_t (dq_t (dq_t (dq_t (dq_t (dq_t (dq_t (dq_t (dq_t (dq_t (dq_t (dq_t (dq_t dzL_law_1200)))))))))))))))))))))
theorem dL_law_1229 : decode cL_law 1229 = .ok (.iconst 1, 1) := dq_h (dq_t (dq_t (dq_t (dq_t (dq_t (dq_t (dq_t (dq_t (dq_t (dq_t (dq_t (dq_t (dq_t (dq_t (dq_t (dq_t (dq_t (dq_t (dq_t (dq_t (dq_t (dq_t dzL_law_1200))))))))))))))))))))))
theorem dL_law_1230 : decode cL_law 1230 = .ok (.iadd, 1) := dq_h (dq_t (dq_t (dq_t (dq_t (dq_t (dq_t (dq_t (dq_t (dq_t (dq_t (dq_t (dq_t (dq_t (dq_t (dq_t (dq_t (dq_t (dq_t (dq_t (dq_t (dq_t (dq_t (dq_t dzL_law_1200)))))))))))))))))))))))
theorem dzL_law_1231 : dq_F cL_law [(1231, .iaload, 1), (1232, .aload_n 0, 1), (1233, .iload 4, 2), (1235, .iconst 2, 1), (1236, .iadd, 1), (1237, .iaload, 1), (1238, .aload_n 0, 1), (1239, .iload 4, 2), (1241, .iconst 3, 1), (1242, .iadd, 1), (1243, .iaload, 1), (1244, .invokevirtual 213, 3), (1247, .istore 6, 2), (1249, .goto 250, 3), (1252, .aload_n 1, 1), (1253, .aload_n 0, 1), (1254, .iload 4, 2), (1256, .iconst 1, 1), (1257, .iadd, 1), (1258, .iaload, 1), (1259, .aload_n 3, 1), (1260, .invokestatic 214, 3), (1263, .istore 5, 2), (1265, .aload_n 2, 1)] := dq_s 24 1231 (by decide +kernel)
theorem dL_law_1231 : decode cL_law 1231 = .ok (.iaload, 1) := dq_h dzL_law_1231
theorem dL_law_1232 : decode cL_law 1232 = .ok (.aload_n 0, 1) := dq_h (dq_t dzL_law_1231)
theorem dL_law_1233 : decode cL_law 1233 = .ok (.iload 4, 2) := dq_h (dq_t (dq_t dzL_law_1231))
theorem dL_law_1235 : decode cL_law 1235 = .ok (.iconst 2, 1) := dq_h (dq_t (dq_t (dq_t dzL_law_1231)))
theorem dL_law_1236 : decode cL_law 1236 = .ok (.iadd, 1) := dq_h (dq_t (dq_t (dq_t (dq_t dzL_law_1231))))
theorem dL_law_1237 : decode cL_law 1237 = .ok (.iaload, 1) := dq_h (dq_t (dq_t (dq_t (dq_t (dq_t dzL_law_1231)))))
theorem dL_law_1238 : decode cL_law 1238 = .ok (.aload_n 0, 1) := dq_h (dq_t (dq_t (dq_t (dq_t (dq_t (dq_t dzL_law_1231))))))
theorem dL_law_1239 : decode cL_law 1239 = .ok (.iload 4, 2) := dq_h (dq_t (dq_t (dq_t (dq_t (dq_t (dq_t (dq_t dzL_law_1231)))))))
theorem dL_law_1241 : decode cL_law 1241 = .ok (.iconst 3, 1) := dq_h (dq_t (dq_t (dq_t (dq_t (dq_t (dq_t (dq_t (dq_t dzL_law_1231))))))))
theorem dL_law_1242 : decode cL_law 1242 = .ok (.iadd, 1) := dq_h (dq_t (dq_t (dq_t (dq_t (dq_t (dq_t (dq_t (dq_t (dq_t dzL_law_1231)))))))))
theorem dL_law_1243 : decode cL_law 1243 = .ok (.iaload, 1) := dq_h (dq_t (dq_t (dq_t (dq_t (dq_t (dq_t (dq_t (dq_t (dq_t (dq_t dzL_law_1231))))))))))
theorem dL_law_1244 : decode cL_law 1244 = .ok (.invokevirtual 213, 3) := dq_h (dq_t (dq_t (dq_t (dq_t (dq_t (dq_t (dq_t (dq_t (dq_t (dq_t (dq_t dzL_law_1231)))))))))))
theorem dL_law_1247 : decode cL_law 1247 = .ok (.istore 6, 2) := dq_h (dq_t (dq_t (dq_t (dq_t (dq_t (dq_t (dq_t (dq_t (dq_t (dq_t (dq_t (dq_t dzL_law_1231))))))))))))
theorem dL_law_1249 : decode cL_law 1249 = .ok (.goto 250, 3) := dq_h (dq_t (dq_t (dq_t (dq_t (dq_t (dq_t (dq_t (dq_t (dq_t (dq_t (dq_t (dq_t (dq_t dzL_law_1231)))))))))))))
theorem dL_law_1252 : decode cL_law 1252 = .ok (.aload_n 1, 1) := dq_h (dq_t (dq_t (dq_t (dq_t (dq_t (dq_t (dq_t (dq_t (dq_t (dq_t (dq_t (dq_t (dq_t (dq_t dzL_law_1231))))))))))))))
theorem dL_law_1253 : decode cL_law 1253 = .ok (.aload_n 0, 1) := dq_h (dq_t (dq_t (dq_t (dq_t (dq_t (dq_t (dq_t (dq_t (dq_t (dq_t (dq_t (dq_t (dq_t (dq_t (dq_t dzL_law_1231)))))))))))))))
theorem dL_law_1254 : decode cL_law 1254 = .ok (.iload 4, 2) := dq_h (dq_t (dq_t (dq_t (dq_t (dq_t (dq_t (dq_t (dq_t (dq_t (dq_t (dq_t (dq_t (dq_t (dq_t (dq_t (dq_t dzL_law_1231))))))))))))))))
theorem dL_law_1256 : decode cL_law 1256 = .ok (.iconst 1, 1) := dq_h (dq_t (dq_t (dq_t (dq_t (dq_t (dq_t (dq_t (dq_t (dq_t (dq_t (dq_t (dq_t (dq_t (dq_t (dq_t (dq_t (dq_t dzL_law_1231)))))))))))))))))
theorem dL_law_1257 : decode cL_law 1257 = .ok (.iadd, 1) := dq_h (dq_t (dq_t (dq_t (dq_t (dq_t (dq_t (dq_t (dq_t (dq_t (dq_t (dq_t (dq_t (dq_t (dq_t (dq_t (dq_t (dq_t (dq_t dzL_law_1231))))))))))))))))))
theorem dL_law_1258 : decode cL_law 1258 = .ok (.iaload, 1) := dq_h (dq_t (dq_t (dq_t (dq_t (dq_t (dq_t (dq_t (dq_t (dq_t (dq_t (dq_t (dq_t (dq_t (dq_t (dq_t (dq_t (dq_t (dq_t (dq_t dzL_law_1231)))))))))))))))))))
theorem dL_law_1259 : decode cL_law 1259 = .ok (.aload_n 3, 1) := dq_h (dq_t (dq_t (dq_t (dq_t (dq_t (dq_t (dq_t (dq_t (dq_t (dq_t (dq_t (dq_t (dq_t (dq_t (dq_t (dq_t (dq_t (dq_t (dq_t (dq_t dzL_law_1231))))))))))))))))))))
theorem dL_law_1260 : decode cL_law 1260 = .ok (.invokestatic 214, 3) := dq_h (dq_t (dq_t (dq_t (dq_t (dq_t (dq_t (dq_t (dq_t (dq_t (dq_t (dq_t (dq_t (dq_t (dq_t (dq_t (dq_t (dq_t (dq_t (dq_t (dq_t (dq_t dzL_law_1231)))))))))))))))))))))
theorem dL_law_1263 : decode cL_law 1263 = .ok (.istore 5, 2) := dq_h (dq_t (dq_t (dq_t (dq_t (dq_t (dq_t (dq_t (dq_t (dq_t (dq_t (dq_t (dq_t (dq_t (dq_t (dq_t (dq_t (dq_t (dq_t (dq_t (dq_t (dq_t (dq_t dzL_law_1231))))))))))))))))))))))
theorem dL_law_1265 : decode cL_law 1265 = .ok (.aload_n 2, 1) := dq_h (dq_t (dq_t (dq_t (dq_t (dq_t (dq_t (dq_t (dq_t (dq_t (dq_t (dq_t (dq_t (dq_t (dq_t (dq_t (dq_t (dq_t (dq_t (dq_t (dq_t (dq_t (dq_t (dq_t dzL_law_1231)))))))))))))))))))))))
theorem dzL_law_1266 : dq_F cL_law [(1266, .aload_n 0, 1), (1267, .iload 4, 2), (1269, .iconst 1, 1), (1270, .iadd, 1), (1271, .iaload, 1), (1272, .invokevirtual 216, 3), (1275, .istore 6, 2), (1277, .goto 222, 3), (1280, .aload_n 1, 1), (1281, .aload_n 0, 1), (1282, .iload 4, 2), (1284, .iconst 1, 1), (1285, .iadd, 1), (1286, .iaload, 1), (1287, .aload_n 3, 1), (1288, .invokestatic 217, 3), (1291, .istore 5, 2), (1293, .aload_n 2, 1), (1294, .aload_n 0, 1), (1295, .iload 4, 2), (1297, .iconst 1, 1), (1298, .iadd, 1), (1299, .iaload, 1), (1300, .invokevirtual 219, 3)] := dq_s 24 1266 (by decide +kernel)
theorem dL_law_1266 : decode cL_law 1266 = .ok (.aload_n 0, 1) := dq_h dzL_law_1266
theorem dL_law_1267 : decode cL_law 1267 = .ok (.iload 4, 2) := dq_h (dq_t dzL_law_1266)
theorem dL_law_1269 : decode cL_law 1269 = .ok (.iconst 1, 1) := dq_h (dq_t (dq_t dzL_law_1266))
theorem dL_law_1270 : decode cL_law 1270 = .ok (.iadd, 1) := dq_h (dq_t (dq_t (dq_t dzL_law_1266)))
theorem dL_law_1271 : decode cL_law 1271 = .ok (.iaload, 1) := dq_h (dq_t (dq_t (dq_t (dq_t dzL_law_1266))))
theorem dL_law_1272 : decode cL_law 1272 = .ok (.invokevirtual 216, 3) := dq_h (dq_t (dq_t (dq_t (dq_t (dq_t dzL_law_1266)))))
theorem dL_law_1275 : decode cL_law 1275 = .ok (.istore 6, 2) := dq_h (dq_t (dq_t (dq_t (dq_t (dq_t (dq_t dzL_law_1266))))))
theorem dL_law_1277 : decode cL_law 1277 = .ok (.goto 222, 3) := dq_h (dq_t (dq_t (dq_t (dq_t (dq_t (dq_t (dq_t dzL_law_1266)))))))
theorem dL_law_1280 : decode cL_law 1280 = .ok (.aload_n 1, 1) := dq_h (dq_t (dq_t (dq_t (dq_t (dq_t (dq_t (dq_t (dq_t dzL_law_1266))))))))
theorem dL_law_1281 : decode cL_law 1281 = .ok (.aload_n 0, 1) := dq_h (dq_t (dq_t (dq_t (dq_t (dq_t (dq_t (dq_t (dq_t (dq_t dzL_law_1266)))))))))
theorem dL_law_1282 : decode cL_law 1282 = .ok (.iload 4, 2) := dq_h (dq_t (dq_t (dq_t (dq_t (dq_t (dq_t (dq_t (dq_t (dq_t (dq_t dzL_law_1266))))))))))
theorem dL_law_1284 : decode cL_law 1284 = .ok (.iconst 1, 1) := dq_h (dq_t (dq_t (dq_t (dq_t (dq_t (dq_t (dq_t (dq_t (dq_t (dq_t (dq_t dzL_law_1266)))))))))))
theorem dL_law_1285 : decode cL_law 1285 = .ok (.iadd, 1) := dq_h (dq_t (dq_t (dq_t (dq_t (dq_t (dq_t (dq_t (dq_t (dq_t (dq_t (dq_t (dq_t dzL_law_1266))))))))))))
theorem dL_law_1286 : decode cL_law 1286 = .ok (.iaload, 1) := dq_h (dq_t (dq_t (dq_t (dq_t (dq_t (dq_t (dq_t (dq_t (dq_t (dq_t (dq_t (dq_t (dq_t dzL_law_1266)))))))))))))
theorem dL_law_1287 : decode cL_law 1287 = .ok (.aload_n 3, 1) := dq_h (dq_t (dq_t (dq_t (dq_t (dq_t (dq_t (dq_t (dq_t (dq_t (dq_t (dq_t (dq_t (dq_t (dq_t dzL_law_1266))))))))))))))
theorem dL_law_1288 : decode cL_law 1288 = .ok (.invokestatic 217, 3) := dq_h (dq_t (dq_t (dq_t (dq_t (dq_t (dq_t (dq_t (dq_t (dq_t (dq_t (dq_t (dq_t (dq_t (dq_t (dq_t dzL_law_1266)))))))))))))))
theorem dL_law_1291 : decode cL_law 1291 = .ok (.istore 5, 2) := dq_h (dq_t (dq_t (dq_t (dq_t (dq_t (dq_t (dq_t (dq_t (dq_t (dq_t (dq_t (dq_t (dq_t (dq_t (dq_t (dq_t dzL_law_1266))))))))))))))))
theorem dL_law_1293 : decode cL_law 1293 = .ok (.aload_n 2, 1) := dq_h (dq_t (dq_t (dq_t (dq_t (dq_t (dq_t (dq_t (dq_t (dq_t (dq_t (dq_t (dq_t (dq_t (dq_t (dq_t (dq_t (dq_t dzL_law_1266)))))))))))))))))
theorem dL_law_1294 : decode cL_law 1294 = .ok (.aload_n 0, 1) := dq_h (dq_t (dq_t (dq_t (dq_t (dq_t (dq_t (dq_t (dq_t (dq_t (dq_t (dq_t (dq_t (dq_t (dq_t (dq_t (dq_t (dq_t (dq_t dzL_law_1266))))))))))))))))))
theorem dL_law_1295 : decode cL_law 1295 = .ok (.iload 4, 2) := dq_h (dq_t (dq_t (dq_t (dq_t (dq_t (dq_t (dq_t (dq_t (dq_t (dq_t (dq_t (dq_t (dq_t (dq_t (dq_t (dq_t (dq_t (dq_t (dq_t dzL_law_1266)))))))))))))))))))
theorem dL_law_1297 : decode cL_law 1297 = .ok (.iconst 1, 1) := dq_h (dq_t (dq_t (dq_t (dq_t (dq_t (dq_t (dq_t (dq_t (dq_t (dq_t (dq_t (dq_t (dq_t (dq_t (dq_t (dq_t (dq_t (dq_t (dq_t (dq_t dzL_law_1266))))))))))))))))))))
theorem dL_law_1298 : decode cL_law 1298 = .ok (.iadd, 1) := dq_h (dq_t (dq_t (dq_t (dq_t (dq_t (dq_t (dq_t (dq_t (dq_t (dq_t (dq_t (dq_t (dq_t (dq_t (dq_t (dq_t (dq_t (dq_t (dq_t (dq_t (dq_t dzL_law_1266)))))))))))))))))))))
theorem dL_law_1299 : decode cL_law 1299 = .ok (.iaload, 1) := dq_h (dq_t (dq_t (dq_t (dq_t (dq_t (dq_t (dq_t (dq_t (dq_t (dq_t (dq_t (dq_t (dq_t (dq_t (dq_t (dq_t (dq_t (dq_t (dq_t (dq_t (dq_t (dq_t dzL_law_1266))))))))))))))))))))))
theorem dL_law_1300 : decode cL_law 1300 = .ok (.invokevirtual 219, 3) := dq_h (dq_t (dq_t (dq_t (dq_t (dq_t (dq_t (dq_t (dq_t (dq_t (dq_t (dq_t (dq_t (dq_t (dq_t (dq_t (dq_t (dq_t (dq_t (dq_t (dq_t (dq_t (dq_t (dq_t dzL_law_1266)))))))))))))))))))))))
theorem dzL_law_1303 : dq_F cL_law [(1303, .istore 6, 2), (1305, .goto 194, 3), (1308, .aload_n 1, 1), (1309, .invokevirtual 220, 3), (1312, .aload_n 2, 1), (1313, .invokevirtual 223, 3), (1316, .goto 183, 3), (1319, .aload_n 1, 1), (1320, .aload_n 0, 1), (1321, .iload 4, 2), (1323, .iconst 1, 1), (1324, .iadd, 1), (1325, .iaload, 1), (1326, .aload_n 0, 1), (1327, .iload 4, 2), (1329, .iconst 2, 1), (1330, .iadd, 1), (1331, .iaload, 1), (1332, .aload_n 0, 1), (1333, .iload 4, 2), (1335, .iconst 3, 1), (1336, .iadd, 1), (1337, .iaload, 1), (1338, .aload_n 3, 1)] := dq_s 24 1303 (by decide +kernel)
theorem dL_law_1303 : decode cL_law 1303 = .ok (.istore 6, 2) := dq_h dzL_law_1303
theorem dL_law_1305 : decode cL_law 1305 = .ok (.goto 194, 3) := dq_h (dq_t dzL_law_1303)
theorem dL_law_1308 : decode cL_law 1308 = .ok (.aload_n 1, 1) := dq_h (dq_t (dq_t dzL_law_1303))
theorem dL_law_1309 : decode cL_law 1309 = .ok (.invokevirtual 220, 3) := dq_h (dq_t (dq_t (dq_t dzL_law_1303)))
theorem dL_law_1312 : decode cL_law 1312 = .ok (.aload_n 2, 1) := dq_h (dq_t (dq_t (dq_t (dq_t dzL_law_1303))))
theorem dL_law_1313 : decode cL_law 1313 = .ok (.invokevirtual 223, 3) := dq_h (dq_t (dq_t (dq_t (dq_t (dq_t dzL_law_1303)))))
theorem dL_law_1316 : decode cL_law 1316 = .ok (.goto 183, 3) := dq_h (dq_t (dq_t (dq_t (dq_t (dq_t (dq_t dzL_law_1303))))))
theorem dL_law_1319 : decode cL_law 1319 = .ok (.aload_n 1, 1) := dq_h (dq_t (dq_t (dq_t (dq_t (dq_t (dq_t (dq_t dzL_law_1303)))))))
theorem dL_law_1320 : decode cL_law 1320 = .ok (.aload_n 0, 1) := dq_h (dq_t (dq_t (dq_t (dq_t (dq_t (dq_t (dq_t (dq_t dzL_law_1303))))))))
theorem dL_law_1321 : decode cL_law 1321 = .ok (.iload 4, 2) := dq_h (dq_t (dq_t (dq_t (dq_t (dq_t (dq_t (dq_t (dq_t (dq_t dzL_law_1303)))))))))
theorem dL_law_1323 : decode cL_law 1323 = .ok (.iconst 1, 1) := dq_h (dq_t (dq_t (dq_t (dq_t (dq_t (dq_t (dq_t (dq_t (dq_t (dq_t dzL_law_1303))))))))))
theorem dL_law_1324 : decode cL_law 1324 = .ok (.iadd, 1) := dq_h (dq_t (dq_t (dq_t (dq_t (dq_t (dq_t (dq_t (dq_t (dq_t (dq_t (dq_t dzL_law_1303)))))))))))
theorem dL_law_1325 : decode cL_law 1325 = .ok (.iaload, 1) := dq_h (dq_t (dq_t (dq_t (dq_t (dq_t (dq_t (dq_t (dq_t (dq_t (dq_t (dq_t (dq_t dzL_law_1303))))))))))))
theorem dL_law_1326 : decode cL_law 1326 = .ok (.aload_n 0, 1) := dq_h (dq_t (dq_t (dq_t (dq_t (dq_t (dq_t (dq_t (dq_t (dq_t (dq_t (dq_t (dq_t (dq_t dzL_law_1303)))))))))))))
theorem dL_law_1327 : decode cL_law 1327 = .ok (.iload 4, 2) := dq_h (dq_t (dq_t (dq_t (dq_t (dq_t (dq_t (dq_t (dq_t (dq_t (dq_t (dq_t (dq_t (dq_t (dq_t dzL_law_1303))))))))))))))
theorem dL_law_1329 : decode cL_law 1329 = .ok (.iconst 2, 1) := dq_h (dq_t (dq_t (dq_t (dq_t (dq_t (dq_t (dq_t (dq_t (dq_t (dq_t (dq_t (dq_t (dq_t (dq_t (dq_t dzL_law_1303)))))))))))))))
theorem dL_law_1330 : decode cL_law 1330 = .ok (.iadd, 1) := dq_h (dq_t (dq_t (dq_t (dq_t (dq_t (dq_t (dq_t (dq_t (dq_t (dq_t (dq_t (dq_t (dq_t (dq_t (dq_t (dq_t dzL_law_1303))))))))))))))))
theorem dL_law_1331 : decode cL_law 1331 = .ok (.iaload, 1) := dq_h (dq_t (dq_t (dq_t (dq_t (dq_t (dq_t (dq_t (dq_t (dq_t (dq_t (dq_t (dq_t (dq_t (dq_t (dq_t (dq_t (dq_t dzL_law_1303)))))))))))))))))
theorem dL_law_1332 : decode cL_law 1332 = .ok (.aload_n 0, 1) := dq_h (dq_t (dq_t (dq_t (dq_t (dq_t (dq_t (dq_t (dq_t (dq_t (dq_t (dq_t (dq_t (dq_t (dq_t (dq_t (dq_t (dq_t (dq_t dzL_law_1303))))))))))))))))))
theorem dL_law_1333 : decode cL_law 1333 = .ok (.iload 4, 2) := dq_h (dq_t (dq_t (dq_t (dq_t (dq_t (dq_t (dq_t (dq_t (dq_t (dq_t (dq_t (dq_t (dq_t (dq_t (dq_t (dq_t (dq_t (dq_t (dq_t dzL_law_1303)))))))))))))))))))
theorem dL_law_1335 : decode cL_law 1335 = .ok (.iconst 3, 1) := dq_h (dq_t (dq_t (dq_t (dq_t (dq_t (dq_t (dq_t (dq_t (dq_t (dq_t (dq_t (dq_t (dq_t (dq_t (dq_t (dq_t (dq_t (dq_t (dq_t (dq_t dzL_law_1303))))))))))))))))))))
theorem dL_law_1336 : decode cL_law 1336 = .ok (.iadd, 1) := dq_h (dq_t (dq_t (dq_t (dq_t (dq_t (dq_t (dq_t (dq_t (dq_t (dq_t (dq_t (dq_t (dq_t (dq_t (dq_t (dq_t (dq_t (dq_t (dq_t (dq_t (dq_t dzL_law_1303)))))))))))))))))))))
theorem dL_law_1337 : decode cL_law 1337 = .ok (.iaload, 1) := dq_h (dq_t (dq_t (dq_t (dq_t (dq_t (dq_t (dq_t (dq_t (dq_t (dq_t (dq_t (dq_t (dq_t (dq_t (dq_t (dq_t (dq_t (dq_t (dq_t (dq_t (dq_t (dq_t dzL_law_1303))))))))))))))))))))))
theorem dL_law_1338 : decode cL_law 1338 = .ok (.aload_n 3, 1) := dq_h (dq_t (dq_t (dq_t (dq_t (dq_t (dq_t (dq_t (dq_t (dq_t (dq_t (dq_t (dq_t (dq_t (dq_t (dq_t (dq_t (dq_t (dq_t (dq_t (dq_t (dq_t (dq_t (dq_t dzL_law_1303)))))))))))))))))))))))
theorem dzL_law_1339 : dq_F cL_law [(1339, .invokestatic 224, 3), (1342, .istore 5, 2), (1344, .aload_n 2, 1), (1345, .aload_n 0, 1), (1346, .iload 4, 2), (1348, .iconst 1, 1), (1349, .iadd, 1), (1350, .iaload, 1), (1351, .aload_n 0, 1), (1352, .iload 4, 2), (1354, .iconst 2, 1), (1355, .iadd, 1), (1356, .iaload, 1), (1357, .aload_n 0, 1), (1358, .iload 4, 2), (1360, .iconst 3, 1), (1361, .iadd, 1), (1362, .iaload, 1), (1363, .invokevirtual 226, 3), (1366, .istore 6, 2), (1368, .goto 131, 3), (1371, .aload_n 1, 1), (1372, .aload_n 0, 1), (1373, .iload 4, 2)] := dq_s 24 1339 (by decide +kernel)
theorem dL_law_1339 : decode cL_law 1339 = .ok (.invokestatic 224, 3) := dq_h dzL_law_1339
theorem dL_law_1342 : decode cL_law 1342 = .ok (.istore 5, 2) := dq_h (dq_t dzL_law_1339)
theorem dL_law_1344 : decode cL_law 1344 = .ok (.aload_n 2, 1) := dq_h (dq_t (dq_t dzL_law_1339))
theorem dL_law_1345 : decode cL_law 1345 = .ok (.aload_n 0, 1) := dq_h (dq_t (dq_t (dq_t dzL_law_1339)))
theorem dL_law_1346 : decode cL_law 1346 = .ok (.iload 4, 2) := dq_h (dq_t (dq_t (dq_t (dq_t dzL_law_1339))))
theorem dL_law_1348 : decode cL_law 1348 = .ok (.iconst 1, 1) := dq_h (dq_t (dq_t (dq_t (dq_t (dq_t dzL_law_1339)))))
theorem dL_law_1349 : decode cL_law 1349 = .ok (.iadd, 1) := dq_h (dq_t (dq_t (dq_t (dq_t (dq_t (dq_t dzL_law_1339))))))
theorem dL_law_1350 : decode cL_law 1350 = .ok (.iaload, 1) := dq_h (dq_t (dq_t (dq_t (dq_t (dq_t (dq_t (dq_t dzL_law_1339)))))))
theorem dL_law_1351 : decode cL_law 1351 = .ok (.aload_n 0, 1) := dq_h (dq_t (dq_t (dq_t (dq_t (dq_t (dq_t (dq_t (dq_t dzL_law_1339))))))))
theorem dL_law_1352 : decode cL_law 1352 = .ok (.iload 4, 2) := dq_h (dq_t (dq_t (dq_t (dq_t (dq_t (dq_t (dq_t (dq_t (dq_t dzL_law_1339)))))))))
theorem dL_law_1354 : decode cL_law 1354 = .ok (.iconst 2, 1) := dq_h (dq_t (dq_t (dq_t (dq_t (dq_t (dq_t (dq_t (dq_t (dq_t (dq_t dzL_law_1339))))))))))
theorem dL_law_1355 : decode cL_law 1355 = .ok (.iadd, 1) := dq_h (dq_t (dq_t (dq_t (dq_t (dq_t (dq_t (dq_t (dq_t (dq_t (dq_t (dq_t dzL_law_1339)))))))))))
theorem dL_law_1356 : decode cL_law 1356 = .ok (.iaload, 1) := dq_h (dq_t (dq_t (dq_t (dq_t (dq_t (dq_t (dq_t (dq_t (dq_t (dq_t (dq_t (dq_t dzL_law_1339))))))))))))
theorem dL_law_1357 : decode cL_law 1357 = .ok (.aload_n 0, 1) := dq_h (dq_t (dq_t (dq_t (dq_t (dq_t (dq_t (dq_t (dq_t (dq_t (dq_t (dq_t (dq_t (dq_t dzL_law_1339)))))))))))))
theorem dL_law_1358 : decode cL_law 1358 = .ok (.iload 4, 2) := dq_h (dq_t (dq_t (dq_t (dq_t (dq_t (dq_t (dq_t (dq_t (dq_t (dq_t (dq_t (dq_t (dq_t (dq_t dzL_law_1339))))))))))))))
theorem dL_law_1360 : decode cL_law 1360 = .ok (.iconst 3, 1) := dq_h (dq_t (dq_t (dq_t (dq_t (dq_t (dq_t (dq_t (dq_t (dq_t (dq_t (dq_t (dq_t (dq_t (dq_t (dq_t dzL_law_1339)))))))))))))))
theorem dL_law_1361 : decode cL_law 1361 = .ok (.iadd, 1) := dq_h (dq_t (dq_t (dq_t (dq_t (dq_t (dq_t (dq_t (dq_t (dq_t (dq_t (dq_t (dq_t (dq_t (dq_t (dq_t (dq_t dzL_law_1339))))))))))))))))
theorem dL_law_1362 : decode cL_law 1362 = .ok (.iaload, 1) := dq_h (dq_t (dq_t (dq_t (dq_t (dq_t (dq_t (dq_t (dq_t (dq_t (dq_t (dq_t (dq_t (dq_t (dq_t (dq_t (dq_t (dq_t dzL_law_1339)))))))))))))))))
theorem dL_law_1363 : decode cL_law 1363 = .ok (.invokevirtual 226, 3) := dq_h (dq_t (dq_t (dq_t (dq_t (dq_t (dq_t (dq_t (dq_t (dq_t (dq_t (dq_t (dq_t (dq_t (dq_t (dq_t (dq_t (dq_t (dq_t dzL_law_1339))))))))))))))))))
theorem dL_law_1366 : decode cL_law 1366 = .ok (.istore 6, 2) := dq_h (dq_t (dq_t (dq_t (dq_t (dq_t (dq_t (dq_t (dq_t (dq_t (dq_t (dq_t (dq_t (dq_t (dq_t (dq_t (dq_t (dq_t (dq_t (dq_t dzL_law_1339)))))))))))))))))))
theorem dL_law_1368 : decode cL_law 1368 = .ok (.goto 131, 3) := dq_h (dq_t (dq_t (dq_t (dq_t (dq_t (dq_t (dq_t (dq_t (dq_t (dq_t (dq_t (dq_t (dq_t (dq_t (dq_t (dq_t (dq_t (dq_t (dq_t (dq_t dzL_law_1339))))))))))))))))))))
theorem dL_law_1371 : decode cL_law 1371 = .ok (.aload_n 1, 1) := dq_h (dq_t (dq_t (dq_t (dq_t (dq_t (dq_t (dq_t (dq_t (dq_t (dq_t (dq_t (dq_t (dq_t (dq_t (dq_t (dq_t (dq_t (dq_t (dq_t (dq_t (dq_t dzL_law_1339)))))))))))))))))))))
theorem dL_law_1372 : decode cL_law 1372 = .ok (.aload_n 0, 1) := dq_h (dq_t (dq_t (dq_t (dq_t (dq_t (dq_t (dq_t (dq_t (dq_t (dq_t (dq_t (dq_t (dq_t (dq_t (dq_t (dq_t (dq_t (dq_t (dq_t (dq_t (dq_t (dq_t dzL_law_1339))))))))))))))))))))))
theorem dL_law_1373 : decode cL_law 1373 = .ok (.iload 4, 2) := dq_h (dq_t (dq_t (dq_t (dq_t (dq_t (dq_t (dq_t (dq_t (dq_t (dq_t (dq_t (dq_t (dq_t (dq_t (dq_t (dq_t (dq_t (dq_t (dq_t (dq_t (dq_t (dq_t (dq_t dzL_law_1339)))))))))))))))))))))))
theorem dzL_law_1375 : dq_F cL_law [(1375, .iconst 1, 1), (1376, .iadd, 1), (1377, .iaload, 1), (1378, .aload_n 0, 1), (1379, .iload 4, 2), (1381, .iconst 2, 1), (1382, .iadd, 1), (1383, .iaload, 1), (1384, .aload_n 0, 1), (1385, .iload 4, 2), (1387, .iconst 3, 1), (1388, .iadd, 1), (1389, .iaload, 1), (1390, .aload_n 3, 1), (1391, .invokestatic 227, 3), (1394, .istore 5, 2), (1396, .aload_n 2, 1), (1397, .aload_n 0, 1), (1398, .iload 4, 2), (1400, .iconst 1, 1), (1401, .iadd, 1), (1402, .iaload, 1), (1403, .aload_n 0, 1), (1404, .iload 4, 2)] := dq_s 24 1375 (by decide +kernel)
theorem dL_law_1375 : decode cL_law 1375 = .ok (.iconst 1, 1) := dq_h dzL_law_1375
theorem dL_law_1376 : decode cL_law 1376 = .ok (.iadd, 1) := dq_h (dq_t dzL_law_1375)
theorem dL_law_1377 : decode cL_law 1377 = .ok (.iaload, 1) := dq_h (dq_t (dq_t dzL_law_1375))
theorem dL_law_1378 : decode cL_law 1378 = .ok (.aload_n 0, 1) := dq_h (dq_t (dq_t (dq_t dzL_law_1375)))
theorem dL_law_1379 : decode cL_law 1379 = .ok (.iload 4, 2) := dq_h (dq_t (dq_t (dq_t (dq_t dzL_law_1375))))
theorem dL_law_1381 : decode cL_law 1381 = .ok (.iconst 2, 1) := dq_h (dq_t (dq_t (dq_t (dq_t (dq_t dzL_law_1375)))))
theorem dL_law_1382 : decode cL_law 1382 = .ok (.iadd, 1) := dq_h (dq_t (dq_t (dq_t (dq_t (dq_t (dq_t dzL_law_1375))))))
theorem dL_law_1383 : decode cL_law 1383 = .ok (.iaload, 1) := dq_h (dq_t (dq_t (dq_t (dq_t (dq_t (dq_t (dq_t dzL_law_1375)))))))
theorem dL_law_1384 : decode cL_law 1384 = .ok (.aload_n 0, 1) := dq_h (dq_t (dq_t (dq_t (dq_t (dq_t (dq_t (dq_t (dq_t dzL_law_1375))))))))
theorem dL_law_1385 : decode cL_law 1385 = .ok (.iload 4, 2) := dq_h (dq_t (dq_t (dq_t (dq_t (dq_t (dq_t (dq_t (dq_t (dq_t dzL_law_1375)))))))))
theorem dL_law_1387 : decode cL_law 1387 = .ok (.iconst 3, 1) := dq_h (dq_t (dq_t (dq_t (dq_t (dq_t (dq_t (dq_t (dq_t (dq_t (dq_t dzL_law_1375))))))))))
theorem dL_law_1388 : decode cL_law 1388 = .ok (.iadd, 1) := dq_h (dq_t (dq_t (dq_t (dq_t (dq_t (dq_t (dq_t (dq_t (dq_t (dq_t (dq_t dzL_law_1375)))))))))))
theorem dL_law_1389 : decode cL_law 1389 = .ok (.iaload, 1) := dq_h (dq_t (dq_t (dq_t (dq_t (dq_t (dq_t (dq_t (dq_t (dq_t (dq_t (dq_t (dq_t dzL_law_1375))))))))))))
theorem dL_law_1390 : decode cL_law 1390 = .ok (.aload_n 3, 1) := dq_h (dq_t (dq_t (dq_t (dq_t (dq_t (dq_t (dq_t (dq_t (dq_t (dq_t (dq_t (dq_t (dq_t dzL_law_1375)))))))))))))
theorem dL_law_1391 : decode cL_law 1391 = .ok (.invokestatic 227, 3) := dq_h (dq_t (dq_t (dq_t (dq_t (dq_t (dq_t (dq_t (dq_t (dq_t (dq_t (dq_t (dq_t (dq_t (dq_t dzL_law_1375))))))))))))))
theorem dL_law_1394 : decode cL_law 1394 = .ok (.istore 5, 2) := dq_h (dq_t (dq_t (dq_t (dq_t (dq_t (dq_t (dq_t (dq_t (dq_t (dq_t (dq_t (dq_t (dq_t (dq_t (dq_t dzL_law_1375)))))))))))))))
theorem dL_law_1396 : decode cL_law 1396 = .ok (.aload_n 2, 1) := dq_h (dq_t (dq_t (dq_t (dq_t (dq_t (dq_t (dq_t (dq_t (dq_t (dq_t (dq_t (dq_t (dq_t (dq_t (dq_t (dq_t dzL_law_1375))))))))))))))))
theorem dL_law_1397 : decode cL_law 1397 = .ok (.aload_n 0, 1) := dq_h (dq_t (dq_t (dq_t (dq_t (dq_t (dq_t (dq_t (dq_t (dq_t (dq_t (dq_t (dq_t (dq_t (dq_t (dq_t (dq_t (dq_t dzL_law_1375)))))))))))))))))
theorem dL_law_1398 : decode cL_law 1398 = .ok (.iload 4, 2) := dq_h (dq_t (dq_t (dq_t (dq_t (dq_t (dq_t (dq_t (dq_t (dq_t (dq_t (dq_t (dq_t (dq_t (dq_t (dq_t (dq_t (dq_t (dq_t dzL_law_1375))))))))))))))))))
theorem dL_law_1400 : decode cL_law 1400 = .ok (.iconst 1, 1) := dq_h (dq_t (dq_t (dq_t (dq_t (dq_t (dq_t (dq_t (dq_t (dq_t (dq_t (dq_t (dq_t (dq_t (dq_t (dq_t (dq_t (dq_t (dq_t (dq_t dzL_law_1375)))))))))))))))))))
theorem dL_law_1401 : decode cL_law 1401 = .ok (.iadd, 1) := dq_h (dq_t (dq_t (dq_t (dq_t (dq_t (dq_t (dq_t (dq_t (dq_t (dq_t (dq_t (dq_t (dq_t (dq_t (dq_t (dq_t (dq_t (dq_t (dq_t (dq_t dzL_law_1375))))))))))))))))))))
theorem dL_law_1402 : decode cL_law 1402 = .ok (.iaload, 1) := dq_h (dq_t (dq_t (dq_t (dq_t (dq_t (dq_t (dq_t (dq_t (dq_t (dq_t (dq_t (dq_t (dq_t (dq_t (dq_t (dq_t (dq_t (dq_t (dq_t (dq_t (dq_t dzL_law_1375)))))))))))))))))))))
theorem dL_law_1403 : decode cL_law 1403 = .ok (.aload_n 0, 1) := dq_h (dq_t (dq_t (dq_t (dq_t (dq_t (dq_t (dq_t (dq_t (dq_t (dq_t (dq_t (dq_t (dq_t (dq_t (dq_t (dq_t (dq_t (dq_t (dq_t (dq_t (dq_t (dq_t dzL_law_1375))))))))))))))))))))))
theorem dL_law_1404 : decode cL_law 1404 = .ok (.iload 4, 2) := dq_h (dq_t (dq_t (dq_t (dq_t (dq_t (dq_t (dq_t (dq_t (dq_t (dq_t (dq_t (dq_t (dq_t (dq_t (dq_t (dq_t (dq_t (dq_t (dq_t (dq_t (dq_t (dq_t (dq_t dzL_law_1375)))))))))))))))))))))))
theorem dzL_law_1406 : dq_F cL_law [(1406, .iconst 2, 1), (1407, .iadd, 1), (1408, .iaload, 1), (1409, .aload_n 0, 1), (1410, .iload 4, 2), (1412, .iconst 3, 1), (1413, .iadd, 1), (1414, .iaload, 1), (1415, .invokevirtual 229, 3), (1418, .istore 6, 2), (1420, .goto 79, 3), (1423, .aload_n 1, 1), (1424, .aload_n 0, 1), (1425, .iload 4, 2), (1427, .iconst 1, 1), (1428, .iadd, 1), (1429, .iaload, 1), (1430, .aload_n 0, 1), (1431, .iload 4, 2), (1433, .iconst 2, 1), (1434, .iadd, 1), (1435, .iaload, 1), (1436, .aload_n 0, 1), (1437, .iload 4, 2)] := dq_s 24 1406 (by decide +kernel)
theorem dL_law_1406 : decode cL_law 1406 = .ok (.iconst 2, 1) := dq_h dzL_law_1406
theorem dL_law_1407 : decode cL_law 1407 = .ok (.iadd, 1) := dq_h (dq_t dzL_law_1406)
theorem dL_law_1408 : decode cL_law 1408 = .ok (.iaload, 1) := dq_h (dq_t (dq_t dzL_law_1406))
theorem dL_law_1409 : decode cL_law 1409 = .ok (.aload_n 0, 1) := dq_h (dq_t (dq_t (dq_t dzL_law_1406)))
theorem dL_law_1410 : decode cL_law 1410 = .ok (.iload 4, 2) := dq_h (dq_t (dq_t (dq_t (dq_t dzL_law_1406))))
theorem dL_law_1412 : decode cL_law 1412 = .ok (.iconst 3, 1) := dq_h (dq_t (dq_t (dq_t (dq_t (dq_t dzL_law_1406)))))
theorem dL_law_1413 : decode cL_law 1413 = .ok (.iadd, 1) := dq_h (dq_t (dq_t (dq_t (dq_t (dq_t (dq_t dzL_law_1406))))))
theorem dL_law_1414 : decode cL_law 1414 = .ok (.iaload, 1) := dq_h (dq_t (dq_t (dq_t (dq_t (dq_t (dq_t (dq_t dzL_law_1406)))))))
theorem dL_law_1415 : decode cL_law 1415 = .ok (.invokevirtual 229, 3) := dq_h (dq_t (dq_t (dq_t (dq_t (dq_t (dq_t (dq_t (dq_t dzL_law_1406))))))))
theorem dL_law_1418 : decode cL_law 1418 = .ok (.istore 6, 2) := dq_h (dq_t (dq_t (dq_t (dq_t (dq_t (dq_t (dq_t (dq_t (dq_t dzL_law_1406)))))))))
theorem dL_law_1420 : decode cL_law 1420 = .ok (.goto 79, 3) := dq_h (dq_t (dq_t (dq_t (dq_t (dq_t (dq_t (dq_t (dq_t (dq_t (dq_t dzL_law_1406))))))))))
theorem dL_law_1423 : decode cL_law 1423 = .ok (.aload_n 1, 1) := dq_h (dq_t (dq_t (dq_t (dq_t (dq_t (dq_t (dq_t (dq_t (dq_t (dq_t (dq_t dzL_law_1406)))))))))))
theorem dL_law_1424 : decode cL_law 1424 = .ok (.aload_n 0, 1) := dq_h (dq_t (dq_t (dq_t (dq_t (dq_t (dq_t (dq_t (dq_t (dq_t (dq_t (dq_t (dq_t dzL_law_1406))))))))))))
theorem dL_law_1425 : decode cL_law 1425 = .ok (.iload 4, 2) := dq_h (dq_t (dq_t (dq_t (dq_t (dq_t (dq_t (dq_t (dq_t (dq_t (dq_t (dq_t (dq_t (dq_t dzL_law_1406)))))))))))))
theorem dL_law_1427 : decode cL_law 1427 = .ok (.iconst 1, 1) := dq_h (dq_t (dq_t (dq_t (dq_t (dq_t (dq_t (dq_t (dq_t (dq_t (dq_t (dq_t (dq_t (dq_t (dq_t dzL_law_1406))))))))))))))
theorem dL_law_1428 : decode cL_law 1428 = .ok (.iadd, 1) := dq_h (dq_t (dq_t (dq_t (dq_t (dq_t (dq_t (dq_t (dq_t (dq_t (dq_t (dq_t (dq_t (dq_t (dq_t (dq_t dzL_law_1406)))))))))))))))
theorem dL_law_1429 : decode cL_law 1429 = .ok (.iaload, 1) := dq_h (dq_t (dq_t (dq_t (dq_t (dq_t (dq_t (dq_t (dq_t (dq_t (dq_t (dq_t (dq_t (dq_t (dq_t (dq_t (dq_t dzL_law_1406))))))))))))))))
theorem dL_law_1430 : decode cL_law 1430 = .ok (.aload_n 0, 1) := dq_h (dq_t (dq_t (dq_t (dq_t (dq_t (dq_t (dq_t (dq_t (dq_t (dq_t (dq_t (dq_t (dq_t (dq_t (dq_t (dq_t (dq_t dzL_law_1406)))))))))))))))))
theorem dL_law_1431 : decode cL_law 1431 = .ok (.iload 4, 2) := dq_h (dq_t (dq_t (dq_t (dq_t (dq_t (dq_t (dq_t (dq_t (dq_t (dq_t (dq_t (dq_t (dq_t (dq_t (dq_t (dq_t (dq_t (dq_t dzL_law_1406))))))))))))))))))
theorem dL_law_1433 : decode cL_law 1433 = .ok (.iconst 2, 1) := dq_h (dq_t (dq_t (dq_t (dq_t (dq_t (dq_t (dq_t (dq_t (dq_t (dq_t (dq_t (dq_t (dq_t (dq_t (dq_t (dq_t (dq_t (dq_t (dq_t dzL_law_1406)))))))))))))))))))
theorem dL_law_1434 : decode cL_law 1434 = .ok (.iadd, 1) := dq_h (dq_t (dq_t (dq_t (dq_t (dq_t (dq_t (dq_t (dq_t (dq_t (dq_t (dq_t (dq_t (dq_t (dq_t (dq_t (dq_t (dq_t (dq_t (dq_t (dq_t dzL_law_1406))))))))))))))))))))
theorem dL_law_1435 : decode cL_law 1435 = .ok (.iaload, 1) := dq_h (dq_t (dq_t (dq_t (dq_t (dq_t (dq_t (dq_t (dq_t (dq_t (dq_t (dq_t (dq_t (dq_t (dq_t (dq_t (dq_t (dq_t (dq_t (dq_t (dq_t (dq_t dzL_law_1406)))))))))))))))))))))
theorem dL_law_1436 : decode cL_law 1436 = .ok (.aload_n 0, 1) := dq_h (dq_t (dq_t (dq_t (dq_t (dq_t (dq_t (dq_t (dq_t (dq_t (dq_t (dq_t (dq_t (dq_t (dq_t (dq_t (dq_t (dq_t (dq_t (dq_t (dq_t (dq_t (dq_t dzL_law_1406))))))))))))))))))))))
theorem dL_law_1437 : decode cL_law 1437 = .ok (.iload 4, 2) := dq_h (dq_t (dq_t (dq_t (dq_t (dq_t (dq_t (dq_t (dq_t (dq_t (dq_t (dq_t (dq_t (dq_t (dq_t (dq_t (dq_t (dq_t (dq_t (dq_t (dq_t (dq_t (dq_t (dq_t dzL_law_1406)))))))))))))))))))))))
theorem dzL_law_1439 : dq_F cL_law [(1439, .iconst 3, 1), (1440, .iadd, 1), (1441, .iaload, 1), (1442, .aload_n 3, 1), (1443, .invokestatic 230, 3), (1446, .istore 5, 2), (1448, .aload_n 2, 1), (1449, .aload_n 0, 1), (1450, .iload 4, 2), (1452, .iconst 1, 1), (1453, .iadd, 1), (1454, .iaload, 1), (1455, .aload_n 0, 1), (1456, .iload 4, 2), (1458, .iconst 2, 1), (1459, .iadd, 1), (1460, .iaload, 1), (1461, .aload_n 0, 1), (1462, .iload 4, 2), (1464, .iconst 3, 1), (1465, .iadd, 1), (1466, .iaload, 1), (1467, .invokevirtual 232, 3), (1470, .istore 6, 2)] := dq_s 24 1439 (by decide +kernel)
theorem dL_law_1439 : decode cL_law 1439 = .ok (.iconst 3, 1) := dq_h dzL_law_1439
theorem dL_law_1440 : decode cL_law 1440 = .ok (.iadd, 1) := dq_h (dq_t dzL_law_1439)
theorem dL_law_1441 : decode cL_law 1441 = .ok (.iaload, 1) := dq_h (dq_t (dq_t dzL_law_1439))
theorem dL_law_1442 : decode cL_law 1442 = .ok (.aload_n 3, 1) := dq_h (dq_t (dq_t (dq_t dzL_law_1439)))
theorem dL_law_1443 : decode cL_law 1443 = .ok (.invokestatic 230, 3) := dq_h (dq_t (dq_t (dq_t (dq_t dzL_law_1439))))
theorem dL_law_1446 : decode cL_law 1446 = .ok (.istore 5, 2) := dq_h (dq_t (dq_t (dq_t (dq_t (dq_t dzL_law_1439)))))
theorem dL_law_1448 : decode cL_law 1448 = .ok (.aload_n 2, 1) := dq_h (dq_t (dq_t (dq_t (dq_t (dq_t (dq_t dzL_law_1439))))))
theorem dL_law_1449 : decode cL_law 1449 = .ok (.aload_n 0, 1) := dq_h (dq_t (dq_t (dq_t (dq_t (dq_t (dq_t (dq_t dzL_law_1439)))))))
theorem dL_law_1450 : decode cL_law 1450 = .ok (.iload 4, 2) := dq_h (dq_t (dq_t (dq_t (dq_t (dq_t (dq_t (dq_t (dq_t dzL_law_1439))))))))
theorem dL_law_1452 : decode cL_law 1452 = .ok (.iconst 1, 1) := dq_h (dq_t (dq_t (dq_t (dq_t (dq_t (dq_t (dq_t (dq_t (dq_t dzL_law_1439)))))))))
theorem dL_law_1453 : decode cL_law 1453 = .ok (.iadd, 1) := dq_h (dq_t (dq_t (dq_t (dq_t (dq_t (dq_t (dq_t (dq_t (dq_t (dq_t dzL_law_1439))))))))))
theorem dL_law_1454 : decode cL_law 1454 = .ok (.iaload, 1) := dq_h (dq_t (dq_t (dq_t (dq_t (dq_t (dq_t (dq_t (dq_t (dq_t (dq_t (dq_t dzL_law_1439)))))))))))
theorem dL_law_1455 : decode cL_law 1455 = .ok (.aload_n 0, 1) := dq_h (dq_t (dq_t (dq_t (dq_t (dq_t (dq_t (dq_t (dq_t (dq_t (dq_t (dq_t (dq_t dzL_law_1439))))))))))))
theorem dL_law_1456 : decode cL_law 1456 = .ok (.iload 4, 2) := dq_h (dq_t (dq_t (dq_t (dq_t (dq_t (dq_t (dq_t (dq_t (dq_t (dq_t (dq_t (dq_t (dq_t dzL_law_1439)))))))))))))
theorem dL_law_1458 : decode cL_law 1458 = .ok (.iconst 2, 1) := dq_h (dq_t (dq_t (dq_t (dq_t (dq_t (dq_t (dq_t (dq_t (dq_t (dq_t (dq_t (dq_t (dq_t (dq_t dzL_law_1439))))))))))))))
theorem dL_law_1459 : decode cL_law 1459 = .ok (.iadd, 1) := dq_h (dq_t (dq_t (dq_t (dq_t (dq_t (dq_t (dq_t (dq_t (dq_t (dq_t (dq_t (dq_t (dq_t (dq_t (dq_t dzL_law_1439)))))))))))))))
theorem dL_law_1460 : decode cL_law 1460 = .ok (.iaload, 1) := dq_h (dq_t (dq_t (dq_t (dq_t (dq_t (dq_t (dq_t (dq_t (dq_t (dq_t (dq_t (dq_t (dq_t (dq_t (dq_t (dq_t dzL_law_1439))))))))))))))))
theorem dL_law_1461 : decode cL_law 1461 = .ok (.aload_n 0, 1) := dq_h (dq_t (dq_t (dq_t (dq_t (dq_t (dq_t (dq_t (dq_t (dq_t (dq_t (dq_t (dq_t (dq_t (dq_t (dq_t (dq_t (dq_t dzL_law_1439)))))))))))))))))
theorem dL_law_1462 : decode cL_law 1462 = .ok (.iload 4, 2) := dq_h (dq_t (dq_t (dq_t (dq_t (dq_t (dq_t (dq_t (dq_t (dq_t (dq_t (dq_t (dq_t (dq_t (dq_t (dq_t (dq_t (dq_t (dq_t dzL_law_1439))))))))))))))))))
theorem dL_law_1464 : decode cL_law 1464 = .ok (.iconst 3, 1) := dq_h (dq_t (dq_t (dq_t (dq_t (dq_t (dq_t (dq_t (dq_t (dq_t (dq_t (dq_t (dq_t (dq_t (dq_t (dq_t (dq_t (dq_t (dq_t (dq_t dzL_law_1439)))))))))))))))))))
theorem dL_law_1465 : decode cL_law 1465 = .ok (.iadd, 1) := dq_h (dq_t (dq_t (dq_t (dq_t (dq_t (dq_t (dq_t (dq_t (dq_t (dq_t (dq_t (dq_t (dq_t (dq_t (dq_t (dq_t (dq_t (dq_t (dq_t (dq_t dzL_law_1439))))))))))))))))))))
theorem dL_law_1466 : decode cL_law 1466 = .ok (.iaload, 1) := dq_h (dq_t (dq_t (dq_t (dq_t (dq_t (dq_t (dq_t (dq_t (dq_t (dq_t (dq_t (dq_t (dq_t (dq_t (dq_t (dq_t (dq_t (dq_t (dq_t (dq_t (dq_t dzL_law_1439)))))))))))))))))))))
theorem dL_law_1467 : decode cL_law 1467 = .ok (.invokevirtual 232, 3) := dq_h (dq_t (dq_t (dq_t (dq_t (dq_t (dq_t (dq_t (dq_t (dq_t (dq_t (dq_t (dq_t (dq_t (dq_t (dq_t (dq_t (dq_t (dq_t (dq_t (dq_t (dq_t (dq_t dzL_law_1439))))))))))))))))))))))
theorem dL_law_1470 : decode cL_law 1470 = .ok (.istore 6, 2) := dq_h (dq_t (dq_t (dq_t (dq_t (dq_t (dq_t (dq_t (dq_t (dq_t (dq_t (dq_t (dq_t (dq_t (dq_t (dq_t (dq_t (dq_t (dq_t (dq_t (dq_t (dq_t (dq_t (dq_t dzL_law_1439)))))))))))))))))))))))
theorem dzL_law_1472 : dq_F cL_law [(1472, .goto 27, 3), (1475, .aload_n 1, 1), (1476, .invokevirtual 233, 3), (1479, .aload_n 2, 1), (1480, .invokevirtual 236, 3), (1483, .goto 16, 3), (1486, .aload_n 1, 1), (1487, .invokevirtual 237, 3), (1490, .pop, 1), (1491, .aload_n 2, 1), (1492, .invokevirtual 241, 3), (1495, .pop, 1), (1496, .goto 3, 3), (1499, .iinc 4 6, 3), (1502, .goto (-1479), 3), (1505, .iconst 1, 1), (1506, .ireturn, 1)] := dq_s 17 1472 (by decide +kernel)
theorem dL_law_1472 : decode cL_law 1472 = .ok (.goto 27, 3) := dq_h dzL_law_1472
theorem dL_law_1475 : decode cL_law 1475 = .ok (.aload_n 1, 1) := dq_h (dq_t dzL_law_1472)
theorem dL_law_1476 : decode cL_law 1476 = .ok (.invokevirtual 233, 3) := dq_h (dq_t (dq_t dzL_law_1472))
theorem dL_law_1479 : decode cL_law 1479 = .ok (.aload_n 2, 1) := dq_h (dq_t (dq_t (dq_t dzL_law_1472)))
theorem dL_law_1480 : decode cL_law 1480 = .ok (.invokevirtual 236, 3) := dq_h (dq_t (dq_t (dq_t (dq_t dzL_law_1472))))
theorem dL_law_1483 : decode cL_law 1483 = .ok (.goto 16, 3) := dq_h (dq_t (dq_t (dq_t (dq_t (dq_t dzL_law_1472)))))
theorem dL_law_1486 : decode cL_law 1486 = .ok (.aload_n 1, 1) := dq_h (dq_t (dq_t (dq_t (dq_t (dq_t (dq_t dzL_law_1472))))))
theorem dL_law_1487 : decode cL_law 1487 = .ok (.invokevirtual 237, 3) := dq_h (dq_t (dq_t (dq_t (dq_t (dq_t (dq_t (dq_t dzL_law_1472)))))))
theorem dL_law_1490 : decode cL_law 1490 = .ok (.pop, 1) := dq_h (dq_t (dq_t (dq_t (dq_t (dq_t (dq_t (dq_t (dq_t dzL_law_1472))))))))
theorem dL_law_1491 : decode cL_law 1491 = .ok (.aload_n 2, 1) := dq_h (dq_t (dq_t (dq_t (dq_t (dq_t (dq_t (dq_t (dq_t (dq_t dzL_law_1472)))))))))
theorem dL_law_1492 : decode cL_law 1492 = .ok (.invokevirtual 241, 3) := dq_h (dq_t (dq_t (dq_t (dq_t (dq_t (dq_t (dq_t (dq_t (dq_t (dq_t dzL_law_1472))))))))))
theorem dL_law_1495 : decode cL_law 1495 = .ok (.pop, 1) := dq_h (dq_t (dq_t (dq_t (dq_t (dq_t (dq_t (dq_t (dq_t (dq_t (dq_t (dq_t dzL_law_1472)))))))))))
theorem dL_law_1496 : decode cL_law 1496 = .ok (.goto 3, 3) := dq_h (dq_t (dq_t (dq_t (dq_t (dq_t (dq_t (dq_t (dq_t (dq_t (dq_t (dq_t (dq_t dzL_law_1472))))))))))))
theorem dL_law_1499 : decode cL_law 1499 = .ok (.iinc 4 6, 3) := dq_h (dq_t (dq_t (dq_t (dq_t (dq_t (dq_t (dq_t (dq_t (dq_t (dq_t (dq_t (dq_t (dq_t dzL_law_1472)))))))))))))
theorem dL_law_1502 : decode cL_law 1502 = .ok (.goto (-1479), 3) := dq_h (dq_t (dq_t (dq_t (dq_t (dq_t (dq_t (dq_t (dq_t (dq_t (dq_t (dq_t (dq_t (dq_t (dq_t dzL_law_1472))))))))))))))
theorem dL_law_1505 : decode cL_law 1505 = .ok (.iconst 1, 1) := dq_h (dq_t (dq_t (dq_t (dq_t (dq_t (dq_t (dq_t (dq_t (dq_t (dq_t (dq_t (dq_t (dq_t (dq_t (dq_t dzL_law_1472)))))))))))))))
theorem dL_law_1506 : decode cL_law 1506 = .ok (.ireturn, 1) := dq_h (dq_t (dq_t (dq_t (dq_t (dq_t (dq_t (dq_t (dq_t (dq_t (dq_t (dq_t (dq_t (dq_t (dq_t (dq_t (dq_t dzL_law_1472))))))))))))))))
end

/-! part 20.dst -/
section
/-! the law's static methods (printed by wip/whole/mklaw.py) -/
theorem kL_port {l : Launch} {D : va_G} {g : Nat → Nat} {cI cB cZ cQ cJ : ClassId} {aO : Nat} {Am : (Nat → Prop) → State → Heap → Prop} {aK aV : Nat → Nat} (O : tO l g cI cB cZ cQ Am aK aV) (P : gAm Am) (hg : ∀ k, k ∈ xord → g k ≠ aO) (N : Nat) (x1 : Int32) (S : gS) (f : Nat → Int64) (o : tR) (hF : fX11_port N x1 S = some o) (ho : o.1 = 0 ∨ o.1 = 2) : lM l yL_port cL_port 4 [(0, 9, 12, 13)] 73 1 D g cI cB cZ cQ cJ aO Am [.ref (g 0), .int x1, .ref aO] S f (lcA o.1) o.2.2 (lrow f o) := by
  refine lM_of P (by decide) rfl hg (Nat.le_of_ble_eq_true rfl) ?_
  intro p e s m args below meth c ls C hP hl
  refine lv_aload_n C.1.1.1 C.1.1.2.1 dL_port_0 rfl (lv_at hl 2 rfl) ?_
  refine lv_iconst C.1.1.1 C.1.1.2.1 dL_port_1 rfl ?_
  refine lv_aload_n C.1.1.1 C.1.1.2.1 dL_port_2 rfl (lv_at hl 0 rfl) ?_
  refine lv_iload_n C.1.1.1 C.1.1.2.1 dL_port_3 rfl (lv_at hl 1 rfl) ?_
  refine l_call hg hP (t_preV C.1 ⟨hP.1, va_S.rf⟩ xv_L_7 (ci := 11) rfl rfl (gw_get (q := 0) (k := 0) rfl (x_c11 g cI cB cZ cQ S (k := 0) rfl)) (kX11_port O P N x1 S o hF) (Nat.le_of_ble_eq_true rfl) (Nat.le_of_ble_eq_true rfl) (Nat.le_of_ble_eq_true rfl) (Nat.le_of_ble_eq_true rfl) rfl hl.1 rfl (Nat.le_of_ble_eq_true rfl) dL_port_4) (fun h0 H1 locs1 hP1 hS1 => ?_) (fun h0 q ce H1 locs1 hP1 hS1 hc hv hcl => ?_)
  · rw [show lcA o.1 = 0 from if_pos h0, show lrow f o = _ from if_pos h0]
    refine lv_i2l C.1.1.1 C.1.1.2.1 dL_port_7 rfl ?_
    refine l_lay O.1.1.1 C hP1 hS1 dL_port_8 (fun H1 locs1 hP1 hS1 => ?_)
    refine lv_goto (tgt := 15) C.1.1.1 C.1.1.2.1 dL_port_9 (by decide) ?_
    refine lv_iconst C.1.1.1 C.1.1.2.1 dL_port_15 rfl ?_
    exact l_ret C hP1 hS1 (Nat.le_of_ble_eq_true rfl) (Nat.le_of_ble_eq_true rfl) dL_port_16
  · have h1 : o.1 = 2 := ho.resolve_left h0
    rw [show lcA o.1 = 1 from if_neg h0, show lrow f o = _ from if_neg h0]
    rewrite [h1] at hcl
    refine l_catchA C O lx_13 (Or.inr rfl) (by decide) (fun x hx => by cases hx; decide) hc hv hcl ?_
    refine lv_astore_n C.1.1.1 C.1.1.2.1 dL_port_12 rfl hl (by decide) rfl (fun ls9 hl9 => ?_)
    refine lv_iconst C.1.1.1 C.1.1.2.1 dL_port_13 rfl ?_
    exact l_ret C hP1 hS1 (Nat.le_of_ble_eq_true rfl) (Nat.le_of_ble_eq_true rfl) dL_port_14
theorem kL_count {l : Launch} {D : va_G} {g : Nat → Nat} {cI cB cZ cQ cJ : ClassId} {aO : Nat} {Am : (Nat → Prop) → State → Heap → Prop} {aK aV : Nat → Nat} (O : tO l g cI cB cZ cQ Am aK aV) (P : gAm Am) (hg : ∀ k, k ∈ xord → g k ≠ aO) (N : Nat) (x1 : Int32) (S : gS) (f : Nat → Int64) (o : tR) (hF : fX11_count N x1 S = some o) (ho : o.1 = 0 ∨ o.1 = 1) : lM l yL_count cL_count 4 [(0, 9, 12, 18)] 7 1 D g cI cB cZ cQ cJ aO Am [.ref (g 0), .int x1, .ref aO] S f (lcA o.1) o.2.2 (lrow f o) := by
  refine lM_of P (by decide) rfl hg (Nat.le_of_ble_eq_true rfl) ?_
  intro p e s m args below meth c ls C hP hl
  refine lv_aload_n C.1.1.1 C.1.1.2.1 dL_count_0 rfl (lv_at hl 2 rfl) ?_
  refine lv_iconst C.1.1.1 C.1.1.2.1 dL_count_1 rfl ?_
  refine lv_aload_n C.1.1.1 C.1.1.2.1 dL_count_2 rfl (lv_at hl 0 rfl) ?_
  refine lv_iload_n C.1.1.1 C.1.1.2.1 dL_count_3 rfl (lv_at hl 1 rfl) ?_
  refine l_call hg hP (t_preV C.1 ⟨hP.1, va_S.rf⟩ xv_L_15 (ci := 11) rfl rfl (gw_get (q := 0) (k := 0) rfl (x_c11 g cI cB cZ cQ S (k := 0) rfl)) (kX11_count O P N x1 S o hF) (Nat.le_of_ble_eq_true rfl) (Nat.le_of_ble_eq_true rfl) (Nat.le_of_ble_eq_true rfl) (Nat.le_of_ble_eq_true rfl) rfl hl.1 rfl (Nat.le_of_ble_eq_true rfl) dL_count_4) (fun h0 H1 locs1 hP1 hS1 => ?_) (fun h0 q ce H1 locs1 hP1 hS1 hc hv hcl => ?_)
  · rw [show lcA o.1 = 0 from if_pos h0, show lrow f o = _ from if_pos h0]
    refine lv_i2l C.1.1.1 C.1.1.2.1 dL_count_7 rfl ?_
    refine l_lay O.1.1.1 C hP1 hS1 dL_count_8 (fun H1 locs1 hP1 hS1 => ?_)
    refine lv_goto (tgt := 15) C.1.1.1 C.1.1.2.1 dL_count_9 (by decide) ?_
    refine lv_iconst C.1.1.1 C.1.1.2.1 dL_count_15 rfl ?_
    exact l_ret C hP1 hS1 (Nat.le_of_ble_eq_true rfl) (Nat.le_of_ble_eq_true rfl) dL_count_16
  · have h1 : o.1 = 1 := ho.resolve_left h0
    rw [show lcA o.1 = 1 from if_neg h0, show lrow f o = _ from if_neg h0]
    rewrite [h1] at hcl
    refine l_catchA C O lx_18 (Or.inl rfl) (by decide) (fun x hx => by cases hx; decide) hc hv hcl ?_
    refine lv_astore_n C.1.1.1 C.1.1.2.1 dL_count_12 rfl hl (by decide) rfl (fun ls9 hl9 => ?_)
    refine lv_iconst C.1.1.1 C.1.1.2.1 dL_count_13 rfl ?_
    exact l_ret C hP1 hS1 (Nat.le_of_ble_eq_true rfl) (Nat.le_of_ble_eq_true rfl) dL_count_14
theorem kL_grotto {l : Launch} {D : va_G} {g : Nat → Nat} {cI cB cZ cQ cJ : ClassId} {aO : Nat} {Am : (Nat → Prop) → State → Heap → Prop} {aK aV : Nat → Nat} (O : tO l g cI cB cZ cQ Am aK aV) (P : gAm Am) (hg : ∀ k, k ∈ xord → g k ≠ aO) (N : Nat) (x1 : Int32) (x2 : Int32) (S : gS) (f : Nat → Int64) (o : tR) (hF : fX11_grotto N x1 x2 S = some o) (ho : o.1 = 0 ∨ o.1 = 1) : lM l yL_grotto cL_grotto 5 [(0, 10, 13, 18)] 8 2 D g cI cB cZ cQ cJ aO Am [.ref (g 0), .int x1, .int x2, .ref aO] S f (lcA o.1) o.2.2 (lrow f o) := by
  refine lM_of P (by decide) rfl hg (Nat.le_of_ble_eq_true rfl) ?_
  intro p e s m args below meth c ls C hP hl
  refine lv_aload_n C.1.1.1 C.1.1.2.1 dL_grotto_0 rfl (lv_at hl 3 rfl) ?_
  refine lv_iconst C.1.1.1 C.1.1.2.1 dL_grotto_1 rfl ?_
  refine lv_aload_n C.1.1.1 C.1.1.2.1 dL_grotto_2 rfl (lv_at hl 0 rfl) ?_
  refine lv_iload_n C.1.1.1 C.1.1.2.1 dL_grotto_3 rfl (lv_at hl 1 rfl) ?_
  refine lv_iload_n C.1.1.1 C.1.1.2.1 dL_grotto_4 rfl (lv_at hl 2 rfl) ?_
  refine l_call hg hP (t_preV C.1 ⟨hP.1, va_S.rf⟩ xv_L_20 (ci := 11) rfl rfl (gw_get (q := 0) (k := 0) rfl (x_c11 g cI cB cZ cQ S (k := 0) rfl)) (kX11_grotto O P N x1 x2 S o hF) (Nat.le_of_ble_eq_true rfl) (Nat.le_of_ble_eq_true rfl) (Nat.le_of_ble_eq_true rfl) (Nat.le_of_ble_eq_true rfl) rfl hl.1 rfl (Nat.le_of_ble_eq_true rfl) dL_grotto_5) (fun h0 H1 locs1 hP1 hS1 => ?_) (fun h0 q ce H1 locs1 hP1 hS1 hc hv hcl => ?_)
  · rw [show lcA o.1 = 0 from if_pos h0, show lrow f o = _ from if_pos h0]
    refine lv_i2l C.1.1.1 C.1.1.2.1 dL_grotto_8 rfl ?_
    refine l_lay O.1.1.1 C hP1 hS1 dL_grotto_9 (fun H1 locs1 hP1 hS1 => ?_)
    refine lv_goto (tgt := 17) C.1.1.1 C.1.1.2.1 dL_grotto_10 (by decide) ?_
    refine lv_iconst C.1.1.1 C.1.1.2.1 dL_grotto_17 rfl ?_
    exact l_ret C hP1 hS1 (Nat.le_of_ble_eq_true rfl) (Nat.le_of_ble_eq_true rfl) dL_grotto_18
  · have h1 : o.1 = 1 := ho.resolve_left h0
    rw [show lcA o.1 = 1 from if_neg h0, show lrow f o = _ from if_neg h0]
    rewrite [h1] at hcl
    refine l_catchA C O lx_18 (Or.inl rfl) (by decide) (fun x hx => by cases hx; decide) hc hv hcl ?_
    refine lv_astore C.1.1.1 C.1.1.2.1 dL_grotto_13 hl (by decide) rfl (fun ls9 hl9 => ?_)
    refine lv_iconst C.1.1.1 C.1.1.2.1 dL_grotto_15 rfl ?_
    exact l_ret C hP1 hS1 (Nat.le_of_ble_eq_true rfl) (Nat.le_of_ble_eq_true rfl) dL_grotto_16
theorem kL_guild {l : Launch} {D : va_G} {g : Nat → Nat} {cI cB cZ cQ cJ : ClassId} {aO : Nat} {Am : (Nat → Prop) → State → Heap → Prop} {aK aV : Nat → Nat} (O : tO l g cI cB cZ cQ Am aK aV) (P : gAm Am) (hg : ∀ k, k ∈ xord → g k ≠ aO) (N : Nat) (x1 : Int32) (x2 : Int32) (S : gS) (f : Nat → Int64) (o : tR) (hF : fX11_guild N x1 x2 S = some o) (ho : o.1 = 0 ∨ o.1 = 1) : lM l yL_guild cL_guild 5 [(0, 10, 13, 18)] 8 2 D g cI cB cZ cQ cJ aO Am [.ref (g 0), .int x1, .int x2, .ref aO] S f (lcA o.1) o.2.2 (lrow f o) := by
  refine lM_of P (by decide) rfl hg (Nat.le_of_ble_eq_true rfl) ?_
  intro p e s m args below meth c ls C hP hl
  refine lv_aload_n C.1.1.1 C.1.1.2.1 dL_guild_0 rfl (lv_at hl 3 rfl) ?_
  refine lv_iconst C.1.1.1 C.1.1.2.1 dL_guild_1 rfl ?_
  refine lv_aload_n C.1.1.1 C.1.1.2.1 dL_guild_2 rfl (lv_at hl 0 rfl) ?_
  refine lv_iload_n C.1.1.1 C.1.1.2.1 dL_guild_3 rfl (lv_at hl 1 rfl) ?_
  refine lv_iload_n C.1.1.1 C.1.1.2.1 dL_guild_4 rfl (lv_at hl 2 rfl) ?_
  refine l_call hg hP (t_preV C.1 ⟨hP.1, va_S.rf⟩ xv_L_24 (ci := 11) rfl rfl (gw_get (q := 0) (k := 0) rfl (x_c11 g cI cB cZ cQ S (k := 0) rfl)) (kX11_guild O P N x1 x2 S o hF) (Nat.le_of_ble_eq_true rfl) (Nat.le_of_ble_eq_true rfl) (Nat.le_of_ble_eq_true rfl) (Nat.le_of_ble_eq_true rfl) rfl hl.1 rfl (Nat.le_of_ble_eq_true rfl) dL_guild_5) (fun h0 H1 locs1 hP1 hS1 => ?_) (fun h0 q ce H1 locs1 hP1 hS1 hc hv hcl => ?_)
  · rw [show lcA o.1 = 0 from if_pos h0, show lrow f o = _ from if_pos h0]
    refine lv_i2l C.1.1.1 C.1.1.2.1 dL_guild_8 rfl ?_
    refine l_lay O.1.1.1 C hP1 hS1 dL_guild_9 (fun H1 locs1 hP1 hS1 => ?_)
    refine lv_goto (tgt := 17) C.1.1.1 C.1.1.2.1 dL_guild_10 (by decide) ?_
    refine lv_iconst C.1.1.1 C.1.1.2.1 dL_guild_17 rfl ?_
    exact l_ret C hP1 hS1 (Nat.le_of_ble_eq_true rfl) (Nat.le_of_ble_eq_true rfl) dL_guild_18
  · have h1 : o.1 = 1 := ho.resolve_left h0
    rw [show lcA o.1 = 1 from if_neg h0, show lrow f o = _ from if_neg h0]
    rewrite [h1] at hcl
    refine l_catchA C O lx_18 (Or.inl rfl) (by decide) (fun x hx => by cases hx; decide) hc hv hcl ?_
    refine lv_astore C.1.1.1 C.1.1.2.1 dL_guild_13 hl (by decide) rfl (fun ls9 hl9 => ?_)
    refine lv_iconst C.1.1.1 C.1.1.2.1 dL_guild_15 rfl ?_
    exact l_ret C hP1 hS1 (Nat.le_of_ble_eq_true rfl) (Nat.le_of_ble_eq_true rfl) dL_guild_16
theorem kL_hire {l : Launch} {D : va_G} {g : Nat → Nat} {cI cB cZ cQ cJ : ClassId} {aO : Nat} {Am : (Nat → Prop) → State → Heap → Prop} {aK aV : Nat → Nat} (O : tO l g cI cB cZ cQ Am aK aV) (P : gAm Am) (hg : ∀ k, k ∈ xord → g k ≠ aO) (N : Nat) (x1 : Int32) (x2 : Int32) (S : gS) (f : Nat → Int64) (o : tR) (hF : fX11_hire N x1 x2 S = some o) (ho : o.1 = 0 ∨ o.1 = 1) : lM l yL_hire cL_hire 5 [(0, 17, 20, 18)] 8 2 D g cI cB cZ cQ cJ aO Am [.ref (g 0), .int x1, .int x2, .ref aO] S f (lcA o.1) o.2.2 (lrowZ f o) := by
  refine lM_of P (by decide) rfl hg (Nat.le_of_ble_eq_true rfl) ?_
  intro p e s m args below meth c ls C hP hl
  refine lv_aload_n C.1.1.1 C.1.1.2.1 dL_hire_0 rfl (lv_at hl 3 rfl) ?_
  refine lv_iconst C.1.1.1 C.1.1.2.1 dL_hire_1 rfl ?_
  refine lv_aload_n C.1.1.1 C.1.1.2.1 dL_hire_2 rfl (lv_at hl 0 rfl) ?_
  refine lv_iload_n C.1.1.1 C.1.1.2.1 dL_hire_3 rfl (lv_at hl 1 rfl) ?_
  refine lv_iload_n C.1.1.1 C.1.1.2.1 dL_hire_4 rfl (lv_at hl 2 rfl) ?_
  refine l_call hg hP (t_preV C.1 ⟨hP.1, va_S.rf⟩ xv_L_27 (ci := 11) rfl rfl (gw_get (q := 0) (k := 0) rfl (x_c11 g cI cB cZ cQ S (k := 0) rfl)) (kX11_hire O P N x1 x2 S o hF) (Nat.le_of_ble_eq_true rfl) (Nat.le_of_ble_eq_true rfl) (Nat.le_of_ble_eq_true rfl) (Nat.le_of_ble_eq_true rfl) rfl hl.1 rfl (Nat.le_of_ble_eq_true rfl) dL_hire_5) (fun h0 H1 locs1 hP1 hS1 => ?_) (fun h0 q ce H1 locs1 hP1 hS1 hc hv hcl => ?_)
  · rw [show lcA o.1 = 0 from if_pos h0, show lrowZ f o = _ from if_pos h0]
    refine lv_if_eq (tgt := 15) C.1.1.1 C.1.1.2.1 dL_hire_8 (by decide) (fun h_z => ?_) (fun h_z => ?_)
    · rw [if_pos h_z]
      refine lv_lconst C.1.1.1 C.1.1.2.1 dL_hire_15 rfl ?_
      refine l_lay O.1.1.1 C hP1 hS1 dL_hire_16 (fun H1 locs1 hP1 hS1 => ?_)
      refine lv_goto (tgt := 24) C.1.1.1 C.1.1.2.1 dL_hire_17 (by decide) ?_
      refine lv_iconst C.1.1.1 C.1.1.2.1 dL_hire_24 rfl ?_
      exact l_ret C hP1 hS1 (Nat.le_of_ble_eq_true rfl) (Nat.le_of_ble_eq_true rfl) dL_hire_25
    · rw [if_neg h_z]
      refine lv_lconst C.1.1.1 C.1.1.2.1 dL_hire_11 rfl ?_
      refine lv_goto (tgt := 16) C.1.1.1 C.1.1.2.1 dL_hire_12 (by decide) ?_
      refine l_lay O.1.1.1 C hP1 hS1 dL_hire_16 (fun H1 locs1 hP1 hS1 => ?_)
      refine lv_goto (tgt := 24) C.1.1.1 C.1.1.2.1 dL_hire_17 (by decide) ?_
      refine lv_iconst C.1.1.1 C.1.1.2.1 dL_hire_24 rfl ?_
      exact l_ret C hP1 hS1 (Nat.le_of_ble_eq_true rfl) (Nat.le_of_ble_eq_true rfl) dL_hire_25
  · have h1 : o.1 = 1 := ho.resolve_left h0
    rw [show lcA o.1 = 1 from if_neg h0, show lrowZ f o = _ from if_neg h0]
    rewrite [h1] at hcl
    refine l_catchA C O lx_18 (Or.inl rfl) (by decide) (fun x hx => by cases hx; decide) hc hv hcl ?_
    refine lv_astore C.1.1.1 C.1.1.2.1 dL_hire_20 hl (by decide) rfl (fun ls9 hl9 => ?_)
    refine lv_iconst C.1.1.1 C.1.1.2.1 dL_hire_22 rfl ?_
    exact l_ret C hP1 hS1 (Nat.le_of_ble_eq_true rfl) (Nat.le_of_ble_eq_true rfl) dL_hire_23
theorem kL_dismiss {l : Launch} {D : va_G} {g : Nat → Nat} {cI cB cZ cQ cJ : ClassId} {aO : Nat} {Am : (Nat → Prop) → State → Heap → Prop} {aK aV : Nat → Nat} (O : tO l g cI cB cZ cQ Am aK aV) (P : gAm Am) (hg : ∀ k, k ∈ xord → g k ≠ aO) (N : Nat) (x1 : Int32) (S : gS) (f : Nat → Int64) (o : tR) (hF : fX11_dismiss N x1 S = some o) (ho : o.1 = 0 ∨ o.1 = 1) : lM l yL_dismiss cL_dismiss 4 [(0, 9, 12, 18)] 8 1 D g cI cB cZ cQ cJ aO Am [.ref (g 0), .int x1, .ref aO] S f (lcA o.1) o.2.2 (lrow f o) := by
  refine lM_of P (by decide) rfl hg (Nat.le_of_ble_eq_true rfl) ?_
  intro p e s m args below meth c ls C hP hl
  refine lv_aload_n C.1.1.1 C.1.1.2.1 dL_dismiss_0 rfl (lv_at hl 2 rfl) ?_
  refine lv_iconst C.1.1.1 C.1.1.2.1 dL_dismiss_1 rfl ?_
  refine lv_aload_n C.1.1.1 C.1.1.2.1 dL_dismiss_2 rfl (lv_at hl 0 rfl) ?_
  refine lv_iload_n C.1.1.1 C.1.1.2.1 dL_dismiss_3 rfl (lv_at hl 1 rfl) ?_
  refine l_call hg hP (t_preV C.1 ⟨hP.1, va_S.rf⟩ xv_L_31 (ci := 11) rfl rfl (gw_get (q := 0) (k := 0) rfl (x_c11 g cI cB cZ cQ S (k := 0) rfl)) (kX11_dismiss O P N x1 S o hF) (Nat.le_of_ble_eq_true rfl) (Nat.le_of_ble_eq_true rfl) (Nat.le_of_ble_eq_true rfl) (Nat.le_of_ble_eq_true rfl) rfl hl.1 rfl (Nat.le_of_ble_eq_true rfl) dL_dismiss_4) (fun h0 H1 locs1 hP1 hS1 => ?_) (fun h0 q ce H1 locs1 hP1 hS1 hc hv hcl => ?_)
  · rw [show lcA o.1 = 0 from if_pos h0, show lrow f o = _ from if_pos h0]
    refine lv_i2l C.1.1.1 C.1.1.2.1 dL_dismiss_7 rfl ?_
    refine l_lay O.1.1.1 C hP1 hS1 dL_dismiss_8 (fun H1 locs1 hP1 hS1 => ?_)
    refine lv_goto (tgt := 15) C.1.1.1 C.1.1.2.1 dL_dismiss_9 (by decide) ?_
    refine lv_iconst C.1.1.1 C.1.1.2.1 dL_dismiss_15 rfl ?_
    exact l_ret C hP1 hS1 (Nat.le_of_ble_eq_true rfl) (Nat.le_of_ble_eq_true rfl) dL_dismiss_16
  · have h1 : o.1 = 1 := ho.resolve_left h0
    rw [show lcA o.1 = 1 from if_neg h0, show lrow f o = _ from if_neg h0]
    rewrite [h1] at hcl
    refine l_catchA C O lx_18 (Or.inl rfl) (by decide) (fun x hx => by cases hx; decide) hc hv hcl ?_
    refine lv_astore_n C.1.1.1 C.1.1.2.1 dL_dismiss_12 rfl hl (by decide) rfl (fun ls9 hl9 => ?_)
    refine lv_iconst C.1.1.1 C.1.1.2.1 dL_dismiss_13 rfl ?_
    exact l_ret C hP1 hS1 (Nat.le_of_ble_eq_true rfl) (Nat.le_of_ble_eq_true rfl) dL_dismiss_14
theorem kL_confess {l : Launch} {D : va_G} {g : Nat → Nat} {cI cB cZ cQ cJ : ClassId} {aO : Nat} {Am : (Nat → Prop) → State → Heap → Prop} {aK aV : Nat → Nat} (O : tO l g cI cB cZ cQ Am aK aV) (P : gAm Am) (hg : ∀ k, k ∈ xord → g k ≠ aO) (N : Nat) (x1 : Int32) (S : gS) (f : Nat → Int64) (o : tR) (hF : fX11_confess N x1 S = some o) (ho : o.1 = 0 ∨ o.1 = 1) : lM l yL_confess cL_confess 4 [(0, 9, 12, 18)] 8 1 D g cI cB cZ cQ cJ aO Am [.ref (g 0), .int x1, .ref aO] S f (lcA o.1) o.2.2 (lrow f o) := by
  refine lM_of P (by decide) rfl hg (Nat.le_of_ble_eq_true rfl) ?_
  intro p e s m args below meth c ls C hP hl
  refine lv_aload_n C.1.1.1 C.1.1.2.1 dL_confess_0 rfl (lv_at hl 2 rfl) ?_
  refine lv_iconst C.1.1.1 C.1.1.2.1 dL_confess_1 rfl ?_
  refine lv_aload_n C.1.1.1 C.1.1.2.1 dL_confess_2 rfl (lv_at hl 0 rfl) ?_
  refine lv_iload_n C.1.1.1 C.1.1.2.1 dL_confess_3 rfl (lv_at hl 1 rfl) ?_
  refine l_call hg hP (t_preV C.1 ⟨hP.1, va_S.rf⟩ xv_L_34 (ci := 11) rfl rfl (gw_get (q := 0) (k := 0) rfl (x_c11 g cI cB cZ cQ S (k := 0) rfl)) (kX11_confess O P N x1 S o hF) (Nat.le_of_ble_eq_true rfl) (Nat.le_of_ble_eq_true rfl) (Nat.le_of_ble_eq_true rfl) (Nat.le_of_ble_eq_true rfl) rfl hl.1 rfl (Nat.le_of_ble_eq_true rfl) dL_confess_4) (fun h0 H1 locs1 hP1 hS1 => ?_) (fun h0 q ce H1 locs1 hP1 hS1 hc hv hcl => ?_)
  · rw [show lcA o.1 = 0 from if_pos h0, show lrow f o = _ from if_pos h0]
    refine lv_i2l C.1.1.1 C.1.1.2.1 dL_confess_7 rfl ?_
    refine l_lay O.1.1.1 C hP1 hS1 dL_confess_8 (fun H1 locs1 hP1 hS1 => ?_)
    refine lv_goto (tgt := 15) C.1.1.1 C.1.1.2.1 dL_confess_9 (by decide) ?_
    refine lv_iconst C.1.1.1 C.1.1.2.1 dL_confess_15 rfl ?_
    exact l_ret C hP1 hS1 (Nat.le_of_ble_eq_true rfl) (Nat.le_of_ble_eq_true rfl) dL_confess_16
  · have h1 : o.1 = 1 := ho.resolve_left h0
    rw [show lcA o.1 = 1 from if_neg h0, show lrow f o = _ from if_neg h0]
    rewrite [h1] at hcl
    refine l_catchA C O lx_18 (Or.inl rfl) (by decide) (fun x hx => by cases hx; decide) hc hv hcl ?_
    refine lv_astore_n C.1.1.1 C.1.1.2.1 dL_confess_12 rfl hl (by decide) rfl (fun ls9 hl9 => ?_)
    refine lv_iconst C.1.1.1 C.1.1.2.1 dL_confess_13 rfl ?_
    exact l_ret C hP1 hS1 (Nat.le_of_ble_eq_true rfl) (Nat.le_of_ble_eq_true rfl) dL_confess_14
theorem kL_drain {l : Launch} {D : va_G} {g : Nat → Nat} {cI cB cZ cQ cJ : ClassId} {aO : Nat} {Am : (Nat → Prop) → State → Heap → Prop} {aK aV : Nat → Nat} (O : tO l g cI cB cZ cQ Am aK aV) (P : gAm Am) (hg : ∀ k, k ∈ xord → g k ≠ aO) (N : Nat) (x1 : Int32) (x2 : Int32) (S : gS) (f : Nat → Int64) (o : tR) (hF : fX11_drain N x1 x2 S = some o) (ho : o.1 = 0 ∨ o.1 = 1) : lM l yL_drain cL_drain 5 [(0, 17, 20, 18)] 8 1 D g cI cB cZ cQ cJ aO Am [.ref (g 0), .int x1, .int x2, .ref aO] S f (lcA o.1) o.2.2 (lrowZ f o) := by
  refine lM_of P (by decide) rfl hg (Nat.le_of_ble_eq_true rfl) ?_
  intro p e s m args below meth c ls C hP hl
  refine lv_aload_n C.1.1.1 C.1.1.2.1 dL_drain_0 rfl (lv_at hl 3 rfl) ?_
  refine lv_iconst C.1.1.1 C.1.1.2.1 dL_drain_1 rfl ?_
  refine lv_aload_n C.1.1.1 C.1.1.2.1 dL_drain_2 rfl (lv_at hl 0 rfl) ?_
  refine lv_iload_n C.1.1.1 C.1.1.2.1 dL_drain_3 rfl (lv_at hl 1 rfl) ?_
  refine lv_iload_n C.1.1.1 C.1.1.2.1 dL_drain_4 rfl (lv_at hl 2 rfl) ?_
  refine l_call hg hP (t_preV C.1 ⟨hP.1, va_S.rf⟩ xv_L_37 (ci := 11) rfl rfl (gw_get (q := 0) (k := 0) rfl (x_c11 g cI cB cZ cQ S (k := 0) rfl)) (kX11_drain O P N x1 x2 S o hF) (Nat.le_of_ble_eq_true rfl) (Nat.le_of_ble_eq_true rfl) (Nat.le_of_ble_eq_true rfl) (Nat.le_of_ble_eq_true rfl) rfl hl.1 rfl (Nat.le_of_ble_eq_true rfl) dL_drain_5) (fun h0 H1 locs1 hP1 hS1 => ?_) (fun h0 q ce H1 locs1 hP1 hS1 hc hv hcl => ?_)
  · rw [show lcA o.1 = 0 from if_pos h0, show lrowZ f o = _ from if_pos h0]
    refine lv_if_eq (tgt := 15) C.1.1.1 C.1.1.2.1 dL_drain_8 (by decide) (fun h_z => ?_) (fun h_z => ?_)
    · rw [if_pos h_z]
      refine lv_lconst C.1.1.1 C.1.1.2.1 dL_drain_15 rfl ?_
      refine l_lay O.1.1.1 C hP1 hS1 dL_drain_16 (fun H1 locs1 hP1 hS1 => ?_)
      refine lv_goto (tgt := 24) C.1.1.1 C.1.1.2.1 dL_drain_17 (by decide) ?_
      refine lv_iconst C.1.1.1 C.1.1.2.1 dL_drain_24 rfl ?_
      exact l_ret C hP1 hS1 (Nat.le_of_ble_eq_true rfl) (Nat.le_of_ble_eq_true rfl) dL_drain_25
    · rw [if_neg h_z]
      refine lv_lconst C.1.1.1 C.1.1.2.1 dL_drain_11 rfl ?_
      refine lv_goto (tgt := 16) C.1.1.1 C.1.1.2.1 dL_drain_12 (by decide) ?_
      refine l_lay O.1.1.1 C hP1 hS1 dL_drain_16 (fun H1 locs1 hP1 hS1 => ?_)
      refine lv_goto (tgt := 24) C.1.1.1 C.1.1.2.1 dL_drain_17 (by decide) ?_
      refine lv_iconst C.1.1.1 C.1.1.2.1 dL_drain_24 rfl ?_
      exact l_ret C hP1 hS1 (Nat.le_of_ble_eq_true rfl) (Nat.le_of_ble_eq_true rfl) dL_drain_25
  · have h1 : o.1 = 1 := ho.resolve_left h0
    rw [show lcA o.1 = 1 from if_neg h0, show lrowZ f o = _ from if_neg h0]
    rewrite [h1] at hcl
    refine l_catchA C O lx_18 (Or.inl rfl) (by decide) (fun x hx => by cases hx; decide) hc hv hcl ?_
    refine lv_astore C.1.1.1 C.1.1.2.1 dL_drain_20 hl (by decide) rfl (fun ls9 hl9 => ?_)
    refine lv_iconst C.1.1.1 C.1.1.2.1 dL_drain_22 rfl ?_
    exact l_ret C hP1 hS1 (Nat.le_of_ble_eq_true rfl) (Nat.le_of_ble_eq_true rfl) dL_drain_23
theorem kL_give {l : Launch} {D : va_G} {g : Nat → Nat} {cI cB cZ cQ cJ : ClassId} {aO : Nat} {Am : (Nat → Prop) → State → Heap → Prop} {aK aV : Nat → Nat} (O : tO l g cI cB cZ cQ Am aK aV) (P : gAm Am) (hg : ∀ k, k ∈ xord → g k ≠ aO) (N : Nat) (x1 : Int32) (x2 : Int32) (S : gS) (f : Nat → Int64) (o : tR) (hF : fX11_give N x1 x2 S = some o) (ho : o.1 = 0 ∨ o.1 = 1) : lM l yL_give cL_give 5 [(0, 10, 13, 18)] 8 1 D g cI cB cZ cQ cJ aO Am [.ref (g 0), .int x1, .int x2, .ref aO] S f (lcA o.1) o.2.2 (lrow f o) := by
  refine lM_of P (by decide) rfl hg (Nat.le_of_ble_eq_true rfl) ?_
  intro p e s m args below meth c ls C hP hl
  refine lv_aload_n C.1.1.1 C.1.1.2.1 dL_give_0 rfl (lv_at hl 3 rfl) ?_
  refine lv_iconst C.1.1.1 C.1.1.2.1 dL_give_1 rfl ?_
  refine lv_aload_n C.1.1.1 C.1.1.2.1 dL_give_2 rfl (lv_at hl 0 rfl) ?_
  refine lv_iload_n C.1.1.1 C.1.1.2.1 dL_give_3 rfl (lv_at hl 1 rfl) ?_
  refine lv_iload_n C.1.1.1 C.1.1.2.1 dL_give_4 rfl (lv_at hl 2 rfl) ?_
  refine l_call hg hP (t_preV C.1 ⟨hP.1, va_S.rf⟩ xv_L_41 (ci := 11) rfl rfl (gw_get (q := 0) (k := 0) rfl (x_c11 g cI cB cZ cQ S (k := 0) rfl)) (kX11_give O P N x1 x2 S o hF) (Nat.le_of_ble_eq_true rfl) (Nat.le_of_ble_eq_true rfl) (Nat.le_of_ble_eq_true rfl) (Nat.le_of_ble_eq_true rfl) rfl hl.1 rfl (Nat.le_of_ble_eq_true rfl) dL_give_5) (fun h0 H1 locs1 hP1 hS1 => ?_) (fun h0 q ce H1 locs1 hP1 hS1 hc hv hcl => ?_)
  · rw [show lcA o.1 = 0 from if_pos h0, show lrow f o = _ from if_pos h0]
    refine lv_i2l C.1.1.1 C.1.1.2.1 dL_give_8 rfl ?_
    refine l_lay O.1.1.1 C hP1 hS1 dL_give_9 (fun H1 locs1 hP1 hS1 => ?_)
    refine lv_goto (tgt := 17) C.1.1.1 C.1.1.2.1 dL_give_10 (by decide) ?_
    refine lv_iconst C.1.1.1 C.1.1.2.1 dL_give_17 rfl ?_
    exact l_ret C hP1 hS1 (Nat.le_of_ble_eq_true rfl) (Nat.le_of_ble_eq_true rfl) dL_give_18
  · have h1 : o.1 = 1 := ho.resolve_left h0
    rw [show lcA o.1 = 1 from if_neg h0, show lrow f o = _ from if_neg h0]
    rewrite [h1] at hcl
    refine l_catchA C O lx_18 (Or.inl rfl) (by decide) (fun x hx => by cases hx; decide) hc hv hcl ?_
    refine lv_astore C.1.1.1 C.1.1.2.1 dL_give_13 hl (by decide) rfl (fun ls9 hl9 => ?_)
    refine lv_iconst C.1.1.1 C.1.1.2.1 dL_give_15 rfl ?_
    exact l_ret C hP1 hS1 (Nat.le_of_ble_eq_true rfl) (Nat.le_of_ble_eq_true rfl) dL_give_16
theorem kL_then {l : Launch} {D : va_G} {g : Nat → Nat} {cI cB cZ cQ cJ : ClassId} {aO : Nat} {Am : (Nat → Prop) → State → Heap → Prop} {aK aV : Nat → Nat} (O : tO l g cI cB cZ cQ Am aK aV) (P : gAm Am) (hg : ∀ k, k ∈ xord → g k ≠ aO) (N : Nat) (x1 : Int32) (x2 : Int32) (x3 : Int32) (S : gS) (f : Nat → Int64) (o : tR) (hF : fX11_then N x1 x2 x3 S = some o) (ho : o.1 = 0 ∨ o.1 = 1 ∨ o.1 = 2) : lM l yL_then cL_then 6 [(0, 12, 15, 18), (0, 12, 19, 13)] 8 3 D g cI cB cZ cQ cJ aO Am [.ref (g 0), .int x1, .int x2, .int x3, .ref aO] S f (lcC o.1) o.2.2 (lrow f o) := by
  refine lM_of P (by decide) rfl hg (Nat.le_of_ble_eq_true rfl) ?_
  intro p e s m args below meth c ls C hP hl
  refine lv_aload C.1.1.1 C.1.1.2.1 dL_then_0 (lv_at hl 4 rfl) ?_
  refine lv_iconst C.1.1.1 C.1.1.2.1 dL_then_2 rfl ?_
  refine lv_aload_n C.1.1.1 C.1.1.2.1 dL_then_3 rfl (lv_at hl 0 rfl) ?_
  refine lv_iload_n C.1.1.1 C.1.1.2.1 dL_then_4 rfl (lv_at hl 1 rfl) ?_
  refine lv_iload_n C.1.1.1 C.1.1.2.1 dL_then_5 rfl (lv_at hl 2 rfl) ?_
  refine lv_iload_n C.1.1.1 C.1.1.2.1 dL_then_6 rfl (lv_at hl 3 rfl) ?_
  refine l_call hg hP (t_preV C.1 ⟨hP.1, va_S.rf⟩ xv_L_44 (ci := 11) rfl rfl (gw_get (q := 0) (k := 0) rfl (x_c11 g cI cB cZ cQ S (k := 0) rfl)) (kX11_then O P N x1 x2 x3 S o hF) (Nat.le_of_ble_eq_true rfl) (Nat.le_of_ble_eq_true rfl) (Nat.le_of_ble_eq_true rfl) (Nat.le_of_ble_eq_true rfl) rfl hl.1 rfl (Nat.le_of_ble_eq_true rfl) dL_then_7) (fun h0 H1 locs1 hP1 hS1 => ?_) (fun h0 q ce H1 locs1 hP1 hS1 hc hv hcl => ?_)
  · rw [show lcC o.1 = 0 from if_pos h0, show lrow f o = _ from if_pos h0]
    refine lv_i2l C.1.1.1 C.1.1.2.1 dL_then_10 rfl ?_
    refine l_lay O.1.1.1 C hP1 hS1 dL_then_11 (fun H1 locs1 hP1 hS1 => ?_)
    refine lv_goto (tgt := 23) C.1.1.1 C.1.1.2.1 dL_then_12 (by decide) ?_
    refine lv_iconst C.1.1.1 C.1.1.2.1 dL_then_23 rfl ?_
    exact l_ret C hP1 hS1 (Nat.le_of_ble_eq_true rfl) (Nat.le_of_ble_eq_true rfl) dL_then_24
  · rw [show lrow f o = _ from if_neg h0]
    rcases ho.resolve_left h0 with h1 | h1
    · rewrite [h1] at hcl ⊢
      refine l_catchA C O lx_18 (Or.inl rfl) (by decide) (fun x hx => by cases hx; decide) hc hv hcl ?_
      refine lv_astore C.1.1.1 C.1.1.2.1 dL_then_15 hl (by decide) rfl (fun ls9 hl9 => ?_)
      refine lv_iconst C.1.1.1 C.1.1.2.1 dL_then_17 rfl ?_
      exact l_ret C hP1 hS1 (Nat.le_of_ble_eq_true rfl) (Nat.le_of_ble_eq_true rfl) dL_then_18
    · rewrite [h1] at hcl ⊢
      refine l_catchB C O lx_18 lx_13 (by decide) (by decide) (fun x hx => by cases hx; rfl) (fun x hx => by cases hx; decide) hc hv hcl ?_
      refine lv_astore C.1.1.1 C.1.1.2.1 dL_then_19 hl (by decide) rfl (fun ls9 hl9 => ?_)
      refine lv_iconst C.1.1.1 C.1.1.2.1 dL_then_21 rfl ?_
      exact l_ret C hP1 hS1 (Nat.le_of_ble_eq_true rfl) (Nat.le_of_ble_eq_true rfl) dL_then_22
theorem kL_dripping {l : Launch} {D : va_G} {g : Nat → Nat} {cI cB cZ cQ cJ : ClassId} {aO : Nat} {Am : (Nat → Prop) → State → Heap → Prop} {aK aV : Nat → Nat} (O : tO l g cI cB cZ cQ Am aK aV) (P : gAm Am) (hg : ∀ k, k ∈ xord → g k ≠ aO) (N : Nat) (x1 : Int32) (S : gS) (f : Nat → Int64) (o : tR) (hF : fX11_dripping N x1 S = some o) (ho : o.1 = 0 ∨ o.1 = 2) : lM l yL_dripping cL_dripping 4 [(0, 9, 12, 13)] 8 1 D g cI cB cZ cQ cJ aO Am [.ref (g 0), .int x1, .ref aO] S f (lcA o.1) o.2.2 (lrow f o) := by
  refine lM_of P (by decide) rfl hg (Nat.le_of_ble_eq_true rfl) ?_
  intro p e s m args below meth c ls C hP hl
  refine lv_aload_n C.1.1.1 C.1.1.2.1 dL_dripping_0 rfl (lv_at hl 2 rfl) ?_
  refine lv_iconst C.1.1.1 C.1.1.2.1 dL_dripping_1 rfl ?_
  refine lv_aload_n C.1.1.1 C.1.1.2.1 dL_dripping_2 rfl (lv_at hl 0 rfl) ?_
  refine lv_iload_n C.1.1.1 C.1.1.2.1 dL_dripping_3 rfl (lv_at hl 1 rfl) ?_
  refine l_call hg hP (t_preV C.1 ⟨hP.1, va_S.rf⟩ xv_L_48 (ci := 11) rfl rfl (gw_get (q := 0) (k := 0) rfl (x_c11 g cI cB cZ cQ S (k := 0) rfl)) (kX11_dripping O P N x1 S o hF) (Nat.le_of_ble_eq_true rfl) (Nat.le_of_ble_eq_true rfl) (Nat.le_of_ble_eq_true rfl) (Nat.le_of_ble_eq_true rfl) rfl hl.1 rfl (Nat.le_of_ble_eq_true rfl) dL_dripping_4) (fun h0 H1 locs1 hP1 hS1 => ?_) (fun h0 q ce H1 locs1 hP1 hS1 hc hv hcl => ?_)
  · rw [show lcA o.1 = 0 from if_pos h0, show lrow f o = _ from if_pos h0]
    refine lv_i2l C.1.1.1 C.1.1.2.1 dL_dripping_7 rfl ?_
    refine l_lay O.1.1.1 C hP1 hS1 dL_dripping_8 (fun H1 locs1 hP1 hS1 => ?_)
    refine lv_goto (tgt := 15) C.1.1.1 C.1.1.2.1 dL_dripping_9 (by decide) ?_
    refine lv_iconst C.1.1.1 C.1.1.2.1 dL_dripping_15 rfl ?_
    exact l_ret C hP1 hS1 (Nat.le_of_ble_eq_true rfl) (Nat.le_of_ble_eq_true rfl) dL_dripping_16
  · have h1 : o.1 = 2 := ho.resolve_left h0
    rw [show lcA o.1 = 1 from if_neg h0, show lrow f o = _ from if_neg h0]
    rewrite [h1] at hcl
    refine l_catchA C O lx_13 (Or.inr rfl) (by decide) (fun x hx => by cases hx; decide) hc hv hcl ?_
    refine lv_astore_n C.1.1.1 C.1.1.2.1 dL_dripping_12 rfl hl (by decide) rfl (fun ls9 hl9 => ?_)
    refine lv_iconst C.1.1.1 C.1.1.2.1 dL_dripping_13 rfl ?_
    exact l_ret C hP1 hS1 (Nat.le_of_ble_eq_true rfl) (Nat.le_of_ble_eq_true rfl) dL_dripping_14
theorem kL_first {l : Launch} {D : va_G} {g : Nat → Nat} {cI cB cZ cQ cJ : ClassId} {aO : Nat} {Am : (Nat → Prop) → State → Heap → Prop} {aK aV : Nat → Nat} (O : tO l g cI cB cZ cQ Am aK aV) (P : gAm Am) (hg : ∀ k, k ∈ xord → g k ≠ aO) (N : Nat) (x1 : Int32) (S : gS) (f : Nat → Int64) (o : tR) (hF : fX11_first N x1 S = some o) (ho : o.1 = 0 ∨ o.1 = 1) : lM l yL_first cL_first 4 [(0, 9, 12, 18)] 8 1 D g cI cB cZ cQ cJ aO Am [.ref (g 0), .int x1, .ref aO] S f (lcA o.1) o.2.2 (lrow f o) := by
  refine lM_of P (by decide) rfl hg (Nat.le_of_ble_eq_true rfl) ?_
  intro p e s m args below meth c ls C hP hl
  refine lv_aload_n C.1.1.1 C.1.1.2.1 dL_first_0 rfl (lv_at hl 2 rfl) ?_
  refine lv_iconst C.1.1.1 C.1.1.2.1 dL_first_1 rfl ?_
  refine lv_aload_n C.1.1.1 C.1.1.2.1 dL_first_2 rfl (lv_at hl 0 rfl) ?_
  refine lv_iload_n C.1.1.1 C.1.1.2.1 dL_first_3 rfl (lv_at hl 1 rfl) ?_
  refine l_call hg hP (t_preV C.1 ⟨hP.1, va_S.rf⟩ xv_L_51 (ci := 11) rfl rfl (gw_get (q := 0) (k := 0) rfl (x_c11 g cI cB cZ cQ S (k := 0) rfl)) (kX11_first O P N x1 S o hF) (Nat.le_of_ble_eq_true rfl) (Nat.le_of_ble_eq_true rfl) (Nat.le_of_ble_eq_true rfl) (Nat.le_of_ble_eq_true rfl) rfl hl.1 rfl (Nat.le_of_ble_eq_true rfl) dL_first_4) (fun h0 H1 locs1 hP1 hS1 => ?_) (fun h0 q ce H1 locs1 hP1 hS1 hc hv hcl => ?_)
  · rw [show lcA o.1 = 0 from if_pos h0, show lrow f o = _ from if_pos h0]
    refine lv_i2l C.1.1.1 C.1.1.2.1 dL_first_7 rfl ?_
    refine l_lay O.1.1.1 C hP1 hS1 dL_first_8 (fun H1 locs1 hP1 hS1 => ?_)
    refine lv_goto (tgt := 15) C.1.1.1 C.1.1.2.1 dL_first_9 (by decide) ?_
    refine lv_iconst C.1.1.1 C.1.1.2.1 dL_first_15 rfl ?_
    exact l_ret C hP1 hS1 (Nat.le_of_ble_eq_true rfl) (Nat.le_of_ble_eq_true rfl) dL_first_16
  · have h1 : o.1 = 1 := ho.resolve_left h0
    rw [show lcA o.1 = 1 from if_neg h0, show lrow f o = _ from if_neg h0]
    rewrite [h1] at hcl
    refine l_catchA C O lx_18 (Or.inl rfl) (by decide) (fun x hx => by cases hx; decide) hc hv hcl ?_
    refine lv_astore_n C.1.1.1 C.1.1.2.1 dL_first_12 rfl hl (by decide) rfl (fun ls9 hl9 => ?_)
    refine lv_iconst C.1.1.1 C.1.1.2.1 dL_first_13 rfl ?_
    exact l_ret C hP1 hS1 (Nat.le_of_ble_eq_true rfl) (Nat.le_of_ble_eq_true rfl) dL_first_14
theorem kL_dismissed {l : Launch} {D : va_G} {g : Nat → Nat} {cI cB cZ cQ cJ : ClassId} {aO : Nat} {Am : (Nat → Prop) → State → Heap → Prop} {aK aV : Nat → Nat} (O : tO l g cI cB cZ cQ Am aK aV) (P : gAm Am) (hg : ∀ k, k ∈ xord → g k ≠ aO) (N : Nat) (x1 : Int32) (S : gS) (f : Nat → Int64) (o : tR) (hF : fX11_dismissed N x1 S = some o) (ho : o.1 = 0 ∨ o.1 = 1) : lM l yL_dismissed cL_dismissed 4 [(0, 9, 12, 18)] 8 1 D g cI cB cZ cQ cJ aO Am [.ref (g 0), .int x1, .ref aO] S f (lcA o.1) o.2.2 (lrow f o) := by
  refine lM_of P (by decide) rfl hg (Nat.le_of_ble_eq_true rfl) ?_
  intro p e s m args below meth c ls C hP hl
  refine lv_aload_n C.1.1.1 C.1.1.2.1 dL_dismissed_0 rfl (lv_at hl 2 rfl) ?_
  refine lv_iconst C.1.1.1 C.1.1.2.1 dL_dismissed_1 rfl ?_
  refine lv_aload_n C.1.1.1 C.1.1.2.1 dL_dismissed_2 rfl (lv_at hl 0 rfl) ?_
  refine lv_iload_n C.1.1.1 C.1.1.2.1 dL_dismissed_3 rfl (lv_at hl 1 rfl) ?_
  refine l_call hg hP (t_preV C.1 ⟨hP.1, va_S.rf⟩ xv_L_54 (ci := 11) rfl rfl (gw_get (q := 0) (k := 0) rfl (x_c11 g cI cB cZ cQ S (k := 0) rfl)) (kX11_dismissed O P N x1 S o hF) (Nat.le_of_ble_eq_true rfl) (Nat.le_of_ble_eq_true rfl) (Nat.le_of_ble_eq_true rfl) (Nat.le_of_ble_eq_true rfl) rfl hl.1 rfl (Nat.le_of_ble_eq_true rfl) dL_dismissed_4) (fun h0 H1 locs1 hP1 hS1 => ?_) (fun h0 q ce H1 locs1 hP1 hS1 hc hv hcl => ?_)
  · rw [show lcA o.1 = 0 from if_pos h0, show lrow f o = _ from if_pos h0]
    refine lv_i2l C.1.1.1 C.1.1.2.1 dL_dismissed_7 rfl ?_
    refine l_lay O.1.1.1 C hP1 hS1 dL_dismissed_8 (fun H1 locs1 hP1 hS1 => ?_)
    refine lv_goto (tgt := 15) C.1.1.1 C.1.1.2.1 dL_dismissed_9 (by decide) ?_
    refine lv_iconst C.1.1.1 C.1.1.2.1 dL_dismissed_15 rfl ?_
    exact l_ret C hP1 hS1 (Nat.le_of_ble_eq_true rfl) (Nat.le_of_ble_eq_true rfl) dL_dismissed_16
  · have h1 : o.1 = 1 := ho.resolve_left h0
    rw [show lcA o.1 = 1 from if_neg h0, show lrow f o = _ from if_neg h0]
    rewrite [h1] at hcl
    refine l_catchA C O lx_18 (Or.inl rfl) (by decide) (fun x hx => by cases hx; decide) hc hv hcl ?_
    refine lv_astore_n C.1.1.1 C.1.1.2.1 dL_dismissed_12 rfl hl (by decide) rfl (fun ls9 hl9 => ?_)
    refine lv_iconst C.1.1.1 C.1.1.2.1 dL_dismissed_13 rfl ?_
    exact l_ret C hP1 hS1 (Nat.le_of_ble_eq_true rfl) (Nat.le_of_ble_eq_true rfl) dL_dismissed_14
theorem kL_most {l : Launch} {D : va_G} {g : Nat → Nat} {cI cB cZ cQ cJ : ClassId} {aO : Nat} {Am : (Nat → Prop) → State → Heap → Prop} {aK aV : Nat → Nat} (O : tO l g cI cB cZ cQ Am aK aV) (P : gAm Am) (hg : ∀ k, k ∈ xord → g k ≠ aO) (N : Nat) (x1 : Int32) (x2 : Int32) (S : gS) (f : Nat → Int64) (o : tR) (hF : fX11_most N x1 x2 S = some o) (ho : o.1 = 0 ∨ o.1 = 1 ∨ o.1 = 2) : lM l yL_most cL_most 5 [(0, 10, 13, 18), (0, 10, 17, 13)] 8 2 D g cI cB cZ cQ cJ aO Am [.ref (g 0), .int x1, .int x2, .ref aO] S f (lcC o.1) o.2.2 (lrow f o) := by
  refine lM_of P (by decide) rfl hg (Nat.le_of_ble_eq_true rfl) ?_
  intro p e s m args below meth c ls C hP hl
  refine lv_aload_n C.1.1.1 C.1.1.2.1 dL_most_0 rfl (lv_at hl 3 rfl) ?_
  refine lv_iconst C.1.1.1 C.1.1.2.1 dL_most_1 rfl ?_
  refine lv_aload_n C.1.1.1 C.1.1.2.1 dL_most_2 rfl (lv_at hl 0 rfl) ?_
  refine lv_iload_n C.1.1.1 C.1.1.2.1 dL_most_3 rfl (lv_at hl 1 rfl) ?_
  refine lv_iload_n C.1.1.1 C.1.1.2.1 dL_most_4 rfl (lv_at hl 2 rfl) ?_
  refine l_call hg hP (t_preV C.1 ⟨hP.1, va_S.rf⟩ xv_L_57 (ci := 11) rfl rfl (gw_get (q := 0) (k := 0) rfl (x_c11 g cI cB cZ cQ S (k := 0) rfl)) (kX11_most O P N x1 x2 S o hF) (Nat.le_of_ble_eq_true rfl) (Nat.le_of_ble_eq_true rfl) (Nat.le_of_ble_eq_true rfl) (Nat.le_of_ble_eq_true rfl) rfl hl.1 rfl (Nat.le_of_ble_eq_true rfl) dL_most_5) (fun h0 H1 locs1 hP1 hS1 => ?_) (fun h0 q ce H1 locs1 hP1 hS1 hc hv hcl => ?_)
  · rw [show lcC o.1 = 0 from if_pos h0, show lrow f o = _ from if_pos h0]
    refine lv_i2l C.1.1.1 C.1.1.2.1 dL_most_8 rfl ?_
    refine l_lay O.1.1.1 C hP1 hS1 dL_most_9 (fun H1 locs1 hP1 hS1 => ?_)
    refine lv_goto (tgt := 21) C.1.1.1 C.1.1.2.1 dL_most_10 (by decide) ?_
    refine lv_iconst C.1.1.1 C.1.1.2.1 dL_most_21 rfl ?_
    exact l_ret C hP1 hS1 (Nat.le_of_ble_eq_true rfl) (Nat.le_of_ble_eq_true rfl) dL_most_22
  · rw [show lrow f o = _ from if_neg h0]
    rcases ho.resolve_left h0 with h1 | h1
    · rewrite [h1] at hcl ⊢
      refine l_catchA C O lx_18 (Or.inl rfl) (by decide) (fun x hx => by cases hx; decide) hc hv hcl ?_
      refine lv_astore C.1.1.1 C.1.1.2.1 dL_most_13 hl (by decide) rfl (fun ls9 hl9 => ?_)
      refine lv_iconst C.1.1.1 C.1.1.2.1 dL_most_15 rfl ?_
      exact l_ret C hP1 hS1 (Nat.le_of_ble_eq_true rfl) (Nat.le_of_ble_eq_true rfl) dL_most_16
    · rewrite [h1] at hcl ⊢
      refine l_catchB C O lx_18 lx_13 (by decide) (by decide) (fun x hx => by cases hx; rfl) (fun x hx => by cases hx; decide) hc hv hcl ?_
      refine lv_astore C.1.1.1 C.1.1.2.1 dL_most_17 hl (by decide) rfl (fun ls9 hl9 => ?_)
      refine lv_iconst C.1.1.1 C.1.1.2.1 dL_most_19 rfl ?_
      exact l_ret C hP1 hS1 (Nat.le_of_ble_eq_true rfl) (Nat.le_of_ble_eq_true rfl) dL_most_20
theorem kL_hush {l : Launch} {D : va_G} {g : Nat → Nat} {cI cB cZ cQ cJ : ClassId} {aO : Nat} {Am : (Nat → Prop) → State → Heap → Prop} {aK aV : Nat → Nat} (O : tO l g cI cB cZ cQ Am aK aV) (P : gAm Am) (hg : ∀ k, k ∈ xord → g k ≠ aO) (N : Nat) (x1 : Int32) (S : gS) (f : Nat → Int64) (o : tR) (hF : fX11_hush N x1 S = some o) (ho : o.1 = 0 ∨ o.1 = 2) : lM l yL_hush cL_hush 4 [(0, 9, 12, 13)] 8 1 D g cI cB cZ cQ cJ aO Am [.ref (g 0), .int x1, .ref aO] S f (lcA o.1) o.2.2 (lrow f o) := by
  refine lM_of P (by decide) rfl hg (Nat.le_of_ble_eq_true rfl) ?_
  intro p e s m args below meth c ls C hP hl
  refine lv_aload_n C.1.1.1 C.1.1.2.1 dL_hush_0 rfl (lv_at hl 2 rfl) ?_
  refine lv_iconst C.1.1.1 C.1.1.2.1 dL_hush_1 rfl ?_
  refine lv_aload_n C.1.1.1 C.1.1.2.1 dL_hush_2 rfl (lv_at hl 0 rfl) ?_
  refine lv_iload_n C.1.1.1 C.1.1.2.1 dL_hush_3 rfl (lv_at hl 1 rfl) ?_
  refine l_call hg hP (t_preV C.1 ⟨hP.1, va_S.rf⟩ xv_L_60 (ci := 11) rfl rfl (gw_get (q := 0) (k := 0) rfl (x_c11 g cI cB cZ cQ S (k := 0) rfl)) (kX11_hush O P N x1 S o hF) (Nat.le_of_ble_eq_true rfl) (Nat.le_of_ble_eq_true rfl) (Nat.le_of_ble_eq_true rfl) (Nat.le_of_ble_eq_true rfl) rfl hl.1 rfl (Nat.le_of_ble_eq_true rfl) dL_hush_4) (fun h0 H1 locs1 hP1 hS1 => ?_) (fun h0 q ce H1 locs1 hP1 hS1 hc hv hcl => ?_)
  · rw [show lcA o.1 = 0 from if_pos h0, show lrow f o = _ from if_pos h0]
    refine lv_i2l C.1.1.1 C.1.1.2.1 dL_hush_7 rfl ?_
    refine l_lay O.1.1.1 C hP1 hS1 dL_hush_8 (fun H1 locs1 hP1 hS1 => ?_)
    refine lv_goto (tgt := 15) C.1.1.1 C.1.1.2.1 dL_hush_9 (by decide) ?_
    refine lv_iconst C.1.1.1 C.1.1.2.1 dL_hush_15 rfl ?_
    exact l_ret C hP1 hS1 (Nat.le_of_ble_eq_true rfl) (Nat.le_of_ble_eq_true rfl) dL_hush_16
  · have h1 : o.1 = 2 := ho.resolve_left h0
    rw [show lcA o.1 = 1 from if_neg h0, show lrow f o = _ from if_neg h0]
    rewrite [h1] at hcl
    refine l_catchA C O lx_13 (Or.inr rfl) (by decide) (fun x hx => by cases hx; decide) hc hv hcl ?_
    refine lv_astore_n C.1.1.1 C.1.1.2.1 dL_hush_12 rfl hl (by decide) rfl (fun ls9 hl9 => ?_)
    refine lv_iconst C.1.1.1 C.1.1.2.1 dL_hush_13 rfl ?_
    exact l_ret C hP1 hS1 (Nat.le_of_ble_eq_true rfl) (Nat.le_of_ble_eq_true rfl) dL_hush_14
theorem kL_chorus {l : Launch} {D : va_G} {g : Nat → Nat} {cI cB cZ cQ cJ : ClassId} {aO : Nat} {Am : (Nat → Prop) → State → Heap → Prop} {aK aV : Nat → Nat} (O : tO l g cI cB cZ cQ Am aK aV) (P : gAm Am) (hg : ∀ k, k ∈ xord → g k ≠ aO) (N : Nat) (x1 : Int32) (S : gS) (f : Nat → Int64) (o : tR) (hF : fX11_chorus N x1 S = some o) (ho : o.1 = 0 ∨ o.1 = 2) : lM l yL_chorus cL_chorus 4 [(0, 9, 12, 13)] 8 1 D g cI cB cZ cQ cJ aO Am [.ref (g 0), .int x1, .ref aO] S f (lcA o.1) o.2.2 (lrow f o) := by
  refine lM_of P (by decide) rfl hg (Nat.le_of_ble_eq_true rfl) ?_
  intro p e s m args below meth c ls C hP hl
  refine lv_aload_n C.1.1.1 C.1.1.2.1 dL_chorus_0 rfl (lv_at hl 2 rfl) ?_
  refine lv_iconst C.1.1.1 C.1.1.2.1 dL_chorus_1 rfl ?_
  refine lv_aload_n C.1.1.1 C.1.1.2.1 dL_chorus_2 rfl (lv_at hl 0 rfl) ?_
  refine lv_iload_n C.1.1.1 C.1.1.2.1 dL_chorus_3 rfl (lv_at hl 1 rfl) ?_
  refine l_call hg hP (t_preV C.1 ⟨hP.1, va_S.rf⟩ xv_L_63 (ci := 11) rfl rfl (gw_get (q := 0) (k := 0) rfl (x_c11 g cI cB cZ cQ S (k := 0) rfl)) (kX11_chorus O P N x1 S o hF) (Nat.le_of_ble_eq_true rfl) (Nat.le_of_ble_eq_true rfl) (Nat.le_of_ble_eq_true rfl) (Nat.le_of_ble_eq_true rfl) rfl hl.1 rfl (Nat.le_of_ble_eq_true rfl) dL_chorus_4) (fun h0 H1 locs1 hP1 hS1 => ?_) (fun h0 q ce H1 locs1 hP1 hS1 hc hv hcl => ?_)
  · rw [show lcA o.1 = 0 from if_pos h0, show lrow f o = _ from if_pos h0]
    refine lv_i2l C.1.1.1 C.1.1.2.1 dL_chorus_7 rfl ?_
    refine l_lay O.1.1.1 C hP1 hS1 dL_chorus_8 (fun H1 locs1 hP1 hS1 => ?_)
    refine lv_goto (tgt := 15) C.1.1.1 C.1.1.2.1 dL_chorus_9 (by decide) ?_
    refine lv_iconst C.1.1.1 C.1.1.2.1 dL_chorus_15 rfl ?_
    exact l_ret C hP1 hS1 (Nat.le_of_ble_eq_true rfl) (Nat.le_of_ble_eq_true rfl) dL_chorus_16
  · have h1 : o.1 = 2 := ho.resolve_left h0
    rw [show lcA o.1 = 1 from if_neg h0, show lrow f o = _ from if_neg h0]
    rewrite [h1] at hcl
    refine l_catchA C O lx_13 (Or.inr rfl) (by decide) (fun x hx => by cases hx; decide) hc hv hcl ?_
    refine lv_astore_n C.1.1.1 C.1.1.2.1 dL_chorus_12 rfl hl (by decide) rfl (fun ls9 hl9 => ?_)
    refine lv_iconst C.1.1.1 C.1.1.2.1 dL_chorus_13 rfl ?_
    exact l_ret C hP1 hS1 (Nat.le_of_ble_eq_true rfl) (Nat.le_of_ble_eq_true rfl) dL_chorus_14
theorem kL_together {l : Launch} {D : va_G} {g : Nat → Nat} {cI cB cZ cQ cJ : ClassId} {aO : Nat} {Am : (Nat → Prop) → State → Heap → Prop} {aK aV : Nat → Nat} (O : tO l g cI cB cZ cQ Am aK aV) (P : gAm Am) (hg : ∀ k, k ∈ xord → g k ≠ aO) (N : Nat) (x1 : Int32) (S : gS) (f : Nat → Int64) (o : tR) (hF : fX11_together N x1 S = some o) (ho : o.1 = 0 ∨ o.1 = 2) : lM l yL_together cL_together 4 [(0, 9, 12, 13)] 8 1 D g cI cB cZ cQ cJ aO Am [.ref (g 0), .int x1, .ref aO] S f (lcA o.1) o.2.2 (lrow f o) := by
  refine lM_of P (by decide) rfl hg (Nat.le_of_ble_eq_true rfl) ?_
  intro p e s m args below meth c ls C hP hl
  refine lv_aload_n C.1.1.1 C.1.1.2.1 dL_together_0 rfl (lv_at hl 2 rfl) ?_
  refine lv_iconst C.1.1.1 C.1.1.2.1 dL_together_1 rfl ?_
  refine lv_aload_n C.1.1.1 C.1.1.2.1 dL_together_2 rfl (lv_at hl 0 rfl) ?_
  refine lv_iload_n C.1.1.1 C.1.1.2.1 dL_together_3 rfl (lv_at hl 1 rfl) ?_
  refine l_call hg hP (t_preV C.1 ⟨hP.1, va_S.rf⟩ xv_L_66 (ci := 11) rfl rfl (gw_get (q := 0) (k := 0) rfl (x_c11 g cI cB cZ cQ S (k := 0) rfl)) (kX11_together O P N x1 S o hF) (Nat.le_of_ble_eq_true rfl) (Nat.le_of_ble_eq_true rfl) (Nat.le_of_ble_eq_true rfl) (Nat.le_of_ble_eq_true rfl) rfl hl.1 rfl (Nat.le_of_ble_eq_true rfl) dL_together_4) (fun h0 H1 locs1 hP1 hS1 => ?_) (fun h0 q ce H1 locs1 hP1 hS1 hc hv hcl => ?_)
  · rw [show lcA o.1 = 0 from if_pos h0, show lrow f o = _ from if_pos h0]
    refine lv_i2l C.1.1.1 C.1.1.2.1 dL_together_7 rfl ?_
    refine l_lay O.1.1.1 C hP1 hS1 dL_together_8 (fun H1 locs1 hP1 hS1 => ?_)
    refine lv_goto (tgt := 15) C.1.1.1 C.1.1.2.1 dL_together_9 (by decide) ?_
    refine lv_iconst C.1.1.1 C.1.1.2.1 dL_together_15 rfl ?_
    exact l_ret C hP1 hS1 (Nat.le_of_ble_eq_true rfl) (Nat.le_of_ble_eq_true rfl) dL_together_16
  · have h1 : o.1 = 2 := ho.resolve_left h0
    rw [show lcA o.1 = 1 from if_neg h0, show lrow f o = _ from if_neg h0]
    rewrite [h1] at hcl
    refine l_catchA C O lx_13 (Or.inr rfl) (by decide) (fun x hx => by cases hx; decide) hc hv hcl ?_
    refine lv_astore_n C.1.1.1 C.1.1.2.1 dL_together_12 rfl hl (by decide) rfl (fun ls9 hl9 => ?_)
    refine lv_iconst C.1.1.1 C.1.1.2.1 dL_together_13 rfl ?_
    exact l_ret C hP1 hS1 (Nat.le_of_ble_eq_true rfl) (Nat.le_of_ble_eq_true rfl) dL_together_14
theorem kL_rhythm {l : Launch} {D : va_G} {g : Nat → Nat} {cI cB cZ cQ cJ : ClassId} {aO : Nat} {Am : (Nat → Prop) → State → Heap → Prop} {aK aV : Nat → Nat} (O : tO l g cI cB cZ cQ Am aK aV) (P : gAm Am) (hg : ∀ k, k ∈ xord → g k ≠ aO) (N : Nat) (x1 : Int32) (S : gS) (f : Nat → Int64) (o : tR) (hF : fX11_rhythm N x1 S = some o) (ho : o.1 = 0 ∨ o.1 = 2) : lM l yL_rhythm cL_rhythm 4 [(0, 9, 12, 13)] 8 1 D g cI cB cZ cQ cJ aO Am [.ref (g 0), .int x1, .ref aO] S f (lcA o.1) o.2.2 (lrow f o) := by
  refine lM_of P (by decide) rfl hg (Nat.le_of_ble_eq_true rfl) ?_
  intro p e s m args below meth c ls C hP hl
  refine lv_aload_n C.1.1.1 C.1.1.2.1 dL_rhythm_0 rfl (lv_at hl 2 rfl) ?_
  refine lv_iconst C.1.1.1 C.1.1.2.1 dL_rhythm_1 rfl ?_
  refine lv_aload_n C.1.1.1 C.1.1.2.1 dL_rhythm_2 rfl (lv_at hl 0 rfl) ?_
  refine lv_iload_n C.1.1.1 C.1.1.2.1 dL_rhythm_3 rfl (lv_at hl 1 rfl) ?_
  refine l_call hg hP (t_preV C.1 ⟨hP.1, va_S.rf⟩ xv_L_69 (ci := 11) rfl rfl (gw_get (q := 0) (k := 0) rfl (x_c11 g cI cB cZ cQ S (k := 0) rfl)) (kX11_rhythm O P N x1 S o hF) (Nat.le_of_ble_eq_true rfl) (Nat.le_of_ble_eq_true rfl) (Nat.le_of_ble_eq_true rfl) (Nat.le_of_ble_eq_true rfl) rfl hl.1 rfl (Nat.le_of_ble_eq_true rfl) dL_rhythm_4) (fun h0 H1 locs1 hP1 hS1 => ?_) (fun h0 q ce H1 locs1 hP1 hS1 hc hv hcl => ?_)
  · rw [show lcA o.1 = 0 from if_pos h0, show lrow f o = _ from if_pos h0]
    refine lv_i2l C.1.1.1 C.1.1.2.1 dL_rhythm_7 rfl ?_
    refine l_lay O.1.1.1 C hP1 hS1 dL_rhythm_8 (fun H1 locs1 hP1 hS1 => ?_)
    refine lv_goto (tgt := 15) C.1.1.1 C.1.1.2.1 dL_rhythm_9 (by decide) ?_
    refine lv_iconst C.1.1.1 C.1.1.2.1 dL_rhythm_15 rfl ?_
    exact l_ret C hP1 hS1 (Nat.le_of_ble_eq_true rfl) (Nat.le_of_ble_eq_true rfl) dL_rhythm_16
  · have h1 : o.1 = 2 := ho.resolve_left h0
    rw [show lcA o.1 = 1 from if_neg h0, show lrow f o = _ from if_neg h0]
    rewrite [h1] at hcl
    refine l_catchA C O lx_13 (Or.inr rfl) (by decide) (fun x hx => by cases hx; decide) hc hv hcl ?_
    refine lv_astore_n C.1.1.1 C.1.1.2.1 dL_rhythm_12 rfl hl (by decide) rfl (fun ls9 hl9 => ?_)
    refine lv_iconst C.1.1.1 C.1.1.2.1 dL_rhythm_13 rfl ?_
    exact l_ret C hP1 hS1 (Nat.le_of_ble_eq_true rfl) (Nat.le_of_ble_eq_true rfl) dL_rhythm_14
theorem kL_often {l : Launch} {D : va_G} {g : Nat → Nat} {cI cB cZ cQ cJ : ClassId} {aO : Nat} {Am : (Nat → Prop) → State → Heap → Prop} {aK aV : Nat → Nat} (O : tO l g cI cB cZ cQ Am aK aV) (P : gAm Am) (hg : ∀ k, k ∈ xord → g k ≠ aO) (N : Nat) (x1 : Int32) (x2 : Int32) (S : gS) (f : Nat → Int64) (o : tR) (hF : fX11_often N x1 x2 S = some o) (ho : o.1 = 0 ∨ o.1 = 1 ∨ o.1 = 2) : lM l yL_often cL_often 5 [(0, 10, 13, 18), (0, 10, 17, 13)] 8 2 D g cI cB cZ cQ cJ aO Am [.ref (g 0), .int x1, .int x2, .ref aO] S f (lcC o.1) o.2.2 (lrow f o) := by
  refine lM_of P (by decide) rfl hg (Nat.le_of_ble_eq_true rfl) ?_
  intro p e s m args below meth c ls C hP hl
  refine lv_aload_n C.1.1.1 C.1.1.2.1 dL_often_0 rfl (lv_at hl 3 rfl) ?_
  refine lv_iconst C.1.1.1 C.1.1.2.1 dL_often_1 rfl ?_
  refine lv_aload_n C.1.1.1 C.1.1.2.1 dL_often_2 rfl (lv_at hl 0 rfl) ?_
  refine lv_iload_n C.1.1.1 C.1.1.2.1 dL_often_3 rfl (lv_at hl 1 rfl) ?_
  refine lv_iload_n C.1.1.1 C.1.1.2.1 dL_often_4 rfl (lv_at hl 2 rfl) ?_
  refine l_call hg hP (t_preV C.1 ⟨hP.1, va_S.rf⟩ xv_L_72 (ci := 11) rfl rfl (gw_get (q := 0) (k := 0) rfl (x_c11 g cI cB cZ cQ S (k := 0) rfl)) (kX11_often O P N x1 x2 S o hF) (Nat.le_of_ble_eq_true rfl) (Nat.le_of_ble_eq_true rfl) (Nat.le_of_ble_eq_true rfl) (Nat.le_of_ble_eq_true rfl) rfl hl.1 rfl (Nat.le_of_ble_eq_true rfl) dL_often_5) (fun h0 H1 locs1 hP1 hS1 => ?_) (fun h0 q ce H1 locs1 hP1 hS1 hc hv hcl => ?_)
  · rw [show lcC o.1 = 0 from if_pos h0, show lrow f o = _ from if_pos h0]
    refine lv_i2l C.1.1.1 C.1.1.2.1 dL_often_8 rfl ?_
    refine l_lay O.1.1.1 C hP1 hS1 dL_often_9 (fun H1 locs1 hP1 hS1 => ?_)
    refine lv_goto (tgt := 21) C.1.1.1 C.1.1.2.1 dL_often_10 (by decide) ?_
    refine lv_iconst C.1.1.1 C.1.1.2.1 dL_often_21 rfl ?_
    exact l_ret C hP1 hS1 (Nat.le_of_ble_eq_true rfl) (Nat.le_of_ble_eq_true rfl) dL_often_22
  · rw [show lrow f o = _ from if_neg h0]
    rcases ho.resolve_left h0 with h1 | h1
    · rewrite [h1] at hcl ⊢
      refine l_catchA C O lx_18 (Or.inl rfl) (by decide) (fun x hx => by cases hx; decide) hc hv hcl ?_
      refine lv_astore C.1.1.1 C.1.1.2.1 dL_often_13 hl (by decide) rfl (fun ls9 hl9 => ?_)
      refine lv_iconst C.1.1.1 C.1.1.2.1 dL_often_15 rfl ?_
      exact l_ret C hP1 hS1 (Nat.le_of_ble_eq_true rfl) (Nat.le_of_ble_eq_true rfl) dL_often_16
    · rewrite [h1] at hcl ⊢
      refine l_catchB C O lx_18 lx_13 (by decide) (by decide) (fun x hx => by cases hx; rfl) (fun x hx => by cases hx; decide) hc hv hcl ?_
      refine lv_astore C.1.1.1 C.1.1.2.1 dL_often_17 hl (by decide) rfl (fun ls9 hl9 => ?_)
      refine lv_iconst C.1.1.1 C.1.1.2.1 dL_often_19 rfl ?_
      exact l_ret C hP1 hS1 (Nat.le_of_ble_eq_true rfl) (Nat.le_of_ble_eq_true rfl) dL_often_20
theorem kL_toHire {l : Launch} {D : va_G} {g : Nat → Nat} {cI cB cZ cQ cJ : ClassId} {aO : Nat} {Am : (Nat → Prop) → State → Heap → Prop} {aK aV : Nat → Nat} (O : tO l g cI cB cZ cQ Am aK aV) (P : gAm Am) (hg : ∀ k, k ∈ xord → g k ≠ aO) (N : Nat) (x1 : Int32) (x2 : Int32) (x3 : Int32) (S : gS) (f : Nat → Int64) (o : tR) (hF : fX11_toHire N x1 x2 x3 S = some o) (ho : o.1 = 0 ∨ o.1 = 1 ∨ o.1 = 2) : lM l yL_toHire cL_toHire 6 [(0, 12, 15, 18), (0, 12, 19, 13)] 8 3 D g cI cB cZ cQ cJ aO Am [.ref (g 0), .int x1, .int x2, .int x3, .ref aO] S f (lcC o.1) o.2.2 (lrow f o) := by
  refine lM_of P (by decide) rfl hg (Nat.le_of_ble_eq_true rfl) ?_
  intro p e s m args below meth c ls C hP hl
  refine lv_aload C.1.1.1 C.1.1.2.1 dL_toHire_0 (lv_at hl 4 rfl) ?_
  refine lv_iconst C.1.1.1 C.1.1.2.1 dL_toHire_2 rfl ?_
  refine lv_aload_n C.1.1.1 C.1.1.2.1 dL_toHire_3 rfl (lv_at hl 0 rfl) ?_
  refine lv_iload_n C.1.1.1 C.1.1.2.1 dL_toHire_4 rfl (lv_at hl 1 rfl) ?_
  refine lv_iload_n C.1.1.1 C.1.1.2.1 dL_toHire_5 rfl (lv_at hl 2 rfl) ?_
  refine lv_iload_n C.1.1.1 C.1.1.2.1 dL_toHire_6 rfl (lv_at hl 3 rfl) ?_
  refine l_call hg hP (t_preV C.1 ⟨hP.1, va_S.rf⟩ xv_L_75 (ci := 11) rfl rfl (gw_get (q := 0) (k := 0) rfl (x_c11 g cI cB cZ cQ S (k := 0) rfl)) (kX11_toHire O P N x1 x2 x3 S o hF) (Nat.le_of_ble_eq_true rfl) (Nat.le_of_ble_eq_true rfl) (Nat.le_of_ble_eq_true rfl) (Nat.le_of_ble_eq_true rfl) rfl hl.1 rfl (Nat.le_of_ble_eq_true rfl) dL_toHire_7) (fun h0 H1 locs1 hP1 hS1 => ?_) (fun h0 q ce H1 locs1 hP1 hS1 hc hv hcl => ?_)
  · rw [show lcC o.1 = 0 from if_pos h0, show lrow f o = _ from if_pos h0]
    refine lv_i2l C.1.1.1 C.1.1.2.1 dL_toHire_10 rfl ?_
    refine l_lay O.1.1.1 C hP1 hS1 dL_toHire_11 (fun H1 locs1 hP1 hS1 => ?_)
    refine lv_goto (tgt := 23) C.1.1.1 C.1.1.2.1 dL_toHire_12 (by decide) ?_
    refine lv_iconst C.1.1.1 C.1.1.2.1 dL_toHire_23 rfl ?_
    exact l_ret C hP1 hS1 (Nat.le_of_ble_eq_true rfl) (Nat.le_of_ble_eq_true rfl) dL_toHire_24
  · rw [show lrow f o = _ from if_neg h0]
    rcases ho.resolve_left h0 with h1 | h1
    · rewrite [h1] at hcl ⊢
      refine l_catchA C O lx_18 (Or.inl rfl) (by decide) (fun x hx => by cases hx; decide) hc hv hcl ?_
      refine lv_astore C.1.1.1 C.1.1.2.1 dL_toHire_15 hl (by decide) rfl (fun ls9 hl9 => ?_)
      refine lv_iconst C.1.1.1 C.1.1.2.1 dL_toHire_17 rfl ?_
      exact l_ret C hP1 hS1 (Nat.le_of_ble_eq_true rfl) (Nat.le_of_ble_eq_true rfl) dL_toHire_18
    · rewrite [h1] at hcl ⊢
      refine l_catchB C O lx_18 lx_13 (by decide) (by decide) (fun x hx => by cases hx; rfl) (fun x hx => by cases hx; decide) hc hv hcl ?_
      refine lv_astore C.1.1.1 C.1.1.2.1 dL_toHire_19 hl (by decide) rfl (fun ls9 hl9 => ?_)
      refine lv_iconst C.1.1.1 C.1.1.2.1 dL_toHire_21 rfl ?_
      exact l_ret C hP1 hS1 (Nat.le_of_ble_eq_true rfl) (Nat.le_of_ble_eq_true rfl) dL_toHire_22
theorem kL_shared {l : Launch} {D : va_G} {g : Nat → Nat} {cI cB cZ cQ cJ : ClassId} {aO : Nat} {Am : (Nat → Prop) → State → Heap → Prop} {aK aV : Nat → Nat} (O : tO l g cI cB cZ cQ Am aK aV) (P : gAm Am) (hg : ∀ k, k ∈ xord → g k ≠ aO) (N : Nat) (x1 : Int32) (S : gS) (f : Nat → Int64) (o : tR) (hF : fX11_shared N x1 S = some o) (ho : o.1 = 0 ∨ o.1 = 1) : lM l yL_shared cL_shared 4 [(0, 9, 12, 18)] 8 1 D g cI cB cZ cQ cJ aO Am [.ref (g 0), .int x1, .ref aO] S f (lcA o.1) o.2.2 (lrow f o) := by
  refine lM_of P (by decide) rfl hg (Nat.le_of_ble_eq_true rfl) ?_
  intro p e s m args below meth c ls C hP hl
  refine lv_aload_n C.1.1.1 C.1.1.2.1 dL_shared_0 rfl (lv_at hl 2 rfl) ?_
  refine lv_iconst C.1.1.1 C.1.1.2.1 dL_shared_1 rfl ?_
  refine lv_aload_n C.1.1.1 C.1.1.2.1 dL_shared_2 rfl (lv_at hl 0 rfl) ?_
  refine lv_iload_n C.1.1.1 C.1.1.2.1 dL_shared_3 rfl (lv_at hl 1 rfl) ?_
  refine l_call hg hP (t_preV C.1 ⟨hP.1, va_S.rf⟩ xv_L_78 (ci := 11) rfl rfl (gw_get (q := 0) (k := 0) rfl (x_c11 g cI cB cZ cQ S (k := 0) rfl)) (kX11_shared O P N x1 S o hF) (Nat.le_of_ble_eq_true rfl) (Nat.le_of_ble_eq_true rfl) (Nat.le_of_ble_eq_true rfl) (Nat.le_of_ble_eq_true rfl) rfl hl.1 rfl (Nat.le_of_ble_eq_true rfl) dL_shared_4) (fun h0 H1 locs1 hP1 hS1 => ?_) (fun h0 q ce H1 locs1 hP1 hS1 hc hv hcl => ?_)
  · rw [show lcA o.1 = 0 from if_pos h0, show lrow f o = _ from if_pos h0]
    refine lv_i2l C.1.1.1 C.1.1.2.1 dL_shared_7 rfl ?_
    refine l_lay O.1.1.1 C hP1 hS1 dL_shared_8 (fun H1 locs1 hP1 hS1 => ?_)
    refine lv_goto (tgt := 15) C.1.1.1 C.1.1.2.1 dL_shared_9 (by decide) ?_
    refine lv_iconst C.1.1.1 C.1.1.2.1 dL_shared_15 rfl ?_
    exact l_ret C hP1 hS1 (Nat.le_of_ble_eq_true rfl) (Nat.le_of_ble_eq_true rfl) dL_shared_16
  · have h1 : o.1 = 1 := ho.resolve_left h0
    rw [show lcA o.1 = 1 from if_neg h0, show lrow f o = _ from if_neg h0]
    rewrite [h1] at hcl
    refine l_catchA C O lx_18 (Or.inl rfl) (by decide) (fun x hx => by cases hx; decide) hc hv hcl ?_
    refine lv_astore_n C.1.1.1 C.1.1.2.1 dL_shared_12 rfl hl (by decide) rfl (fun ls9 hl9 => ?_)
    refine lv_iconst C.1.1.1 C.1.1.2.1 dL_shared_13 rfl ?_
    exact l_ret C hP1 hS1 (Nat.le_of_ble_eq_true rfl) (Nat.le_of_ble_eq_true rfl) dL_shared_14
theorem kL_has {l : Launch} {D : va_G} {g : Nat → Nat} {cI cB cZ cQ cJ : ClassId} {aO : Nat} {Am : (Nat → Prop) → State → Heap → Prop} {aK aV : Nat → Nat} (O : tO l g cI cB cZ cQ Am aK aV) (P : gAm Am) (hg : ∀ k, k ∈ xord → g k ≠ aO) (N : Nat) (x1 : Int32) (S : gS) (f : Nat → Int64) (o : tR) (hF : fX11_has N x1 S = some o) (ho : o.1 = 0 ∨ o.1 = 1) : lM l yL_has cL_has 4 [(0, 9, 12, 18)] 8 1 D g cI cB cZ cQ cJ aO Am [.ref (g 0), .int x1, .ref aO] S f (lcA o.1) o.2.2 (lrow f o) := by
  refine lM_of P (by decide) rfl hg (Nat.le_of_ble_eq_true rfl) ?_
  intro p e s m args below meth c ls C hP hl
  refine lv_aload_n C.1.1.1 C.1.1.2.1 dL_has_0 rfl (lv_at hl 2 rfl) ?_
  refine lv_iconst C.1.1.1 C.1.1.2.1 dL_has_1 rfl ?_
  refine lv_aload_n C.1.1.1 C.1.1.2.1 dL_has_2 rfl (lv_at hl 0 rfl) ?_
  refine lv_iload_n C.1.1.1 C.1.1.2.1 dL_has_3 rfl (lv_at hl 1 rfl) ?_
  refine l_call hg hP (t_preV C.1 ⟨hP.1, va_S.rf⟩ xv_L_81 (ci := 11) rfl rfl (gw_get (q := 0) (k := 0) rfl (x_c11 g cI cB cZ cQ S (k := 0) rfl)) (kX11_has O P N x1 S o hF) (Nat.le_of_ble_eq_true rfl) (Nat.le_of_ble_eq_true rfl) (Nat.le_of_ble_eq_true rfl) (Nat.le_of_ble_eq_true rfl) rfl hl.1 rfl (Nat.le_of_ble_eq_true rfl) dL_has_4) (fun h0 H1 locs1 hP1 hS1 => ?_) (fun h0 q ce H1 locs1 hP1 hS1 hc hv hcl => ?_)
  · rw [show lcA o.1 = 0 from if_pos h0, show lrow f o = _ from if_pos h0]
    refine lv_i2l C.1.1.1 C.1.1.2.1 dL_has_7 rfl ?_
    refine l_lay O.1.1.1 C hP1 hS1 dL_has_8 (fun H1 locs1 hP1 hS1 => ?_)
    refine lv_goto (tgt := 15) C.1.1.1 C.1.1.2.1 dL_has_9 (by decide) ?_
    refine lv_iconst C.1.1.1 C.1.1.2.1 dL_has_15 rfl ?_
    exact l_ret C hP1 hS1 (Nat.le_of_ble_eq_true rfl) (Nat.le_of_ble_eq_true rfl) dL_has_16
  · have h1 : o.1 = 1 := ho.resolve_left h0
    rw [show lcA o.1 = 1 from if_neg h0, show lrow f o = _ from if_neg h0]
    rewrite [h1] at hcl
    refine l_catchA C O lx_18 (Or.inl rfl) (by decide) (fun x hx => by cases hx; decide) hc hv hcl ?_
    refine lv_astore_n C.1.1.1 C.1.1.2.1 dL_has_12 rfl hl (by decide) rfl (fun ls9 hl9 => ?_)
    refine lv_iconst C.1.1.1 C.1.1.2.1 dL_has_13 rfl ?_
    exact l_ret C hP1 hS1 (Nat.le_of_ble_eq_true rfl) (Nat.le_of_ble_eq_true rfl) dL_has_14
theorem kL_toGive {l : Launch} {D : va_G} {g : Nat → Nat} {cI cB cZ cQ cJ : ClassId} {aO : Nat} {Am : (Nat → Prop) → State → Heap → Prop} {aK aV : Nat → Nat} (O : tO l g cI cB cZ cQ Am aK aV) (P : gAm Am) (hg : ∀ k, k ∈ xord → g k ≠ aO) (N : Nat) (x1 : Int32) (x2 : Int32) (S : gS) (f : Nat → Int64) (o : tR) (hF : fX11_toGive N x1 x2 S = some o) (ho : o.1 = 0 ∨ o.1 = 1 ∨ o.1 = 2) : lM l yL_toGive cL_toGive 5 [(0, 10, 13, 18), (0, 10, 17, 13)] 8 2 D g cI cB cZ cQ cJ aO Am [.ref (g 0), .int x1, .int x2, .ref aO] S f (lcC o.1) o.2.2 (lrow f o) := by
  refine lM_of P (by decide) rfl hg (Nat.le_of_ble_eq_true rfl) ?_
  intro p e s m args below meth c ls C hP hl
  refine lv_aload_n C.1.1.1 C.1.1.2.1 dL_toGive_0 rfl (lv_at hl 3 rfl) ?_
  refine lv_iconst C.1.1.1 C.1.1.2.1 dL_toGive_1 rfl ?_
  refine lv_aload_n C.1.1.1 C.1.1.2.1 dL_toGive_2 rfl (lv_at hl 0 rfl) ?_
  refine lv_iload_n C.1.1.1 C.1.1.2.1 dL_toGive_3 rfl (lv_at hl 1 rfl) ?_
  refine lv_iload_n C.1.1.1 C.1.1.2.1 dL_toGive_4 rfl (lv_at hl 2 rfl) ?_
  refine l_call hg hP (t_preV C.1 ⟨hP.1, va_S.rf⟩ xv_L_84 (ci := 11) rfl rfl (gw_get (q := 0) (k := 0) rfl (x_c11 g cI cB cZ cQ S (k := 0) rfl)) (kX11_toGive O P N x1 x2 S o hF) (Nat.le_of_ble_eq_true rfl) (Nat.le_of_ble_eq_true rfl) (Nat.le_of_ble_eq_true rfl) (Nat.le_of_ble_eq_true rfl) rfl hl.1 rfl (Nat.le_of_ble_eq_true rfl) dL_toGive_5) (fun h0 H1 locs1 hP1 hS1 => ?_) (fun h0 q ce H1 locs1 hP1 hS1 hc hv hcl => ?_)
  · rw [show lcC o.1 = 0 from if_pos h0, show lrow f o = _ from if_pos h0]
    refine lv_i2l C.1.1.1 C.1.1.2.1 dL_toGive_8 rfl ?_
    refine l_lay O.1.1.1 C hP1 hS1 dL_toGive_9 (fun H1 locs1 hP1 hS1 => ?_)
    refine lv_goto (tgt := 21) C.1.1.1 C.1.1.2.1 dL_toGive_10 (by decide) ?_
    refine lv_iconst C.1.1.1 C.1.1.2.1 dL_toGive_21 rfl ?_
    exact l_ret C hP1 hS1 (Nat.le_of_ble_eq_true rfl) (Nat.le_of_ble_eq_true rfl) dL_toGive_22
  · rw [show lrow f o = _ from if_neg h0]
    rcases ho.resolve_left h0 with h1 | h1
    · rewrite [h1] at hcl ⊢
      refine l_catchA C O lx_18 (Or.inl rfl) (by decide) (fun x hx => by cases hx; decide) hc hv hcl ?_
      refine lv_astore C.1.1.1 C.1.1.2.1 dL_toGive_13 hl (by decide) rfl (fun ls9 hl9 => ?_)
      refine lv_iconst C.1.1.1 C.1.1.2.1 dL_toGive_15 rfl ?_
      exact l_ret C hP1 hS1 (Nat.le_of_ble_eq_true rfl) (Nat.le_of_ble_eq_true rfl) dL_toGive_16
    · rewrite [h1] at hcl ⊢
      refine l_catchB C O lx_18 lx_13 (by decide) (by decide) (fun x hx => by cases hx; rfl) (fun x hx => by cases hx; decide) hc hv hcl ?_
      refine lv_astore C.1.1.1 C.1.1.2.1 dL_toGive_17 hl (by decide) rfl (fun ls9 hl9 => ?_)
      refine lv_iconst C.1.1.1 C.1.1.2.1 dL_toGive_19 rfl ?_
      exact l_ret C hP1 hS1 (Nat.le_of_ble_eq_true rfl) (Nat.le_of_ble_eq_true rfl) dL_toGive_20
theorem kL_confessing {l : Launch} {D : va_G} {g : Nat → Nat} {cI cB cZ cQ cJ : ClassId} {aO : Nat} {Am : (Nat → Prop) → State → Heap → Prop} {aK aV : Nat → Nat} (O : tO l g cI cB cZ cQ Am aK aV) (P : gAm Am) (hg : ∀ k, k ∈ xord → g k ≠ aO) (N : Nat) (x1 : Int32) (x2 : Int32) (S : gS) (f : Nat → Int64) (o : tR) (hF : fX11_confessing N x1 x2 S = some o) (ho : o.1 = 0 ∨ o.1 = 1 ∨ o.1 = 2) : lM l yL_confessing cL_confessing 5 [(0, 10, 13, 18), (0, 10, 17, 13)] 8 2 D g cI cB cZ cQ cJ aO Am [.ref (g 0), .int x1, .int x2, .ref aO] S f (lcC o.1) o.2.2 (lrow f o) := by
  refine lM_of P (by decide) rfl hg (Nat.le_of_ble_eq_true rfl) ?_
  intro p e s m args below meth c ls C hP hl
  refine lv_aload_n C.1.1.1 C.1.1.2.1 dL_confessing_0 rfl (lv_at hl 3 rfl) ?_
  refine lv_iconst C.1.1.1 C.1.1.2.1 dL_confessing_1 rfl ?_
  refine lv_aload_n C.1.1.1 C.1.1.2.1 dL_confessing_2 rfl (lv_at hl 0 rfl) ?_
  refine lv_iload_n C.1.1.1 C.1.1.2.1 dL_confessing_3 rfl (lv_at hl 1 rfl) ?_
  refine lv_iload_n C.1.1.1 C.1.1.2.1 dL_confessing_4 rfl (lv_at hl 2 rfl) ?_
  refine l_call hg hP (t_preV C.1 ⟨hP.1, va_S.rf⟩ xv_L_87 (ci := 11) rfl rfl (gw_get (q := 0) (k := 0) rfl (x_c11 g cI cB cZ cQ S (k := 0) rfl)) (kX11_confessing O P N x1 x2 S o hF) (Nat.le_of_ble_eq_true rfl) (Nat.le_of_ble_eq_true rfl) (Nat.le_of_ble_eq_true rfl) (Nat.le_of_ble_eq_true rfl) rfl hl.1 rfl (Nat.le_of_ble_eq_true rfl) dL_confessing_5) (fun h0 H1 locs1 hP1 hS1 => ?_) (fun h0 q ce H1 locs1 hP1 hS1 hc hv hcl => ?_)
  · rw [show lcC o.1 = 0 from if_pos h0, show lrow f o = _ from if_pos h0]
    refine lv_i2l C.1.1.1 C.1.1.2.1 dL_confessing_8 rfl ?_
    refine l_lay O.1.1.1 C hP1 hS1 dL_confessing_9 (fun H1 locs1 hP1 hS1 => ?_)
    refine lv_goto (tgt := 21) C.1.1.1 C.1.1.2.1 dL_confessing_10 (by decide) ?_
    refine lv_iconst C.1.1.1 C.1.1.2.1 dL_confessing_21 rfl ?_
    exact l_ret C hP1 hS1 (Nat.le_of_ble_eq_true rfl) (Nat.le_of_ble_eq_true rfl) dL_confessing_22
  · rw [show lrow f o = _ from if_neg h0]
    rcases ho.resolve_left h0 with h1 | h1
    · rewrite [h1] at hcl ⊢
      refine l_catchA C O lx_18 (Or.inl rfl) (by decide) (fun x hx => by cases hx; decide) hc hv hcl ?_
      refine lv_astore C.1.1.1 C.1.1.2.1 dL_confessing_13 hl (by decide) rfl (fun ls9 hl9 => ?_)
      refine lv_iconst C.1.1.1 C.1.1.2.1 dL_confessing_15 rfl ?_
      exact l_ret C hP1 hS1 (Nat.le_of_ble_eq_true rfl) (Nat.le_of_ble_eq_true rfl) dL_confessing_16
    · rewrite [h1] at hcl ⊢
      refine l_catchB C O lx_18 lx_13 (by decide) (by decide) (fun x hx => by cases hx; rfl) (fun x hx => by cases hx; decide) hc hv hcl ?_
      refine lv_astore C.1.1.1 C.1.1.2.1 dL_confessing_17 hl (by decide) rfl (fun ls9 hl9 => ?_)
      refine lv_iconst C.1.1.1 C.1.1.2.1 dL_confessing_19 rfl ?_
      exact l_ret C hP1 hS1 (Nat.le_of_ble_eq_true rfl) (Nat.le_of_ble_eq_true rfl) dL_confessing_20
theorem kL_see {l : Launch} {D : va_G} {g : Nat → Nat} {cI cB cZ cQ cJ : ClassId} {aO : Nat} {Am : (Nat → Prop) → State → Heap → Prop} {aK aV : Nat → Nat} (O : tO l g cI cB cZ cQ Am aK aV) (P : gAm Am) (hg : ∀ k, k ∈ xord → g k ≠ aO) (N : Nat) (x1 : Int32) (x2 : Int32) (x3 : Int32) (S : gS) (f : Nat → Int64) (o : tR) (hF : fX11_see N x1 x2 x3 S = some o) (ho : o.1 = 0 ∨ o.1 = 1) : lM l yL_see cL_see 6 [(0, 12, 15, 18)] 8 1 D g cI cB cZ cQ cJ aO Am [.ref (g 0), .int x1, .int x2, .int x3, .ref aO] S f (lcA o.1) o.2.2 (lrow f o) := by
  refine lM_of P (by decide) rfl hg (Nat.le_of_ble_eq_true rfl) ?_
  intro p e s m args below meth c ls C hP hl
  refine lv_aload C.1.1.1 C.1.1.2.1 dL_see_0 (lv_at hl 4 rfl) ?_
  refine lv_iconst C.1.1.1 C.1.1.2.1 dL_see_2 rfl ?_
  refine lv_aload_n C.1.1.1 C.1.1.2.1 dL_see_3 rfl (lv_at hl 0 rfl) ?_
  refine lv_iload_n C.1.1.1 C.1.1.2.1 dL_see_4 rfl (lv_at hl 1 rfl) ?_
  refine lv_iload_n C.1.1.1 C.1.1.2.1 dL_see_5 rfl (lv_at hl 2 rfl) ?_
  refine lv_iload_n C.1.1.1 C.1.1.2.1 dL_see_6 rfl (lv_at hl 3 rfl) ?_
  refine l_call hg hP (t_preV C.1 ⟨hP.1, va_S.rf⟩ xv_L_90 (ci := 11) rfl rfl (gw_get (q := 0) (k := 0) rfl (x_c11 g cI cB cZ cQ S (k := 0) rfl)) (kX11_see O P N x1 x2 x3 S o hF) (Nat.le_of_ble_eq_true rfl) (Nat.le_of_ble_eq_true rfl) (Nat.le_of_ble_eq_true rfl) (Nat.le_of_ble_eq_true rfl) rfl hl.1 rfl (Nat.le_of_ble_eq_true rfl) dL_see_7) (fun h0 H1 locs1 hP1 hS1 => ?_) (fun h0 q ce H1 locs1 hP1 hS1 hc hv hcl => ?_)
  · rw [show lcA o.1 = 0 from if_pos h0, show lrow f o = _ from if_pos h0]
    refine lv_i2l C.1.1.1 C.1.1.2.1 dL_see_10 rfl ?_
    refine l_lay O.1.1.1 C hP1 hS1 dL_see_11 (fun H1 locs1 hP1 hS1 => ?_)
    refine lv_goto (tgt := 19) C.1.1.1 C.1.1.2.1 dL_see_12 (by decide) ?_
    refine lv_iconst C.1.1.1 C.1.1.2.1 dL_see_19 rfl ?_
    exact l_ret C hP1 hS1 (Nat.le_of_ble_eq_true rfl) (Nat.le_of_ble_eq_true rfl) dL_see_20
  · have h1 : o.1 = 1 := ho.resolve_left h0
    rw [show lcA o.1 = 1 from if_neg h0, show lrow f o = _ from if_neg h0]
    rewrite [h1] at hcl
    refine l_catchA C O lx_18 (Or.inl rfl) (by decide) (fun x hx => by cases hx; decide) hc hv hcl ?_
    refine lv_astore C.1.1.1 C.1.1.2.1 dL_see_15 hl (by decide) rfl (fun ls9 hl9 => ?_)
    refine lv_iconst C.1.1.1 C.1.1.2.1 dL_see_17 rfl ?_
    exact l_ret C hP1 hS1 (Nat.le_of_ble_eq_true rfl) (Nat.le_of_ble_eq_true rfl) dL_see_18
theorem kL_greedy {l : Launch} {D : va_G} {g : Nat → Nat} {cI cB cZ cQ cJ : ClassId} {aO : Nat} {Am : (Nat → Prop) → State → Heap → Prop} {aK aV : Nat → Nat} (O : tO l g cI cB cZ cQ Am aK aV) (P : gAm Am) (hg : ∀ k, k ∈ xord → g k ≠ aO) (N : Nat) (x1 : Int32) (S : gS) (f : Nat → Int64) (o : tR) (hF : fX11_greedy N x1 S = some o) (ho : o.1 = 0 ∨ o.1 = 1) : lM l yL_greedy cL_greedy 4 [(0, 9, 12, 18)] 8 1 D g cI cB cZ cQ cJ aO Am [.ref (g 0), .int x1, .ref aO] S f (lcA o.1) o.2.2 (lrow f o) := by
  refine lM_of P (by decide) rfl hg (Nat.le_of_ble_eq_true rfl) ?_
  intro p e s m args below meth c ls C hP hl
  refine lv_aload_n C.1.1.1 C.1.1.2.1 dL_greedy_0 rfl (lv_at hl 2 rfl) ?_
  refine lv_iconst C.1.1.1 C.1.1.2.1 dL_greedy_1 rfl ?_
  refine lv_aload_n C.1.1.1 C.1.1.2.1 dL_greedy_2 rfl (lv_at hl 0 rfl) ?_
  refine lv_iload_n C.1.1.1 C.1.1.2.1 dL_greedy_3 rfl (lv_at hl 1 rfl) ?_
  refine l_call hg hP (t_preV C.1 ⟨hP.1, va_S.rf⟩ xv_L_93 (ci := 11) rfl rfl (gw_get (q := 0) (k := 0) rfl (x_c11 g cI cB cZ cQ S (k := 0) rfl)) (kX11_greedy O P N x1 S o hF) (Nat.le_of_ble_eq_true rfl) (Nat.le_of_ble_eq_true rfl) (Nat.le_of_ble_eq_true rfl) (Nat.le_of_ble_eq_true rfl) rfl hl.1 rfl (Nat.le_of_ble_eq_true rfl) dL_greedy_4) (fun h0 H1 locs1 hP1 hS1 => ?_) (fun h0 q ce H1 locs1 hP1 hS1 hc hv hcl => ?_)
  · rw [show lcA o.1 = 0 from if_pos h0, show lrow f o = _ from if_pos h0]
    refine lv_i2l C.1.1.1 C.1.1.2.1 dL_greedy_7 rfl ?_
    refine l_lay O.1.1.1 C hP1 hS1 dL_greedy_8 (fun H1 locs1 hP1 hS1 => ?_)
    refine lv_goto (tgt := 15) C.1.1.1 C.1.1.2.1 dL_greedy_9 (by decide) ?_
    refine lv_iconst C.1.1.1 C.1.1.2.1 dL_greedy_15 rfl ?_
    exact l_ret C hP1 hS1 (Nat.le_of_ble_eq_true rfl) (Nat.le_of_ble_eq_true rfl) dL_greedy_16
  · have h1 : o.1 = 1 := ho.resolve_left h0
    rw [show lcA o.1 = 1 from if_neg h0, show lrow f o = _ from if_neg h0]
    rewrite [h1] at hcl
    refine l_catchA C O lx_18 (Or.inl rfl) (by decide) (fun x hx => by cases hx; decide) hc hv hcl ?_
    refine lv_astore_n C.1.1.1 C.1.1.2.1 dL_greedy_12 rfl hl (by decide) rfl (fun ls9 hl9 => ?_)
    refine lv_iconst C.1.1.1 C.1.1.2.1 dL_greedy_13 rfl ?_
    exact l_ret C hP1 hS1 (Nat.le_of_ble_eq_true rfl) (Nat.le_of_ble_eq_true rfl) dL_greedy_14
theorem kL_look {l : Launch} {D : va_G} {g : Nat → Nat} {cI cB cZ cQ cJ : ClassId} {aO : Nat} {Am : (Nat → Prop) → State → Heap → Prop} {aK aV : Nat → Nat} (O : tO l g cI cB cZ cQ Am aK aV) (P : gAm Am) (hg : ∀ k, k ∈ xord → g k ≠ aO) (N : Nat) (x1 : Int32) (S : gS) (f : Nat → Int64) (o : tR) (hF : fX11_look N x1 S = some o) (ho : o.1 = 0 ∨ o.1 = 1) : lM l yL_look cL_look 4 [(0, 9, 12, 18)] 8 1 D g cI cB cZ cQ cJ aO Am [.ref (g 0), .int x1, .ref aO] S f (lcA o.1) o.2.2 (lrow f o) := by
  refine lM_of P (by decide) rfl hg (Nat.le_of_ble_eq_true rfl) ?_
  intro p e s m args below meth c ls C hP hl
  refine lv_aload_n C.1.1.1 C.1.1.2.1 dL_look_0 rfl (lv_at hl 2 rfl) ?_
  refine lv_iconst C.1.1.1 C.1.1.2.1 dL_look_1 rfl ?_
  refine lv_aload_n C.1.1.1 C.1.1.2.1 dL_look_2 rfl (lv_at hl 0 rfl) ?_
  refine lv_iload_n C.1.1.1 C.1.1.2.1 dL_look_3 rfl (lv_at hl 1 rfl) ?_
  refine l_call hg hP (t_preV C.1 ⟨hP.1, va_S.rf⟩ xv_L_96 (ci := 11) rfl rfl (gw_get (q := 0) (k := 0) rfl (x_c11 g cI cB cZ cQ S (k := 0) rfl)) (kX11_look O P N x1 S o hF) (Nat.le_of_ble_eq_true rfl) (Nat.le_of_ble_eq_true rfl) (Nat.le_of_ble_eq_true rfl) (Nat.le_of_ble_eq_true rfl) rfl hl.1 rfl (Nat.le_of_ble_eq_true rfl) dL_look_4) (fun h0 H1 locs1 hP1 hS1 => ?_) (fun h0 q ce H1 locs1 hP1 hS1 hc hv hcl => ?_)
  · rw [show lcA o.1 = 0 from if_pos h0, show lrow f o = _ from if_pos h0]
    refine lv_i2l C.1.1.1 C.1.1.2.1 dL_look_7 rfl ?_
    refine l_lay O.1.1.1 C hP1 hS1 dL_look_8 (fun H1 locs1 hP1 hS1 => ?_)
    refine lv_goto (tgt := 15) C.1.1.1 C.1.1.2.1 dL_look_9 (by decide) ?_
    refine lv_iconst C.1.1.1 C.1.1.2.1 dL_look_15 rfl ?_
    exact l_ret C hP1 hS1 (Nat.le_of_ble_eq_true rfl) (Nat.le_of_ble_eq_true rfl) dL_look_16
  · have h1 : o.1 = 1 := ho.resolve_left h0
    rw [show lcA o.1 = 1 from if_neg h0, show lrow f o = _ from if_neg h0]
    rewrite [h1] at hcl
    refine l_catchA C O lx_18 (Or.inl rfl) (by decide) (fun x hx => by cases hx; decide) hc hv hcl ?_
    refine lv_astore_n C.1.1.1 C.1.1.2.1 dL_look_12 rfl hl (by decide) rfl (fun ls9 hl9 => ?_)
    refine lv_iconst C.1.1.1 C.1.1.2.1 dL_look_13 rfl ?_
    exact l_ret C hP1 hS1 (Nat.le_of_ble_eq_true rfl) (Nat.le_of_ble_eq_true rfl) dL_look_14
theorem kL_drought {l : Launch} {D : va_G} {g : Nat → Nat} {cI cB cZ cQ cJ : ClassId} {aO : Nat} {Am : (Nat → Prop) → State → Heap → Prop} {aK aV : Nat → Nat} (O : tO l g cI cB cZ cQ Am aK aV) (P : gAm Am) (hg : ∀ k, k ∈ xord → g k ≠ aO) (N : Nat) (x1 : Int32) (x2 : Int32) (x3 : Int32) (S : gS) (f : Nat → Int64) (o : tR) (hF : fX11_drought N x1 x2 x3 S = some o) (ho : o.1 = 0 ∨ o.1 = 1 ∨ o.1 = 2) : lM l yL_drought cL_drought 6 [(0, 12, 15, 18), (0, 12, 19, 13)] 8 3 D g cI cB cZ cQ cJ aO Am [.ref (g 0), .int x1, .int x2, .int x3, .ref aO] S f (lcC o.1) o.2.2 (lrow f o) := by
  refine lM_of P (by decide) rfl hg (Nat.le_of_ble_eq_true rfl) ?_
  intro p e s m args below meth c ls C hP hl
  refine lv_aload C.1.1.1 C.1.1.2.1 dL_drought_0 (lv_at hl 4 rfl) ?_
  refine lv_iconst C.1.1.1 C.1.1.2.1 dL_drought_2 rfl ?_
  refine lv_aload_n C.1.1.1 C.1.1.2.1 dL_drought_3 rfl (lv_at hl 0 rfl) ?_
  refine lv_iload_n C.1.1.1 C.1.1.2.1 dL_drought_4 rfl (lv_at hl 1 rfl) ?_
  refine lv_iload_n C.1.1.1 C.1.1.2.1 dL_drought_5 rfl (lv_at hl 2 rfl) ?_
  refine lv_iload_n C.1.1.1 C.1.1.2.1 dL_drought_6 rfl (lv_at hl 3 rfl) ?_
  refine l_call hg hP (t_preV C.1 ⟨hP.1, va_S.rf⟩ xv_L_99 (ci := 11) rfl rfl (gw_get (q := 0) (k := 0) rfl (x_c11 g cI cB cZ cQ S (k := 0) rfl)) (kX11_drought O P N x1 x2 x3 S o hF) (Nat.le_of_ble_eq_true rfl) (Nat.le_of_ble_eq_true rfl) (Nat.le_of_ble_eq_true rfl) (Nat.le_of_ble_eq_true rfl) rfl hl.1 rfl (Nat.le_of_ble_eq_true rfl) dL_drought_7) (fun h0 H1 locs1 hP1 hS1 => ?_) (fun h0 q ce H1 locs1 hP1 hS1 hc hv hcl => ?_)
  · rw [show lcC o.1 = 0 from if_pos h0, show lrow f o = _ from if_pos h0]
    refine lv_i2l C.1.1.1 C.1.1.2.1 dL_drought_10 rfl ?_
    refine l_lay O.1.1.1 C hP1 hS1 dL_drought_11 (fun H1 locs1 hP1 hS1 => ?_)
    refine lv_goto (tgt := 23) C.1.1.1 C.1.1.2.1 dL_drought_12 (by decide) ?_
    refine lv_iconst C.1.1.1 C.1.1.2.1 dL_drought_23 rfl ?_
    exact l_ret C hP1 hS1 (Nat.le_of_ble_eq_true rfl) (Nat.le_of_ble_eq_true rfl) dL_drought_24
  · rw [show lrow f o = _ from if_neg h0]
    rcases ho.resolve_left h0 with h1 | h1
    · rewrite [h1] at hcl ⊢
      refine l_catchA C O lx_18 (Or.inl rfl) (by decide) (fun x hx => by cases hx; decide) hc hv hcl ?_
      refine lv_astore C.1.1.1 C.1.1.2.1 dL_drought_15 hl (by decide) rfl (fun ls9 hl9 => ?_)
      refine lv_iconst C.1.1.1 C.1.1.2.1 dL_drought_17 rfl ?_
      exact l_ret C hP1 hS1 (Nat.le_of_ble_eq_true rfl) (Nat.le_of_ble_eq_true rfl) dL_drought_18
    · rewrite [h1] at hcl ⊢
      refine l_catchB C O lx_18 lx_13 (by decide) (by decide) (fun x hx => by cases hx; rfl) (fun x hx => by cases hx; decide) hc hv hcl ?_
      refine lv_astore C.1.1.1 C.1.1.2.1 dL_drought_19 hl (by decide) rfl (fun ls9 hl9 => ?_)
      refine lv_iconst C.1.1.1 C.1.1.2.1 dL_drought_21 rfl ?_
      exact l_ret C hP1 hS1 (Nat.le_of_ble_eq_true rfl) (Nat.le_of_ble_eq_true rfl) dL_drought_22
theorem kL_game {l : Launch} {D : va_G} {g : Nat → Nat} {cI cB cZ cQ cJ : ClassId} {aO : Nat} {Am : (Nat → Prop) → State → Heap → Prop} {aK aV : Nat → Nat} (O : tO l g cI cB cZ cQ Am aK aV) (P : gAm Am) (hg : ∀ k, k ∈ xord → g k ≠ aO) (N : Nat) (x1 : Int32) (x2 : Int32) (x3 : Int32) (S : gS) (f : Nat → Int64) (o : tR) (hF : fX11_game N x1 x2 x3 S = some o) (ho : o.1 = 0 ∨ o.1 = 1 ∨ o.1 = 2) : lM l yL_game cL_game 6 [(0, 12, 15, 18), (0, 12, 19, 13)] 8 4 D g cI cB cZ cQ cJ aO Am [.ref (g 0), .int x1, .int x2, .int x3, .ref aO] S f (lcC o.1) o.2.2 (lrow f o) := by
  refine lM_of P (by decide) rfl hg (Nat.le_of_ble_eq_true rfl) ?_
  intro p e s m args below meth c ls C hP hl
  refine lv_aload C.1.1.1 C.1.1.2.1 dL_game_0 (lv_at hl 4 rfl) ?_
  refine lv_iconst C.1.1.1 C.1.1.2.1 dL_game_2 rfl ?_
  refine lv_aload_n C.1.1.1 C.1.1.2.1 dL_game_3 rfl (lv_at hl 0 rfl) ?_
  refine lv_iload_n C.1.1.1 C.1.1.2.1 dL_game_4 rfl (lv_at hl 1 rfl) ?_
  refine lv_iload_n C.1.1.1 C.1.1.2.1 dL_game_5 rfl (lv_at hl 2 rfl) ?_
  refine lv_iload_n C.1.1.1 C.1.1.2.1 dL_game_6 rfl (lv_at hl 3 rfl) ?_
  refine l_call hg hP (t_preV C.1 ⟨hP.1, va_S.rf⟩ xv_L_102 (ci := 11) rfl rfl (gw_get (q := 0) (k := 0) rfl (x_c11 g cI cB cZ cQ S (k := 0) rfl)) (kX11_game O P N x1 x2 x3 S o hF) (Nat.le_of_ble_eq_true rfl) (Nat.le_of_ble_eq_true rfl) (Nat.le_of_ble_eq_true rfl) (Nat.le_of_ble_eq_true rfl) rfl hl.1 rfl (Nat.le_of_ble_eq_true rfl) dL_game_7) (fun h0 H1 locs1 hP1 hS1 => ?_) (fun h0 q ce H1 locs1 hP1 hS1 hc hv hcl => ?_)
  · rw [show lcC o.1 = 0 from if_pos h0, show lrow f o = _ from if_pos h0]
    refine lv_i2l C.1.1.1 C.1.1.2.1 dL_game_10 rfl ?_
    refine l_lay O.1.1.1 C hP1 hS1 dL_game_11 (fun H1 locs1 hP1 hS1 => ?_)
    refine lv_goto (tgt := 23) C.1.1.1 C.1.1.2.1 dL_game_12 (by decide) ?_
    refine lv_iconst C.1.1.1 C.1.1.2.1 dL_game_23 rfl ?_
    exact l_ret C hP1 hS1 (Nat.le_of_ble_eq_true rfl) (Nat.le_of_ble_eq_true rfl) dL_game_24
  · rw [show lrow f o = _ from if_neg h0]
    rcases ho.resolve_left h0 with h1 | h1
    · rewrite [h1] at hcl ⊢
      refine l_catchA C O lx_18 (Or.inl rfl) (by decide) (fun x hx => by cases hx; decide) hc hv hcl ?_
      refine lv_astore C.1.1.1 C.1.1.2.1 dL_game_15 hl (by decide) rfl (fun ls9 hl9 => ?_)
      refine lv_iconst C.1.1.1 C.1.1.2.1 dL_game_17 rfl ?_
      exact l_ret C hP1 hS1 (Nat.le_of_ble_eq_true rfl) (Nat.le_of_ble_eq_true rfl) dL_game_18
    · rewrite [h1] at hcl ⊢
      refine l_catchB C O lx_18 lx_13 (by decide) (by decide) (fun x hx => by cases hx; rfl) (fun x hx => by cases hx; decide) hc hv hcl ?_
      refine lv_astore C.1.1.1 C.1.1.2.1 dL_game_19 hl (by decide) rfl (fun ls9 hl9 => ?_)
      refine lv_iconst C.1.1.1 C.1.1.2.1 dL_game_21 rfl ?_
      exact l_ret C hP1 hS1 (Nat.le_of_ble_eq_true rfl) (Nat.le_of_ble_eq_true rfl) dL_game_22
theorem kL_years {l : Launch} {D : va_G} {g : Nat → Nat} {cI cB cZ cQ cJ : ClassId} {aO : Nat} {Am : (Nat → Prop) → State → Heap → Prop} {aK aV : Nat → Nat} (O : tO l g cI cB cZ cQ Am aK aV) (P : gAm Am) (hg : ∀ k, k ∈ xord → g k ≠ aO) (N : Nat) (x1 : Int32) (x2 : Int32) (x3 : Int32) (S : gS) (f : Nat → Int64) (o : tR) (hF : fX11_years N x1 x2 x3 S = some o) (ho : o.1 = 0 ∨ o.1 = 1 ∨ o.1 = 2) : lM l yL_years cL_years 6 [(0, 12, 15, 18), (0, 12, 19, 13)] 8 2 D g cI cB cZ cQ cJ aO Am [.ref (g 0), .int x1, .int x2, .int x3, .ref aO] S f (lcC o.1) o.2.2 (lrow f o) := by
  refine lM_of P (by decide) rfl hg (Nat.le_of_ble_eq_true rfl) ?_
  intro p e s m args below meth c ls C hP hl
  refine lv_aload C.1.1.1 C.1.1.2.1 dL_years_0 (lv_at hl 4 rfl) ?_
  refine lv_iconst C.1.1.1 C.1.1.2.1 dL_years_2 rfl ?_
  refine lv_aload_n C.1.1.1 C.1.1.2.1 dL_years_3 rfl (lv_at hl 0 rfl) ?_
  refine lv_iload_n C.1.1.1 C.1.1.2.1 dL_years_4 rfl (lv_at hl 1 rfl) ?_
  refine lv_iload_n C.1.1.1 C.1.1.2.1 dL_years_5 rfl (lv_at hl 2 rfl) ?_
  refine lv_iload_n C.1.1.1 C.1.1.2.1 dL_years_6 rfl (lv_at hl 3 rfl) ?_
  refine l_call hg hP (t_preV C.1 ⟨hP.1, va_S.rf⟩ xv_L_105 (ci := 11) rfl rfl (gw_get (q := 0) (k := 0) rfl (x_c11 g cI cB cZ cQ S (k := 0) rfl)) (kX11_years O P N x1 x2 x3 S o hF) (Nat.le_of_ble_eq_true rfl) (Nat.le_of_ble_eq_true rfl) (Nat.le_of_ble_eq_true rfl) (Nat.le_of_ble_eq_true rfl) rfl hl.1 rfl (Nat.le_of_ble_eq_true rfl) dL_years_7) (fun h0 H1 locs1 hP1 hS1 => ?_) (fun h0 q ce H1 locs1 hP1 hS1 hc hv hcl => ?_)
  · rw [show lcC o.1 = 0 from if_pos h0, show lrow f o = _ from if_pos h0]
    refine lv_i2l C.1.1.1 C.1.1.2.1 dL_years_10 rfl ?_
    refine l_lay O.1.1.1 C hP1 hS1 dL_years_11 (fun H1 locs1 hP1 hS1 => ?_)
    refine lv_goto (tgt := 23) C.1.1.1 C.1.1.2.1 dL_years_12 (by decide) ?_
    refine lv_iconst C.1.1.1 C.1.1.2.1 dL_years_23 rfl ?_
    exact l_ret C hP1 hS1 (Nat.le_of_ble_eq_true rfl) (Nat.le_of_ble_eq_true rfl) dL_years_24
  · rw [show lrow f o = _ from if_neg h0]
    rcases ho.resolve_left h0 with h1 | h1
    · rewrite [h1] at hcl ⊢
      refine l_catchA C O lx_18 (Or.inl rfl) (by decide) (fun x hx => by cases hx; decide) hc hv hcl ?_
      refine lv_astore C.1.1.1 C.1.1.2.1 dL_years_15 hl (by decide) rfl (fun ls9 hl9 => ?_)
      refine lv_iconst C.1.1.1 C.1.1.2.1 dL_years_17 rfl ?_
      exact l_ret C hP1 hS1 (Nat.le_of_ble_eq_true rfl) (Nat.le_of_ble_eq_true rfl) dL_years_18
    · rewrite [h1] at hcl ⊢
      refine l_catchB C O lx_18 lx_13 (by decide) (by decide) (fun x hx => by cases hx; rfl) (fun x hx => by cases hx; decide) hc hv hcl ?_
      refine lv_astore C.1.1.1 C.1.1.2.1 dL_years_19 hl (by decide) rfl (fun ls9 hl9 => ?_)
      refine lv_iconst C.1.1.1 C.1.1.2.1 dL_years_21 rfl ?_
      exact l_ret C hP1 hS1 (Nat.le_of_ble_eq_true rfl) (Nat.le_of_ble_eq_true rfl) dL_years_22
end

/-! part 21.alaw -/
section
/-! THE LAW'S BODY: the worlds of class and reference side by side, and the row out -/
theorem gA_all {ord : List Nat} {adr : Nat → Nat} {sz : Nat} (h : ∀ k, k ∈ ord → sz ≤ adr k) : gA ord adr sz = fun q => sz ≤ q := by
  funext q
  apply propext
  constructor
  · rintro (⟨k, hk, rfl⟩ | h1)
    · exact h k hk
    · exact h1
  · exact Or.inr
def Lsp (g g2 : Nat → Nat) (aO b sz : Nat) : Prop :=
  (∀ k, k ∈ xord → sz ≤ g k ∧ g k ≠ aO ∧ ∀ j, j ∈ mord → g k ≠ g2 j) ∧ (∀ j, j ∈ mord → sz ≤ g2 j ∧ g2 j ≠ aO) ∧ sz ≤ aO ∧ b < sz
def LX (D : va_G) (g g2 : Nat → Nat) (cI cB cZ cQ cS cJ : ClassId) (aK : Nat → Nat) (aO b L : Nat) (xs : Nat → Int32) (SX SM : gS) (f : Nat → Int64) (s : State) (H : Heap) (locs : List Loc) : Prop :=
  gX D (xcell g cI cB cZ cQ) xord g SX s H locs ∧ gX D (mcell g2 cI cS (msa aK)) mord g2 SM s H locs ∧ va_P D vwCl [(aO, .inl (cJ, 1, .inr (.inl f)))] H ∧ va_X b L xs s H
section LAW2
variable {p : Program} {l : Launch} {e : Env} {R : Room} {s : State} {m : MethodId} {args : Array Value} {below : List Frame} {meth : Method} {c : Code} {H : Heap} {locs : List Loc} {cs sl : Nat} {Q : State → Prop} {Am Am2 : (Nat → Prop) → State → Heap → Prop}
variable {cc cy : ByteArray} {nL mL pc n index d u : Nat} {own : String} {hh : List (Nat × Nat × Nat × Nat)} {ret rt : Option FieldType} {D : va_G} {tys : List (ClassId × FieldType)} {cell : gS → Nat → Nat × va_E} {ord : List Nat} {adr : Nat → Nat} {S S' : gS} {g g2 : Nat → Nat} {cI cB cZ cQ cS cJ : ClassId} {aO b L : Nat} {xs : Nat → Int32} {SX SM SX' SM' : gS} {f f' : Nat → Int64} {ls : Array Slot} {rest As av : List Value} {y : MethodName} {v : Option Value} {k : Int32} {aK aV : Nat → Nat}
theorem g_backF {st0 : List Value} {a : Array Value} (hr : va_Run p l e R s m args below meth c H locs cs sl 0 0 (F0 m pc ls st0) rest (gQ D tys cell ord adr H.size v S' a) (gA ord adr H.size)) (X : gX D cell ord adr S s H locs)
    (kk : ∀ (H1 : Heap) (locs1 : List Loc), gX D cell ord adr S' s H1 locs1 → (∀ q : Nat, q < H.size → ¬ gA ord adr H.size q → H1[q]? = H[q]?) → W p l e R s m args below meth c H1 locs1 cs sl Q (F0 m (pc + 3) ls (v.toList ++ rest))) : W p l e R s m args below meth c H locs cs sl Q (F0 m pc ls st0) := by
  intro T hT X0
  obtain ⟨v', st₀, t, T', L, h0, X', hL, e1, e2, ⟨⟨hv, hP, hK⟩, hz, hk⟩, st⟩ := hr T hT X0
  cases hv
  rewrite [h0] at hz hk
  have hAA : ∀ q, gA ord adr H.size q → gA ord adr s.heap.size q := fun q hq => hq.elim Or.inl (fun h => Or.inr (Nat.le_trans X.2.1 h))
  obtain ⟨t2, a1, b1⟩ := kk T'.heap (locs ++ L) ⟨by rw [e1]; exact hP, Nat.le_trans X.2.1 (by rw [e1]; exact hz), fun q h1 h2 => by rw [e1, hk q (Nat.lt_of_lt_of_le h1 X.2.1) (fun z => h2 (hAA q z))]; exact X.2.2.1 q h1 h2, fun q hq => by
      rcases List.mem_append.mp hq with h | h
      · exact X.2.2.2 q h
      · exact hAA _ (hL q h)⟩ (by rw [e1]; exact hk) T' rfl X'
  exact ⟨t2, st t2 a1, b1⟩
theorem g_callVF (C : gC p s m args meth c cc nL own ret D tys ord adr Am) (X : gX D cell ord adr S s H locs) (w : gWV own index y cy mL rt n) {b q0 ci : Nat} {fs : List Value} {qc : vw_C} (hc : vwCl[ci]? = some qc) (hqc : qc.1 = y.cls) (he : (gw cell ord S)[q0]? = some (b, .inr (ci, fs)))
    (hM : gM l y cy mL rt d D tys cell ord adr Am (.ref b :: As) S v S') (hR : d + 1 ≤ R.frames) (hR2 : 8 + (mL + 11) + (40 * d + 13) ≤ R.locals) (hcs : cs ≤ R.cells) (hsl : sl ≤ R.slots) (hn : As.length = n) (hls : ls.size = nL) {st : List Value} (hst : st = As.reverse ++ .ref b :: rest) (hrest : (rest.map fun v => v.category).sum ≤ 8) (hdg : decode cc pc = .ok (.invokevirtual index, 3))
    (kk : ∀ (H1 : Heap) (locs1 : List Loc), gX D cell ord adr S' s H1 locs1 → (∀ q : Nat, q < H.size → ¬ gA ord adr H.size q → H1[q]? = H[q]?) → W p l e R s m args below meth c H1 locs1 cs sl Q (F0 m (pc + 3) ls (v.toList ++ rest))) : W p l e R s m args below meth c H locs cs sl Q (F0 m pc ls st) := by
  subst hst
  refine g_backF (va_runV C.1 (hM H.size) (cwV n C.1.2.2.2.2 (gT_in (fun w' h => ?_)) rfl rfl rfl ⟨rfl, w.2.2.2.2.2⟩ ⟨hR, hR2⟩) ⟨(g_pre C X).1, ?_, (g_pre C X).2⟩ rfl hn hls rfl (lv_room hrest) hdg ⟨hcs, hsl⟩) X kk
  · unfold wsV at h
    rcases List.mem_append.mp h with h | h
    · simp only [List.mem_cons, List.not_mem_nil, or_false] at h
      rcases h with rfl | rfl | rfl | rfl
      · exact w.1
      · exact w.2.1
      · exact w.2.2.1
      · exact w.2.2.2.1
    · rcases List.mem_cons.mp h with rfl | h
      · exact w.2.2.2.2.1
      · exact h
  · have := va_recv C.2.1 X.1 hc he
    rewrite [hqc] at this
    exact this
theorem Lsp.allX (hs : Lsp g g2 aO b s.heap.size) : gA xord g s.heap.size = fun q => s.heap.size ≤ q := gA_all (fun k hk => (hs.1 k hk).1)
theorem Lsp.allM (hs : Lsp g g2 aO b s.heap.size) : gA mord g2 s.heap.size = fun q => s.heap.size ≤ q := gA_all (fun k hk => (hs.2.1 k hk).1)
/-- what stays of the worlds when a call has changed new cells alone -/
theorem LX_keep {H1 : Heap} {B : Nat → Prop} (hs : Lsp g g2 aO b s.heap.size) (X : LX D g g2 cI cB cZ cQ cS cJ aK aO b L xs SX SM f s H locs) (hB : ∀ q, B q → s.heap.size ≤ q) (hk : ∀ q : Nat, q < H.size → ¬ B q → H1[q]? = H[q]?) : va_X b L xs s H1 := by
  obtain ⟨scr, h1, h2⟩ := X.2.2.2
  refine ⟨scr, ?_, h2⟩
  rw [hk b (Nat.lt_of_lt_of_le hs.2.2.2 X.1.2.1) (fun z => absurd (hB b z) (Nat.not_le.mpr hs.2.2.2))]
  exact h1
theorem LX_out {H1 : Heap} {B : Nat → Prop} (X : LX D g g2 cI cB cZ cQ cS cJ aK aO b L xs SX SM f s H locs) (hB : ¬ B aO) (hk : ∀ q : Nat, q < H.size → ¬ B q → H1[q]? = H[q]?) : va_P D vwCl [(aO, .inl (cJ, 1, .inr (.inl f)))] H1 := by
  refine X.2.2.1.kept (fun i q hq => ?_)
  have h3 := (X.2.2.1 i q hq).lt
  have h2 : q.1 = aO := by
    cases i with
    | zero => cases Option.some.inj hq; rfl
    | succ i => cases hq
  rewrite [h2] at h3 ⊢
  exact hk aO h3 hB
theorem LX_gX {H1 : Heap} {locs1 : List Loc} {B : Nat → Prop} {cell2 : gS → Nat → Nat × va_E} {ord2 : List Nat} {adr2 : Nat → Nat} {S2 : gS} (O : gO cell2 ord2 adr2) (X : gX D cell2 ord2 adr2 S2 s H locs) (hB : ∀ k, k ∈ ord2 → ¬ B (adr2 k)) (hk : ∀ q : Nat, q < H.size → ¬ B q → H1[q]? = H[q]?) (hS : va_S (gA ord2 adr2 s.heap.size) s.heap H1 locs1) : gX D cell2 ord2 adr2 S2 s H1 locs1 := by
  refine ⟨X.1.kept (fun i q hq => ?_), hS⟩
  have h3 := (X.1 i q hq).lt
  obtain ⟨k, hk2, rfl⟩ := gw_of hq
  rewrite [O.2.1] at h3 ⊢
  exact hk _ h3 (hB k (List.mem_of_getElem? hk2))
theorem LX_lt (O : gO cell ord adr) (X : gX D cell ord adr S s H locs) {k : Nat} (hk : k ∈ ord) : adr k < H.size := by
  obtain ⟨i, hi⟩ := List.mem_iff_getElem?.mp hk
  have h := (X.1 i _ (gw_get hi rfl)).lt
  rewrite [O.2.1] at h
  exact h
theorem L_callX (OX : gO (xcell g cI cB cZ cQ) xord g) (OM : gO (mcell g2 cI cS (msa aK)) mord g2) (hs : Lsp g g2 aO b s.heap.size) (C : gC p s m args meth c cc nL own ret D (xtys cI cB cZ cQ) xord g Am) (X : LX D g g2 cI cB cZ cQ cS cJ aK aO b L xs SX SM f s H locs) (w : gWV own index y cy mL rt n) (hy : RX11 = y.cls)
    (hM : gM l y cy mL rt d D (xtys cI cB cZ cQ) (xcell g cI cB cZ cQ) xord g Am (.ref (g 0) :: As) SX v SX') (hR : d + 1 ≤ R.frames) (hR2 : 8 + (mL + 11) + (40 * d + 13) ≤ R.locals) (hcs : cs ≤ R.cells) (hsl : sl ≤ R.slots) (hn : As.length = n) (hls : ls.size = nL) {st : List Value} (hst : st = As.reverse ++ .ref (g 0) :: rest) (hrest : (rest.map fun v => v.category).sum ≤ 8) (hdg : decode cc pc = .ok (.invokevirtual index, 3))
    (kk : ∀ (H1 : Heap) (locs1 : List Loc), LX D g g2 cI cB cZ cQ cS cJ aK aO b L xs SX' SM f s H1 locs1 → W p l e R s m args below meth c H1 locs1 cs sl Q (F0 m (pc + 3) ls (v.toList ++ rest))) : W p l e R s m args below meth c H locs cs sl Q (F0 m pc ls st) := by
  refine g_callVF C X.1 w (ci := 11) rfl hy (gw_get (q := 0) (k := 0) rfl (x_c11 g cI cB cZ cQ SX (k := 0) rfl)) hM hR hR2 hcs hsl hn hls hst hrest hdg (fun H1 locs1 h1 h2 => kk H1 locs1 ⟨h1, ?_, ?_, ?_⟩)
  · refine LX_gX OM X.2.1 (fun k hk => ?_) h2 ?_
    · rintro (⟨j, hj, h3⟩ | h3)
      · exact (hs.1 j hj).2.2 k hk h3.symm
      · exact absurd (LX_lt OM X.2.1 hk) (Nat.not_lt.mpr h3)
    · rw [hs.allM]
      have h4 := h1.2
      rewrite [hs.allX] at h4
      exact h4
  · refine LX_out X ?_ h2
    rintro (⟨j, hj, h3⟩ | h3)
    · exact (hs.1 j hj).2.1 h3.symm
    · exact absurd (X.2.2.1 0 _ rfl).lt (Nat.not_lt.mpr h3)
  · refine LX_keep hs X (fun q hq => ?_) h2
    rcases hq with ⟨j, hj, rfl⟩ | hq
    · exact (hs.1 j hj).1
    · exact Nat.le_trans X.1.2.1 hq
theorem L_callM (OX : gO (xcell g cI cB cZ cQ) xord g) (OM : gO (mcell g2 cI cS (msa aK)) mord g2) (hs : Lsp g g2 aO b s.heap.size) (C : gC p s m args meth c cc nL own ret D (mtys cI cS) mord g2 Am) (X : LX D g g2 cI cB cZ cQ cS cJ aK aO b L xs SX SM f s H locs) (w : gWV own index y cy mL rt n) (hy : RX12 = y.cls)
    (hM : gM l y cy mL rt d D (mtys cI cS) (mcell g2 cI cS (msa aK)) mord g2 Am (.ref (g2 99) :: As) SM v SM') (hR : d + 1 ≤ R.frames) (hR2 : 8 + (mL + 11) + (40 * d + 13) ≤ R.locals) (hcs : cs ≤ R.cells) (hsl : sl ≤ R.slots) (hn : As.length = n) (hls : ls.size = nL) {st : List Value} (hst : st = As.reverse ++ .ref (g2 99) :: rest) (hrest : (rest.map fun v => v.category).sum ≤ 8) (hdg : decode cc pc = .ok (.invokevirtual index, 3))
    (kk : ∀ (H1 : Heap) (locs1 : List Loc), LX D g g2 cI cB cZ cQ cS cJ aK aO b L xs SX SM' f s H1 locs1 → W p l e R s m args below meth c H1 locs1 cs sl Q (F0 m (pc + 3) ls (v.toList ++ rest))) : W p l e R s m args below meth c H locs cs sl Q (F0 m pc ls st) := by
  refine g_callVF C X.2.1 w (ci := 12) rfl hy (gw_get (q := 0) (k := 99) rfl rfl) hM hR hR2 hcs hsl hn hls hst hrest hdg (fun H1 locs1 h1 h2 => kk H1 locs1 ⟨?_, h1, ?_, ?_⟩)
  · refine LX_gX OX X.1 (fun k hk => ?_) h2 ?_
    · rintro (⟨j, hj, h3⟩ | h3)
      · exact (hs.1 k hk).2.2 j hj h3
      · exact absurd (LX_lt OX X.1 hk) (Nat.not_lt.mpr h3)
    · rw [hs.allX]
      have h4 := h1.2
      rewrite [hs.allM] at h4
      exact h4
  · refine LX_out X ?_ h2
    rintro (⟨j, hj, h3⟩ | h3)
    · exact (hs.2.1 j hj).2 h3.symm
    · exact absurd (X.2.2.1 0 _ rfl).lt (Nat.not_lt.mpr h3)
  · refine LX_keep hs X (fun q hq => ?_) h2
    rcases hq with ⟨j, hj, rfl⟩ | hq
    · exact (hs.2.1 j hj).1
    · exact Nat.le_trans X.1.2.1 hq
theorem L_callS (OX : gO (xcell g cI cB cZ cQ) xord g) (OM : gO (mcell g2 cI cS (msa aK)) mord g2) (hs : Lsp g g2 aO b s.heap.size) (C : gC p s m args meth c cc nL RL ret D (xtys cI cB cZ cQ) xord g Am) (K2 : va_K D vwCl [(cJ, .long)] s) (Nc : va_Nc (tE 2) (tE 1) s) (X : LX D g g2 cI cB cZ cQ cS cJ aK aO b L xs SX SM f s H locs)
    (w : Cond.methodLink RL index y ∈ gT ∧ Cond.static y ∈ gT ∧ Cond.initialized RL ∈ gT ∧ Cond.codeWith y cy mL (some .int) hh ∈ gT ∧ (y.cls ≠ "java/lang/invoke/MethodHandle" ∧ y.cls ≠ "java/lang/invoke/VarHandle" ∧ (parseMethodDescriptor y.desc).map (fun d => d.parameters.length) = some n)) (hyl : y.cls = RL)
    (hM : lM l y cy mL hh d u D g cI cB cZ cQ cJ aO Am As SX f k SX' f') (hR : d + 1 ≤ R.frames) (hR2 : 8 + (mL + 11) + (40 * d + 13) ≤ R.locals) (hcs : cs + u ≤ R.cells) (hsl : sl + 6 * u ≤ R.slots) (hn : As.length = n) (hls : ls.size = nL) {st : List Value} (hst : st = As.reverse ++ rest) (hrest : (rest.map fun v => v.category).sum ≤ 8) (hdg : decode cc pc = .ok (.invokestatic index, 3))
    (kk : ∀ (H1 : Heap) (locs1 : List Loc), LX D g g2 cI cB cZ cQ cS cJ aK aO b L xs SX' SM f' s H1 locs1 → W p l e R s m args below meth c H1 locs1 (cs + u) (sl + 6 * u) Q (F0 m (pc + 3) ls (.int k :: rest))) : W p l e R s m args below meth c H locs cs sl Q (F0 m pc ls st) := by
  subst hst
  have hG : GoodIn gT (va_wsS RL index y (Cond.codeWith y cy mL (some .int) hh :: gT)) := gT_in (fun w' h => by
    unfold va_wsS at h
    rewrite [hyl] at h
    rcases List.mem_append.mp h with h | h
    · simp only [List.mem_cons, List.not_mem_nil, or_false] at h
      rcases h with rfl | rfl | rfl
      · exact w.1
      · exact w.2.1
      · exact w.2.2.1
    · rcases List.mem_cons.mp h with rfl | h
      · exact w.2.2.2.1
      · exact h)
  have hp : PreS s H (va_Pc As (fun U => U.heap.size = H.size ∧ lP D g cI cB cZ cQ cJ aO SX f U.heap ∧ va_K D vwCl (xtys cI cB cZ cQ) U ∧ va_K D vwCl [(cJ, .long)] U ∧ Am (gA xord g H.size) U U.heap ∧ va_Nc (tE 2) (tE 1) U)) As := by
    refine ⟨fun a U g mk q => ?_, fun U hU hW => ?_⟩
    · obtain ⟨q0, q1, qP, qK, qK2, qY, qN⟩ := q
      exact ⟨q0, q1, qP, va_K.moved (u := U) (U := U.calling g mk a) (Vm.Alike.refl U.vm) qK, va_K.moved (u := U) (U := U.calling g mk a) (Vm.Alike.refl U.vm) qK2, C.2.2.2.2.1 _ _ U (U.calling g mk a) U.heap (State.WarmedH.refl U) qY (fun _ _ _ => rfl) (fun _ h => h), va_Nc.moved (u := U) (U := U.calling g mk a) (Vm.Alike.refl U.vm) qN⟩
    · have h9 := (g_pre C X.1 (a := As)).2 U hU hW
      exact ⟨rfl, by rw [hU], by rw [hU]; exact ⟨X.1.1, X.2.2.1⟩, va_K.moved hW.alike C.2.1, va_K.moved hW.alike K2, h9.2.2.2.2, va_Nc.moved hW.alike Nc⟩
  have hr := vx_runSW (locs := locs) (cells := cs) (slots := sl) (R := R) (rest := rest) (g := F0 m pc ls (As.reverse ++ rest)) (below := below) (meth := meth) (e := e) C.1 (hM H.size) (vx_cwSW n C.1.2.2.2.2 hG rfl rfl rfl w.2.2.2.2 ⟨hR, hR2⟩) hp rfl hn hls rfl (lv_room hrest) hdg ⟨hcs, hsl⟩
  intro T hT X0
  obtain ⟨v', st₀, t, T', L', h0, X', hL, e1, e2, ⟨⟨hv, hP⟩, hz, hk⟩, st⟩ := hr T hT X0
  cases hv
  rewrite [h0] at hz hk
  have hB : ∀ q, lA g aO H.size q → s.heap.size ≤ q := by
    rintro q ((⟨j, hj, rfl⟩ | hq) | rfl)
    · exact (hs.1 j hj).1
    · exact Nat.le_trans X.1.2.1 hq
    · exact hs.2.2.1
  have hk' : ∀ q : Nat, q < H.size → ¬ lA g aO H.size q → T'.heap[q]? = H[q]? := by rw [e1]; exact hk
  have hS : va_S (fun q => s.heap.size ≤ q) s.heap T'.heap (locs ++ L') := by
    refine ⟨Nat.le_trans X.1.2.1 (by rw [e1]; exact hz), fun q h1 h2 => ?_, fun q hq => ?_⟩
    · rw [hk' q (Nat.lt_of_lt_of_le h1 X.1.2.1) (fun z => h2 (hB q z))]
      refine X.1.2.2.1 q h1 ?_
      rw [hs.allX]
      exact h2
    · rcases List.mem_append.mp hq with h | h
      · have h5 := X.1.2.2.2 q h
        rewrite [hs.allX] at h5
        exact h5
      · exact hB _ (hL q h)
  obtain ⟨t2, a1, b1⟩ := kk T'.heap (locs ++ L') ⟨⟨by rw [e1]; exact hP.1, by rw [hs.allX]; exact hS⟩, LX_gX OM X.2.1 (fun k hk => by
      rintro ((⟨j, hj, h3⟩ | h3) | h3)
      · exact (hs.1 j hj).2.2 k hk h3.symm
      · exact absurd (LX_lt OM X.2.1 hk) (Nat.not_lt.mpr h3)
      · exact (hs.2.1 k hk).2 h3) hk' (by rw [hs.allM]; exact hS), by rw [e1]; exact hP.2, LX_keep hs X hB hk'⟩ T' rfl X'
  exact ⟨t2, st t2 a1, b1⟩
end LAW2
end

/-! part 21.blaws -/
section
/-! what each call owes: class and reference answer alike, and stay alike (printed by wip/whole/mklawb.py) -/
def okA (t : Nat) : Prop := t = 0 ∨ t = 1
def okB (t : Nat) : Prop := t = 0 ∨ t = 2
def okC (t : Nat) : Prop := t = 0 ∨ t = 1 ∨ t = 2
def StpT (J : gS → gS → Prop) (co : Nat → Int32) (ok : Nat → Prop) (FX : Nat → Option tR) (FM : Nat → Option (Int32 × gS)) : Prop := ∃ (N : Nat) (ox : tR) (M : Nat) (om : Int32 × gS), FX N = some ox ∧ FM M = some om ∧ ok ox.1 ∧ om.2 99 4 = co ox.1 ∧ (ox.1 = 0 → ox.2.1 = om.1) ∧ J ox.2.2 om.2
def StpV (J : gS → gS → Prop) (FX FM : Nat → Option (Int32 × gS)) : Prop := ∃ (N : Nat) (ox : Int32 × gS) (M : Nat) (om : Int32 × gS), FX N = some ox ∧ FM M = some om ∧ ox.1 = om.1 ∧ J ox.2 om.2
def StpU (J : gS → gS → Prop) (co : Nat → Int32) (ok : Nat → Prop) (FX : Nat → Option tR) (FM : Nat → Option (Int32 × gS)) : Prop := ∃ (N : Nat) (ox : tR) (M : Nat) (om : Int32 × gS), FX N = some ox ∧ FM M = some om ∧ ok ox.1 ∧ om.2 99 4 = co ox.1 ∧ J ox.2.2 om.2
def Lw_feed (J : gS → gS → Prop) : Prop := ∀ (SX SM : gS) (x1 x2 x3 x4 x5 : Int32), J SX SM → StpV J (fun N => fX11_feed N x1 x2 x3 x4 x5 SX) (fun M => fX12_feed M x1 x2 x3 x4 x5 SM)
def Lw_port (J : gS → gS → Prop) : Prop := ∀ (SX SM : gS) (x1 : Int32), J SX SM → StpT J lcA okB (fun N => fX11_port N x1 SX) (fun M => fX12_port M x1 SM)
def Lw_fault (J : gS → gS → Prop) : Prop := ∀ (SX SM : gS), J SX SM → StpV J (fun N => fX11_fault N SX) (fun M => fX12_fault M SM)
def Lw_count (J : gS → gS → Prop) : Prop := ∀ (SX SM : gS) (x1 : Int32), J SX SM → StpT J lcA okA (fun N => fX11_count N x1 SX) (fun M => fX12_count M x1 SM)
def Lw_grotto (J : gS → gS → Prop) : Prop := ∀ (SX SM : gS) (x1 x2 : Int32), J SX SM → StpT J lcA okA (fun N => fX11_grotto N x1 x2 SX) (fun M => fX12_grotto M x1 x2 SM)
def Lw_guild (J : gS → gS → Prop) : Prop := ∀ (SX SM : gS) (x1 x2 : Int32), J SX SM → StpT J lcA okA (fun N => fX11_guild N x1 x2 SX) (fun M => fX12_guild M x1 x2 SM)
def Lw_hours (J : gS → gS → Prop) : Prop := ∀ (SX SM : gS) (x1 : Int32), J SX SM → StpV J (fun N => fX11_hours N x1 SX) (fun M => fX12_hours M x1 SM)
def Lw_hire (J : gS → gS → Prop) : Prop := ∀ (SX SM : gS) (x1 x2 : Int32), J SX SM → StpT J lcA okA (fun N => fX11_hire N x1 x2 SX) (fun M => fX12_hire M x1 x2 SM)
def Lw_dismiss (J : gS → gS → Prop) : Prop := ∀ (SX SM : gS) (x1 : Int32), J SX SM → StpT J lcA okA (fun N => fX11_dismiss N x1 SX) (fun M => fX12_dismiss M x1 SM)
def Lw_confess (J : gS → gS → Prop) : Prop := ∀ (SX SM : gS) (x1 : Int32), J SX SM → StpT J lcA okA (fun N => fX11_confess N x1 SX) (fun M => fX12_confess M x1 SM)
def Lw_drain (J : gS → gS → Prop) : Prop := ∀ (SX SM : gS) (x1 x2 : Int32), J SX SM → (x2 = 0 ∨ x2 = 1) → StpT J lcA okA (fun N => fX11_drain N x1 x2 SX) (fun M => fX12_drain M x1 x2 SM)
def Lw_give (J : gS → gS → Prop) : Prop := ∀ (SX SM : gS) (x1 x2 : Int32), J SX SM → StpT J lcA okA (fun N => fX11_give N x1 x2 SX) (fun M => fX12_give M x1 x2 SM)
def Lw_undo (J : gS → gS → Prop) : Prop := ∀ (SX SM : gS), J SX SM → StpV J (fun N => fX11_undo N SX) (fun M => fX12_undo M SM)
def Lw_then (J : gS → gS → Prop) : Prop := ∀ (SX SM : gS) (x1 x2 x3 : Int32), J SX SM → StpT J lcC okC (fun N => fX11_then N x1 x2 x3 SX) (fun M => fX12_then M x1 x2 x3 SM)
def Lw_dripping (J : gS → gS → Prop) : Prop := ∀ (SX SM : gS) (x1 : Int32), J SX SM → StpT J lcA okB (fun N => fX11_dripping N x1 SX) (fun M => fX12_dripping M x1 SM)
def Lw_first (J : gS → gS → Prop) : Prop := ∀ (SX SM : gS) (x1 : Int32), J SX SM → StpT J lcA okA (fun N => fX11_first N x1 SX) (fun M => fX12_first M x1 SM)
def Lw_dismissed (J : gS → gS → Prop) : Prop := ∀ (SX SM : gS) (x1 : Int32), J SX SM → StpT J lcA okA (fun N => fX11_dismissed N x1 SX) (fun M => fX12_dismissed M x1 SM)
def Lw_most (J : gS → gS → Prop) : Prop := ∀ (SX SM : gS) (x1 x2 : Int32), J SX SM → StpT J lcC okC (fun N => fX11_most N x1 x2 SX) (fun M => fX12_most M x1 x2 SM)
def Lw_hush (J : gS → gS → Prop) : Prop := ∀ (SX SM : gS) (x1 : Int32), J SX SM → StpT J lcA okB (fun N => fX11_hush N x1 SX) (fun M => fX12_hush M x1 SM)
def Lw_chorus (J : gS → gS → Prop) : Prop := ∀ (SX SM : gS) (x1 : Int32), J SX SM → StpT J lcA okB (fun N => fX11_chorus N x1 SX) (fun M => fX12_chorus M x1 SM)
def Lw_together (J : gS → gS → Prop) : Prop := ∀ (SX SM : gS) (x1 : Int32), J SX SM → StpT J lcA okB (fun N => fX11_together N x1 SX) (fun M => fX12_together M x1 SM)
def Lw_rhythm (J : gS → gS → Prop) : Prop := ∀ (SX SM : gS) (x1 : Int32), J SX SM → StpT J lcA okB (fun N => fX11_rhythm N x1 SX) (fun M => fX12_rhythm M x1 SM)
def Lw_often (J : gS → gS → Prop) : Prop := ∀ (SX SM : gS) (x1 x2 : Int32), J SX SM → StpT J lcC okC (fun N => fX11_often N x1 x2 SX) (fun M => fX12_often M x1 x2 SM)
def Lw_toHire (J : gS → gS → Prop) : Prop := ∀ (SX SM : gS) (x1 x2 x3 : Int32), J SX SM → StpT J lcC okC (fun N => fX11_toHire N x1 x2 x3 SX) (fun M => fX12_toHire M x1 x2 x3 SM)
def Lw_shared (J : gS → gS → Prop) : Prop := ∀ (SX SM : gS) (x1 : Int32), J SX SM → StpT J lcA okA (fun N => fX11_shared N x1 SX) (fun M => fX12_shared M x1 SM)
def Lw_has (J : gS → gS → Prop) : Prop := ∀ (SX SM : gS) (x1 : Int32), J SX SM → StpT J lcA okA (fun N => fX11_has N x1 SX) (fun M => fX12_has M x1 SM)
def Lw_toGive (J : gS → gS → Prop) : Prop := ∀ (SX SM : gS) (x1 x2 : Int32), J SX SM → StpT J lcC okC (fun N => fX11_toGive N x1 x2 SX) (fun M => fX12_toGive M x1 x2 SM)
def Lw_confessing (J : gS → gS → Prop) : Prop := ∀ (SX SM : gS) (x1 x2 : Int32), J SX SM → StpT J lcC okC (fun N => fX11_confessing N x1 x2 SX) (fun M => fX12_confessing M x1 x2 SM)
def Lw_see (J : gS → gS → Prop) : Prop := ∀ (SX SM : gS) (x1 x2 x3 : Int32), J SX SM → StpT J lcA okA (fun N => fX11_see N x1 x2 x3 SX) (fun M => fX12_see M x1 x2 x3 SM)
def Lw_greedy (J : gS → gS → Prop) : Prop := ∀ (SX SM : gS) (x1 : Int32), J SX SM → StpT J lcA okA (fun N => fX11_greedy N x1 SX) (fun M => fX12_greedy M x1 SM)
def Lw_look (J : gS → gS → Prop) : Prop := ∀ (SX SM : gS) (x1 : Int32), J SX SM → StpT J lcA okA (fun N => fX11_look N x1 SX) (fun M => fX12_look M x1 SM)
def Lw_forget (J : gS → gS → Prop) : Prop := ∀ (SX SM : gS), J SX SM → StpV J (fun N => fX11_forget N SX) (fun M => fX12_forget M SM)
def Lw_drought (J : gS → gS → Prop) : Prop := ∀ (SX SM : gS) (x1 x2 x3 : Int32), J SX SM → StpU J lcC okC (fun N => fX11_drought N x1 x2 x3 SX) (fun M => fX12_drought M x1 x2 x3 SM)
def Lw_game (J : gS → gS → Prop) : Prop := ∀ (SX SM : gS) (x1 x2 x3 : Int32), J SX SM → StpT J lcC okC (fun N => fX11_game N x1 x2 x3 SX) (fun M => fX12_game M x1 x2 x3 SM)
def Lw_years (J : gS → gS → Prop) : Prop := ∀ (SX SM : gS) (x1 x2 x3 : Int32), J SX SM → StpT J lcC okC (fun N => fX11_years N x1 x2 x3 SX) (fun M => fX12_years M x1 x2 x3 SM)
def Lw_image (J : gS → gS → Prop) : Prop := ∀ (SX SM : gS), J SX SM → StpV J (fun N => fX11_image N SX) (fun M => fX12_image M SM)
def Lw_restore (J : gS → gS → Prop) : Prop := ∀ (SX SM : gS), J SX SM → StpV J (fun N => fX11_restore N SX) (fun M => fX12_restore M SM)
def Laws (J : gS → gS → Prop) : Prop := Lw_feed J ∧ Lw_port J ∧ Lw_fault J ∧ Lw_count J ∧ Lw_grotto J ∧ Lw_guild J ∧ Lw_hours J ∧ Lw_hire J ∧ Lw_dismiss J ∧ Lw_confess J ∧ Lw_drain J ∧ Lw_give J ∧ Lw_undo J ∧ Lw_then J ∧ Lw_dripping J ∧ Lw_first J ∧ Lw_dismissed J ∧ Lw_most J ∧ Lw_hush J ∧ Lw_chorus J ∧ Lw_together J ∧ Lw_rhythm J ∧ Lw_often J ∧ Lw_toHire J ∧ Lw_shared J ∧ Lw_has J ∧ Lw_toGive J ∧ Lw_confessing J ∧ Lw_see J ∧ Lw_greedy J ∧ Lw_look J ∧ Lw_forget J ∧ Lw_drought J ∧ Lw_game J ∧ Lw_years J ∧ Lw_image J ∧ Lw_restore J
theorem lcA0 {t : Nat} (h : lcA t = 0) : t = 0 := by
  unfold lcA at h
  by_cases h0 : t = 0
  · exact h0
  · rewrite [if_neg h0] at h
    exact absurd h (by decide)
theorem lcC0 {t : Nat} (h : lcC t = 0) : t = 0 := by
  unfold lcC at h
  by_cases h0 : t = 0
  · exact h0
  · rewrite [if_neg h0] at h
    by_cases h1 : t = 1
    · rewrite [if_pos h1] at h
      exact absurd h (by decide)
    · rewrite [if_neg h1] at h
      exact absurd h (by decide)
theorem lrow0 {f : Nat → Int64} {o : tR} (h : o.1 = 0) : lrow f o (Int32.toNatClampNeg 0) = o.2.1.toInt64 := by
  unfold lrow
  rw [if_pos h]
  rfl
theorem lrowZ0 {f : Nat → Int64} {o : tR} (h : o.1 = 0) : lrowZ f o (Int32.toNatClampNeg 0) = if o.2.1 = 0 then 0 else 1 := by
  unfold lrowZ
  rw [if_pos h]
  rfl
theorem lg_cmp0 {x y : Int64} (h : x = y) : lg_cmp x y = 0 := by
  subst h
  unfold lg_cmp
  rw [if_neg Int64.lt_irrefl, if_pos rfl]
def LCx (p : Program) (l : Launch) (s : State) (m : MethodId) (args : Array Value) (meth : Method) (c : Code) (D : va_G) (g g2 : Nat → Nat) (cI cB cZ cQ cS cJ : ClassId) (aK aV : Nat → Nat) (aO b L : Nat) (xs : Nat → Int32) (Am Am2 : (Nat → Prop) → State → Heap → Prop) : Prop :=
  gC p s m args meth c cL_law 7 RL ret D (xtys cI cB cZ cQ) xord g Am ∧ gC p s m args meth c cL_law 7 RL ret D (mtys cI cS) mord g2 Am2 ∧ va_K D vwCl [(cJ, .long)] s ∧ va_Nc (tE 2) (tE 1) s ∧ Lsp g g2 aO b s.heap.size ∧ tO l g cI cB cZ cQ Am aK aV ∧ sO (mcell g2 cI cS (msa aK)) mord g2 Am2 aK aV ∧ va_X b L xs s s.heap
def Lin (i : Int32) (L : Nat) : Prop := vp_in i L ∧ vp_in (i + 1) L ∧ vp_in (i + 2) L ∧ vp_in (i + 3) L ∧ vp_in (i + 4) L ∧ vp_in (i + 5) L
noncomputable def Llv (b g0 g9 aO : Nat) (i : Int32) : List (Nat × Value) := [(4, .int i), (3, .ref aO), (2, .ref g9), (1, .ref g0), (0, .ref b)]
end

/-! part 21.cblocks -/
section
/-! the blocks of the law's switch (printed by wip/whole/mklawb.py) -/
section LAW3
variable {p : Program} {l : Launch} {e : Env} {s : State} {m : MethodId} {args : Array Value} {below : List Frame} {meth : Method} {c : Code} {H : Heap} {locs : List Loc} {cs sl : Nat} {Q : State → Prop} {Am Am2 : (Nat → Prop) → State → Heap → Prop} {D : va_G} {g g2 : Nat → Nat} {cI cB cZ cQ cS cJ : ClassId} {aK aV : Nat → Nat} {aO b L pc : Nat} {xs : Nat → Int32} {SX SM : gS} {f : Nat → Int64} {ls : Array Slot} {i : Int32} {J0 J : gS → gS → Prop} {rest : List Value} {R : Room}
theorem L_ld (C : LCx p l s m args meth c D g g2 cI cB cZ cQ cS cJ aK aV aO b L xs Am Am2) (X : LX D g g2 cI cB cZ cQ cS cJ aK aO b L xs SX SM f s H locs) {j : Int32} (hin : vp_in j L) (hdg : decode cL_law pc = .ok (.iaload, 1))
    (kk : W p l e R s m args below meth c H locs cs sl Q (F0 m (pc + 1) ls (.int (xs j.toNatClampNeg) :: rest))) : W p l e R s m args below meth c H locs cs sl Q (F0 m pc ls (.int j :: .ref b :: rest)) := by
  have hs := C.2.2.2.2.1
  refine va_sld (A := gA xord g s.heap.size) C.1.1.1 C.1.1.2.1 C.2.2.2.2.2.2.2 hs.2.2.2 ?_ X.1.2 hin hdg kk
  rw [hs.allX]
  exact Nat.not_le.mpr hs.2.2.2
theorem LB_feed (C : LCx p l s m args meth c D g g2 cI cB cZ cQ cS cJ aK aV aO b L xs Am Am2) (hi : Lin i L) (X : LX D g g2 cI cB cZ cQ cS cJ aK aO b L xs SX SM f s H locs) (hJ : J SX SM) (hl : lv_has ls 7 (Llv b (g 0) (g2 99) aO i)) (hc4 : cs + 4 ≤ 601024) (hs4 : sl + 24 ≤ 7293034) (h : Lw_feed J) (kk : ∀ (H1 : Heap) (locs1 : List Loc) (ls1 : Array Slot) (SX1 SM1 : gS) (f1 : Nat → Int64), J SX1 SM1 → LX D g g2 cI cB cZ cQ cS cJ aK aO b L xs SX1 SM1 f1 s H1 locs1 → lv_has ls1 7 (Llv b (g 0) (g2 99) aO i) → W p l e room_1 s m args below meth c H1 locs1 (cs + 4) (sl + 24) Q (F0 m 1499 ls1 [])) : W p l e room_1 s m args below meth c H locs cs sl Q (F0 m 204 ls []) := by
  obtain ⟨N, ox, M, om, h1, h2, h5, h6⟩ := h SX SM (xs (Int32.toNatClampNeg (i + 1))) (xs (Int32.toNatClampNeg (i + 2))) (xs (Int32.toNatClampNeg (i + 3))) (xs (Int32.toNatClampNeg (i + 4))) (xs (Int32.toNatClampNeg (i + 5))) hJ
  unfold Llv at hl
  refine lv_aload_n C.1.1.1 C.1.1.2.1 dL_law_204 rfl (lv_at hl 3 rfl) ?_
  refine lv_aload_n C.1.1.1 C.1.1.2.1 dL_law_205 rfl (lv_at hl 4 rfl) ?_
  refine lv_iload C.1.1.1 C.1.1.2.1 dL_law_206 (lv_at hl 0 rfl) ?_
  refine lv_iconst C.1.1.1 C.1.1.2.1 dL_law_208 rfl ?_
  refine lv_iadd C.1.1.1 C.1.1.2.1 dL_law_209 ?_
  refine L_ld C X hi.2.1 dL_law_210 ?_
  refine lv_aload_n C.1.1.1 C.1.1.2.1 dL_law_211 rfl (lv_at hl 4 rfl) ?_
  refine lv_iload C.1.1.1 C.1.1.2.1 dL_law_212 (lv_at hl 0 rfl) ?_
  refine lv_iconst C.1.1.1 C.1.1.2.1 dL_law_214 rfl ?_
  refine lv_iadd C.1.1.1 C.1.1.2.1 dL_law_215 ?_
  refine L_ld C X hi.2.2.1 dL_law_216 ?_
  refine lv_aload_n C.1.1.1 C.1.1.2.1 dL_law_217 rfl (lv_at hl 4 rfl) ?_
  refine lv_iload C.1.1.1 C.1.1.2.1 dL_law_218 (lv_at hl 0 rfl) ?_
  refine lv_iconst C.1.1.1 C.1.1.2.1 dL_law_220 rfl ?_
  refine lv_iadd C.1.1.1 C.1.1.2.1 dL_law_221 ?_
  refine L_ld C X hi.2.2.2.1 dL_law_222 ?_
  refine lv_aload_n C.1.1.1 C.1.1.2.1 dL_law_223 rfl (lv_at hl 4 rfl) ?_
  refine lv_iload C.1.1.1 C.1.1.2.1 dL_law_224 (lv_at hl 0 rfl) ?_
  refine lv_iconst C.1.1.1 C.1.1.2.1 dL_law_226 rfl ?_
  refine lv_iadd C.1.1.1 C.1.1.2.1 dL_law_227 ?_
  refine L_ld C X hi.2.2.2.2.1 dL_law_228 ?_
  refine lv_aload_n C.1.1.1 C.1.1.2.1 dL_law_229 rfl (lv_at hl 4 rfl) ?_
  refine lv_iload C.1.1.1 C.1.1.2.1 dL_law_230 (lv_at hl 0 rfl) ?_
  refine lv_iconst C.1.1.1 C.1.1.2.1 dL_law_232 rfl ?_
  refine lv_iadd C.1.1.1 C.1.1.2.1 dL_law_233 ?_
  refine L_ld C X hi.2.2.2.2.2 dL_law_234 ?_
  refine L_callX C.2.2.2.2.2.1.1.1.1 C.2.2.2.2.2.2.1.1 C.2.2.2.2.1 C.1 X xv_L_112 rfl (kX11_feed C.2.2.2.2.2.1.1.1 C.1.2.2.2.2.1 N (xs (Int32.toNatClampNeg (i + 1))) (xs (Int32.toNatClampNeg (i + 2))) (xs (Int32.toNatClampNeg (i + 3))) (xs (Int32.toNatClampNeg (i + 4))) (xs (Int32.toNatClampNeg (i + 5))) SX ox h1) (Nat.le_of_ble_eq_true rfl) (Nat.le_of_ble_eq_true rfl) (Nat.le_trans (Nat.le_add_right _ _) hc4) (Nat.le_trans (Nat.le_add_right _ _) hs4) rfl hl.1 rfl (Nat.le_of_ble_eq_true rfl) dL_law_235 (fun H locs X => ?_)
  refine lv_pop C.1.1.1 C.1.1.2.1 dL_law_238 rfl ?_
  refine lv_aload_n C.1.1.1 C.1.1.2.1 dL_law_239 rfl (lv_at hl 2 rfl) ?_
  refine lv_aload_n C.1.1.1 C.1.1.2.1 dL_law_240 rfl (lv_at hl 4 rfl) ?_
  refine lv_iload C.1.1.1 C.1.1.2.1 dL_law_241 (lv_at hl 0 rfl) ?_
  refine lv_iconst C.1.1.1 C.1.1.2.1 dL_law_243 rfl ?_
  refine lv_iadd C.1.1.1 C.1.1.2.1 dL_law_244 ?_
  refine L_ld C X hi.2.1 dL_law_245 ?_
  refine lv_aload_n C.1.1.1 C.1.1.2.1 dL_law_246 rfl (lv_at hl 4 rfl) ?_
  refine lv_iload C.1.1.1 C.1.1.2.1 dL_law_247 (lv_at hl 0 rfl) ?_
  refine lv_iconst C.1.1.1 C.1.1.2.1 dL_law_249 rfl ?_
  refine lv_iadd C.1.1.1 C.1.1.2.1 dL_law_250 ?_
  refine L_ld C X hi.2.2.1 dL_law_251 ?_
  refine lv_aload_n C.1.1.1 C.1.1.2.1 dL_law_252 rfl (lv_at hl 4 rfl) ?_
  refine lv_iload C.1.1.1 C.1.1.2.1 dL_law_253 (lv_at hl 0 rfl) ?_
  refine lv_iconst C.1.1.1 C.1.1.2.1 dL_law_255 rfl ?_
  refine lv_iadd C.1.1.1 C.1.1.2.1 dL_law_256 ?_
  refine L_ld C X hi.2.2.2.1 dL_law_257 ?_
  refine lv_aload_n C.1.1.1 C.1.1.2.1 dL_law_258 rfl (lv_at hl 4 rfl) ?_
  refine lv_iload C.1.1.1 C.1.1.2.1 dL_law_259 (lv_at hl 0 rfl) ?_
  refine lv_iconst C.1.1.1 C.1.1.2.1 dL_law_261 rfl ?_
  refine lv_iadd C.1.1.1 C.1.1.2.1 dL_law_262 ?_
  refine L_ld C X hi.2.2.2.2.1 dL_law_263 ?_
  refine lv_aload_n C.1.1.1 C.1.1.2.1 dL_law_264 rfl (lv_at hl 4 rfl) ?_
  refine lv_iload C.1.1.1 C.1.1.2.1 dL_law_265 (lv_at hl 0 rfl) ?_
  refine lv_iconst C.1.1.1 C.1.1.2.1 dL_law_267 rfl ?_
  refine lv_iadd C.1.1.1 C.1.1.2.1 dL_law_268 ?_
  refine L_ld C X hi.2.2.2.2.2 dL_law_269 ?_
  refine L_callM C.2.2.2.2.2.1.1.1.1 C.2.2.2.2.2.2.1.1 C.2.2.2.2.1 C.2.1 X xv_L_116 rfl (kX12_feed C.2.2.2.2.2.2.1.1 C.2.1.2.2.2.2.1 M (xs (Int32.toNatClampNeg (i + 1))) (xs (Int32.toNatClampNeg (i + 2))) (xs (Int32.toNatClampNeg (i + 3))) (xs (Int32.toNatClampNeg (i + 4))) (xs (Int32.toNatClampNeg (i + 5))) SM om h2) (Nat.le_of_ble_eq_true rfl) (Nat.le_of_ble_eq_true rfl) (Nat.le_trans (Nat.le_add_right _ _) hc4) (Nat.le_trans (Nat.le_add_right _ _) hs4) rfl hl.1 rfl (Nat.le_of_ble_eq_true rfl) dL_law_270 (fun H locs X => ?_)
  refine lv_pop C.1.1.1 C.1.1.2.1 dL_law_273 rfl ?_
  refine lv_goto (tgt := 1499) C.1.1.1 C.1.1.2.1 dL_law_274 (by decide) ?_
  exact W.widen (k := cs + 4) (n := sl + 24) (Nat.le_add_right _ _) (Nat.le_add_right _ _) (kk _ _ _ _ _ _ h6 X (lv_sub hl [0, 1, 2, 3, 4] rfl))
theorem LB_port (C : LCx p l s m args meth c D g g2 cI cB cZ cQ cS cJ aK aV aO b L xs Am Am2) (hi : Lin i L) (X : LX D g g2 cI cB cZ cQ cS cJ aK aO b L xs SX SM f s H locs) (hJ : J SX SM) (hl : lv_has ls 7 (Llv b (g 0) (g2 99) aO i)) (hc4 : cs + 4 ≤ 601024) (hs4 : sl + 24 ≤ 7293034) (h : Lw_port J) (kk : ∀ (H1 : Heap) (locs1 : List Loc) (ls1 : Array Slot) (SX1 SM1 : gS) (f1 : Nat → Int64), J SX1 SM1 → LX D g g2 cI cB cZ cQ cS cJ aK aO b L xs SX1 SM1 f1 s H1 locs1 → lv_has ls1 7 (Llv b (g 0) (g2 99) aO i) → W p l e room_1 s m args below meth c H1 locs1 (cs + 4) (sl + 24) Q (F0 m 1499 ls1 [])) : W p l e room_1 s m args below meth c H locs cs sl Q (F0 m 277 ls []) := by
  obtain ⟨N, ox, M, om, h1, h2, h3, h4, h5, h6⟩ := h SX SM (xs (Int32.toNatClampNeg (i + 1))) hJ
  unfold Llv at hl
  refine lv_aload_n C.1.1.1 C.1.1.2.1 dL_law_277 rfl (lv_at hl 3 rfl) ?_
  refine lv_aload_n C.1.1.1 C.1.1.2.1 dL_law_278 rfl (lv_at hl 4 rfl) ?_
  refine lv_iload C.1.1.1 C.1.1.2.1 dL_law_279 (lv_at hl 0 rfl) ?_
  refine lv_iconst C.1.1.1 C.1.1.2.1 dL_law_281 rfl ?_
  refine lv_iadd C.1.1.1 C.1.1.2.1 dL_law_282 ?_
  refine L_ld C X hi.2.1 dL_law_283 ?_
  refine lv_aload_n C.1.1.1 C.1.1.2.1 dL_law_284 rfl (lv_at hl 1 rfl) ?_
  refine L_callS C.2.2.2.2.2.1.1.1.1 C.2.2.2.2.2.2.1.1 C.2.2.2.2.1 C.1 C.2.2.1 C.2.2.2.1 X lw_port rfl (kL_port C.2.2.2.2.2.1 C.1.2.2.2.2.1 (fun k hk => (C.2.2.2.2.1.1 k hk).2.1) N (xs (Int32.toNatClampNeg (i + 1))) SX f ox h1 h3) (Nat.le_of_ble_eq_true rfl) (Nat.le_of_ble_eq_true rfl) (Nat.le_trans (Nat.add_le_add_left (Nat.le_of_ble_eq_true rfl) _) hc4) (Nat.le_trans (Nat.add_le_add_left (Nat.le_of_ble_eq_true rfl) _) hs4) rfl hl.1 rfl (Nat.le_of_ble_eq_true rfl) dL_law_285 (fun H locs X => ?_)
  refine lv_istore C.1.1.1 C.1.1.2.1 dL_law_288 hl (by decide) rfl (fun ls hl => ?_)
  refine lv_aload_n C.1.1.1 C.1.1.2.1 dL_law_290 rfl (lv_at hl 3 rfl) ?_
  refine lv_aload_n C.1.1.1 C.1.1.2.1 dL_law_291 rfl (lv_at hl 5 rfl) ?_
  refine lv_iload C.1.1.1 C.1.1.2.1 dL_law_292 (lv_at hl 1 rfl) ?_
  refine lv_iconst C.1.1.1 C.1.1.2.1 dL_law_294 rfl ?_
  refine lv_iadd C.1.1.1 C.1.1.2.1 dL_law_295 ?_
  refine L_ld C X hi.2.1 dL_law_296 ?_
  refine L_callM C.2.2.2.2.2.1.1.1.1 C.2.2.2.2.2.2.1.1 C.2.2.2.2.1 C.2.1 X xv_L_122 rfl (kX12_port C.2.2.2.2.2.2.1 C.2.1.2.2.2.2.1 M (xs (Int32.toNatClampNeg (i + 1))) SM om h2) (Nat.le_of_ble_eq_true rfl) (Nat.le_of_ble_eq_true rfl) (Nat.le_trans (Nat.add_le_add_left (Nat.le_of_ble_eq_true rfl) _) hc4) (Nat.le_trans (Nat.add_le_add_left (Nat.le_of_ble_eq_true rfl) _) hs4) rfl hl.1 rfl (Nat.le_of_ble_eq_true rfl) dL_law_297 (fun H locs X => ?_)
  refine lv_istore C.1.1.1 C.1.1.2.1 dL_law_300 hl (by decide) rfl (fun ls hl => ?_)
  refine lv_aload_n C.1.1.1 C.1.1.2.1 dL_law_302 rfl (lv_at hl 4 rfl) ?_
  refine L_callM C.2.2.2.2.2.1.1.1.1 C.2.2.2.2.2.2.1.1 C.2.2.2.2.1 C.2.1 X xv_L_123 rfl (kX12_thrown C.2.2.2.2.2.2.1.1 C.2.1.2.2.2.2.1 0 om.2 (om.2 99 4, om.2) rfl) (Nat.le_of_ble_eq_true rfl) (Nat.le_of_ble_eq_true rfl) (Nat.le_trans (Nat.add_le_add_left (Nat.le_of_ble_eq_true rfl) _) hc4) (Nat.le_trans (Nat.add_le_add_left (Nat.le_of_ble_eq_true rfl) _) hs4) rfl hl.1 rfl (Nat.le_of_ble_eq_true rfl) dL_law_303 (fun H locs X => ?_)
  refine lv_iload C.1.1.1 C.1.1.2.1 dL_law_306 (lv_at hl 1 rfl) ?_
  refine lv_icmp_eq (tgt := 313) C.1.1.1 C.1.1.2.1 dL_law_308 (by decide) (fun _ => ?_) (fun hz => absurd h4 hz)
  refine lv_iload C.1.1.1 C.1.1.2.1 dL_law_313 (lv_at hl 1 rfl) ?_
  refine lv_if_ne (tgt := 330) C.1.1.1 C.1.1.2.1 dL_law_315 (by decide) (fun _ => ?_) (fun hz0 => ?_)
  · refine lv_goto (tgt := 1499) C.1.1.1 C.1.1.2.1 dL_law_330 (by decide) ?_
    exact W.widen (k := cs + 4) (n := sl + 24) (Nat.add_le_add_left (Nat.le_of_ble_eq_true rfl) _) (Nat.add_le_add_left (Nat.le_of_ble_eq_true rfl) _) (kk _ _ _ _ _ _ h6 X (lv_sub hl [2, 3, 4, 5, 6] rfl))
  · have hox := lcA0 hz0
    refine lv_aload_n C.1.1.1 C.1.1.2.1 dL_law_318 rfl (lv_at hl 3 rfl) ?_
    refine lv_iconst C.1.1.1 C.1.1.2.1 dL_law_319 rfl ?_
    refine va_lald C.1.1.1 C.1.1.2.1 C.2.2.1 X.2.2.1 0 0 rfl rfl (by unfold vp_in; decide) dL_law_320 ?_
    refine lv_iload C.1.1.1 C.1.1.2.1 dL_law_321 (lv_at hl 0 rfl) ?_
    refine lv_i2l C.1.1.1 C.1.1.2.1 dL_law_323 rfl ?_
    refine W.lcmp C.1.1.1 C.1.1.2.1 dL_law_324 ?_
    have he := lg_cmp0 ((lrow0 (f := f) hox).trans (congrArg Int32.toInt64 (h5 hox)))
    refine lv_if_eq (tgt := 330) C.1.1.1 C.1.1.2.1 dL_law_325 (by decide) (fun _ => ?_) (fun hz9 => absurd he hz9)
    refine lv_goto (tgt := 1499) C.1.1.1 C.1.1.2.1 dL_law_330 (by decide) ?_
    exact W.widen (k := cs + 4) (n := sl + 24) (Nat.add_le_add_left (Nat.le_of_ble_eq_true rfl) _) (Nat.add_le_add_left (Nat.le_of_ble_eq_true rfl) _) (kk _ _ _ _ _ _ h6 X (lv_sub hl [2, 3, 4, 5, 6] rfl))
theorem LB_fault (C : LCx p l s m args meth c D g g2 cI cB cZ cQ cS cJ aK aV aO b L xs Am Am2) (hi : Lin i L) (X : LX D g g2 cI cB cZ cQ cS cJ aK aO b L xs SX SM f s H locs) (hJ : J SX SM) (hl : lv_has ls 7 (Llv b (g 0) (g2 99) aO i)) (hc4 : cs + 4 ≤ 601024) (hs4 : sl + 24 ≤ 7293034) (h : Lw_fault J) (kk : ∀ (H1 : Heap) (locs1 : List Loc) (ls1 : Array Slot) (SX1 SM1 : gS) (f1 : Nat → Int64), J SX1 SM1 → LX D g g2 cI cB cZ cQ cS cJ aK aO b L xs SX1 SM1 f1 s H1 locs1 → lv_has ls1 7 (Llv b (g 0) (g2 99) aO i) → W p l e room_1 s m args below meth c H1 locs1 (cs + 4) (sl + 24) Q (F0 m 1499 ls1 [])) : W p l e room_1 s m args below meth c H locs cs sl Q (F0 m 333 ls []) := by
  obtain ⟨N, ox, M, om, h1, h2, h5, h6⟩ := h SX SM  hJ
  unfold Llv at hl
  refine lv_aload_n C.1.1.1 C.1.1.2.1 dL_law_333 rfl (lv_at hl 3 rfl) ?_
  refine L_callX C.2.2.2.2.2.1.1.1.1 C.2.2.2.2.2.2.1.1 C.2.2.2.2.1 C.1 X xv_L_127 rfl (kX11_fault C.2.2.2.2.2.1.1.1 C.1.2.2.2.2.1 N  SX ox h1) (Nat.le_of_ble_eq_true rfl) (Nat.le_of_ble_eq_true rfl) (Nat.le_trans (Nat.le_add_right _ _) hc4) (Nat.le_trans (Nat.le_add_right _ _) hs4) rfl hl.1 rfl (Nat.le_of_ble_eq_true rfl) dL_law_334 (fun H locs X => ?_)
  refine lv_pop C.1.1.1 C.1.1.2.1 dL_law_337 rfl ?_
  refine lv_aload_n C.1.1.1 C.1.1.2.1 dL_law_338 rfl (lv_at hl 2 rfl) ?_
  refine L_callM C.2.2.2.2.2.1.1.1.1 C.2.2.2.2.2.2.1.1 C.2.2.2.2.1 C.2.1 X xv_L_130 rfl (kX12_fault C.2.2.2.2.2.2.1.1 C.2.1.2.2.2.2.1 M  SM om h2) (Nat.le_of_ble_eq_true rfl) (Nat.le_of_ble_eq_true rfl) (Nat.le_trans (Nat.le_add_right _ _) hc4) (Nat.le_trans (Nat.le_add_right _ _) hs4) rfl hl.1 rfl (Nat.le_of_ble_eq_true rfl) dL_law_339 (fun H locs X => ?_)
  refine lv_pop C.1.1.1 C.1.1.2.1 dL_law_342 rfl ?_
  refine lv_goto (tgt := 1499) C.1.1.1 C.1.1.2.1 dL_law_343 (by decide) ?_
  exact W.widen (k := cs + 4) (n := sl + 24) (Nat.le_add_right _ _) (Nat.le_add_right _ _) (kk _ _ _ _ _ _ h6 X (lv_sub hl [0, 1, 2, 3, 4] rfl))
theorem LB_count (C : LCx p l s m args meth c D g g2 cI cB cZ cQ cS cJ aK aV aO b L xs Am Am2) (hi : Lin i L) (X : LX D g g2 cI cB cZ cQ cS cJ aK aO b L xs SX SM f s H locs) (hJ : J SX SM) (hl : lv_has ls 7 (Llv b (g 0) (g2 99) aO i)) (hc4 : cs + 4 ≤ 601024) (hs4 : sl + 24 ≤ 7293034) (h : Lw_count J) (kk : ∀ (H1 : Heap) (locs1 : List Loc) (ls1 : Array Slot) (SX1 SM1 : gS) (f1 : Nat → Int64), J SX1 SM1 → LX D g g2 cI cB cZ cQ cS cJ aK aO b L xs SX1 SM1 f1 s H1 locs1 → lv_has ls1 7 (Llv b (g 0) (g2 99) aO i) → W p l e room_1 s m args below meth c H1 locs1 (cs + 4) (sl + 24) Q (F0 m 1499 ls1 [])) : W p l e room_1 s m args below meth c H locs cs sl Q (F0 m 346 ls []) := by
  obtain ⟨N, ox, M, om, h1, h2, h3, h4, h5, h6⟩ := h SX SM (xs (Int32.toNatClampNeg (i + 1))) hJ
  unfold Llv at hl
  refine lv_aload_n C.1.1.1 C.1.1.2.1 dL_law_346 rfl (lv_at hl 3 rfl) ?_
  refine lv_aload_n C.1.1.1 C.1.1.2.1 dL_law_347 rfl (lv_at hl 4 rfl) ?_
  refine lv_iload C.1.1.1 C.1.1.2.1 dL_law_348 (lv_at hl 0 rfl) ?_
  refine lv_iconst C.1.1.1 C.1.1.2.1 dL_law_350 rfl ?_
  refine lv_iadd C.1.1.1 C.1.1.2.1 dL_law_351 ?_
  refine L_ld C X hi.2.1 dL_law_352 ?_
  refine lv_aload_n C.1.1.1 C.1.1.2.1 dL_law_353 rfl (lv_at hl 1 rfl) ?_
  refine L_callS C.2.2.2.2.2.1.1.1.1 C.2.2.2.2.2.2.1.1 C.2.2.2.2.1 C.1 C.2.2.1 C.2.2.2.1 X lw_count rfl (kL_count C.2.2.2.2.2.1 C.1.2.2.2.2.1 (fun k hk => (C.2.2.2.2.1.1 k hk).2.1) N (xs (Int32.toNatClampNeg (i + 1))) SX f ox h1 h3) (Nat.le_of_ble_eq_true rfl) (Nat.le_of_ble_eq_true rfl) (Nat.le_trans (Nat.add_le_add_left (Nat.le_of_ble_eq_true rfl) _) hc4) (Nat.le_trans (Nat.add_le_add_left (Nat.le_of_ble_eq_true rfl) _) hs4) rfl hl.1 rfl (Nat.le_of_ble_eq_true rfl) dL_law_354 (fun H locs X => ?_)
  refine lv_istore C.1.1.1 C.1.1.2.1 dL_law_357 hl (by decide) rfl (fun ls hl => ?_)
  refine lv_aload_n C.1.1.1 C.1.1.2.1 dL_law_359 rfl (lv_at hl 3 rfl) ?_
  refine lv_aload_n C.1.1.1 C.1.1.2.1 dL_law_360 rfl (lv_at hl 5 rfl) ?_
  refine lv_iload C.1.1.1 C.1.1.2.1 dL_law_361 (lv_at hl 1 rfl) ?_
  refine lv_iconst C.1.1.1 C.1.1.2.1 dL_law_363 rfl ?_
  refine lv_iadd C.1.1.1 C.1.1.2.1 dL_law_364 ?_
  refine L_ld C X hi.2.1 dL_law_365 ?_
  refine L_callM C.2.2.2.2.2.1.1.1.1 C.2.2.2.2.2.2.1.1 C.2.2.2.2.1 C.2.1 X xv_L_133 rfl (kX12_count C.2.2.2.2.2.2.1.1 C.2.1.2.2.2.2.1 M (xs (Int32.toNatClampNeg (i + 1))) SM om h2) (Nat.le_of_ble_eq_true rfl) (Nat.le_of_ble_eq_true rfl) (Nat.le_trans (Nat.add_le_add_left (Nat.le_of_ble_eq_true rfl) _) hc4) (Nat.le_trans (Nat.add_le_add_left (Nat.le_of_ble_eq_true rfl) _) hs4) rfl hl.1 rfl (Nat.le_of_ble_eq_true rfl) dL_law_366 (fun H locs X => ?_)
  refine lv_istore C.1.1.1 C.1.1.2.1 dL_law_369 hl (by decide) rfl (fun ls hl => ?_)
  refine lv_goto (tgt := 1499) C.1.1.1 C.1.1.2.1 dL_law_371 (by decide) ?_
  exact W.widen (k := cs + 4) (n := sl + 24) (Nat.add_le_add_left (Nat.le_of_ble_eq_true rfl) _) (Nat.add_le_add_left (Nat.le_of_ble_eq_true rfl) _) (kk _ _ _ _ _ _ h6 X (lv_sub hl [2, 3, 4, 5, 6] rfl))
theorem LB_grotto (C : LCx p l s m args meth c D g g2 cI cB cZ cQ cS cJ aK aV aO b L xs Am Am2) (hi : Lin i L) (X : LX D g g2 cI cB cZ cQ cS cJ aK aO b L xs SX SM f s H locs) (hJ : J SX SM) (hl : lv_has ls 7 (Llv b (g 0) (g2 99) aO i)) (hc4 : cs + 4 ≤ 601024) (hs4 : sl + 24 ≤ 7293034) (h : Lw_grotto J) (kk : ∀ (H1 : Heap) (locs1 : List Loc) (ls1 : Array Slot) (SX1 SM1 : gS) (f1 : Nat → Int64), J SX1 SM1 → LX D g g2 cI cB cZ cQ cS cJ aK aO b L xs SX1 SM1 f1 s H1 locs1 → lv_has ls1 7 (Llv b (g 0) (g2 99) aO i) → W p l e room_1 s m args below meth c H1 locs1 (cs + 4) (sl + 24) Q (F0 m 1499 ls1 [])) : W p l e room_1 s m args below meth c H locs cs sl Q (F0 m 374 ls []) := by
  obtain ⟨N, ox, M, om, h1, h2, h3, h4, h5, h6⟩ := h SX SM (xs (Int32.toNatClampNeg (i + 1))) (xs (Int32.toNatClampNeg (i + 2))) hJ
  unfold Llv at hl
  refine lv_aload_n C.1.1.1 C.1.1.2.1 dL_law_374 rfl (lv_at hl 3 rfl) ?_
  refine lv_aload_n C.1.1.1 C.1.1.2.1 dL_law_375 rfl (lv_at hl 4 rfl) ?_
  refine lv_iload C.1.1.1 C.1.1.2.1 dL_law_376 (lv_at hl 0 rfl) ?_
  refine lv_iconst C.1.1.1 C.1.1.2.1 dL_law_378 rfl ?_
  refine lv_iadd C.1.1.1 C.1.1.2.1 dL_law_379 ?_
  refine L_ld C X hi.2.1 dL_law_380 ?_
  refine lv_aload_n C.1.1.1 C.1.1.2.1 dL_law_381 rfl (lv_at hl 4 rfl) ?_
  refine lv_iload C.1.1.1 C.1.1.2.1 dL_law_382 (lv_at hl 0 rfl) ?_
  refine lv_iconst C.1.1.1 C.1.1.2.1 dL_law_384 rfl ?_
  refine lv_iadd C.1.1.1 C.1.1.2.1 dL_law_385 ?_
  refine L_ld C X hi.2.2.1 dL_law_386 ?_
  refine lv_aload_n C.1.1.1 C.1.1.2.1 dL_law_387 rfl (lv_at hl 1 rfl) ?_
  refine L_callS C.2.2.2.2.2.1.1.1.1 C.2.2.2.2.2.2.1.1 C.2.2.2.2.1 C.1 C.2.2.1 C.2.2.2.1 X lw_grotto rfl (kL_grotto C.2.2.2.2.2.1 C.1.2.2.2.2.1 (fun k hk => (C.2.2.2.2.1.1 k hk).2.1) N (xs (Int32.toNatClampNeg (i + 1))) (xs (Int32.toNatClampNeg (i + 2))) SX f ox h1 h3) (Nat.le_of_ble_eq_true rfl) (Nat.le_of_ble_eq_true rfl) (Nat.le_trans (Nat.add_le_add_left (Nat.le_of_ble_eq_true rfl) _) hc4) (Nat.le_trans (Nat.add_le_add_left (Nat.le_of_ble_eq_true rfl) _) hs4) rfl hl.1 rfl (Nat.le_of_ble_eq_true rfl) dL_law_388 (fun H locs X => ?_)
  refine lv_istore C.1.1.1 C.1.1.2.1 dL_law_391 hl (by decide) rfl (fun ls hl => ?_)
  refine lv_aload_n C.1.1.1 C.1.1.2.1 dL_law_393 rfl (lv_at hl 3 rfl) ?_
  refine lv_aload_n C.1.1.1 C.1.1.2.1 dL_law_394 rfl (lv_at hl 5 rfl) ?_
  refine lv_iload C.1.1.1 C.1.1.2.1 dL_law_395 (lv_at hl 1 rfl) ?_
  refine lv_iconst C.1.1.1 C.1.1.2.1 dL_law_397 rfl ?_
  refine lv_iadd C.1.1.1 C.1.1.2.1 dL_law_398 ?_
  refine L_ld C X hi.2.1 dL_law_399 ?_
  refine lv_aload_n C.1.1.1 C.1.1.2.1 dL_law_400 rfl (lv_at hl 5 rfl) ?_
  refine lv_iload C.1.1.1 C.1.1.2.1 dL_law_401 (lv_at hl 1 rfl) ?_
  refine lv_iconst C.1.1.1 C.1.1.2.1 dL_law_403 rfl ?_
  refine lv_iadd C.1.1.1 C.1.1.2.1 dL_law_404 ?_
  refine L_ld C X hi.2.2.1 dL_law_405 ?_
  refine L_callM C.2.2.2.2.2.1.1.1.1 C.2.2.2.2.2.2.1.1 C.2.2.2.2.1 C.2.1 X xv_L_137 rfl (kX12_grotto C.2.2.2.2.2.2.1.1 C.2.1.2.2.2.2.1 M (xs (Int32.toNatClampNeg (i + 1))) (xs (Int32.toNatClampNeg (i + 2))) SM om h2) (Nat.le_of_ble_eq_true rfl) (Nat.le_of_ble_eq_true rfl) (Nat.le_trans (Nat.add_le_add_left (Nat.le_of_ble_eq_true rfl) _) hc4) (Nat.le_trans (Nat.add_le_add_left (Nat.le_of_ble_eq_true rfl) _) hs4) rfl hl.1 rfl (Nat.le_of_ble_eq_true rfl) dL_law_406 (fun H locs X => ?_)
  refine lv_istore C.1.1.1 C.1.1.2.1 dL_law_409 hl (by decide) rfl (fun ls hl => ?_)
  refine lv_goto (tgt := 1499) C.1.1.1 C.1.1.2.1 dL_law_411 (by decide) ?_
  exact W.widen (k := cs + 4) (n := sl + 24) (Nat.add_le_add_left (Nat.le_of_ble_eq_true rfl) _) (Nat.add_le_add_left (Nat.le_of_ble_eq_true rfl) _) (kk _ _ _ _ _ _ h6 X (lv_sub hl [2, 3, 4, 5, 6] rfl))
theorem LB_guild (C : LCx p l s m args meth c D g g2 cI cB cZ cQ cS cJ aK aV aO b L xs Am Am2) (hi : Lin i L) (X : LX D g g2 cI cB cZ cQ cS cJ aK aO b L xs SX SM f s H locs) (hJ : J SX SM) (hl : lv_has ls 7 (Llv b (g 0) (g2 99) aO i)) (hc4 : cs + 4 ≤ 601024) (hs4 : sl + 24 ≤ 7293034) (h : Lw_guild J) (kk : ∀ (H1 : Heap) (locs1 : List Loc) (ls1 : Array Slot) (SX1 SM1 : gS) (f1 : Nat → Int64), J SX1 SM1 → LX D g g2 cI cB cZ cQ cS cJ aK aO b L xs SX1 SM1 f1 s H1 locs1 → lv_has ls1 7 (Llv b (g 0) (g2 99) aO i) → W p l e room_1 s m args below meth c H1 locs1 (cs + 4) (sl + 24) Q (F0 m 1499 ls1 [])) : W p l e room_1 s m args below meth c H locs cs sl Q (F0 m 414 ls []) := by
  obtain ⟨N, ox, M, om, h1, h2, h3, h4, h5, h6⟩ := h SX SM (xs (Int32.toNatClampNeg (i + 1))) (xs (Int32.toNatClampNeg (i + 2))) hJ
  unfold Llv at hl
  refine lv_aload_n C.1.1.1 C.1.1.2.1 dL_law_414 rfl (lv_at hl 3 rfl) ?_
  refine lv_aload_n C.1.1.1 C.1.1.2.1 dL_law_415 rfl (lv_at hl 4 rfl) ?_
  refine lv_iload C.1.1.1 C.1.1.2.1 dL_law_416 (lv_at hl 0 rfl) ?_
  refine lv_iconst C.1.1.1 C.1.1.2.1 dL_law_418 rfl ?_
  refine lv_iadd C.1.1.1 C.1.1.2.1 dL_law_419 ?_
  refine L_ld C X hi.2.1 dL_law_420 ?_
  refine lv_aload_n C.1.1.1 C.1.1.2.1 dL_law_421 rfl (lv_at hl 4 rfl) ?_
  refine lv_iload C.1.1.1 C.1.1.2.1 dL_law_422 (lv_at hl 0 rfl) ?_
  refine lv_iconst C.1.1.1 C.1.1.2.1 dL_law_424 rfl ?_
  refine lv_iadd C.1.1.1 C.1.1.2.1 dL_law_425 ?_
  refine L_ld C X hi.2.2.1 dL_law_426 ?_
  refine lv_aload_n C.1.1.1 C.1.1.2.1 dL_law_427 rfl (lv_at hl 1 rfl) ?_
  refine L_callS C.2.2.2.2.2.1.1.1.1 C.2.2.2.2.2.2.1.1 C.2.2.2.2.1 C.1 C.2.2.1 C.2.2.2.1 X lw_guild rfl (kL_guild C.2.2.2.2.2.1 C.1.2.2.2.2.1 (fun k hk => (C.2.2.2.2.1.1 k hk).2.1) N (xs (Int32.toNatClampNeg (i + 1))) (xs (Int32.toNatClampNeg (i + 2))) SX f ox h1 h3) (Nat.le_of_ble_eq_true rfl) (Nat.le_of_ble_eq_true rfl) (Nat.le_trans (Nat.add_le_add_left (Nat.le_of_ble_eq_true rfl) _) hc4) (Nat.le_trans (Nat.add_le_add_left (Nat.le_of_ble_eq_true rfl) _) hs4) rfl hl.1 rfl (Nat.le_of_ble_eq_true rfl) dL_law_428 (fun H locs X => ?_)
  refine lv_istore C.1.1.1 C.1.1.2.1 dL_law_431 hl (by decide) rfl (fun ls hl => ?_)
  refine lv_aload_n C.1.1.1 C.1.1.2.1 dL_law_433 rfl (lv_at hl 3 rfl) ?_
  refine lv_aload_n C.1.1.1 C.1.1.2.1 dL_law_434 rfl (lv_at hl 5 rfl) ?_
  refine lv_iload C.1.1.1 C.1.1.2.1 dL_law_435 (lv_at hl 1 rfl) ?_
  refine lv_iconst C.1.1.1 C.1.1.2.1 dL_law_437 rfl ?_
  refine lv_iadd C.1.1.1 C.1.1.2.1 dL_law_438 ?_
  refine L_ld C X hi.2.1 dL_law_439 ?_
  refine lv_aload_n C.1.1.1 C.1.1.2.1 dL_law_440 rfl (lv_at hl 5 rfl) ?_
  refine lv_iload C.1.1.1 C.1.1.2.1 dL_law_441 (lv_at hl 1 rfl) ?_
  refine lv_iconst C.1.1.1 C.1.1.2.1 dL_law_443 rfl ?_
  refine lv_iadd C.1.1.1 C.1.1.2.1 dL_law_444 ?_
  refine L_ld C X hi.2.2.1 dL_law_445 ?_
  refine L_callM C.2.2.2.2.2.1.1.1.1 C.2.2.2.2.2.2.1.1 C.2.2.2.2.1 C.2.1 X xv_L_140 rfl (kX12_guild C.2.2.2.2.2.2.1.1 C.2.1.2.2.2.2.1 M (xs (Int32.toNatClampNeg (i + 1))) (xs (Int32.toNatClampNeg (i + 2))) SM om h2) (Nat.le_of_ble_eq_true rfl) (Nat.le_of_ble_eq_true rfl) (Nat.le_trans (Nat.add_le_add_left (Nat.le_of_ble_eq_true rfl) _) hc4) (Nat.le_trans (Nat.add_le_add_left (Nat.le_of_ble_eq_true rfl) _) hs4) rfl hl.1 rfl (Nat.le_of_ble_eq_true rfl) dL_law_446 (fun H locs X => ?_)
  refine lv_istore C.1.1.1 C.1.1.2.1 dL_law_449 hl (by decide) rfl (fun ls hl => ?_)
  refine lv_goto (tgt := 1499) C.1.1.1 C.1.1.2.1 dL_law_451 (by decide) ?_
  exact W.widen (k := cs + 4) (n := sl + 24) (Nat.add_le_add_left (Nat.le_of_ble_eq_true rfl) _) (Nat.add_le_add_left (Nat.le_of_ble_eq_true rfl) _) (kk _ _ _ _ _ _ h6 X (lv_sub hl [2, 3, 4, 5, 6] rfl))
theorem LB_hours (C : LCx p l s m args meth c D g g2 cI cB cZ cQ cS cJ aK aV aO b L xs Am Am2) (hi : Lin i L) (X : LX D g g2 cI cB cZ cQ cS cJ aK aO b L xs SX SM f s H locs) (hJ : J SX SM) (hl : lv_has ls 7 (Llv b (g 0) (g2 99) aO i)) (hc4 : cs + 4 ≤ 601024) (hs4 : sl + 24 ≤ 7293034) (h : Lw_hours J) (kk : ∀ (H1 : Heap) (locs1 : List Loc) (ls1 : Array Slot) (SX1 SM1 : gS) (f1 : Nat → Int64), J SX1 SM1 → LX D g g2 cI cB cZ cQ cS cJ aK aO b L xs SX1 SM1 f1 s H1 locs1 → lv_has ls1 7 (Llv b (g 0) (g2 99) aO i) → W p l e room_1 s m args below meth c H1 locs1 (cs + 4) (sl + 24) Q (F0 m 1499 ls1 [])) : W p l e room_1 s m args below meth c H locs cs sl Q (F0 m 454 ls []) := by
  obtain ⟨N, ox, M, om, h1, h2, h5, h6⟩ := h SX SM (xs (Int32.toNatClampNeg (i + 1))) hJ
  unfold Llv at hl
  refine lv_aload_n C.1.1.1 C.1.1.2.1 dL_law_454 rfl (lv_at hl 3 rfl) ?_
  refine lv_aload_n C.1.1.1 C.1.1.2.1 dL_law_455 rfl (lv_at hl 4 rfl) ?_
  refine lv_iload C.1.1.1 C.1.1.2.1 dL_law_456 (lv_at hl 0 rfl) ?_
  refine lv_iconst C.1.1.1 C.1.1.2.1 dL_law_458 rfl ?_
  refine lv_iadd C.1.1.1 C.1.1.2.1 dL_law_459 ?_
  refine L_ld C X hi.2.1 dL_law_460 ?_
  refine L_callX C.2.2.2.2.2.1.1.1.1 C.2.2.2.2.2.2.1.1 C.2.2.2.2.1 C.1 X xv_L_141 rfl (kX11_hours C.2.2.2.2.2.1.1 C.1.2.2.2.2.1 N (xs (Int32.toNatClampNeg (i + 1))) SX ox h1) (Nat.le_of_ble_eq_true rfl) (Nat.le_of_ble_eq_true rfl) (Nat.le_trans (Nat.le_add_right _ _) hc4) (Nat.le_trans (Nat.le_add_right _ _) hs4) rfl hl.1 rfl (Nat.le_of_ble_eq_true rfl) dL_law_461 (fun H locs X => ?_)
  refine lv_pop C.1.1.1 C.1.1.2.1 dL_law_464 rfl ?_
  refine lv_aload_n C.1.1.1 C.1.1.2.1 dL_law_465 rfl (lv_at hl 2 rfl) ?_
  refine lv_aload_n C.1.1.1 C.1.1.2.1 dL_law_466 rfl (lv_at hl 4 rfl) ?_
  refine lv_iload C.1.1.1 C.1.1.2.1 dL_law_467 (lv_at hl 0 rfl) ?_
  refine lv_iconst C.1.1.1 C.1.1.2.1 dL_law_469 rfl ?_
  refine lv_iadd C.1.1.1 C.1.1.2.1 dL_law_470 ?_
  refine L_ld C X hi.2.1 dL_law_471 ?_
  refine L_callM C.2.2.2.2.2.1.1.1.1 C.2.2.2.2.2.2.1.1 C.2.2.2.2.1 C.2.1 X xv_L_144 rfl (kX12_hours C.2.2.2.2.2.2.1.1 C.2.1.2.2.2.2.1 M (xs (Int32.toNatClampNeg (i + 1))) SM om h2) (Nat.le_of_ble_eq_true rfl) (Nat.le_of_ble_eq_true rfl) (Nat.le_trans (Nat.le_add_right _ _) hc4) (Nat.le_trans (Nat.le_add_right _ _) hs4) rfl hl.1 rfl (Nat.le_of_ble_eq_true rfl) dL_law_472 (fun H locs X => ?_)
  refine lv_pop C.1.1.1 C.1.1.2.1 dL_law_475 rfl ?_
  refine lv_goto (tgt := 1499) C.1.1.1 C.1.1.2.1 dL_law_476 (by decide) ?_
  exact W.widen (k := cs + 4) (n := sl + 24) (Nat.le_add_right _ _) (Nat.le_add_right _ _) (kk _ _ _ _ _ _ h6 X (lv_sub hl [0, 1, 2, 3, 4] rfl))
theorem LB_hire (C : LCx p l s m args meth c D g g2 cI cB cZ cQ cS cJ aK aV aO b L xs Am Am2) (hi : Lin i L) (X : LX D g g2 cI cB cZ cQ cS cJ aK aO b L xs SX SM f s H locs) (hJ : J SX SM) (hl : lv_has ls 7 (Llv b (g 0) (g2 99) aO i)) (hc4 : cs + 4 ≤ 601024) (hs4 : sl + 24 ≤ 7293034) (h : Lw_hire J) (kk : ∀ (H1 : Heap) (locs1 : List Loc) (ls1 : Array Slot) (SX1 SM1 : gS) (f1 : Nat → Int64), J SX1 SM1 → LX D g g2 cI cB cZ cQ cS cJ aK aO b L xs SX1 SM1 f1 s H1 locs1 → lv_has ls1 7 (Llv b (g 0) (g2 99) aO i) → W p l e room_1 s m args below meth c H1 locs1 (cs + 4) (sl + 24) Q (F0 m 1499 ls1 [])) : W p l e room_1 s m args below meth c H locs cs sl Q (F0 m 479 ls []) := by
  obtain ⟨N, ox, M, om, h1, h2, h3, h4, h5, h6⟩ := h SX SM (xs (Int32.toNatClampNeg (i + 1))) (xs (Int32.toNatClampNeg (i + 2))) hJ
  unfold Llv at hl
  refine lv_aload_n C.1.1.1 C.1.1.2.1 dL_law_479 rfl (lv_at hl 3 rfl) ?_
  refine lv_aload_n C.1.1.1 C.1.1.2.1 dL_law_480 rfl (lv_at hl 4 rfl) ?_
  refine lv_iload C.1.1.1 C.1.1.2.1 dL_law_481 (lv_at hl 0 rfl) ?_
  refine lv_iconst C.1.1.1 C.1.1.2.1 dL_law_483 rfl ?_
  refine lv_iadd C.1.1.1 C.1.1.2.1 dL_law_484 ?_
  refine L_ld C X hi.2.1 dL_law_485 ?_
  refine lv_aload_n C.1.1.1 C.1.1.2.1 dL_law_486 rfl (lv_at hl 4 rfl) ?_
  refine lv_iload C.1.1.1 C.1.1.2.1 dL_law_487 (lv_at hl 0 rfl) ?_
  refine lv_iconst C.1.1.1 C.1.1.2.1 dL_law_489 rfl ?_
  refine lv_iadd C.1.1.1 C.1.1.2.1 dL_law_490 ?_
  refine L_ld C X hi.2.2.1 dL_law_491 ?_
  refine lv_aload_n C.1.1.1 C.1.1.2.1 dL_law_492 rfl (lv_at hl 1 rfl) ?_
  refine L_callS C.2.2.2.2.2.1.1.1.1 C.2.2.2.2.2.2.1.1 C.2.2.2.2.1 C.1 C.2.2.1 C.2.2.2.1 X lw_hire rfl (kL_hire C.2.2.2.2.2.1 C.1.2.2.2.2.1 (fun k hk => (C.2.2.2.2.1.1 k hk).2.1) N (xs (Int32.toNatClampNeg (i + 1))) (xs (Int32.toNatClampNeg (i + 2))) SX f ox h1 h3) (Nat.le_of_ble_eq_true rfl) (Nat.le_of_ble_eq_true rfl) (Nat.le_trans (Nat.add_le_add_left (Nat.le_of_ble_eq_true rfl) _) hc4) (Nat.le_trans (Nat.add_le_add_left (Nat.le_of_ble_eq_true rfl) _) hs4) rfl hl.1 rfl (Nat.le_of_ble_eq_true rfl) dL_law_493 (fun H locs X => ?_)
  refine lv_istore C.1.1.1 C.1.1.2.1 dL_law_496 hl (by decide) rfl (fun ls hl => ?_)
  refine lv_aload_n C.1.1.1 C.1.1.2.1 dL_law_498 rfl (lv_at hl 3 rfl) ?_
  refine lv_aload_n C.1.1.1 C.1.1.2.1 dL_law_499 rfl (lv_at hl 5 rfl) ?_
  refine lv_iload C.1.1.1 C.1.1.2.1 dL_law_500 (lv_at hl 1 rfl) ?_
  refine lv_iconst C.1.1.1 C.1.1.2.1 dL_law_502 rfl ?_
  refine lv_iadd C.1.1.1 C.1.1.2.1 dL_law_503 ?_
  refine L_ld C X hi.2.1 dL_law_504 ?_
  refine lv_aload_n C.1.1.1 C.1.1.2.1 dL_law_505 rfl (lv_at hl 5 rfl) ?_
  refine lv_iload C.1.1.1 C.1.1.2.1 dL_law_506 (lv_at hl 1 rfl) ?_
  refine lv_iconst C.1.1.1 C.1.1.2.1 dL_law_508 rfl ?_
  refine lv_iadd C.1.1.1 C.1.1.2.1 dL_law_509 ?_
  refine L_ld C X hi.2.2.1 dL_law_510 ?_
  refine L_callM C.2.2.2.2.2.1.1.1.1 C.2.2.2.2.2.2.1.1 C.2.2.2.2.1 C.2.1 X xv_L_147 rfl (kX12_hire C.2.2.2.2.2.2.1.1 C.2.1.2.2.2.2.1 M (xs (Int32.toNatClampNeg (i + 1))) (xs (Int32.toNatClampNeg (i + 2))) SM om h2) (Nat.le_of_ble_eq_true rfl) (Nat.le_of_ble_eq_true rfl) (Nat.le_trans (Nat.add_le_add_left (Nat.le_of_ble_eq_true rfl) _) hc4) (Nat.le_trans (Nat.add_le_add_left (Nat.le_of_ble_eq_true rfl) _) hs4) rfl hl.1 rfl (Nat.le_of_ble_eq_true rfl) dL_law_511 (fun H locs X => ?_)
  refine lv_istore C.1.1.1 C.1.1.2.1 dL_law_514 hl (by decide) rfl (fun ls hl => ?_)
  refine lv_goto (tgt := 1499) C.1.1.1 C.1.1.2.1 dL_law_516 (by decide) ?_
  exact W.widen (k := cs + 4) (n := sl + 24) (Nat.add_le_add_left (Nat.le_of_ble_eq_true rfl) _) (Nat.add_le_add_left (Nat.le_of_ble_eq_true rfl) _) (kk _ _ _ _ _ _ h6 X (lv_sub hl [2, 3, 4, 5, 6] rfl))
theorem LB_dismiss (C : LCx p l s m args meth c D g g2 cI cB cZ cQ cS cJ aK aV aO b L xs Am Am2) (hi : Lin i L) (X : LX D g g2 cI cB cZ cQ cS cJ aK aO b L xs SX SM f s H locs) (hJ : J SX SM) (hl : lv_has ls 7 (Llv b (g 0) (g2 99) aO i)) (hc4 : cs + 4 ≤ 601024) (hs4 : sl + 24 ≤ 7293034) (h : Lw_dismiss J) (kk : ∀ (H1 : Heap) (locs1 : List Loc) (ls1 : Array Slot) (SX1 SM1 : gS) (f1 : Nat → Int64), J SX1 SM1 → LX D g g2 cI cB cZ cQ cS cJ aK aO b L xs SX1 SM1 f1 s H1 locs1 → lv_has ls1 7 (Llv b (g 0) (g2 99) aO i) → W p l e room_1 s m args below meth c H1 locs1 (cs + 4) (sl + 24) Q (F0 m 1499 ls1 [])) : W p l e room_1 s m args below meth c H locs cs sl Q (F0 m 519 ls []) := by
  obtain ⟨N, ox, M, om, h1, h2, h3, h4, h5, h6⟩ := h SX SM (xs (Int32.toNatClampNeg (i + 1))) hJ
  unfold Llv at hl
  refine lv_aload_n C.1.1.1 C.1.1.2.1 dL_law_519 rfl (lv_at hl 3 rfl) ?_
  refine lv_aload_n C.1.1.1 C.1.1.2.1 dL_law_520 rfl (lv_at hl 4 rfl) ?_
  refine lv_iload C.1.1.1 C.1.1.2.1 dL_law_521 (lv_at hl 0 rfl) ?_
  refine lv_iconst C.1.1.1 C.1.1.2.1 dL_law_523 rfl ?_
  refine lv_iadd C.1.1.1 C.1.1.2.1 dL_law_524 ?_
  refine L_ld C X hi.2.1 dL_law_525 ?_
  refine lv_aload_n C.1.1.1 C.1.1.2.1 dL_law_526 rfl (lv_at hl 1 rfl) ?_
  refine L_callS C.2.2.2.2.2.1.1.1.1 C.2.2.2.2.2.2.1.1 C.2.2.2.2.1 C.1 C.2.2.1 C.2.2.2.1 X lw_dismiss rfl (kL_dismiss C.2.2.2.2.2.1 C.1.2.2.2.2.1 (fun k hk => (C.2.2.2.2.1.1 k hk).2.1) N (xs (Int32.toNatClampNeg (i + 1))) SX f ox h1 h3) (Nat.le_of_ble_eq_true rfl) (Nat.le_of_ble_eq_true rfl) (Nat.le_trans (Nat.add_le_add_left (Nat.le_of_ble_eq_true rfl) _) hc4) (Nat.le_trans (Nat.add_le_add_left (Nat.le_of_ble_eq_true rfl) _) hs4) rfl hl.1 rfl (Nat.le_of_ble_eq_true rfl) dL_law_527 (fun H locs X => ?_)
  refine lv_istore C.1.1.1 C.1.1.2.1 dL_law_530 hl (by decide) rfl (fun ls hl => ?_)
  refine lv_aload_n C.1.1.1 C.1.1.2.1 dL_law_532 rfl (lv_at hl 3 rfl) ?_
  refine lv_aload_n C.1.1.1 C.1.1.2.1 dL_law_533 rfl (lv_at hl 5 rfl) ?_
  refine lv_iload C.1.1.1 C.1.1.2.1 dL_law_534 (lv_at hl 1 rfl) ?_
  refine lv_iconst C.1.1.1 C.1.1.2.1 dL_law_536 rfl ?_
  refine lv_iadd C.1.1.1 C.1.1.2.1 dL_law_537 ?_
  refine L_ld C X hi.2.1 dL_law_538 ?_
  refine L_callM C.2.2.2.2.2.1.1.1.1 C.2.2.2.2.2.2.1.1 C.2.2.2.2.1 C.2.1 X xv_L_150 rfl (kX12_dismiss C.2.2.2.2.2.2.1.1 C.2.1.2.2.2.2.1 M (xs (Int32.toNatClampNeg (i + 1))) SM om h2) (Nat.le_of_ble_eq_true rfl) (Nat.le_of_ble_eq_true rfl) (Nat.le_trans (Nat.add_le_add_left (Nat.le_of_ble_eq_true rfl) _) hc4) (Nat.le_trans (Nat.add_le_add_left (Nat.le_of_ble_eq_true rfl) _) hs4) rfl hl.1 rfl (Nat.le_of_ble_eq_true rfl) dL_law_539 (fun H locs X => ?_)
  refine lv_istore C.1.1.1 C.1.1.2.1 dL_law_542 hl (by decide) rfl (fun ls hl => ?_)
  refine lv_goto (tgt := 1499) C.1.1.1 C.1.1.2.1 dL_law_544 (by decide) ?_
  exact W.widen (k := cs + 4) (n := sl + 24) (Nat.add_le_add_left (Nat.le_of_ble_eq_true rfl) _) (Nat.add_le_add_left (Nat.le_of_ble_eq_true rfl) _) (kk _ _ _ _ _ _ h6 X (lv_sub hl [2, 3, 4, 5, 6] rfl))
theorem LB_confess (C : LCx p l s m args meth c D g g2 cI cB cZ cQ cS cJ aK aV aO b L xs Am Am2) (hi : Lin i L) (X : LX D g g2 cI cB cZ cQ cS cJ aK aO b L xs SX SM f s H locs) (hJ : J SX SM) (hl : lv_has ls 7 (Llv b (g 0) (g2 99) aO i)) (hc4 : cs + 4 ≤ 601024) (hs4 : sl + 24 ≤ 7293034) (h : Lw_confess J) (kk : ∀ (H1 : Heap) (locs1 : List Loc) (ls1 : Array Slot) (SX1 SM1 : gS) (f1 : Nat → Int64), J SX1 SM1 → LX D g g2 cI cB cZ cQ cS cJ aK aO b L xs SX1 SM1 f1 s H1 locs1 → lv_has ls1 7 (Llv b (g 0) (g2 99) aO i) → W p l e room_1 s m args below meth c H1 locs1 (cs + 4) (sl + 24) Q (F0 m 1499 ls1 [])) : W p l e room_1 s m args below meth c H locs cs sl Q (F0 m 547 ls []) := by
  obtain ⟨N, ox, M, om, h1, h2, h3, h4, h5, h6⟩ := h SX SM (xs (Int32.toNatClampNeg (i + 1))) hJ
  unfold Llv at hl
  refine lv_aload_n C.1.1.1 C.1.1.2.1 dL_law_547 rfl (lv_at hl 3 rfl) ?_
  refine lv_aload_n C.1.1.1 C.1.1.2.1 dL_law_548 rfl (lv_at hl 4 rfl) ?_
  refine lv_iload C.1.1.1 C.1.1.2.1 dL_law_549 (lv_at hl 0 rfl) ?_
  refine lv_iconst C.1.1.1 C.1.1.2.1 dL_law_551 rfl ?_
  refine lv_iadd C.1.1.1 C.1.1.2.1 dL_law_552 ?_
  refine L_ld C X hi.2.1 dL_law_553 ?_
  refine lv_aload_n C.1.1.1 C.1.1.2.1 dL_law_554 rfl (lv_at hl 1 rfl) ?_
  refine L_callS C.2.2.2.2.2.1.1.1.1 C.2.2.2.2.2.2.1.1 C.2.2.2.2.1 C.1 C.2.2.1 C.2.2.2.1 X lw_confess rfl (kL_confess C.2.2.2.2.2.1 C.1.2.2.2.2.1 (fun k hk => (C.2.2.2.2.1.1 k hk).2.1) N (xs (Int32.toNatClampNeg (i + 1))) SX f ox h1 h3) (Nat.le_of_ble_eq_true rfl) (Nat.le_of_ble_eq_true rfl) (Nat.le_trans (Nat.add_le_add_left (Nat.le_of_ble_eq_true rfl) _) hc4) (Nat.le_trans (Nat.add_le_add_left (Nat.le_of_ble_eq_true rfl) _) hs4) rfl hl.1 rfl (Nat.le_of_ble_eq_true rfl) dL_law_555 (fun H locs X => ?_)
  refine lv_istore C.1.1.1 C.1.1.2.1 dL_law_558 hl (by decide) rfl (fun ls hl => ?_)
  refine lv_aload_n C.1.1.1 C.1.1.2.1 dL_law_560 rfl (lv_at hl 3 rfl) ?_
  refine lv_aload_n C.1.1.1 C.1.1.2.1 dL_law_561 rfl (lv_at hl 5 rfl) ?_
  refine lv_iload C.1.1.1 C.1.1.2.1 dL_law_562 (lv_at hl 1 rfl) ?_
  refine lv_iconst C.1.1.1 C.1.1.2.1 dL_law_564 rfl ?_
  refine lv_iadd C.1.1.1 C.1.1.2.1 dL_law_565 ?_
  refine L_ld C X hi.2.1 dL_law_566 ?_
  refine L_callM C.2.2.2.2.2.1.1.1.1 C.2.2.2.2.2.2.1.1 C.2.2.2.2.1 C.2.1 X xv_L_153 rfl (kX12_confess C.2.2.2.2.2.2.1.1 C.2.1.2.2.2.2.1 M (xs (Int32.toNatClampNeg (i + 1))) SM om h2) (Nat.le_of_ble_eq_true rfl) (Nat.le_of_ble_eq_true rfl) (Nat.le_trans (Nat.add_le_add_left (Nat.le_of_ble_eq_true rfl) _) hc4) (Nat.le_trans (Nat.add_le_add_left (Nat.le_of_ble_eq_true rfl) _) hs4) rfl hl.1 rfl (Nat.le_of_ble_eq_true rfl) dL_law_567 (fun H locs X => ?_)
  refine lv_istore C.1.1.1 C.1.1.2.1 dL_law_570 hl (by decide) rfl (fun ls hl => ?_)
  refine lv_goto (tgt := 1499) C.1.1.1 C.1.1.2.1 dL_law_572 (by decide) ?_
  exact W.widen (k := cs + 4) (n := sl + 24) (Nat.add_le_add_left (Nat.le_of_ble_eq_true rfl) _) (Nat.add_le_add_left (Nat.le_of_ble_eq_true rfl) _) (kk _ _ _ _ _ _ h6 X (lv_sub hl [2, 3, 4, 5, 6] rfl))
theorem LB_drain0 (C : LCx p l s m args meth c D g g2 cI cB cZ cQ cS cJ aK aV aO b L xs Am Am2) (hi : Lin i L) (X : LX D g g2 cI cB cZ cQ cS cJ aK aO b L xs SX SM f s H locs) (hJ : J SX SM) (hl : lv_has ls 7 (Llv b (g 0) (g2 99) aO i)) (hc4 : cs + 4 ≤ 601024) (hs4 : sl + 24 ≤ 7293034) (hz : xs (Int32.toNatClampNeg (i + 2)) = 0) (h : Lw_drain J) (kk : ∀ (H1 : Heap) (locs1 : List Loc) (ls1 : Array Slot) (SX1 SM1 : gS) (f1 : Nat → Int64), J SX1 SM1 → LX D g g2 cI cB cZ cQ cS cJ aK aO b L xs SX1 SM1 f1 s H1 locs1 → lv_has ls1 7 (Llv b (g 0) (g2 99) aO i) → W p l e room_1 s m args below meth c H1 locs1 (cs + 4) (sl + 24) Q (F0 m 1499 ls1 [])) : W p l e room_1 s m args below meth c H locs cs sl Q (F0 m 575 ls []) := by
  obtain ⟨N, ox, M, om, h1, h2, h3, h4, h5, h6⟩ := h SX SM (xs (Int32.toNatClampNeg (i + 1))) 0 hJ (Or.inl rfl)
  unfold Llv at hl
  refine lv_aload_n C.1.1.1 C.1.1.2.1 dL_law_575 rfl (lv_at hl 3 rfl) ?_
  refine lv_aload_n C.1.1.1 C.1.1.2.1 dL_law_576 rfl (lv_at hl 4 rfl) ?_
  refine lv_iload C.1.1.1 C.1.1.2.1 dL_law_577 (lv_at hl 0 rfl) ?_
  refine lv_iconst C.1.1.1 C.1.1.2.1 dL_law_579 rfl ?_
  refine lv_iadd C.1.1.1 C.1.1.2.1 dL_law_580 ?_
  refine L_ld C X hi.2.1 dL_law_581 ?_
  refine lv_aload_n C.1.1.1 C.1.1.2.1 dL_law_582 rfl (lv_at hl 4 rfl) ?_
  refine lv_iload C.1.1.1 C.1.1.2.1 dL_law_583 (lv_at hl 0 rfl) ?_
  refine lv_iconst C.1.1.1 C.1.1.2.1 dL_law_585 rfl ?_
  refine lv_iadd C.1.1.1 C.1.1.2.1 dL_law_586 ?_
  refine L_ld C X hi.2.2.1 dL_law_587 ?_
  refine lv_if_eq (tgt := 595) C.1.1.1 C.1.1.2.1 dL_law_588 (by decide) (fun _ => ?_) (fun hz9 => absurd hz hz9)
  refine lv_iconst C.1.1.1 C.1.1.2.1 dL_law_595 rfl ?_
  refine lv_aload_n C.1.1.1 C.1.1.2.1 dL_law_596 rfl (lv_at hl 1 rfl) ?_
  refine L_callS C.2.2.2.2.2.1.1.1.1 C.2.2.2.2.2.2.1.1 C.2.2.2.2.1 C.1 C.2.2.1 C.2.2.2.1 X lw_drain rfl (kL_drain C.2.2.2.2.2.1 C.1.2.2.2.2.1 (fun k hk => (C.2.2.2.2.1.1 k hk).2.1) N (xs (Int32.toNatClampNeg (i + 1))) 0 SX f ox h1 h3) (Nat.le_of_ble_eq_true rfl) (Nat.le_of_ble_eq_true rfl) (Nat.le_trans (Nat.add_le_add_left (Nat.le_of_ble_eq_true rfl) _) hc4) (Nat.le_trans (Nat.add_le_add_left (Nat.le_of_ble_eq_true rfl) _) hs4) rfl hl.1 rfl (Nat.le_of_ble_eq_true rfl) dL_law_597 (fun H locs X => ?_)
  refine lv_istore C.1.1.1 C.1.1.2.1 dL_law_600 hl (by decide) rfl (fun ls hl => ?_)
  refine lv_aload_n C.1.1.1 C.1.1.2.1 dL_law_602 rfl (lv_at hl 3 rfl) ?_
  refine lv_aload_n C.1.1.1 C.1.1.2.1 dL_law_603 rfl (lv_at hl 5 rfl) ?_
  refine lv_iload C.1.1.1 C.1.1.2.1 dL_law_604 (lv_at hl 1 rfl) ?_
  refine lv_iconst C.1.1.1 C.1.1.2.1 dL_law_606 rfl ?_
  refine lv_iadd C.1.1.1 C.1.1.2.1 dL_law_607 ?_
  refine L_ld C X hi.2.1 dL_law_608 ?_
  refine lv_aload_n C.1.1.1 C.1.1.2.1 dL_law_609 rfl (lv_at hl 5 rfl) ?_
  refine lv_iload C.1.1.1 C.1.1.2.1 dL_law_610 (lv_at hl 1 rfl) ?_
  refine lv_iconst C.1.1.1 C.1.1.2.1 dL_law_612 rfl ?_
  refine lv_iadd C.1.1.1 C.1.1.2.1 dL_law_613 ?_
  refine L_ld C X hi.2.2.1 dL_law_614 ?_
  refine lv_if_eq (tgt := 622) C.1.1.1 C.1.1.2.1 dL_law_615 (by decide) (fun _ => ?_) (fun hz9 => absurd hz hz9)
  refine lv_iconst C.1.1.1 C.1.1.2.1 dL_law_622 rfl ?_
  refine L_callM C.2.2.2.2.2.1.1.1.1 C.2.2.2.2.2.2.1.1 C.2.2.2.2.1 C.2.1 X xv_L_157 rfl (kX12_drain C.2.2.2.2.2.2.1.1 C.2.1.2.2.2.2.1 M (xs (Int32.toNatClampNeg (i + 1))) 0 SM om h2) (Nat.le_of_ble_eq_true rfl) (Nat.le_of_ble_eq_true rfl) (Nat.le_trans (Nat.add_le_add_left (Nat.le_of_ble_eq_true rfl) _) hc4) (Nat.le_trans (Nat.add_le_add_left (Nat.le_of_ble_eq_true rfl) _) hs4) rfl hl.1 rfl (Nat.le_of_ble_eq_true rfl) dL_law_623 (fun H locs X => ?_)
  refine lv_istore C.1.1.1 C.1.1.2.1 dL_law_626 hl (by decide) rfl (fun ls hl => ?_)
  refine lv_goto (tgt := 1499) C.1.1.1 C.1.1.2.1 dL_law_628 (by decide) ?_
  exact W.widen (k := cs + 4) (n := sl + 24) (Nat.add_le_add_left (Nat.le_of_ble_eq_true rfl) _) (Nat.add_le_add_left (Nat.le_of_ble_eq_true rfl) _) (kk _ _ _ _ _ _ h6 X (lv_sub hl [2, 3, 4, 5, 6] rfl))
theorem LB_drain1 (C : LCx p l s m args meth c D g g2 cI cB cZ cQ cS cJ aK aV aO b L xs Am Am2) (hi : Lin i L) (X : LX D g g2 cI cB cZ cQ cS cJ aK aO b L xs SX SM f s H locs) (hJ : J SX SM) (hl : lv_has ls 7 (Llv b (g 0) (g2 99) aO i)) (hc4 : cs + 4 ≤ 601024) (hs4 : sl + 24 ≤ 7293034) (hz : ¬ xs (Int32.toNatClampNeg (i + 2)) = 0) (h : Lw_drain J) (kk : ∀ (H1 : Heap) (locs1 : List Loc) (ls1 : Array Slot) (SX1 SM1 : gS) (f1 : Nat → Int64), J SX1 SM1 → LX D g g2 cI cB cZ cQ cS cJ aK aO b L xs SX1 SM1 f1 s H1 locs1 → lv_has ls1 7 (Llv b (g 0) (g2 99) aO i) → W p l e room_1 s m args below meth c H1 locs1 (cs + 4) (sl + 24) Q (F0 m 1499 ls1 [])) : W p l e room_1 s m args below meth c H locs cs sl Q (F0 m 575 ls []) := by
  obtain ⟨N, ox, M, om, h1, h2, h3, h4, h5, h6⟩ := h SX SM (xs (Int32.toNatClampNeg (i + 1))) 1 hJ (Or.inr rfl)
  unfold Llv at hl
  refine lv_aload_n C.1.1.1 C.1.1.2.1 dL_law_575 rfl (lv_at hl 3 rfl) ?_
  refine lv_aload_n C.1.1.1 C.1.1.2.1 dL_law_576 rfl (lv_at hl 4 rfl) ?_
  refine lv_iload C.1.1.1 C.1.1.2.1 dL_law_577 (lv_at hl 0 rfl) ?_
  refine lv_iconst C.1.1.1 C.1.1.2.1 dL_law_579 rfl ?_
  refine lv_iadd C.1.1.1 C.1.1.2.1 dL_law_580 ?_
  refine L_ld C X hi.2.1 dL_law_581 ?_
  refine lv_aload_n C.1.1.1 C.1.1.2.1 dL_law_582 rfl (lv_at hl 4 rfl) ?_
  refine lv_iload C.1.1.1 C.1.1.2.1 dL_law_583 (lv_at hl 0 rfl) ?_
  refine lv_iconst C.1.1.1 C.1.1.2.1 dL_law_585 rfl ?_
  refine lv_iadd C.1.1.1 C.1.1.2.1 dL_law_586 ?_
  refine L_ld C X hi.2.2.1 dL_law_587 ?_
  refine lv_if_eq (tgt := 595) C.1.1.1 C.1.1.2.1 dL_law_588 (by decide) (fun hz9 => absurd hz9 hz) (fun _ => ?_)
  refine lv_iconst C.1.1.1 C.1.1.2.1 dL_law_591 rfl ?_
  refine lv_goto (tgt := 596) C.1.1.1 C.1.1.2.1 dL_law_592 (by decide) ?_
  refine lv_aload_n C.1.1.1 C.1.1.2.1 dL_law_596 rfl (lv_at hl 1 rfl) ?_
  refine L_callS C.2.2.2.2.2.1.1.1.1 C.2.2.2.2.2.2.1.1 C.2.2.2.2.1 C.1 C.2.2.1 C.2.2.2.1 X lw_drain rfl (kL_drain C.2.2.2.2.2.1 C.1.2.2.2.2.1 (fun k hk => (C.2.2.2.2.1.1 k hk).2.1) N (xs (Int32.toNatClampNeg (i + 1))) 1 SX f ox h1 h3) (Nat.le_of_ble_eq_true rfl) (Nat.le_of_ble_eq_true rfl) (Nat.le_trans (Nat.add_le_add_left (Nat.le_of_ble_eq_true rfl) _) hc4) (Nat.le_trans (Nat.add_le_add_left (Nat.le_of_ble_eq_true rfl) _) hs4) rfl hl.1 rfl (Nat.le_of_ble_eq_true rfl) dL_law_597 (fun H locs X => ?_)
  refine lv_istore C.1.1.1 C.1.1.2.1 dL_law_600 hl (by decide) rfl (fun ls hl => ?_)
  refine lv_aload_n C.1.1.1 C.1.1.2.1 dL_law_602 rfl (lv_at hl 3 rfl) ?_
  refine lv_aload_n C.1.1.1 C.1.1.2.1 dL_law_603 rfl (lv_at hl 5 rfl) ?_
  refine lv_iload C.1.1.1 C.1.1.2.1 dL_law_604 (lv_at hl 1 rfl) ?_
  refine lv_iconst C.1.1.1 C.1.1.2.1 dL_law_606 rfl ?_
  refine lv_iadd C.1.1.1 C.1.1.2.1 dL_law_607 ?_
  refine L_ld C X hi.2.1 dL_law_608 ?_
  refine lv_aload_n C.1.1.1 C.1.1.2.1 dL_law_609 rfl (lv_at hl 5 rfl) ?_
  refine lv_iload C.1.1.1 C.1.1.2.1 dL_law_610 (lv_at hl 1 rfl) ?_
  refine lv_iconst C.1.1.1 C.1.1.2.1 dL_law_612 rfl ?_
  refine lv_iadd C.1.1.1 C.1.1.2.1 dL_law_613 ?_
  refine L_ld C X hi.2.2.1 dL_law_614 ?_
  refine lv_if_eq (tgt := 622) C.1.1.1 C.1.1.2.1 dL_law_615 (by decide) (fun hz9 => absurd hz9 hz) (fun _ => ?_)
  refine lv_iconst C.1.1.1 C.1.1.2.1 dL_law_618 rfl ?_
  refine lv_goto (tgt := 623) C.1.1.1 C.1.1.2.1 dL_law_619 (by decide) ?_
  refine L_callM C.2.2.2.2.2.1.1.1.1 C.2.2.2.2.2.2.1.1 C.2.2.2.2.1 C.2.1 X xv_L_157 rfl (kX12_drain C.2.2.2.2.2.2.1.1 C.2.1.2.2.2.2.1 M (xs (Int32.toNatClampNeg (i + 1))) 1 SM om h2) (Nat.le_of_ble_eq_true rfl) (Nat.le_of_ble_eq_true rfl) (Nat.le_trans (Nat.add_le_add_left (Nat.le_of_ble_eq_true rfl) _) hc4) (Nat.le_trans (Nat.add_le_add_left (Nat.le_of_ble_eq_true rfl) _) hs4) rfl hl.1 rfl (Nat.le_of_ble_eq_true rfl) dL_law_623 (fun H locs X => ?_)
  refine lv_istore C.1.1.1 C.1.1.2.1 dL_law_626 hl (by decide) rfl (fun ls hl => ?_)
  refine lv_goto (tgt := 1499) C.1.1.1 C.1.1.2.1 dL_law_628 (by decide) ?_
  exact W.widen (k := cs + 4) (n := sl + 24) (Nat.add_le_add_left (Nat.le_of_ble_eq_true rfl) _) (Nat.add_le_add_left (Nat.le_of_ble_eq_true rfl) _) (kk _ _ _ _ _ _ h6 X (lv_sub hl [2, 3, 4, 5, 6] rfl))
theorem LB_give (C : LCx p l s m args meth c D g g2 cI cB cZ cQ cS cJ aK aV aO b L xs Am Am2) (hi : Lin i L) (X : LX D g g2 cI cB cZ cQ cS cJ aK aO b L xs SX SM f s H locs) (hJ : J SX SM) (hl : lv_has ls 7 (Llv b (g 0) (g2 99) aO i)) (hc4 : cs + 4 ≤ 601024) (hs4 : sl + 24 ≤ 7293034) (h : Lw_give J) (kk : ∀ (H1 : Heap) (locs1 : List Loc) (ls1 : Array Slot) (SX1 SM1 : gS) (f1 : Nat → Int64), J SX1 SM1 → LX D g g2 cI cB cZ cQ cS cJ aK aO b L xs SX1 SM1 f1 s H1 locs1 → lv_has ls1 7 (Llv b (g 0) (g2 99) aO i) → W p l e room_1 s m args below meth c H1 locs1 (cs + 4) (sl + 24) Q (F0 m 1499 ls1 [])) : W p l e room_1 s m args below meth c H locs cs sl Q (F0 m 631 ls []) := by
  obtain ⟨N, ox, M, om, h1, h2, h3, h4, h5, h6⟩ := h SX SM (xs (Int32.toNatClampNeg (i + 1))) (xs (Int32.toNatClampNeg (i + 2))) hJ
  unfold Llv at hl
  refine lv_aload_n C.1.1.1 C.1.1.2.1 dL_law_631 rfl (lv_at hl 3 rfl) ?_
  refine lv_aload_n C.1.1.1 C.1.1.2.1 dL_law_632 rfl (lv_at hl 4 rfl) ?_
  refine lv_iload C.1.1.1 C.1.1.2.1 dL_law_633 (lv_at hl 0 rfl) ?_
  refine lv_iconst C.1.1.1 C.1.1.2.1 dL_law_635 rfl ?_
  refine lv_iadd C.1.1.1 C.1.1.2.1 dL_law_636 ?_
  refine L_ld C X hi.2.1 dL_law_637 ?_
  refine lv_aload_n C.1.1.1 C.1.1.2.1 dL_law_638 rfl (lv_at hl 4 rfl) ?_
  refine lv_iload C.1.1.1 C.1.1.2.1 dL_law_639 (lv_at hl 0 rfl) ?_
  refine lv_iconst C.1.1.1 C.1.1.2.1 dL_law_641 rfl ?_
  refine lv_iadd C.1.1.1 C.1.1.2.1 dL_law_642 ?_
  refine L_ld C X hi.2.2.1 dL_law_643 ?_
  refine lv_aload_n C.1.1.1 C.1.1.2.1 dL_law_644 rfl (lv_at hl 1 rfl) ?_
  refine L_callS C.2.2.2.2.2.1.1.1.1 C.2.2.2.2.2.2.1.1 C.2.2.2.2.1 C.1 C.2.2.1 C.2.2.2.1 X lw_give rfl (kL_give C.2.2.2.2.2.1 C.1.2.2.2.2.1 (fun k hk => (C.2.2.2.2.1.1 k hk).2.1) N (xs (Int32.toNatClampNeg (i + 1))) (xs (Int32.toNatClampNeg (i + 2))) SX f ox h1 h3) (Nat.le_of_ble_eq_true rfl) (Nat.le_of_ble_eq_true rfl) (Nat.le_trans (Nat.add_le_add_left (Nat.le_of_ble_eq_true rfl) _) hc4) (Nat.le_trans (Nat.add_le_add_left (Nat.le_of_ble_eq_true rfl) _) hs4) rfl hl.1 rfl (Nat.le_of_ble_eq_true rfl) dL_law_645 (fun H locs X => ?_)
  refine lv_istore C.1.1.1 C.1.1.2.1 dL_law_648 hl (by decide) rfl (fun ls hl => ?_)
  refine lv_aload_n C.1.1.1 C.1.1.2.1 dL_law_650 rfl (lv_at hl 3 rfl) ?_
  refine lv_aload_n C.1.1.1 C.1.1.2.1 dL_law_651 rfl (lv_at hl 5 rfl) ?_
  refine lv_iload C.1.1.1 C.1.1.2.1 dL_law_652 (lv_at hl 1 rfl) ?_
  refine lv_iconst C.1.1.1 C.1.1.2.1 dL_law_654 rfl ?_
  refine lv_iadd C.1.1.1 C.1.1.2.1 dL_law_655 ?_
  refine L_ld C X hi.2.1 dL_law_656 ?_
  refine lv_aload_n C.1.1.1 C.1.1.2.1 dL_law_657 rfl (lv_at hl 5 rfl) ?_
  refine lv_iload C.1.1.1 C.1.1.2.1 dL_law_658 (lv_at hl 1 rfl) ?_
  refine lv_iconst C.1.1.1 C.1.1.2.1 dL_law_660 rfl ?_
  refine lv_iadd C.1.1.1 C.1.1.2.1 dL_law_661 ?_
  refine L_ld C X hi.2.2.1 dL_law_662 ?_
  refine L_callM C.2.2.2.2.2.1.1.1.1 C.2.2.2.2.2.2.1.1 C.2.2.2.2.1 C.2.1 X xv_L_160 rfl (kX12_give C.2.2.2.2.2.2.1.1 C.2.1.2.2.2.2.1 M (xs (Int32.toNatClampNeg (i + 1))) (xs (Int32.toNatClampNeg (i + 2))) SM om h2) (Nat.le_of_ble_eq_true rfl) (Nat.le_of_ble_eq_true rfl) (Nat.le_trans (Nat.add_le_add_left (Nat.le_of_ble_eq_true rfl) _) hc4) (Nat.le_trans (Nat.add_le_add_left (Nat.le_of_ble_eq_true rfl) _) hs4) rfl hl.1 rfl (Nat.le_of_ble_eq_true rfl) dL_law_663 (fun H locs X => ?_)
  refine lv_istore C.1.1.1 C.1.1.2.1 dL_law_666 hl (by decide) rfl (fun ls hl => ?_)
  refine lv_goto (tgt := 1499) C.1.1.1 C.1.1.2.1 dL_law_668 (by decide) ?_
  exact W.widen (k := cs + 4) (n := sl + 24) (Nat.add_le_add_left (Nat.le_of_ble_eq_true rfl) _) (Nat.add_le_add_left (Nat.le_of_ble_eq_true rfl) _) (kk _ _ _ _ _ _ h6 X (lv_sub hl [2, 3, 4, 5, 6] rfl))
theorem LB_undo (C : LCx p l s m args meth c D g g2 cI cB cZ cQ cS cJ aK aV aO b L xs Am Am2) (hi : Lin i L) (X : LX D g g2 cI cB cZ cQ cS cJ aK aO b L xs SX SM f s H locs) (hJ : J SX SM) (hl : lv_has ls 7 (Llv b (g 0) (g2 99) aO i)) (hc4 : cs + 4 ≤ 601024) (hs4 : sl + 24 ≤ 7293034) (h : Lw_undo J) (kk : ∀ (H1 : Heap) (locs1 : List Loc) (ls1 : Array Slot) (SX1 SM1 : gS) (f1 : Nat → Int64), J SX1 SM1 → LX D g g2 cI cB cZ cQ cS cJ aK aO b L xs SX1 SM1 f1 s H1 locs1 → lv_has ls1 7 (Llv b (g 0) (g2 99) aO i) → W p l e room_1 s m args below meth c H1 locs1 (cs + 4) (sl + 24) Q (F0 m 1499 ls1 [])) : W p l e room_1 s m args below meth c H locs cs sl Q (F0 m 671 ls []) := by
  obtain ⟨N, ox, M, om, h1, h2, h5, h6⟩ := h SX SM  hJ
  unfold Llv at hl
  refine lv_aload_n C.1.1.1 C.1.1.2.1 dL_law_671 rfl (lv_at hl 3 rfl) ?_
  refine L_callX C.2.2.2.2.2.1.1.1.1 C.2.2.2.2.2.2.1.1 C.2.2.2.2.1 C.1 X xv_L_161 rfl (kX11_undo C.2.2.2.2.2.1.1.1 C.1.2.2.2.2.1 N  SX ox h1) (Nat.le_of_ble_eq_true rfl) (Nat.le_of_ble_eq_true rfl) (Nat.le_trans (Nat.le_add_right _ _) hc4) (Nat.le_trans (Nat.le_add_right _ _) hs4) rfl hl.1 rfl (Nat.le_of_ble_eq_true rfl) dL_law_672 (fun H locs X => ?_)
  refine lv_pop C.1.1.1 C.1.1.2.1 dL_law_675 rfl ?_
  refine lv_aload_n C.1.1.1 C.1.1.2.1 dL_law_676 rfl (lv_at hl 2 rfl) ?_
  refine L_callM C.2.2.2.2.2.1.1.1.1 C.2.2.2.2.2.2.1.1 C.2.2.2.2.1 C.2.1 X xv_L_164 rfl (kX12_undo C.2.2.2.2.2.2.1.1 C.2.1.2.2.2.2.1 M  SM om h2) (Nat.le_of_ble_eq_true rfl) (Nat.le_of_ble_eq_true rfl) (Nat.le_trans (Nat.le_add_right _ _) hc4) (Nat.le_trans (Nat.le_add_right _ _) hs4) rfl hl.1 rfl (Nat.le_of_ble_eq_true rfl) dL_law_677 (fun H locs X => ?_)
  refine lv_pop C.1.1.1 C.1.1.2.1 dL_law_680 rfl ?_
  refine lv_goto (tgt := 1499) C.1.1.1 C.1.1.2.1 dL_law_681 (by decide) ?_
  exact W.widen (k := cs + 4) (n := sl + 24) (Nat.le_add_right _ _) (Nat.le_add_right _ _) (kk _ _ _ _ _ _ h6 X (lv_sub hl [0, 1, 2, 3, 4] rfl))
theorem LB_then (C : LCx p l s m args meth c D g g2 cI cB cZ cQ cS cJ aK aV aO b L xs Am Am2) (hi : Lin i L) (X : LX D g g2 cI cB cZ cQ cS cJ aK aO b L xs SX SM f s H locs) (hJ : J SX SM) (hl : lv_has ls 7 (Llv b (g 0) (g2 99) aO i)) (hc4 : cs + 4 ≤ 601024) (hs4 : sl + 24 ≤ 7293034) (h : Lw_then J) (kk : ∀ (H1 : Heap) (locs1 : List Loc) (ls1 : Array Slot) (SX1 SM1 : gS) (f1 : Nat → Int64), J SX1 SM1 → LX D g g2 cI cB cZ cQ cS cJ aK aO b L xs SX1 SM1 f1 s H1 locs1 → lv_has ls1 7 (Llv b (g 0) (g2 99) aO i) → W p l e room_1 s m args below meth c H1 locs1 (cs + 4) (sl + 24) Q (F0 m 1499 ls1 [])) : W p l e room_1 s m args below meth c H locs cs sl Q (F0 m 684 ls []) := by
  obtain ⟨N, ox, M, om, h1, h2, h3, h4, h5, h6⟩ := h SX SM (xs (Int32.toNatClampNeg (i + 1))) (xs (Int32.toNatClampNeg (i + 2))) (xs (Int32.toNatClampNeg (i + 3))) hJ
  unfold Llv at hl
  refine lv_aload_n C.1.1.1 C.1.1.2.1 dL_law_684 rfl (lv_at hl 3 rfl) ?_
  refine lv_aload_n C.1.1.1 C.1.1.2.1 dL_law_685 rfl (lv_at hl 4 rfl) ?_
  refine lv_iload C.1.1.1 C.1.1.2.1 dL_law_686 (lv_at hl 0 rfl) ?_
  refine lv_iconst C.1.1.1 C.1.1.2.1 dL_law_688 rfl ?_
  refine lv_iadd C.1.1.1 C.1.1.2.1 dL_law_689 ?_
  refine L_ld C X hi.2.1 dL_law_690 ?_
  refine lv_aload_n C.1.1.1 C.1.1.2.1 dL_law_691 rfl (lv_at hl 4 rfl) ?_
  refine lv_iload C.1.1.1 C.1.1.2.1 dL_law_692 (lv_at hl 0 rfl) ?_
  refine lv_iconst C.1.1.1 C.1.1.2.1 dL_law_694 rfl ?_
  refine lv_iadd C.1.1.1 C.1.1.2.1 dL_law_695 ?_
  refine L_ld C X hi.2.2.1 dL_law_696 ?_
  refine lv_aload_n C.1.1.1 C.1.1.2.1 dL_law_697 rfl (lv_at hl 4 rfl) ?_
  refine lv_iload C.1.1.1 C.1.1.2.1 dL_law_698 (lv_at hl 0 rfl) ?_
  refine lv_iconst C.1.1.1 C.1.1.2.1 dL_law_700 rfl ?_
  refine lv_iadd C.1.1.1 C.1.1.2.1 dL_law_701 ?_
  refine L_ld C X hi.2.2.2.1 dL_law_702 ?_
  refine lv_aload_n C.1.1.1 C.1.1.2.1 dL_law_703 rfl (lv_at hl 1 rfl) ?_
  refine L_callS C.2.2.2.2.2.1.1.1.1 C.2.2.2.2.2.2.1.1 C.2.2.2.2.1 C.1 C.2.2.1 C.2.2.2.1 X lw_then rfl (kL_then C.2.2.2.2.2.1 C.1.2.2.2.2.1 (fun k hk => (C.2.2.2.2.1.1 k hk).2.1) N (xs (Int32.toNatClampNeg (i + 1))) (xs (Int32.toNatClampNeg (i + 2))) (xs (Int32.toNatClampNeg (i + 3))) SX f ox h1 h3) (Nat.le_of_ble_eq_true rfl) (Nat.le_of_ble_eq_true rfl) (Nat.le_trans (Nat.add_le_add_left (Nat.le_of_ble_eq_true rfl) _) hc4) (Nat.le_trans (Nat.add_le_add_left (Nat.le_of_ble_eq_true rfl) _) hs4) rfl hl.1 rfl (Nat.le_of_ble_eq_true rfl) dL_law_704 (fun H locs X => ?_)
  refine lv_istore C.1.1.1 C.1.1.2.1 dL_law_707 hl (by decide) rfl (fun ls hl => ?_)
  refine lv_aload_n C.1.1.1 C.1.1.2.1 dL_law_709 rfl (lv_at hl 3 rfl) ?_
  refine lv_aload_n C.1.1.1 C.1.1.2.1 dL_law_710 rfl (lv_at hl 5 rfl) ?_
  refine lv_iload C.1.1.1 C.1.1.2.1 dL_law_711 (lv_at hl 1 rfl) ?_
  refine lv_iconst C.1.1.1 C.1.1.2.1 dL_law_713 rfl ?_
  refine lv_iadd C.1.1.1 C.1.1.2.1 dL_law_714 ?_
  refine L_ld C X hi.2.1 dL_law_715 ?_
  refine lv_aload_n C.1.1.1 C.1.1.2.1 dL_law_716 rfl (lv_at hl 5 rfl) ?_
  refine lv_iload C.1.1.1 C.1.1.2.1 dL_law_717 (lv_at hl 1 rfl) ?_
  refine lv_iconst C.1.1.1 C.1.1.2.1 dL_law_719 rfl ?_
  refine lv_iadd C.1.1.1 C.1.1.2.1 dL_law_720 ?_
  refine L_ld C X hi.2.2.1 dL_law_721 ?_
  refine lv_aload_n C.1.1.1 C.1.1.2.1 dL_law_722 rfl (lv_at hl 5 rfl) ?_
  refine lv_iload C.1.1.1 C.1.1.2.1 dL_law_723 (lv_at hl 1 rfl) ?_
  refine lv_iconst C.1.1.1 C.1.1.2.1 dL_law_725 rfl ?_
  refine lv_iadd C.1.1.1 C.1.1.2.1 dL_law_726 ?_
  refine L_ld C X hi.2.2.2.1 dL_law_727 ?_
  refine L_callM C.2.2.2.2.2.1.1.1.1 C.2.2.2.2.2.2.1.1 C.2.2.2.2.1 C.2.1 X xv_L_168 rfl (kX12_then C.2.2.2.2.2.2.1.1 C.2.1.2.2.2.2.1 M (xs (Int32.toNatClampNeg (i + 1))) (xs (Int32.toNatClampNeg (i + 2))) (xs (Int32.toNatClampNeg (i + 3))) SM om h2) (Nat.le_of_ble_eq_true rfl) (Nat.le_of_ble_eq_true rfl) (Nat.le_trans (Nat.add_le_add_left (Nat.le_of_ble_eq_true rfl) _) hc4) (Nat.le_trans (Nat.add_le_add_left (Nat.le_of_ble_eq_true rfl) _) hs4) rfl hl.1 rfl (Nat.le_of_ble_eq_true rfl) dL_law_728 (fun H locs X => ?_)
  refine lv_istore C.1.1.1 C.1.1.2.1 dL_law_731 hl (by decide) rfl (fun ls hl => ?_)
  refine lv_goto (tgt := 1499) C.1.1.1 C.1.1.2.1 dL_law_733 (by decide) ?_
  exact W.widen (k := cs + 4) (n := sl + 24) (Nat.add_le_add_left (Nat.le_of_ble_eq_true rfl) _) (Nat.add_le_add_left (Nat.le_of_ble_eq_true rfl) _) (kk _ _ _ _ _ _ h6 X (lv_sub hl [2, 3, 4, 5, 6] rfl))
theorem LB_dripping (C : LCx p l s m args meth c D g g2 cI cB cZ cQ cS cJ aK aV aO b L xs Am Am2) (hi : Lin i L) (X : LX D g g2 cI cB cZ cQ cS cJ aK aO b L xs SX SM f s H locs) (hJ : J SX SM) (hl : lv_has ls 7 (Llv b (g 0) (g2 99) aO i)) (hc4 : cs + 4 ≤ 601024) (hs4 : sl + 24 ≤ 7293034) (h : Lw_dripping J) (kk : ∀ (H1 : Heap) (locs1 : List Loc) (ls1 : Array Slot) (SX1 SM1 : gS) (f1 : Nat → Int64), J SX1 SM1 → LX D g g2 cI cB cZ cQ cS cJ aK aO b L xs SX1 SM1 f1 s H1 locs1 → lv_has ls1 7 (Llv b (g 0) (g2 99) aO i) → W p l e room_1 s m args below meth c H1 locs1 (cs + 4) (sl + 24) Q (F0 m 1499 ls1 [])) : W p l e room_1 s m args below meth c H locs cs sl Q (F0 m 736 ls []) := by
  obtain ⟨N, ox, M, om, h1, h2, h3, h4, h5, h6⟩ := h SX SM (xs (Int32.toNatClampNeg (i + 1))) hJ
  unfold Llv at hl
  refine lv_aload_n C.1.1.1 C.1.1.2.1 dL_law_736 rfl (lv_at hl 3 rfl) ?_
  refine lv_aload_n C.1.1.1 C.1.1.2.1 dL_law_737 rfl (lv_at hl 4 rfl) ?_
  refine lv_iload C.1.1.1 C.1.1.2.1 dL_law_738 (lv_at hl 0 rfl) ?_
  refine lv_iconst C.1.1.1 C.1.1.2.1 dL_law_740 rfl ?_
  refine lv_iadd C.1.1.1 C.1.1.2.1 dL_law_741 ?_
  refine L_ld C X hi.2.1 dL_law_742 ?_
  refine lv_aload_n C.1.1.1 C.1.1.2.1 dL_law_743 rfl (lv_at hl 1 rfl) ?_
  refine L_callS C.2.2.2.2.2.1.1.1.1 C.2.2.2.2.2.2.1.1 C.2.2.2.2.1 C.1 C.2.2.1 C.2.2.2.1 X lw_dripping rfl (kL_dripping C.2.2.2.2.2.1 C.1.2.2.2.2.1 (fun k hk => (C.2.2.2.2.1.1 k hk).2.1) N (xs (Int32.toNatClampNeg (i + 1))) SX f ox h1 h3) (Nat.le_of_ble_eq_true rfl) (Nat.le_of_ble_eq_true rfl) (Nat.le_trans (Nat.add_le_add_left (Nat.le_of_ble_eq_true rfl) _) hc4) (Nat.le_trans (Nat.add_le_add_left (Nat.le_of_ble_eq_true rfl) _) hs4) rfl hl.1 rfl (Nat.le_of_ble_eq_true rfl) dL_law_744 (fun H locs X => ?_)
  refine lv_istore C.1.1.1 C.1.1.2.1 dL_law_747 hl (by decide) rfl (fun ls hl => ?_)
  refine lv_aload_n C.1.1.1 C.1.1.2.1 dL_law_749 rfl (lv_at hl 3 rfl) ?_
  refine lv_aload_n C.1.1.1 C.1.1.2.1 dL_law_750 rfl (lv_at hl 5 rfl) ?_
  refine lv_iload C.1.1.1 C.1.1.2.1 dL_law_751 (lv_at hl 1 rfl) ?_
  refine lv_iconst C.1.1.1 C.1.1.2.1 dL_law_753 rfl ?_
  refine lv_iadd C.1.1.1 C.1.1.2.1 dL_law_754 ?_
  refine L_ld C X hi.2.1 dL_law_755 ?_
  refine L_callM C.2.2.2.2.2.1.1.1.1 C.2.2.2.2.2.2.1.1 C.2.2.2.2.1 C.2.1 X xv_L_171 rfl (kX12_dripping C.2.2.2.2.2.2.1.1 C.2.1.2.2.2.2.1 M (xs (Int32.toNatClampNeg (i + 1))) SM om h2) (Nat.le_of_ble_eq_true rfl) (Nat.le_of_ble_eq_true rfl) (Nat.le_trans (Nat.add_le_add_left (Nat.le_of_ble_eq_true rfl) _) hc4) (Nat.le_trans (Nat.add_le_add_left (Nat.le_of_ble_eq_true rfl) _) hs4) rfl hl.1 rfl (Nat.le_of_ble_eq_true rfl) dL_law_756 (fun H locs X => ?_)
  refine lv_istore C.1.1.1 C.1.1.2.1 dL_law_759 hl (by decide) rfl (fun ls hl => ?_)
  refine lv_goto (tgt := 1499) C.1.1.1 C.1.1.2.1 dL_law_761 (by decide) ?_
  exact W.widen (k := cs + 4) (n := sl + 24) (Nat.add_le_add_left (Nat.le_of_ble_eq_true rfl) _) (Nat.add_le_add_left (Nat.le_of_ble_eq_true rfl) _) (kk _ _ _ _ _ _ h6 X (lv_sub hl [2, 3, 4, 5, 6] rfl))
theorem LB_first (C : LCx p l s m args meth c D g g2 cI cB cZ cQ cS cJ aK aV aO b L xs Am Am2) (hi : Lin i L) (X : LX D g g2 cI cB cZ cQ cS cJ aK aO b L xs SX SM f s H locs) (hJ : J SX SM) (hl : lv_has ls 7 (Llv b (g 0) (g2 99) aO i)) (hc4 : cs + 4 ≤ 601024) (hs4 : sl + 24 ≤ 7293034) (h : Lw_first J) (kk : ∀ (H1 : Heap) (locs1 : List Loc) (ls1 : Array Slot) (SX1 SM1 : gS) (f1 : Nat → Int64), J SX1 SM1 → LX D g g2 cI cB cZ cQ cS cJ aK aO b L xs SX1 SM1 f1 s H1 locs1 → lv_has ls1 7 (Llv b (g 0) (g2 99) aO i) → W p l e room_1 s m args below meth c H1 locs1 (cs + 4) (sl + 24) Q (F0 m 1499 ls1 [])) : W p l e room_1 s m args below meth c H locs cs sl Q (F0 m 764 ls []) := by
  obtain ⟨N, ox, M, om, h1, h2, h3, h4, h5, h6⟩ := h SX SM (xs (Int32.toNatClampNeg (i + 1))) hJ
  unfold Llv at hl
  refine lv_aload_n C.1.1.1 C.1.1.2.1 dL_law_764 rfl (lv_at hl 3 rfl) ?_
  refine lv_aload_n C.1.1.1 C.1.1.2.1 dL_law_765 rfl (lv_at hl 4 rfl) ?_
  refine lv_iload C.1.1.1 C.1.1.2.1 dL_law_766 (lv_at hl 0 rfl) ?_
  refine lv_iconst C.1.1.1 C.1.1.2.1 dL_law_768 rfl ?_
  refine lv_iadd C.1.1.1 C.1.1.2.1 dL_law_769 ?_
  refine L_ld C X hi.2.1 dL_law_770 ?_
  refine lv_aload_n C.1.1.1 C.1.1.2.1 dL_law_771 rfl (lv_at hl 1 rfl) ?_
  refine L_callS C.2.2.2.2.2.1.1.1.1 C.2.2.2.2.2.2.1.1 C.2.2.2.2.1 C.1 C.2.2.1 C.2.2.2.1 X lw_first rfl (kL_first C.2.2.2.2.2.1 C.1.2.2.2.2.1 (fun k hk => (C.2.2.2.2.1.1 k hk).2.1) N (xs (Int32.toNatClampNeg (i + 1))) SX f ox h1 h3) (Nat.le_of_ble_eq_true rfl) (Nat.le_of_ble_eq_true rfl) (Nat.le_trans (Nat.add_le_add_left (Nat.le_of_ble_eq_true rfl) _) hc4) (Nat.le_trans (Nat.add_le_add_left (Nat.le_of_ble_eq_true rfl) _) hs4) rfl hl.1 rfl (Nat.le_of_ble_eq_true rfl) dL_law_772 (fun H locs X => ?_)
  refine lv_istore C.1.1.1 C.1.1.2.1 dL_law_775 hl (by decide) rfl (fun ls hl => ?_)
  refine lv_aload_n C.1.1.1 C.1.1.2.1 dL_law_777 rfl (lv_at hl 3 rfl) ?_
  refine lv_aload_n C.1.1.1 C.1.1.2.1 dL_law_778 rfl (lv_at hl 5 rfl) ?_
  refine lv_iload C.1.1.1 C.1.1.2.1 dL_law_779 (lv_at hl 1 rfl) ?_
  refine lv_iconst C.1.1.1 C.1.1.2.1 dL_law_781 rfl ?_
  refine lv_iadd C.1.1.1 C.1.1.2.1 dL_law_782 ?_
  refine L_ld C X hi.2.1 dL_law_783 ?_
  refine L_callM C.2.2.2.2.2.1.1.1.1 C.2.2.2.2.2.2.1.1 C.2.2.2.2.1 C.2.1 X xv_L_174 rfl (kX12_first C.2.2.2.2.2.2.1.1 C.2.1.2.2.2.2.1 M (xs (Int32.toNatClampNeg (i + 1))) SM om h2) (Nat.le_of_ble_eq_true rfl) (Nat.le_of_ble_eq_true rfl) (Nat.le_trans (Nat.add_le_add_left (Nat.le_of_ble_eq_true rfl) _) hc4) (Nat.le_trans (Nat.add_le_add_left (Nat.le_of_ble_eq_true rfl) _) hs4) rfl hl.1 rfl (Nat.le_of_ble_eq_true rfl) dL_law_784 (fun H locs X => ?_)
  refine lv_istore C.1.1.1 C.1.1.2.1 dL_law_787 hl (by decide) rfl (fun ls hl => ?_)
  refine lv_goto (tgt := 1499) C.1.1.1 C.1.1.2.1 dL_law_789 (by decide) ?_
  exact W.widen (k := cs + 4) (n := sl + 24) (Nat.add_le_add_left (Nat.le_of_ble_eq_true rfl) _) (Nat.add_le_add_left (Nat.le_of_ble_eq_true rfl) _) (kk _ _ _ _ _ _ h6 X (lv_sub hl [2, 3, 4, 5, 6] rfl))
theorem LB_dismissed (C : LCx p l s m args meth c D g g2 cI cB cZ cQ cS cJ aK aV aO b L xs Am Am2) (hi : Lin i L) (X : LX D g g2 cI cB cZ cQ cS cJ aK aO b L xs SX SM f s H locs) (hJ : J SX SM) (hl : lv_has ls 7 (Llv b (g 0) (g2 99) aO i)) (hc4 : cs + 4 ≤ 601024) (hs4 : sl + 24 ≤ 7293034) (h : Lw_dismissed J) (kk : ∀ (H1 : Heap) (locs1 : List Loc) (ls1 : Array Slot) (SX1 SM1 : gS) (f1 : Nat → Int64), J SX1 SM1 → LX D g g2 cI cB cZ cQ cS cJ aK aO b L xs SX1 SM1 f1 s H1 locs1 → lv_has ls1 7 (Llv b (g 0) (g2 99) aO i) → W p l e room_1 s m args below meth c H1 locs1 (cs + 4) (sl + 24) Q (F0 m 1499 ls1 [])) : W p l e room_1 s m args below meth c H locs cs sl Q (F0 m 792 ls []) := by
  obtain ⟨N, ox, M, om, h1, h2, h3, h4, h5, h6⟩ := h SX SM (xs (Int32.toNatClampNeg (i + 1))) hJ
  unfold Llv at hl
  refine lv_aload_n C.1.1.1 C.1.1.2.1 dL_law_792 rfl (lv_at hl 3 rfl) ?_
  refine lv_aload_n C.1.1.1 C.1.1.2.1 dL_law_793 rfl (lv_at hl 4 rfl) ?_
  refine lv_iload C.1.1.1 C.1.1.2.1 dL_law_794 (lv_at hl 0 rfl) ?_
  refine lv_iconst C.1.1.1 C.1.1.2.1 dL_law_796 rfl ?_
  refine lv_iadd C.1.1.1 C.1.1.2.1 dL_law_797 ?_
  refine L_ld C X hi.2.1 dL_law_798 ?_
  refine lv_aload_n C.1.1.1 C.1.1.2.1 dL_law_799 rfl (lv_at hl 1 rfl) ?_
  refine L_callS C.2.2.2.2.2.1.1.1.1 C.2.2.2.2.2.2.1.1 C.2.2.2.2.1 C.1 C.2.2.1 C.2.2.2.1 X lw_dismissed rfl (kL_dismissed C.2.2.2.2.2.1 C.1.2.2.2.2.1 (fun k hk => (C.2.2.2.2.1.1 k hk).2.1) N (xs (Int32.toNatClampNeg (i + 1))) SX f ox h1 h3) (Nat.le_of_ble_eq_true rfl) (Nat.le_of_ble_eq_true rfl) (Nat.le_trans (Nat.add_le_add_left (Nat.le_of_ble_eq_true rfl) _) hc4) (Nat.le_trans (Nat.add_le_add_left (Nat.le_of_ble_eq_true rfl) _) hs4) rfl hl.1 rfl (Nat.le_of_ble_eq_true rfl) dL_law_800 (fun H locs X => ?_)
  refine lv_istore C.1.1.1 C.1.1.2.1 dL_law_803 hl (by decide) rfl (fun ls hl => ?_)
  refine lv_aload_n C.1.1.1 C.1.1.2.1 dL_law_805 rfl (lv_at hl 3 rfl) ?_
  refine lv_aload_n C.1.1.1 C.1.1.2.1 dL_law_806 rfl (lv_at hl 5 rfl) ?_
  refine lv_iload C.1.1.1 C.1.1.2.1 dL_law_807 (lv_at hl 1 rfl) ?_
  refine lv_iconst C.1.1.1 C.1.1.2.1 dL_law_809 rfl ?_
  refine lv_iadd C.1.1.1 C.1.1.2.1 dL_law_810 ?_
  refine L_ld C X hi.2.1 dL_law_811 ?_
  refine L_callM C.2.2.2.2.2.1.1.1.1 C.2.2.2.2.2.2.1.1 C.2.2.2.2.1 C.2.1 X xv_L_177 rfl (kX12_dismissed C.2.2.2.2.2.2.1.1 C.2.1.2.2.2.2.1 M (xs (Int32.toNatClampNeg (i + 1))) SM om h2) (Nat.le_of_ble_eq_true rfl) (Nat.le_of_ble_eq_true rfl) (Nat.le_trans (Nat.add_le_add_left (Nat.le_of_ble_eq_true rfl) _) hc4) (Nat.le_trans (Nat.add_le_add_left (Nat.le_of_ble_eq_true rfl) _) hs4) rfl hl.1 rfl (Nat.le_of_ble_eq_true rfl) dL_law_812 (fun H locs X => ?_)
  refine lv_istore C.1.1.1 C.1.1.2.1 dL_law_815 hl (by decide) rfl (fun ls hl => ?_)
  refine lv_goto (tgt := 1499) C.1.1.1 C.1.1.2.1 dL_law_817 (by decide) ?_
  exact W.widen (k := cs + 4) (n := sl + 24) (Nat.add_le_add_left (Nat.le_of_ble_eq_true rfl) _) (Nat.add_le_add_left (Nat.le_of_ble_eq_true rfl) _) (kk _ _ _ _ _ _ h6 X (lv_sub hl [2, 3, 4, 5, 6] rfl))
theorem LB_most (C : LCx p l s m args meth c D g g2 cI cB cZ cQ cS cJ aK aV aO b L xs Am Am2) (hi : Lin i L) (X : LX D g g2 cI cB cZ cQ cS cJ aK aO b L xs SX SM f s H locs) (hJ : J SX SM) (hl : lv_has ls 7 (Llv b (g 0) (g2 99) aO i)) (hc4 : cs + 4 ≤ 601024) (hs4 : sl + 24 ≤ 7293034) (h : Lw_most J) (kk : ∀ (H1 : Heap) (locs1 : List Loc) (ls1 : Array Slot) (SX1 SM1 : gS) (f1 : Nat → Int64), J SX1 SM1 → LX D g g2 cI cB cZ cQ cS cJ aK aO b L xs SX1 SM1 f1 s H1 locs1 → lv_has ls1 7 (Llv b (g 0) (g2 99) aO i) → W p l e room_1 s m args below meth c H1 locs1 (cs + 4) (sl + 24) Q (F0 m 1499 ls1 [])) : W p l e room_1 s m args below meth c H locs cs sl Q (F0 m 820 ls []) := by
  obtain ⟨N, ox, M, om, h1, h2, h3, h4, h5, h6⟩ := h SX SM (xs (Int32.toNatClampNeg (i + 1))) (xs (Int32.toNatClampNeg (i + 2))) hJ
  unfold Llv at hl
  refine lv_aload_n C.1.1.1 C.1.1.2.1 dL_law_820 rfl (lv_at hl 3 rfl) ?_
  refine lv_aload_n C.1.1.1 C.1.1.2.1 dL_law_821 rfl (lv_at hl 4 rfl) ?_
  refine lv_iload C.1.1.1 C.1.1.2.1 dL_law_822 (lv_at hl 0 rfl) ?_
  refine lv_iconst C.1.1.1 C.1.1.2.1 dL_law_824 rfl ?_
  refine lv_iadd C.1.1.1 C.1.1.2.1 dL_law_825 ?_
  refine L_ld C X hi.2.1 dL_law_826 ?_
  refine lv_aload_n C.1.1.1 C.1.1.2.1 dL_law_827 rfl (lv_at hl 4 rfl) ?_
  refine lv_iload C.1.1.1 C.1.1.2.1 dL_law_828 (lv_at hl 0 rfl) ?_
  refine lv_iconst C.1.1.1 C.1.1.2.1 dL_law_830 rfl ?_
  refine lv_iadd C.1.1.1 C.1.1.2.1 dL_law_831 ?_
  refine L_ld C X hi.2.2.1 dL_law_832 ?_
  refine lv_aload_n C.1.1.1 C.1.1.2.1 dL_law_833 rfl (lv_at hl 1 rfl) ?_
  refine L_callS C.2.2.2.2.2.1.1.1.1 C.2.2.2.2.2.2.1.1 C.2.2.2.2.1 C.1 C.2.2.1 C.2.2.2.1 X lw_most rfl (kL_most C.2.2.2.2.2.1 C.1.2.2.2.2.1 (fun k hk => (C.2.2.2.2.1.1 k hk).2.1) N (xs (Int32.toNatClampNeg (i + 1))) (xs (Int32.toNatClampNeg (i + 2))) SX f ox h1 h3) (Nat.le_of_ble_eq_true rfl) (Nat.le_of_ble_eq_true rfl) (Nat.le_trans (Nat.add_le_add_left (Nat.le_of_ble_eq_true rfl) _) hc4) (Nat.le_trans (Nat.add_le_add_left (Nat.le_of_ble_eq_true rfl) _) hs4) rfl hl.1 rfl (Nat.le_of_ble_eq_true rfl) dL_law_834 (fun H locs X => ?_)
  refine lv_istore C.1.1.1 C.1.1.2.1 dL_law_837 hl (by decide) rfl (fun ls hl => ?_)
  refine lv_aload_n C.1.1.1 C.1.1.2.1 dL_law_839 rfl (lv_at hl 3 rfl) ?_
  refine lv_aload_n C.1.1.1 C.1.1.2.1 dL_law_840 rfl (lv_at hl 5 rfl) ?_
  refine lv_iload C.1.1.1 C.1.1.2.1 dL_law_841 (lv_at hl 1 rfl) ?_
  refine lv_iconst C.1.1.1 C.1.1.2.1 dL_law_843 rfl ?_
  refine lv_iadd C.1.1.1 C.1.1.2.1 dL_law_844 ?_
  refine L_ld C X hi.2.1 dL_law_845 ?_
  refine lv_aload_n C.1.1.1 C.1.1.2.1 dL_law_846 rfl (lv_at hl 5 rfl) ?_
  refine lv_iload C.1.1.1 C.1.1.2.1 dL_law_847 (lv_at hl 1 rfl) ?_
  refine lv_iconst C.1.1.1 C.1.1.2.1 dL_law_849 rfl ?_
  refine lv_iadd C.1.1.1 C.1.1.2.1 dL_law_850 ?_
  refine L_ld C X hi.2.2.1 dL_law_851 ?_
  refine L_callM C.2.2.2.2.2.1.1.1.1 C.2.2.2.2.2.2.1.1 C.2.2.2.2.1 C.2.1 X xv_L_180 rfl (kX12_most C.2.2.2.2.2.2.1.1 C.2.1.2.2.2.2.1 M (xs (Int32.toNatClampNeg (i + 1))) (xs (Int32.toNatClampNeg (i + 2))) SM om h2) (Nat.le_of_ble_eq_true rfl) (Nat.le_of_ble_eq_true rfl) (Nat.le_trans (Nat.add_le_add_left (Nat.le_of_ble_eq_true rfl) _) hc4) (Nat.le_trans (Nat.add_le_add_left (Nat.le_of_ble_eq_true rfl) _) hs4) rfl hl.1 rfl (Nat.le_of_ble_eq_true rfl) dL_law_852 (fun H locs X => ?_)
  refine lv_istore C.1.1.1 C.1.1.2.1 dL_law_855 hl (by decide) rfl (fun ls hl => ?_)
  refine lv_goto (tgt := 1499) C.1.1.1 C.1.1.2.1 dL_law_857 (by decide) ?_
  exact W.widen (k := cs + 4) (n := sl + 24) (Nat.add_le_add_left (Nat.le_of_ble_eq_true rfl) _) (Nat.add_le_add_left (Nat.le_of_ble_eq_true rfl) _) (kk _ _ _ _ _ _ h6 X (lv_sub hl [2, 3, 4, 5, 6] rfl))
theorem LB_hush (C : LCx p l s m args meth c D g g2 cI cB cZ cQ cS cJ aK aV aO b L xs Am Am2) (hi : Lin i L) (X : LX D g g2 cI cB cZ cQ cS cJ aK aO b L xs SX SM f s H locs) (hJ : J SX SM) (hl : lv_has ls 7 (Llv b (g 0) (g2 99) aO i)) (hc4 : cs + 4 ≤ 601024) (hs4 : sl + 24 ≤ 7293034) (h : Lw_hush J) (kk : ∀ (H1 : Heap) (locs1 : List Loc) (ls1 : Array Slot) (SX1 SM1 : gS) (f1 : Nat → Int64), J SX1 SM1 → LX D g g2 cI cB cZ cQ cS cJ aK aO b L xs SX1 SM1 f1 s H1 locs1 → lv_has ls1 7 (Llv b (g 0) (g2 99) aO i) → W p l e room_1 s m args below meth c H1 locs1 (cs + 4) (sl + 24) Q (F0 m 1499 ls1 [])) : W p l e room_1 s m args below meth c H locs cs sl Q (F0 m 860 ls []) := by
  obtain ⟨N, ox, M, om, h1, h2, h3, h4, h5, h6⟩ := h SX SM (xs (Int32.toNatClampNeg (i + 1))) hJ
  unfold Llv at hl
  refine lv_aload_n C.1.1.1 C.1.1.2.1 dL_law_860 rfl (lv_at hl 3 rfl) ?_
  refine lv_aload_n C.1.1.1 C.1.1.2.1 dL_law_861 rfl (lv_at hl 4 rfl) ?_
  refine lv_iload C.1.1.1 C.1.1.2.1 dL_law_862 (lv_at hl 0 rfl) ?_
  refine lv_iconst C.1.1.1 C.1.1.2.1 dL_law_864 rfl ?_
  refine lv_iadd C.1.1.1 C.1.1.2.1 dL_law_865 ?_
  refine L_ld C X hi.2.1 dL_law_866 ?_
  refine lv_aload_n C.1.1.1 C.1.1.2.1 dL_law_867 rfl (lv_at hl 1 rfl) ?_
  refine L_callS C.2.2.2.2.2.1.1.1.1 C.2.2.2.2.2.2.1.1 C.2.2.2.2.1 C.1 C.2.2.1 C.2.2.2.1 X lw_hush rfl (kL_hush C.2.2.2.2.2.1 C.1.2.2.2.2.1 (fun k hk => (C.2.2.2.2.1.1 k hk).2.1) N (xs (Int32.toNatClampNeg (i + 1))) SX f ox h1 h3) (Nat.le_of_ble_eq_true rfl) (Nat.le_of_ble_eq_true rfl) (Nat.le_trans (Nat.add_le_add_left (Nat.le_of_ble_eq_true rfl) _) hc4) (Nat.le_trans (Nat.add_le_add_left (Nat.le_of_ble_eq_true rfl) _) hs4) rfl hl.1 rfl (Nat.le_of_ble_eq_true rfl) dL_law_868 (fun H locs X => ?_)
  refine lv_istore C.1.1.1 C.1.1.2.1 dL_law_871 hl (by decide) rfl (fun ls hl => ?_)
  refine lv_aload_n C.1.1.1 C.1.1.2.1 dL_law_873 rfl (lv_at hl 3 rfl) ?_
  refine lv_aload_n C.1.1.1 C.1.1.2.1 dL_law_874 rfl (lv_at hl 5 rfl) ?_
  refine lv_iload C.1.1.1 C.1.1.2.1 dL_law_875 (lv_at hl 1 rfl) ?_
  refine lv_iconst C.1.1.1 C.1.1.2.1 dL_law_877 rfl ?_
  refine lv_iadd C.1.1.1 C.1.1.2.1 dL_law_878 ?_
  refine L_ld C X hi.2.1 dL_law_879 ?_
  refine L_callM C.2.2.2.2.2.1.1.1.1 C.2.2.2.2.2.2.1.1 C.2.2.2.2.1 C.2.1 X xv_L_183 rfl (kX12_hush C.2.2.2.2.2.2.1.1 C.2.1.2.2.2.2.1 M (xs (Int32.toNatClampNeg (i + 1))) SM om h2) (Nat.le_of_ble_eq_true rfl) (Nat.le_of_ble_eq_true rfl) (Nat.le_trans (Nat.add_le_add_left (Nat.le_of_ble_eq_true rfl) _) hc4) (Nat.le_trans (Nat.add_le_add_left (Nat.le_of_ble_eq_true rfl) _) hs4) rfl hl.1 rfl (Nat.le_of_ble_eq_true rfl) dL_law_880 (fun H locs X => ?_)
  refine lv_istore C.1.1.1 C.1.1.2.1 dL_law_883 hl (by decide) rfl (fun ls hl => ?_)
  refine lv_goto (tgt := 1499) C.1.1.1 C.1.1.2.1 dL_law_885 (by decide) ?_
  exact W.widen (k := cs + 4) (n := sl + 24) (Nat.add_le_add_left (Nat.le_of_ble_eq_true rfl) _) (Nat.add_le_add_left (Nat.le_of_ble_eq_true rfl) _) (kk _ _ _ _ _ _ h6 X (lv_sub hl [2, 3, 4, 5, 6] rfl))
theorem LB_chorus (C : LCx p l s m args meth c D g g2 cI cB cZ cQ cS cJ aK aV aO b L xs Am Am2) (hi : Lin i L) (X : LX D g g2 cI cB cZ cQ cS cJ aK aO b L xs SX SM f s H locs) (hJ : J SX SM) (hl : lv_has ls 7 (Llv b (g 0) (g2 99) aO i)) (hc4 : cs + 4 ≤ 601024) (hs4 : sl + 24 ≤ 7293034) (h : Lw_chorus J) (kk : ∀ (H1 : Heap) (locs1 : List Loc) (ls1 : Array Slot) (SX1 SM1 : gS) (f1 : Nat → Int64), J SX1 SM1 → LX D g g2 cI cB cZ cQ cS cJ aK aO b L xs SX1 SM1 f1 s H1 locs1 → lv_has ls1 7 (Llv b (g 0) (g2 99) aO i) → W p l e room_1 s m args below meth c H1 locs1 (cs + 4) (sl + 24) Q (F0 m 1499 ls1 [])) : W p l e room_1 s m args below meth c H locs cs sl Q (F0 m 888 ls []) := by
  obtain ⟨N, ox, M, om, h1, h2, h3, h4, h5, h6⟩ := h SX SM (xs (Int32.toNatClampNeg (i + 1))) hJ
  unfold Llv at hl
  refine lv_aload_n C.1.1.1 C.1.1.2.1 dL_law_888 rfl (lv_at hl 3 rfl) ?_
  refine lv_aload_n C.1.1.1 C.1.1.2.1 dL_law_889 rfl (lv_at hl 4 rfl) ?_
  refine lv_iload C.1.1.1 C.1.1.2.1 dL_law_890 (lv_at hl 0 rfl) ?_
  refine lv_iconst C.1.1.1 C.1.1.2.1 dL_law_892 rfl ?_
  refine lv_iadd C.1.1.1 C.1.1.2.1 dL_law_893 ?_
  refine L_ld C X hi.2.1 dL_law_894 ?_
  refine lv_aload_n C.1.1.1 C.1.1.2.1 dL_law_895 rfl (lv_at hl 1 rfl) ?_
  refine L_callS C.2.2.2.2.2.1.1.1.1 C.2.2.2.2.2.2.1.1 C.2.2.2.2.1 C.1 C.2.2.1 C.2.2.2.1 X lw_chorus rfl (kL_chorus C.2.2.2.2.2.1 C.1.2.2.2.2.1 (fun k hk => (C.2.2.2.2.1.1 k hk).2.1) N (xs (Int32.toNatClampNeg (i + 1))) SX f ox h1 h3) (Nat.le_of_ble_eq_true rfl) (Nat.le_of_ble_eq_true rfl) (Nat.le_trans (Nat.add_le_add_left (Nat.le_of_ble_eq_true rfl) _) hc4) (Nat.le_trans (Nat.add_le_add_left (Nat.le_of_ble_eq_true rfl) _) hs4) rfl hl.1 rfl (Nat.le_of_ble_eq_true rfl) dL_law_896 (fun H locs X => ?_)
  refine lv_istore C.1.1.1 C.1.1.2.1 dL_law_899 hl (by decide) rfl (fun ls hl => ?_)
  refine lv_aload_n C.1.1.1 C.1.1.2.1 dL_law_901 rfl (lv_at hl 3 rfl) ?_
  refine lv_aload_n C.1.1.1 C.1.1.2.1 dL_law_902 rfl (lv_at hl 5 rfl) ?_
  refine lv_iload C.1.1.1 C.1.1.2.1 dL_law_903 (lv_at hl 1 rfl) ?_
  refine lv_iconst C.1.1.1 C.1.1.2.1 dL_law_905 rfl ?_
  refine lv_iadd C.1.1.1 C.1.1.2.1 dL_law_906 ?_
  refine L_ld C X hi.2.1 dL_law_907 ?_
  refine L_callM C.2.2.2.2.2.1.1.1.1 C.2.2.2.2.2.2.1.1 C.2.2.2.2.1 C.2.1 X xv_L_186 rfl (kX12_chorus C.2.2.2.2.2.2.1.1 C.2.1.2.2.2.2.1 M (xs (Int32.toNatClampNeg (i + 1))) SM om h2) (Nat.le_of_ble_eq_true rfl) (Nat.le_of_ble_eq_true rfl) (Nat.le_trans (Nat.add_le_add_left (Nat.le_of_ble_eq_true rfl) _) hc4) (Nat.le_trans (Nat.add_le_add_left (Nat.le_of_ble_eq_true rfl) _) hs4) rfl hl.1 rfl (Nat.le_of_ble_eq_true rfl) dL_law_908 (fun H locs X => ?_)
  refine lv_istore C.1.1.1 C.1.1.2.1 dL_law_911 hl (by decide) rfl (fun ls hl => ?_)
  refine lv_goto (tgt := 1499) C.1.1.1 C.1.1.2.1 dL_law_913 (by decide) ?_
  exact W.widen (k := cs + 4) (n := sl + 24) (Nat.add_le_add_left (Nat.le_of_ble_eq_true rfl) _) (Nat.add_le_add_left (Nat.le_of_ble_eq_true rfl) _) (kk _ _ _ _ _ _ h6 X (lv_sub hl [2, 3, 4, 5, 6] rfl))
theorem LB_together (C : LCx p l s m args meth c D g g2 cI cB cZ cQ cS cJ aK aV aO b L xs Am Am2) (hi : Lin i L) (X : LX D g g2 cI cB cZ cQ cS cJ aK aO b L xs SX SM f s H locs) (hJ : J SX SM) (hl : lv_has ls 7 (Llv b (g 0) (g2 99) aO i)) (hc4 : cs + 4 ≤ 601024) (hs4 : sl + 24 ≤ 7293034) (h : Lw_together J) (kk : ∀ (H1 : Heap) (locs1 : List Loc) (ls1 : Array Slot) (SX1 SM1 : gS) (f1 : Nat → Int64), J SX1 SM1 → LX D g g2 cI cB cZ cQ cS cJ aK aO b L xs SX1 SM1 f1 s H1 locs1 → lv_has ls1 7 (Llv b (g 0) (g2 99) aO i) → W p l e room_1 s m args below meth c H1 locs1 (cs + 4) (sl + 24) Q (F0 m 1499 ls1 [])) : W p l e room_1 s m args below meth c H locs cs sl Q (F0 m 916 ls []) := by
  obtain ⟨N, ox, M, om, h1, h2, h3, h4, h5, h6⟩ := h SX SM (xs (Int32.toNatClampNeg (i + 1))) hJ
  unfold Llv at hl
  refine lv_aload_n C.1.1.1 C.1.1.2.1 dL_law_916 rfl (lv_at hl 3 rfl) ?_
  refine lv_aload_n C.1.1.1 C.1.1.2.1 dL_law_917 rfl (lv_at hl 4 rfl) ?_
  refine lv_iload C.1.1.1 C.1.1.2.1 dL_law_918 (lv_at hl 0 rfl) ?_
  refine lv_iconst C.1.1.1 C.1.1.2.1 dL_law_920 rfl ?_
  refine lv_iadd C.1.1.1 C.1.1.2.1 dL_law_921 ?_
  refine L_ld C X hi.2.1 dL_law_922 ?_
  refine lv_aload_n C.1.1.1 C.1.1.2.1 dL_law_923 rfl (lv_at hl 1 rfl) ?_
  refine L_callS C.2.2.2.2.2.1.1.1.1 C.2.2.2.2.2.2.1.1 C.2.2.2.2.1 C.1 C.2.2.1 C.2.2.2.1 X lw_together rfl (kL_together C.2.2.2.2.2.1 C.1.2.2.2.2.1 (fun k hk => (C.2.2.2.2.1.1 k hk).2.1) N (xs (Int32.toNatClampNeg (i + 1))) SX f ox h1 h3) (Nat.le_of_ble_eq_true rfl) (Nat.le_of_ble_eq_true rfl) (Nat.le_trans (Nat.add_le_add_left (Nat.le_of_ble_eq_true rfl) _) hc4) (Nat.le_trans (Nat.add_le_add_left (Nat.le_of_ble_eq_true rfl) _) hs4) rfl hl.1 rfl (Nat.le_of_ble_eq_true rfl) dL_law_924 (fun H locs X => ?_)
  refine lv_istore C.1.1.1 C.1.1.2.1 dL_law_927 hl (by decide) rfl (fun ls hl => ?_)
  refine lv_aload_n C.1.1.1 C.1.1.2.1 dL_law_929 rfl (lv_at hl 3 rfl) ?_
  refine lv_aload_n C.1.1.1 C.1.1.2.1 dL_law_930 rfl (lv_at hl 5 rfl) ?_
  refine lv_iload C.1.1.1 C.1.1.2.1 dL_law_931 (lv_at hl 1 rfl) ?_
  refine lv_iconst C.1.1.1 C.1.1.2.1 dL_law_933 rfl ?_
  refine lv_iadd C.1.1.1 C.1.1.2.1 dL_law_934 ?_
  refine L_ld C X hi.2.1 dL_law_935 ?_
  refine L_callM C.2.2.2.2.2.1.1.1.1 C.2.2.2.2.2.2.1.1 C.2.2.2.2.1 C.2.1 X xv_L_189 rfl (kX12_together C.2.2.2.2.2.2.1.1 C.2.1.2.2.2.2.1 M (xs (Int32.toNatClampNeg (i + 1))) SM om h2) (Nat.le_of_ble_eq_true rfl) (Nat.le_of_ble_eq_true rfl) (Nat.le_trans (Nat.add_le_add_left (Nat.le_of_ble_eq_true rfl) _) hc4) (Nat.le_trans (Nat.add_le_add_left (Nat.le_of_ble_eq_true rfl) _) hs4) rfl hl.1 rfl (Nat.le_of_ble_eq_true rfl) dL_law_936 (fun H locs X => ?_)
  refine lv_istore C.1.1.1 C.1.1.2.1 dL_law_939 hl (by decide) rfl (fun ls hl => ?_)
  refine lv_goto (tgt := 1499) C.1.1.1 C.1.1.2.1 dL_law_941 (by decide) ?_
  exact W.widen (k := cs + 4) (n := sl + 24) (Nat.add_le_add_left (Nat.le_of_ble_eq_true rfl) _) (Nat.add_le_add_left (Nat.le_of_ble_eq_true rfl) _) (kk _ _ _ _ _ _ h6 X (lv_sub hl [2, 3, 4, 5, 6] rfl))
theorem LB_rhythm (C : LCx p l s m args meth c D g g2 cI cB cZ cQ cS cJ aK aV aO b L xs Am Am2) (hi : Lin i L) (X : LX D g g2 cI cB cZ cQ cS cJ aK aO b L xs SX SM f s H locs) (hJ : J SX SM) (hl : lv_has ls 7 (Llv b (g 0) (g2 99) aO i)) (hc4 : cs + 4 ≤ 601024) (hs4 : sl + 24 ≤ 7293034) (h : Lw_rhythm J) (kk : ∀ (H1 : Heap) (locs1 : List Loc) (ls1 : Array Slot) (SX1 SM1 : gS) (f1 : Nat → Int64), J SX1 SM1 → LX D g g2 cI cB cZ cQ cS cJ aK aO b L xs SX1 SM1 f1 s H1 locs1 → lv_has ls1 7 (Llv b (g 0) (g2 99) aO i) → W p l e room_1 s m args below meth c H1 locs1 (cs + 4) (sl + 24) Q (F0 m 1499 ls1 [])) : W p l e room_1 s m args below meth c H locs cs sl Q (F0 m 944 ls []) := by
  obtain ⟨N, ox, M, om, h1, h2, h3, h4, h5, h6⟩ := h SX SM (xs (Int32.toNatClampNeg (i + 1))) hJ
  unfold Llv at hl
  refine lv_aload_n C.1.1.1 C.1.1.2.1 dL_law_944 rfl (lv_at hl 3 rfl) ?_
  refine lv_aload_n C.1.1.1 C.1.1.2.1 dL_law_945 rfl (lv_at hl 4 rfl) ?_
  refine lv_iload C.1.1.1 C.1.1.2.1 dL_law_946 (lv_at hl 0 rfl) ?_
  refine lv_iconst C.1.1.1 C.1.1.2.1 dL_law_948 rfl ?_
  refine lv_iadd C.1.1.1 C.1.1.2.1 dL_law_949 ?_
  refine L_ld C X hi.2.1 dL_law_950 ?_
  refine lv_aload_n C.1.1.1 C.1.1.2.1 dL_law_951 rfl (lv_at hl 1 rfl) ?_
  refine L_callS C.2.2.2.2.2.1.1.1.1 C.2.2.2.2.2.2.1.1 C.2.2.2.2.1 C.1 C.2.2.1 C.2.2.2.1 X lw_rhythm rfl (kL_rhythm C.2.2.2.2.2.1 C.1.2.2.2.2.1 (fun k hk => (C.2.2.2.2.1.1 k hk).2.1) N (xs (Int32.toNatClampNeg (i + 1))) SX f ox h1 h3) (Nat.le_of_ble_eq_true rfl) (Nat.le_of_ble_eq_true rfl) (Nat.le_trans (Nat.add_le_add_left (Nat.le_of_ble_eq_true rfl) _) hc4) (Nat.le_trans (Nat.add_le_add_left (Nat.le_of_ble_eq_true rfl) _) hs4) rfl hl.1 rfl (Nat.le_of_ble_eq_true rfl) dL_law_952 (fun H locs X => ?_)
  refine lv_istore C.1.1.1 C.1.1.2.1 dL_law_955 hl (by decide) rfl (fun ls hl => ?_)
  refine lv_aload_n C.1.1.1 C.1.1.2.1 dL_law_957 rfl (lv_at hl 3 rfl) ?_
  refine lv_aload_n C.1.1.1 C.1.1.2.1 dL_law_958 rfl (lv_at hl 5 rfl) ?_
  refine lv_iload C.1.1.1 C.1.1.2.1 dL_law_959 (lv_at hl 1 rfl) ?_
  refine lv_iconst C.1.1.1 C.1.1.2.1 dL_law_961 rfl ?_
  refine lv_iadd C.1.1.1 C.1.1.2.1 dL_law_962 ?_
  refine L_ld C X hi.2.1 dL_law_963 ?_
  refine L_callM C.2.2.2.2.2.1.1.1.1 C.2.2.2.2.2.2.1.1 C.2.2.2.2.1 C.2.1 X xv_L_192 rfl (kX12_rhythm C.2.2.2.2.2.2.1.1 C.2.1.2.2.2.2.1 M (xs (Int32.toNatClampNeg (i + 1))) SM om h2) (Nat.le_of_ble_eq_true rfl) (Nat.le_of_ble_eq_true rfl) (Nat.le_trans (Nat.add_le_add_left (Nat.le_of_ble_eq_true rfl) _) hc4) (Nat.le_trans (Nat.add_le_add_left (Nat.le_of_ble_eq_true rfl) _) hs4) rfl hl.1 rfl (Nat.le_of_ble_eq_true rfl) dL_law_964 (fun H locs X => ?_)
  refine lv_istore C.1.1.1 C.1.1.2.1 dL_law_967 hl (by decide) rfl (fun ls hl => ?_)
  refine lv_goto (tgt := 1499) C.1.1.1 C.1.1.2.1 dL_law_969 (by decide) ?_
  exact W.widen (k := cs + 4) (n := sl + 24) (Nat.add_le_add_left (Nat.le_of_ble_eq_true rfl) _) (Nat.add_le_add_left (Nat.le_of_ble_eq_true rfl) _) (kk _ _ _ _ _ _ h6 X (lv_sub hl [2, 3, 4, 5, 6] rfl))
theorem LB_often (C : LCx p l s m args meth c D g g2 cI cB cZ cQ cS cJ aK aV aO b L xs Am Am2) (hi : Lin i L) (X : LX D g g2 cI cB cZ cQ cS cJ aK aO b L xs SX SM f s H locs) (hJ : J SX SM) (hl : lv_has ls 7 (Llv b (g 0) (g2 99) aO i)) (hc4 : cs + 4 ≤ 601024) (hs4 : sl + 24 ≤ 7293034) (h : Lw_often J) (kk : ∀ (H1 : Heap) (locs1 : List Loc) (ls1 : Array Slot) (SX1 SM1 : gS) (f1 : Nat → Int64), J SX1 SM1 → LX D g g2 cI cB cZ cQ cS cJ aK aO b L xs SX1 SM1 f1 s H1 locs1 → lv_has ls1 7 (Llv b (g 0) (g2 99) aO i) → W p l e room_1 s m args below meth c H1 locs1 (cs + 4) (sl + 24) Q (F0 m 1499 ls1 [])) : W p l e room_1 s m args below meth c H locs cs sl Q (F0 m 972 ls []) := by
  obtain ⟨N, ox, M, om, h1, h2, h3, h4, h5, h6⟩ := h SX SM (xs (Int32.toNatClampNeg (i + 1))) (xs (Int32.toNatClampNeg (i + 2))) hJ
  unfold Llv at hl
  refine lv_aload_n C.1.1.1 C.1.1.2.1 dL_law_972 rfl (lv_at hl 3 rfl) ?_
  refine lv_aload_n C.1.1.1 C.1.1.2.1 dL_law_973 rfl (lv_at hl 4 rfl) ?_
  refine lv_iload C.1.1.1 C.1.1.2.1 dL_law_974 (lv_at hl 0 rfl) ?_
  refine lv_iconst C.1.1.1 C.1.1.2.1 dL_law_976 rfl ?_
  refine lv_iadd C.1.1.1 C.1.1.2.1 dL_law_977 ?_
  refine L_ld C X hi.2.1 dL_law_978 ?_
  refine lv_aload_n C.1.1.1 C.1.1.2.1 dL_law_979 rfl (lv_at hl 4 rfl) ?_
  refine lv_iload C.1.1.1 C.1.1.2.1 dL_law_980 (lv_at hl 0 rfl) ?_
  refine lv_iconst C.1.1.1 C.1.1.2.1 dL_law_982 rfl ?_
  refine lv_iadd C.1.1.1 C.1.1.2.1 dL_law_983 ?_
  refine L_ld C X hi.2.2.1 dL_law_984 ?_
  refine lv_aload_n C.1.1.1 C.1.1.2.1 dL_law_985 rfl (lv_at hl 1 rfl) ?_
  refine L_callS C.2.2.2.2.2.1.1.1.1 C.2.2.2.2.2.2.1.1 C.2.2.2.2.1 C.1 C.2.2.1 C.2.2.2.1 X lw_often rfl (kL_often C.2.2.2.2.2.1 C.1.2.2.2.2.1 (fun k hk => (C.2.2.2.2.1.1 k hk).2.1) N (xs (Int32.toNatClampNeg (i + 1))) (xs (Int32.toNatClampNeg (i + 2))) SX f ox h1 h3) (Nat.le_of_ble_eq_true rfl) (Nat.le_of_ble_eq_true rfl) (Nat.le_trans (Nat.add_le_add_left (Nat.le_of_ble_eq_true rfl) _) hc4) (Nat.le_trans (Nat.add_le_add_left (Nat.le_of_ble_eq_true rfl) _) hs4) rfl hl.1 rfl (Nat.le_of_ble_eq_true rfl) dL_law_986 (fun H locs X => ?_)
  refine lv_istore C.1.1.1 C.1.1.2.1 dL_law_989 hl (by decide) rfl (fun ls hl => ?_)
  refine lv_aload_n C.1.1.1 C.1.1.2.1 dL_law_991 rfl (lv_at hl 3 rfl) ?_
  refine lv_aload_n C.1.1.1 C.1.1.2.1 dL_law_992 rfl (lv_at hl 5 rfl) ?_
  refine lv_iload C.1.1.1 C.1.1.2.1 dL_law_993 (lv_at hl 1 rfl) ?_
  refine lv_iconst C.1.1.1 C.1.1.2.1 dL_law_995 rfl ?_
  refine lv_iadd C.1.1.1 C.1.1.2.1 dL_law_996 ?_
  refine L_ld C X hi.2.1 dL_law_997 ?_
  refine lv_aload_n C.1.1.1 C.1.1.2.1 dL_law_998 rfl (lv_at hl 5 rfl) ?_
  refine lv_iload C.1.1.1 C.1.1.2.1 dL_law_999 (lv_at hl 1 rfl) ?_
  refine lv_iconst C.1.1.1 C.1.1.2.1 dL_law_1001 rfl ?_
  refine lv_iadd C.1.1.1 C.1.1.2.1 dL_law_1002 ?_
  refine L_ld C X hi.2.2.1 dL_law_1003 ?_
  refine L_callM C.2.2.2.2.2.1.1.1.1 C.2.2.2.2.2.2.1.1 C.2.2.2.2.1 C.2.1 X xv_L_195 rfl (kX12_often C.2.2.2.2.2.2.1.1 C.2.1.2.2.2.2.1 M (xs (Int32.toNatClampNeg (i + 1))) (xs (Int32.toNatClampNeg (i + 2))) SM om h2) (Nat.le_of_ble_eq_true rfl) (Nat.le_of_ble_eq_true rfl) (Nat.le_trans (Nat.add_le_add_left (Nat.le_of_ble_eq_true rfl) _) hc4) (Nat.le_trans (Nat.add_le_add_left (Nat.le_of_ble_eq_true rfl) _) hs4) rfl hl.1 rfl (Nat.le_of_ble_eq_true rfl) dL_law_1004 (fun H locs X => ?_)
  refine lv_istore C.1.1.1 C.1.1.2.1 dL_law_1007 hl (by decide) rfl (fun ls hl => ?_)
  refine lv_goto (tgt := 1499) C.1.1.1 C.1.1.2.1 dL_law_1009 (by decide) ?_
  exact W.widen (k := cs + 4) (n := sl + 24) (Nat.add_le_add_left (Nat.le_of_ble_eq_true rfl) _) (Nat.add_le_add_left (Nat.le_of_ble_eq_true rfl) _) (kk _ _ _ _ _ _ h6 X (lv_sub hl [2, 3, 4, 5, 6] rfl))
theorem LB_toHire (C : LCx p l s m args meth c D g g2 cI cB cZ cQ cS cJ aK aV aO b L xs Am Am2) (hi : Lin i L) (X : LX D g g2 cI cB cZ cQ cS cJ aK aO b L xs SX SM f s H locs) (hJ : J SX SM) (hl : lv_has ls 7 (Llv b (g 0) (g2 99) aO i)) (hc4 : cs + 4 ≤ 601024) (hs4 : sl + 24 ≤ 7293034) (h : Lw_toHire J) (kk : ∀ (H1 : Heap) (locs1 : List Loc) (ls1 : Array Slot) (SX1 SM1 : gS) (f1 : Nat → Int64), J SX1 SM1 → LX D g g2 cI cB cZ cQ cS cJ aK aO b L xs SX1 SM1 f1 s H1 locs1 → lv_has ls1 7 (Llv b (g 0) (g2 99) aO i) → W p l e room_1 s m args below meth c H1 locs1 (cs + 4) (sl + 24) Q (F0 m 1499 ls1 [])) : W p l e room_1 s m args below meth c H locs cs sl Q (F0 m 1012 ls []) := by
  obtain ⟨N, ox, M, om, h1, h2, h3, h4, h5, h6⟩ := h SX SM (xs (Int32.toNatClampNeg (i + 1))) (xs (Int32.toNatClampNeg (i + 2))) (xs (Int32.toNatClampNeg (i + 3))) hJ
  unfold Llv at hl
  refine lv_aload_n C.1.1.1 C.1.1.2.1 dL_law_1012 rfl (lv_at hl 3 rfl) ?_
  refine lv_aload_n C.1.1.1 C.1.1.2.1 dL_law_1013 rfl (lv_at hl 4 rfl) ?_
  refine lv_iload C.1.1.1 C.1.1.2.1 dL_law_1014 (lv_at hl 0 rfl) ?_
  refine lv_iconst C.1.1.1 C.1.1.2.1 dL_law_1016 rfl ?_
  refine lv_iadd C.1.1.1 C.1.1.2.1 dL_law_1017 ?_
  refine L_ld C X hi.2.1 dL_law_1018 ?_
  refine lv_aload_n C.1.1.1 C.1.1.2.1 dL_law_1019 rfl (lv_at hl 4 rfl) ?_
  refine lv_iload C.1.1.1 C.1.1.2.1 dL_law_1020 (lv_at hl 0 rfl) ?_
  refine lv_iconst C.1.1.1 C.1.1.2.1 dL_law_1022 rfl ?_
  refine lv_iadd C.1.1.1 C.1.1.2.1 dL_law_1023 ?_
  refine L_ld C X hi.2.2.1 dL_law_1024 ?_
  refine lv_aload_n C.1.1.1 C.1.1.2.1 dL_law_1025 rfl (lv_at hl 4 rfl) ?_
  refine lv_iload C.1.1.1 C.1.1.2.1 dL_law_1026 (lv_at hl 0 rfl) ?_
  refine lv_iconst C.1.1.1 C.1.1.2.1 dL_law_1028 rfl ?_
  refine lv_iadd C.1.1.1 C.1.1.2.1 dL_law_1029 ?_
  refine L_ld C X hi.2.2.2.1 dL_law_1030 ?_
  refine lv_aload_n C.1.1.1 C.1.1.2.1 dL_law_1031 rfl (lv_at hl 1 rfl) ?_
  refine L_callS C.2.2.2.2.2.1.1.1.1 C.2.2.2.2.2.2.1.1 C.2.2.2.2.1 C.1 C.2.2.1 C.2.2.2.1 X lw_toHire rfl (kL_toHire C.2.2.2.2.2.1 C.1.2.2.2.2.1 (fun k hk => (C.2.2.2.2.1.1 k hk).2.1) N (xs (Int32.toNatClampNeg (i + 1))) (xs (Int32.toNatClampNeg (i + 2))) (xs (Int32.toNatClampNeg (i + 3))) SX f ox h1 h3) (Nat.le_of_ble_eq_true rfl) (Nat.le_of_ble_eq_true rfl) (Nat.le_trans (Nat.add_le_add_left (Nat.le_of_ble_eq_true rfl) _) hc4) (Nat.le_trans (Nat.add_le_add_left (Nat.le_of_ble_eq_true rfl) _) hs4) rfl hl.1 rfl (Nat.le_of_ble_eq_true rfl) dL_law_1032 (fun H locs X => ?_)
  refine lv_istore C.1.1.1 C.1.1.2.1 dL_law_1035 hl (by decide) rfl (fun ls hl => ?_)
  refine lv_aload_n C.1.1.1 C.1.1.2.1 dL_law_1037 rfl (lv_at hl 3 rfl) ?_
  refine lv_aload_n C.1.1.1 C.1.1.2.1 dL_law_1038 rfl (lv_at hl 5 rfl) ?_
  refine lv_iload C.1.1.1 C.1.1.2.1 dL_law_1039 (lv_at hl 1 rfl) ?_
  refine lv_iconst C.1.1.1 C.1.1.2.1 dL_law_1041 rfl ?_
  refine lv_iadd C.1.1.1 C.1.1.2.1 dL_law_1042 ?_
  refine L_ld C X hi.2.1 dL_law_1043 ?_
  refine lv_aload_n C.1.1.1 C.1.1.2.1 dL_law_1044 rfl (lv_at hl 5 rfl) ?_
  refine lv_iload C.1.1.1 C.1.1.2.1 dL_law_1045 (lv_at hl 1 rfl) ?_
  refine lv_iconst C.1.1.1 C.1.1.2.1 dL_law_1047 rfl ?_
  refine lv_iadd C.1.1.1 C.1.1.2.1 dL_law_1048 ?_
  refine L_ld C X hi.2.2.1 dL_law_1049 ?_
  refine lv_aload_n C.1.1.1 C.1.1.2.1 dL_law_1050 rfl (lv_at hl 5 rfl) ?_
  refine lv_iload C.1.1.1 C.1.1.2.1 dL_law_1051 (lv_at hl 1 rfl) ?_
  refine lv_iconst C.1.1.1 C.1.1.2.1 dL_law_1053 rfl ?_
  refine lv_iadd C.1.1.1 C.1.1.2.1 dL_law_1054 ?_
  refine L_ld C X hi.2.2.2.1 dL_law_1055 ?_
  refine L_callM C.2.2.2.2.2.1.1.1.1 C.2.2.2.2.2.2.1.1 C.2.2.2.2.1 C.2.1 X xv_L_198 rfl (kX12_toHire C.2.2.2.2.2.2.1.1 C.2.1.2.2.2.2.1 M (xs (Int32.toNatClampNeg (i + 1))) (xs (Int32.toNatClampNeg (i + 2))) (xs (Int32.toNatClampNeg (i + 3))) SM om h2) (Nat.le_of_ble_eq_true rfl) (Nat.le_of_ble_eq_true rfl) (Nat.le_trans (Nat.add_le_add_left (Nat.le_of_ble_eq_true rfl) _) hc4) (Nat.le_trans (Nat.add_le_add_left (Nat.le_of_ble_eq_true rfl) _) hs4) rfl hl.1 rfl (Nat.le_of_ble_eq_true rfl) dL_law_1056 (fun H locs X => ?_)
  refine lv_istore C.1.1.1 C.1.1.2.1 dL_law_1059 hl (by decide) rfl (fun ls hl => ?_)
  refine lv_goto (tgt := 1499) C.1.1.1 C.1.1.2.1 dL_law_1061 (by decide) ?_
  exact W.widen (k := cs + 4) (n := sl + 24) (Nat.add_le_add_left (Nat.le_of_ble_eq_true rfl) _) (Nat.add_le_add_left (Nat.le_of_ble_eq_true rfl) _) (kk _ _ _ _ _ _ h6 X (lv_sub hl [2, 3, 4, 5, 6] rfl))
theorem LB_shared (C : LCx p l s m args meth c D g g2 cI cB cZ cQ cS cJ aK aV aO b L xs Am Am2) (hi : Lin i L) (X : LX D g g2 cI cB cZ cQ cS cJ aK aO b L xs SX SM f s H locs) (hJ : J SX SM) (hl : lv_has ls 7 (Llv b (g 0) (g2 99) aO i)) (hc4 : cs + 4 ≤ 601024) (hs4 : sl + 24 ≤ 7293034) (h : Lw_shared J) (kk : ∀ (H1 : Heap) (locs1 : List Loc) (ls1 : Array Slot) (SX1 SM1 : gS) (f1 : Nat → Int64), J SX1 SM1 → LX D g g2 cI cB cZ cQ cS cJ aK aO b L xs SX1 SM1 f1 s H1 locs1 → lv_has ls1 7 (Llv b (g 0) (g2 99) aO i) → W p l e room_1 s m args below meth c H1 locs1 (cs + 4) (sl + 24) Q (F0 m 1499 ls1 [])) : W p l e room_1 s m args below meth c H locs cs sl Q (F0 m 1064 ls []) := by
  obtain ⟨N, ox, M, om, h1, h2, h3, h4, h5, h6⟩ := h SX SM (xs (Int32.toNatClampNeg (i + 1))) hJ
  unfold Llv at hl
  refine lv_aload_n C.1.1.1 C.1.1.2.1 dL_law_1064 rfl (lv_at hl 3 rfl) ?_
  refine lv_aload_n C.1.1.1 C.1.1.2.1 dL_law_1065 rfl (lv_at hl 4 rfl) ?_
  refine lv_iload C.1.1.1 C.1.1.2.1 dL_law_1066 (lv_at hl 0 rfl) ?_
  refine lv_iconst C.1.1.1 C.1.1.2.1 dL_law_1068 rfl ?_
  refine lv_iadd C.1.1.1 C.1.1.2.1 dL_law_1069 ?_
  refine L_ld C X hi.2.1 dL_law_1070 ?_
  refine lv_aload_n C.1.1.1 C.1.1.2.1 dL_law_1071 rfl (lv_at hl 1 rfl) ?_
  refine L_callS C.2.2.2.2.2.1.1.1.1 C.2.2.2.2.2.2.1.1 C.2.2.2.2.1 C.1 C.2.2.1 C.2.2.2.1 X lw_shared rfl (kL_shared C.2.2.2.2.2.1 C.1.2.2.2.2.1 (fun k hk => (C.2.2.2.2.1.1 k hk).2.1) N (xs (Int32.toNatClampNeg (i + 1))) SX f ox h1 h3) (Nat.le_of_ble_eq_true rfl) (Nat.le_of_ble_eq_true rfl) (Nat.le_trans (Nat.add_le_add_left (Nat.le_of_ble_eq_true rfl) _) hc4) (Nat.le_trans (Nat.add_le_add_left (Nat.le_of_ble_eq_true rfl) _) hs4) rfl hl.1 rfl (Nat.le_of_ble_eq_true rfl) dL_law_1072 (fun H locs X => ?_)
  refine lv_istore C.1.1.1 C.1.1.2.1 dL_law_1075 hl (by decide) rfl (fun ls hl => ?_)
  refine lv_aload_n C.1.1.1 C.1.1.2.1 dL_law_1077 rfl (lv_at hl 3 rfl) ?_
  refine lv_aload_n C.1.1.1 C.1.1.2.1 dL_law_1078 rfl (lv_at hl 5 rfl) ?_
  refine lv_iload C.1.1.1 C.1.1.2.1 dL_law_1079 (lv_at hl 1 rfl) ?_
  refine lv_iconst C.1.1.1 C.1.1.2.1 dL_law_1081 rfl ?_
  refine lv_iadd C.1.1.1 C.1.1.2.1 dL_law_1082 ?_
  refine L_ld C X hi.2.1 dL_law_1083 ?_
  refine L_callM C.2.2.2.2.2.1.1.1.1 C.2.2.2.2.2.2.1.1 C.2.2.2.2.1 C.2.1 X xv_L_201 rfl (kX12_shared C.2.2.2.2.2.2.1.1 C.2.1.2.2.2.2.1 M (xs (Int32.toNatClampNeg (i + 1))) SM om h2) (Nat.le_of_ble_eq_true rfl) (Nat.le_of_ble_eq_true rfl) (Nat.le_trans (Nat.add_le_add_left (Nat.le_of_ble_eq_true rfl) _) hc4) (Nat.le_trans (Nat.add_le_add_left (Nat.le_of_ble_eq_true rfl) _) hs4) rfl hl.1 rfl (Nat.le_of_ble_eq_true rfl) dL_law_1084 (fun H locs X => ?_)
  refine lv_istore C.1.1.1 C.1.1.2.1 dL_law_1087 hl (by decide) rfl (fun ls hl => ?_)
  refine lv_goto (tgt := 1499) C.1.1.1 C.1.1.2.1 dL_law_1089 (by decide) ?_
  exact W.widen (k := cs + 4) (n := sl + 24) (Nat.add_le_add_left (Nat.le_of_ble_eq_true rfl) _) (Nat.add_le_add_left (Nat.le_of_ble_eq_true rfl) _) (kk _ _ _ _ _ _ h6 X (lv_sub hl [2, 3, 4, 5, 6] rfl))
theorem LB_has (C : LCx p l s m args meth c D g g2 cI cB cZ cQ cS cJ aK aV aO b L xs Am Am2) (hi : Lin i L) (X : LX D g g2 cI cB cZ cQ cS cJ aK aO b L xs SX SM f s H locs) (hJ : J SX SM) (hl : lv_has ls 7 (Llv b (g 0) (g2 99) aO i)) (hc4 : cs + 4 ≤ 601024) (hs4 : sl + 24 ≤ 7293034) (h : Lw_has J) (kk : ∀ (H1 : Heap) (locs1 : List Loc) (ls1 : Array Slot) (SX1 SM1 : gS) (f1 : Nat → Int64), J SX1 SM1 → LX D g g2 cI cB cZ cQ cS cJ aK aO b L xs SX1 SM1 f1 s H1 locs1 → lv_has ls1 7 (Llv b (g 0) (g2 99) aO i) → W p l e room_1 s m args below meth c H1 locs1 (cs + 4) (sl + 24) Q (F0 m 1499 ls1 [])) : W p l e room_1 s m args below meth c H locs cs sl Q (F0 m 1092 ls []) := by
  obtain ⟨N, ox, M, om, h1, h2, h3, h4, h5, h6⟩ := h SX SM (xs (Int32.toNatClampNeg (i + 1))) hJ
  unfold Llv at hl
  refine lv_aload_n C.1.1.1 C.1.1.2.1 dL_law_1092 rfl (lv_at hl 3 rfl) ?_
  refine lv_aload_n C.1.1.1 C.1.1.2.1 dL_law_1093 rfl (lv_at hl 4 rfl) ?_
  refine lv_iload C.1.1.1 C.1.1.2.1 dL_law_1094 (lv_at hl 0 rfl) ?_
  refine lv_iconst C.1.1.1 C.1.1.2.1 dL_law_1096 rfl ?_
  refine lv_iadd C.1.1.1 C.1.1.2.1 dL_law_1097 ?_
  refine L_ld C X hi.2.1 dL_law_1098 ?_
  refine lv_aload_n C.1.1.1 C.1.1.2.1 dL_law_1099 rfl (lv_at hl 1 rfl) ?_
  refine L_callS C.2.2.2.2.2.1.1.1.1 C.2.2.2.2.2.2.1.1 C.2.2.2.2.1 C.1 C.2.2.1 C.2.2.2.1 X lw_has rfl (kL_has C.2.2.2.2.2.1 C.1.2.2.2.2.1 (fun k hk => (C.2.2.2.2.1.1 k hk).2.1) N (xs (Int32.toNatClampNeg (i + 1))) SX f ox h1 h3) (Nat.le_of_ble_eq_true rfl) (Nat.le_of_ble_eq_true rfl) (Nat.le_trans (Nat.add_le_add_left (Nat.le_of_ble_eq_true rfl) _) hc4) (Nat.le_trans (Nat.add_le_add_left (Nat.le_of_ble_eq_true rfl) _) hs4) rfl hl.1 rfl (Nat.le_of_ble_eq_true rfl) dL_law_1100 (fun H locs X => ?_)
  refine lv_istore C.1.1.1 C.1.1.2.1 dL_law_1103 hl (by decide) rfl (fun ls hl => ?_)
  refine lv_aload_n C.1.1.1 C.1.1.2.1 dL_law_1105 rfl (lv_at hl 3 rfl) ?_
  refine lv_aload_n C.1.1.1 C.1.1.2.1 dL_law_1106 rfl (lv_at hl 5 rfl) ?_
  refine lv_iload C.1.1.1 C.1.1.2.1 dL_law_1107 (lv_at hl 1 rfl) ?_
  refine lv_iconst C.1.1.1 C.1.1.2.1 dL_law_1109 rfl ?_
  refine lv_iadd C.1.1.1 C.1.1.2.1 dL_law_1110 ?_
  refine L_ld C X hi.2.1 dL_law_1111 ?_
  refine L_callM C.2.2.2.2.2.1.1.1.1 C.2.2.2.2.2.2.1.1 C.2.2.2.2.1 C.2.1 X xv_L_204 rfl (kX12_has C.2.2.2.2.2.2.1.1 C.2.1.2.2.2.2.1 M (xs (Int32.toNatClampNeg (i + 1))) SM om h2) (Nat.le_of_ble_eq_true rfl) (Nat.le_of_ble_eq_true rfl) (Nat.le_trans (Nat.add_le_add_left (Nat.le_of_ble_eq_true rfl) _) hc4) (Nat.le_trans (Nat.add_le_add_left (Nat.le_of_ble_eq_true rfl) _) hs4) rfl hl.1 rfl (Nat.le_of_ble_eq_true rfl) dL_law_1112 (fun H locs X => ?_)
  refine lv_istore C.1.1.1 C.1.1.2.1 dL_law_1115 hl (by decide) rfl (fun ls hl => ?_)
  refine lv_goto (tgt := 1499) C.1.1.1 C.1.1.2.1 dL_law_1117 (by decide) ?_
  exact W.widen (k := cs + 4) (n := sl + 24) (Nat.add_le_add_left (Nat.le_of_ble_eq_true rfl) _) (Nat.add_le_add_left (Nat.le_of_ble_eq_true rfl) _) (kk _ _ _ _ _ _ h6 X (lv_sub hl [2, 3, 4, 5, 6] rfl))
theorem LB_toGive (C : LCx p l s m args meth c D g g2 cI cB cZ cQ cS cJ aK aV aO b L xs Am Am2) (hi : Lin i L) (X : LX D g g2 cI cB cZ cQ cS cJ aK aO b L xs SX SM f s H locs) (hJ : J SX SM) (hl : lv_has ls 7 (Llv b (g 0) (g2 99) aO i)) (hc4 : cs + 4 ≤ 601024) (hs4 : sl + 24 ≤ 7293034) (h : Lw_toGive J) (kk : ∀ (H1 : Heap) (locs1 : List Loc) (ls1 : Array Slot) (SX1 SM1 : gS) (f1 : Nat → Int64), J SX1 SM1 → LX D g g2 cI cB cZ cQ cS cJ aK aO b L xs SX1 SM1 f1 s H1 locs1 → lv_has ls1 7 (Llv b (g 0) (g2 99) aO i) → W p l e room_1 s m args below meth c H1 locs1 (cs + 4) (sl + 24) Q (F0 m 1499 ls1 [])) : W p l e room_1 s m args below meth c H locs cs sl Q (F0 m 1120 ls []) := by
  obtain ⟨N, ox, M, om, h1, h2, h3, h4, h5, h6⟩ := h SX SM (xs (Int32.toNatClampNeg (i + 1))) (xs (Int32.toNatClampNeg (i + 2))) hJ
  unfold Llv at hl
  refine lv_aload_n C.1.1.1 C.1.1.2.1 dL_law_1120 rfl (lv_at hl 3 rfl) ?_
  refine lv_aload_n C.1.1.1 C.1.1.2.1 dL_law_1121 rfl (lv_at hl 4 rfl) ?_
  refine lv_iload C.1.1.1 C.1.1.2.1 dL_law_1122 (lv_at hl 0 rfl) ?_
  refine lv_iconst C.1.1.1 C.1.1.2.1 dL_law_1124 rfl ?_
  refine lv_iadd C.1.1.1 C.1.1.2.1 dL_law_1125 ?_
  refine L_ld C X hi.2.1 dL_law_1126 ?_
  refine lv_aload_n C.1.1.1 C.1.1.2.1 dL_law_1127 rfl (lv_at hl 4 rfl) ?_
  refine lv_iload C.1.1.1 C.1.1.2.1 dL_law_1128 (lv_at hl 0 rfl) ?_
  refine lv_iconst C.1.1.1 C.1.1.2.1 dL_law_1130 rfl ?_
  refine lv_iadd C.1.1.1 C.1.1.2.1 dL_law_1131 ?_
  refine L_ld C X hi.2.2.1 dL_law_1132 ?_
  refine lv_aload_n C.1.1.1 C.1.1.2.1 dL_law_1133 rfl (lv_at hl 1 rfl) ?_
  refine L_callS C.2.2.2.2.2.1.1.1.1 C.2.2.2.2.2.2.1.1 C.2.2.2.2.1 C.1 C.2.2.1 C.2.2.2.1 X lw_toGive rfl (kL_toGive C.2.2.2.2.2.1 C.1.2.2.2.2.1 (fun k hk => (C.2.2.2.2.1.1 k hk).2.1) N (xs (Int32.toNatClampNeg (i + 1))) (xs (Int32.toNatClampNeg (i + 2))) SX f ox h1 h3) (Nat.le_of_ble_eq_true rfl) (Nat.le_of_ble_eq_true rfl) (Nat.le_trans (Nat.add_le_add_left (Nat.le_of_ble_eq_true rfl) _) hc4) (Nat.le_trans (Nat.add_le_add_left (Nat.le_of_ble_eq_true rfl) _) hs4) rfl hl.1 rfl (Nat.le_of_ble_eq_true rfl) dL_law_1134 (fun H locs X => ?_)
  refine lv_istore C.1.1.1 C.1.1.2.1 dL_law_1137 hl (by decide) rfl (fun ls hl => ?_)
  refine lv_aload_n C.1.1.1 C.1.1.2.1 dL_law_1139 rfl (lv_at hl 3 rfl) ?_
  refine lv_aload_n C.1.1.1 C.1.1.2.1 dL_law_1140 rfl (lv_at hl 5 rfl) ?_
  refine lv_iload C.1.1.1 C.1.1.2.1 dL_law_1141 (lv_at hl 1 rfl) ?_
  refine lv_iconst C.1.1.1 C.1.1.2.1 dL_law_1143 rfl ?_
  refine lv_iadd C.1.1.1 C.1.1.2.1 dL_law_1144 ?_
  refine L_ld C X hi.2.1 dL_law_1145 ?_
  refine lv_aload_n C.1.1.1 C.1.1.2.1 dL_law_1146 rfl (lv_at hl 5 rfl) ?_
  refine lv_iload C.1.1.1 C.1.1.2.1 dL_law_1147 (lv_at hl 1 rfl) ?_
  refine lv_iconst C.1.1.1 C.1.1.2.1 dL_law_1149 rfl ?_
  refine lv_iadd C.1.1.1 C.1.1.2.1 dL_law_1150 ?_
  refine L_ld C X hi.2.2.1 dL_law_1151 ?_
  refine L_callM C.2.2.2.2.2.1.1.1.1 C.2.2.2.2.2.2.1.1 C.2.2.2.2.1 C.2.1 X xv_L_207 rfl (kX12_toGive C.2.2.2.2.2.2.1.1 C.2.1.2.2.2.2.1 M (xs (Int32.toNatClampNeg (i + 1))) (xs (Int32.toNatClampNeg (i + 2))) SM om h2) (Nat.le_of_ble_eq_true rfl) (Nat.le_of_ble_eq_true rfl) (Nat.le_trans (Nat.add_le_add_left (Nat.le_of_ble_eq_true rfl) _) hc4) (Nat.le_trans (Nat.add_le_add_left (Nat.le_of_ble_eq_true rfl) _) hs4) rfl hl.1 rfl (Nat.le_of_ble_eq_true rfl) dL_law_1152 (fun H locs X => ?_)
  refine lv_istore C.1.1.1 C.1.1.2.1 dL_law_1155 hl (by decide) rfl (fun ls hl => ?_)
  refine lv_goto (tgt := 1499) C.1.1.1 C.1.1.2.1 dL_law_1157 (by decide) ?_
  exact W.widen (k := cs + 4) (n := sl + 24) (Nat.add_le_add_left (Nat.le_of_ble_eq_true rfl) _) (Nat.add_le_add_left (Nat.le_of_ble_eq_true rfl) _) (kk _ _ _ _ _ _ h6 X (lv_sub hl [2, 3, 4, 5, 6] rfl))
theorem LB_confessing (C : LCx p l s m args meth c D g g2 cI cB cZ cQ cS cJ aK aV aO b L xs Am Am2) (hi : Lin i L) (X : LX D g g2 cI cB cZ cQ cS cJ aK aO b L xs SX SM f s H locs) (hJ : J SX SM) (hl : lv_has ls 7 (Llv b (g 0) (g2 99) aO i)) (hc4 : cs + 4 ≤ 601024) (hs4 : sl + 24 ≤ 7293034) (h : Lw_confessing J) (kk : ∀ (H1 : Heap) (locs1 : List Loc) (ls1 : Array Slot) (SX1 SM1 : gS) (f1 : Nat → Int64), J SX1 SM1 → LX D g g2 cI cB cZ cQ cS cJ aK aO b L xs SX1 SM1 f1 s H1 locs1 → lv_has ls1 7 (Llv b (g 0) (g2 99) aO i) → W p l e room_1 s m args below meth c H1 locs1 (cs + 4) (sl + 24) Q (F0 m 1499 ls1 [])) : W p l e room_1 s m args below meth c H locs cs sl Q (F0 m 1160 ls []) := by
  obtain ⟨N, ox, M, om, h1, h2, h3, h4, h5, h6⟩ := h SX SM (xs (Int32.toNatClampNeg (i + 1))) (xs (Int32.toNatClampNeg (i + 2))) hJ
  unfold Llv at hl
  refine lv_aload_n C.1.1.1 C.1.1.2.1 dL_law_1160 rfl (lv_at hl 3 rfl) ?_
  refine lv_aload_n C.1.1.1 C.1.1.2.1 dL_law_1161 rfl (lv_at hl 4 rfl) ?_
  refine lv_iload C.1.1.1 C.1.1.2.1 dL_law_1162 (lv_at hl 0 rfl) ?_
  refine lv_iconst C.1.1.1 C.1.1.2.1 dL_law_1164 rfl ?_
  refine lv_iadd C.1.1.1 C.1.1.2.1 dL_law_1165 ?_
  refine L_ld C X hi.2.1 dL_law_1166 ?_
  refine lv_aload_n C.1.1.1 C.1.1.2.1 dL_law_1167 rfl (lv_at hl 4 rfl) ?_
  refine lv_iload C.1.1.1 C.1.1.2.1 dL_law_1168 (lv_at hl 0 rfl) ?_
  refine lv_iconst C.1.1.1 C.1.1.2.1 dL_law_1170 rfl ?_
  refine lv_iadd C.1.1.1 C.1.1.2.1 dL_law_1171 ?_
  refine L_ld C X hi.2.2.1 dL_law_1172 ?_
  refine lv_aload_n C.1.1.1 C.1.1.2.1 dL_law_1173 rfl (lv_at hl 1 rfl) ?_
  refine L_callS C.2.2.2.2.2.1.1.1.1 C.2.2.2.2.2.2.1.1 C.2.2.2.2.1 C.1 C.2.2.1 C.2.2.2.1 X lw_confessing rfl (kL_confessing C.2.2.2.2.2.1 C.1.2.2.2.2.1 (fun k hk => (C.2.2.2.2.1.1 k hk).2.1) N (xs (Int32.toNatClampNeg (i + 1))) (xs (Int32.toNatClampNeg (i + 2))) SX f ox h1 h3) (Nat.le_of_ble_eq_true rfl) (Nat.le_of_ble_eq_true rfl) (Nat.le_trans (Nat.add_le_add_left (Nat.le_of_ble_eq_true rfl) _) hc4) (Nat.le_trans (Nat.add_le_add_left (Nat.le_of_ble_eq_true rfl) _) hs4) rfl hl.1 rfl (Nat.le_of_ble_eq_true rfl) dL_law_1174 (fun H locs X => ?_)
  refine lv_istore C.1.1.1 C.1.1.2.1 dL_law_1177 hl (by decide) rfl (fun ls hl => ?_)
  refine lv_aload_n C.1.1.1 C.1.1.2.1 dL_law_1179 rfl (lv_at hl 3 rfl) ?_
  refine lv_aload_n C.1.1.1 C.1.1.2.1 dL_law_1180 rfl (lv_at hl 5 rfl) ?_
  refine lv_iload C.1.1.1 C.1.1.2.1 dL_law_1181 (lv_at hl 1 rfl) ?_
  refine lv_iconst C.1.1.1 C.1.1.2.1 dL_law_1183 rfl ?_
  refine lv_iadd C.1.1.1 C.1.1.2.1 dL_law_1184 ?_
  refine L_ld C X hi.2.1 dL_law_1185 ?_
  refine lv_aload_n C.1.1.1 C.1.1.2.1 dL_law_1186 rfl (lv_at hl 5 rfl) ?_
  refine lv_iload C.1.1.1 C.1.1.2.1 dL_law_1187 (lv_at hl 1 rfl) ?_
  refine lv_iconst C.1.1.1 C.1.1.2.1 dL_law_1189 rfl ?_
  refine lv_iadd C.1.1.1 C.1.1.2.1 dL_law_1190 ?_
  refine L_ld C X hi.2.2.1 dL_law_1191 ?_
  refine L_callM C.2.2.2.2.2.1.1.1.1 C.2.2.2.2.2.2.1.1 C.2.2.2.2.1 C.2.1 X xv_L_210 rfl (kX12_confessing C.2.2.2.2.2.2.1.1 C.2.1.2.2.2.2.1 M (xs (Int32.toNatClampNeg (i + 1))) (xs (Int32.toNatClampNeg (i + 2))) SM om h2) (Nat.le_of_ble_eq_true rfl) (Nat.le_of_ble_eq_true rfl) (Nat.le_trans (Nat.add_le_add_left (Nat.le_of_ble_eq_true rfl) _) hc4) (Nat.le_trans (Nat.add_le_add_left (Nat.le_of_ble_eq_true rfl) _) hs4) rfl hl.1 rfl (Nat.le_of_ble_eq_true rfl) dL_law_1192 (fun H locs X => ?_)
  refine lv_istore C.1.1.1 C.1.1.2.1 dL_law_1195 hl (by decide) rfl (fun ls hl => ?_)
  refine lv_goto (tgt := 1499) C.1.1.1 C.1.1.2.1 dL_law_1197 (by decide) ?_
  exact W.widen (k := cs + 4) (n := sl + 24) (Nat.add_le_add_left (Nat.le_of_ble_eq_true rfl) _) (Nat.add_le_add_left (Nat.le_of_ble_eq_true rfl) _) (kk _ _ _ _ _ _ h6 X (lv_sub hl [2, 3, 4, 5, 6] rfl))
theorem LB_see (C : LCx p l s m args meth c D g g2 cI cB cZ cQ cS cJ aK aV aO b L xs Am Am2) (hi : Lin i L) (X : LX D g g2 cI cB cZ cQ cS cJ aK aO b L xs SX SM f s H locs) (hJ : J SX SM) (hl : lv_has ls 7 (Llv b (g 0) (g2 99) aO i)) (hc4 : cs + 4 ≤ 601024) (hs4 : sl + 24 ≤ 7293034) (h : Lw_see J) (kk : ∀ (H1 : Heap) (locs1 : List Loc) (ls1 : Array Slot) (SX1 SM1 : gS) (f1 : Nat → Int64), J SX1 SM1 → LX D g g2 cI cB cZ cQ cS cJ aK aO b L xs SX1 SM1 f1 s H1 locs1 → lv_has ls1 7 (Llv b (g 0) (g2 99) aO i) → W p l e room_1 s m args below meth c H1 locs1 (cs + 4) (sl + 24) Q (F0 m 1499 ls1 [])) : W p l e room_1 s m args below meth c H locs cs sl Q (F0 m 1200 ls []) := by
  obtain ⟨N, ox, M, om, h1, h2, h3, h4, h5, h6⟩ := h SX SM (xs (Int32.toNatClampNeg (i + 1))) (xs (Int32.toNatClampNeg (i + 2))) (xs (Int32.toNatClampNeg (i + 3))) hJ
  unfold Llv at hl
  refine lv_aload_n C.1.1.1 C.1.1.2.1 dL_law_1200 rfl (lv_at hl 3 rfl) ?_
  refine lv_aload_n C.1.1.1 C.1.1.2.1 dL_law_1201 rfl (lv_at hl 4 rfl) ?_
  refine lv_iload C.1.1.1 C.1.1.2.1 dL_law_1202 (lv_at hl 0 rfl) ?_
  refine lv_iconst C.1.1.1 C.1.1.2.1 dL_law_1204 rfl ?_
  refine lv_iadd C.1.1.1 C.1.1.2.1 dL_law_1205 ?_
  refine L_ld C X hi.2.1 dL_law_1206 ?_
  refine lv_aload_n C.1.1.1 C.1.1.2.1 dL_law_1207 rfl (lv_at hl 4 rfl) ?_
  refine lv_iload C.1.1.1 C.1.1.2.1 dL_law_1208 (lv_at hl 0 rfl) ?_
  refine lv_iconst C.1.1.1 C.1.1.2.1 dL_law_1210 rfl ?_
  refine lv_iadd C.1.1.1 C.1.1.2.1 dL_law_1211 ?_
  refine L_ld C X hi.2.2.1 dL_law_1212 ?_
  refine lv_aload_n C.1.1.1 C.1.1.2.1 dL_law_1213 rfl (lv_at hl 4 rfl) ?_
  refine lv_iload C.1.1.1 C.1.1.2.1 dL_law_1214 (lv_at hl 0 rfl) ?_
  refine lv_iconst C.1.1.1 C.1.1.2.1 dL_law_1216 rfl ?_
  refine lv_iadd C.1.1.1 C.1.1.2.1 dL_law_1217 ?_
  refine L_ld C X hi.2.2.2.1 dL_law_1218 ?_
  refine lv_aload_n C.1.1.1 C.1.1.2.1 dL_law_1219 rfl (lv_at hl 1 rfl) ?_
  refine L_callS C.2.2.2.2.2.1.1.1.1 C.2.2.2.2.2.2.1.1 C.2.2.2.2.1 C.1 C.2.2.1 C.2.2.2.1 X lw_see rfl (kL_see C.2.2.2.2.2.1 C.1.2.2.2.2.1 (fun k hk => (C.2.2.2.2.1.1 k hk).2.1) N (xs (Int32.toNatClampNeg (i + 1))) (xs (Int32.toNatClampNeg (i + 2))) (xs (Int32.toNatClampNeg (i + 3))) SX f ox h1 h3) (Nat.le_of_ble_eq_true rfl) (Nat.le_of_ble_eq_true rfl) (Nat.le_trans (Nat.add_le_add_left (Nat.le_of_ble_eq_true rfl) _) hc4) (Nat.le_trans (Nat.add_le_add_left (Nat.le_of_ble_eq_true rfl) _) hs4) rfl hl.1 rfl (Nat.le_of_ble_eq_true rfl) dL_law_1220 (fun H locs X => ?_)
  refine lv_istore C.1.1.1 C.1.1.2.1 dL_law_1223 hl (by decide) rfl (fun ls hl => ?_)
  refine lv_aload_n C.1.1.1 C.1.1.2.1 dL_law_1225 rfl (lv_at hl 3 rfl) ?_
  refine lv_aload_n C.1.1.1 C.1.1.2.1 dL_law_1226 rfl (lv_at hl 5 rfl) ?_
  refine lv_iload C.1.1.1 C.1.1.2.1 dL_law_1227 (lv_at hl 1 rfl) ?_
  refine lv_iconst C.1.1.1 C.1.1.2.1 dL_law_1229 rfl ?_
  refine lv_iadd C.1.1.1 C.1.1.2.1 dL_law_1230 ?_
  refine L_ld C X hi.2.1 dL_law_1231 ?_
  refine lv_aload_n C.1.1.1 C.1.1.2.1 dL_law_1232 rfl (lv_at hl 5 rfl) ?_
  refine lv_iload C.1.1.1 C.1.1.2.1 dL_law_1233 (lv_at hl 1 rfl) ?_
  refine lv_iconst C.1.1.1 C.1.1.2.1 dL_law_1235 rfl ?_
  refine lv_iadd C.1.1.1 C.1.1.2.1 dL_law_1236 ?_
  refine L_ld C X hi.2.2.1 dL_law_1237 ?_
  refine lv_aload_n C.1.1.1 C.1.1.2.1 dL_law_1238 rfl (lv_at hl 5 rfl) ?_
  refine lv_iload C.1.1.1 C.1.1.2.1 dL_law_1239 (lv_at hl 1 rfl) ?_
  refine lv_iconst C.1.1.1 C.1.1.2.1 dL_law_1241 rfl ?_
  refine lv_iadd C.1.1.1 C.1.1.2.1 dL_law_1242 ?_
  refine L_ld C X hi.2.2.2.1 dL_law_1243 ?_
  refine L_callM C.2.2.2.2.2.1.1.1.1 C.2.2.2.2.2.2.1.1 C.2.2.2.2.1 C.2.1 X xv_L_213 rfl (kX12_see C.2.2.2.2.2.2.1.1 C.2.1.2.2.2.2.1 M (xs (Int32.toNatClampNeg (i + 1))) (xs (Int32.toNatClampNeg (i + 2))) (xs (Int32.toNatClampNeg (i + 3))) SM om h2) (Nat.le_of_ble_eq_true rfl) (Nat.le_of_ble_eq_true rfl) (Nat.le_trans (Nat.add_le_add_left (Nat.le_of_ble_eq_true rfl) _) hc4) (Nat.le_trans (Nat.add_le_add_left (Nat.le_of_ble_eq_true rfl) _) hs4) rfl hl.1 rfl (Nat.le_of_ble_eq_true rfl) dL_law_1244 (fun H locs X => ?_)
  refine lv_istore C.1.1.1 C.1.1.2.1 dL_law_1247 hl (by decide) rfl (fun ls hl => ?_)
  refine lv_goto (tgt := 1499) C.1.1.1 C.1.1.2.1 dL_law_1249 (by decide) ?_
  exact W.widen (k := cs + 4) (n := sl + 24) (Nat.add_le_add_left (Nat.le_of_ble_eq_true rfl) _) (Nat.add_le_add_left (Nat.le_of_ble_eq_true rfl) _) (kk _ _ _ _ _ _ h6 X (lv_sub hl [2, 3, 4, 5, 6] rfl))
theorem LB_greedy (C : LCx p l s m args meth c D g g2 cI cB cZ cQ cS cJ aK aV aO b L xs Am Am2) (hi : Lin i L) (X : LX D g g2 cI cB cZ cQ cS cJ aK aO b L xs SX SM f s H locs) (hJ : J SX SM) (hl : lv_has ls 7 (Llv b (g 0) (g2 99) aO i)) (hc4 : cs + 4 ≤ 601024) (hs4 : sl + 24 ≤ 7293034) (h : Lw_greedy J) (kk : ∀ (H1 : Heap) (locs1 : List Loc) (ls1 : Array Slot) (SX1 SM1 : gS) (f1 : Nat → Int64), J SX1 SM1 → LX D g g2 cI cB cZ cQ cS cJ aK aO b L xs SX1 SM1 f1 s H1 locs1 → lv_has ls1 7 (Llv b (g 0) (g2 99) aO i) → W p l e room_1 s m args below meth c H1 locs1 (cs + 4) (sl + 24) Q (F0 m 1499 ls1 [])) : W p l e room_1 s m args below meth c H locs cs sl Q (F0 m 1252 ls []) := by
  obtain ⟨N, ox, M, om, h1, h2, h3, h4, h5, h6⟩ := h SX SM (xs (Int32.toNatClampNeg (i + 1))) hJ
  unfold Llv at hl
  refine lv_aload_n C.1.1.1 C.1.1.2.1 dL_law_1252 rfl (lv_at hl 3 rfl) ?_
  refine lv_aload_n C.1.1.1 C.1.1.2.1 dL_law_1253 rfl (lv_at hl 4 rfl) ?_
  refine lv_iload C.1.1.1 C.1.1.2.1 dL_law_1254 (lv_at hl 0 rfl) ?_
  refine lv_iconst C.1.1.1 C.1.1.2.1 dL_law_1256 rfl ?_
  refine lv_iadd C.1.1.1 C.1.1.2.1 dL_law_1257 ?_
  refine L_ld C X hi.2.1 dL_law_1258 ?_
  refine lv_aload_n C.1.1.1 C.1.1.2.1 dL_law_1259 rfl (lv_at hl 1 rfl) ?_
  refine L_callS C.2.2.2.2.2.1.1.1.1 C.2.2.2.2.2.2.1.1 C.2.2.2.2.1 C.1 C.2.2.1 C.2.2.2.1 X lw_greedy rfl (kL_greedy C.2.2.2.2.2.1 C.1.2.2.2.2.1 (fun k hk => (C.2.2.2.2.1.1 k hk).2.1) N (xs (Int32.toNatClampNeg (i + 1))) SX f ox h1 h3) (Nat.le_of_ble_eq_true rfl) (Nat.le_of_ble_eq_true rfl) (Nat.le_trans (Nat.add_le_add_left (Nat.le_of_ble_eq_true rfl) _) hc4) (Nat.le_trans (Nat.add_le_add_left (Nat.le_of_ble_eq_true rfl) _) hs4) rfl hl.1 rfl (Nat.le_of_ble_eq_true rfl) dL_law_1260 (fun H locs X => ?_)
  refine lv_istore C.1.1.1 C.1.1.2.1 dL_law_1263 hl (by decide) rfl (fun ls hl => ?_)
  refine lv_aload_n C.1.1.1 C.1.1.2.1 dL_law_1265 rfl (lv_at hl 3 rfl) ?_
  refine lv_aload_n C.1.1.1 C.1.1.2.1 dL_law_1266 rfl (lv_at hl 5 rfl) ?_
  refine lv_iload C.1.1.1 C.1.1.2.1 dL_law_1267 (lv_at hl 1 rfl) ?_
  refine lv_iconst C.1.1.1 C.1.1.2.1 dL_law_1269 rfl ?_
  refine lv_iadd C.1.1.1 C.1.1.2.1 dL_law_1270 ?_
  refine L_ld C X hi.2.1 dL_law_1271 ?_
  refine L_callM C.2.2.2.2.2.1.1.1.1 C.2.2.2.2.2.2.1.1 C.2.2.2.2.1 C.2.1 X xv_L_216 rfl (kX12_greedy C.2.2.2.2.2.2.1.1 C.2.1.2.2.2.2.1 M (xs (Int32.toNatClampNeg (i + 1))) SM om h2) (Nat.le_of_ble_eq_true rfl) (Nat.le_of_ble_eq_true rfl) (Nat.le_trans (Nat.add_le_add_left (Nat.le_of_ble_eq_true rfl) _) hc4) (Nat.le_trans (Nat.add_le_add_left (Nat.le_of_ble_eq_true rfl) _) hs4) rfl hl.1 rfl (Nat.le_of_ble_eq_true rfl) dL_law_1272 (fun H locs X => ?_)
  refine lv_istore C.1.1.1 C.1.1.2.1 dL_law_1275 hl (by decide) rfl (fun ls hl => ?_)
  refine lv_goto (tgt := 1499) C.1.1.1 C.1.1.2.1 dL_law_1277 (by decide) ?_
  exact W.widen (k := cs + 4) (n := sl + 24) (Nat.add_le_add_left (Nat.le_of_ble_eq_true rfl) _) (Nat.add_le_add_left (Nat.le_of_ble_eq_true rfl) _) (kk _ _ _ _ _ _ h6 X (lv_sub hl [2, 3, 4, 5, 6] rfl))
theorem LB_look (C : LCx p l s m args meth c D g g2 cI cB cZ cQ cS cJ aK aV aO b L xs Am Am2) (hi : Lin i L) (X : LX D g g2 cI cB cZ cQ cS cJ aK aO b L xs SX SM f s H locs) (hJ : J SX SM) (hl : lv_has ls 7 (Llv b (g 0) (g2 99) aO i)) (hc4 : cs + 4 ≤ 601024) (hs4 : sl + 24 ≤ 7293034) (h : Lw_look J) (kk : ∀ (H1 : Heap) (locs1 : List Loc) (ls1 : Array Slot) (SX1 SM1 : gS) (f1 : Nat → Int64), J SX1 SM1 → LX D g g2 cI cB cZ cQ cS cJ aK aO b L xs SX1 SM1 f1 s H1 locs1 → lv_has ls1 7 (Llv b (g 0) (g2 99) aO i) → W p l e room_1 s m args below meth c H1 locs1 (cs + 4) (sl + 24) Q (F0 m 1499 ls1 [])) : W p l e room_1 s m args below meth c H locs cs sl Q (F0 m 1280 ls []) := by
  obtain ⟨N, ox, M, om, h1, h2, h3, h4, h5, h6⟩ := h SX SM (xs (Int32.toNatClampNeg (i + 1))) hJ
  unfold Llv at hl
  refine lv_aload_n C.1.1.1 C.1.1.2.1 dL_law_1280 rfl (lv_at hl 3 rfl) ?_
  refine lv_aload_n C.1.1.1 C.1.1.2.1 dL_law_1281 rfl (lv_at hl 4 rfl) ?_
  refine lv_iload C.1.1.1 C.1.1.2.1 dL_law_1282 (lv_at hl 0 rfl) ?_
  refine lv_iconst C.1.1.1 C.1.1.2.1 dL_law_1284 rfl ?_
  refine lv_iadd C.1.1.1 C.1.1.2.1 dL_law_1285 ?_
  refine L_ld C X hi.2.1 dL_law_1286 ?_
  refine lv_aload_n C.1.1.1 C.1.1.2.1 dL_law_1287 rfl (lv_at hl 1 rfl) ?_
  refine L_callS C.2.2.2.2.2.1.1.1.1 C.2.2.2.2.2.2.1.1 C.2.2.2.2.1 C.1 C.2.2.1 C.2.2.2.1 X lw_look rfl (kL_look C.2.2.2.2.2.1 C.1.2.2.2.2.1 (fun k hk => (C.2.2.2.2.1.1 k hk).2.1) N (xs (Int32.toNatClampNeg (i + 1))) SX f ox h1 h3) (Nat.le_of_ble_eq_true rfl) (Nat.le_of_ble_eq_true rfl) (Nat.le_trans (Nat.add_le_add_left (Nat.le_of_ble_eq_true rfl) _) hc4) (Nat.le_trans (Nat.add_le_add_left (Nat.le_of_ble_eq_true rfl) _) hs4) rfl hl.1 rfl (Nat.le_of_ble_eq_true rfl) dL_law_1288 (fun H locs X => ?_)
  refine lv_istore C.1.1.1 C.1.1.2.1 dL_law_1291 hl (by decide) rfl (fun ls hl => ?_)
  refine lv_aload_n C.1.1.1 C.1.1.2.1 dL_law_1293 rfl (lv_at hl 3 rfl) ?_
  refine lv_aload_n C.1.1.1 C.1.1.2.1 dL_law_1294 rfl (lv_at hl 5 rfl) ?_
  refine lv_iload C.1.1.1 C.1.1.2.1 dL_law_1295 (lv_at hl 1 rfl) ?_
  refine lv_iconst C.1.1.1 C.1.1.2.1 dL_law_1297 rfl ?_
  refine lv_iadd C.1.1.1 C.1.1.2.1 dL_law_1298 ?_
  refine L_ld C X hi.2.1 dL_law_1299 ?_
  refine L_callM C.2.2.2.2.2.1.1.1.1 C.2.2.2.2.2.2.1.1 C.2.2.2.2.1 C.2.1 X xv_L_219 rfl (kX12_look C.2.2.2.2.2.2.1.1 C.2.1.2.2.2.2.1 M (xs (Int32.toNatClampNeg (i + 1))) SM om h2) (Nat.le_of_ble_eq_true rfl) (Nat.le_of_ble_eq_true rfl) (Nat.le_trans (Nat.add_le_add_left (Nat.le_of_ble_eq_true rfl) _) hc4) (Nat.le_trans (Nat.add_le_add_left (Nat.le_of_ble_eq_true rfl) _) hs4) rfl hl.1 rfl (Nat.le_of_ble_eq_true rfl) dL_law_1300 (fun H locs X => ?_)
  refine lv_istore C.1.1.1 C.1.1.2.1 dL_law_1303 hl (by decide) rfl (fun ls hl => ?_)
  refine lv_goto (tgt := 1499) C.1.1.1 C.1.1.2.1 dL_law_1305 (by decide) ?_
  exact W.widen (k := cs + 4) (n := sl + 24) (Nat.add_le_add_left (Nat.le_of_ble_eq_true rfl) _) (Nat.add_le_add_left (Nat.le_of_ble_eq_true rfl) _) (kk _ _ _ _ _ _ h6 X (lv_sub hl [2, 3, 4, 5, 6] rfl))
theorem LB_forget (C : LCx p l s m args meth c D g g2 cI cB cZ cQ cS cJ aK aV aO b L xs Am Am2) (hi : Lin i L) (X : LX D g g2 cI cB cZ cQ cS cJ aK aO b L xs SX SM f s H locs) (hJ : J SX SM) (hl : lv_has ls 7 (Llv b (g 0) (g2 99) aO i)) (hc4 : cs + 4 ≤ 601024) (hs4 : sl + 24 ≤ 7293034) (h : Lw_forget J) (kk : ∀ (H1 : Heap) (locs1 : List Loc) (ls1 : Array Slot) (SX1 SM1 : gS) (f1 : Nat → Int64), J SX1 SM1 → LX D g g2 cI cB cZ cQ cS cJ aK aO b L xs SX1 SM1 f1 s H1 locs1 → lv_has ls1 7 (Llv b (g 0) (g2 99) aO i) → W p l e room_1 s m args below meth c H1 locs1 (cs + 4) (sl + 24) Q (F0 m 1499 ls1 [])) : W p l e room_1 s m args below meth c H locs cs sl Q (F0 m 1308 ls []) := by
  obtain ⟨N, ox, M, om, h1, h2, h5, h6⟩ := h SX SM  hJ
  unfold Llv at hl
  refine lv_aload_n C.1.1.1 C.1.1.2.1 dL_law_1308 rfl (lv_at hl 3 rfl) ?_
  refine L_callX C.2.2.2.2.2.1.1.1.1 C.2.2.2.2.2.2.1.1 C.2.2.2.2.1 C.1 X xv_L_220 rfl (kX11_forget C.2.2.2.2.2.1.1.1 C.1.2.2.2.2.1 N  SX ox h1) (Nat.le_of_ble_eq_true rfl) (Nat.le_of_ble_eq_true rfl) (Nat.le_trans (Nat.le_add_right _ _) hc4) (Nat.le_trans (Nat.le_add_right _ _) hs4) rfl hl.1 rfl (Nat.le_of_ble_eq_true rfl) dL_law_1309 (fun H locs X => ?_)
  refine lv_aload_n C.1.1.1 C.1.1.2.1 dL_law_1312 rfl (lv_at hl 2 rfl) ?_
  refine L_callM C.2.2.2.2.2.1.1.1.1 C.2.2.2.2.2.2.1.1 C.2.2.2.2.1 C.2.1 X xv_L_223 rfl (kX12_forget C.2.2.2.2.2.2.1.1 C.2.1.2.2.2.2.1 M  SM om h2) (Nat.le_of_ble_eq_true rfl) (Nat.le_of_ble_eq_true rfl) (Nat.le_trans (Nat.le_add_right _ _) hc4) (Nat.le_trans (Nat.le_add_right _ _) hs4) rfl hl.1 rfl (Nat.le_of_ble_eq_true rfl) dL_law_1313 (fun H locs X => ?_)
  refine lv_goto (tgt := 1499) C.1.1.1 C.1.1.2.1 dL_law_1316 (by decide) ?_
  exact W.widen (k := cs + 4) (n := sl + 24) (Nat.le_add_right _ _) (Nat.le_add_right _ _) (kk _ _ _ _ _ _ h6 X (lv_sub hl [0, 1, 2, 3, 4] rfl))
theorem LB_drought (C : LCx p l s m args meth c D g g2 cI cB cZ cQ cS cJ aK aV aO b L xs Am Am2) (hi : Lin i L) (X : LX D g g2 cI cB cZ cQ cS cJ aK aO b L xs SX SM f s H locs) (hJ : J SX SM) (hl : lv_has ls 7 (Llv b (g 0) (g2 99) aO i)) (hc4 : cs + 4 ≤ 601024) (hs4 : sl + 24 ≤ 7293034) (h : Lw_drought J) (kk : ∀ (H1 : Heap) (locs1 : List Loc) (ls1 : Array Slot) (SX1 SM1 : gS) (f1 : Nat → Int64), J SX1 SM1 → LX D g g2 cI cB cZ cQ cS cJ aK aO b L xs SX1 SM1 f1 s H1 locs1 → lv_has ls1 7 (Llv b (g 0) (g2 99) aO i) → W p l e room_1 s m args below meth c H1 locs1 (cs + 4) (sl + 24) Q (F0 m 1499 ls1 [])) : W p l e room_1 s m args below meth c H locs cs sl Q (F0 m 1319 ls []) := by
  obtain ⟨N, ox, M, om, h1, h2, h3, h4, h6⟩ := h SX SM (xs (Int32.toNatClampNeg (i + 1))) (xs (Int32.toNatClampNeg (i + 2))) (xs (Int32.toNatClampNeg (i + 3))) hJ
  unfold Llv at hl
  refine lv_aload_n C.1.1.1 C.1.1.2.1 dL_law_1319 rfl (lv_at hl 3 rfl) ?_
  refine lv_aload_n C.1.1.1 C.1.1.2.1 dL_law_1320 rfl (lv_at hl 4 rfl) ?_
  refine lv_iload C.1.1.1 C.1.1.2.1 dL_law_1321 (lv_at hl 0 rfl) ?_
  refine lv_iconst C.1.1.1 C.1.1.2.1 dL_law_1323 rfl ?_
  refine lv_iadd C.1.1.1 C.1.1.2.1 dL_law_1324 ?_
  refine L_ld C X hi.2.1 dL_law_1325 ?_
  refine lv_aload_n C.1.1.1 C.1.1.2.1 dL_law_1326 rfl (lv_at hl 4 rfl) ?_
  refine lv_iload C.1.1.1 C.1.1.2.1 dL_law_1327 (lv_at hl 0 rfl) ?_
  refine lv_iconst C.1.1.1 C.1.1.2.1 dL_law_1329 rfl ?_
  refine lv_iadd C.1.1.1 C.1.1.2.1 dL_law_1330 ?_
  refine L_ld C X hi.2.2.1 dL_law_1331 ?_
  refine lv_aload_n C.1.1.1 C.1.1.2.1 dL_law_1332 rfl (lv_at hl 4 rfl) ?_
  refine lv_iload C.1.1.1 C.1.1.2.1 dL_law_1333 (lv_at hl 0 rfl) ?_
  refine lv_iconst C.1.1.1 C.1.1.2.1 dL_law_1335 rfl ?_
  refine lv_iadd C.1.1.1 C.1.1.2.1 dL_law_1336 ?_
  refine L_ld C X hi.2.2.2.1 dL_law_1337 ?_
  refine lv_aload_n C.1.1.1 C.1.1.2.1 dL_law_1338 rfl (lv_at hl 1 rfl) ?_
  refine L_callS C.2.2.2.2.2.1.1.1.1 C.2.2.2.2.2.2.1.1 C.2.2.2.2.1 C.1 C.2.2.1 C.2.2.2.1 X lw_drought rfl (kL_drought C.2.2.2.2.2.1 C.1.2.2.2.2.1 (fun k hk => (C.2.2.2.2.1.1 k hk).2.1) N (xs (Int32.toNatClampNeg (i + 1))) (xs (Int32.toNatClampNeg (i + 2))) (xs (Int32.toNatClampNeg (i + 3))) SX f ox h1 h3) (Nat.le_of_ble_eq_true rfl) (Nat.le_of_ble_eq_true rfl) (Nat.le_trans (Nat.add_le_add_left (Nat.le_of_ble_eq_true rfl) _) hc4) (Nat.le_trans (Nat.add_le_add_left (Nat.le_of_ble_eq_true rfl) _) hs4) rfl hl.1 rfl (Nat.le_of_ble_eq_true rfl) dL_law_1339 (fun H locs X => ?_)
  refine lv_istore C.1.1.1 C.1.1.2.1 dL_law_1342 hl (by decide) rfl (fun ls hl => ?_)
  refine lv_aload_n C.1.1.1 C.1.1.2.1 dL_law_1344 rfl (lv_at hl 3 rfl) ?_
  refine lv_aload_n C.1.1.1 C.1.1.2.1 dL_law_1345 rfl (lv_at hl 5 rfl) ?_
  refine lv_iload C.1.1.1 C.1.1.2.1 dL_law_1346 (lv_at hl 1 rfl) ?_
  refine lv_iconst C.1.1.1 C.1.1.2.1 dL_law_1348 rfl ?_
  refine lv_iadd C.1.1.1 C.1.1.2.1 dL_law_1349 ?_
  refine L_ld C X hi.2.1 dL_law_1350 ?_
  refine lv_aload_n C.1.1.1 C.1.1.2.1 dL_law_1351 rfl (lv_at hl 5 rfl) ?_
  refine lv_iload C.1.1.1 C.1.1.2.1 dL_law_1352 (lv_at hl 1 rfl) ?_
  refine lv_iconst C.1.1.1 C.1.1.2.1 dL_law_1354 rfl ?_
  refine lv_iadd C.1.1.1 C.1.1.2.1 dL_law_1355 ?_
  refine L_ld C X hi.2.2.1 dL_law_1356 ?_
  refine lv_aload_n C.1.1.1 C.1.1.2.1 dL_law_1357 rfl (lv_at hl 5 rfl) ?_
  refine lv_iload C.1.1.1 C.1.1.2.1 dL_law_1358 (lv_at hl 1 rfl) ?_
  refine lv_iconst C.1.1.1 C.1.1.2.1 dL_law_1360 rfl ?_
  refine lv_iadd C.1.1.1 C.1.1.2.1 dL_law_1361 ?_
  refine L_ld C X hi.2.2.2.1 dL_law_1362 ?_
  refine L_callM C.2.2.2.2.2.1.1.1.1 C.2.2.2.2.2.2.1.1 C.2.2.2.2.1 C.2.1 X xv_L_226 rfl (kX12_drought C.2.2.2.2.2.2.1.1 C.2.1.2.2.2.2.1 M (xs (Int32.toNatClampNeg (i + 1))) (xs (Int32.toNatClampNeg (i + 2))) (xs (Int32.toNatClampNeg (i + 3))) SM om h2) (Nat.le_of_ble_eq_true rfl) (Nat.le_of_ble_eq_true rfl) (Nat.le_trans (Nat.add_le_add_left (Nat.le_of_ble_eq_true rfl) _) hc4) (Nat.le_trans (Nat.add_le_add_left (Nat.le_of_ble_eq_true rfl) _) hs4) rfl hl.1 rfl (Nat.le_of_ble_eq_true rfl) dL_law_1363 (fun H locs X => ?_)
  refine lv_istore C.1.1.1 C.1.1.2.1 dL_law_1366 hl (by decide) rfl (fun ls hl => ?_)
  refine lv_goto (tgt := 1499) C.1.1.1 C.1.1.2.1 dL_law_1368 (by decide) ?_
  exact W.widen (k := cs + 4) (n := sl + 24) (Nat.add_le_add_left (Nat.le_of_ble_eq_true rfl) _) (Nat.add_le_add_left (Nat.le_of_ble_eq_true rfl) _) (kk _ _ _ _ _ _ h6 X (lv_sub hl [2, 3, 4, 5, 6] rfl))
theorem LB_game (C : LCx p l s m args meth c D g g2 cI cB cZ cQ cS cJ aK aV aO b L xs Am Am2) (hi : Lin i L) (X : LX D g g2 cI cB cZ cQ cS cJ aK aO b L xs SX SM f s H locs) (hJ : J SX SM) (hl : lv_has ls 7 (Llv b (g 0) (g2 99) aO i)) (hc4 : cs + 4 ≤ 601024) (hs4 : sl + 24 ≤ 7293034) (h : Lw_game J) (kk : ∀ (H1 : Heap) (locs1 : List Loc) (ls1 : Array Slot) (SX1 SM1 : gS) (f1 : Nat → Int64), J SX1 SM1 → LX D g g2 cI cB cZ cQ cS cJ aK aO b L xs SX1 SM1 f1 s H1 locs1 → lv_has ls1 7 (Llv b (g 0) (g2 99) aO i) → W p l e room_1 s m args below meth c H1 locs1 (cs + 4) (sl + 24) Q (F0 m 1499 ls1 [])) : W p l e room_1 s m args below meth c H locs cs sl Q (F0 m 1371 ls []) := by
  obtain ⟨N, ox, M, om, h1, h2, h3, h4, h5, h6⟩ := h SX SM (xs (Int32.toNatClampNeg (i + 1))) (xs (Int32.toNatClampNeg (i + 2))) (xs (Int32.toNatClampNeg (i + 3))) hJ
  unfold Llv at hl
  refine lv_aload_n C.1.1.1 C.1.1.2.1 dL_law_1371 rfl (lv_at hl 3 rfl) ?_
  refine lv_aload_n C.1.1.1 C.1.1.2.1 dL_law_1372 rfl (lv_at hl 4 rfl) ?_
  refine lv_iload C.1.1.1 C.1.1.2.1 dL_law_1373 (lv_at hl 0 rfl) ?_
  refine lv_iconst C.1.1.1 C.1.1.2.1 dL_law_1375 rfl ?_
  refine lv_iadd C.1.1.1 C.1.1.2.1 dL_law_1376 ?_
  refine L_ld C X hi.2.1 dL_law_1377 ?_
  refine lv_aload_n C.1.1.1 C.1.1.2.1 dL_law_1378 rfl (lv_at hl 4 rfl) ?_
  refine lv_iload C.1.1.1 C.1.1.2.1 dL_law_1379 (lv_at hl 0 rfl) ?_
  refine lv_iconst C.1.1.1 C.1.1.2.1 dL_law_1381 rfl ?_
  refine lv_iadd C.1.1.1 C.1.1.2.1 dL_law_1382 ?_
  refine L_ld C X hi.2.2.1 dL_law_1383 ?_
  refine lv_aload_n C.1.1.1 C.1.1.2.1 dL_law_1384 rfl (lv_at hl 4 rfl) ?_
  refine lv_iload C.1.1.1 C.1.1.2.1 dL_law_1385 (lv_at hl 0 rfl) ?_
  refine lv_iconst C.1.1.1 C.1.1.2.1 dL_law_1387 rfl ?_
  refine lv_iadd C.1.1.1 C.1.1.2.1 dL_law_1388 ?_
  refine L_ld C X hi.2.2.2.1 dL_law_1389 ?_
  refine lv_aload_n C.1.1.1 C.1.1.2.1 dL_law_1390 rfl (lv_at hl 1 rfl) ?_
  refine L_callS C.2.2.2.2.2.1.1.1.1 C.2.2.2.2.2.2.1.1 C.2.2.2.2.1 C.1 C.2.2.1 C.2.2.2.1 X lw_game rfl (kL_game C.2.2.2.2.2.1 C.1.2.2.2.2.1 (fun k hk => (C.2.2.2.2.1.1 k hk).2.1) N (xs (Int32.toNatClampNeg (i + 1))) (xs (Int32.toNatClampNeg (i + 2))) (xs (Int32.toNatClampNeg (i + 3))) SX f ox h1 h3) (Nat.le_of_ble_eq_true rfl) (Nat.le_of_ble_eq_true rfl) (Nat.le_trans (Nat.add_le_add_left (Nat.le_of_ble_eq_true rfl) _) hc4) (Nat.le_trans (Nat.add_le_add_left (Nat.le_of_ble_eq_true rfl) _) hs4) rfl hl.1 rfl (Nat.le_of_ble_eq_true rfl) dL_law_1391 (fun H locs X => ?_)
  refine lv_istore C.1.1.1 C.1.1.2.1 dL_law_1394 hl (by decide) rfl (fun ls hl => ?_)
  refine lv_aload_n C.1.1.1 C.1.1.2.1 dL_law_1396 rfl (lv_at hl 3 rfl) ?_
  refine lv_aload_n C.1.1.1 C.1.1.2.1 dL_law_1397 rfl (lv_at hl 5 rfl) ?_
  refine lv_iload C.1.1.1 C.1.1.2.1 dL_law_1398 (lv_at hl 1 rfl) ?_
  refine lv_iconst C.1.1.1 C.1.1.2.1 dL_law_1400 rfl ?_
  refine lv_iadd C.1.1.1 C.1.1.2.1 dL_law_1401 ?_
  refine L_ld C X hi.2.1 dL_law_1402 ?_
  refine lv_aload_n C.1.1.1 C.1.1.2.1 dL_law_1403 rfl (lv_at hl 5 rfl) ?_
  refine lv_iload C.1.1.1 C.1.1.2.1 dL_law_1404 (lv_at hl 1 rfl) ?_
  refine lv_iconst C.1.1.1 C.1.1.2.1 dL_law_1406 rfl ?_
  refine lv_iadd C.1.1.1 C.1.1.2.1 dL_law_1407 ?_
  refine L_ld C X hi.2.2.1 dL_law_1408 ?_
  refine lv_aload_n C.1.1.1 C.1.1.2.1 dL_law_1409 rfl (lv_at hl 5 rfl) ?_
  refine lv_iload C.1.1.1 C.1.1.2.1 dL_law_1410 (lv_at hl 1 rfl) ?_
  refine lv_iconst C.1.1.1 C.1.1.2.1 dL_law_1412 rfl ?_
  refine lv_iadd C.1.1.1 C.1.1.2.1 dL_law_1413 ?_
  refine L_ld C X hi.2.2.2.1 dL_law_1414 ?_
  refine L_callM C.2.2.2.2.2.1.1.1.1 C.2.2.2.2.2.2.1.1 C.2.2.2.2.1 C.2.1 X xv_L_229 rfl (kX12_game C.2.2.2.2.2.2.1.1 C.2.1.2.2.2.2.1 M (xs (Int32.toNatClampNeg (i + 1))) (xs (Int32.toNatClampNeg (i + 2))) (xs (Int32.toNatClampNeg (i + 3))) SM om h2) (Nat.le_of_ble_eq_true rfl) (Nat.le_of_ble_eq_true rfl) (Nat.le_trans (Nat.add_le_add_left (Nat.le_of_ble_eq_true rfl) _) hc4) (Nat.le_trans (Nat.add_le_add_left (Nat.le_of_ble_eq_true rfl) _) hs4) rfl hl.1 rfl (Nat.le_of_ble_eq_true rfl) dL_law_1415 (fun H locs X => ?_)
  refine lv_istore C.1.1.1 C.1.1.2.1 dL_law_1418 hl (by decide) rfl (fun ls hl => ?_)
  refine lv_goto (tgt := 1499) C.1.1.1 C.1.1.2.1 dL_law_1420 (by decide) ?_
  exact W.widen (k := cs + 4) (n := sl + 24) (Nat.add_le_add_left (Nat.le_of_ble_eq_true rfl) _) (Nat.add_le_add_left (Nat.le_of_ble_eq_true rfl) _) (kk _ _ _ _ _ _ h6 X (lv_sub hl [2, 3, 4, 5, 6] rfl))
theorem LB_years (C : LCx p l s m args meth c D g g2 cI cB cZ cQ cS cJ aK aV aO b L xs Am Am2) (hi : Lin i L) (X : LX D g g2 cI cB cZ cQ cS cJ aK aO b L xs SX SM f s H locs) (hJ : J SX SM) (hl : lv_has ls 7 (Llv b (g 0) (g2 99) aO i)) (hc4 : cs + 4 ≤ 601024) (hs4 : sl + 24 ≤ 7293034) (h : Lw_years J) (kk : ∀ (H1 : Heap) (locs1 : List Loc) (ls1 : Array Slot) (SX1 SM1 : gS) (f1 : Nat → Int64), J SX1 SM1 → LX D g g2 cI cB cZ cQ cS cJ aK aO b L xs SX1 SM1 f1 s H1 locs1 → lv_has ls1 7 (Llv b (g 0) (g2 99) aO i) → W p l e room_1 s m args below meth c H1 locs1 (cs + 4) (sl + 24) Q (F0 m 1499 ls1 [])) : W p l e room_1 s m args below meth c H locs cs sl Q (F0 m 1423 ls []) := by
  obtain ⟨N, ox, M, om, h1, h2, h3, h4, h5, h6⟩ := h SX SM (xs (Int32.toNatClampNeg (i + 1))) (xs (Int32.toNatClampNeg (i + 2))) (xs (Int32.toNatClampNeg (i + 3))) hJ
  unfold Llv at hl
  refine lv_aload_n C.1.1.1 C.1.1.2.1 dL_law_1423 rfl (lv_at hl 3 rfl) ?_
  refine lv_aload_n C.1.1.1 C.1.1.2.1 dL_law_1424 rfl (lv_at hl 4 rfl) ?_
  refine lv_iload C.1.1.1 C.1.1.2.1 dL_law_1425 (lv_at hl 0 rfl) ?_
  refine lv_iconst C.1.1.1 C.1.1.2.1 dL_law_1427 rfl ?_
  refine lv_iadd C.1.1.1 C.1.1.2.1 dL_law_1428 ?_
  refine L_ld C X hi.2.1 dL_law_1429 ?_
  refine lv_aload_n C.1.1.1 C.1.1.2.1 dL_law_1430 rfl (lv_at hl 4 rfl) ?_
  refine lv_iload C.1.1.1 C.1.1.2.1 dL_law_1431 (lv_at hl 0 rfl) ?_
  refine lv_iconst C.1.1.1 C.1.1.2.1 dL_law_1433 rfl ?_
  refine lv_iadd C.1.1.1 C.1.1.2.1 dL_law_1434 ?_
  refine L_ld C X hi.2.2.1 dL_law_1435 ?_
  refine lv_aload_n C.1.1.1 C.1.1.2.1 dL_law_1436 rfl (lv_at hl 4 rfl) ?_
  refine lv_iload C.1.1.1 C.1.1.2.1 dL_law_1437 (lv_at hl 0 rfl) ?_
  refine lv_iconst C.1.1.1 C.1.1.2.1 dL_law_1439 rfl ?_
  refine lv_iadd C.1.1.1 C.1.1.2.1 dL_law_1440 ?_
  refine L_ld C X hi.2.2.2.1 dL_law_1441 ?_
  refine lv_aload_n C.1.1.1 C.1.1.2.1 dL_law_1442 rfl (lv_at hl 1 rfl) ?_
  refine L_callS C.2.2.2.2.2.1.1.1.1 C.2.2.2.2.2.2.1.1 C.2.2.2.2.1 C.1 C.2.2.1 C.2.2.2.1 X lw_years rfl (kL_years C.2.2.2.2.2.1 C.1.2.2.2.2.1 (fun k hk => (C.2.2.2.2.1.1 k hk).2.1) N (xs (Int32.toNatClampNeg (i + 1))) (xs (Int32.toNatClampNeg (i + 2))) (xs (Int32.toNatClampNeg (i + 3))) SX f ox h1 h3) (Nat.le_of_ble_eq_true rfl) (Nat.le_of_ble_eq_true rfl) (Nat.le_trans (Nat.add_le_add_left (Nat.le_of_ble_eq_true rfl) _) hc4) (Nat.le_trans (Nat.add_le_add_left (Nat.le_of_ble_eq_true rfl) _) hs4) rfl hl.1 rfl (Nat.le_of_ble_eq_true rfl) dL_law_1443 (fun H locs X => ?_)
  refine lv_istore C.1.1.1 C.1.1.2.1 dL_law_1446 hl (by decide) rfl (fun ls hl => ?_)
  refine lv_aload_n C.1.1.1 C.1.1.2.1 dL_law_1448 rfl (lv_at hl 3 rfl) ?_
  refine lv_aload_n C.1.1.1 C.1.1.2.1 dL_law_1449 rfl (lv_at hl 5 rfl) ?_
  refine lv_iload C.1.1.1 C.1.1.2.1 dL_law_1450 (lv_at hl 1 rfl) ?_
  refine lv_iconst C.1.1.1 C.1.1.2.1 dL_law_1452 rfl ?_
  refine lv_iadd C.1.1.1 C.1.1.2.1 dL_law_1453 ?_
  refine L_ld C X hi.2.1 dL_law_1454 ?_
  refine lv_aload_n C.1.1.1 C.1.1.2.1 dL_law_1455 rfl (lv_at hl 5 rfl) ?_
  refine lv_iload C.1.1.1 C.1.1.2.1 dL_law_1456 (lv_at hl 1 rfl) ?_
  refine lv_iconst C.1.1.1 C.1.1.2.1 dL_law_1458 rfl ?_
  refine lv_iadd C.1.1.1 C.1.1.2.1 dL_law_1459 ?_
  refine L_ld C X hi.2.2.1 dL_law_1460 ?_
  refine lv_aload_n C.1.1.1 C.1.1.2.1 dL_law_1461 rfl (lv_at hl 5 rfl) ?_
  refine lv_iload C.1.1.1 C.1.1.2.1 dL_law_1462 (lv_at hl 1 rfl) ?_
  refine lv_iconst C.1.1.1 C.1.1.2.1 dL_law_1464 rfl ?_
  refine lv_iadd C.1.1.1 C.1.1.2.1 dL_law_1465 ?_
  refine L_ld C X hi.2.2.2.1 dL_law_1466 ?_
  refine L_callM C.2.2.2.2.2.1.1.1.1 C.2.2.2.2.2.2.1.1 C.2.2.2.2.1 C.2.1 X xv_L_232 rfl (kX12_years C.2.2.2.2.2.2.1.1 C.2.1.2.2.2.2.1 M (xs (Int32.toNatClampNeg (i + 1))) (xs (Int32.toNatClampNeg (i + 2))) (xs (Int32.toNatClampNeg (i + 3))) SM om h2) (Nat.le_of_ble_eq_true rfl) (Nat.le_of_ble_eq_true rfl) (Nat.le_trans (Nat.add_le_add_left (Nat.le_of_ble_eq_true rfl) _) hc4) (Nat.le_trans (Nat.add_le_add_left (Nat.le_of_ble_eq_true rfl) _) hs4) rfl hl.1 rfl (Nat.le_of_ble_eq_true rfl) dL_law_1467 (fun H locs X => ?_)
  refine lv_istore C.1.1.1 C.1.1.2.1 dL_law_1470 hl (by decide) rfl (fun ls hl => ?_)
  refine lv_goto (tgt := 1499) C.1.1.1 C.1.1.2.1 dL_law_1472 (by decide) ?_
  exact W.widen (k := cs + 4) (n := sl + 24) (Nat.add_le_add_left (Nat.le_of_ble_eq_true rfl) _) (Nat.add_le_add_left (Nat.le_of_ble_eq_true rfl) _) (kk _ _ _ _ _ _ h6 X (lv_sub hl [2, 3, 4, 5, 6] rfl))
theorem LB_image (C : LCx p l s m args meth c D g g2 cI cB cZ cQ cS cJ aK aV aO b L xs Am Am2) (hi : Lin i L) (X : LX D g g2 cI cB cZ cQ cS cJ aK aO b L xs SX SM f s H locs) (hJ : J SX SM) (hl : lv_has ls 7 (Llv b (g 0) (g2 99) aO i)) (hc4 : cs + 4 ≤ 601024) (hs4 : sl + 24 ≤ 7293034) (h : Lw_image J) (kk : ∀ (H1 : Heap) (locs1 : List Loc) (ls1 : Array Slot) (SX1 SM1 : gS) (f1 : Nat → Int64), J SX1 SM1 → LX D g g2 cI cB cZ cQ cS cJ aK aO b L xs SX1 SM1 f1 s H1 locs1 → lv_has ls1 7 (Llv b (g 0) (g2 99) aO i) → W p l e room_1 s m args below meth c H1 locs1 (cs + 4) (sl + 24) Q (F0 m 1499 ls1 [])) : W p l e room_1 s m args below meth c H locs cs sl Q (F0 m 1475 ls []) := by
  obtain ⟨N, ox, M, om, h1, h2, h5, h6⟩ := h SX SM  hJ
  unfold Llv at hl
  refine lv_aload_n C.1.1.1 C.1.1.2.1 dL_law_1475 rfl (lv_at hl 3 rfl) ?_
  refine L_callX C.2.2.2.2.2.1.1.1.1 C.2.2.2.2.2.2.1.1 C.2.2.2.2.1 C.1 X xv_L_233 rfl (kX11_image C.2.2.2.2.2.1.1 C.1.2.2.2.2.1 N  SX ox h1) (Nat.le_of_ble_eq_true rfl) (Nat.le_of_ble_eq_true rfl) (Nat.le_trans (Nat.le_add_right _ _) hc4) (Nat.le_trans (Nat.le_add_right _ _) hs4) rfl hl.1 rfl (Nat.le_of_ble_eq_true rfl) dL_law_1476 (fun H locs X => ?_)
  refine lv_aload_n C.1.1.1 C.1.1.2.1 dL_law_1479 rfl (lv_at hl 2 rfl) ?_
  refine L_callM C.2.2.2.2.2.1.1.1.1 C.2.2.2.2.2.2.1.1 C.2.2.2.2.1 C.2.1 X xv_L_236 rfl (kX12_image C.2.2.2.2.2.2.1.1 C.2.1.2.2.2.2.1 M  SM om h2) (Nat.le_of_ble_eq_true rfl) (Nat.le_of_ble_eq_true rfl) (Nat.le_trans (Nat.le_add_right _ _) hc4) (Nat.le_trans (Nat.le_add_right _ _) hs4) rfl hl.1 rfl (Nat.le_of_ble_eq_true rfl) dL_law_1480 (fun H locs X => ?_)
  refine lv_goto (tgt := 1499) C.1.1.1 C.1.1.2.1 dL_law_1483 (by decide) ?_
  exact W.widen (k := cs + 4) (n := sl + 24) (Nat.le_add_right _ _) (Nat.le_add_right _ _) (kk _ _ _ _ _ _ h6 X (lv_sub hl [0, 1, 2, 3, 4] rfl))
theorem LB_restore (C : LCx p l s m args meth c D g g2 cI cB cZ cQ cS cJ aK aV aO b L xs Am Am2) (hi : Lin i L) (X : LX D g g2 cI cB cZ cQ cS cJ aK aO b L xs SX SM f s H locs) (hJ : J SX SM) (hl : lv_has ls 7 (Llv b (g 0) (g2 99) aO i)) (hc4 : cs + 4 ≤ 601024) (hs4 : sl + 24 ≤ 7293034) (h : Lw_restore J) (kk : ∀ (H1 : Heap) (locs1 : List Loc) (ls1 : Array Slot) (SX1 SM1 : gS) (f1 : Nat → Int64), J SX1 SM1 → LX D g g2 cI cB cZ cQ cS cJ aK aO b L xs SX1 SM1 f1 s H1 locs1 → lv_has ls1 7 (Llv b (g 0) (g2 99) aO i) → W p l e room_1 s m args below meth c H1 locs1 (cs + 4) (sl + 24) Q (F0 m 1499 ls1 [])) : W p l e room_1 s m args below meth c H locs cs sl Q (F0 m 1486 ls []) := by
  obtain ⟨N, ox, M, om, h1, h2, h5, h6⟩ := h SX SM  hJ
  unfold Llv at hl
  refine lv_aload_n C.1.1.1 C.1.1.2.1 dL_law_1486 rfl (lv_at hl 3 rfl) ?_
  refine L_callX C.2.2.2.2.2.1.1.1.1 C.2.2.2.2.2.2.1.1 C.2.2.2.2.1 C.1 X xv_L_237 rfl (kX11_restore C.2.2.2.2.2.1.1 C.1.2.2.2.2.1 N  SX ox h1) (Nat.le_of_ble_eq_true rfl) (Nat.le_of_ble_eq_true rfl) (Nat.le_trans (Nat.le_add_right _ _) hc4) (Nat.le_trans (Nat.le_add_right _ _) hs4) rfl hl.1 rfl (Nat.le_of_ble_eq_true rfl) dL_law_1487 (fun H locs X => ?_)
  refine lv_pop C.1.1.1 C.1.1.2.1 dL_law_1490 rfl ?_
  refine lv_aload_n C.1.1.1 C.1.1.2.1 dL_law_1491 rfl (lv_at hl 2 rfl) ?_
  refine L_callM C.2.2.2.2.2.1.1.1.1 C.2.2.2.2.2.2.1.1 C.2.2.2.2.1 C.2.1 X xv_L_241 rfl (kX12_restore C.2.2.2.2.2.2.1.1 C.2.1.2.2.2.2.1 M  SM om h2) (Nat.le_of_ble_eq_true rfl) (Nat.le_of_ble_eq_true rfl) (Nat.le_trans (Nat.le_add_right _ _) hc4) (Nat.le_trans (Nat.le_add_right _ _) hs4) rfl hl.1 rfl (Nat.le_of_ble_eq_true rfl) dL_law_1492 (fun H locs X => ?_)
  refine lv_pop C.1.1.1 C.1.1.2.1 dL_law_1495 rfl ?_
  refine lv_goto (tgt := 1499) C.1.1.1 C.1.1.2.1 dL_law_1496 (by decide) ?_
  exact W.widen (k := cs + 4) (n := sl + 24) (Nat.le_add_right _ _) (Nat.le_add_right _ _) (kk _ _ _ _ _ _ h6 X (lv_sub hl [0, 1, 2, 3, 4] rfl))
end LAW3
end

/-! part 22.askel -/
section
noncomputable def R_law : String := "GrottoHoursLaw"
def lw_P (b : Addr) (xs : List Int32) (args : Array Value) (s : State) : Prop := args = #[.ref b] ∧ s.IntsAt b xs ∧ xs.length ≤ 3072 ∧ (Jvm.Cond.and given_1 narrow_1).before args s = true
def lw_Q (_ : Array Value) (s : State) (o : Outcome) (t : State) : Prop := o = .returned (some (.int 1)) ∧ Framed s o t [] 601024 7293034
def lw_Z (below : List Frame) (a : Array Value) (s : State) : State → Prop := fun t => ∃ o, t.status = .running ∧ Ended t below o ∧ lw_Q a s o t
/-- the law's own end, with 1 on the stack, nothing written that was there before, its room as the claim has it -/
theorem lw_ret {p : Program} {l : Launch} {e : Env} {s : State} {m : MethodId} {below : List Frame} {meth : Method} {c : Code} {b : Nat} (hx : p.tables.exec = Jvm.exec) (hb : c.code = code) (hr : meth.sig.returnType = ret) (hlocks : meth.locks = false) {pc : Nat} {H : Heap} {ls : Array Slot} (hdg : decode code pc = .ok (.ireturn, 1)) : W p l e room_1 s m #[Value.ref b] below meth c H [] 601024 7293034 (lw_Z below #[Value.ref b] s) (F0 m pc ls [.int 1]) := by
  intro T hT X
  obtain ⟨fs, hret, hrun, hended, hW, hframe⟩ := X.leave (v := some (.int 1)) (hlocks := hlocks) (fun h => by rewrite [hr] at h; cases h)
  have hmeth' : T.vm.method? m = some meth := X.method'
  refine ⟨T.setFrames fs, ?_, .returned (some (.int 1)), hrun, hended, rfl, ⟨_, rfl⟩, hW, hframe⟩
  jvm_step X.here [X.here.top, hx, hb, hdg, hmeth', hr, ret, narrow_b1]
  (try refine ⟨rfl, ?_⟩); (try refine ⟨rfl, ?_⟩)
  first | (intro acts; rw [hret _ acts rfl rfl rfl]) | rw [hret _ _ rfl rfl rfl]
  exact Steps.refl _
/-- what holds at the law's entry: the machine, the code, the tables' words (any of lw_tbl by 'hts w (by decide +kernel)'), the script of L ints xs at the cell b, what the Statement gives of the start (any of its parts by flat_of_before) -/
def lw_At (p : Program) (s : State) (m : MethodId) (meth : Method) (c : Code) (b L : Nat) (xs : Nat → Int32) : Prop :=
  p.tables.exec = Jvm.exec ∧ c.code = code ∧ meth.sig.returnType = ret ∧ c.maxLocals = 7 ∧ s.vm.findClass R_law = some m.cls ∧ (∀ w ∈ lw_tbl, w.before #[Value.ref b] s = true) ∧ va_X b L xs s s.heap ∧ b < s.heap.size ∧ meth.locks = false ∧ (Jvm.Cond.and given_1 narrow_1).before #[Value.ref b] s = true
end

/-! part 22.bloop -/
section
/-! the law's loop (printed by wip/whole/mklawc.py) -/
theorem lb_bmod {z : Int} (h1 : -2147483648 ≤ z) (h2 : z < 2147483648) : z.bmod (2 ^ 32) = z := by
  rw [Int.bmod_def]
  omega
theorem L_le {j L : Nat} (hL : L ≤ 3072) (hj : 6 * j ≤ 4000) (h : ¬ nI L - 6 < nI (6 * j)) : 6 * j + 6 ≤ L := by
  rewrite [Int32.lt_iff_toInt_lt, Int32.toInt_sub, nI_toInt (by omega), nI_toInt (by omega)] at h
  have e : (6 : Int32).toInt = 6 := by decide
  rewrite [e, lb_bmod (by omega) (by omega)] at h
  omega
theorem L_Lin {j L : Nat} (hL : L ≤ 3072) (h : 6 * j + 6 ≤ L) : Lin (nI (6 * j)) L := by
  have e : ∀ k : Nat, k < 6 → vp_in (nI (6 * j) + nI k) L := fun k hk => by
    rw [nI_add]
    exact vp_in_nI (by omega) (by omega)
  refine ⟨vp_in_nI (by omega) (by omega), e 1 (by decide), e 2 (by decide), e 3 (by decide), e 4 (by decide), e 5 (by decide)⟩
section LAW4
variable {p : Program} {l : Launch} {e : Env} {s : State} {m : MethodId} {below : List Frame} {meth : Method} {c : Code} {Am Am2 : (Nat → Prop) → State → Heap → Prop} {D : va_G} {g g2 : Nat → Nat} {cI cB cZ cQ cS cJ : ClassId} {aK aV : Nat → Nat} {aO b L : Nat} {xs : Nat → Int32} {J : gS → gS → Prop}
theorem L_loop (C : LCx p l s m #[Value.ref b] meth c D g g2 cI cB cZ cQ cS cJ aK aV aO b L xs Am Am2) (hJL : Laws J) (hL : L ≤ 3072) : ∀ (n j : Nat), L ≤ 6 * j + 6 * n → 6 * j ≤ 4000 → ∀ (H : Heap) (locs : List Loc) (ls : Array Slot) (cs sl : Nat) (SX SM : gS) (f : Nat → Int64), J SX SM → LX D g g2 cI cB cZ cQ cS cJ aK aO b L xs SX SM f s H locs → lv_has ls 7 (Llv b (g 0) (g2 99) aO (nI (6 * j))) → cs + 4 * n ≤ 601024 → sl + 24 * n ≤ 7293034 →
    W p l e room_1 s m #[Value.ref b] below meth c H locs cs sl (lw_Z below #[Value.ref b] s) (F0 m 23 ls []) := by
  intro n
  induction n with
  | zero =>
    intro j h1 h2 H locs ls cs sl SX SM f hJ X hl hcs hsl
    have hs := C.2.2.2.2.1
    have hb9 : ¬ gA xord g s.heap.size b := by rw [hs.allX]; exact Nat.not_le.mpr hs.2.2.2
    have hl0 := hl
    unfold Llv at hl
    refine lv_iload C.1.1.1 C.1.1.2.1 dL_law_23 (lv_at hl 0 rfl) ?_
    refine lv_aload_n C.1.1.1 C.1.1.2.1 dL_law_25 rfl (lv_at hl 4 rfl) ?_
    refine va_slen (A := gA xord g s.heap.size) C.1.1.1 C.1.1.2.1 C.2.2.2.2.2.2.2 hs.2.2.2 hb9 X.1.2 dL_law_26 ?_
    refine lv_bipush (v := 6) C.1.1.1 C.1.1.2.1 dL_law_27 rfl ?_
    refine lv_isub C.1.1.1 C.1.1.2.1 dL_law_29 ?_
    refine lv_icmp_gt (tgt := 1505) C.1.1.1 C.1.1.2.1 dL_law_30 (by decide) (fun _ => ?_) (fun hz => ?_)
    · refine lv_iconst C.1.1.1 C.1.1.2.1 dL_law_1505 rfl ?_
      refine va_forget (fun q hq => ?_) (W.widen (k := 601024) (n := 7293034) (by omega) (by omega) (lw_ret C.1.1.1 C.1.1.2.1 C.1.2.2.1 C.1.2.2.2.1 dL_law_1506))
      have h9 := X.1.2.2.2 q hq
      rewrite [hs.allX] at h9
      exact h9
    · have h9 := L_le hL h2 hz
      omega
  | succ n ih =>
    intro j h1 h2 H locs ls cs sl SX SM f hJ X hl hcs hsl
    have hs := C.2.2.2.2.1
    have hb9 : ¬ gA xord g s.heap.size b := by rw [hs.allX]; exact Nat.not_le.mpr hs.2.2.2
    have hl0 := hl
    unfold Llv at hl
    refine lv_iload C.1.1.1 C.1.1.2.1 dL_law_23 (lv_at hl 0 rfl) ?_
    refine lv_aload_n C.1.1.1 C.1.1.2.1 dL_law_25 rfl (lv_at hl 4 rfl) ?_
    refine va_slen (A := gA xord g s.heap.size) C.1.1.1 C.1.1.2.1 C.2.2.2.2.2.2.2 hs.2.2.2 hb9 X.1.2 dL_law_26 ?_
    refine lv_bipush (v := 6) C.1.1.1 C.1.1.2.1 dL_law_27 rfl ?_
    refine lv_isub C.1.1.1 C.1.1.2.1 dL_law_29 ?_
    refine lv_icmp_gt (tgt := 1505) C.1.1.1 C.1.1.2.1 dL_law_30 (by decide) (fun _ => ?_) (fun hz => ?_)
    · refine lv_iconst C.1.1.1 C.1.1.2.1 dL_law_1505 rfl ?_
      refine va_forget (fun q hq => ?_) (W.widen (k := 601024) (n := 7293034) (by omega) (by omega) (lw_ret C.1.1.1 C.1.1.2.1 C.1.2.2.1 C.1.2.2.2.1 dL_law_1506))
      have h9 := X.1.2.2.2 q hq
      rewrite [hs.allX] at h9
      exact h9
    have h9 := L_le hL h2 hz
    have hi := L_Lin hL h9
    have kk : ∀ (H1 : Heap) (locs1 : List Loc) (ls1 : Array Slot) (SX1 SM1 : gS) (f1 : Nat → Int64), J SX1 SM1 → LX D g g2 cI cB cZ cQ cS cJ aK aO b L xs SX1 SM1 f1 s H1 locs1 → lv_has ls1 7 (Llv b (g 0) (g2 99) aO (nI (6 * j))) → W p l e room_1 s m #[Value.ref b] below meth c H1 locs1 (cs + 4) (sl + 24) (lw_Z below #[Value.ref b] s) (F0 m 1499 ls1 []) := by
      intro H1 locs1 ls1 SX1 SM1 f1 hJ1 X1 hl1
      unfold Llv at hl1
      refine lv_iinc (k := 0) (v := nI (6 * (j + 1))) C.1.1.1 C.1.1.2.1 dL_law_1499 hl1 rfl ?_ (by decide) rfl (fun ls2 hl2 => ?_)
      · show nI (6 * j) + nI 6 = nI (6 * (j + 1))
        rw [nI_add]
        rfl
      refine lv_goto (tgt := 23) C.1.1.1 C.1.1.2.1 dL_law_1502 (by decide) ?_
      exact ih (j + 1) (by omega) (by omega) H1 locs1 ls2 (cs + 4) (sl + 24) SX1 SM1 f1 hJ1 X1 hl2 (by omega) (by omega)
    refine lv_aload_n C.1.1.1 C.1.1.2.1 dL_law_33 rfl (lv_at hl 4 rfl) ?_
    refine lv_iload C.1.1.1 C.1.1.2.1 dL_law_34 (lv_at hl 0 rfl) ?_
    refine L_ld C X hi.1 dL_law_36 ?_
    refine lv_bipush (v := 63) C.1.1.1 C.1.1.2.1 dL_law_37 rfl ?_
    refine lv_iand C.1.1.1 C.1.1.2.1 dL_law_39 ?_
    have hc4 : cs + 4 ≤ 601024 := by omega
    have hs4 : sl + 24 ≤ 7293034 := by omega
    generalize hsw : (xs (Int32.toNatClampNeg (nI (6 * j))) &&& 63 : Int32) = sw
    by_cases hz_0 : sw = 0
    · refine lv_tableIn (off := 164) (tgt := 204) C.1.1.1 C.1.1.2.1 dL_law_40 (by rw [hz_0]; decide) (by rw [hz_0]; decide) (by rw [hz_0]; decide) (by decide) ?_
      exact LB_feed C hi X hJ hl0 hc4 hs4 hJL.1 kk
    by_cases hz_1 : sw = 1
    · refine lv_tableIn (off := 237) (tgt := 277) C.1.1.1 C.1.1.2.1 dL_law_40 (by rw [hz_1]; decide) (by rw [hz_1]; decide) (by rw [hz_1]; decide) (by decide) ?_
      exact LB_port C hi X hJ hl0 hc4 hs4 hJL.2.1 kk
    by_cases hz_2 : sw = 2
    · refine lv_tableIn (off := 293) (tgt := 333) C.1.1.1 C.1.1.2.1 dL_law_40 (by rw [hz_2]; decide) (by rw [hz_2]; decide) (by rw [hz_2]; decide) (by decide) ?_
      exact LB_fault C hi X hJ hl0 hc4 hs4 hJL.2.2.1 kk
    by_cases hz_3 : sw = 3
    · refine lv_tableIn (off := 306) (tgt := 346) C.1.1.1 C.1.1.2.1 dL_law_40 (by rw [hz_3]; decide) (by rw [hz_3]; decide) (by rw [hz_3]; decide) (by decide) ?_
      exact LB_count C hi X hJ hl0 hc4 hs4 hJL.2.2.2.1 kk
    by_cases hz_4 : sw = 4
    · refine lv_tableIn (off := 334) (tgt := 374) C.1.1.1 C.1.1.2.1 dL_law_40 (by rw [hz_4]; decide) (by rw [hz_4]; decide) (by rw [hz_4]; decide) (by decide) ?_
      exact LB_grotto C hi X hJ hl0 hc4 hs4 hJL.2.2.2.2.1 kk
    by_cases hz_5 : sw = 5
    · refine lv_tableIn (off := 374) (tgt := 414) C.1.1.1 C.1.1.2.1 dL_law_40 (by rw [hz_5]; decide) (by rw [hz_5]; decide) (by rw [hz_5]; decide) (by decide) ?_
      exact LB_guild C hi X hJ hl0 hc4 hs4 hJL.2.2.2.2.2.1 kk
    by_cases hz_6 : sw = 6
    · refine lv_tableIn (off := 414) (tgt := 454) C.1.1.1 C.1.1.2.1 dL_law_40 (by rw [hz_6]; decide) (by rw [hz_6]; decide) (by rw [hz_6]; decide) (by decide) ?_
      exact LB_hours C hi X hJ hl0 hc4 hs4 hJL.2.2.2.2.2.2.1 kk
    by_cases hz_7 : sw = 7
    · refine lv_tableIn (off := 439) (tgt := 479) C.1.1.1 C.1.1.2.1 dL_law_40 (by rw [hz_7]; decide) (by rw [hz_7]; decide) (by rw [hz_7]; decide) (by decide) ?_
      exact LB_hire C hi X hJ hl0 hc4 hs4 hJL.2.2.2.2.2.2.2.1 kk
    by_cases hz_8 : sw = 8
    · refine lv_tableIn (off := 479) (tgt := 519) C.1.1.1 C.1.1.2.1 dL_law_40 (by rw [hz_8]; decide) (by rw [hz_8]; decide) (by rw [hz_8]; decide) (by decide) ?_
      exact LB_dismiss C hi X hJ hl0 hc4 hs4 hJL.2.2.2.2.2.2.2.2.1 kk
    by_cases hz_9 : sw = 9
    · refine lv_tableIn (off := 507) (tgt := 547) C.1.1.1 C.1.1.2.1 dL_law_40 (by rw [hz_9]; decide) (by rw [hz_9]; decide) (by rw [hz_9]; decide) (by decide) ?_
      exact LB_confess C hi X hJ hl0 hc4 hs4 hJL.2.2.2.2.2.2.2.2.2.1 kk
    by_cases hz_10 : sw = 10
    · refine lv_tableIn (off := 535) (tgt := 575) C.1.1.1 C.1.1.2.1 dL_law_40 (by rw [hz_10]; decide) (by rw [hz_10]; decide) (by rw [hz_10]; decide) (by decide) ?_
      by_cases hz0 : xs (Int32.toNatClampNeg (nI (6 * j) + 2)) = 0
      · exact LB_drain0 C hi X hJ hl0 hc4 hs4 hz0 hJL.2.2.2.2.2.2.2.2.2.2.1 kk
      · exact LB_drain1 C hi X hJ hl0 hc4 hs4 hz0 hJL.2.2.2.2.2.2.2.2.2.2.1 kk
    by_cases hz_11 : sw = 11
    · refine lv_tableIn (off := 591) (tgt := 631) C.1.1.1 C.1.1.2.1 dL_law_40 (by rw [hz_11]; decide) (by rw [hz_11]; decide) (by rw [hz_11]; decide) (by decide) ?_
      exact LB_give C hi X hJ hl0 hc4 hs4 hJL.2.2.2.2.2.2.2.2.2.2.2.1 kk
    by_cases hz_12 : sw = 12
    · refine lv_tableIn (off := 631) (tgt := 671) C.1.1.1 C.1.1.2.1 dL_law_40 (by rw [hz_12]; decide) (by rw [hz_12]; decide) (by rw [hz_12]; decide) (by decide) ?_
      exact LB_undo C hi X hJ hl0 hc4 hs4 hJL.2.2.2.2.2.2.2.2.2.2.2.2.1 kk
    by_cases hz_13 : sw = 13
    · refine lv_tableIn (off := 644) (tgt := 684) C.1.1.1 C.1.1.2.1 dL_law_40 (by rw [hz_13]; decide) (by rw [hz_13]; decide) (by rw [hz_13]; decide) (by decide) ?_
      exact LB_then C hi X hJ hl0 hc4 hs4 hJL.2.2.2.2.2.2.2.2.2.2.2.2.2.1 kk
    by_cases hz_14 : sw = 14
    · refine lv_tableIn (off := 696) (tgt := 736) C.1.1.1 C.1.1.2.1 dL_law_40 (by rw [hz_14]; decide) (by rw [hz_14]; decide) (by rw [hz_14]; decide) (by decide) ?_
      exact LB_dripping C hi X hJ hl0 hc4 hs4 hJL.2.2.2.2.2.2.2.2.2.2.2.2.2.2.1 kk
    by_cases hz_15 : sw = 15
    · refine lv_tableIn (off := 724) (tgt := 764) C.1.1.1 C.1.1.2.1 dL_law_40 (by rw [hz_15]; decide) (by rw [hz_15]; decide) (by rw [hz_15]; decide) (by decide) ?_
      exact LB_first C hi X hJ hl0 hc4 hs4 hJL.2.2.2.2.2.2.2.2.2.2.2.2.2.2.2.1 kk
    by_cases hz_16 : sw = 16
    · refine lv_tableIn (off := 752) (tgt := 792) C.1.1.1 C.1.1.2.1 dL_law_40 (by rw [hz_16]; decide) (by rw [hz_16]; decide) (by rw [hz_16]; decide) (by decide) ?_
      exact LB_dismissed C hi X hJ hl0 hc4 hs4 hJL.2.2.2.2.2.2.2.2.2.2.2.2.2.2.2.2.1 kk
    by_cases hz_17 : sw = 17
    · refine lv_tableIn (off := 780) (tgt := 820) C.1.1.1 C.1.1.2.1 dL_law_40 (by rw [hz_17]; decide) (by rw [hz_17]; decide) (by rw [hz_17]; decide) (by decide) ?_
      exact LB_most C hi X hJ hl0 hc4 hs4 hJL.2.2.2.2.2.2.2.2.2.2.2.2.2.2.2.2.2.1 kk
    by_cases hz_18 : sw = 18
    · refine lv_tableIn (off := 820) (tgt := 860) C.1.1.1 C.1.1.2.1 dL_law_40 (by rw [hz_18]; decide) (by rw [hz_18]; decide) (by rw [hz_18]; decide) (by decide) ?_
      exact LB_hush C hi X hJ hl0 hc4 hs4 hJL.2.2.2.2.2.2.2.2.2.2.2.2.2.2.2.2.2.2.1 kk
    by_cases hz_19 : sw = 19
    · refine lv_tableIn (off := 848) (tgt := 888) C.1.1.1 C.1.1.2.1 dL_law_40 (by rw [hz_19]; decide) (by rw [hz_19]; decide) (by rw [hz_19]; decide) (by decide) ?_
      exact LB_chorus C hi X hJ hl0 hc4 hs4 hJL.2.2.2.2.2.2.2.2.2.2.2.2.2.2.2.2.2.2.2.1 kk
    by_cases hz_20 : sw = 20
    · refine lv_tableIn (off := 876) (tgt := 916) C.1.1.1 C.1.1.2.1 dL_law_40 (by rw [hz_20]; decide) (by rw [hz_20]; decide) (by rw [hz_20]; decide) (by decide) ?_
      exact LB_together C hi X hJ hl0 hc4 hs4 hJL.2.2.2.2.2.2.2.2.2.2.2.2.2.2.2.2.2.2.2.2.1 kk
    by_cases hz_21 : sw = 21
    · refine lv_tableIn (off := 904) (tgt := 944) C.1.1.1 C.1.1.2.1 dL_law_40 (by rw [hz_21]; decide) (by rw [hz_21]; decide) (by rw [hz_21]; decide) (by decide) ?_
      exact LB_rhythm C hi X hJ hl0 hc4 hs4 hJL.2.2.2.2.2.2.2.2.2.2.2.2.2.2.2.2.2.2.2.2.2.1 kk
    by_cases hz_22 : sw = 22
    · refine lv_tableIn (off := 932) (tgt := 972) C.1.1.1 C.1.1.2.1 dL_law_40 (by rw [hz_22]; decide) (by rw [hz_22]; decide) (by rw [hz_22]; decide) (by decide) ?_
      exact LB_often C hi X hJ hl0 hc4 hs4 hJL.2.2.2.2.2.2.2.2.2.2.2.2.2.2.2.2.2.2.2.2.2.2.1 kk
    by_cases hz_23 : sw = 23
    · refine lv_tableIn (off := 972) (tgt := 1012) C.1.1.1 C.1.1.2.1 dL_law_40 (by rw [hz_23]; decide) (by rw [hz_23]; decide) (by rw [hz_23]; decide) (by decide) ?_
      exact LB_toHire C hi X hJ hl0 hc4 hs4 hJL.2.2.2.2.2.2.2.2.2.2.2.2.2.2.2.2.2.2.2.2.2.2.2.1 kk
    by_cases hz_24 : sw = 24
    · refine lv_tableIn (off := 1024) (tgt := 1064) C.1.1.1 C.1.1.2.1 dL_law_40 (by rw [hz_24]; decide) (by rw [hz_24]; decide) (by rw [hz_24]; decide) (by decide) ?_
      exact LB_shared C hi X hJ hl0 hc4 hs4 hJL.2.2.2.2.2.2.2.2.2.2.2.2.2.2.2.2.2.2.2.2.2.2.2.2.1 kk
    by_cases hz_25 : sw = 25
    · refine lv_tableIn (off := 1052) (tgt := 1092) C.1.1.1 C.1.1.2.1 dL_law_40 (by rw [hz_25]; decide) (by rw [hz_25]; decide) (by rw [hz_25]; decide) (by decide) ?_
      exact LB_has C hi X hJ hl0 hc4 hs4 hJL.2.2.2.2.2.2.2.2.2.2.2.2.2.2.2.2.2.2.2.2.2.2.2.2.2.1 kk
    by_cases hz_26 : sw = 26
    · refine lv_tableIn (off := 1080) (tgt := 1120) C.1.1.1 C.1.1.2.1 dL_law_40 (by rw [hz_26]; decide) (by rw [hz_26]; decide) (by rw [hz_26]; decide) (by decide) ?_
      exact LB_toGive C hi X hJ hl0 hc4 hs4 hJL.2.2.2.2.2.2.2.2.2.2.2.2.2.2.2.2.2.2.2.2.2.2.2.2.2.2.1 kk
    by_cases hz_27 : sw = 27
    · refine lv_tableIn (off := 1120) (tgt := 1160) C.1.1.1 C.1.1.2.1 dL_law_40 (by rw [hz_27]; decide) (by rw [hz_27]; decide) (by rw [hz_27]; decide) (by decide) ?_
      exact LB_confessing C hi X hJ hl0 hc4 hs4 hJL.2.2.2.2.2.2.2.2.2.2.2.2.2.2.2.2.2.2.2.2.2.2.2.2.2.2.2.1 kk
    by_cases hz_28 : sw = 28
    · refine lv_tableIn (off := 1160) (tgt := 1200) C.1.1.1 C.1.1.2.1 dL_law_40 (by rw [hz_28]; decide) (by rw [hz_28]; decide) (by rw [hz_28]; decide) (by decide) ?_
      exact LB_see C hi X hJ hl0 hc4 hs4 hJL.2.2.2.2.2.2.2.2.2.2.2.2.2.2.2.2.2.2.2.2.2.2.2.2.2.2.2.2.1 kk
    by_cases hz_29 : sw = 29
    · refine lv_tableIn (off := 1212) (tgt := 1252) C.1.1.1 C.1.1.2.1 dL_law_40 (by rw [hz_29]; decide) (by rw [hz_29]; decide) (by rw [hz_29]; decide) (by decide) ?_
      exact LB_greedy C hi X hJ hl0 hc4 hs4 hJL.2.2.2.2.2.2.2.2.2.2.2.2.2.2.2.2.2.2.2.2.2.2.2.2.2.2.2.2.2.1 kk
    by_cases hz_30 : sw = 30
    · refine lv_tableIn (off := 1240) (tgt := 1280) C.1.1.1 C.1.1.2.1 dL_law_40 (by rw [hz_30]; decide) (by rw [hz_30]; decide) (by rw [hz_30]; decide) (by decide) ?_
      exact LB_look C hi X hJ hl0 hc4 hs4 hJL.2.2.2.2.2.2.2.2.2.2.2.2.2.2.2.2.2.2.2.2.2.2.2.2.2.2.2.2.2.2.1 kk
    by_cases hz_31 : sw = 31
    · refine lv_tableIn (off := 1268) (tgt := 1308) C.1.1.1 C.1.1.2.1 dL_law_40 (by rw [hz_31]; decide) (by rw [hz_31]; decide) (by rw [hz_31]; decide) (by decide) ?_
      exact LB_forget C hi X hJ hl0 hc4 hs4 hJL.2.2.2.2.2.2.2.2.2.2.2.2.2.2.2.2.2.2.2.2.2.2.2.2.2.2.2.2.2.2.2.1 kk
    by_cases hz_32 : sw = 32
    · refine lv_tableIn (off := 1279) (tgt := 1319) C.1.1.1 C.1.1.2.1 dL_law_40 (by rw [hz_32]; decide) (by rw [hz_32]; decide) (by rw [hz_32]; decide) (by decide) ?_
      exact LB_drought C hi X hJ hl0 hc4 hs4 hJL.2.2.2.2.2.2.2.2.2.2.2.2.2.2.2.2.2.2.2.2.2.2.2.2.2.2.2.2.2.2.2.2.1 kk
    by_cases hz_33 : sw = 33
    · refine lv_tableIn (off := 1331) (tgt := 1371) C.1.1.1 C.1.1.2.1 dL_law_40 (by rw [hz_33]; decide) (by rw [hz_33]; decide) (by rw [hz_33]; decide) (by decide) ?_
      exact LB_game C hi X hJ hl0 hc4 hs4 hJL.2.2.2.2.2.2.2.2.2.2.2.2.2.2.2.2.2.2.2.2.2.2.2.2.2.2.2.2.2.2.2.2.2.1 kk
    by_cases hz_34 : sw = 34
    · refine lv_tableIn (off := 1383) (tgt := 1423) C.1.1.1 C.1.1.2.1 dL_law_40 (by rw [hz_34]; decide) (by rw [hz_34]; decide) (by rw [hz_34]; decide) (by decide) ?_
      exact LB_years C hi X hJ hl0 hc4 hs4 hJL.2.2.2.2.2.2.2.2.2.2.2.2.2.2.2.2.2.2.2.2.2.2.2.2.2.2.2.2.2.2.2.2.2.2.1 kk
    by_cases hz_35 : sw = 35
    · refine lv_tableIn (off := 1435) (tgt := 1475) C.1.1.1 C.1.1.2.1 dL_law_40 (by rw [hz_35]; decide) (by rw [hz_35]; decide) (by rw [hz_35]; decide) (by decide) ?_
      exact LB_image C hi X hJ hl0 hc4 hs4 hJL.2.2.2.2.2.2.2.2.2.2.2.2.2.2.2.2.2.2.2.2.2.2.2.2.2.2.2.2.2.2.2.2.2.2.2.1 kk
    by_cases hz_36 : sw = 36
    · refine lv_tableIn (off := 1446) (tgt := 1486) C.1.1.1 C.1.1.2.1 dL_law_40 (by rw [hz_36]; decide) (by rw [hz_36]; decide) (by rw [hz_36]; decide) (by decide) ?_
      exact LB_restore C hi X hJ hl0 hc4 hs4 hJL.2.2.2.2.2.2.2.2.2.2.2.2.2.2.2.2.2.2.2.2.2.2.2.2.2.2.2.2.2.2.2.2.2.2.2.2 kk
    refine lv_tableOut (tgt := 1499) C.1.1.1 C.1.1.2.1 dL_law_40 (g_tsw 0 36 sw (fun i9 h0 h1 => ?_)) (by decide) ?_
    · have h3 : i9 = 0 ∨ i9 = 1 ∨ i9 = 2 ∨ i9 = 3 ∨ i9 = 4 ∨ i9 = 5 ∨ i9 = 6 ∨ i9 = 7 ∨ i9 = 8 ∨ i9 = 9 ∨ i9 = 10 ∨ i9 = 11 ∨ i9 = 12 ∨ i9 = 13 ∨ i9 = 14 ∨ i9 = 15 ∨ i9 = 16 ∨ i9 = 17 ∨ i9 = 18 ∨ i9 = 19 ∨ i9 = 20 ∨ i9 = 21 ∨ i9 = 22 ∨ i9 = 23 ∨ i9 = 24 ∨ i9 = 25 ∨ i9 = 26 ∨ i9 = 27 ∨ i9 = 28 ∨ i9 = 29 ∨ i9 = 30 ∨ i9 = 31 ∨ i9 = 32 ∨ i9 = 33 ∨ i9 = 34 ∨ i9 = 35 ∨ i9 = 36 := by omega
      rcases h3 with rfl | rfl | rfl | rfl | rfl | rfl | rfl | rfl | rfl | rfl | rfl | rfl | rfl | rfl | rfl | rfl | rfl | rfl | rfl | rfl | rfl | rfl | rfl | rfl | rfl | rfl | rfl | rfl | rfl | rfl | rfl | rfl | rfl | rfl | rfl | rfl | rfl
      · exact hz_0
      · exact hz_1
      · exact hz_2
      · exact hz_3
      · exact hz_4
      · exact hz_5
      · exact hz_6
      · exact hz_7
      · exact hz_8
      · exact hz_9
      · exact hz_10
      · exact hz_11
      · exact hz_12
      · exact hz_13
      · exact hz_14
      · exact hz_15
      · exact hz_16
      · exact hz_17
      · exact hz_18
      · exact hz_19
      · exact hz_20
      · exact hz_21
      · exact hz_22
      · exact hz_23
      · exact hz_24
      · exact hz_25
      · exact hz_26
      · exact hz_27
      · exact hz_28
      · exact hz_29
      · exact hz_30
      · exact hz_31
      · exact hz_32
      · exact hz_33
      · exact hz_34
      · exact hz_35
      · exact hz_36
    exact W.widen (k := cs + 4) (n := sl + 24) (Nat.le_add_right _ _) (Nat.le_add_right _ _) (kk _ _ _ _ _ _ hJ X hl0)
end LAW4
end

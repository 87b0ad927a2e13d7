set_option maxHeartbeats 4000000 in
set_option maxRecDepth 100000 in
theorem kc_3_1 (l : Launch) (D : va_G) (cI cB cZ cQ : ClassId) (h0 : Nat) : cM l yX3_init cX3_init 1 3 18 2256 D (xtys cI cB cZ cQ) [.ref h0] [(h0, .inr (3, [.null, .null, .int 0, .int 0]))] 1 h0 (fun u => xb cI cB cZ cQ u 1 19) := by
  intro sz
  refine Met.ofW (cc := cX3_init) (maxL := 1) (ret := none) (by decide) rfl ?_
  intro p e s m args below meth c s₁ B hml hv
  obtain ⟨rfl, hsz, hP, hK, hD0, hN, hAO⟩ := hv
  have hx := B.exec
  have hb := B.bytes
  have hr := B.returns
  have hts : ∀ w ∈ gT, w.before _ s = true := fun w h => atoms_spec (ws := Cond.code yX3_init cX3_init 1 none :: gT) B.pre w (List.mem_cons_of_mem _ h)
  have hown : s.vm.findClass RX3 = some m.cls := findClass_of_methodNamed B.named
  have hlocks := B.notSynchronized
  have hin : meth.name = "<init>" := (name_of_methodNamed B.named B.method).1
  subst hsz
  have hD := hD0.self (sz := s.heap.size)
  generalize hAe : va_A [(h0, .inr (3, [.null, .null, .int 0, .int 0]))] s.heap.size = A at hD ⊢
  have hA : ∀ q : Nat, s.heap.size ≤ q → A q := fun q h => by rw [← hAe]; exact Or.inr h
  have hS : va_S A s.heap s.heap [] := va_S.rf
  have hl := lv_entry ([.ref h0]) (n := 1) (Nat.le_of_ble_eq_true rfl)
  rw [lg_entry_eq]
  generalize (lg_sl ([.ref h0]) ++ List.replicate (1 - (lg_sl ([.ref h0])).length) Slot.unset).toArray = ls at hl ⊢
  have hl : lv_has ls 1 [(0, .ref h0)] := hl
  obtain ⟨B0, hB0⟩ : ∃ z : va_W, z = [] := ⟨_, rfl⟩
  have hP : va_P D vwCl ([(h0, .inr (3, [.null, .null, .int 0, .int 0]))] ++ B0) s.heap := by rw [hB0]; exact hP
  have hD : va_D A ([(h0, .inr (3, [.null, .null, .int 0, .int 0]))] ++ B0) := by rw [hB0]; exact hD
  refine lv_aload_n hx hb dX3_init_0 rfl (lv_at hl 0 rfl) ?_
  refine W.objInit hx hb hown (hts _ c_oi3) (hts _ c_ob.1) (hts _ c_ob.2) rfl (by rw [hml]; exact hl.1) rfl dX3_init_1 (Nat.le_of_ble_eq_true rfl) (Nat.le_of_ble_eq_true rfl) ?_
  refine W.eq (g2 := F0 m 4 ls []) rfl ?_
  refine lv_aload_n hx hb dX3_init_4 rfl (lv_at hl 0 rfl) ?_
  refine va_new (ci := 8) (fs := [.null, .int 0, .int 0, .int 0, .int 0, .int 0, .int 0]) (C := RX8) (T := TX8) (N := 7) hx hb hts x_in8 tyX8 tyX8_ok hown (hts _ c_cl3_9) (hts _ c_is8.1) (hts _ c_is8.2) hK hP hD hS hA rfl c_df8 (Nat.le_of_ble_eq_true rfl) (Nat.le_of_ble_eq_true rfl) dX3_init_5 (fun q1 H hP hD hS => ?_)
  refine W.widen (k := 1) (n := 7) (Nat.le_of_ble_eq_true rfl) (Nat.le_of_ble_eq_true rfl) ?_
  refine lv_dup hx hb dX3_init_8 rfl ?_
  have hPc : va_P D vwCl [(q1, .inr (8, [.null, .int 0, .int 0, .int 0, .int 0, .int 0, .int 0]))] H := c_right hP
  have hDc : va_D A [(q1, .inr (8, [.null, .int 0, .int 0, .int 0, .int 0, .int 0, .int 0]))] := c_rightD hD
  have hFc := c_free (wc := [(q1, .inr (8, [.null, .int 0, .int 0, .int 0, .int 0, .int 0, .int 0]))]) hD hS hA
  refine va_callv (va_runIN (As := []) (rest := [.ref q1, .ref h0]) ⟨hx, hb, hml, hown, hts⟩ (kc_8_2 l D cI cB cZ cQ q1 H.size) ⟨va_cnB (host := "GrottoHours") 0 hts (gT_in (fun w h => (List.mem_cons.mp h).elim (fun e => e ▸ c_cw8.1) id)) rfl rfl rfl (hN _ (List.mem_of_getElem? (i := 1) rfl)) (hts _ c_is8.2) c_cw8.2.2 ⟨(Nat.le_of_ble_eq_true rfl), (Nat.le_of_ble_eq_true rfl)⟩, rfl, hts _ c_cw8.2.1⟩ ⟨fun a U g mk q => by obtain ⟨q0, q1, qP, qK, qD, qN, qO⟩ := q; exact ⟨q0, q1, qP, va_K.moved (u := U) (U := U.calling g mk a) (Vm.Alike.refl U.vm) qK, qD, xNest_warm (State.WarmedH.refl U) qN, aoa_moved (u := U) (U := U.calling g mk a) (Vm.Alike.refl U.vm) qO⟩, fun U hU hW => ⟨rfl, by rw [hU], by rw [hU]; exact hPc, va_K.moved hW.alike hK, hDc.weaken (fun _ _ _ _ => trivial), xNest_warm hW hN, aoa_moved hW.alike hAO⟩⟩ rfl rfl hl.1 rfl (lv_room (Nat.le_of_ble_eq_true rfl)) dX3_init_9 ⟨(Nat.le_of_ble_eq_true rfl), (Nat.le_of_ble_eq_true rfl)⟩) hS (fun q _ h => hFc q h) hFc (fun u1 t H1 locs ht hvm hw hB hz1 hk1 hS => ?_)
  obtain ⟨hu1, hP1, hK1, hD1⟩ := hB
  rewrite [ht] at hP1
  obtain ⟨hP, hD⟩ := c_join (wr := [(h0, .inr (3, [.null, .null, .int 0, .int 0]))] ++ B0) (w1 := xb cI cB cZ cQ u1 2 2) hP hD hk1 hFc hP1 hD1
  generalize H1 = H at hP hS ⊢
  have hP : va_P D vwCl ([(h0, .inr (3, [.null, .null, .int 0, .int 0]))] ++ (B0 ++ xb cI cB cZ cQ u1 2 2)) H := by rw [← List.append_assoc]; exact hP
  have hD : va_D A ([(h0, .inr (3, [.null, .null, .int 0, .int 0]))] ++ (B0 ++ xb cI cB cZ cQ u1 2 2)) := by rw [← List.append_assoc]; exact hD
  obtain ⟨B1, hB1⟩ : ∃ z : va_W, z = B0 ++ xb cI cB cZ cQ u1 2 2 := ⟨_, rfl⟩
  rewrite [← hB1] at hP hD
  have hz1 : Value.ref q1 = .ref (u1 2) := by rw [hu1]
  refine W.widen (k := 2) (n := 707) (Nat.le_of_ble_eq_true rfl) (Nat.le_of_ble_eq_true rfl) ?_
  rw [hz1]
  refine va_putF (D := D) (ci := 3) (v := .ref (u1 2)) (ty := tyX3 0) (C := RX3) (T := TX3) (N := 4) hx hb hts x_in3 tyX3 tyX3_ok nmX3 hown hK hP hD hS 0 rfl rfl 0 (by decide) (hts _ xl_X3_12) (fun _ h9 => h9) rfl hin rfl (tyX3_ok 0 (by decide)) rfl rfl (Nat.le_of_ble_eq_true rfl) dX3_init_12 (fun H locs hP hD hS => ?_)
  have hP : va_P D vwCl ([(h0, .inr (3, [.ref (u1 2), .null, .int 0, .int 0]))] ++ B1) H := hP
  have hD : va_D A ([(h0, .inr (3, [.ref (u1 2), .null, .int 0, .int 0]))] ++ B1) := hD
  refine lv_aload_n hx hb dX3_init_15 rfl (lv_at hl 0 rfl) ?_
  refine va_new (ci := 9) (fs := [.int 0, .null, .null, .null, .null, .int 0, .null, .null, .null, .null, .int 0, .null, .int 0, .null, .null]) (C := RX9) (T := TX9) (N := 15) hx hb hts x_in9 tyX9 tyX9_ok hown (hts _ c_cl3_18) (hts _ c_is9.1) (hts _ c_is9.2) hK hP hD hS hA rfl c_df9 (Nat.le_of_ble_eq_true rfl) (Nat.le_of_ble_eq_true rfl) dX3_init_16 (fun q2 H hP hD hS => ?_)
  refine W.widen (k := 3) (n := 722) (Nat.le_of_ble_eq_true rfl) (Nat.le_of_ble_eq_true rfl) ?_
  refine lv_dup hx hb dX3_init_19 rfl ?_
  have hPc : va_P D vwCl [(q2, .inr (9, [.int 0, .null, .null, .null, .null, .int 0, .null, .null, .null, .null, .int 0, .null, .int 0, .null, .null]))] H := c_right hP
  have hDc : va_D A [(q2, .inr (9, [.int 0, .null, .null, .null, .null, .int 0, .null, .null, .null, .null, .int 0, .null, .int 0, .null, .null]))] := c_rightD hD
  have hFc := c_free (wc := [(q2, .inr (9, [.int 0, .null, .null, .null, .null, .int 0, .null, .null, .null, .null, .int 0, .null, .int 0, .null, .null]))]) hD hS hA
  refine va_callv (va_runIN (As := []) (rest := [.ref q2, .ref h0]) ⟨hx, hb, hml, hown, hts⟩ (kc_9_4 l D cI cB cZ cQ q2 H.size) ⟨va_cnB (host := "GrottoHours") 0 hts (gT_in (fun w h => (List.mem_cons.mp h).elim (fun e => e ▸ c_cw9.1) id)) rfl rfl rfl (hN _ (List.mem_of_getElem? (i := 6) rfl)) (hts _ c_is9.2) c_cw9.2.2 ⟨(Nat.le_of_ble_eq_true rfl), (Nat.le_of_ble_eq_true rfl)⟩, rfl, hts _ c_cw9.2.1⟩ ⟨fun a U g mk q => by obtain ⟨q0, q1, qP, qK, qD, qN, qO⟩ := q; exact ⟨q0, q1, qP, va_K.moved (u := U) (U := U.calling g mk a) (Vm.Alike.refl U.vm) qK, qD, xNest_warm (State.WarmedH.refl U) qN, aoa_moved (u := U) (U := U.calling g mk a) (Vm.Alike.refl U.vm) qO⟩, fun U hU hW => ⟨rfl, by rw [hU], by rw [hU]; exact hPc, va_K.moved hW.alike hK, hDc.weaken (fun _ _ _ _ => trivial), xNest_warm hW hN, aoa_moved hW.alike hAO⟩⟩ rfl rfl hl.1 rfl (lv_room (Nat.le_of_ble_eq_true rfl)) dX3_init_20 ⟨(Nat.le_of_ble_eq_true rfl), (Nat.le_of_ble_eq_true rfl)⟩) hS (fun q _ h => hFc q h) hFc (fun u2 t H1 locs ht hvm hw hB hz1 hk1 hS => ?_)
  obtain ⟨hu2, hP1, hK1, hD1⟩ := hB
  rewrite [ht] at hP1
  obtain ⟨hP, hD⟩ := c_join (wr := [(h0, .inr (3, [.ref (u1 2), .null, .int 0, .int 0]))] ++ B1) (w1 := xb cI cB cZ cQ u2 4 16) hP hD hk1 hFc hP1 hD1
  generalize H1 = H at hP hS ⊢
  have hP : va_P D vwCl ([(h0, .inr (3, [.ref (u1 2), .null, .int 0, .int 0]))] ++ (B1 ++ xb cI cB cZ cQ u2 4 16)) H := by rw [← List.append_assoc]; exact hP
  have hD : va_D A ([(h0, .inr (3, [.ref (u1 2), .null, .int 0, .int 0]))] ++ (B1 ++ xb cI cB cZ cQ u2 4 16)) := by rw [← List.append_assoc]; exact hD
  obtain ⟨B2, hB2⟩ : ∃ z : va_W, z = B1 ++ xb cI cB cZ cQ u2 4 16 := ⟨_, rfl⟩
  rewrite [← hB2] at hP hD
  have hz2 : Value.ref q2 = .ref (u2 4) := by rw [hu2]
  refine W.widen (k := 18) (n := 2256) (Nat.le_of_ble_eq_true rfl) (Nat.le_of_ble_eq_true rfl) ?_
  rw [hz2]
  refine va_put (D := D) (ci := 3) (v := .ref (u2 4)) (ty := tyX3 1) (C := RX3) (T := TX3) (N := 4) hx hb hts x_in3 tyX3 tyX3_ok nmX3 hown hK hP hD hS 0 rfl rfl 1 (by decide) (hts _ xl_X3_21) (fun _ h9 => h9) rfl (tyX3_ok 1 (by decide)) rfl rfl (Nat.le_of_ble_eq_true rfl) dX3_init_23 (fun H locs hP hD hS => ?_)
  have hP : va_P D vwCl ([(h0, .inr (3, [.ref (u1 2), .ref (u2 4), .int 0, .int 0]))] ++ B2) H := hP
  have hD : va_D A ([(h0, .inr (3, [.ref (u1 2), .ref (u2 4), .int 0, .int 0]))] ++ B2) := hD
  refine lv_aload_n hx hb dX3_init_26 rfl (lv_at hl 0 rfl) ?_
  refine lv_iconst (v := 0) hx hb dX3_init_27 (by decide) ?_
  refine va_put (D := D) (ci := 3) (v := .int 0) (ty := tyX3 2) (C := RX3) (T := TX3) (N := 4) hx hb hts x_in3 tyX3 tyX3_ok nmX3 hown hK hP hD hS 0 rfl rfl 2 (by decide) (hts _ xl_X3_25) (fun _ h9 => h9) rfl (tyX3_ok 2 (by decide)) rfl rfl (Nat.le_of_ble_eq_true rfl) dX3_init_28 (fun H locs hP hD hS => ?_)
  have hP : va_P D vwCl ([(h0, .inr (3, [.ref (u1 2), .ref (u2 4), .int 0, .int 0]))] ++ B2) H := hP
  have hD : va_D A ([(h0, .inr (3, [.ref (u1 2), .ref (u2 4), .int 0, .int 0]))] ++ B2) := hD
  refine lv_aload_n hx hb dX3_init_31 rfl (lv_at hl 0 rfl) ?_
  refine lv_iconst (v := (-1)) hx hb dX3_init_32 (by decide) ?_
  refine va_put (D := D) (ci := 3) (v := .int (-1)) (ty := tyX3 3) (C := RX3) (T := TX3) (N := 4) hx hb hts x_in3 tyX3 tyX3_ok nmX3 hown hK hP hD hS 0 rfl rfl 3 (by decide) (hts _ xl_X3_29) (fun _ h9 => h9) rfl (tyX3_ok 3 (by decide)) rfl rfl (Nat.le_of_ble_eq_true rfl) dX3_init_33 (fun H locs hP hD hS => ?_)
  have hP : va_P D vwCl ([(h0, .inr (3, [.ref (u1 2), .ref (u2 4), .int 0, .int (-1)]))] ++ B2) H := hP
  have hD : va_D A ([(h0, .inr (3, [.ref (u1 2), .ref (u2 4), .int 0, .int (-1)]))] ++ B2) := hD
  rewrite [hB2, hB1, hB0] at hP hD
  have hP9 : va_P D vwCl (xb cI cB cZ cQ (xj (xj (fun _ => h0) 2 u1) 4 u2) 1 19) H := hP
  have hD9 : va_D A (xb cI cB cZ cQ (xj (xj (fun _ => h0) 2 u1) 4 u2) 1 19) := hD
  exact W.vret hx hb hr (fun t ht hW => ⟨⟨(xj (xj (fun _ => h0) 2 u1) 4 u2), rfl, trivial, rfl, by rw [ht]; exact hP9, va_K.moved hW.alike hK, hD9⟩, hS.F ht⟩) hS.2.2 dX3_init_36 hlocks
set_option maxHeartbeats 4000000 in
set_option maxRecDepth 100000 in
theorem kc_11_0 (l : Launch) (D : va_G) (cI cB cZ cQ : ClassId) (h0 : Nat) : cM l yX11_init cX11_init 1 4 87 8050 D (xtys cI cB cZ cQ) [.ref h0] [(h0, .inr (11, [.null, .null, .null, .null, .null, .null, .null, .null, .int 0, .int 0]))] 0 h0 (fun u => xb cI cB cZ cQ u 0 88) := by
  intro sz
  refine Met.ofW (cc := cX11_init) (maxL := 1) (ret := none) (by decide) rfl ?_
  intro p e s m args below meth c s₁ B hml hv
  obtain ⟨rfl, hsz, hP, hK, hD0, hN, hAO⟩ := hv
  have hx := B.exec
  have hb := B.bytes
  have hr := B.returns
  have hts : ∀ w ∈ gT, w.before _ s = true := fun w h => atoms_spec (ws := Cond.code yX11_init cX11_init 1 none :: gT) B.pre w (List.mem_cons_of_mem _ h)
  have hown : s.vm.findClass RX11 = some m.cls := findClass_of_methodNamed B.named
  have hlocks := B.notSynchronized
  have hin : meth.name = "<init>" := (name_of_methodNamed B.named B.method).1
  subst hsz
  have hD := hD0.self (sz := s.heap.size)
  generalize hAe : va_A [(h0, .inr (11, [.null, .null, .null, .null, .null, .null, .null, .null, .int 0, .int 0]))] s.heap.size = A at hD ⊢
  have hA : ∀ q : Nat, s.heap.size ≤ q → A q := fun q h => by rw [← hAe]; exact Or.inr h
  have hS : va_S A s.heap s.heap [] := va_S.rf
  have hl := lv_entry ([.ref h0]) (n := 1) (Nat.le_of_ble_eq_true rfl)
  rw [lg_entry_eq]
  generalize (lg_sl ([.ref h0]) ++ List.replicate (1 - (lg_sl ([.ref h0])).length) Slot.unset).toArray = ls at hl ⊢
  have hl : lv_has ls 1 [(0, .ref h0)] := hl
  obtain ⟨B0, hB0⟩ : ∃ z : va_W, z = [] := ⟨_, rfl⟩
  have hP : va_P D vwCl ([(h0, .inr (11, [.null, .null, .null, .null, .null, .null, .null, .null, .int 0, .int 0]))] ++ B0) s.heap := by rw [hB0]; exact hP
  have hD : va_D A ([(h0, .inr (11, [.null, .null, .null, .null, .null, .null, .null, .null, .int 0, .int 0]))] ++ B0) := by rw [hB0]; exact hD
  refine lv_aload_n hx hb dX11_init_0 rfl (lv_at hl 0 rfl) ?_
  refine W.objInit hx hb hown (hts _ c_oi11) (hts _ c_ob.1) (hts _ c_ob.2) rfl (by rw [hml]; exact hl.1) rfl dX11_init_1 (Nat.le_of_ble_eq_true rfl) (Nat.le_of_ble_eq_true rfl) ?_
  refine W.eq (g2 := F0 m 4 ls []) rfl ?_
  refine lv_aload_n hx hb dX11_init_4 rfl (lv_at hl 0 rfl) ?_
  refine va_new (ci := 3) (fs := [.null, .null, .int 0, .int 0]) (C := RX3) (T := TX3) (N := 4) hx hb hts x_in3 tyX3 tyX3_ok hown (hts _ c_cl11_9) (hts _ c_is3.1) (hts _ c_is3.2) hK hP hD hS hA rfl c_df3 (Nat.le_of_ble_eq_true rfl) (Nat.le_of_ble_eq_true rfl) dX11_init_5 (fun q1 H hP hD hS => ?_)
  refine W.widen (k := 1) (n := 4) (Nat.le_of_ble_eq_true rfl) (Nat.le_of_ble_eq_true rfl) ?_
  refine lv_dup hx hb dX11_init_8 rfl ?_
  have hPc : va_P D vwCl [(q1, .inr (3, [.null, .null, .int 0, .int 0]))] H := c_right hP
  have hDc : va_D A [(q1, .inr (3, [.null, .null, .int 0, .int 0]))] := c_rightD hD
  have hFc := c_free (wc := [(q1, .inr (3, [.null, .null, .int 0, .int 0]))]) hD hS hA
  refine va_callv (va_runIN (As := []) (rest := [.ref q1, .ref h0]) ⟨hx, hb, hml, hown, hts⟩ (kc_3_1 l D cI cB cZ cQ q1 H.size) ⟨va_cnB (host := "GrottoHours") 0 hts (gT_in (fun w h => (List.mem_cons.mp h).elim (fun e => e ▸ c_cw3.1) id)) rfl rfl rfl (hN _ (List.mem_of_getElem? (i := 0) rfl)) (hts _ c_is3.2) c_cw3.2.2 ⟨(Nat.le_of_ble_eq_true rfl), (Nat.le_of_ble_eq_true rfl)⟩, rfl, hts _ c_cw3.2.1⟩ ⟨fun a U g mk q => by obtain ⟨q0, q1, qP, qK, qD, qN, qO⟩ := q; exact ⟨q0, q1, qP, va_K.moved (u := U) (U := U.calling g mk a) (Vm.Alike.refl U.vm) qK, qD, xNest_warm (State.WarmedH.refl U) qN, aoa_moved (u := U) (U := U.calling g mk a) (Vm.Alike.refl U.vm) qO⟩, fun U hU hW => ⟨rfl, by rw [hU], by rw [hU]; exact hPc, va_K.moved hW.alike hK, hDc.weaken (fun _ _ _ _ => trivial), xNest_warm hW hN, aoa_moved hW.alike hAO⟩⟩ rfl rfl hl.1 rfl (lv_room (Nat.le_of_ble_eq_true rfl)) dX11_init_9 ⟨(Nat.le_of_ble_eq_true rfl), (Nat.le_of_ble_eq_true rfl)⟩) hS (fun q _ h => hFc q h) hFc (fun u1 t H1 locs ht hvm hw hB hz1 hk1 hS => ?_)
  obtain ⟨hu1, hP1, hK1, hD1⟩ := hB
  rewrite [ht] at hP1
  obtain ⟨hP, hD⟩ := c_join (wr := [(h0, .inr (11, [.null, .null, .null, .null, .null, .null, .null, .null, .int 0, .int 0]))] ++ B0) (w1 := xb cI cB cZ cQ u1 1 19) hP hD hk1 hFc hP1 hD1
  generalize H1 = H at hP hS ⊢
  have hP : va_P D vwCl ([(h0, .inr (11, [.null, .null, .null, .null, .null, .null, .null, .null, .int 0, .int 0]))] ++ (B0 ++ xb cI cB cZ cQ u1 1 19)) H := by rw [← List.append_assoc]; exact hP
  have hD : va_D A ([(h0, .inr (11, [.null, .null, .null, .null, .null, .null, .null, .null, .int 0, .int 0]))] ++ (B0 ++ xb cI cB cZ cQ u1 1 19)) := by rw [← List.append_assoc]; exact hD
  obtain ⟨B1, hB1⟩ : ∃ z : va_W, z = B0 ++ xb cI cB cZ cQ u1 1 19 := ⟨_, rfl⟩
  rewrite [← hB1] at hP hD
  have hz1 : Value.ref q1 = .ref (u1 1) := by rw [hu1]
  refine W.widen (k := 19) (n := 2260) (Nat.le_of_ble_eq_true rfl) (Nat.le_of_ble_eq_true rfl) ?_
  rw [hz1]
  refine va_putF (D := D) (ci := 11) (v := .ref (u1 1)) (ty := tyX11 0) (C := RX11) (T := TX11) (N := 10) hx hb hts x_in11 tyX11 tyX11_ok nmX11 hown hK hP hD hS 0 rfl rfl 0 (by decide) (hts _ xl_X11_12) (fun _ h9 => h9) rfl hin rfl (tyX11_ok 0 (by decide)) rfl rfl (Nat.le_of_ble_eq_true rfl) dX11_init_12 (fun H locs hP hD hS => ?_)
  have hP : va_P D vwCl ([(h0, .inr (11, [.ref (u1 1), .null, .null, .null, .null, .null, .null, .null, .int 0, .int 0]))] ++ B1) H := hP
  have hD : va_D A ([(h0, .inr (11, [.ref (u1 1), .null, .null, .null, .null, .null, .null, .null, .int 0, .int 0]))] ++ B1) := hD
  refine lv_aload_n hx hb dX11_init_15 rfl (lv_at hl 0 rfl) ?_
  refine va_new (ci := 1) (fs := [.null, .null, .null, .null]) (C := RX1) (T := TX1) (N := 4) hx hb hts x_in1 tyX1 tyX1_ok hown (hts _ c_cl11_16) (hts _ c_is1.1) (hts _ c_is1.2) hK hP hD hS hA rfl c_df1 (Nat.le_of_ble_eq_true rfl) (Nat.le_of_ble_eq_true rfl) dX11_init_16 (fun q2 H hP hD hS => ?_)
  refine W.widen (k := 20) (n := 2264) (Nat.le_of_ble_eq_true rfl) (Nat.le_of_ble_eq_true rfl) ?_
  refine lv_dup hx hb dX11_init_19 rfl ?_
  have hPc : va_P D vwCl [(q2, .inr (1, [.null, .null, .null, .null]))] H := c_right hP
  have hDc : va_D A [(q2, .inr (1, [.null, .null, .null, .null]))] := c_rightD hD
  have hFc := c_free (wc := [(q2, .inr (1, [.null, .null, .null, .null]))]) hD hS hA
  refine va_callv (va_runIN (As := []) (rest := [.ref q2, .ref h0]) ⟨hx, hb, hml, hown, hts⟩ (kc_1_20 l D cI cB cZ cQ q2 H.size) ⟨va_cnB (host := "GrottoHours") 0 hts (gT_in (fun w h => (List.mem_cons.mp h).elim (fun e => e ▸ c_cw1.1) id)) rfl rfl rfl (hN _ (List.mem_of_getElem? (i := 50) rfl)) (hts _ c_is1.2) c_cw1.2.2 ⟨(Nat.le_of_ble_eq_true rfl), (Nat.le_of_ble_eq_true rfl)⟩, rfl, hts _ c_cw1.2.1⟩ ⟨fun a U g mk q => by obtain ⟨q0, q1, qP, qK, qD, qN, qO⟩ := q; exact ⟨q0, q1, qP, va_K.moved (u := U) (U := U.calling g mk a) (Vm.Alike.refl U.vm) qK, qD, xNest_warm (State.WarmedH.refl U) qN, aoa_moved (u := U) (U := U.calling g mk a) (Vm.Alike.refl U.vm) qO⟩, fun U hU hW => ⟨rfl, by rw [hU], by rw [hU]; exact hPc, va_K.moved hW.alike hK, hDc.weaken (fun _ _ _ _ => trivial), xNest_warm hW hN, aoa_moved hW.alike hAO⟩⟩ rfl rfl hl.1 rfl (lv_room (Nat.le_of_ble_eq_true rfl)) dX11_init_20 ⟨(Nat.le_of_ble_eq_true rfl), (Nat.le_of_ble_eq_true rfl)⟩) hS (fun q _ h => hFc q h) hFc (fun u2 t H1 locs ht hvm hw hB hz1 hk1 hS => ?_)
  obtain ⟨hu2, hP1, hK1, hD1⟩ := hB
  rewrite [ht] at hP1
  obtain ⟨hP, hD⟩ := c_join (wr := [(h0, .inr (11, [.ref (u1 1), .null, .null, .null, .null, .null, .null, .null, .int 0, .int 0]))] ++ B1) (w1 := xb cI cB cZ cQ u2 20 13) hP hD hk1 hFc hP1 hD1
  generalize H1 = H at hP hS ⊢
  have hP : va_P D vwCl ([(h0, .inr (11, [.ref (u1 1), .null, .null, .null, .null, .null, .null, .null, .int 0, .int 0]))] ++ (B1 ++ xb cI cB cZ cQ u2 20 13)) H := by rw [← List.append_assoc]; exact hP
  have hD : va_D A ([(h0, .inr (11, [.ref (u1 1), .null, .null, .null, .null, .null, .null, .null, .int 0, .int 0]))] ++ (B1 ++ xb cI cB cZ cQ u2 20 13)) := by rw [← List.append_assoc]; exact hD
  obtain ⟨B2, hB2⟩ : ∃ z : va_W, z = B1 ++ xb cI cB cZ cQ u2 20 13 := ⟨_, rfl⟩
  rewrite [← hB2] at hP hD
  have hz2 : Value.ref q2 = .ref (u2 20) := by rw [hu2]
  refine W.widen (k := 32) (n := 3367) (Nat.le_of_ble_eq_true rfl) (Nat.le_of_ble_eq_true rfl) ?_
  rw [hz2]
  refine va_putF (D := D) (ci := 11) (v := .ref (u2 20)) (ty := tyX11 1) (C := RX11) (T := TX11) (N := 10) hx hb hts x_in11 tyX11 tyX11_ok nmX11 hown hK hP hD hS 0 rfl rfl 1 (by decide) (hts _ xl_X11_19) (fun _ h9 => h9) rfl hin rfl (tyX11_ok 1 (by decide)) rfl rfl (Nat.le_of_ble_eq_true rfl) dX11_init_23 (fun H locs hP hD hS => ?_)
  have hP : va_P D vwCl ([(h0, .inr (11, [.ref (u1 1), .ref (u2 20), .null, .null, .null, .null, .null, .null, .int 0, .int 0]))] ++ B2) H := hP
  have hD : va_D A ([(h0, .inr (11, [.ref (u1 1), .ref (u2 20), .null, .null, .null, .null, .null, .null, .int 0, .int 0]))] ++ B2) := hD
  refine lv_aload_n hx hb dX11_init_26 rfl (lv_at hl 0 rfl) ?_
  refine va_new (ci := 1) (fs := [.null, .null, .null, .null]) (C := RX1) (T := TX1) (N := 4) hx hb hts x_in1 tyX1 tyX1_ok hown (hts _ c_cl11_16) (hts _ c_is1.1) (hts _ c_is1.2) hK hP hD hS hA rfl c_df1 (Nat.le_of_ble_eq_true rfl) (Nat.le_of_ble_eq_true rfl) dX11_init_27 (fun q3 H hP hD hS => ?_)
  refine W.widen (k := 33) (n := 3371) (Nat.le_of_ble_eq_true rfl) (Nat.le_of_ble_eq_true rfl) ?_
  refine lv_dup hx hb dX11_init_30 rfl ?_
  have hPc : va_P D vwCl [(q3, .inr (1, [.null, .null, .null, .null]))] H := c_right hP
  have hDc : va_D A [(q3, .inr (1, [.null, .null, .null, .null]))] := c_rightD hD
  have hFc := c_free (wc := [(q3, .inr (1, [.null, .null, .null, .null]))]) hD hS hA
  refine va_callv (va_runIN (As := []) (rest := [.ref q3, .ref h0]) ⟨hx, hb, hml, hown, hts⟩ (kc_1_33 l D cI cB cZ cQ q3 H.size) ⟨va_cnB (host := "GrottoHours") 0 hts (gT_in (fun w h => (List.mem_cons.mp h).elim (fun e => e ▸ c_cw1.1) id)) rfl rfl rfl (hN _ (List.mem_of_getElem? (i := 50) rfl)) (hts _ c_is1.2) c_cw1.2.2 ⟨(Nat.le_of_ble_eq_true rfl), (Nat.le_of_ble_eq_true rfl)⟩, rfl, hts _ c_cw1.2.1⟩ ⟨fun a U g mk q => by obtain ⟨q0, q1, qP, qK, qD, qN, qO⟩ := q; exact ⟨q0, q1, qP, va_K.moved (u := U) (U := U.calling g mk a) (Vm.Alike.refl U.vm) qK, qD, xNest_warm (State.WarmedH.refl U) qN, aoa_moved (u := U) (U := U.calling g mk a) (Vm.Alike.refl U.vm) qO⟩, fun U hU hW => ⟨rfl, by rw [hU], by rw [hU]; exact hPc, va_K.moved hW.alike hK, hDc.weaken (fun _ _ _ _ => trivial), xNest_warm hW hN, aoa_moved hW.alike hAO⟩⟩ rfl rfl hl.1 rfl (lv_room (Nat.le_of_ble_eq_true rfl)) dX11_init_31 ⟨(Nat.le_of_ble_eq_true rfl), (Nat.le_of_ble_eq_true rfl)⟩) hS (fun q _ h => hFc q h) hFc (fun u3 t H1 locs ht hvm hw hB hz1 hk1 hS => ?_)
  obtain ⟨hu3, hP1, hK1, hD1⟩ := hB
  rewrite [ht] at hP1
  obtain ⟨hP, hD⟩ := c_join (wr := [(h0, .inr (11, [.ref (u1 1), .ref (u2 20), .null, .null, .null, .null, .null, .null, .int 0, .int 0]))] ++ B2) (w1 := xb cI cB cZ cQ u3 33 13) hP hD hk1 hFc hP1 hD1
  generalize H1 = H at hP hS ⊢
  have hP : va_P D vwCl ([(h0, .inr (11, [.ref (u1 1), .ref (u2 20), .null, .null, .null, .null, .null, .null, .int 0, .int 0]))] ++ (B2 ++ xb cI cB cZ cQ u3 33 13)) H := by rw [← List.append_assoc]; exact hP
  have hD : va_D A ([(h0, .inr (11, [.ref (u1 1), .ref (u2 20), .null, .null, .null, .null, .null, .null, .int 0, .int 0]))] ++ (B2 ++ xb cI cB cZ cQ u3 33 13)) := by rw [← List.append_assoc]; exact hD
  obtain ⟨B3, hB3⟩ : ∃ z : va_W, z = B2 ++ xb cI cB cZ cQ u3 33 13 := ⟨_, rfl⟩
  rewrite [← hB3] at hP hD
  have hz3 : Value.ref q3 = .ref (u3 33) := by rw [hu3]
  refine W.widen (k := 45) (n := 4474) (Nat.le_of_ble_eq_true rfl) (Nat.le_of_ble_eq_true rfl) ?_
  rw [hz3]
  refine va_putF (D := D) (ci := 11) (v := .ref (u3 33)) (ty := tyX11 2) (C := RX11) (T := TX11) (N := 10) hx hb hts x_in11 tyX11 tyX11_ok nmX11 hown hK hP hD hS 0 rfl rfl 2 (by decide) (hts _ xl_X11_23) (fun _ h9 => h9) rfl hin rfl (tyX11_ok 2 (by decide)) rfl rfl (Nat.le_of_ble_eq_true rfl) dX11_init_34 (fun H locs hP hD hS => ?_)
  have hP : va_P D vwCl ([(h0, .inr (11, [.ref (u1 1), .ref (u2 20), .ref (u3 33), .null, .null, .null, .null, .null, .int 0, .int 0]))] ++ B3) H := hP
  have hD : va_D A ([(h0, .inr (11, [.ref (u1 1), .ref (u2 20), .ref (u3 33), .null, .null, .null, .null, .null, .int 0, .int 0]))] ++ B3) := hD
  refine lv_aload_n hx hb dX11_init_37 rfl (lv_at hl 0 rfl) ?_
  refine va_new (ci := 7) (fs := [.int 0, .int 0, .null, .null, .null, .null]) (C := RX7) (T := TX7) (N := 6) hx hb hts x_in7 tyX7 tyX7_ok hown (hts _ c_cl11_26) (hts _ c_is7.1) (hts _ c_is7.2) hK hP hD hS hA rfl c_df7 (Nat.le_of_ble_eq_true rfl) (Nat.le_of_ble_eq_true rfl) dX11_init_38 (fun q4 H hP hD hS => ?_)
  refine W.widen (k := 46) (n := 4480) (Nat.le_of_ble_eq_true rfl) (Nat.le_of_ble_eq_true rfl) ?_
  refine lv_dup hx hb dX11_init_41 rfl ?_
  have hPc : va_P D vwCl [(q4, .inr (7, [.int 0, .int 0, .null, .null, .null, .null]))] H := c_right hP
  have hDc : va_D A [(q4, .inr (7, [.int 0, .int 0, .null, .null, .null, .null]))] := c_rightD hD
  have hFc := c_free (wc := [(q4, .inr (7, [.int 0, .int 0, .null, .null, .null, .null]))]) hD hS hA
  refine va_callv (va_runIN (As := []) (rest := [.ref q4, .ref h0]) ⟨hx, hb, hml, hown, hts⟩ (kc_7_46 l D cI cB cZ cQ q4 H.size) ⟨va_cnB (host := "GrottoHours") 0 hts (gT_in (fun w h => (List.mem_cons.mp h).elim (fun e => e ▸ c_cw7.1) id)) rfl rfl rfl (hN _ (List.mem_of_getElem? (i := 77) rfl)) (hts _ c_is7.2) c_cw7.2.2 ⟨(Nat.le_of_ble_eq_true rfl), (Nat.le_of_ble_eq_true rfl)⟩, rfl, hts _ c_cw7.2.1⟩ ⟨fun a U g mk q => by obtain ⟨q0, q1, qP, qK, qD, qN, qO⟩ := q; exact ⟨q0, q1, qP, va_K.moved (u := U) (U := U.calling g mk a) (Vm.Alike.refl U.vm) qK, qD, xNest_warm (State.WarmedH.refl U) qN, aoa_moved (u := U) (U := U.calling g mk a) (Vm.Alike.refl U.vm) qO⟩, fun U hU hW => ⟨rfl, by rw [hU], by rw [hU]; exact hPc, va_K.moved hW.alike hK, hDc.weaken (fun _ _ _ _ => trivial), xNest_warm hW hN, aoa_moved hW.alike hAO⟩⟩ rfl rfl hl.1 rfl (lv_room (Nat.le_of_ble_eq_true rfl)) dX11_init_42 ⟨(Nat.le_of_ble_eq_true rfl), (Nat.le_of_ble_eq_true rfl)⟩) hS (fun q _ h => hFc q h) hFc (fun u4 t H1 locs ht hvm hw hB hz1 hk1 hS => ?_)
  obtain ⟨hu4, hP1, hK1, hD1⟩ := hB
  rewrite [ht] at hP1
  obtain ⟨hP, hD⟩ := c_join (wr := [(h0, .inr (11, [.ref (u1 1), .ref (u2 20), .ref (u3 33), .null, .null, .null, .null, .null, .int 0, .int 0]))] ++ B3) (w1 := xb cI cB cZ cQ u4 46 5) hP hD hk1 hFc hP1 hD1
  generalize H1 = H at hP hS ⊢
  have hP : va_P D vwCl ([(h0, .inr (11, [.ref (u1 1), .ref (u2 20), .ref (u3 33), .null, .null, .null, .null, .null, .int 0, .int 0]))] ++ (B3 ++ xb cI cB cZ cQ u4 46 5)) H := by rw [← List.append_assoc]; exact hP
  have hD : va_D A ([(h0, .inr (11, [.ref (u1 1), .ref (u2 20), .ref (u3 33), .null, .null, .null, .null, .null, .int 0, .int 0]))] ++ (B3 ++ xb cI cB cZ cQ u4 46 5)) := by rw [← List.append_assoc]; exact hD
  obtain ⟨B4, hB4⟩ : ∃ z : va_W, z = B3 ++ xb cI cB cZ cQ u4 46 5 := ⟨_, rfl⟩
  rewrite [← hB4] at hP hD
  have hz4 : Value.ref q4 = .ref (u4 46) := by rw [hu4]
  refine W.widen (k := 50) (n := 4504) (Nat.le_of_ble_eq_true rfl) (Nat.le_of_ble_eq_true rfl) ?_
  rw [hz4]
  refine va_putF (D := D) (ci := 11) (v := .ref (u4 46)) (ty := tyX11 3) (C := RX11) (T := TX11) (N := 10) hx hb hts x_in11 tyX11 tyX11_ok nmX11 hown hK hP hD hS 0 rfl rfl 3 (by decide) (hts _ xl_X11_29) (fun _ h9 => h9) rfl hin rfl (tyX11_ok 3 (by decide)) rfl rfl (Nat.le_of_ble_eq_true rfl) dX11_init_45 (fun H locs hP hD hS => ?_)
  have hP : va_P D vwCl ([(h0, .inr (11, [.ref (u1 1), .ref (u2 20), .ref (u3 33), .ref (u4 46), .null, .null, .null, .null, .int 0, .int 0]))] ++ B4) H := hP
  have hD : va_D A ([(h0, .inr (11, [.ref (u1 1), .ref (u2 20), .ref (u3 33), .ref (u4 46), .null, .null, .null, .null, .int 0, .int 0]))] ++ B4) := hD
  refine lv_aload_n hx hb dX11_init_48 rfl (lv_at hl 0 rfl) ?_
  refine va_new (ci := 10) (fs := [.int 0, .int 0, .int 0, .int 0, .int 0, .int 0, .int 0, .int 0]) (C := RX10) (T := TX10) (N := 8) hx hb hts x_in10 tyX10 tyX10_ok hown (hts _ c_cl11_33) (hts _ c_is10.1) (hts _ c_is10.2) hK hP hD hS hA rfl c_df10 (Nat.le_of_ble_eq_true rfl) (Nat.le_of_ble_eq_true rfl) dX11_init_49 (fun q5 H hP hD hS => ?_)
  refine W.widen (k := 51) (n := 4512) (Nat.le_of_ble_eq_true rfl) (Nat.le_of_ble_eq_true rfl) ?_
  refine lv_dup hx hb dX11_init_52 rfl ?_
  have hPc : va_P D vwCl [(q5, .inr (10, [.int 0, .int 0, .int 0, .int 0, .int 0, .int 0, .int 0, .int 0]))] H := c_right hP
  have hDc : va_D A [(q5, .inr (10, [.int 0, .int 0, .int 0, .int 0, .int 0, .int 0, .int 0, .int 0]))] := c_rightD hD
  have hFc := c_free (wc := [(q5, .inr (10, [.int 0, .int 0, .int 0, .int 0, .int 0, .int 0, .int 0, .int 0]))]) hD hS hA
  refine va_callv (va_runIN (As := []) (rest := [.ref q5, .ref h0]) ⟨hx, hb, hml, hown, hts⟩ (kc_10_51 l D cI cB cZ cQ q5 H.size) ⟨va_cnB (host := "GrottoHours") 0 hts (gT_in (fun w h => (List.mem_cons.mp h).elim (fun e => e ▸ c_cw10.1) id)) rfl rfl rfl (hN _ (List.mem_of_getElem? (i := 78) rfl)) (hts _ c_is10.2) c_cw10.2.2 ⟨(Nat.le_of_ble_eq_true rfl), (Nat.le_of_ble_eq_true rfl)⟩, rfl, hts _ c_cw10.2.1⟩ ⟨fun a U g mk q => by obtain ⟨q0, q1, qP, qK, qD, qN, qO⟩ := q; exact ⟨q0, q1, qP, va_K.moved (u := U) (U := U.calling g mk a) (Vm.Alike.refl U.vm) qK, qD, xNest_warm (State.WarmedH.refl U) qN, aoa_moved (u := U) (U := U.calling g mk a) (Vm.Alike.refl U.vm) qO⟩, fun U hU hW => ⟨rfl, by rw [hU], by rw [hU]; exact hPc, va_K.moved hW.alike hK, hDc.weaken (fun _ _ _ _ => trivial), xNest_warm hW hN, aoa_moved hW.alike hAO⟩⟩ rfl rfl hl.1 rfl (lv_room (Nat.le_of_ble_eq_true rfl)) dX11_init_53 ⟨(Nat.le_of_ble_eq_true rfl), (Nat.le_of_ble_eq_true rfl)⟩) hS (fun q _ h => hFc q h) hFc (fun u5 t H1 locs ht hvm hw hB hz1 hk1 hS => ?_)
  obtain ⟨hu5, hP1, hK1, hD1⟩ := hB
  rewrite [ht] at hP1
  obtain ⟨hP, hD⟩ := c_join (wr := [(h0, .inr (11, [.ref (u1 1), .ref (u2 20), .ref (u3 33), .ref (u4 46), .null, .null, .null, .null, .int 0, .int 0]))] ++ B4) (w1 := xb cI cB cZ cQ u5 51 1) hP hD hk1 hFc hP1 hD1
  generalize H1 = H at hP hS ⊢
  have hP : va_P D vwCl ([(h0, .inr (11, [.ref (u1 1), .ref (u2 20), .ref (u3 33), .ref (u4 46), .null, .null, .null, .null, .int 0, .int 0]))] ++ (B4 ++ xb cI cB cZ cQ u5 51 1)) H := by rw [← List.append_assoc]; exact hP
  have hD : va_D A ([(h0, .inr (11, [.ref (u1 1), .ref (u2 20), .ref (u3 33), .ref (u4 46), .null, .null, .null, .null, .int 0, .int 0]))] ++ (B4 ++ xb cI cB cZ cQ u5 51 1)) := by rw [← List.append_assoc]; exact hD
  obtain ⟨B5, hB5⟩ : ∃ z : va_W, z = B4 ++ xb cI cB cZ cQ u5 51 1 := ⟨_, rfl⟩
  rewrite [← hB5] at hP hD
  have hz5 : Value.ref q5 = .ref (u5 51) := by rw [hu5]
  refine W.widen (k := 51) (n := 4512) (Nat.le_of_ble_eq_true rfl) (Nat.le_of_ble_eq_true rfl) ?_
  rw [hz5]
  refine va_putF (D := D) (ci := 11) (v := .ref (u5 51)) (ty := tyX11 4) (C := RX11) (T := TX11) (N := 10) hx hb hts x_in11 tyX11 tyX11_ok nmX11 hown hK hP hD hS 0 rfl rfl 4 (by decide) (hts _ xl_X11_36) (fun _ h9 => h9) rfl hin rfl (tyX11_ok 4 (by decide)) rfl rfl (Nat.le_of_ble_eq_true rfl) dX11_init_56 (fun H locs hP hD hS => ?_)
  have hP : va_P D vwCl ([(h0, .inr (11, [.ref (u1 1), .ref (u2 20), .ref (u3 33), .ref (u4 46), .ref (u5 51), .null, .null, .null, .int 0, .int 0]))] ++ B5) H := hP
  have hD : va_D A ([(h0, .inr (11, [.ref (u1 1), .ref (u2 20), .ref (u3 33), .ref (u4 46), .ref (u5 51), .null, .null, .null, .int 0, .int 0]))] ++ B5) := hD
  refine lv_aload_n hx hb dX11_init_59 rfl (lv_at hl 0 rfl) ?_
  refine va_new (ci := 6) (fs := [.null, .null, .int 0, .int 0]) (C := RX6) (T := TX6) (N := 4) hx hb hts x_in6 tyX6 tyX6_ok hown (hts _ c_cl11_40) (hts _ c_is6.1) (hts _ c_is6.2) hK hP hD hS hA rfl c_df6 (Nat.le_of_ble_eq_true rfl) (Nat.le_of_ble_eq_true rfl) dX11_init_60 (fun q6 H hP hD hS => ?_)
  refine W.widen (k := 52) (n := 4516) (Nat.le_of_ble_eq_true rfl) (Nat.le_of_ble_eq_true rfl) ?_
  refine lv_dup hx hb dX11_init_63 rfl ?_
  have hPc : va_P D vwCl [(q6, .inr (6, [.null, .null, .int 0, .int 0]))] H := c_right hP
  have hDc : va_D A [(q6, .inr (6, [.null, .null, .int 0, .int 0]))] := c_rightD hD
  have hFc := c_free (wc := [(q6, .inr (6, [.null, .null, .int 0, .int 0]))]) hD hS hA
  refine va_callv (va_runIN (As := []) (rest := [.ref q6, .ref h0]) ⟨hx, hb, hml, hown, hts⟩ (kc_6_52 l D cI cB cZ cQ q6 H.size) ⟨va_cnB (host := "GrottoHours") 0 hts (gT_in (fun w h => (List.mem_cons.mp h).elim (fun e => e ▸ c_cw6.1) id)) rfl rfl rfl (hN _ (List.mem_of_getElem? (i := 87) rfl)) (hts _ c_is6.2) c_cw6.2.2 ⟨(Nat.le_of_ble_eq_true rfl), (Nat.le_of_ble_eq_true rfl)⟩, rfl, hts _ c_cw6.2.1⟩ ⟨fun a U g mk q => by obtain ⟨q0, q1, qP, qK, qD, qN, qO⟩ := q; exact ⟨q0, q1, qP, va_K.moved (u := U) (U := U.calling g mk a) (Vm.Alike.refl U.vm) qK, qD, xNest_warm (State.WarmedH.refl U) qN, aoa_moved (u := U) (U := U.calling g mk a) (Vm.Alike.refl U.vm) qO⟩, fun U hU hW => ⟨rfl, by rw [hU], by rw [hU]; exact hPc, va_K.moved hW.alike hK, hDc.weaken (fun _ _ _ _ => trivial), xNest_warm hW hN, aoa_moved hW.alike hAO⟩⟩ rfl rfl hl.1 rfl (lv_room (Nat.le_of_ble_eq_true rfl)) dX11_init_64 ⟨(Nat.le_of_ble_eq_true rfl), (Nat.le_of_ble_eq_true rfl)⟩) hS (fun q _ h => hFc q h) hFc (fun u6 t H1 locs ht hvm hw hB hz1 hk1 hS => ?_)
  obtain ⟨hu6, hP1, hK1, hD1⟩ := hB
  rewrite [ht] at hP1
  obtain ⟨hP, hD⟩ := c_join (wr := [(h0, .inr (11, [.ref (u1 1), .ref (u2 20), .ref (u3 33), .ref (u4 46), .ref (u5 51), .null, .null, .null, .int 0, .int 0]))] ++ B5) (w1 := xb cI cB cZ cQ u6 52 10) hP hD hk1 hFc hP1 hD1
  generalize H1 = H at hP hS ⊢
  have hP : va_P D vwCl ([(h0, .inr (11, [.ref (u1 1), .ref (u2 20), .ref (u3 33), .ref (u4 46), .ref (u5 51), .null, .null, .null, .int 0, .int 0]))] ++ (B5 ++ xb cI cB cZ cQ u6 52 10)) H := by rw [← List.append_assoc]; exact hP
  have hD : va_D A ([(h0, .inr (11, [.ref (u1 1), .ref (u2 20), .ref (u3 33), .ref (u4 46), .ref (u5 51), .null, .null, .null, .int 0, .int 0]))] ++ (B5 ++ xb cI cB cZ cQ u6 52 10)) := by rw [← List.append_assoc]; exact hD
  obtain ⟨B6, hB6⟩ : ∃ z : va_W, z = B5 ++ xb cI cB cZ cQ u6 52 10 := ⟨_, rfl⟩
  rewrite [← hB6] at hP hD
  have hz6 : Value.ref q6 = .ref (u6 52) := by rw [hu6]
  refine W.widen (k := 61) (n := 6321) (Nat.le_of_ble_eq_true rfl) (Nat.le_of_ble_eq_true rfl) ?_
  rw [hz6]
  refine va_putF (D := D) (ci := 11) (v := .ref (u6 52)) (ty := tyX11 5) (C := RX11) (T := TX11) (N := 10) hx hb hts x_in11 tyX11 tyX11_ok nmX11 hown hK hP hD hS 0 rfl rfl 5 (by decide) (hts _ xl_X11_43) (fun _ h9 => h9) rfl hin rfl (tyX11_ok 5 (by decide)) rfl rfl (Nat.le_of_ble_eq_true rfl) dX11_init_67 (fun H locs hP hD hS => ?_)
  have hP : va_P D vwCl ([(h0, .inr (11, [.ref (u1 1), .ref (u2 20), .ref (u3 33), .ref (u4 46), .ref (u5 51), .ref (u6 52), .null, .null, .int 0, .int 0]))] ++ B6) H := hP
  have hD : va_D A ([(h0, .inr (11, [.ref (u1 1), .ref (u2 20), .ref (u3 33), .ref (u4 46), .ref (u5 51), .ref (u6 52), .null, .null, .int 0, .int 0]))] ++ B6) := hD
  refine lv_aload_n hx hb dX11_init_70 rfl (lv_at hl 0 rfl) ?_
  refine va_new (ci := 2) (fs := [.null, .null, .null, .int 0, .int 0, .int 0]) (C := RX2) (T := TX2) (N := 6) hx hb hts x_in2 tyX2 tyX2_ok hown (hts _ c_cl11_47) (hts _ c_is2.1) (hts _ c_is2.2) hK hP hD hS hA rfl c_df2 (Nat.le_of_ble_eq_true rfl) (Nat.le_of_ble_eq_true rfl) dX11_init_71 (fun q7 H hP hD hS => ?_)
  refine W.widen (k := 62) (n := 6327) (Nat.le_of_ble_eq_true rfl) (Nat.le_of_ble_eq_true rfl) ?_
  refine lv_dup hx hb dX11_init_74 rfl ?_
  have hPc : va_P D vwCl [(q7, .inr (2, [.null, .null, .null, .int 0, .int 0, .int 0]))] H := c_right hP
  have hDc : va_D A [(q7, .inr (2, [.null, .null, .null, .int 0, .int 0, .int 0]))] := c_rightD hD
  have hFc := c_free (wc := [(q7, .inr (2, [.null, .null, .null, .int 0, .int 0, .int 0]))]) hD hS hA
  refine va_callv (va_runIN (As := []) (rest := [.ref q7, .ref h0]) ⟨hx, hb, hml, hown, hts⟩ (kc_2_62 l D cI cB cZ cQ q7 H.size) ⟨va_cnB (host := "GrottoHours") 0 hts (gT_in (fun w h => (List.mem_cons.mp h).elim (fun e => e ▸ c_cw2.1) id)) rfl rfl rfl (hN _ (List.mem_of_getElem? (i := 91) rfl)) (hts _ c_is2.2) c_cw2.2.2 ⟨(Nat.le_of_ble_eq_true rfl), (Nat.le_of_ble_eq_true rfl)⟩, rfl, hts _ c_cw2.2.1⟩ ⟨fun a U g mk q => by obtain ⟨q0, q1, qP, qK, qD, qN, qO⟩ := q; exact ⟨q0, q1, qP, va_K.moved (u := U) (U := U.calling g mk a) (Vm.Alike.refl U.vm) qK, qD, xNest_warm (State.WarmedH.refl U) qN, aoa_moved (u := U) (U := U.calling g mk a) (Vm.Alike.refl U.vm) qO⟩, fun U hU hW => ⟨rfl, by rw [hU], by rw [hU]; exact hPc, va_K.moved hW.alike hK, hDc.weaken (fun _ _ _ _ => trivial), xNest_warm hW hN, aoa_moved hW.alike hAO⟩⟩ rfl rfl hl.1 rfl (lv_room (Nat.le_of_ble_eq_true rfl)) dX11_init_75 ⟨(Nat.le_of_ble_eq_true rfl), (Nat.le_of_ble_eq_true rfl)⟩) hS (fun q _ h => hFc q h) hFc (fun u7 t H1 locs ht hvm hw hB hz1 hk1 hS => ?_)
  obtain ⟨hu7, hP1, hK1, hD1⟩ := hB
  rewrite [ht] at hP1
  obtain ⟨hP, hD⟩ := c_join (wr := [(h0, .inr (11, [.ref (u1 1), .ref (u2 20), .ref (u3 33), .ref (u4 46), .ref (u5 51), .ref (u6 52), .null, .null, .int 0, .int 0]))] ++ B6) (w1 := xb cI cB cZ cQ u7 62 10) hP hD hk1 hFc hP1 hD1
  generalize H1 = H at hP hS ⊢
  have hP : va_P D vwCl ([(h0, .inr (11, [.ref (u1 1), .ref (u2 20), .ref (u3 33), .ref (u4 46), .ref (u5 51), .ref (u6 52), .null, .null, .int 0, .int 0]))] ++ (B6 ++ xb cI cB cZ cQ u7 62 10)) H := by rw [← List.append_assoc]; exact hP
  have hD : va_D A ([(h0, .inr (11, [.ref (u1 1), .ref (u2 20), .ref (u3 33), .ref (u4 46), .ref (u5 51), .ref (u6 52), .null, .null, .int 0, .int 0]))] ++ (B6 ++ xb cI cB cZ cQ u7 62 10)) := by rw [← List.append_assoc]; exact hD
  obtain ⟨B7, hB7⟩ : ∃ z : va_W, z = B6 ++ xb cI cB cZ cQ u7 62 10 := ⟨_, rfl⟩
  rewrite [← hB7] at hP hD
  have hz7 : Value.ref q7 = .ref (u7 62) := by rw [hu7]
  refine W.widen (k := 71) (n := 6501) (Nat.le_of_ble_eq_true rfl) (Nat.le_of_ble_eq_true rfl) ?_
  rw [hz7]
  refine va_putF (D := D) (ci := 11) (v := .ref (u7 62)) (ty := tyX11 6) (C := RX11) (T := TX11) (N := 10) hx hb hts x_in11 tyX11 tyX11_ok nmX11 hown hK hP hD hS 0 rfl rfl 6 (by decide) (hts _ xl_X11_50) (fun _ h9 => h9) rfl hin rfl (tyX11_ok 6 (by decide)) rfl rfl (Nat.le_of_ble_eq_true rfl) dX11_init_78 (fun H locs hP hD hS => ?_)
  have hP : va_P D vwCl ([(h0, .inr (11, [.ref (u1 1), .ref (u2 20), .ref (u3 33), .ref (u4 46), .ref (u5 51), .ref (u6 52), .ref (u7 62), .null, .int 0, .int 0]))] ++ B7) H := hP
  have hD : va_D A ([(h0, .inr (11, [.ref (u1 1), .ref (u2 20), .ref (u3 33), .ref (u4 46), .ref (u5 51), .ref (u6 52), .ref (u7 62), .null, .int 0, .int 0]))] ++ B7) := hD
  refine lv_aload_n hx hb dX11_init_81 rfl (lv_at hl 0 rfl) ?_
  refine va_new (ci := 9) (fs := [.int 0, .null, .null, .null, .null, .int 0, .null, .null, .null, .null, .int 0, .null, .int 0, .null, .null]) (C := RX9) (T := TX9) (N := 15) hx hb hts x_in9 tyX9 tyX9_ok hown (hts _ c_cl11_54) (hts _ c_is9.1) (hts _ c_is9.2) hK hP hD hS hA rfl c_df9 (Nat.le_of_ble_eq_true rfl) (Nat.le_of_ble_eq_true rfl) dX11_init_82 (fun q8 H hP hD hS => ?_)
  refine W.widen (k := 72) (n := 6516) (Nat.le_of_ble_eq_true rfl) (Nat.le_of_ble_eq_true rfl) ?_
  refine lv_dup hx hb dX11_init_85 rfl ?_
  have hPc : va_P D vwCl [(q8, .inr (9, [.int 0, .null, .null, .null, .null, .int 0, .null, .null, .null, .null, .int 0, .null, .int 0, .null, .null]))] H := c_right hP
  have hDc : va_D A [(q8, .inr (9, [.int 0, .null, .null, .null, .null, .int 0, .null, .null, .null, .null, .int 0, .null, .int 0, .null, .null]))] := c_rightD hD
  have hFc := c_free (wc := [(q8, .inr (9, [.int 0, .null, .null, .null, .null, .int 0, .null, .null, .null, .null, .int 0, .null, .int 0, .null, .null]))]) hD hS hA
  refine va_callv (va_runIN (As := []) (rest := [.ref q8, .ref h0]) ⟨hx, hb, hml, hown, hts⟩ (kc_9_72 l D cI cB cZ cQ q8 H.size) ⟨va_cnB (host := "GrottoHours") 0 hts (gT_in (fun w h => (List.mem_cons.mp h).elim (fun e => e ▸ c_cw9.1) id)) rfl rfl rfl (hN _ (List.mem_of_getElem? (i := 95) rfl)) (hts _ c_is9.2) c_cw9.2.2 ⟨(Nat.le_of_ble_eq_true rfl), (Nat.le_of_ble_eq_true rfl)⟩, rfl, hts _ c_cw9.2.1⟩ ⟨fun a U g mk q => by obtain ⟨q0, q1, qP, qK, qD, qN, qO⟩ := q; exact ⟨q0, q1, qP, va_K.moved (u := U) (U := U.calling g mk a) (Vm.Alike.refl U.vm) qK, qD, xNest_warm (State.WarmedH.refl U) qN, aoa_moved (u := U) (U := U.calling g mk a) (Vm.Alike.refl U.vm) qO⟩, fun U hU hW => ⟨rfl, by rw [hU], by rw [hU]; exact hPc, va_K.moved hW.alike hK, hDc.weaken (fun _ _ _ _ => trivial), xNest_warm hW hN, aoa_moved hW.alike hAO⟩⟩ rfl rfl hl.1 rfl (lv_room (Nat.le_of_ble_eq_true rfl)) dX11_init_86 ⟨(Nat.le_of_ble_eq_true rfl), (Nat.le_of_ble_eq_true rfl)⟩) hS (fun q _ h => hFc q h) hFc (fun u8 t H1 locs ht hvm hw hB hz1 hk1 hS => ?_)
  obtain ⟨hu8, hP1, hK1, hD1⟩ := hB
  rewrite [ht] at hP1
  obtain ⟨hP, hD⟩ := c_join (wr := [(h0, .inr (11, [.ref (u1 1), .ref (u2 20), .ref (u3 33), .ref (u4 46), .ref (u5 51), .ref (u6 52), .ref (u7 62), .null, .int 0, .int 0]))] ++ B7) (w1 := xb cI cB cZ cQ u8 72 16) hP hD hk1 hFc hP1 hD1
  generalize H1 = H at hP hS ⊢
  have hP : va_P D vwCl ([(h0, .inr (11, [.ref (u1 1), .ref (u2 20), .ref (u3 33), .ref (u4 46), .ref (u5 51), .ref (u6 52), .ref (u7 62), .null, .int 0, .int 0]))] ++ (B7 ++ xb cI cB cZ cQ u8 72 16)) H := by rw [← List.append_assoc]; exact hP
  have hD : va_D A ([(h0, .inr (11, [.ref (u1 1), .ref (u2 20), .ref (u3 33), .ref (u4 46), .ref (u5 51), .ref (u6 52), .ref (u7 62), .null, .int 0, .int 0]))] ++ (B7 ++ xb cI cB cZ cQ u8 72 16)) := by rw [← List.append_assoc]; exact hD
  obtain ⟨B8, hB8⟩ : ∃ z : va_W, z = B7 ++ xb cI cB cZ cQ u8 72 16 := ⟨_, rfl⟩
  rewrite [← hB8] at hP hD
  have hz8 : Value.ref q8 = .ref (u8 72) := by rw [hu8]
  refine W.widen (k := 87) (n := 8050) (Nat.le_of_ble_eq_true rfl) (Nat.le_of_ble_eq_true rfl) ?_
  rw [hz8]
  refine va_put (D := D) (ci := 11) (v := .ref (u8 72)) (ty := tyX11 7) (C := RX11) (T := TX11) (N := 10) hx hb hts x_in11 tyX11 tyX11_ok nmX11 hown hK hP hD hS 0 rfl rfl 7 (by decide) (hts _ xl_X11_57) (fun _ h9 => h9) rfl (tyX11_ok 7 (by decide)) rfl rfl (Nat.le_of_ble_eq_true rfl) dX11_init_89 (fun H locs hP hD hS => ?_)
  have hP : va_P D vwCl ([(h0, .inr (11, [.ref (u1 1), .ref (u2 20), .ref (u3 33), .ref (u4 46), .ref (u5 51), .ref (u6 52), .ref (u7 62), .ref (u8 72), .int 0, .int 0]))] ++ B8) H := hP
  have hD : va_D A ([(h0, .inr (11, [.ref (u1 1), .ref (u2 20), .ref (u3 33), .ref (u4 46), .ref (u5 51), .ref (u6 52), .ref (u7 62), .ref (u8 72), .int 0, .int 0]))] ++ B8) := hD
  refine lv_aload_n hx hb dX11_init_92 rfl (lv_at hl 0 rfl) ?_
  refine lv_iconst (v := 0) hx hb dX11_init_93 (by decide) ?_
  refine va_put (D := D) (ci := 11) (v := .int 0) (ty := tyX11 8) (C := RX11) (T := TX11) (N := 10) hx hb hts x_in11 tyX11 tyX11_ok nmX11 hown hK hP hD hS 0 rfl rfl 8 (by decide) (hts _ xl_X11_61) (fun _ h9 => h9) rfl (tyX11_ok 8 (by decide)) rfl rfl (Nat.le_of_ble_eq_true rfl) dX11_init_94 (fun H locs hP hD hS => ?_)
  have hP : va_P D vwCl ([(h0, .inr (11, [.ref (u1 1), .ref (u2 20), .ref (u3 33), .ref (u4 46), .ref (u5 51), .ref (u6 52), .ref (u7 62), .ref (u8 72), .int 0, .int 0]))] ++ B8) H := hP
  have hD : va_D A ([(h0, .inr (11, [.ref (u1 1), .ref (u2 20), .ref (u3 33), .ref (u4 46), .ref (u5 51), .ref (u6 52), .ref (u7 62), .ref (u8 72), .int 0, .int 0]))] ++ B8) := hD
  refine lv_aload_n hx hb dX11_init_97 rfl (lv_at hl 0 rfl) ?_
  refine lv_iconst (v := 0) hx hb dX11_init_98 (by decide) ?_
  refine va_put (D := D) (ci := 11) (v := .int 0) (ty := tyX11 9) (C := RX11) (T := TX11) (N := 10) hx hb hts x_in11 tyX11 tyX11_ok nmX11 hown hK hP hD hS 0 rfl rfl 9 (by decide) (hts _ xl_X11_65) (fun _ h9 => h9) rfl (tyX11_ok 9 (by decide)) rfl rfl (Nat.le_of_ble_eq_true rfl) dX11_init_99 (fun H locs hP hD hS => ?_)
  have hP : va_P D vwCl ([(h0, .inr (11, [.ref (u1 1), .ref (u2 20), .ref (u3 33), .ref (u4 46), .ref (u5 51), .ref (u6 52), .ref (u7 62), .ref (u8 72), .int 0, .int 0]))] ++ B8) H := hP
  have hD : va_D A ([(h0, .inr (11, [.ref (u1 1), .ref (u2 20), .ref (u3 33), .ref (u4 46), .ref (u5 51), .ref (u6 52), .ref (u7 62), .ref (u8 72), .int 0, .int 0]))] ++ B8) := hD
  rewrite [hB8, hB7, hB6, hB5, hB4, hB3, hB2, hB1, hB0] at hP hD
  obtain ⟨G, hG⟩ : ∃ z : Nat → Nat, z = (xj (xj (xj (xj (xj (xj (xj (xj (fun _ => h0) 1 u1) 20 u2) 33 u3) 46 u4) 51 u5) 52 u6) 62 u7) 72 u8) := ⟨_, rfl⟩
  rw [xb_52 (G := G) (fun i h1 h2 => by rw [hG]; simp only [xj]; rw [if_pos (by omega), if_pos (by omega), if_neg (by omega)]), xb_62 (G := G) (fun i h1 h2 => by rw [hG]; simp only [xj]; rw [if_pos (by omega), if_neg (by omega)])] at hP hD
  subst hG
  have hP9 : va_P D vwCl (xb cI cB cZ cQ (xj (xj (xj (xj (xj (xj (xj (xj (fun _ => h0) 1 u1) 20 u2) 33 u3) 46 u4) 51 u5) 52 u6) 62 u7) 72 u8) 0 88) H := hP
  have hD9 : va_D A (xb cI cB cZ cQ (xj (xj (xj (xj (xj (xj (xj (xj (fun _ => h0) 1 u1) 20 u2) 33 u3) 46 u4) 51 u5) 52 u6) 62 u7) 72 u8) 0 88) := hD
  exact W.vret hx hb hr (fun t ht hW => ⟨⟨(xj (xj (xj (xj (xj (xj (xj (xj (fun _ => h0) 1 u1) 20 u2) 33 u3) 46 u4) 51 u5) 52 u6) 62 u7) 72 u8), rfl, trivial, rfl, by rw [ht]; exact hP9, va_K.moved hW.alike hK, hD9⟩, hS.F ht⟩) hS.2.2 dX11_init_102 hlocks

/-! the law's start (printed by wip/whole/mkstart2.py) -/
theorem st_df12 : ∀ j, j < 66 → defaultValue (tyX12 j) = vp_V [.null, .null, .null, .null, .int 0, .null, .null, .null, .null, .null, .null, .null, .null, .null, .null, .null, .null, .null, .null, .null, .int 0, .int 0, .int 0, .int 0, .int 0, .int 0, .int 0, .int 0, .int 0, .int 0, .int 0, .int 0, .null, .null, .null, .null, .null, .int 0, .int 0, .int 0, .int 0, .int 0, .null, .null, .int 0, .int 0, .null, .null, .null, .null, .null, .null, .null, .null, .int 0, .null, .int 0, .int 0, .int 0, .int 0, .null, .null, .null, .null, .null, .null] j := cm_df
theorem st_leftD {A : Nat → Prop} {wr wc : va_W} (h : va_D A (wr ++ wc)) : va_D A wr :=
  ⟨fun i j p q hi hj e => h.1 i j p q (by rw [List.getElem?_append_left (List.getElem?_eq_some_iff.mp hi).1]; exact hi) (by rw [List.getElem?_append_left (List.getElem?_eq_some_iff.mp hj).1]; exact hj) e, fun k q hk => h.2 k q (by rw [List.getElem?_append_left (List.getElem?_eq_some_iff.mp hk).1]; exact hk)⟩
theorem st_c12 : Cond.code yX12_init cX12_init 2 none ∈ gT ∧ Cond.instanceMethod yX12_init ∈ gT ∧ (yX12_init.cls ≠ "java/lang/invoke/MethodHandle" ∧ yX12_init.cls ≠ "java/lang/invoke/VarHandle" ∧ (parseMethodDescriptor yX12_init.desc).map (fun d => d.parameters.length) = some 0) := ⟨gT_c6 148 rfl rfl, gT_c6 147 rfl rfl, by decide +kernel⟩
theorem st_gO {cell : gS → Nat → Nat × va_E} {ord : List Nat} {adr : Nat → Nat} {A : Nat → Prop} {S : gS} (h1 : ∀ (S S' : gS) (j : Nat), S j = S' j → cell S j = cell S' j) (h2 : ∀ (S : gS) (j : Nat), (cell S j).1 = adr j) (hD : va_D A (gw cell ord S)) : gO cell ord adr :=
  ⟨h1, h2, fun i j a b ha hb e => hD.1 i j _ _ (gw_get ha rfl) (gw_get hb rfl) (by rw [h2, h2]; exact e)⟩
theorem xb_gw (cI cB cZ cQ : ClassId) (g : Nat → Nat) : xb cI cB cZ cQ g 0 88 = gw (xcell g cI cB cZ cQ) xord xS0 := by
  unfold xb gw xord
  rw [List.range_eq_range']
/-- what lies in the three blocks of the law's world is apart -/
theorem st_apart {A : Nat → Prop} {w1 w2 w3 : va_W} (hD : va_D A ((w1 ++ w2) ++ w3)) : (∀ (i j : Nat) (p q : Nat × va_E), w1[i]? = some p → w2[j]? = some q → p.1 ≠ q.1) ∧ (∀ (i j : Nat) (p q : Nat × va_E), w1[i]? = some p → w3[j]? = some q → p.1 ≠ q.1) ∧ (∀ (i j : Nat) (p q : Nat × va_E), w2[i]? = some p → w3[j]? = some q → p.1 ≠ q.1) := by
  have a1 : ∀ (i : Nat) (p : Nat × va_E), w1[i]? = some p → ((w1 ++ w2) ++ w3)[i]? = some p := fun i p h => by
    have hi := (List.getElem?_eq_some_iff.mp h).1
    rw [List.getElem?_append_left (by rw [List.length_append]; omega), List.getElem?_append_left hi]
    exact h
  have a2 : ∀ (i : Nat) (p : Nat × va_E), w2[i]? = some p → ((w1 ++ w2) ++ w3)[w1.length + i]? = some p := fun i p h => by
    have hi := (List.getElem?_eq_some_iff.mp h).1
    rw [List.getElem?_append_left (by rw [List.length_append]; omega), List.getElem?_append_right (by omega), show w1.length + i - w1.length = i by omega]
    exact h
  have a3 : ∀ (i : Nat) (p : Nat × va_E), w3[i]? = some p → ((w1 ++ w2) ++ w3)[(w1 ++ w2).length + i]? = some p := fun i p h => by
    rw [List.getElem?_append_right (by omega), show (w1 ++ w2).length + i - (w1 ++ w2).length = i by omega]
    exact h
  refine ⟨fun i j p q hi hj e => ?_, fun i j p q hi hj e => ?_, fun i j p q hi hj e => ?_⟩
  · have h := hD.1 _ _ p q (a1 i p hi) (a2 j q hj) e
    have hi := (List.getElem?_eq_some_iff.mp hi).1
    omega
  · have h := hD.1 _ _ p q (a1 i p hi) (a3 j q hj) e
    have hi := (List.getElem?_eq_some_iff.mp hi).1
    rewrite [List.length_append] at h
    omega
  · have h := hD.1 _ _ p q (a2 i p hi) (a3 j q hj) e
    have hi := (List.getElem?_eq_some_iff.mp hi).1
    rewrite [List.length_append] at h
    omega
set_option maxHeartbeats 4000000 in
set_option maxRecDepth 100000 in
theorem whole_J {p : Program} {e : Env} {s : State} {m : MethodId} {below : List Frame} {meth : Method} {c : Code} (l : Launch) (hflags : l.flags = flags0) {b L : Nat} {xs : Nat → Int32} (hL : L ≤ 3072) (C0 : lw_At p s m meth c b L xs) {J : gS → gS → Prop} (hJL : Laws J) (hJ0 : J xS0 mS0) : W p l e room_1 s m #[Value.ref b] below meth c s.heap [] 0 0 (lw_Z below #[Value.ref b] s) (entryFrame m ([Value.ref b] : List Value).toArray 7) := by
  obtain ⟨hx, hb, hr, hml, hown, hts, hX, hbl, hlocks, hgv⟩ := id C0
  have hown : s.vm.findClass RL = some m.cls := hown
  have hf : ∀ w ∈ stF, w.before #[Value.ref b] s = true := flat_of_before _ hgv
  have htg : ∀ w ∈ gT, w.before #[Value.ref b] s = true := fun w h => hts w (gT_sub h)
  have hAO : va_AOA .int s := hts _ st_wo.1
  have hAS : va_AO "java/lang/String" s := va_AO.of (hts _ st_wo.2)
  obtain ⟨D, cI, cB, cZ, cQ, cS, cJ0, hK1, hK2, -⟩ := st_K htg (hts _ st_wo.1) (hts _ st_wo.2)
  obtain ⟨aK, aV, hSA⟩ := st_S hts hf
  obtain ⟨hTA, hXN, hNc⟩ := st_T hts hf
  have htr : l.stackTraces = false := by
    unfold Launch.stackTraces
    rw [hflags]
    decide
  obtain ⟨A, hAe⟩ : ∃ A : Nat → Prop, A = fun q => s.heap.size ≤ q := ⟨_, rfl⟩
  have hA : ∀ q : Nat, s.heap.size ≤ q → A q := fun q h => by rw [hAe]; exact h
  have hS : va_S A s.heap s.heap [] := va_S.rf
  have hP : va_P D vwCl [] s.heap := fun k q h => by simp at h
  have hD : va_D A [] := ⟨fun i j p q h => by simp at h, fun k q h => by simp at h⟩
  have hl := lv_entry ([.ref b]) (n := 7) (Nat.le_of_ble_eq_true rfl)
  rw [lg_entry_eq]
  generalize (lg_sl ([.ref b]) ++ List.replicate (7 - (lg_sl ([.ref b])).length) Slot.unset).toArray = ls at hl ⊢
  have hl : lv_has ls 7 [(0, .ref b)] := hl
  refine va_new (ci := 11) (fs := [.null, .null, .null, .null, .null, .null, .null, .null, .int 0, .int 0]) (C := RX11) (T := TX11) (N := 10) hx hb htg x_in11 tyX11 tyX11_ok hown (htg _ st_wl.1) (htg _ c_is11.1) (htg _ c_is11.2) hK1 hP hD hS hA rfl c_df11 (Nat.le_of_ble_eq_true rfl) (Nat.le_of_ble_eq_true rfl) dL_law_0 (fun h0 H hP hD hS => ?_)
  refine W.widen (k := 1) (n := 10) (Nat.le_of_ble_eq_true rfl) (Nat.le_of_ble_eq_true rfl) ?_
  refine lv_dup hx hb dL_law_3 rfl ?_
  have hP : va_P D vwCl ([] ++ [(h0, (.inr (11, [.null, .null, .null, .null, .null, .null, .null, .null, .int 0, .int 0]) : va_E))]) H := hP
  have hPc : va_P D vwCl [(h0, (.inr (11, [.null, .null, .null, .null, .null, .null, .null, .null, .int 0, .int 0]) : va_E))] H := hP
  have hDc : va_D A [(h0, (.inr (11, [.null, .null, .null, .null, .null, .null, .null, .null, .int 0, .int 0]) : va_E))] := hD
  have hFc := c_free (wr := []) (wc := [(h0, (.inr (11, [.null, .null, .null, .null, .null, .null, .null, .null, .int 0, .int 0]) : va_E))]) hD hS hA
  refine va_callv (va_runI (As := []) (rest := [.ref h0]) ⟨hx, hb, hml, hown, htg⟩ (kc_11_0 l D cI cB cZ cQ h0 H.size) (cwI 0 htg (gT_in (fun w h => (List.mem_cons.mp h).elim (fun e => e ▸ c_cw11.1) id)) rfl rfl rfl (htg _ c_is11.2) (htg _ st_wl.2.2.1) (htg _ c_cw11.2.1) rfl c_cw11.2.2 ⟨(Nat.le_of_ble_eq_true rfl), (Nat.le_of_ble_eq_true rfl)⟩) ⟨fun a U g mk q => by obtain ⟨q0, q1, qP, qK, qD, qN, qO⟩ := q; exact ⟨q0, q1, qP, va_K.moved (u := U) (U := U.calling g mk a) (Vm.Alike.refl U.vm) qK, qD, xNest_warm (State.WarmedH.refl U) qN, aoa_moved (u := U) (U := U.calling g mk a) (Vm.Alike.refl U.vm) qO⟩, fun U hU hW => ⟨rfl, by rw [hU], by rw [hU]; exact hPc, va_K.moved hW.alike hK1, hDc.weaken (fun _ _ _ _ => trivial), xNest_warm hW hXN, aoa_moved hW.alike hAO⟩⟩ rfl rfl hl.1 rfl (lv_room (Nat.le_of_ble_eq_true rfl)) dL_law_4 ⟨(Nat.le_of_ble_eq_true rfl), (Nat.le_of_ble_eq_true rfl)⟩) hS (fun q _ h => hFc q h) hFc (fun g t H1 locs ht hvm hw hB hz1 hk1 hS => ?_)
  obtain ⟨hu1, hP1, -, hD1⟩ := hB
  rewrite [ht] at hP1
  obtain ⟨hP, hD⟩ := c_join (wr := []) (w1 := xb cI cB cZ cQ g 0 88) hP hD hk1 hFc hP1 hD1
  generalize H1 = H at hP hS ⊢
  obtain ⟨B1, hB1⟩ : ∃ z : va_W, z = xb cI cB cZ cQ g 0 88 := ⟨_, rfl⟩
  have hP : va_P D vwCl B1 H := by rw [hB1]; exact hP
  have hD : va_D A B1 := by rw [hB1]; exact hD
  refine lv_astore_n hx hb dL_law_7 rfl hl (by decide) rfl (fun ls hl => ?_)
  refine W.widen (k := 88) (n := 8060) (Nat.le_of_ble_eq_true rfl) (Nat.le_of_ble_eq_true rfl) ?_
  refine va_new (ci := 12) (fs := [.null, .null, .null, .null, .int 0, .null, .null, .null, .null, .null, .null, .null, .null, .null, .null, .null, .null, .null, .null, .null, .int 0, .int 0, .int 0, .int 0, .int 0, .int 0, .int 0, .int 0, .int 0, .int 0, .int 0, .int 0, .null, .null, .null, .null, .null, .int 0, .int 0, .int 0, .int 0, .int 0, .null, .null, .int 0, .int 0, .null, .null, .null, .null, .null, .null, .null, .null, .int 0, .null, .int 0, .int 0, .int 0, .int 0, .null, .null, .null, .null, .null, .null]) (C := RX12) (T := TX12) (N := 66) hx hb htg m_in tyX12 tyX12_ok hown (htg _ st_wl.2.1) (htg _ st_w12.1) (htg _ st_w12.2) hK2 hP hD hS hA rfl st_df12 (Nat.le_of_ble_eq_true rfl) (Nat.le_of_ble_eq_true rfl) dL_law_8 (fun h9 H hP hD hS => ?_)
  refine W.widen (k := 89) (n := 8126) (Nat.le_of_ble_eq_true rfl) (Nat.le_of_ble_eq_true rfl) ?_
  refine lv_dup hx hb dL_law_11 rfl ?_
  have hPc : va_P D vwCl [(h9, (.inr (12, [.null, .null, .null, .null, .int 0, .null, .null, .null, .null, .null, .null, .null, .null, .null, .null, .null, .null, .null, .null, .null, .int 0, .int 0, .int 0, .int 0, .int 0, .int 0, .int 0, .int 0, .int 0, .int 0, .int 0, .int 0, .null, .null, .null, .null, .null, .int 0, .int 0, .int 0, .int 0, .int 0, .null, .null, .int 0, .int 0, .null, .null, .null, .null, .null, .null, .null, .null, .int 0, .null, .int 0, .int 0, .int 0, .int 0, .null, .null, .null, .null, .null, .null]) : va_E))] H := c_right hP
  have hDc : va_D A [(h9, (.inr (12, [.null, .null, .null, .null, .int 0, .null, .null, .null, .null, .null, .null, .null, .null, .null, .null, .null, .null, .null, .null, .null, .int 0, .int 0, .int 0, .int 0, .int 0, .int 0, .int 0, .int 0, .int 0, .int 0, .int 0, .int 0, .null, .null, .null, .null, .null, .int 0, .int 0, .int 0, .int 0, .int 0, .null, .null, .int 0, .int 0, .null, .null, .null, .null, .null, .null, .null, .null, .int 0, .null, .int 0, .int 0, .int 0, .int 0, .null, .null, .null, .null, .null, .null]) : va_E))] := c_rightD hD
  have hFc := c_free (wr := B1) (wc := [(h9, (.inr (12, [.null, .null, .null, .null, .int 0, .null, .null, .null, .null, .null, .null, .null, .null, .null, .null, .null, .null, .null, .null, .null, .int 0, .int 0, .int 0, .int 0, .int 0, .int 0, .int 0, .int 0, .int 0, .int 0, .int 0, .int 0, .null, .null, .null, .null, .null, .int 0, .int 0, .int 0, .int 0, .int 0, .null, .null, .int 0, .int 0, .null, .null, .null, .null, .null, .null, .null, .null, .int 0, .null, .int 0, .int 0, .int 0, .int 0, .null, .null, .null, .null, .null, .null]) : va_E))]) hD hS hA
  have hSS : ∀ U : State, U.heap = H → s.WarmedH U.vm → sAll aK aV (va_A [(h9, (.inr (12, [.null, .null, .null, .null, .int 0, .null, .null, .null, .null, .null, .null, .null, .null, .null, .null, .null, .null, .null, .null, .null, .int 0, .int 0, .int 0, .int 0, .int 0, .int 0, .int 0, .int 0, .int 0, .int 0, .int 0, .int 0, .null, .null, .null, .null, .null, .int 0, .int 0, .int 0, .int 0, .int 0, .null, .null, .int 0, .int 0, .null, .null, .null, .null, .null, .null, .null, .null, .int 0, .null, .int 0, .int 0, .int 0, .int 0, .null, .null, .null, .null, .null, .null]) : va_E))] H.size) U U.heap := fun U hU hW => sAll.on hW hSA (fun q h1 h2 => by rw [hU]; exact hS.2.1 q h1 (by rw [hAe]; exact h2)) (fun q h => by have := hFc q h; rw [hAe] at this; exact this)
  refine va_callv (va_runI (As := []) (rest := [.ref h9]) ⟨hx, hb, hml, hown, htg⟩ (kc_12 l D cI cS aK aV h9 H.size) (cwI 0 htg (gT_in (fun w h => (List.mem_cons.mp h).elim (fun e => e ▸ st_c12.1) id)) rfl rfl rfl (htg _ st_w12.2) (htg _ st_wl.2.2.2) (htg _ st_c12.2.1) rfl st_c12.2.2 ⟨(Nat.le_of_ble_eq_true rfl), (Nat.le_of_ble_eq_true rfl)⟩) ⟨fun a U g mk q => by obtain ⟨q0, q1, qP, qK, qD, qN, qO⟩ := q; exact ⟨q0, q1, qP, va_K.moved (u := U) (U := U.calling g mk a) (Vm.Alike.refl U.vm) qK, qD, sAll.on (State.WarmedH.refl U) qN (fun _ _ _ => rfl) (fun _ h => h), va_AO.moved (u := U) (U := U.calling g mk a) (Vm.Alike.refl U.vm) qO⟩, fun U hU hW => ⟨rfl, by rw [hU], by rw [hU]; exact hPc, va_K.moved hW.alike hK2, hDc.weaken (fun _ _ _ _ => trivial), hSS U hU hW, va_AO.moved hW.alike hAS⟩⟩ rfl rfl hl.1 rfl (lv_room (Nat.le_of_ble_eq_true rfl)) dL_law_12 ⟨(Nat.le_of_ble_eq_true rfl), (Nat.le_of_ble_eq_true rfl)⟩) hS (fun q _ h => hFc q h) hFc (fun g2 t H1 locs ht hvm hw hB hz1 hk1 hS => ?_)
  obtain ⟨hu2, hP1, -, hD1⟩ := hB
  rewrite [ht] at hP1
  obtain ⟨hP, hD⟩ := c_join (wr := B1) (w1 := gw (mcell g2 cI cS (msa aK)) mord mS0) hP hD hk1 hFc hP1 hD1
  generalize H1 = H at hP hS ⊢
  refine lv_astore_n hx hb dL_law_15 rfl hl (by decide) rfl (fun ls hl => ?_)
  refine lv_iconst hx hb dL_law_16 rfl ?_
  obtain ⟨B2, hB2⟩ : ∃ z : va_W, z = gw (mcell g2 cI cS (msa aK)) mord mS0 := ⟨_, rfl⟩
  rewrite [← hB2] at hP hD
  refine W.widen (k := 129) (n := 17154) (Nat.le_of_ble_eq_true rfl) (Nat.le_of_ble_eq_true rfl) ?_
  refine va_newa (atype := .long) (N' := 1) (a0 := (1, .inr (.inl (fun _ => 0)))) hx hb (htg _ st_wa.2.2.2) rfl hK1 hP hD hS hA (fun cA => rfl) (by decide) rfl (by decide) (Nat.le_of_ble_eq_true rfl) (Nat.le_of_ble_eq_true rfl) dL_law_17 (fun aO cJ H hK3 hP hD hS => ?_)
  refine lv_astore_n hx hb dL_law_19 rfl hl (by decide) rfl (fun ls hl => ?_)
  refine lv_iconst hx hb dL_law_20 rfl ?_
  refine lv_istore hx hb dL_law_21 hl (by decide) rfl (fun ls hl => ?_)
  have hK3 : va_K D vwCl [(cJ, .long)] s := hK3.sub (tys' := [(cJ, .long)]) [4] rfl
  have hap := st_apart hD
  have hgX : va_P D vwCl (gw (xcell g cI cB cZ cQ) xord xS0) H := by rw [← xb_gw, ← hB1]; exact c_left (c_left hP)
  have hgM : va_P D vwCl (gw (mcell g2 cI cS (msa aK)) mord mS0) H := by rw [← hB2]; exact c_right (c_left hP)
  have hgO : va_P D vwCl [(aO, .inl (cJ, 1, .inr (.inl (fun _ => 0))))] H := c_right hP
  have hDX : va_D A (gw (xcell g cI cB cZ cQ) xord xS0) := by rw [← xb_gw, ← hB1]; exact st_leftD (st_leftD hD)
  have hDM : va_D A (gw (mcell g2 cI cS (msa aK)) mord mS0) := by rw [← hB2]; exact c_rightD (st_leftD hD)
  have hDO : va_D A [(aO, (.inl (cJ, 1, .inr (.inl (fun _ => 0))) : va_E))] := c_rightD hD
  rewrite [hB1, hB2, xb_gw] at hap
  have OX : gO (xcell g cI cB cZ cQ) xord g := st_gO (fun S S' j h => by unfold xcell; rw [h]) (fun S j => rfl) hDX
  have OM : gO (mcell g2 cI cS (msa aK)) mord g2 := st_gO (fun S S' j h => by unfold mcell; rw [h]) (fun S j => rfl) hDM
  have hs : Lsp g g2 aO b s.heap.size := by
    refine ⟨fun k hk => ?_, fun k hk => ?_, ?_, hbl⟩
    · obtain ⟨i, hi⟩ := List.mem_iff_getElem?.mp hk
      have h1 := hDX.2 i _ (gw_get hi rfl)
      rewrite [hAe] at h1
      refine ⟨h1, hap.2.1 i 0 _ _ (gw_get hi rfl) rfl, fun j hj => ?_⟩
      obtain ⟨i2, hi2⟩ := List.mem_iff_getElem?.mp hj
      exact hap.1 i i2 _ _ (gw_get hi rfl) (gw_get hi2 rfl)
    · obtain ⟨i, hi⟩ := List.mem_iff_getElem?.mp hk
      have h1 := hDM.2 i _ (gw_get hi rfl)
      rewrite [hAe] at h1
      exact ⟨h1, hap.2.2 i 0 _ _ (gw_get hi rfl) rfl⟩
    · have h1 := hDO.2 0 _ rfl
      rewrite [hAe] at h1
      exact h1
  have hS : va_S (fun q => s.heap.size ≤ q) s.heap H locs := by
    have h := hS
    rewrite [hAe] at h
    exact h
  have C : LCx p l s m #[Value.ref b] meth c D g g2 cI cB cZ cQ cS cJ aK aV aO b L xs (fun A U H => sAll aK aV A U H ∧ (∀ w ∈ xNest, va_Nw w U) ∧ tAll A U H) (sAll aK aV) := by
    refine ⟨⟨⟨hx, hb, hml, hown, htg⟩, hK1, hr, hlocks, fun A B s U H hW h hq hAB => ⟨sAll.on hW h.1 hq hAB, xNest_warm hW h.2.1, tAll.on hW h.2.2 hq hAB⟩, ?_⟩, ⟨⟨hx, hb, hml, hown, htg⟩, hK2, hr, hlocks, fun A B s U H hW h hq hAB => sAll.on hW h hq hAB, ?_⟩, hK3, hNc, hs, ⟨⟨⟨OX, fun A U H h => h.2.1⟩, fun A U H h => h.1⟩, fun A U H h => h.2.2, htr⟩, ⟨OM, fun A U H h => h⟩, hX⟩
    · rw [hs.allX]
      exact ⟨hSA, hXN, hTA⟩
    · rw [hs.allM]
      exact hSA
  have X : LX D g g2 cI cB cZ cQ cS cJ aK aO b L xs xS0 mS0 (fun _ => 0) s H locs := by
    refine ⟨⟨hgX, by rw [hs.allX]; exact hS⟩, ⟨hgM, by rw [hs.allM]; exact hS⟩, hgO, hX.kept (hS.2.1 b hbl (Nat.not_le.mpr hbl))⟩
  have hl : lv_has ls 7 (Llv b (g 0) (g2 99) aO (nI (6 * 0))) := by
    rw [hu1, hu2]
    exact hl
  exact L_loop C hJL hL 512 0 (by omega) (by omega) H locs ls _ _ xS0 mS0 (fun _ => 0) hJ0 X hl (Nat.le_of_ble_eq_true rfl) (Nat.le_of_ble_eq_true rfl)

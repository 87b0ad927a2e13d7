/-! the law's static methods (printed by wip/whole/mklaw.py) -/
theorem kL_port {l : Launch} {D : va_G} {g : Nat → Nat} {cI cB cZ cQ cJ : ClassId} {aO : Nat} {Am : (Nat → Prop) → State → Heap → Prop} {aK aV : Nat → Nat} (O : tO l g cI cB cZ cQ Am aK aV) (P : gAm Am) (hg : ∀ k, k ∈ xord → g k ≠ aO) (N : Nat) (x1 : Int32) (S : gS) (f : Nat → Int64) (o : tR) (hF : fX11_port N x1 S = some o) (ho : o.1 = 0 ∨ o.1 = 2) : lM l yL_port cL_port 4 [(0, 9, 12, 13)] 73 1 D g cI cB cZ cQ cJ aO Am [.ref (g 0), .int x1, .ref aO] S f (lcA o.1) o.2.2 (lrow f o) := by
  refine lM_of P (by decide) rfl hg (Nat.le_of_ble_eq_true rfl) ?_
  intro p e s m args below meth c ls C hP hl
  refine lv_aload_n C.1.1.1 C.1.1.2.1 dL_port_0 rfl (lv_at hl 2 rfl) ?_
  refine lv_iconst C.1.1.1 C.1.1.2.1 dL_port_1 rfl ?_
  refine lv_aload_n C.1.1.1 C.1.1.2.1 dL_port_2 rfl (lv_at hl 0 rfl) ?_
  refine lv_iload_n C.1.1.1 C.1.1.2.1 dL_port_3 rfl (lv_at hl 1 rfl) ?_
  refine l_call hg hP (t_preV C.1 ⟨hP.1, va_S.rf⟩ xv_L_7 (ci := 11) rfl rfl (gw_get (q := 0) (k := 0) rfl (x_c11 g cI cB cZ cQ S (k := 0) rfl)) (kX11_port O P N x1 S o hF) (Nat.le_of_ble_eq_true rfl) (Nat.le_of_ble_eq_true rfl) (Nat.le_of_ble_eq_true rfl) (Nat.le_of_ble_eq_true rfl) rfl hl.1 rfl (Nat.le_of_ble_eq_true rfl) dL_port_4) (fun h0 H1 locs1 hP1 hS1 => ?_) (fun h0 q ce H1 locs1 hP1 hS1 hc hv hcl => ?_)
  · rw [show lcA o.1 = 0 from if_pos h0, show lrow f o = _ from if_pos h0]
    refine lv_i2l C.1.1.1 C.1.1.2.1 dL_port_7 rfl ?_
    refine l_lay O.1.1.1 C hP1 hS1 dL_port_8 (fun H1 locs1 hP1 hS1 => ?_)
    refine lv_goto (tgt := 15) C.1.1.1 C.1.1.2.1 dL_port_9 (by decide) ?_
    refine lv_iconst C.1.1.1 C.1.1.2.1 dL_port_15 rfl ?_
    exact l_ret C hP1 hS1 (Nat.le_of_ble_eq_true rfl) (Nat.le_of_ble_eq_true rfl) dL_port_16
  · have h1 : o.1 = 2 := ho.resolve_left h0
    rw [show lcA o.1 = 1 from if_neg h0, show lrow f o = _ from if_neg h0]
    rewrite [h1] at hcl
    refine l_catchA C O lx_13 (Or.inr rfl) (by decide) (fun x hx => by cases hx; decide) hc hv hcl ?_
    refine lv_astore_n C.1.1.1 C.1.1.2.1 dL_port_12 rfl hl (by decide) rfl (fun ls9 hl9 => ?_)
    refine lv_iconst C.1.1.1 C.1.1.2.1 dL_port_13 rfl ?_
    exact l_ret C hP1 hS1 (Nat.le_of_ble_eq_true rfl) (Nat.le_of_ble_eq_true rfl) dL_port_14
theorem kL_count {l : Launch} {D : va_G} {g : Nat → Nat} {cI cB cZ cQ cJ : ClassId} {aO : Nat} {Am : (Nat → Prop) → State → Heap → Prop} {aK aV : Nat → Nat} (O : tO l g cI cB cZ cQ Am aK aV) (P : gAm Am) (hg : ∀ k, k ∈ xord → g k ≠ aO) (N : Nat) (x1 : Int32) (S : gS) (f : Nat → Int64) (o : tR) (hF : fX11_count N x1 S = some o) (ho : o.1 = 0 ∨ o.1 = 1) : lM l yL_count cL_count 4 [(0, 9, 12, 18)] 7 1 D g cI cB cZ cQ cJ aO Am [.ref (g 0), .int x1, .ref aO] S f (lcA o.1) o.2.2 (lrow f o) := by
  refine lM_of P (by decide) rfl hg (Nat.le_of_ble_eq_true rfl) ?_
  intro p e s m args below meth c ls C hP hl
  refine lv_aload_n C.1.1.1 C.1.1.2.1 dL_count_0 rfl (lv_at hl 2 rfl) ?_
  refine lv_iconst C.1.1.1 C.1.1.2.1 dL_count_1 rfl ?_
  refine lv_aload_n C.1.1.1 C.1.1.2.1 dL_count_2 rfl (lv_at hl 0 rfl) ?_
  refine lv_iload_n C.1.1.1 C.1.1.2.1 dL_count_3 rfl (lv_at hl 1 rfl) ?_
  refine l_call hg hP (t_preV C.1 ⟨hP.1, va_S.rf⟩ xv_L_15 (ci := 11) rfl rfl (gw_get (q := 0) (k := 0) rfl (x_c11 g cI cB cZ cQ S (k := 0) rfl)) (kX11_count O P N x1 S o hF) (Nat.le_of_ble_eq_true rfl) (Nat.le_of_ble_eq_true rfl) (Nat.le_of_ble_eq_true rfl) (Nat.le_of_ble_eq_true rfl) rfl hl.1 rfl (Nat.le_of_ble_eq_true rfl) dL_count_4) (fun h0 H1 locs1 hP1 hS1 => ?_) (fun h0 q ce H1 locs1 hP1 hS1 hc hv hcl => ?_)
  · rw [show lcA o.1 = 0 from if_pos h0, show lrow f o = _ from if_pos h0]
    refine lv_i2l C.1.1.1 C.1.1.2.1 dL_count_7 rfl ?_
    refine l_lay O.1.1.1 C hP1 hS1 dL_count_8 (fun H1 locs1 hP1 hS1 => ?_)
    refine lv_goto (tgt := 15) C.1.1.1 C.1.1.2.1 dL_count_9 (by decide) ?_
    refine lv_iconst C.1.1.1 C.1.1.2.1 dL_count_15 rfl ?_
    exact l_ret C hP1 hS1 (Nat.le_of_ble_eq_true rfl) (Nat.le_of_ble_eq_true rfl) dL_count_16
  · have h1 : o.1 = 1 := ho.resolve_left h0
    rw [show lcA o.1 = 1 from if_neg h0, show lrow f o = _ from if_neg h0]
    rewrite [h1] at hcl
    refine l_catchA C O lx_18 (Or.inl rfl) (by decide) (fun x hx => by cases hx; decide) hc hv hcl ?_
    refine lv_astore_n C.1.1.1 C.1.1.2.1 dL_count_12 rfl hl (by decide) rfl (fun ls9 hl9 => ?_)
    refine lv_iconst C.1.1.1 C.1.1.2.1 dL_count_13 rfl ?_
    exact l_ret C hP1 hS1 (Nat.le_of_ble_eq_true rfl) (Nat.le_of_ble_eq_true rfl) dL_count_14
theorem kL_grotto {l : Launch} {D : va_G} {g : Nat → Nat} {cI cB cZ cQ cJ : ClassId} {aO : Nat} {Am : (Nat → Prop) → State → Heap → Prop} {aK aV : Nat → Nat} (O : tO l g cI cB cZ cQ Am aK aV) (P : gAm Am) (hg : ∀ k, k ∈ xord → g k ≠ aO) (N : Nat) (x1 : Int32) (x2 : Int32) (S : gS) (f : Nat → Int64) (o : tR) (hF : fX11_grotto N x1 x2 S = some o) (ho : o.1 = 0 ∨ o.1 = 1) : lM l yL_grotto cL_grotto 5 [(0, 10, 13, 18)] 8 2 D g cI cB cZ cQ cJ aO Am [.ref (g 0), .int x1, .int x2, .ref aO] S f (lcA o.1) o.2.2 (lrow f o) := by
  refine lM_of P (by decide) rfl hg (Nat.le_of_ble_eq_true rfl) ?_
  intro p e s m args below meth c ls C hP hl
  refine lv_aload_n C.1.1.1 C.1.1.2.1 dL_grotto_0 rfl (lv_at hl 3 rfl) ?_
  refine lv_iconst C.1.1.1 C.1.1.2.1 dL_grotto_1 rfl ?_
  refine lv_aload_n C.1.1.1 C.1.1.2.1 dL_grotto_2 rfl (lv_at hl 0 rfl) ?_
  refine lv_iload_n C.1.1.1 C.1.1.2.1 dL_grotto_3 rfl (lv_at hl 1 rfl) ?_
  refine lv_iload_n C.1.1.1 C.1.1.2.1 dL_grotto_4 rfl (lv_at hl 2 rfl) ?_
  refine l_call hg hP (t_preV C.1 ⟨hP.1, va_S.rf⟩ xv_L_20 (ci := 11) rfl rfl (gw_get (q := 0) (k := 0) rfl (x_c11 g cI cB cZ cQ S (k := 0) rfl)) (kX11_grotto O P N x1 x2 S o hF) (Nat.le_of_ble_eq_true rfl) (Nat.le_of_ble_eq_true rfl) (Nat.le_of_ble_eq_true rfl) (Nat.le_of_ble_eq_true rfl) rfl hl.1 rfl (Nat.le_of_ble_eq_true rfl) dL_grotto_5) (fun h0 H1 locs1 hP1 hS1 => ?_) (fun h0 q ce H1 locs1 hP1 hS1 hc hv hcl => ?_)
  · rw [show lcA o.1 = 0 from if_pos h0, show lrow f o = _ from if_pos h0]
    refine lv_i2l C.1.1.1 C.1.1.2.1 dL_grotto_8 rfl ?_
    refine l_lay O.1.1.1 C hP1 hS1 dL_grotto_9 (fun H1 locs1 hP1 hS1 => ?_)
    refine lv_goto (tgt := 17) C.1.1.1 C.1.1.2.1 dL_grotto_10 (by decide) ?_
    refine lv_iconst C.1.1.1 C.1.1.2.1 dL_grotto_17 rfl ?_
    exact l_ret C hP1 hS1 (Nat.le_of_ble_eq_true rfl) (Nat.le_of_ble_eq_true rfl) dL_grotto_18
  · have h1 : o.1 = 1 := ho.resolve_left h0
    rw [show lcA o.1 = 1 from if_neg h0, show lrow f o = _ from if_neg h0]
    rewrite [h1] at hcl
    refine l_catchA C O lx_18 (Or.inl rfl) (by decide) (fun x hx => by cases hx; decide) hc hv hcl ?_
    refine lv_astore C.1.1.1 C.1.1.2.1 dL_grotto_13 hl (by decide) rfl (fun ls9 hl9 => ?_)
    refine lv_iconst C.1.1.1 C.1.1.2.1 dL_grotto_15 rfl ?_
    exact l_ret C hP1 hS1 (Nat.le_of_ble_eq_true rfl) (Nat.le_of_ble_eq_true rfl) dL_grotto_16
theorem kL_guild {l : Launch} {D : va_G} {g : Nat → Nat} {cI cB cZ cQ cJ : ClassId} {aO : Nat} {Am : (Nat → Prop) → State → Heap → Prop} {aK aV : Nat → Nat} (O : tO l g cI cB cZ cQ Am aK aV) (P : gAm Am) (hg : ∀ k, k ∈ xord → g k ≠ aO) (N : Nat) (x1 : Int32) (x2 : Int32) (S : gS) (f : Nat → Int64) (o : tR) (hF : fX11_guild N x1 x2 S = some o) (ho : o.1 = 0 ∨ o.1 = 1) : lM l yL_guild cL_guild 5 [(0, 10, 13, 18)] 8 2 D g cI cB cZ cQ cJ aO Am [.ref (g 0), .int x1, .int x2, .ref aO] S f (lcA o.1) o.2.2 (lrow f o) := by
  refine lM_of P (by decide) rfl hg (Nat.le_of_ble_eq_true rfl) ?_
  intro p e s m args below meth c ls C hP hl
  refine lv_aload_n C.1.1.1 C.1.1.2.1 dL_guild_0 rfl (lv_at hl 3 rfl) ?_
  refine lv_iconst C.1.1.1 C.1.1.2.1 dL_guild_1 rfl ?_
  refine lv_aload_n C.1.1.1 C.1.1.2.1 dL_guild_2 rfl (lv_at hl 0 rfl) ?_
  refine lv_iload_n C.1.1.1 C.1.1.2.1 dL_guild_3 rfl (lv_at hl 1 rfl) ?_
  refine lv_iload_n C.1.1.1 C.1.1.2.1 dL_guild_4 rfl (lv_at hl 2 rfl) ?_
  refine l_call hg hP (t_preV C.1 ⟨hP.1, va_S.rf⟩ xv_L_24 (ci := 11) rfl rfl (gw_get (q := 0) (k := 0) rfl (x_c11 g cI cB cZ cQ S (k := 0) rfl)) (kX11_guild O P N x1 x2 S o hF) (Nat.le_of_ble_eq_true rfl) (Nat.le_of_ble_eq_true rfl) (Nat.le_of_ble_eq_true rfl) (Nat.le_of_ble_eq_true rfl) rfl hl.1 rfl (Nat.le_of_ble_eq_true rfl) dL_guild_5) (fun h0 H1 locs1 hP1 hS1 => ?_) (fun h0 q ce H1 locs1 hP1 hS1 hc hv hcl => ?_)
  · rw [show lcA o.1 = 0 from if_pos h0, show lrow f o = _ from if_pos h0]
    refine lv_i2l C.1.1.1 C.1.1.2.1 dL_guild_8 rfl ?_
    refine l_lay O.1.1.1 C hP1 hS1 dL_guild_9 (fun H1 locs1 hP1 hS1 => ?_)
    refine lv_goto (tgt := 17) C.1.1.1 C.1.1.2.1 dL_guild_10 (by decide) ?_
    refine lv_iconst C.1.1.1 C.1.1.2.1 dL_guild_17 rfl ?_
    exact l_ret C hP1 hS1 (Nat.le_of_ble_eq_true rfl) (Nat.le_of_ble_eq_true rfl) dL_guild_18
  · have h1 : o.1 = 1 := ho.resolve_left h0
    rw [show lcA o.1 = 1 from if_neg h0, show lrow f o = _ from if_neg h0]
    rewrite [h1] at hcl
    refine l_catchA C O lx_18 (Or.inl rfl) (by decide) (fun x hx => by cases hx; decide) hc hv hcl ?_
    refine lv_astore C.1.1.1 C.1.1.2.1 dL_guild_13 hl (by decide) rfl (fun ls9 hl9 => ?_)
    refine lv_iconst C.1.1.1 C.1.1.2.1 dL_guild_15 rfl ?_
    exact l_ret C hP1 hS1 (Nat.le_of_ble_eq_true rfl) (Nat.le_of_ble_eq_true rfl) dL_guild_16
theorem kL_hire {l : Launch} {D : va_G} {g : Nat → Nat} {cI cB cZ cQ cJ : ClassId} {aO : Nat} {Am : (Nat → Prop) → State → Heap → Prop} {aK aV : Nat → Nat} (O : tO l g cI cB cZ cQ Am aK aV) (P : gAm Am) (hg : ∀ k, k ∈ xord → g k ≠ aO) (N : Nat) (x1 : Int32) (x2 : Int32) (S : gS) (f : Nat → Int64) (o : tR) (hF : fX11_hire N x1 x2 S = some o) (ho : o.1 = 0 ∨ o.1 = 1) : lM l yL_hire cL_hire 5 [(0, 17, 20, 18)] 8 2 D g cI cB cZ cQ cJ aO Am [.ref (g 0), .int x1, .int x2, .ref aO] S f (lcA o.1) o.2.2 (lrowZ f o) := by
  refine lM_of P (by decide) rfl hg (Nat.le_of_ble_eq_true rfl) ?_
  intro p e s m args below meth c ls C hP hl
  refine lv_aload_n C.1.1.1 C.1.1.2.1 dL_hire_0 rfl (lv_at hl 3 rfl) ?_
  refine lv_iconst C.1.1.1 C.1.1.2.1 dL_hire_1 rfl ?_
  refine lv_aload_n C.1.1.1 C.1.1.2.1 dL_hire_2 rfl (lv_at hl 0 rfl) ?_
  refine lv_iload_n C.1.1.1 C.1.1.2.1 dL_hire_3 rfl (lv_at hl 1 rfl) ?_
  refine lv_iload_n C.1.1.1 C.1.1.2.1 dL_hire_4 rfl (lv_at hl 2 rfl) ?_
  refine l_call hg hP (t_preV C.1 ⟨hP.1, va_S.rf⟩ xv_L_27 (ci := 11) rfl rfl (gw_get (q := 0) (k := 0) rfl (x_c11 g cI cB cZ cQ S (k := 0) rfl)) (kX11_hire O P N x1 x2 S o hF) (Nat.le_of_ble_eq_true rfl) (Nat.le_of_ble_eq_true rfl) (Nat.le_of_ble_eq_true rfl) (Nat.le_of_ble_eq_true rfl) rfl hl.1 rfl (Nat.le_of_ble_eq_true rfl) dL_hire_5) (fun h0 H1 locs1 hP1 hS1 => ?_) (fun h0 q ce H1 locs1 hP1 hS1 hc hv hcl => ?_)
  · rw [show lcA o.1 = 0 from if_pos h0, show lrowZ f o = _ from if_pos h0]
    refine lv_if_eq (tgt := 15) C.1.1.1 C.1.1.2.1 dL_hire_8 (by decide) (fun h_z => ?_) (fun h_z => ?_)
    · rw [if_pos h_z]
      refine lv_lconst C.1.1.1 C.1.1.2.1 dL_hire_15 rfl ?_
      refine l_lay O.1.1.1 C hP1 hS1 dL_hire_16 (fun H1 locs1 hP1 hS1 => ?_)
      refine lv_goto (tgt := 24) C.1.1.1 C.1.1.2.1 dL_hire_17 (by decide) ?_
      refine lv_iconst C.1.1.1 C.1.1.2.1 dL_hire_24 rfl ?_
      exact l_ret C hP1 hS1 (Nat.le_of_ble_eq_true rfl) (Nat.le_of_ble_eq_true rfl) dL_hire_25
    · rw [if_neg h_z]
      refine lv_lconst C.1.1.1 C.1.1.2.1 dL_hire_11 rfl ?_
      refine lv_goto (tgt := 16) C.1.1.1 C.1.1.2.1 dL_hire_12 (by decide) ?_
      refine l_lay O.1.1.1 C hP1 hS1 dL_hire_16 (fun H1 locs1 hP1 hS1 => ?_)
      refine lv_goto (tgt := 24) C.1.1.1 C.1.1.2.1 dL_hire_17 (by decide) ?_
      refine lv_iconst C.1.1.1 C.1.1.2.1 dL_hire_24 rfl ?_
      exact l_ret C hP1 hS1 (Nat.le_of_ble_eq_true rfl) (Nat.le_of_ble_eq_true rfl) dL_hire_25
  · have h1 : o.1 = 1 := ho.resolve_left h0
    rw [show lcA o.1 = 1 from if_neg h0, show lrowZ f o = _ from if_neg h0]
    rewrite [h1] at hcl
    refine l_catchA C O lx_18 (Or.inl rfl) (by decide) (fun x hx => by cases hx; decide) hc hv hcl ?_
    refine lv_astore C.1.1.1 C.1.1.2.1 dL_hire_20 hl (by decide) rfl (fun ls9 hl9 => ?_)
    refine lv_iconst C.1.1.1 C.1.1.2.1 dL_hire_22 rfl ?_
    exact l_ret C hP1 hS1 (Nat.le_of_ble_eq_true rfl) (Nat.le_of_ble_eq_true rfl) dL_hire_23
theorem kL_dismiss {l : Launch} {D : va_G} {g : Nat → Nat} {cI cB cZ cQ cJ : ClassId} {aO : Nat} {Am : (Nat → Prop) → State → Heap → Prop} {aK aV : Nat → Nat} (O : tO l g cI cB cZ cQ Am aK aV) (P : gAm Am) (hg : ∀ k, k ∈ xord → g k ≠ aO) (N : Nat) (x1 : Int32) (S : gS) (f : Nat → Int64) (o : tR) (hF : fX11_dismiss N x1 S = some o) (ho : o.1 = 0 ∨ o.1 = 1) : lM l yL_dismiss cL_dismiss 4 [(0, 9, 12, 18)] 8 1 D g cI cB cZ cQ cJ aO Am [.ref (g 0), .int x1, .ref aO] S f (lcA o.1) o.2.2 (lrow f o) := by
  refine lM_of P (by decide) rfl hg (Nat.le_of_ble_eq_true rfl) ?_
  intro p e s m args below meth c ls C hP hl
  refine lv_aload_n C.1.1.1 C.1.1.2.1 dL_dismiss_0 rfl (lv_at hl 2 rfl) ?_
  refine lv_iconst C.1.1.1 C.1.1.2.1 dL_dismiss_1 rfl ?_
  refine lv_aload_n C.1.1.1 C.1.1.2.1 dL_dismiss_2 rfl (lv_at hl 0 rfl) ?_
  refine lv_iload_n C.1.1.1 C.1.1.2.1 dL_dismiss_3 rfl (lv_at hl 1 rfl) ?_
  refine l_call hg hP (t_preV C.1 ⟨hP.1, va_S.rf⟩ xv_L_31 (ci := 11) rfl rfl (gw_get (q := 0) (k := 0) rfl (x_c11 g cI cB cZ cQ S (k := 0) rfl)) (kX11_dismiss O P N x1 S o hF) (Nat.le_of_ble_eq_true rfl) (Nat.le_of_ble_eq_true rfl) (Nat.le_of_ble_eq_true rfl) (Nat.le_of_ble_eq_true rfl) rfl hl.1 rfl (Nat.le_of_ble_eq_true rfl) dL_dismiss_4) (fun h0 H1 locs1 hP1 hS1 => ?_) (fun h0 q ce H1 locs1 hP1 hS1 hc hv hcl => ?_)
  · rw [show lcA o.1 = 0 from if_pos h0, show lrow f o = _ from if_pos h0]
    refine lv_i2l C.1.1.1 C.1.1.2.1 dL_dismiss_7 rfl ?_
    refine l_lay O.1.1.1 C hP1 hS1 dL_dismiss_8 (fun H1 locs1 hP1 hS1 => ?_)
    refine lv_goto (tgt := 15) C.1.1.1 C.1.1.2.1 dL_dismiss_9 (by decide) ?_
    refine lv_iconst C.1.1.1 C.1.1.2.1 dL_dismiss_15 rfl ?_
    exact l_ret C hP1 hS1 (Nat.le_of_ble_eq_true rfl) (Nat.le_of_ble_eq_true rfl) dL_dismiss_16
  · have h1 : o.1 = 1 := ho.resolve_left h0
    rw [show lcA o.1 = 1 from if_neg h0, show lrow f o = _ from if_neg h0]
    rewrite [h1] at hcl
    refine l_catchA C O lx_18 (Or.inl rfl) (by decide) (fun x hx => by cases hx; decide) hc hv hcl ?_
    refine lv_astore_n C.1.1.1 C.1.1.2.1 dL_dismiss_12 rfl hl (by decide) rfl (fun ls9 hl9 => ?_)
    refine lv_iconst C.1.1.1 C.1.1.2.1 dL_dismiss_13 rfl ?_
    exact l_ret C hP1 hS1 (Nat.le_of_ble_eq_true rfl) (Nat.le_of_ble_eq_true rfl) dL_dismiss_14
theorem kL_confess {l : Launch} {D : va_G} {g : Nat → Nat} {cI cB cZ cQ cJ : ClassId} {aO : Nat} {Am : (Nat → Prop) → State → Heap → Prop} {aK aV : Nat → Nat} (O : tO l g cI cB cZ cQ Am aK aV) (P : gAm Am) (hg : ∀ k, k ∈ xord → g k ≠ aO) (N : Nat) (x1 : Int32) (S : gS) (f : Nat → Int64) (o : tR) (hF : fX11_confess N x1 S = some o) (ho : o.1 = 0 ∨ o.1 = 1) : lM l yL_confess cL_confess 4 [(0, 9, 12, 18)] 8 1 D g cI cB cZ cQ cJ aO Am [.ref (g 0), .int x1, .ref aO] S f (lcA o.1) o.2.2 (lrow f o) := by
  refine lM_of P (by decide) rfl hg (Nat.le_of_ble_eq_true rfl) ?_
  intro p e s m args below meth c ls C hP hl
  refine lv_aload_n C.1.1.1 C.1.1.2.1 dL_confess_0 rfl (lv_at hl 2 rfl) ?_
  refine lv_iconst C.1.1.1 C.1.1.2.1 dL_confess_1 rfl ?_
  refine lv_aload_n C.1.1.1 C.1.1.2.1 dL_confess_2 rfl (lv_at hl 0 rfl) ?_
  refine lv_iload_n C.1.1.1 C.1.1.2.1 dL_confess_3 rfl (lv_at hl 1 rfl) ?_
  refine l_call hg hP (t_preV C.1 ⟨hP.1, va_S.rf⟩ xv_L_34 (ci := 11) rfl rfl (gw_get (q := 0) (k := 0) rfl (x_c11 g cI cB cZ cQ S (k := 0) rfl)) (kX11_confess O P N x1 S o hF) (Nat.le_of_ble_eq_true rfl) (Nat.le_of_ble_eq_true rfl) (Nat.le_of_ble_eq_true rfl) (Nat.le_of_ble_eq_true rfl) rfl hl.1 rfl (Nat.le_of_ble_eq_true rfl) dL_confess_4) (fun h0 H1 locs1 hP1 hS1 => ?_) (fun h0 q ce H1 locs1 hP1 hS1 hc hv hcl => ?_)
  · rw [show lcA o.1 = 0 from if_pos h0, show lrow f o = _ from if_pos h0]
    refine lv_i2l C.1.1.1 C.1.1.2.1 dL_confess_7 rfl ?_
    refine l_lay O.1.1.1 C hP1 hS1 dL_confess_8 (fun H1 locs1 hP1 hS1 => ?_)
    refine lv_goto (tgt := 15) C.1.1.1 C.1.1.2.1 dL_confess_9 (by decide) ?_
    refine lv_iconst C.1.1.1 C.1.1.2.1 dL_confess_15 rfl ?_
    exact l_ret C hP1 hS1 (Nat.le_of_ble_eq_true rfl) (Nat.le_of_ble_eq_true rfl) dL_confess_16
  · have h1 : o.1 = 1 := ho.resolve_left h0
    rw [show lcA o.1 = 1 from if_neg h0, show lrow f o = _ from if_neg h0]
    rewrite [h1] at hcl
    refine l_catchA C O lx_18 (Or.inl rfl) (by decide) (fun x hx => by cases hx; decide) hc hv hcl ?_
    refine lv_astore_n C.1.1.1 C.1.1.2.1 dL_confess_12 rfl hl (by decide) rfl (fun ls9 hl9 => ?_)
    refine lv_iconst C.1.1.1 C.1.1.2.1 dL_confess_13 rfl ?_
    exact l_ret C hP1 hS1 (Nat.le_of_ble_eq_true rfl) (Nat.le_of_ble_eq_true rfl) dL_confess_14
theorem kL_drain {l : Launch} {D : va_G} {g : Nat → Nat} {cI cB cZ cQ cJ : ClassId} {aO : Nat} {Am : (Nat → Prop) → State → Heap → Prop} {aK aV : Nat → Nat} (O : tO l g cI cB cZ cQ Am aK aV) (P : gAm Am) (hg : ∀ k, k ∈ xord → g k ≠ aO) (N : Nat) (x1 : Int32) (x2 : Int32) (S : gS) (f : Nat → Int64) (o : tR) (hF : fX11_drain N x1 x2 S = some o) (ho : o.1 = 0 ∨ o.1 = 1) : lM l yL_drain cL_drain 5 [(0, 17, 20, 18)] 8 1 D g cI cB cZ cQ cJ aO Am [.ref (g 0), .int x1, .int x2, .ref aO] S f (lcA o.1) o.2.2 (lrowZ f o) := by
  refine lM_of P (by decide) rfl hg (Nat.le_of_ble_eq_true rfl) ?_
  intro p e s m args below meth c ls C hP hl
  refine lv_aload_n C.1.1.1 C.1.1.2.1 dL_drain_0 rfl (lv_at hl 3 rfl) ?_
  refine lv_iconst C.1.1.1 C.1.1.2.1 dL_drain_1 rfl ?_
  refine lv_aload_n C.1.1.1 C.1.1.2.1 dL_drain_2 rfl (lv_at hl 0 rfl) ?_
  refine lv_iload_n C.1.1.1 C.1.1.2.1 dL_drain_3 rfl (lv_at hl 1 rfl) ?_
  refine lv_iload_n C.1.1.1 C.1.1.2.1 dL_drain_4 rfl (lv_at hl 2 rfl) ?_
  refine l_call hg hP (t_preV C.1 ⟨hP.1, va_S.rf⟩ xv_L_37 (ci := 11) rfl rfl (gw_get (q := 0) (k := 0) rfl (x_c11 g cI cB cZ cQ S (k := 0) rfl)) (kX11_drain O P N x1 x2 S o hF) (Nat.le_of_ble_eq_true rfl) (Nat.le_of_ble_eq_true rfl) (Nat.le_of_ble_eq_true rfl) (Nat.le_of_ble_eq_true rfl) rfl hl.1 rfl (Nat.le_of_ble_eq_true rfl) dL_drain_5) (fun h0 H1 locs1 hP1 hS1 => ?_) (fun h0 q ce H1 locs1 hP1 hS1 hc hv hcl => ?_)
  · rw [show lcA o.1 = 0 from if_pos h0, show lrowZ f o = _ from if_pos h0]
    refine lv_if_eq (tgt := 15) C.1.1.1 C.1.1.2.1 dL_drain_8 (by decide) (fun h_z => ?_) (fun h_z => ?_)
    · rw [if_pos h_z]
      refine lv_lconst C.1.1.1 C.1.1.2.1 dL_drain_15 rfl ?_
      refine l_lay O.1.1.1 C hP1 hS1 dL_drain_16 (fun H1 locs1 hP1 hS1 => ?_)
      refine lv_goto (tgt := 24) C.1.1.1 C.1.1.2.1 dL_drain_17 (by decide) ?_
      refine lv_iconst C.1.1.1 C.1.1.2.1 dL_drain_24 rfl ?_
      exact l_ret C hP1 hS1 (Nat.le_of_ble_eq_true rfl) (Nat.le_of_ble_eq_true rfl) dL_drain_25
    · rw [if_neg h_z]
      refine lv_lconst C.1.1.1 C.1.1.2.1 dL_drain_11 rfl ?_
      refine lv_goto (tgt := 16) C.1.1.1 C.1.1.2.1 dL_drain_12 (by decide) ?_
      refine l_lay O.1.1.1 C hP1 hS1 dL_drain_16 (fun H1 locs1 hP1 hS1 => ?_)
      refine lv_goto (tgt := 24) C.1.1.1 C.1.1.2.1 dL_drain_17 (by decide) ?_
      refine lv_iconst C.1.1.1 C.1.1.2.1 dL_drain_24 rfl ?_
      exact l_ret C hP1 hS1 (Nat.le_of_ble_eq_true rfl) (Nat.le_of_ble_eq_true rfl) dL_drain_25
  · have h1 : o.1 = 1 := ho.resolve_left h0
    rw [show lcA o.1 = 1 from if_neg h0, show lrowZ f o = _ from if_neg h0]
    rewrite [h1] at hcl
    refine l_catchA C O lx_18 (Or.inl rfl) (by decide) (fun x hx => by cases hx; decide) hc hv hcl ?_
    refine lv_astore C.1.1.1 C.1.1.2.1 dL_drain_20 hl (by decide) rfl (fun ls9 hl9 => ?_)
    refine lv_iconst C.1.1.1 C.1.1.2.1 dL_drain_22 rfl ?_
    exact l_ret C hP1 hS1 (Nat.le_of_ble_eq_true rfl) (Nat.le_of_ble_eq_true rfl) dL_drain_23
theorem kL_give {l : Launch} {D : va_G} {g : Nat → Nat} {cI cB cZ cQ cJ : ClassId} {aO : Nat} {Am : (Nat → Prop) → State → Heap → Prop} {aK aV : Nat → Nat} (O : tO l g cI cB cZ cQ Am aK aV) (P : gAm Am) (hg : ∀ k, k ∈ xord → g k ≠ aO) (N : Nat) (x1 : Int32) (x2 : Int32) (S : gS) (f : Nat → Int64) (o : tR) (hF : fX11_give N x1 x2 S = some o) (ho : o.1 = 0 ∨ o.1 = 1) : lM l yL_give cL_give 5 [(0, 10, 13, 18)] 8 1 D g cI cB cZ cQ cJ aO Am [.ref (g 0), .int x1, .int x2, .ref aO] S f (lcA o.1) o.2.2 (lrow f o) := by
  refine lM_of P (by decide) rfl hg (Nat.le_of_ble_eq_true rfl) ?_
  intro p e s m args below meth c ls C hP hl
  refine lv_aload_n C.1.1.1 C.1.1.2.1 dL_give_0 rfl (lv_at hl 3 rfl) ?_
  refine lv_iconst C.1.1.1 C.1.1.2.1 dL_give_1 rfl ?_
  refine lv_aload_n C.1.1.1 C.1.1.2.1 dL_give_2 rfl (lv_at hl 0 rfl) ?_
  refine lv_iload_n C.1.1.1 C.1.1.2.1 dL_give_3 rfl (lv_at hl 1 rfl) ?_
  refine lv_iload_n C.1.1.1 C.1.1.2.1 dL_give_4 rfl (lv_at hl 2 rfl) ?_
  refine l_call hg hP (t_preV C.1 ⟨hP.1, va_S.rf⟩ xv_L_41 (ci := 11) rfl rfl (gw_get (q := 0) (k := 0) rfl (x_c11 g cI cB cZ cQ S (k := 0) rfl)) (kX11_give O P N x1 x2 S o hF) (Nat.le_of_ble_eq_true rfl) (Nat.le_of_ble_eq_true rfl) (Nat.le_of_ble_eq_true rfl) (Nat.le_of_ble_eq_true rfl) rfl hl.1 rfl (Nat.le_of_ble_eq_true rfl) dL_give_5) (fun h0 H1 locs1 hP1 hS1 => ?_) (fun h0 q ce H1 locs1 hP1 hS1 hc hv hcl => ?_)
  · rw [show lcA o.1 = 0 from if_pos h0, show lrow f o = _ from if_pos h0]
    refine lv_i2l C.1.1.1 C.1.1.2.1 dL_give_8 rfl ?_
    refine l_lay O.1.1.1 C hP1 hS1 dL_give_9 (fun H1 locs1 hP1 hS1 => ?_)
    refine lv_goto (tgt := 17) C.1.1.1 C.1.1.2.1 dL_give_10 (by decide) ?_
    refine lv_iconst C.1.1.1 C.1.1.2.1 dL_give_17 rfl ?_
    exact l_ret C hP1 hS1 (Nat.le_of_ble_eq_true rfl) (Nat.le_of_ble_eq_true rfl) dL_give_18
  · have h1 : o.1 = 1 := ho.resolve_left h0
    rw [show lcA o.1 = 1 from if_neg h0, show lrow f o = _ from if_neg h0]
    rewrite [h1] at hcl
    refine l_catchA C O lx_18 (Or.inl rfl) (by decide) (fun x hx => by cases hx; decide) hc hv hcl ?_
    refine lv_astore C.1.1.1 C.1.1.2.1 dL_give_13 hl (by decide) rfl (fun ls9 hl9 => ?_)
    refine lv_iconst C.1.1.1 C.1.1.2.1 dL_give_15 rfl ?_
    exact l_ret C hP1 hS1 (Nat.le_of_ble_eq_true rfl) (Nat.le_of_ble_eq_true rfl) dL_give_16
theorem kL_then {l : Launch} {D : va_G} {g : Nat → Nat} {cI cB cZ cQ cJ : ClassId} {aO : Nat} {Am : (Nat → Prop) → State → Heap → Prop} {aK aV : Nat → Nat} (O : tO l g cI cB cZ cQ Am aK aV) (P : gAm Am) (hg : ∀ k, k ∈ xord → g k ≠ aO) (N : Nat) (x1 : Int32) (x2 : Int32) (x3 : Int32) (S : gS) (f : Nat → Int64) (o : tR) (hF : fX11_then N x1 x2 x3 S = some o) (ho : o.1 = 0 ∨ o.1 = 1 ∨ o.1 = 2) : lM l yL_then cL_then 6 [(0, 12, 15, 18), (0, 12, 19, 13)] 8 3 D g cI cB cZ cQ cJ aO Am [.ref (g 0), .int x1, .int x2, .int x3, .ref aO] S f (lcC o.1) o.2.2 (lrow f o) := by
  refine lM_of P (by decide) rfl hg (Nat.le_of_ble_eq_true rfl) ?_
  intro p e s m args below meth c ls C hP hl
  refine lv_aload C.1.1.1 C.1.1.2.1 dL_then_0 (lv_at hl 4 rfl) ?_
  refine lv_iconst C.1.1.1 C.1.1.2.1 dL_then_2 rfl ?_
  refine lv_aload_n C.1.1.1 C.1.1.2.1 dL_then_3 rfl (lv_at hl 0 rfl) ?_
  refine lv_iload_n C.1.1.1 C.1.1.2.1 dL_then_4 rfl (lv_at hl 1 rfl) ?_
  refine lv_iload_n C.1.1.1 C.1.1.2.1 dL_then_5 rfl (lv_at hl 2 rfl) ?_
  refine lv_iload_n C.1.1.1 C.1.1.2.1 dL_then_6 rfl (lv_at hl 3 rfl) ?_
  refine l_call hg hP (t_preV C.1 ⟨hP.1, va_S.rf⟩ xv_L_44 (ci := 11) rfl rfl (gw_get (q := 0) (k := 0) rfl (x_c11 g cI cB cZ cQ S (k := 0) rfl)) (kX11_then O P N x1 x2 x3 S o hF) (Nat.le_of_ble_eq_true rfl) (Nat.le_of_ble_eq_true rfl) (Nat.le_of_ble_eq_true rfl) (Nat.le_of_ble_eq_true rfl) rfl hl.1 rfl (Nat.le_of_ble_eq_true rfl) dL_then_7) (fun h0 H1 locs1 hP1 hS1 => ?_) (fun h0 q ce H1 locs1 hP1 hS1 hc hv hcl => ?_)
  · rw [show lcC o.1 = 0 from if_pos h0, show lrow f o = _ from if_pos h0]
    refine lv_i2l C.1.1.1 C.1.1.2.1 dL_then_10 rfl ?_
    refine l_lay O.1.1.1 C hP1 hS1 dL_then_11 (fun H1 locs1 hP1 hS1 => ?_)
    refine lv_goto (tgt := 23) C.1.1.1 C.1.1.2.1 dL_then_12 (by decide) ?_
    refine lv_iconst C.1.1.1 C.1.1.2.1 dL_then_23 rfl ?_
    exact l_ret C hP1 hS1 (Nat.le_of_ble_eq_true rfl) (Nat.le_of_ble_eq_true rfl) dL_then_24
  · rw [show lrow f o = _ from if_neg h0]
    rcases ho.resolve_left h0 with h1 | h1
    · rewrite [h1] at hcl ⊢
      refine l_catchA C O lx_18 (Or.inl rfl) (by decide) (fun x hx => by cases hx; decide) hc hv hcl ?_
      refine lv_astore C.1.1.1 C.1.1.2.1 dL_then_15 hl (by decide) rfl (fun ls9 hl9 => ?_)
      refine lv_iconst C.1.1.1 C.1.1.2.1 dL_then_17 rfl ?_
      exact l_ret C hP1 hS1 (Nat.le_of_ble_eq_true rfl) (Nat.le_of_ble_eq_true rfl) dL_then_18
    · rewrite [h1] at hcl ⊢
      refine l_catchB C O lx_18 lx_13 (by decide) (by decide) (fun x hx => by cases hx; rfl) (fun x hx => by cases hx; decide) hc hv hcl ?_
      refine lv_astore C.1.1.1 C.1.1.2.1 dL_then_19 hl (by decide) rfl (fun ls9 hl9 => ?_)
      refine lv_iconst C.1.1.1 C.1.1.2.1 dL_then_21 rfl ?_
      exact l_ret C hP1 hS1 (Nat.le_of_ble_eq_true rfl) (Nat.le_of_ble_eq_true rfl) dL_then_22
theorem kL_dripping {l : Launch} {D : va_G} {g : Nat → Nat} {cI cB cZ cQ cJ : ClassId} {aO : Nat} {Am : (Nat → Prop) → State → Heap → Prop} {aK aV : Nat → Nat} (O : tO l g cI cB cZ cQ Am aK aV) (P : gAm Am) (hg : ∀ k, k ∈ xord → g k ≠ aO) (N : Nat) (x1 : Int32) (S : gS) (f : Nat → Int64) (o : tR) (hF : fX11_dripping N x1 S = some o) (ho : o.1 = 0 ∨ o.1 = 2) : lM l yL_dripping cL_dripping 4 [(0, 9, 12, 13)] 8 1 D g cI cB cZ cQ cJ aO Am [.ref (g 0), .int x1, .ref aO] S f (lcA o.1) o.2.2 (lrow f o) := by
  refine lM_of P (by decide) rfl hg (Nat.le_of_ble_eq_true rfl) ?_
  intro p e s m args below meth c ls C hP hl
  refine lv_aload_n C.1.1.1 C.1.1.2.1 dL_dripping_0 rfl (lv_at hl 2 rfl) ?_
  refine lv_iconst C.1.1.1 C.1.1.2.1 dL_dripping_1 rfl ?_
  refine lv_aload_n C.1.1.1 C.1.1.2.1 dL_dripping_2 rfl (lv_at hl 0 rfl) ?_
  refine lv_iload_n C.1.1.1 C.1.1.2.1 dL_dripping_3 rfl (lv_at hl 1 rfl) ?_
  refine l_call hg hP (t_preV C.1 ⟨hP.1, va_S.rf⟩ xv_L_48 (ci := 11) rfl rfl (gw_get (q := 0) (k := 0) rfl (x_c11 g cI cB cZ cQ S (k := 0) rfl)) (kX11_dripping O P N x1 S o hF) (Nat.le_of_ble_eq_true rfl) (Nat.le_of_ble_eq_true rfl) (Nat.le_of_ble_eq_true rfl) (Nat.le_of_ble_eq_true rfl) rfl hl.1 rfl (Nat.le_of_ble_eq_true rfl) dL_dripping_4) (fun h0 H1 locs1 hP1 hS1 => ?_) (fun h0 q ce H1 locs1 hP1 hS1 hc hv hcl => ?_)
  · rw [show lcA o.1 = 0 from if_pos h0, show lrow f o = _ from if_pos h0]
    refine lv_i2l C.1.1.1 C.1.1.2.1 dL_dripping_7 rfl ?_
    refine l_lay O.1.1.1 C hP1 hS1 dL_dripping_8 (fun H1 locs1 hP1 hS1 => ?_)
    refine lv_goto (tgt := 15) C.1.1.1 C.1.1.2.1 dL_dripping_9 (by decide) ?_
    refine lv_iconst C.1.1.1 C.1.1.2.1 dL_dripping_15 rfl ?_
    exact l_ret C hP1 hS1 (Nat.le_of_ble_eq_true rfl) (Nat.le_of_ble_eq_true rfl) dL_dripping_16
  · have h1 : o.1 = 2 := ho.resolve_left h0
    rw [show lcA o.1 = 1 from if_neg h0, show lrow f o = _ from if_neg h0]
    rewrite [h1] at hcl
    refine l_catchA C O lx_13 (Or.inr rfl) (by decide) (fun x hx => by cases hx; decide) hc hv hcl ?_
    refine lv_astore_n C.1.1.1 C.1.1.2.1 dL_dripping_12 rfl hl (by decide) rfl (fun ls9 hl9 => ?_)
    refine lv_iconst C.1.1.1 C.1.1.2.1 dL_dripping_13 rfl ?_
    exact l_ret C hP1 hS1 (Nat.le_of_ble_eq_true rfl) (Nat.le_of_ble_eq_true rfl) dL_dripping_14
theorem kL_first {l : Launch} {D : va_G} {g : Nat → Nat} {cI cB cZ cQ cJ : ClassId} {aO : Nat} {Am : (Nat → Prop) → State → Heap → Prop} {aK aV : Nat → Nat} (O : tO l g cI cB cZ cQ Am aK aV) (P : gAm Am) (hg : ∀ k, k ∈ xord → g k ≠ aO) (N : Nat) (x1 : Int32) (S : gS) (f : Nat → Int64) (o : tR) (hF : fX11_first N x1 S = some o) (ho : o.1 = 0 ∨ o.1 = 1) : lM l yL_first cL_first 4 [(0, 9, 12, 18)] 8 1 D g cI cB cZ cQ cJ aO Am [.ref (g 0), .int x1, .ref aO] S f (lcA o.1) o.2.2 (lrow f o) := by
  refine lM_of P (by decide) rfl hg (Nat.le_of_ble_eq_true rfl) ?_
  intro p e s m args below meth c ls C hP hl
  refine lv_aload_n C.1.1.1 C.1.1.2.1 dL_first_0 rfl (lv_at hl 2 rfl) ?_
  refine lv_iconst C.1.1.1 C.1.1.2.1 dL_first_1 rfl ?_
  refine lv_aload_n C.1.1.1 C.1.1.2.1 dL_first_2 rfl (lv_at hl 0 rfl) ?_
  refine lv_iload_n C.1.1.1 C.1.1.2.1 dL_first_3 rfl (lv_at hl 1 rfl) ?_
  refine l_call hg hP (t_preV C.1 ⟨hP.1, va_S.rf⟩ xv_L_51 (ci := 11) rfl rfl (gw_get (q := 0) (k := 0) rfl (x_c11 g cI cB cZ cQ S (k := 0) rfl)) (kX11_first O P N x1 S o hF) (Nat.le_of_ble_eq_true rfl) (Nat.le_of_ble_eq_true rfl) (Nat.le_of_ble_eq_true rfl) (Nat.le_of_ble_eq_true rfl) rfl hl.1 rfl (Nat.le_of_ble_eq_true rfl) dL_first_4) (fun h0 H1 locs1 hP1 hS1 => ?_) (fun h0 q ce H1 locs1 hP1 hS1 hc hv hcl => ?_)
  · rw [show lcA o.1 = 0 from if_pos h0, show lrow f o = _ from if_pos h0]
    refine lv_i2l C.1.1.1 C.1.1.2.1 dL_first_7 rfl ?_
    refine l_lay O.1.1.1 C hP1 hS1 dL_first_8 (fun H1 locs1 hP1 hS1 => ?_)
    refine lv_goto (tgt := 15) C.1.1.1 C.1.1.2.1 dL_first_9 (by decide) ?_
    refine lv_iconst C.1.1.1 C.1.1.2.1 dL_first_15 rfl ?_
    exact l_ret C hP1 hS1 (Nat.le_of_ble_eq_true rfl) (Nat.le_of_ble_eq_true rfl) dL_first_16
  · have h1 : o.1 = 1 := ho.resolve_left h0
    rw [show lcA o.1 = 1 from if_neg h0, show lrow f o = _ from if_neg h0]
    rewrite [h1] at hcl
    refine l_catchA C O lx_18 (Or.inl rfl) (by decide) (fun x hx => by cases hx; decide) hc hv hcl ?_
    refine lv_astore_n C.1.1.1 C.1.1.2.1 dL_first_12 rfl hl (by decide) rfl (fun ls9 hl9 => ?_)
    refine lv_iconst C.1.1.1 C.1.1.2.1 dL_first_13 rfl ?_
    exact l_ret C hP1 hS1 (Nat.le_of_ble_eq_true rfl) (Nat.le_of_ble_eq_true rfl) dL_first_14
theorem kL_dismissed {l : Launch} {D : va_G} {g : Nat → Nat} {cI cB cZ cQ cJ : ClassId} {aO : Nat} {Am : (Nat → Prop) → State → Heap → Prop} {aK aV : Nat → Nat} (O : tO l g cI cB cZ cQ Am aK aV) (P : gAm Am) (hg : ∀ k, k ∈ xord → g k ≠ aO) (N : Nat) (x1 : Int32) (S : gS) (f : Nat → Int64) (o : tR) (hF : fX11_dismissed N x1 S = some o) (ho : o.1 = 0 ∨ o.1 = 1) : lM l yL_dismissed cL_dismissed 4 [(0, 9, 12, 18)] 8 1 D g cI cB cZ cQ cJ aO Am [.ref (g 0), .int x1, .ref aO] S f (lcA o.1) o.2.2 (lrow f o) := by
  refine lM_of P (by decide) rfl hg (Nat.le_of_ble_eq_true rfl) ?_
  intro p e s m args below meth c ls C hP hl
  refine lv_aload_n C.1.1.1 C.1.1.2.1 dL_dismissed_0 rfl (lv_at hl 2 rfl) ?_
  refine lv_iconst C.1.1.1 C.1.1.2.1 dL_dismissed_1 rfl ?_
  refine lv_aload_n C.1.1.1 C.1.1.2.1 dL_dismissed_2 rfl (lv_at hl 0 rfl) ?_
  refine lv_iload_n C.1.1.1 C.1.1.2.1 dL_dismissed_3 rfl (lv_at hl 1 rfl) ?_
  refine l_call hg hP (t_preV C.1 ⟨hP.1, va_S.rf⟩ xv_L_54 (ci := 11) rfl rfl (gw_get (q := 0) (k := 0) rfl (x_c11 g cI cB cZ cQ S (k := 0) rfl)) (kX11_dismissed O P N x1 S o hF) (Nat.le_of_ble_eq_true rfl) (Nat.le_of_ble_eq_true rfl) (Nat.le_of_ble_eq_true rfl) (Nat.le_of_ble_eq_true rfl) rfl hl.1 rfl (Nat.le_of_ble_eq_true rfl) dL_dismissed_4) (fun h0 H1 locs1 hP1 hS1 => ?_) (fun h0 q ce H1 locs1 hP1 hS1 hc hv hcl => ?_)
  · rw [show lcA o.1 = 0 from if_pos h0, show lrow f o = _ from if_pos h0]
    refine lv_i2l C.1.1.1 C.1.1.2.1 dL_dismissed_7 rfl ?_
    refine l_lay O.1.1.1 C hP1 hS1 dL_dismissed_8 (fun H1 locs1 hP1 hS1 => ?_)
    refine lv_goto (tgt := 15) C.1.1.1 C.1.1.2.1 dL_dismissed_9 (by decide) ?_
    refine lv_iconst C.1.1.1 C.1.1.2.1 dL_dismissed_15 rfl ?_
    exact l_ret C hP1 hS1 (Nat.le_of_ble_eq_true rfl) (Nat.le_of_ble_eq_true rfl) dL_dismissed_16
  · have h1 : o.1 = 1 := ho.resolve_left h0
    rw [show lcA o.1 = 1 from if_neg h0, show lrow f o = _ from if_neg h0]
    rewrite [h1] at hcl
    refine l_catchA C O lx_18 (Or.inl rfl) (by decide) (fun x hx => by cases hx; decide) hc hv hcl ?_
    refine lv_astore_n C.1.1.1 C.1.1.2.1 dL_dismissed_12 rfl hl (by decide) rfl (fun ls9 hl9 => ?_)
    refine lv_iconst C.1.1.1 C.1.1.2.1 dL_dismissed_13 rfl ?_
    exact l_ret C hP1 hS1 (Nat.le_of_ble_eq_true rfl) (Nat.le_of_ble_eq_true rfl) dL_dismissed_14
theorem kL_most {l : Launch} {D : va_G} {g : Nat → Nat} {cI cB cZ cQ cJ : ClassId} {aO : Nat} {Am : (Nat → Prop) → State → Heap → Prop} {aK aV : Nat → Nat} (O : tO l g cI cB cZ cQ Am aK aV) (P : gAm Am) (hg : ∀ k, k ∈ xord → g k ≠ aO) (N : Nat) (x1 : Int32) (x2 : Int32) (S : gS) (f : Nat → Int64) (o : tR) (hF : fX11_most N x1 x2 S = some o) (ho : o.1 = 0 ∨ o.1 = 1 ∨ o.1 = 2) : lM l yL_most cL_most 5 [(0, 10, 13, 18), (0, 10, 17, 13)] 8 2 D g cI cB cZ cQ cJ aO Am [.ref (g 0), .int x1, .int x2, .ref aO] S f (lcC o.1) o.2.2 (lrow f o) := by
  refine lM_of P (by decide) rfl hg (Nat.le_of_ble_eq_true rfl) ?_
  intro p e s m args below meth c ls C hP hl
  refine lv_aload_n C.1.1.1 C.1.1.2.1 dL_most_0 rfl (lv_at hl 3 rfl) ?_
  refine lv_iconst C.1.1.1 C.1.1.2.1 dL_most_1 rfl ?_
  refine lv_aload_n C.1.1.1 C.1.1.2.1 dL_most_2 rfl (lv_at hl 0 rfl) ?_
  refine lv_iload_n C.1.1.1 C.1.1.2.1 dL_most_3 rfl (lv_at hl 1 rfl) ?_
  refine lv_iload_n C.1.1.1 C.1.1.2.1 dL_most_4 rfl (lv_at hl 2 rfl) ?_
  refine l_call hg hP (t_preV C.1 ⟨hP.1, va_S.rf⟩ xv_L_57 (ci := 11) rfl rfl (gw_get (q := 0) (k := 0) rfl (x_c11 g cI cB cZ cQ S (k := 0) rfl)) (kX11_most O P N x1 x2 S o hF) (Nat.le_of_ble_eq_true rfl) (Nat.le_of_ble_eq_true rfl) (Nat.le_of_ble_eq_true rfl) (Nat.le_of_ble_eq_true rfl) rfl hl.1 rfl (Nat.le_of_ble_eq_true rfl) dL_most_5) (fun h0 H1 locs1 hP1 hS1 => ?_) (fun h0 q ce H1 locs1 hP1 hS1 hc hv hcl => ?_)
  · rw [show lcC o.1 = 0 from if_pos h0, show lrow f o = _ from if_pos h0]
    refine lv_i2l C.1.1.1 C.1.1.2.1 dL_most_8 rfl ?_
    refine l_lay O.1.1.1 C hP1 hS1 dL_most_9 (fun H1 locs1 hP1 hS1 => ?_)
    refine lv_goto (tgt := 21) C.1.1.1 C.1.1.2.1 dL_most_10 (by decide) ?_
    refine lv_iconst C.1.1.1 C.1.1.2.1 dL_most_21 rfl ?_
    exact l_ret C hP1 hS1 (Nat.le_of_ble_eq_true rfl) (Nat.le_of_ble_eq_true rfl) dL_most_22
  · rw [show lrow f o = _ from if_neg h0]
    rcases ho.resolve_left h0 with h1 | h1
    · rewrite [h1] at hcl ⊢
      refine l_catchA C O lx_18 (Or.inl rfl) (by decide) (fun x hx => by cases hx; decide) hc hv hcl ?_
      refine lv_astore C.1.1.1 C.1.1.2.1 dL_most_13 hl (by decide) rfl (fun ls9 hl9 => ?_)
      refine lv_iconst C.1.1.1 C.1.1.2.1 dL_most_15 rfl ?_
      exact l_ret C hP1 hS1 (Nat.le_of_ble_eq_true rfl) (Nat.le_of_ble_eq_true rfl) dL_most_16
    · rewrite [h1] at hcl ⊢
      refine l_catchB C O lx_18 lx_13 (by decide) (by decide) (fun x hx => by cases hx; rfl) (fun x hx => by cases hx; decide) hc hv hcl ?_
      refine lv_astore C.1.1.1 C.1.1.2.1 dL_most_17 hl (by decide) rfl (fun ls9 hl9 => ?_)
      refine lv_iconst C.1.1.1 C.1.1.2.1 dL_most_19 rfl ?_
      exact l_ret C hP1 hS1 (Nat.le_of_ble_eq_true rfl) (Nat.le_of_ble_eq_true rfl) dL_most_20
theorem kL_hush {l : Launch} {D : va_G} {g : Nat → Nat} {cI cB cZ cQ cJ : ClassId} {aO : Nat} {Am : (Nat → Prop) → State → Heap → Prop} {aK aV : Nat → Nat} (O : tO l g cI cB cZ cQ Am aK aV) (P : gAm Am) (hg : ∀ k, k ∈ xord → g k ≠ aO) (N : Nat) (x1 : Int32) (S : gS) (f : Nat → Int64) (o : tR) (hF : fX11_hush N x1 S = some o) (ho : o.1 = 0 ∨ o.1 = 2) : lM l yL_hush cL_hush 4 [(0, 9, 12, 13)] 8 1 D g cI cB cZ cQ cJ aO Am [.ref (g 0), .int x1, .ref aO] S f (lcA o.1) o.2.2 (lrow f o) := by
  refine lM_of P (by decide) rfl hg (Nat.le_of_ble_eq_true rfl) ?_
  intro p e s m args below meth c ls C hP hl
  refine lv_aload_n C.1.1.1 C.1.1.2.1 dL_hush_0 rfl (lv_at hl 2 rfl) ?_
  refine lv_iconst C.1.1.1 C.1.1.2.1 dL_hush_1 rfl ?_
  refine lv_aload_n C.1.1.1 C.1.1.2.1 dL_hush_2 rfl (lv_at hl 0 rfl) ?_
  refine lv_iload_n C.1.1.1 C.1.1.2.1 dL_hush_3 rfl (lv_at hl 1 rfl) ?_
  refine l_call hg hP (t_preV C.1 ⟨hP.1, va_S.rf⟩ xv_L_60 (ci := 11) rfl rfl (gw_get (q := 0) (k := 0) rfl (x_c11 g cI cB cZ cQ S (k := 0) rfl)) (kX11_hush O P N x1 S o hF) (Nat.le_of_ble_eq_true rfl) (Nat.le_of_ble_eq_true rfl) (Nat.le_of_ble_eq_true rfl) (Nat.le_of_ble_eq_true rfl) rfl hl.1 rfl (Nat.le_of_ble_eq_true rfl) dL_hush_4) (fun h0 H1 locs1 hP1 hS1 => ?_) (fun h0 q ce H1 locs1 hP1 hS1 hc hv hcl => ?_)
  · rw [show lcA o.1 = 0 from if_pos h0, show lrow f o = _ from if_pos h0]
    refine lv_i2l C.1.1.1 C.1.1.2.1 dL_hush_7 rfl ?_
    refine l_lay O.1.1.1 C hP1 hS1 dL_hush_8 (fun H1 locs1 hP1 hS1 => ?_)
    refine lv_goto (tgt := 15) C.1.1.1 C.1.1.2.1 dL_hush_9 (by decide) ?_
    refine lv_iconst C.1.1.1 C.1.1.2.1 dL_hush_15 rfl ?_
    exact l_ret C hP1 hS1 (Nat.le_of_ble_eq_true rfl) (Nat.le_of_ble_eq_true rfl) dL_hush_16
  · have h1 : o.1 = 2 := ho.resolve_left h0
    rw [show lcA o.1 = 1 from if_neg h0, show lrow f o = _ from if_neg h0]
    rewrite [h1] at hcl
    refine l_catchA C O lx_13 (Or.inr rfl) (by decide) (fun x hx => by cases hx; decide) hc hv hcl ?_
    refine lv_astore_n C.1.1.1 C.1.1.2.1 dL_hush_12 rfl hl (by decide) rfl (fun ls9 hl9 => ?_)
    refine lv_iconst C.1.1.1 C.1.1.2.1 dL_hush_13 rfl ?_
    exact l_ret C hP1 hS1 (Nat.le_of_ble_eq_true rfl) (Nat.le_of_ble_eq_true rfl) dL_hush_14
theorem kL_chorus {l : Launch} {D : va_G} {g : Nat → Nat} {cI cB cZ cQ cJ : ClassId} {aO : Nat} {Am : (Nat → Prop) → State → Heap → Prop} {aK aV : Nat → Nat} (O : tO l g cI cB cZ cQ Am aK aV) (P : gAm Am) (hg : ∀ k, k ∈ xord → g k ≠ aO) (N : Nat) (x1 : Int32) (S : gS) (f : Nat → Int64) (o : tR) (hF : fX11_chorus N x1 S = some o) (ho : o.1 = 0 ∨ o.1 = 2) : lM l yL_chorus cL_chorus 4 [(0, 9, 12, 13)] 8 1 D g cI cB cZ cQ cJ aO Am [.ref (g 0), .int x1, .ref aO] S f (lcA o.1) o.2.2 (lrow f o) := by
  refine lM_of P (by decide) rfl hg (Nat.le_of_ble_eq_true rfl) ?_
  intro p e s m args below meth c ls C hP hl
  refine lv_aload_n C.1.1.1 C.1.1.2.1 dL_chorus_0 rfl (lv_at hl 2 rfl) ?_
  refine lv_iconst C.1.1.1 C.1.1.2.1 dL_chorus_1 rfl ?_
  refine lv_aload_n C.1.1.1 C.1.1.2.1 dL_chorus_2 rfl (lv_at hl 0 rfl) ?_
  refine lv_iload_n C.1.1.1 C.1.1.2.1 dL_chorus_3 rfl (lv_at hl 1 rfl) ?_
  refine l_call hg hP (t_preV C.1 ⟨hP.1, va_S.rf⟩ xv_L_63 (ci := 11) rfl rfl (gw_get (q := 0) (k := 0) rfl (x_c11 g cI cB cZ cQ S (k := 0) rfl)) (kX11_chorus O P N x1 S o hF) (Nat.le_of_ble_eq_true rfl) (Nat.le_of_ble_eq_true rfl) (Nat.le_of_ble_eq_true rfl) (Nat.le_of_ble_eq_true rfl) rfl hl.1 rfl (Nat.le_of_ble_eq_true rfl) dL_chorus_4) (fun h0 H1 locs1 hP1 hS1 => ?_) (fun h0 q ce H1 locs1 hP1 hS1 hc hv hcl => ?_)
  · rw [show lcA o.1 = 0 from if_pos h0, show lrow f o = _ from if_pos h0]
    refine lv_i2l C.1.1.1 C.1.1.2.1 dL_chorus_7 rfl ?_
    refine l_lay O.1.1.1 C hP1 hS1 dL_chorus_8 (fun H1 locs1 hP1 hS1 => ?_)
    refine lv_goto (tgt := 15) C.1.1.1 C.1.1.2.1 dL_chorus_9 (by decide) ?_
    refine lv_iconst C.1.1.1 C.1.1.2.1 dL_chorus_15 rfl ?_
    exact l_ret C hP1 hS1 (Nat.le_of_ble_eq_true rfl) (Nat.le_of_ble_eq_true rfl) dL_chorus_16
  · have h1 : o.1 = 2 := ho.resolve_left h0
    rw [show lcA o.1 = 1 from if_neg h0, show lrow f o = _ from if_neg h0]
    rewrite [h1] at hcl
    refine l_catchA C O lx_13 (Or.inr rfl) (by decide) (fun x hx => by cases hx; decide) hc hv hcl ?_
    refine lv_astore_n C.1.1.1 C.1.1.2.1 dL_chorus_12 rfl hl (by decide) rfl (fun ls9 hl9 => ?_)
    refine lv_iconst C.1.1.1 C.1.1.2.1 dL_chorus_13 rfl ?_
    exact l_ret C hP1 hS1 (Nat.le_of_ble_eq_true rfl) (Nat.le_of_ble_eq_true rfl) dL_chorus_14
theorem kL_together {l : Launch} {D : va_G} {g : Nat → Nat} {cI cB cZ cQ cJ : ClassId} {aO : Nat} {Am : (Nat → Prop) → State → Heap → Prop} {aK aV : Nat → Nat} (O : tO l g cI cB cZ cQ Am aK aV) (P : gAm Am) (hg : ∀ k, k ∈ xord → g k ≠ aO) (N : Nat) (x1 : Int32) (S : gS) (f : Nat → Int64) (o : tR) (hF : fX11_together N x1 S = some o) (ho : o.1 = 0 ∨ o.1 = 2) : lM l yL_together cL_together 4 [(0, 9, 12, 13)] 8 1 D g cI cB cZ cQ cJ aO Am [.ref (g 0), .int x1, .ref aO] S f (lcA o.1) o.2.2 (lrow f o) := by
  refine lM_of P (by decide) rfl hg (Nat.le_of_ble_eq_true rfl) ?_
  intro p e s m args below meth c ls C hP hl
  refine lv_aload_n C.1.1.1 C.1.1.2.1 dL_together_0 rfl (lv_at hl 2 rfl) ?_
  refine lv_iconst C.1.1.1 C.1.1.2.1 dL_together_1 rfl ?_
  refine lv_aload_n C.1.1.1 C.1.1.2.1 dL_together_2 rfl (lv_at hl 0 rfl) ?_
  refine lv_iload_n C.1.1.1 C.1.1.2.1 dL_together_3 rfl (lv_at hl 1 rfl) ?_
  refine l_call hg hP (t_preV C.1 ⟨hP.1, va_S.rf⟩ xv_L_66 (ci := 11) rfl rfl (gw_get (q := 0) (k := 0) rfl (x_c11 g cI cB cZ cQ S (k := 0) rfl)) (kX11_together O P N x1 S o hF) (Nat.le_of_ble_eq_true rfl) (Nat.le_of_ble_eq_true rfl) (Nat.le_of_ble_eq_true rfl) (Nat.le_of_ble_eq_true rfl) rfl hl.1 rfl (Nat.le_of_ble_eq_true rfl) dL_together_4) (fun h0 H1 locs1 hP1 hS1 => ?_) (fun h0 q ce H1 locs1 hP1 hS1 hc hv hcl => ?_)
  · rw [show lcA o.1 = 0 from if_pos h0, show lrow f o = _ from if_pos h0]
    refine lv_i2l C.1.1.1 C.1.1.2.1 dL_together_7 rfl ?_
    refine l_lay O.1.1.1 C hP1 hS1 dL_together_8 (fun H1 locs1 hP1 hS1 => ?_)
    refine lv_goto (tgt := 15) C.1.1.1 C.1.1.2.1 dL_together_9 (by decide) ?_
    refine lv_iconst C.1.1.1 C.1.1.2.1 dL_together_15 rfl ?_
    exact l_ret C hP1 hS1 (Nat.le_of_ble_eq_true rfl) (Nat.le_of_ble_eq_true rfl) dL_together_16
  · have h1 : o.1 = 2 := ho.resolve_left h0
    rw [show lcA o.1 = 1 from if_neg h0, show lrow f o = _ from if_neg h0]
    rewrite [h1] at hcl
    refine l_catchA C O lx_13 (Or.inr rfl) (by decide) (fun x hx => by cases hx; decide) hc hv hcl ?_
    refine lv_astore_n C.1.1.1 C.1.1.2.1 dL_together_12 rfl hl (by decide) rfl (fun ls9 hl9 => ?_)
    refine lv_iconst C.1.1.1 C.1.1.2.1 dL_together_13 rfl ?_
    exact l_ret C hP1 hS1 (Nat.le_of_ble_eq_true rfl) (Nat.le_of_ble_eq_true rfl) dL_together_14
theorem kL_rhythm {l : Launch} {D : va_G} {g : Nat → Nat} {cI cB cZ cQ cJ : ClassId} {aO : Nat} {Am : (Nat → Prop) → State → Heap → Prop} {aK aV : Nat → Nat} (O : tO l g cI cB cZ cQ Am aK aV) (P : gAm Am) (hg : ∀ k, k ∈ xord → g k ≠ aO) (N : Nat) (x1 : Int32) (S : gS) (f : Nat → Int64) (o : tR) (hF : fX11_rhythm N x1 S = some o) (ho : o.1 = 0 ∨ o.1 = 2) : lM l yL_rhythm cL_rhythm 4 [(0, 9, 12, 13)] 8 1 D g cI cB cZ cQ cJ aO Am [.ref (g 0), .int x1, .ref aO] S f (lcA o.1) o.2.2 (lrow f o) := by
  refine lM_of P (by decide) rfl hg (Nat.le_of_ble_eq_true rfl) ?_
  intro p e s m args below meth c ls C hP hl
  refine lv_aload_n C.1.1.1 C.1.1.2.1 dL_rhythm_0 rfl (lv_at hl 2 rfl) ?_
  refine lv_iconst C.1.1.1 C.1.1.2.1 dL_rhythm_1 rfl ?_
  refine lv_aload_n C.1.1.1 C.1.1.2.1 dL_rhythm_2 rfl (lv_at hl 0 rfl) ?_
  refine lv_iload_n C.1.1.1 C.1.1.2.1 dL_rhythm_3 rfl (lv_at hl 1 rfl) ?_
  refine l_call hg hP (t_preV C.1 ⟨hP.1, va_S.rf⟩ xv_L_69 (ci := 11) rfl rfl (gw_get (q := 0) (k := 0) rfl (x_c11 g cI cB cZ cQ S (k := 0) rfl)) (kX11_rhythm O P N x1 S o hF) (Nat.le_of_ble_eq_true rfl) (Nat.le_of_ble_eq_true rfl) (Nat.le_of_ble_eq_true rfl) (Nat.le_of_ble_eq_true rfl) rfl hl.1 rfl (Nat.le_of_ble_eq_true rfl) dL_rhythm_4) (fun h0 H1 locs1 hP1 hS1 => ?_) (fun h0 q ce H1 locs1 hP1 hS1 hc hv hcl => ?_)
  · rw [show lcA o.1 = 0 from if_pos h0, show lrow f o = _ from if_pos h0]
    refine lv_i2l C.1.1.1 C.1.1.2.1 dL_rhythm_7 rfl ?_
    refine l_lay O.1.1.1 C hP1 hS1 dL_rhythm_8 (fun H1 locs1 hP1 hS1 => ?_)
    refine lv_goto (tgt := 15) C.1.1.1 C.1.1.2.1 dL_rhythm_9 (by decide) ?_
    refine lv_iconst C.1.1.1 C.1.1.2.1 dL_rhythm_15 rfl ?_
    exact l_ret C hP1 hS1 (Nat.le_of_ble_eq_true rfl) (Nat.le_of_ble_eq_true rfl) dL_rhythm_16
  · have h1 : o.1 = 2 := ho.resolve_left h0
    rw [show lcA o.1 = 1 from if_neg h0, show lrow f o = _ from if_neg h0]
    rewrite [h1] at hcl
    refine l_catchA C O lx_13 (Or.inr rfl) (by decide) (fun x hx => by cases hx; decide) hc hv hcl ?_
    refine lv_astore_n C.1.1.1 C.1.1.2.1 dL_rhythm_12 rfl hl (by decide) rfl (fun ls9 hl9 => ?_)
    refine lv_iconst C.1.1.1 C.1.1.2.1 dL_rhythm_13 rfl ?_
    exact l_ret C hP1 hS1 (Nat.le_of_ble_eq_true rfl) (Nat.le_of_ble_eq_true rfl) dL_rhythm_14
theorem kL_often {l : Launch} {D : va_G} {g : Nat → Nat} {cI cB cZ cQ cJ : ClassId} {aO : Nat} {Am : (Nat → Prop) → State → Heap → Prop} {aK aV : Nat → Nat} (O : tO l g cI cB cZ cQ Am aK aV) (P : gAm Am) (hg : ∀ k, k ∈ xord → g k ≠ aO) (N : Nat) (x1 : Int32) (x2 : Int32) (S : gS) (f : Nat → Int64) (o : tR) (hF : fX11_often N x1 x2 S = some o) (ho : o.1 = 0 ∨ o.1 = 1 ∨ o.1 = 2) : lM l yL_often cL_often 5 [(0, 10, 13, 18), (0, 10, 17, 13)] 8 2 D g cI cB cZ cQ cJ aO Am [.ref (g 0), .int x1, .int x2, .ref aO] S f (lcC o.1) o.2.2 (lrow f o) := by
  refine lM_of P (by decide) rfl hg (Nat.le_of_ble_eq_true rfl) ?_
  intro p e s m args below meth c ls C hP hl
  refine lv_aload_n C.1.1.1 C.1.1.2.1 dL_often_0 rfl (lv_at hl 3 rfl) ?_
  refine lv_iconst C.1.1.1 C.1.1.2.1 dL_often_1 rfl ?_
  refine lv_aload_n C.1.1.1 C.1.1.2.1 dL_often_2 rfl (lv_at hl 0 rfl) ?_
  refine lv_iload_n C.1.1.1 C.1.1.2.1 dL_often_3 rfl (lv_at hl 1 rfl) ?_
  refine lv_iload_n C.1.1.1 C.1.1.2.1 dL_often_4 rfl (lv_at hl 2 rfl) ?_
  refine l_call hg hP (t_preV C.1 ⟨hP.1, va_S.rf⟩ xv_L_72 (ci := 11) rfl rfl (gw_get (q := 0) (k := 0) rfl (x_c11 g cI cB cZ cQ S (k := 0) rfl)) (kX11_often O P N x1 x2 S o hF) (Nat.le_of_ble_eq_true rfl) (Nat.le_of_ble_eq_true rfl) (Nat.le_of_ble_eq_true rfl) (Nat.le_of_ble_eq_true rfl) rfl hl.1 rfl (Nat.le_of_ble_eq_true rfl) dL_often_5) (fun h0 H1 locs1 hP1 hS1 => ?_) (fun h0 q ce H1 locs1 hP1 hS1 hc hv hcl => ?_)
  · rw [show lcC o.1 = 0 from if_pos h0, show lrow f o = _ from if_pos h0]
    refine lv_i2l C.1.1.1 C.1.1.2.1 dL_often_8 rfl ?_
    refine l_lay O.1.1.1 C hP1 hS1 dL_often_9 (fun H1 locs1 hP1 hS1 => ?_)
    refine lv_goto (tgt := 21) C.1.1.1 C.1.1.2.1 dL_often_10 (by decide) ?_
    refine lv_iconst C.1.1.1 C.1.1.2.1 dL_often_21 rfl ?_
    exact l_ret C hP1 hS1 (Nat.le_of_ble_eq_true rfl) (Nat.le_of_ble_eq_true rfl) dL_often_22
  · rw [show lrow f o = _ from if_neg h0]
    rcases ho.resolve_left h0 with h1 | h1
    · rewrite [h1] at hcl ⊢
      refine l_catchA C O lx_18 (Or.inl rfl) (by decide) (fun x hx => by cases hx; decide) hc hv hcl ?_
      refine lv_astore C.1.1.1 C.1.1.2.1 dL_often_13 hl (by decide) rfl (fun ls9 hl9 => ?_)
      refine lv_iconst C.1.1.1 C.1.1.2.1 dL_often_15 rfl ?_
      exact l_ret C hP1 hS1 (Nat.le_of_ble_eq_true rfl) (Nat.le_of_ble_eq_true rfl) dL_often_16
    · rewrite [h1] at hcl ⊢
      refine l_catchB C O lx_18 lx_13 (by decide) (by decide) (fun x hx => by cases hx; rfl) (fun x hx => by cases hx; decide) hc hv hcl ?_
      refine lv_astore C.1.1.1 C.1.1.2.1 dL_often_17 hl (by decide) rfl (fun ls9 hl9 => ?_)
      refine lv_iconst C.1.1.1 C.1.1.2.1 dL_often_19 rfl ?_
      exact l_ret C hP1 hS1 (Nat.le_of_ble_eq_true rfl) (Nat.le_of_ble_eq_true rfl) dL_often_20
theorem kL_toHire {l : Launch} {D : va_G} {g : Nat → Nat} {cI cB cZ cQ cJ : ClassId} {aO : Nat} {Am : (Nat → Prop) → State → Heap → Prop} {aK aV : Nat → Nat} (O : tO l g cI cB cZ cQ Am aK aV) (P : gAm Am) (hg : ∀ k, k ∈ xord → g k ≠ aO) (N : Nat) (x1 : Int32) (x2 : Int32) (x3 : Int32) (S : gS) (f : Nat → Int64) (o : tR) (hF : fX11_toHire N x1 x2 x3 S = some o) (ho : o.1 = 0 ∨ o.1 = 1 ∨ o.1 = 2) : lM l yL_toHire cL_toHire 6 [(0, 12, 15, 18), (0, 12, 19, 13)] 8 3 D g cI cB cZ cQ cJ aO Am [.ref (g 0), .int x1, .int x2, .int x3, .ref aO] S f (lcC o.1) o.2.2 (lrow f o) := by
  refine lM_of P (by decide) rfl hg (Nat.le_of_ble_eq_true rfl) ?_
  intro p e s m args below meth c ls C hP hl
  refine lv_aload C.1.1.1 C.1.1.2.1 dL_toHire_0 (lv_at hl 4 rfl) ?_
  refine lv_iconst C.1.1.1 C.1.1.2.1 dL_toHire_2 rfl ?_
  refine lv_aload_n C.1.1.1 C.1.1.2.1 dL_toHire_3 rfl (lv_at hl 0 rfl) ?_
  refine lv_iload_n C.1.1.1 C.1.1.2.1 dL_toHire_4 rfl (lv_at hl 1 rfl) ?_
  refine lv_iload_n C.1.1.1 C.1.1.2.1 dL_toHire_5 rfl (lv_at hl 2 rfl) ?_
  refine lv_iload_n C.1.1.1 C.1.1.2.1 dL_toHire_6 rfl (lv_at hl 3 rfl) ?_
  refine l_call hg hP (t_preV C.1 ⟨hP.1, va_S.rf⟩ xv_L_75 (ci := 11) rfl rfl (gw_get (q := 0) (k := 0) rfl (x_c11 g cI cB cZ cQ S (k := 0) rfl)) (kX11_toHire O P N x1 x2 x3 S o hF) (Nat.le_of_ble_eq_true rfl) (Nat.le_of_ble_eq_true rfl) (Nat.le_of_ble_eq_true rfl) (Nat.le_of_ble_eq_true rfl) rfl hl.1 rfl (Nat.le_of_ble_eq_true rfl) dL_toHire_7) (fun h0 H1 locs1 hP1 hS1 => ?_) (fun h0 q ce H1 locs1 hP1 hS1 hc hv hcl => ?_)
  · rw [show lcC o.1 = 0 from if_pos h0, show lrow f o = _ from if_pos h0]
    refine lv_i2l C.1.1.1 C.1.1.2.1 dL_toHire_10 rfl ?_
    refine l_lay O.1.1.1 C hP1 hS1 dL_toHire_11 (fun H1 locs1 hP1 hS1 => ?_)
    refine lv_goto (tgt := 23) C.1.1.1 C.1.1.2.1 dL_toHire_12 (by decide) ?_
    refine lv_iconst C.1.1.1 C.1.1.2.1 dL_toHire_23 rfl ?_
    exact l_ret C hP1 hS1 (Nat.le_of_ble_eq_true rfl) (Nat.le_of_ble_eq_true rfl) dL_toHire_24
  · rw [show lrow f o = _ from if_neg h0]
    rcases ho.resolve_left h0 with h1 | h1
    · rewrite [h1] at hcl ⊢
      refine l_catchA C O lx_18 (Or.inl rfl) (by decide) (fun x hx => by cases hx; decide) hc hv hcl ?_
      refine lv_astore C.1.1.1 C.1.1.2.1 dL_toHire_15 hl (by decide) rfl (fun ls9 hl9 => ?_)
      refine lv_iconst C.1.1.1 C.1.1.2.1 dL_toHire_17 rfl ?_
      exact l_ret C hP1 hS1 (Nat.le_of_ble_eq_true rfl) (Nat.le_of_ble_eq_true rfl) dL_toHire_18
    · rewrite [h1] at hcl ⊢
      refine l_catchB C O lx_18 lx_13 (by decide) (by decide) (fun x hx => by cases hx; rfl) (fun x hx => by cases hx; decide) hc hv hcl ?_
      refine lv_astore C.1.1.1 C.1.1.2.1 dL_toHire_19 hl (by decide) rfl (fun ls9 hl9 => ?_)
      refine lv_iconst C.1.1.1 C.1.1.2.1 dL_toHire_21 rfl ?_
      exact l_ret C hP1 hS1 (Nat.le_of_ble_eq_true rfl) (Nat.le_of_ble_eq_true rfl) dL_toHire_22
theorem kL_shared {l : Launch} {D : va_G} {g : Nat → Nat} {cI cB cZ cQ cJ : ClassId} {aO : Nat} {Am : (Nat → Prop) → State → Heap → Prop} {aK aV : Nat → Nat} (O : tO l g cI cB cZ cQ Am aK aV) (P : gAm Am) (hg : ∀ k, k ∈ xord → g k ≠ aO) (N : Nat) (x1 : Int32) (S : gS) (f : Nat → Int64) (o : tR) (hF : fX11_shared N x1 S = some o) (ho : o.1 = 0 ∨ o.1 = 1) : lM l yL_shared cL_shared 4 [(0, 9, 12, 18)] 8 1 D g cI cB cZ cQ cJ aO Am [.ref (g 0), .int x1, .ref aO] S f (lcA o.1) o.2.2 (lrow f o) := by
  refine lM_of P (by decide) rfl hg (Nat.le_of_ble_eq_true rfl) ?_
  intro p e s m args below meth c ls C hP hl
  refine lv_aload_n C.1.1.1 C.1.1.2.1 dL_shared_0 rfl (lv_at hl 2 rfl) ?_
  refine lv_iconst C.1.1.1 C.1.1.2.1 dL_shared_1 rfl ?_
  refine lv_aload_n C.1.1.1 C.1.1.2.1 dL_shared_2 rfl (lv_at hl 0 rfl) ?_
  refine lv_iload_n C.1.1.1 C.1.1.2.1 dL_shared_3 rfl (lv_at hl 1 rfl) ?_
  refine l_call hg hP (t_preV C.1 ⟨hP.1, va_S.rf⟩ xv_L_78 (ci := 11) rfl rfl (gw_get (q := 0) (k := 0) rfl (x_c11 g cI cB cZ cQ S (k := 0) rfl)) (kX11_shared O P N x1 S o hF) (Nat.le_of_ble_eq_true rfl) (Nat.le_of_ble_eq_true rfl) (Nat.le_of_ble_eq_true rfl) (Nat.le_of_ble_eq_true rfl) rfl hl.1 rfl (Nat.le_of_ble_eq_true rfl) dL_shared_4) (fun h0 H1 locs1 hP1 hS1 => ?_) (fun h0 q ce H1 locs1 hP1 hS1 hc hv hcl => ?_)
  · rw [show lcA o.1 = 0 from if_pos h0, show lrow f o = _ from if_pos h0]
    refine lv_i2l C.1.1.1 C.1.1.2.1 dL_shared_7 rfl ?_
    refine l_lay O.1.1.1 C hP1 hS1 dL_shared_8 (fun H1 locs1 hP1 hS1 => ?_)
    refine lv_goto (tgt := 15) C.1.1.1 C.1.1.2.1 dL_shared_9 (by decide) ?_
    refine lv_iconst C.1.1.1 C.1.1.2.1 dL_shared_15 rfl ?_
    exact l_ret C hP1 hS1 (Nat.le_of_ble_eq_true rfl) (Nat.le_of_ble_eq_true rfl) dL_shared_16
  · have h1 : o.1 = 1 := ho.resolve_left h0
    rw [show lcA o.1 = 1 from if_neg h0, show lrow f o = _ from if_neg h0]
    rewrite [h1] at hcl
    refine l_catchA C O lx_18 (Or.inl rfl) (by decide) (fun x hx => by cases hx; decide) hc hv hcl ?_
    refine lv_astore_n C.1.1.1 C.1.1.2.1 dL_shared_12 rfl hl (by decide) rfl (fun ls9 hl9 => ?_)
    refine lv_iconst C.1.1.1 C.1.1.2.1 dL_shared_13 rfl ?_
    exact l_ret C hP1 hS1 (Nat.le_of_ble_eq_true rfl) (Nat.le_of_ble_eq_true rfl) dL_shared_14
theorem kL_has {l : Launch} {D : va_G} {g : Nat → Nat} {cI cB cZ cQ cJ : ClassId} {aO : Nat} {Am : (Nat → Prop) → State → Heap → Prop} {aK aV : Nat → Nat} (O : tO l g cI cB cZ cQ Am aK aV) (P : gAm Am) (hg : ∀ k, k ∈ xord → g k ≠ aO) (N : Nat) (x1 : Int32) (S : gS) (f : Nat → Int64) (o : tR) (hF : fX11_has N x1 S = some o) (ho : o.1 = 0 ∨ o.1 = 1) : lM l yL_has cL_has 4 [(0, 9, 12, 18)] 8 1 D g cI cB cZ cQ cJ aO Am [.ref (g 0), .int x1, .ref aO] S f (lcA o.1) o.2.2 (lrow f o) := by
  refine lM_of P (by decide) rfl hg (Nat.le_of_ble_eq_true rfl) ?_
  intro p e s m args below meth c ls C hP hl
  refine lv_aload_n C.1.1.1 C.1.1.2.1 dL_has_0 rfl (lv_at hl 2 rfl) ?_
  refine lv_iconst C.1.1.1 C.1.1.2.1 dL_has_1 rfl ?_
  refine lv_aload_n C.1.1.1 C.1.1.2.1 dL_has_2 rfl (lv_at hl 0 rfl) ?_
  refine lv_iload_n C.1.1.1 C.1.1.2.1 dL_has_3 rfl (lv_at hl 1 rfl) ?_
  refine l_call hg hP (t_preV C.1 ⟨hP.1, va_S.rf⟩ xv_L_81 (ci := 11) rfl rfl (gw_get (q := 0) (k := 0) rfl (x_c11 g cI cB cZ cQ S (k := 0) rfl)) (kX11_has O P N x1 S o hF) (Nat.le_of_ble_eq_true rfl) (Nat.le_of_ble_eq_true rfl) (Nat.le_of_ble_eq_true rfl) (Nat.le_of_ble_eq_true rfl) rfl hl.1 rfl (Nat.le_of_ble_eq_true rfl) dL_has_4) (fun h0 H1 locs1 hP1 hS1 => ?_) (fun h0 q ce H1 locs1 hP1 hS1 hc hv hcl => ?_)
  · rw [show lcA o.1 = 0 from if_pos h0, show lrow f o = _ from if_pos h0]
    refine lv_i2l C.1.1.1 C.1.1.2.1 dL_has_7 rfl ?_
    refine l_lay O.1.1.1 C hP1 hS1 dL_has_8 (fun H1 locs1 hP1 hS1 => ?_)
    refine lv_goto (tgt := 15) C.1.1.1 C.1.1.2.1 dL_has_9 (by decide) ?_
    refine lv_iconst C.1.1.1 C.1.1.2.1 dL_has_15 rfl ?_
    exact l_ret C hP1 hS1 (Nat.le_of_ble_eq_true rfl) (Nat.le_of_ble_eq_true rfl) dL_has_16
  · have h1 : o.1 = 1 := ho.resolve_left h0
    rw [show lcA o.1 = 1 from if_neg h0, show lrow f o = _ from if_neg h0]
    rewrite [h1] at hcl
    refine l_catchA C O lx_18 (Or.inl rfl) (by decide) (fun x hx => by cases hx; decide) hc hv hcl ?_
    refine lv_astore_n C.1.1.1 C.1.1.2.1 dL_has_12 rfl hl (by decide) rfl (fun ls9 hl9 => ?_)
    refine lv_iconst C.1.1.1 C.1.1.2.1 dL_has_13 rfl ?_
    exact l_ret C hP1 hS1 (Nat.le_of_ble_eq_true rfl) (Nat.le_of_ble_eq_true rfl) dL_has_14
theorem kL_toGive {l : Launch} {D : va_G} {g : Nat → Nat} {cI cB cZ cQ cJ : ClassId} {aO : Nat} {Am : (Nat → Prop) → State → Heap → Prop} {aK aV : Nat → Nat} (O : tO l g cI cB cZ cQ Am aK aV) (P : gAm Am) (hg : ∀ k, k ∈ xord → g k ≠ aO) (N : Nat) (x1 : Int32) (x2 : Int32) (S : gS) (f : Nat → Int64) (o : tR) (hF : fX11_toGive N x1 x2 S = some o) (ho : o.1 = 0 ∨ o.1 = 1 ∨ o.1 = 2) : lM l yL_toGive cL_toGive 5 [(0, 10, 13, 18), (0, 10, 17, 13)] 8 2 D g cI cB cZ cQ cJ aO Am [.ref (g 0), .int x1, .int x2, .ref aO] S f (lcC o.1) o.2.2 (lrow f o) := by
  refine lM_of P (by decide) rfl hg (Nat.le_of_ble_eq_true rfl) ?_
  intro p e s m args below meth c ls C hP hl
  refine lv_aload_n C.1.1.1 C.1.1.2.1 dL_toGive_0 rfl (lv_at hl 3 rfl) ?_
  refine lv_iconst C.1.1.1 C.1.1.2.1 dL_toGive_1 rfl ?_
  refine lv_aload_n C.1.1.1 C.1.1.2.1 dL_toGive_2 rfl (lv_at hl 0 rfl) ?_
  refine lv_iload_n C.1.1.1 C.1.1.2.1 dL_toGive_3 rfl (lv_at hl 1 rfl) ?_
  refine lv_iload_n C.1.1.1 C.1.1.2.1 dL_toGive_4 rfl (lv_at hl 2 rfl) ?_
  refine l_call hg hP (t_preV C.1 ⟨hP.1, va_S.rf⟩ xv_L_84 (ci := 11) rfl rfl (gw_get (q := 0) (k := 0) rfl (x_c11 g cI cB cZ cQ S (k := 0) rfl)) (kX11_toGive O P N x1 x2 S o hF) (Nat.le_of_ble_eq_true rfl) (Nat.le_of_ble_eq_true rfl) (Nat.le_of_ble_eq_true rfl) (Nat.le_of_ble_eq_true rfl) rfl hl.1 rfl (Nat.le_of_ble_eq_true rfl) dL_toGive_5) (fun h0 H1 locs1 hP1 hS1 => ?_) (fun h0 q ce H1 locs1 hP1 hS1 hc hv hcl => ?_)
  · rw [show lcC o.1 = 0 from if_pos h0, show lrow f o = _ from if_pos h0]
    refine lv_i2l C.1.1.1 C.1.1.2.1 dL_toGive_8 rfl ?_
    refine l_lay O.1.1.1 C hP1 hS1 dL_toGive_9 (fun H1 locs1 hP1 hS1 => ?_)
    refine lv_goto (tgt := 21) C.1.1.1 C.1.1.2.1 dL_toGive_10 (by decide) ?_
    refine lv_iconst C.1.1.1 C.1.1.2.1 dL_toGive_21 rfl ?_
    exact l_ret C hP1 hS1 (Nat.le_of_ble_eq_true rfl) (Nat.le_of_ble_eq_true rfl) dL_toGive_22
  · rw [show lrow f o = _ from if_neg h0]
    rcases ho.resolve_left h0 with h1 | h1
    · rewrite [h1] at hcl ⊢
      refine l_catchA C O lx_18 (Or.inl rfl) (by decide) (fun x hx => by cases hx; decide) hc hv hcl ?_
      refine lv_astore C.1.1.1 C.1.1.2.1 dL_toGive_13 hl (by decide) rfl (fun ls9 hl9 => ?_)
      refine lv_iconst C.1.1.1 C.1.1.2.1 dL_toGive_15 rfl ?_
      exact l_ret C hP1 hS1 (Nat.le_of_ble_eq_true rfl) (Nat.le_of_ble_eq_true rfl) dL_toGive_16
    · rewrite [h1] at hcl ⊢
      refine l_catchB C O lx_18 lx_13 (by decide) (by decide) (fun x hx => by cases hx; rfl) (fun x hx => by cases hx; decide) hc hv hcl ?_
      refine lv_astore C.1.1.1 C.1.1.2.1 dL_toGive_17 hl (by decide) rfl (fun ls9 hl9 => ?_)
      refine lv_iconst C.1.1.1 C.1.1.2.1 dL_toGive_19 rfl ?_
      exact l_ret C hP1 hS1 (Nat.le_of_ble_eq_true rfl) (Nat.le_of_ble_eq_true rfl) dL_toGive_20
theorem kL_confessing {l : Launch} {D : va_G} {g : Nat → Nat} {cI cB cZ cQ cJ : ClassId} {aO : Nat} {Am : (Nat → Prop) → State → Heap → Prop} {aK aV : Nat → Nat} (O : tO l g cI cB cZ cQ Am aK aV) (P : gAm Am) (hg : ∀ k, k ∈ xord → g k ≠ aO) (N : Nat) (x1 : Int32) (x2 : Int32) (S : gS) (f : Nat → Int64) (o : tR) (hF : fX11_confessing N x1 x2 S = some o) (ho : o.1 = 0 ∨ o.1 = 1 ∨ o.1 = 2) : lM l yL_confessing cL_confessing 5 [(0, 10, 13, 18), (0, 10, 17, 13)] 8 2 D g cI cB cZ cQ cJ aO Am [.ref (g 0), .int x1, .int x2, .ref aO] S f (lcC o.1) o.2.2 (lrow f o) := by
  refine lM_of P (by decide) rfl hg (Nat.le_of_ble_eq_true rfl) ?_
  intro p e s m args below meth c ls C hP hl
  refine lv_aload_n C.1.1.1 C.1.1.2.1 dL_confessing_0 rfl (lv_at hl 3 rfl) ?_
  refine lv_iconst C.1.1.1 C.1.1.2.1 dL_confessing_1 rfl ?_
  refine lv_aload_n C.1.1.1 C.1.1.2.1 dL_confessing_2 rfl (lv_at hl 0 rfl) ?_
  refine lv_iload_n C.1.1.1 C.1.1.2.1 dL_confessing_3 rfl (lv_at hl 1 rfl) ?_
  refine lv_iload_n C.1.1.1 C.1.1.2.1 dL_confessing_4 rfl (lv_at hl 2 rfl) ?_
  refine l_call hg hP (t_preV C.1 ⟨hP.1, va_S.rf⟩ xv_L_87 (ci := 11) rfl rfl (gw_get (q := 0) (k := 0) rfl (x_c11 g cI cB cZ cQ S (k := 0) rfl)) (kX11_confessing O P N x1 x2 S o hF) (Nat.le_of_ble_eq_true rfl) (Nat.le_of_ble_eq_true rfl) (Nat.le_of_ble_eq_true rfl) (Nat.le_of_ble_eq_true rfl) rfl hl.1 rfl (Nat.le_of_ble_eq_true rfl) dL_confessing_5) (fun h0 H1 locs1 hP1 hS1 => ?_) (fun h0 q ce H1 locs1 hP1 hS1 hc hv hcl => ?_)
  · rw [show lcC o.1 = 0 from if_pos h0, show lrow f o = _ from if_pos h0]
    refine lv_i2l C.1.1.1 C.1.1.2.1 dL_confessing_8 rfl ?_
    refine l_lay O.1.1.1 C hP1 hS1 dL_confessing_9 (fun H1 locs1 hP1 hS1 => ?_)
    refine lv_goto (tgt := 21) C.1.1.1 C.1.1.2.1 dL_confessing_10 (by decide) ?_
    refine lv_iconst C.1.1.1 C.1.1.2.1 dL_confessing_21 rfl ?_
    exact l_ret C hP1 hS1 (Nat.le_of_ble_eq_true rfl) (Nat.le_of_ble_eq_true rfl) dL_confessing_22
  · rw [show lrow f o = _ from if_neg h0]
    rcases ho.resolve_left h0 with h1 | h1
    · rewrite [h1] at hcl ⊢
      refine l_catchA C O lx_18 (Or.inl rfl) (by decide) (fun x hx => by cases hx; decide) hc hv hcl ?_
      refine lv_astore C.1.1.1 C.1.1.2.1 dL_confessing_13 hl (by decide) rfl (fun ls9 hl9 => ?_)
      refine lv_iconst C.1.1.1 C.1.1.2.1 dL_confessing_15 rfl ?_
      exact l_ret C hP1 hS1 (Nat.le_of_ble_eq_true rfl) (Nat.le_of_ble_eq_true rfl) dL_confessing_16
    · rewrite [h1] at hcl ⊢
      refine l_catchB C O lx_18 lx_13 (by decide) (by decide) (fun x hx => by cases hx; rfl) (fun x hx => by cases hx; decide) hc hv hcl ?_
      refine lv_astore C.1.1.1 C.1.1.2.1 dL_confessing_17 hl (by decide) rfl (fun ls9 hl9 => ?_)
      refine lv_iconst C.1.1.1 C.1.1.2.1 dL_confessing_19 rfl ?_
      exact l_ret C hP1 hS1 (Nat.le_of_ble_eq_true rfl) (Nat.le_of_ble_eq_true rfl) dL_confessing_20
theorem kL_see {l : Launch} {D : va_G} {g : Nat → Nat} {cI cB cZ cQ cJ : ClassId} {aO : Nat} {Am : (Nat → Prop) → State → Heap → Prop} {aK aV : Nat → Nat} (O : tO l g cI cB cZ cQ Am aK aV) (P : gAm Am) (hg : ∀ k, k ∈ xord → g k ≠ aO) (N : Nat) (x1 : Int32) (x2 : Int32) (x3 : Int32) (S : gS) (f : Nat → Int64) (o : tR) (hF : fX11_see N x1 x2 x3 S = some o) (ho : o.1 = 0 ∨ o.1 = 1) : lM l yL_see cL_see 6 [(0, 12, 15, 18)] 8 1 D g cI cB cZ cQ cJ aO Am [.ref (g 0), .int x1, .int x2, .int x3, .ref aO] S f (lcA o.1) o.2.2 (lrow f o) := by
  refine lM_of P (by decide) rfl hg (Nat.le_of_ble_eq_true rfl) ?_
  intro p e s m args below meth c ls C hP hl
  refine lv_aload C.1.1.1 C.1.1.2.1 dL_see_0 (lv_at hl 4 rfl) ?_
  refine lv_iconst C.1.1.1 C.1.1.2.1 dL_see_2 rfl ?_
  refine lv_aload_n C.1.1.1 C.1.1.2.1 dL_see_3 rfl (lv_at hl 0 rfl) ?_
  refine lv_iload_n C.1.1.1 C.1.1.2.1 dL_see_4 rfl (lv_at hl 1 rfl) ?_
  refine lv_iload_n C.1.1.1 C.1.1.2.1 dL_see_5 rfl (lv_at hl 2 rfl) ?_
  refine lv_iload_n C.1.1.1 C.1.1.2.1 dL_see_6 rfl (lv_at hl 3 rfl) ?_
  refine l_call hg hP (t_preV C.1 ⟨hP.1, va_S.rf⟩ xv_L_90 (ci := 11) rfl rfl (gw_get (q := 0) (k := 0) rfl (x_c11 g cI cB cZ cQ S (k := 0) rfl)) (kX11_see O P N x1 x2 x3 S o hF) (Nat.le_of_ble_eq_true rfl) (Nat.le_of_ble_eq_true rfl) (Nat.le_of_ble_eq_true rfl) (Nat.le_of_ble_eq_true rfl) rfl hl.1 rfl (Nat.le_of_ble_eq_true rfl) dL_see_7) (fun h0 H1 locs1 hP1 hS1 => ?_) (fun h0 q ce H1 locs1 hP1 hS1 hc hv hcl => ?_)
  · rw [show lcA o.1 = 0 from if_pos h0, show lrow f o = _ from if_pos h0]
    refine lv_i2l C.1.1.1 C.1.1.2.1 dL_see_10 rfl ?_
    refine l_lay O.1.1.1 C hP1 hS1 dL_see_11 (fun H1 locs1 hP1 hS1 => ?_)
    refine lv_goto (tgt := 19) C.1.1.1 C.1.1.2.1 dL_see_12 (by decide) ?_
    refine lv_iconst C.1.1.1 C.1.1.2.1 dL_see_19 rfl ?_
    exact l_ret C hP1 hS1 (Nat.le_of_ble_eq_true rfl) (Nat.le_of_ble_eq_true rfl) dL_see_20
  · have h1 : o.1 = 1 := ho.resolve_left h0
    rw [show lcA o.1 = 1 from if_neg h0, show lrow f o = _ from if_neg h0]
    rewrite [h1] at hcl
    refine l_catchA C O lx_18 (Or.inl rfl) (by decide) (fun x hx => by cases hx; decide) hc hv hcl ?_
    refine lv_astore C.1.1.1 C.1.1.2.1 dL_see_15 hl (by decide) rfl (fun ls9 hl9 => ?_)
    refine lv_iconst C.1.1.1 C.1.1.2.1 dL_see_17 rfl ?_
    exact l_ret C hP1 hS1 (Nat.le_of_ble_eq_true rfl) (Nat.le_of_ble_eq_true rfl) dL_see_18
theorem kL_greedy {l : Launch} {D : va_G} {g : Nat → Nat} {cI cB cZ cQ cJ : ClassId} {aO : Nat} {Am : (Nat → Prop) → State → Heap → Prop} {aK aV : Nat → Nat} (O : tO l g cI cB cZ cQ Am aK aV) (P : gAm Am) (hg : ∀ k, k ∈ xord → g k ≠ aO) (N : Nat) (x1 : Int32) (S : gS) (f : Nat → Int64) (o : tR) (hF : fX11_greedy N x1 S = some o) (ho : o.1 = 0 ∨ o.1 = 1) : lM l yL_greedy cL_greedy 4 [(0, 9, 12, 18)] 8 1 D g cI cB cZ cQ cJ aO Am [.ref (g 0), .int x1, .ref aO] S f (lcA o.1) o.2.2 (lrow f o) := by
  refine lM_of P (by decide) rfl hg (Nat.le_of_ble_eq_true rfl) ?_
  intro p e s m args below meth c ls C hP hl
  refine lv_aload_n C.1.1.1 C.1.1.2.1 dL_greedy_0 rfl (lv_at hl 2 rfl) ?_
  refine lv_iconst C.1.1.1 C.1.1.2.1 dL_greedy_1 rfl ?_
  refine lv_aload_n C.1.1.1 C.1.1.2.1 dL_greedy_2 rfl (lv_at hl 0 rfl) ?_
  refine lv_iload_n C.1.1.1 C.1.1.2.1 dL_greedy_3 rfl (lv_at hl 1 rfl) ?_
  refine l_call hg hP (t_preV C.1 ⟨hP.1, va_S.rf⟩ xv_L_93 (ci := 11) rfl rfl (gw_get (q := 0) (k := 0) rfl (x_c11 g cI cB cZ cQ S (k := 0) rfl)) (kX11_greedy O P N x1 S o hF) (Nat.le_of_ble_eq_true rfl) (Nat.le_of_ble_eq_true rfl) (Nat.le_of_ble_eq_true rfl) (Nat.le_of_ble_eq_true rfl) rfl hl.1 rfl (Nat.le_of_ble_eq_true rfl) dL_greedy_4) (fun h0 H1 locs1 hP1 hS1 => ?_) (fun h0 q ce H1 locs1 hP1 hS1 hc hv hcl => ?_)
  · rw [show lcA o.1 = 0 from if_pos h0, show lrow f o = _ from if_pos h0]
    refine lv_i2l C.1.1.1 C.1.1.2.1 dL_greedy_7 rfl ?_
    refine l_lay O.1.1.1 C hP1 hS1 dL_greedy_8 (fun H1 locs1 hP1 hS1 => ?_)
    refine lv_goto (tgt := 15) C.1.1.1 C.1.1.2.1 dL_greedy_9 (by decide) ?_
    refine lv_iconst C.1.1.1 C.1.1.2.1 dL_greedy_15 rfl ?_
    exact l_ret C hP1 hS1 (Nat.le_of_ble_eq_true rfl) (Nat.le_of_ble_eq_true rfl) dL_greedy_16
  · have h1 : o.1 = 1 := ho.resolve_left h0
    rw [show lcA o.1 = 1 from if_neg h0, show lrow f o = _ from if_neg h0]
    rewrite [h1] at hcl
    refine l_catchA C O lx_18 (Or.inl rfl) (by decide) (fun x hx => by cases hx; decide) hc hv hcl ?_
    refine lv_astore_n C.1.1.1 C.1.1.2.1 dL_greedy_12 rfl hl (by decide) rfl (fun ls9 hl9 => ?_)
    refine lv_iconst C.1.1.1 C.1.1.2.1 dL_greedy_13 rfl ?_
    exact l_ret C hP1 hS1 (Nat.le_of_ble_eq_true rfl) (Nat.le_of_ble_eq_true rfl) dL_greedy_14
theorem kL_look {l : Launch} {D : va_G} {g : Nat → Nat} {cI cB cZ cQ cJ : ClassId} {aO : Nat} {Am : (Nat → Prop) → State → Heap → Prop} {aK aV : Nat → Nat} (O : tO l g cI cB cZ cQ Am aK aV) (P : gAm Am) (hg : ∀ k, k ∈ xord → g k ≠ aO) (N : Nat) (x1 : Int32) (S : gS) (f : Nat → Int64) (o : tR) (hF : fX11_look N x1 S = some o) (ho : o.1 = 0 ∨ o.1 = 1) : lM l yL_look cL_look 4 [(0, 9, 12, 18)] 8 1 D g cI cB cZ cQ cJ aO Am [.ref (g 0), .int x1, .ref aO] S f (lcA o.1) o.2.2 (lrow f o) := by
  refine lM_of P (by decide) rfl hg (Nat.le_of_ble_eq_true rfl) ?_
  intro p e s m args below meth c ls C hP hl
  refine lv_aload_n C.1.1.1 C.1.1.2.1 dL_look_0 rfl (lv_at hl 2 rfl) ?_
  refine lv_iconst C.1.1.1 C.1.1.2.1 dL_look_1 rfl ?_
  refine lv_aload_n C.1.1.1 C.1.1.2.1 dL_look_2 rfl (lv_at hl 0 rfl) ?_
  refine lv_iload_n C.1.1.1 C.1.1.2.1 dL_look_3 rfl (lv_at hl 1 rfl) ?_
  refine l_call hg hP (t_preV C.1 ⟨hP.1, va_S.rf⟩ xv_L_96 (ci := 11) rfl rfl (gw_get (q := 0) (k := 0) rfl (x_c11 g cI cB cZ cQ S (k := 0) rfl)) (kX11_look O P N x1 S o hF) (Nat.le_of_ble_eq_true rfl) (Nat.le_of_ble_eq_true rfl) (Nat.le_of_ble_eq_true rfl) (Nat.le_of_ble_eq_true rfl) rfl hl.1 rfl (Nat.le_of_ble_eq_true rfl) dL_look_4) (fun h0 H1 locs1 hP1 hS1 => ?_) (fun h0 q ce H1 locs1 hP1 hS1 hc hv hcl => ?_)
  · rw [show lcA o.1 = 0 from if_pos h0, show lrow f o = _ from if_pos h0]
    refine lv_i2l C.1.1.1 C.1.1.2.1 dL_look_7 rfl ?_
    refine l_lay O.1.1.1 C hP1 hS1 dL_look_8 (fun H1 locs1 hP1 hS1 => ?_)
    refine lv_goto (tgt := 15) C.1.1.1 C.1.1.2.1 dL_look_9 (by decide) ?_
    refine lv_iconst C.1.1.1 C.1.1.2.1 dL_look_15 rfl ?_
    exact l_ret C hP1 hS1 (Nat.le_of_ble_eq_true rfl) (Nat.le_of_ble_eq_true rfl) dL_look_16
  · have h1 : o.1 = 1 := ho.resolve_left h0
    rw [show lcA o.1 = 1 from if_neg h0, show lrow f o = _ from if_neg h0]
    rewrite [h1] at hcl
    refine l_catchA C O lx_18 (Or.inl rfl) (by decide) (fun x hx => by cases hx; decide) hc hv hcl ?_
    refine lv_astore_n C.1.1.1 C.1.1.2.1 dL_look_12 rfl hl (by decide) rfl (fun ls9 hl9 => ?_)
    refine lv_iconst C.1.1.1 C.1.1.2.1 dL_look_13 rfl ?_
    exact l_ret C hP1 hS1 (Nat.le_of_ble_eq_true rfl) (Nat.le_of_ble_eq_true rfl) dL_look_14
theorem kL_drought {l : Launch} {D : va_G} {g : Nat → Nat} {cI cB cZ cQ cJ : ClassId} {aO : Nat} {Am : (Nat → Prop) → State → Heap → Prop} {aK aV : Nat → Nat} (O : tO l g cI cB cZ cQ Am aK aV) (P : gAm Am) (hg : ∀ k, k ∈ xord → g k ≠ aO) (N : Nat) (x1 : Int32) (x2 : Int32) (x3 : Int32) (S : gS) (f : Nat → Int64) (o : tR) (hF : fX11_drought N x1 x2 x3 S = some o) (ho : o.1 = 0 ∨ o.1 = 1 ∨ o.1 = 2) : lM l yL_drought cL_drought 6 [(0, 12, 15, 18), (0, 12, 19, 13)] 8 3 D g cI cB cZ cQ cJ aO Am [.ref (g 0), .int x1, .int x2, .int x3, .ref aO] S f (lcC o.1) o.2.2 (lrow f o) := by
  refine lM_of P (by decide) rfl hg (Nat.le_of_ble_eq_true rfl) ?_
  intro p e s m args below meth c ls C hP hl
  refine lv_aload C.1.1.1 C.1.1.2.1 dL_drought_0 (lv_at hl 4 rfl) ?_
  refine lv_iconst C.1.1.1 C.1.1.2.1 dL_drought_2 rfl ?_
  refine lv_aload_n C.1.1.1 C.1.1.2.1 dL_drought_3 rfl (lv_at hl 0 rfl) ?_
  refine lv_iload_n C.1.1.1 C.1.1.2.1 dL_drought_4 rfl (lv_at hl 1 rfl) ?_
  refine lv_iload_n C.1.1.1 C.1.1.2.1 dL_drought_5 rfl (lv_at hl 2 rfl) ?_
  refine lv_iload_n C.1.1.1 C.1.1.2.1 dL_drought_6 rfl (lv_at hl 3 rfl) ?_
  refine l_call hg hP (t_preV C.1 ⟨hP.1, va_S.rf⟩ xv_L_99 (ci := 11) rfl rfl (gw_get (q := 0) (k := 0) rfl (x_c11 g cI cB cZ cQ S (k := 0) rfl)) (kX11_drought O P N x1 x2 x3 S o hF) (Nat.le_of_ble_eq_true rfl) (Nat.le_of_ble_eq_true rfl) (Nat.le_of_ble_eq_true rfl) (Nat.le_of_ble_eq_true rfl) rfl hl.1 rfl (Nat.le_of_ble_eq_true rfl) dL_drought_7) (fun h0 H1 locs1 hP1 hS1 => ?_) (fun h0 q ce H1 locs1 hP1 hS1 hc hv hcl => ?_)
  · rw [show lcC o.1 = 0 from if_pos h0, show lrow f o = _ from if_pos h0]
    refine lv_i2l C.1.1.1 C.1.1.2.1 dL_drought_10 rfl ?_
    refine l_lay O.1.1.1 C hP1 hS1 dL_drought_11 (fun H1 locs1 hP1 hS1 => ?_)
    refine lv_goto (tgt := 23) C.1.1.1 C.1.1.2.1 dL_drought_12 (by decide) ?_
    refine lv_iconst C.1.1.1 C.1.1.2.1 dL_drought_23 rfl ?_
    exact l_ret C hP1 hS1 (Nat.le_of_ble_eq_true rfl) (Nat.le_of_ble_eq_true rfl) dL_drought_24
  · rw [show lrow f o = _ from if_neg h0]
    rcases ho.resolve_left h0 with h1 | h1
    · rewrite [h1] at hcl ⊢
      refine l_catchA C O lx_18 (Or.inl rfl) (by decide) (fun x hx => by cases hx; decide) hc hv hcl ?_
      refine lv_astore C.1.1.1 C.1.1.2.1 dL_drought_15 hl (by decide) rfl (fun ls9 hl9 => ?_)
      refine lv_iconst C.1.1.1 C.1.1.2.1 dL_drought_17 rfl ?_
      exact l_ret C hP1 hS1 (Nat.le_of_ble_eq_true rfl) (Nat.le_of_ble_eq_true rfl) dL_drought_18
    · rewrite [h1] at hcl ⊢
      refine l_catchB C O lx_18 lx_13 (by decide) (by decide) (fun x hx => by cases hx; rfl) (fun x hx => by cases hx; decide) hc hv hcl ?_
      refine lv_astore C.1.1.1 C.1.1.2.1 dL_drought_19 hl (by decide) rfl (fun ls9 hl9 => ?_)
      refine lv_iconst C.1.1.1 C.1.1.2.1 dL_drought_21 rfl ?_
      exact l_ret C hP1 hS1 (Nat.le_of_ble_eq_true rfl) (Nat.le_of_ble_eq_true rfl) dL_drought_22
theorem kL_game {l : Launch} {D : va_G} {g : Nat → Nat} {cI cB cZ cQ cJ : ClassId} {aO : Nat} {Am : (Nat → Prop) → State → Heap → Prop} {aK aV : Nat → Nat} (O : tO l g cI cB cZ cQ Am aK aV) (P : gAm Am) (hg : ∀ k, k ∈ xord → g k ≠ aO) (N : Nat) (x1 : Int32) (x2 : Int32) (x3 : Int32) (S : gS) (f : Nat → Int64) (o : tR) (hF : fX11_game N x1 x2 x3 S = some o) (ho : o.1 = 0 ∨ o.1 = 1 ∨ o.1 = 2) : lM l yL_game cL_game 6 [(0, 12, 15, 18), (0, 12, 19, 13)] 8 4 D g cI cB cZ cQ cJ aO Am [.ref (g 0), .int x1, .int x2, .int x3, .ref aO] S f (lcC o.1) o.2.2 (lrow f o) := by
  refine lM_of P (by decide) rfl hg (Nat.le_of_ble_eq_true rfl) ?_
  intro p e s m args below meth c ls C hP hl
  refine lv_aload C.1.1.1 C.1.1.2.1 dL_game_0 (lv_at hl 4 rfl) ?_
  refine lv_iconst C.1.1.1 C.1.1.2.1 dL_game_2 rfl ?_
  refine lv_aload_n C.1.1.1 C.1.1.2.1 dL_game_3 rfl (lv_at hl 0 rfl) ?_
  refine lv_iload_n C.1.1.1 C.1.1.2.1 dL_game_4 rfl (lv_at hl 1 rfl) ?_
  refine lv_iload_n C.1.1.1 C.1.1.2.1 dL_game_5 rfl (lv_at hl 2 rfl) ?_
  refine lv_iload_n C.1.1.1 C.1.1.2.1 dL_game_6 rfl (lv_at hl 3 rfl) ?_
  refine l_call hg hP (t_preV C.1 ⟨hP.1, va_S.rf⟩ xv_L_102 (ci := 11) rfl rfl (gw_get (q := 0) (k := 0) rfl (x_c11 g cI cB cZ cQ S (k := 0) rfl)) (kX11_game O P N x1 x2 x3 S o hF) (Nat.le_of_ble_eq_true rfl) (Nat.le_of_ble_eq_true rfl) (Nat.le_of_ble_eq_true rfl) (Nat.le_of_ble_eq_true rfl) rfl hl.1 rfl (Nat.le_of_ble_eq_true rfl) dL_game_7) (fun h0 H1 locs1 hP1 hS1 => ?_) (fun h0 q ce H1 locs1 hP1 hS1 hc hv hcl => ?_)
  · rw [show lcC o.1 = 0 from if_pos h0, show lrow f o = _ from if_pos h0]
    refine lv_i2l C.1.1.1 C.1.1.2.1 dL_game_10 rfl ?_
    refine l_lay O.1.1.1 C hP1 hS1 dL_game_11 (fun H1 locs1 hP1 hS1 => ?_)
    refine lv_goto (tgt := 23) C.1.1.1 C.1.1.2.1 dL_game_12 (by decide) ?_
    refine lv_iconst C.1.1.1 C.1.1.2.1 dL_game_23 rfl ?_
    exact l_ret C hP1 hS1 (Nat.le_of_ble_eq_true rfl) (Nat.le_of_ble_eq_true rfl) dL_game_24
  · rw [show lrow f o = _ from if_neg h0]
    rcases ho.resolve_left h0 with h1 | h1
    · rewrite [h1] at hcl ⊢
      refine l_catchA C O lx_18 (Or.inl rfl) (by decide) (fun x hx => by cases hx; decide) hc hv hcl ?_
      refine lv_astore C.1.1.1 C.1.1.2.1 dL_game_15 hl (by decide) rfl (fun ls9 hl9 => ?_)
      refine lv_iconst C.1.1.1 C.1.1.2.1 dL_game_17 rfl ?_
      exact l_ret C hP1 hS1 (Nat.le_of_ble_eq_true rfl) (Nat.le_of_ble_eq_true rfl) dL_game_18
    · rewrite [h1] at hcl ⊢
      refine l_catchB C O lx_18 lx_13 (by decide) (by decide) (fun x hx => by cases hx; rfl) (fun x hx => by cases hx; decide) hc hv hcl ?_
      refine lv_astore C.1.1.1 C.1.1.2.1 dL_game_19 hl (by decide) rfl (fun ls9 hl9 => ?_)
      refine lv_iconst C.1.1.1 C.1.1.2.1 dL_game_21 rfl ?_
      exact l_ret C hP1 hS1 (Nat.le_of_ble_eq_true rfl) (Nat.le_of_ble_eq_true rfl) dL_game_22
theorem kL_years {l : Launch} {D : va_G} {g : Nat → Nat} {cI cB cZ cQ cJ : ClassId} {aO : Nat} {Am : (Nat → Prop) → State → Heap → Prop} {aK aV : Nat → Nat} (O : tO l g cI cB cZ cQ Am aK aV) (P : gAm Am) (hg : ∀ k, k ∈ xord → g k ≠ aO) (N : Nat) (x1 : Int32) (x2 : Int32) (x3 : Int32) (S : gS) (f : Nat → Int64) (o : tR) (hF : fX11_years N x1 x2 x3 S = some o) (ho : o.1 = 0 ∨ o.1 = 1 ∨ o.1 = 2) : lM l yL_years cL_years 6 [(0, 12, 15, 18), (0, 12, 19, 13)] 8 2 D g cI cB cZ cQ cJ aO Am [.ref (g 0), .int x1, .int x2, .int x3, .ref aO] S f (lcC o.1) o.2.2 (lrow f o) := by
  refine lM_of P (by decide) rfl hg (Nat.le_of_ble_eq_true rfl) ?_
  intro p e s m args below meth c ls C hP hl
  refine lv_aload C.1.1.1 C.1.1.2.1 dL_years_0 (lv_at hl 4 rfl) ?_
  refine lv_iconst C.1.1.1 C.1.1.2.1 dL_years_2 rfl ?_
  refine lv_aload_n C.1.1.1 C.1.1.2.1 dL_years_3 rfl (lv_at hl 0 rfl) ?_
  refine lv_iload_n C.1.1.1 C.1.1.2.1 dL_years_4 rfl (lv_at hl 1 rfl) ?_
  refine lv_iload_n C.1.1.1 C.1.1.2.1 dL_years_5 rfl (lv_at hl 2 rfl) ?_
  refine lv_iload_n C.1.1.1 C.1.1.2.1 dL_years_6 rfl (lv_at hl 3 rfl) ?_
  refine l_call hg hP (t_preV C.1 ⟨hP.1, va_S.rf⟩ xv_L_105 (ci := 11) rfl rfl (gw_get (q := 0) (k := 0) rfl (x_c11 g cI cB cZ cQ S (k := 0) rfl)) (kX11_years O P N x1 x2 x3 S o hF) (Nat.le_of_ble_eq_true rfl) (Nat.le_of_ble_eq_true rfl) (Nat.le_of_ble_eq_true rfl) (Nat.le_of_ble_eq_true rfl) rfl hl.1 rfl (Nat.le_of_ble_eq_true rfl) dL_years_7) (fun h0 H1 locs1 hP1 hS1 => ?_) (fun h0 q ce H1 locs1 hP1 hS1 hc hv hcl => ?_)
  · rw [show lcC o.1 = 0 from if_pos h0, show lrow f o = _ from if_pos h0]
    refine lv_i2l C.1.1.1 C.1.1.2.1 dL_years_10 rfl ?_
    refine l_lay O.1.1.1 C hP1 hS1 dL_years_11 (fun H1 locs1 hP1 hS1 => ?_)
    refine lv_goto (tgt := 23) C.1.1.1 C.1.1.2.1 dL_years_12 (by decide) ?_
    refine lv_iconst C.1.1.1 C.1.1.2.1 dL_years_23 rfl ?_
    exact l_ret C hP1 hS1 (Nat.le_of_ble_eq_true rfl) (Nat.le_of_ble_eq_true rfl) dL_years_24
  · rw [show lrow f o = _ from if_neg h0]
    rcases ho.resolve_left h0 with h1 | h1
    · rewrite [h1] at hcl ⊢
      refine l_catchA C O lx_18 (Or.inl rfl) (by decide) (fun x hx => by cases hx; decide) hc hv hcl ?_
      refine lv_astore C.1.1.1 C.1.1.2.1 dL_years_15 hl (by decide) rfl (fun ls9 hl9 => ?_)
      refine lv_iconst C.1.1.1 C.1.1.2.1 dL_years_17 rfl ?_
      exact l_ret C hP1 hS1 (Nat.le_of_ble_eq_true rfl) (Nat.le_of_ble_eq_true rfl) dL_years_18
    · rewrite [h1] at hcl ⊢
      refine l_catchB C O lx_18 lx_13 (by decide) (by decide) (fun x hx => by cases hx; rfl) (fun x hx => by cases hx; decide) hc hv hcl ?_
      refine lv_astore C.1.1.1 C.1.1.2.1 dL_years_19 hl (by decide) rfl (fun ls9 hl9 => ?_)
      refine lv_iconst C.1.1.1 C.1.1.2.1 dL_years_21 rfl ?_
      exact l_ret C hP1 hS1 (Nat.le_of_ble_eq_true rfl) (Nat.le_of_ble_eq_true rfl) dL_years_22

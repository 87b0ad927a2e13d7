/-! what the law's start gives: classes and array classes (printed by wip/whole/mkstart.py) -/
theorem st_w12 : Cond.instantiable RX12 66 ∈ gT ∧ Cond.initialized RX12 ∈ gT := ⟨gT_c6 145 rfl rfl, gT_c1 13 rfl rfl⟩
theorem st_wl : Cond.classLink RL 8 RX11 ∈ gT ∧ Cond.classLink RL 109 RX12 ∈ gT ∧ Cond.methodLink RL 108 yX11_init ∈ gT ∧ Cond.methodLink RL 111 yX12_init ∈ gT := ⟨gT_c1 27 rfl rfl, gT_c6 144 rfl rfl, gT_c1 29 rfl rfl, gT_c6 146 rfl rfl⟩
theorem st_wa : Cond.arrayClass .int ∈ gT ∧ Cond.arrayClass .byte ∈ gT ∧ Cond.arrayClass .boolean ∈ gT ∧ Cond.arrayClass .long ∈ gT := ⟨gT_c1 100 rfl rfl, gT_c1 73 rfl rfl, gT_c1 101 rfl rfl, gT_c9 77 rfl rfl⟩
theorem st_wo : Cond.arrayOver (.array .int) ∈ lw_tbl ∧ Cond.arrayOver (.object "java/lang/String") ∈ lw_tbl := ⟨List.mem_of_getElem? (i := 456) (by decide +kernel), List.mem_of_getElem? (i := 1457) (by decide +kernel)⟩
theorem st_arr {s : State} {args : Array Value} {ty : FieldType} (h : (Cond.arrayClass ty).before args s = true) (hn : ∀ C, ty ≠ .object C) : ∃ cA : ClassId, ArrOfT s cA ty ∧ va_RA s cA ty := by
  obtain ⟨cA, kA, comp, h1, h2, h3⟩ := Cond.arrayClass_spec h
  refine ⟨cA, fun n z => ⟨fun k h => (by cases h), kA, h2, comp, h3⟩, ?_⟩
  cases ty with
  | object C => exact absurd rfl (hn C)
  | _ => exact h1
theorem st_K {s : State} {args : Array Value} (hts : ∀ w ∈ gT, w.before args s = true) (hB : (Cond.arrayOver (.array .int)).before args s = true) (hS : (Cond.arrayOver (.object "java/lang/String")).before args s = true) : ∃ (D : va_G) (cI cB cZ cQ cS cJ : ClassId), va_K D vwCl (xtys cI cB cZ cQ) s ∧ va_K D vwCl (mtys cI cS) s ∧ va_K D vwCl [(cJ, .long)] s := by
  obtain ⟨c0, i0, k0⟩ := u_known (C := RX0) (T := TX0) (N := 2) (n := 2) hts x_in0 (hts _ c_is0.1)
  obtain ⟨c1, i1, k1⟩ := u_known (C := RX1) (T := TX1) (N := 4) (n := 4) hts x_in1 (hts _ c_is1.1)
  obtain ⟨c2, i2, k2⟩ := u_known (C := RX2) (T := TX2) (N := 6) (n := 6) hts x_in2 (hts _ c_is2.1)
  obtain ⟨c3, i3, k3⟩ := u_known (C := RX3) (T := TX3) (N := 4) (n := 4) hts x_in3 (hts _ c_is3.1)
  obtain ⟨c4, i4, k4⟩ := u_known (C := RX4) (T := TX4) (N := 4) (n := 4) hts x_in4 (hts _ c_is4.1)
  obtain ⟨c5, i5, k5⟩ := u_known (C := RX5) (T := TX5) (N := 4) (n := 4) hts x_in5 (hts _ c_is5.1)
  obtain ⟨c6, i6, k6⟩ := u_known (C := RX6) (T := TX6) (N := 4) (n := 4) hts x_in6 (hts _ c_is6.1)
  obtain ⟨c7, i7, k7⟩ := u_known (C := RX7) (T := TX7) (N := 6) (n := 6) hts x_in7 (hts _ c_is7.1)
  obtain ⟨c8, i8, k8⟩ := u_known (C := RX8) (T := TX8) (N := 7) (n := 7) hts x_in8 (hts _ c_is8.1)
  obtain ⟨c9, i9, k9⟩ := u_known (C := RX9) (T := TX9) (N := 15) (n := 15) hts x_in9 (hts _ c_is9.1)
  obtain ⟨c10, i10, k10⟩ := u_known (C := RX10) (T := TX10) (N := 8) (n := 8) hts x_in10 (hts _ c_is10.1)
  obtain ⟨c11, i11, k11⟩ := u_known (C := RX11) (T := TX11) (N := 10) (n := 10) hts x_in11 (hts _ c_is11.1)
  obtain ⟨c12, i12, k12⟩ := u_known (C := RX12) (T := TX12) (N := 66) (n := 66) hts m_in (hts _ st_w12.1)
  obtain ⟨cI, aI, bI⟩ := st_arr (hts _ st_wa.1) (fun C h => by cases h)
  obtain ⟨cB, aB, bB⟩ := st_arr (hts _ st_wa.2.1) (fun C h => by cases h)
  obtain ⟨cZ, aZ, bZ⟩ := st_arr (hts _ st_wa.2.2.1) (fun C h => by cases h)
  obtain ⟨cJ, aJ, bJ⟩ := st_arr (hts _ st_wa.2.2.2) (fun C h => by cases h)
  obtain ⟨cq, cQ, kQ, q1, q2, q3, q4, q5⟩ := aoa_spec (t := .int) (u := s) hB
  obtain ⟨cs, cS, kS, s1, s2, s3, s4, s5⟩ := Cond.arrayOver_spec hS
  have aQ : ArrOfT s cQ (.array .int) := fun n z => ⟨fun k h => (by cases h), kQ, q3, cq, q4⟩
  have bQ : va_RA s cQ (.array .int) := q5
  have aS : ArrOfT s cS (.object "java/lang/String") := fun n z => ⟨fun k h => (by cases h), kS, s3, cs, s4⟩
  have bS : va_RA s cS (.object "java/lang/String") := ⟨kS, cs, s3, s4, s1, s5⟩
  have hC : ∀ (k : Nat) (q : vw_C), vwCl[k]? = some q → u_Kn s q.1 q.2.1 q.2.2 ([c0, c1, c2, c3, c4, c5, c6, c7, c8, c9, c10, c11, c12].getD k c0) ([i0, i1, i2, i3, i4, i5, i6, i7, i8, i9, i10, i11, i12].getD k i0) := by
    intro k q hq
    match k, hq with
    | 0, hq => cases hq; exact k0
    | 1, hq => cases hq; exact k1
    | 2, hq => cases hq; exact k2
    | 3, hq => cases hq; exact k3
    | 4, hq => cases hq; exact k4
    | 5, hq => cases hq; exact k5
    | 6, hq => cases hq; exact k6
    | 7, hq => cases hq; exact k7
    | 8, hq => cases hq; exact k8
    | 9, hq => cases hq; exact k9
    | 10, hq => cases hq; exact k10
    | 11, hq => cases hq; exact k11
    | 12, hq => cases hq; exact k12
    | k + 13, hq => simp [vwCl] at hq
  refine ⟨(fun k => [c0, c1, c2, c3, c4, c5, c6, c7, c8, c9, c10, c11, c12].getD k c0, fun k => [i0, i1, i2, i3, i4, i5, i6, i7, i8, i9, i10, i11, i12].getD k i0), cI, cB, cZ, cQ, cS, cJ, ⟨hC, ?_⟩, ⟨hC, ?_⟩, ⟨hC, ?_⟩⟩
  · intro k q hq
    match k, hq with
    | 0, hq => cases hq; exact ⟨aI, bI⟩
    | 1, hq => cases hq; exact ⟨aB, bB⟩
    | 2, hq => cases hq; exact ⟨aZ, bZ⟩
    | 3, hq => cases hq; exact ⟨aQ, bQ⟩
    | k + 4, hq => simp at hq
  · intro k q hq
    match k, hq with
    | 0, hq => cases hq; exact ⟨aI, bI⟩
    | 1, hq => cases hq; exact ⟨aS, bS⟩
    | k + 2, hq => simp at hq
  · intro k q hq
    match k, hq with
    | 0, hq => cases hq; exact ⟨aJ, bJ⟩
    | k + 1, hq => simp at hq

/-! what the law's start gives: the texts, statics, what is not castable (printed by wip/whole/mkstart.py) -/
noncomputable def stF : List Cond := flatC (Jvm.Cond.and given_1 narrow_1)
noncomputable def stT (i : Nat) : Term := match sW[i]? with
  | some q => .string q.1 q.2.1
  | none => .string "" 0
noncomputable def stW (i : Nat) : List Cond := [.exactly (stT i) "java/lang/String", .eq (.field (stT i) "java/lang/String" "coder" "B") (.int 0), .arrayOf (.field (stT i) "java/lang/String" "value" "[B") .byte, .eq (.length (.field (stT i) "java/lang/String" "value" "[B")) (.int (Int32.ofNat (sLen i)))] ++ (List.range (sLen i)).map (fun j => .eq (.elem (.field (stT i) "java/lang/String" "value" "[B") (.int (Int32.ofNat j))) (.int (sByt i j)))
noncomputable def stO : List Nat := [39, 73, 86, 96, 106, 115, 124, 131, 140, 149, 156, 163, 172, 180, 189, 197, 206, 213, 219, 228, 245, 263, 291, 308, 335, 355, 385, 409, 436, 447, 458, 466, 476, 485, 495, 503, 512, 522, 532, 542, 552, 560, 568, 575, 585]
theorem stW_ok : (List.range 45).all (fun i => decide (stW i = (stF.drop (stO.getD i 0)).take (4 + sLen i))) = true := by decide +kernel
theorem stW_in {i : Nat} (hi : i < 45) : ∀ w ∈ stW i, w ∈ stF := by
  intro w hw
  have h := of_decide_eq_true (List.all_eq_true.mp stW_ok i (List.mem_range.mpr hi))
  rewrite [h] at hw
  exact List.mem_of_mem_drop (List.mem_of_mem_take hw)
theorem stR_ok : (List.range 45).all (fun i => match sW[i]?, [739, 793, 884, 924, 925, 930, 940, 945, 951, 973, 1002, 1003, 1004, 1005, 1006, 1007, 1008, 1009, 1010, 1049, 1068, 1087, 1100, 1106, 1161, 1165, 1235, 1416, 1458, 1459, 1460, 1461, 1462, 1463, 1464, 1465, 1466, 1715, 1716, 1717, 1754, 1775, 1776, 1785, 1790][i]? with
  | some q, some j => decide (lw_tbl[j]? = some (Cond.stringRef q.1 q.2.1 q.2.2))
  | _, _ => false) = true := by decide +kernel
theorem st_ws : Cond.laysStatic "java/lang/String" "COMPACT_STRINGS" "Z" ∈ lw_tbl ∧ Cond.initialized "java/lang/String" ∈ lw_tbl ∧ Cond.laysStatic "jdk/internal/util/Preconditions" "SIOOBE_FORMATTER" "Ljava/util/function/BiFunction;" ∈ lw_tbl ∧ Cond.initialized "jdk/internal/util/Preconditions" ∈ lw_tbl := ⟨List.mem_of_getElem? (i := 807) (by decide +kernel), List.mem_of_getElem? (i := 125) (by decide +kernel), List.mem_of_getElem? (i := 846) (by decide +kernel), List.mem_of_getElem? (i := 128) (by decide +kernel)⟩
theorem st_wf : Cond.eq (.static "java/lang/String" "COMPACT_STRINGS" "Z") (.int 1) ∈ stF ∧ Cond.isRef (.static "jdk/internal/util/Preconditions" "SIOOBE_FORMATTER" "Ljava/util/function/BiFunction;") ∈ stF := ⟨List.mem_of_getElem? (i := 6) (by decide +kernel), List.mem_of_getElem? (i := 7) (by decide +kernel)⟩
theorem st_one {aK aV : Nat → Nat} {A : Nat → Prop} {U : State} {H : Heap} {n : Nat} {bs : List Int32} (h : vk_S 1 [n] [bs] aK aV A U H) : va_O "java/lang/String" (aK 0) A U H ∧ va_OF "java/lang/String" "coder" "B" (.int 0) (aK 0) A U H ∧ va_OF "java/lang/String" "value" "[B" (.ref (aV 0)) (aK 0) A U H ∧ va_T .byte (aV 0) n (fun j => .int (bs.getD j 0)) A U H := h.1 0 (by omega)
theorem sW_len : sW.length = 45 := by decide +kernel
theorem sLen_lt {i : Nat} : sLen i < 2 ^ 31 := by
  unfold sLen
  by_cases h : i < sB.length
  · have h2 : sB.all (fun x => decide (x.length < 2 ^ 31)) = true := by decide +kernel
    rw [List.getD_eq_getElem?_getD, List.getElem?_eq_getElem h]
    exact of_decide_eq_true (List.all_eq_true.mp h2 _ (List.getElem_mem h))
  · rw [List.getD_eq_getElem?_getD, List.getElem?_eq_none (Nat.not_lt.mp h)]
    exact Nat.lt_of_lt_of_le Nat.zero_lt_one (Nat.one_le_two_pow)
theorem st_S {s : State} {args : Array Value} (hts : ∀ w ∈ lw_tbl, w.before args s = true) (hf : ∀ w ∈ stF, w.before args s = true) : ∃ aK aV : Nat → Nat, sAll aK aV (fun q => s.heap.size ≤ q) s s.heap := by
  have hA : ∀ a : Nat, a < s.heap.size → ¬ s.heap.size ≤ a := fun a h => Nat.not_le.mpr h
  have h0 : ∀ i : Nat, ∃ q : Nat × Nat, i < 45 → (va_O "java/lang/String" q.1 (fun q => s.heap.size ≤ q) s s.heap ∧ va_OF "java/lang/String" "coder" "B" (.int 0) q.1 (fun q => s.heap.size ≤ q) s s.heap ∧ va_OF "java/lang/String" "value" "[B" (.ref q.2) q.1 (fun q => s.heap.size ≤ q) s s.heap ∧ va_T .byte q.2 (sLen i) (fun j => .int (sByt i j)) (fun q => s.heap.size ≤ q) s s.heap) ∧ (stT i).eval args s none [] s = some (.ref q.1) := by
    intro i
    by_cases hi : i < 45
    · have hw := fun w h => hf w (stW_in hi w h)
      obtain ⟨adK, adV, h1, h2⟩ := vk_Sof (args := args) (s := s) (N := 1) (tm := fun _ => stT i) (len := [sLen i]) (byt := [sB.getD i []]) (A := fun q => s.heap.size ≤ q) (fun j hj => by cases j with
        | zero => exact sLen_lt
        | succ j => omega) (fun j hj => hw _ (List.mem_append_left _ (List.mem_of_getElem? (i := 0) rfl))) (fun j hj => hw _ (List.mem_append_left _ (List.mem_of_getElem? (i := 1) rfl))) (fun j hj => hw _ (List.mem_append_left _ (List.mem_of_getElem? (i := 2) rfl)))
        (fun j hj => by cases j with
        | zero => exact hw _ (List.mem_append_left _ (List.mem_of_getElem? (i := 3) rfl))
        | succ j => omega)
        (fun j hj k hk => by cases j with
        | zero => exact hw _ (List.mem_append_right _ (List.mem_map.mpr ⟨k, List.mem_range.mpr hk, rfl⟩))
        | succ j => omega) (fun i j hi hj hn => by omega) hA
      exact ⟨(adK 0, adV 0), fun _ => ⟨st_one h1, h2 0 (by omega)⟩⟩
    · exact ⟨(0, 0), fun h => absurd h hi⟩
  refine ⟨fun i => (h0 i).choose.1, fun i => (h0 i).choose.2, fun i hi => ((h0 i).choose_spec (of_decide_eq_true hi)).1, fun i q hi => ?_, ?_, ?_⟩
  · have hl : i < 45 := by
      have := (List.getElem?_eq_some_iff.mp hi).1
      rewrite [sW_len] at this
      exact this
    have h1 := ((h0 i).choose_spec hl).2
    have h2 := List.all_eq_true.mp stR_ok i (List.mem_range.mpr hl)
    rewrite [hi] at h2
    have ht : stT i = .string q.1 q.2.1 := by
      unfold stT
      rw [hi]
    refine vk_R.of (A := args) ?_ ((congrArg (Term.eval args s none [] s) ht.symm).trans h1)
    revert h2
    cases h3 : ([739, 793, 884, 924, 925, 930, 940, 945, 951, 973, 1002, 1003, 1004, 1005, 1006, 1007, 1008, 1009, 1010, 1049, 1068, 1087, 1100, 1106, 1161, 1165, 1235, 1416, 1458, 1459, 1460, 1461, 1462, 1463, 1464, 1465, 1466, 1715, 1716, 1717, 1754, 1775, 1776, 1785, 1790] : List Nat)[i]? with
    | none => intro h2; cases h2
    | some j => intro h2; exact hts _ (List.mem_of_getElem? (of_decide_eq_true h2))
  · refine va_Zof (hts _ st_ws.1) (hts _ st_ws.2.1) ?_ hA
    have h9 := hf _ st_wf.1
    exact va_eqi h9
  · exact va_Zqof (hts _ st_ws.2.2.1) (hts _ st_ws.2.2.2) (hf _ st_wf.2) hA
theorem st_wn : Cond.not (.castable (tE 2) (tE 1)) ∈ stF ∧ Cond.isRef (.static Bundle.tN "UNASSIGNED_STACK" Bundle.steD) ∈ stF ∧ Cond.isRef (.static Bundle.tN "SUPPRESSED_SENTINEL" Bundle.listD) ∈ stF := ⟨List.mem_of_getElem? (i := 38) (by decide +kernel), List.mem_of_getElem? (i := 4) (by decide +kernel), List.mem_of_getElem? (i := 5) (by decide +kernel)⟩
theorem st_wt : Cond.laysStatic Bundle.tN "UNASSIGNED_STACK" Bundle.steD ∈ lw_tbl ∧ Cond.laysStatic Bundle.tN "SUPPRESSED_SENTINEL" Bundle.listD ∈ lw_tbl ∧ Cond.initialized Bundle.tN ∈ lw_tbl := ⟨List.mem_of_getElem? (i := 726) (by decide +kernel), List.mem_of_getElem? (i := 728) (by decide +kernel), List.mem_of_getElem? (i := 120) (by decide +kernel)⟩
theorem st_tW : tW = [1042, 701, 703, 705, 707].filterMap (fun i => lw_tbl[i]?) := by decide +kernel
theorem st_xN : xNest = [143, 149, 155, 159, 161, 163, 182, 195, 209, 210, 211, 213, 214, 215, 217, 218, 220, 221, 222, 223, 225, 226, 227, 229, 230, 231, 232, 233, 235, 236, 237, 238, 240, 241, 243, 244, 246, 247, 249, 251, 253, 255, 256, 257, 259, 260, 261, 294, 296, 299, 311, 317, 322, 323, 325, 326, 328, 329, 331, 332, 333, 335, 336, 338, 339, 355, 361, 362, 370, 378, 379, 390, 391, 393, 395, 396, 398, 409, 412, 417, 419, 420, 422, 424, 426, 428, 429, 451, 459, 461, 463, 475, 484, 486, 488, 503, 602, 923, 1073, 1289].filterMap (fun i => lw_tbl[i]?) := by decide +kernel
theorem st_xo : (xNest.all (fun w => w.onTables) && tW.all (fun w => w.onTables)) = true := by decide +kernel
theorem st_mem {ws : List Cond} {ps : List Nat} (h : ws = ps.filterMap (fun i => lw_tbl[i]?)) : ∀ w ∈ ws, w ∈ lw_tbl := by
  intro w hw
  rewrite [h] at hw
  obtain ⟨i, -, hi⟩ := List.mem_filterMap.mp hw
  exact List.mem_of_getElem? hi
theorem st_T {s : State} {args : Array Value} (hts : ∀ w ∈ lw_tbl, w.before args s = true) (hf : ∀ w ∈ stF, w.before args s = true) : tAll (fun q => s.heap.size ≤ q) s s.heap ∧ (∀ w ∈ xNest, va_Nw w s) ∧ va_Nc (tE 2) (tE 1) s := by
  have hA : ∀ a : Nat, a < s.heap.size → ¬ s.heap.size ≤ a := fun a h => Nat.not_le.mpr h
  have ho := (Bool.and_eq_true _ _).mp st_xo
  refine ⟨⟨fun w hw => va_Nw.of (List.all_eq_true.mp ho.2 w hw) (hts w (st_mem st_tW w hw)), vx_Zqof (hts _ st_wt.1) (hts _ st_wt.2.2) (hf _ st_wn.2.1) hA, vx_Zqof (hts _ st_wt.2.1) (hts _ st_wt.2.2) (hf _ st_wn.2.2) hA⟩, fun w hw => va_Nw.of (List.all_eq_true.mp ho.1 w hw) (hts w (st_mem st_xN w hw)), va_Nc.of (hf _ st_wn.1)⟩

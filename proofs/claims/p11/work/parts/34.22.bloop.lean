/-! the law's loop (printed by wip/whole/mklawc.py) -/
theorem lb_bmod {z : Int} (h1 : -2147483648 ≤ z) (h2 : z < 2147483648) : z.bmod (2 ^ 32) = z := by
  rw [Int.bmod_def]
  omega
theorem L_le {j L : Nat} (hL : L ≤ 3072) (hj : 6 * j ≤ 4000) (h : ¬ nI L - 6 < nI (6 * j)) : 6 * j + 6 ≤ L := by
  rewrite [Int32.lt_iff_toInt_lt, Int32.toInt_sub, nI_toInt (by omega), nI_toInt (by omega)] at h
  have e : (6 : Int32).toInt = 6 := by decide
  rewrite [e, lb_bmod (by omega) (by omega)] at h
  omega
theorem L_Lin {j L : Nat} (hL : L ≤ 3072) (h : 6 * j + 6 ≤ L) : Lin (nI (6 * j)) L := by
  have e : ∀ k : Nat, k < 6 → vp_in (nI (6 * j) + nI k) L := fun k hk => by
    rw [nI_add]
    exact vp_in_nI (by omega) (by omega)
  refine ⟨vp_in_nI (by omega) (by omega), e 1 (by decide), e 2 (by decide), e 3 (by decide), e 4 (by decide), e 5 (by decide)⟩
section LAW4
variable {p : Program} {l : Launch} {e : Env} {s : State} {m : MethodId} {below : List Frame} {meth : Method} {c : Code} {Am Am2 : (Nat → Prop) → State → Heap → Prop} {D : va_G} {g g2 : Nat → Nat} {cI cB cZ cQ cS cJ : ClassId} {aK aV : Nat → Nat} {aO b L : Nat} {xs : Nat → Int32} {J : gS → gS → Prop}
theorem L_loop (C : LCx p l s m #[Value.ref b] meth c D g g2 cI cB cZ cQ cS cJ aK aV aO b L xs Am Am2) (hJL : Laws J) (hL : L ≤ 3072) : ∀ (n j : Nat), L ≤ 6 * j + 6 * n → 6 * j ≤ 4000 → ∀ (H : Heap) (locs : List Loc) (ls : Array Slot) (cs sl : Nat) (SX SM : gS) (f : Nat → Int64), J SX SM → LX D g g2 cI cB cZ cQ cS cJ aK aO b L xs SX SM f s H locs → lv_has ls 7 (Llv b (g 0) (g2 99) aO (nI (6 * j))) → cs + 4 * n ≤ 601024 → sl + 24 * n ≤ 7293034 →
    W p l e room_1 s m #[Value.ref b] below meth c H locs cs sl (lw_Z below #[Value.ref b] s) (F0 m 23 ls []) := by
  intro n
  induction n with
  | zero =>
    intro j h1 h2 H locs ls cs sl SX SM f hJ X hl hcs hsl
    have hs := C.2.2.2.2.1
    have hb9 : ¬ gA xord g s.heap.size b := by rw [hs.allX]; exact Nat.not_le.mpr hs.2.2.2
    have hl0 := hl
    unfold Llv at hl
    refine lv_iload C.1.1.1 C.1.1.2.1 dL_law_23 (lv_at hl 0 rfl) ?_
    refine lv_aload_n C.1.1.1 C.1.1.2.1 dL_law_25 rfl (lv_at hl 4 rfl) ?_
    refine va_slen (A := gA xord g s.heap.size) C.1.1.1 C.1.1.2.1 C.2.2.2.2.2.2.2 hs.2.2.2 hb9 X.1.2 dL_law_26 ?_
    refine lv_bipush (v := 6) C.1.1.1 C.1.1.2.1 dL_law_27 rfl ?_
    refine lv_isub C.1.1.1 C.1.1.2.1 dL_law_29 ?_
    refine lv_icmp_gt (tgt := 1505) C.1.1.1 C.1.1.2.1 dL_law_30 (by decide) (fun _ => ?_) (fun hz => ?_)
    · refine lv_iconst C.1.1.1 C.1.1.2.1 dL_law_1505 rfl ?_
      refine va_forget (fun q hq => ?_) (W.widen (k := 601024) (n := 7293034) (by omega) (by omega) (lw_ret C.1.1.1 C.1.1.2.1 C.1.2.2.1 C.1.2.2.2.1 dL_law_1506))
      have h9 := X.1.2.2.2 q hq
      rewrite [hs.allX] at h9
      exact h9
    · have h9 := L_le hL h2 hz
      omega
  | succ n ih =>
    intro j h1 h2 H locs ls cs sl SX SM f hJ X hl hcs hsl
    have hs := C.2.2.2.2.1
    have hb9 : ¬ gA xord g s.heap.size b := by rw [hs.allX]; exact Nat.not_le.mpr hs.2.2.2
    have hl0 := hl
    unfold Llv at hl
    refine lv_iload C.1.1.1 C.1.1.2.1 dL_law_23 (lv_at hl 0 rfl) ?_
    refine lv_aload_n C.1.1.1 C.1.1.2.1 dL_law_25 rfl (lv_at hl 4 rfl) ?_
    refine va_slen (A := gA xord g s.heap.size) C.1.1.1 C.1.1.2.1 C.2.2.2.2.2.2.2 hs.2.2.2 hb9 X.1.2 dL_law_26 ?_
    refine lv_bipush (v := 6) C.1.1.1 C.1.1.2.1 dL_law_27 rfl ?_
    refine lv_isub C.1.1.1 C.1.1.2.1 dL_law_29 ?_
    refine lv_icmp_gt (tgt := 1505) C.1.1.1 C.1.1.2.1 dL_law_30 (by decide) (fun _ => ?_) (fun hz => ?_)
    · refine lv_iconst C.1.1.1 C.1.1.2.1 dL_law_1505 rfl ?_
      refine va_forget (fun q hq => ?_) (W.widen (k := 601024) (n := 7293034) (by omega) (by omega) (lw_ret C.1.1.1 C.1.1.2.1 C.1.2.2.1 C.1.2.2.2.1 dL_law_1506))
      have h9 := X.1.2.2.2 q hq
      rewrite [hs.allX] at h9
      exact h9
    have h9 := L_le hL h2 hz
    have hi := L_Lin hL h9
    have kk : ∀ (H1 : Heap) (locs1 : List Loc) (ls1 : Array Slot) (SX1 SM1 : gS) (f1 : Nat → Int64), J SX1 SM1 → LX D g g2 cI cB cZ cQ cS cJ aK aO b L xs SX1 SM1 f1 s H1 locs1 → lv_has ls1 7 (Llv b (g 0) (g2 99) aO (nI (6 * j))) → W p l e room_1 s m #[Value.ref b] below meth c H1 locs1 (cs + 4) (sl + 24) (lw_Z below #[Value.ref b] s) (F0 m 1499 ls1 []) := by
      intro H1 locs1 ls1 SX1 SM1 f1 hJ1 X1 hl1
      unfold Llv at hl1
      refine lv_iinc (k := 0) (v := nI (6 * (j + 1))) C.1.1.1 C.1.1.2.1 dL_law_1499 hl1 rfl ?_ (by decide) rfl (fun ls2 hl2 => ?_)
      · show nI (6 * j) + nI 6 = nI (6 * (j + 1))
        rw [nI_add]
        rfl
      refine lv_goto (tgt := 23) C.1.1.1 C.1.1.2.1 dL_law_1502 (by decide) ?_
      exact ih (j + 1) (by omega) (by omega) H1 locs1 ls2 (cs + 4) (sl + 24) SX1 SM1 f1 hJ1 X1 hl2 (by omega) (by omega)
    refine lv_aload_n C.1.1.1 C.1.1.2.1 dL_law_33 rfl (lv_at hl 4 rfl) ?_
    refine lv_iload C.1.1.1 C.1.1.2.1 dL_law_34 (lv_at hl 0 rfl) ?_
    refine L_ld C X hi.1 dL_law_36 ?_
    refine lv_bipush (v := 63) C.1.1.1 C.1.1.2.1 dL_law_37 rfl ?_
    refine lv_iand C.1.1.1 C.1.1.2.1 dL_law_39 ?_
    have hc4 : cs + 4 ≤ 601024 := by omega
    have hs4 : sl + 24 ≤ 7293034 := by omega
    generalize hsw : (xs (Int32.toNatClampNeg (nI (6 * j))) &&& 63 : Int32) = sw
    by_cases hz_0 : sw = 0
    · refine lv_tableIn (off := 164) (tgt := 204) C.1.1.1 C.1.1.2.1 dL_law_40 (by rw [hz_0]; decide) (by rw [hz_0]; decide) (by rw [hz_0]; decide) (by decide) ?_
      exact LB_feed C hi X hJ hl0 hc4 hs4 hJL.1 kk
    by_cases hz_1 : sw = 1
    · refine lv_tableIn (off := 237) (tgt := 277) C.1.1.1 C.1.1.2.1 dL_law_40 (by rw [hz_1]; decide) (by rw [hz_1]; decide) (by rw [hz_1]; decide) (by decide) ?_
      exact LB_port C hi X hJ hl0 hc4 hs4 hJL.2.1 kk
    by_cases hz_2 : sw = 2
    · refine lv_tableIn (off := 265) (tgt := 305) C.1.1.1 C.1.1.2.1 dL_law_40 (by rw [hz_2]; decide) (by rw [hz_2]; decide) (by rw [hz_2]; decide) (by decide) ?_
      exact LB_fault C hi X hJ hl0 hc4 hs4 hJL.2.2.1 kk
    by_cases hz_3 : sw = 3
    · refine lv_tableIn (off := 278) (tgt := 318) C.1.1.1 C.1.1.2.1 dL_law_40 (by rw [hz_3]; decide) (by rw [hz_3]; decide) (by rw [hz_3]; decide) (by decide) ?_
      exact LB_count C hi X hJ hl0 hc4 hs4 hJL.2.2.2.1 kk
    by_cases hz_4 : sw = 4
    · refine lv_tableIn (off := 306) (tgt := 346) C.1.1.1 C.1.1.2.1 dL_law_40 (by rw [hz_4]; decide) (by rw [hz_4]; decide) (by rw [hz_4]; decide) (by decide) ?_
      exact LB_grotto C hi X hJ hl0 hc4 hs4 hJL.2.2.2.2.1 kk
    by_cases hz_5 : sw = 5
    · refine lv_tableIn (off := 346) (tgt := 386) C.1.1.1 C.1.1.2.1 dL_law_40 (by rw [hz_5]; decide) (by rw [hz_5]; decide) (by rw [hz_5]; decide) (by decide) ?_
      exact LB_guild C hi X hJ hl0 hc4 hs4 hJL.2.2.2.2.2.1 kk
    by_cases hz_6 : sw = 6
    · refine lv_tableIn (off := 386) (tgt := 426) C.1.1.1 C.1.1.2.1 dL_law_40 (by rw [hz_6]; decide) (by rw [hz_6]; decide) (by rw [hz_6]; decide) (by decide) ?_
      exact LB_hours C hi X hJ hl0 hc4 hs4 hJL.2.2.2.2.2.2.1 kk
    by_cases hz_7 : sw = 7
    · refine lv_tableIn (off := 411) (tgt := 451) C.1.1.1 C.1.1.2.1 dL_law_40 (by rw [hz_7]; decide) (by rw [hz_7]; decide) (by rw [hz_7]; decide) (by decide) ?_
      exact LB_hire C hi X hJ hl0 hc4 hs4 hJL.2.2.2.2.2.2.2.1 kk
    by_cases hz_8 : sw = 8
    · refine lv_tableIn (off := 451) (tgt := 491) C.1.1.1 C.1.1.2.1 dL_law_40 (by rw [hz_8]; decide) (by rw [hz_8]; decide) (by rw [hz_8]; decide) (by decide) ?_
      exact LB_dismiss C hi X hJ hl0 hc4 hs4 hJL.2.2.2.2.2.2.2.2.1 kk
    by_cases hz_9 : sw = 9
    · refine lv_tableIn (off := 479) (tgt := 519) C.1.1.1 C.1.1.2.1 dL_law_40 (by rw [hz_9]; decide) (by rw [hz_9]; decide) (by rw [hz_9]; decide) (by decide) ?_
      exact LB_confess C hi X hJ hl0 hc4 hs4 hJL.2.2.2.2.2.2.2.2.2.1 kk
    by_cases hz_10 : sw = 10
    · refine lv_tableIn (off := 535) (tgt := 575) C.1.1.1 C.1.1.2.1 dL_law_40 (by rw [hz_10]; decide) (by rw [hz_10]; decide) (by rw [hz_10]; decide) (by decide) ?_
      by_cases hz0 : xs (Int32.toNatClampNeg (nI (6 * j) + 2)) = 0
      · exact LB_drain0 C hi X hJ hl0 hc4 hs4 hz0 hJL.2.2.2.2.2.2.2.2.2.2.1 kk
      · exact LB_drain1 C hi X hJ hl0 hc4 hs4 hz0 hJL.2.2.2.2.2.2.2.2.2.2.1 kk
    by_cases hz_11 : sw = 11
    · refine lv_tableIn (off := 591) (tgt := 631) C.1.1.1 C.1.1.2.1 dL_law_40 (by rw [hz_11]; decide) (by rw [hz_11]; decide) (by rw [hz_11]; decide) (by decide) ?_
      exact LB_give C hi X hJ hl0 hc4 hs4 hJL.2.2.2.2.2.2.2.2.2.2.2.1 kk
    by_cases hz_12 : sw = 12
    · refine lv_tableIn (off := 631) (tgt := 671) C.1.1.1 C.1.1.2.1 dL_law_40 (by rw [hz_12]; decide) (by rw [hz_12]; decide) (by rw [hz_12]; decide) (by decide) ?_
      exact LB_undo C hi X hJ hl0 hc4 hs4 hJL.2.2.2.2.2.2.2.2.2.2.2.2.1 kk
    by_cases hz_13 : sw = 13
    · refine lv_tableIn (off := 644) (tgt := 684) C.1.1.1 C.1.1.2.1 dL_law_40 (by rw [hz_13]; decide) (by rw [hz_13]; decide) (by rw [hz_13]; decide) (by decide) ?_
      exact LB_then C hi X hJ hl0 hc4 hs4 hJL.2.2.2.2.2.2.2.2.2.2.2.2.2.1 kk
    by_cases hz_14 : sw = 14
    · refine lv_tableIn (off := 696) (tgt := 736) C.1.1.1 C.1.1.2.1 dL_law_40 (by rw [hz_14]; decide) (by rw [hz_14]; decide) (by rw [hz_14]; decide) (by decide) ?_
      exact LB_dripping C hi X hJ hl0 hc4 hs4 hJL.2.2.2.2.2.2.2.2.2.2.2.2.2.2.1 kk
    by_cases hz_15 : sw = 15
    · refine lv_tableIn (off := 724) (tgt := 764) C.1.1.1 C.1.1.2.1 dL_law_40 (by rw [hz_15]; decide) (by rw [hz_15]; decide) (by rw [hz_15]; decide) (by decide) ?_
      exact LB_first C hi X hJ hl0 hc4 hs4 hJL.2.2.2.2.2.2.2.2.2.2.2.2.2.2.2.1 kk
    by_cases hz_16 : sw = 16
    · refine lv_tableIn (off := 752) (tgt := 792) C.1.1.1 C.1.1.2.1 dL_law_40 (by rw [hz_16]; decide) (by rw [hz_16]; decide) (by rw [hz_16]; decide) (by decide) ?_
      exact LB_dismissed C hi X hJ hl0 hc4 hs4 hJL.2.2.2.2.2.2.2.2.2.2.2.2.2.2.2.2.1 kk
    by_cases hz_17 : sw = 17
    · refine lv_tableIn (off := 780) (tgt := 820) C.1.1.1 C.1.1.2.1 dL_law_40 (by rw [hz_17]; decide) (by rw [hz_17]; decide) (by rw [hz_17]; decide) (by decide) ?_
      exact LB_most C hi X hJ hl0 hc4 hs4 hJL.2.2.2.2.2.2.2.2.2.2.2.2.2.2.2.2.2.1 kk
    by_cases hz_18 : sw = 18
    · refine lv_tableIn (off := 820) (tgt := 860) C.1.1.1 C.1.1.2.1 dL_law_40 (by rw [hz_18]; decide) (by rw [hz_18]; decide) (by rw [hz_18]; decide) (by decide) ?_
      exact LB_hush C hi X hJ hl0 hc4 hs4 hJL.2.2.2.2.2.2.2.2.2.2.2.2.2.2.2.2.2.2.1 kk
    by_cases hz_19 : sw = 19
    · refine lv_tableIn (off := 848) (tgt := 888) C.1.1.1 C.1.1.2.1 dL_law_40 (by rw [hz_19]; decide) (by rw [hz_19]; decide) (by rw [hz_19]; decide) (by decide) ?_
      exact LB_chorus C hi X hJ hl0 hc4 hs4 hJL.2.2.2.2.2.2.2.2.2.2.2.2.2.2.2.2.2.2.2.1 kk
    by_cases hz_20 : sw = 20
    · refine lv_tableIn (off := 876) (tgt := 916) C.1.1.1 C.1.1.2.1 dL_law_40 (by rw [hz_20]; decide) (by rw [hz_20]; decide) (by rw [hz_20]; decide) (by decide) ?_
      exact LB_together C hi X hJ hl0 hc4 hs4 hJL.2.2.2.2.2.2.2.2.2.2.2.2.2.2.2.2.2.2.2.2.1 kk
    by_cases hz_21 : sw = 21
    · refine lv_tableIn (off := 904) (tgt := 944) C.1.1.1 C.1.1.2.1 dL_law_40 (by rw [hz_21]; decide) (by rw [hz_21]; decide) (by rw [hz_21]; decide) (by decide) ?_
      exact LB_rhythm C hi X hJ hl0 hc4 hs4 hJL.2.2.2.2.2.2.2.2.2.2.2.2.2.2.2.2.2.2.2.2.2.1 kk
    by_cases hz_22 : sw = 22
    · refine lv_tableIn (off := 932) (tgt := 972) C.1.1.1 C.1.1.2.1 dL_law_40 (by rw [hz_22]; decide) (by rw [hz_22]; decide) (by rw [hz_22]; decide) (by decide) ?_
      exact LB_often C hi X hJ hl0 hc4 hs4 hJL.2.2.2.2.2.2.2.2.2.2.2.2.2.2.2.2.2.2.2.2.2.2.1 kk
    by_cases hz_23 : sw = 23
    · refine lv_tableIn (off := 972) (tgt := 1012) C.1.1.1 C.1.1.2.1 dL_law_40 (by rw [hz_23]; decide) (by rw [hz_23]; decide) (by rw [hz_23]; decide) (by decide) ?_
      exact LB_toHire C hi X hJ hl0 hc4 hs4 hJL.2.2.2.2.2.2.2.2.2.2.2.2.2.2.2.2.2.2.2.2.2.2.2.1 kk
    by_cases hz_24 : sw = 24
    · refine lv_tableIn (off := 1024) (tgt := 1064) C.1.1.1 C.1.1.2.1 dL_law_40 (by rw [hz_24]; decide) (by rw [hz_24]; decide) (by rw [hz_24]; decide) (by decide) ?_
      exact LB_shared C hi X hJ hl0 hc4 hs4 hJL.2.2.2.2.2.2.2.2.2.2.2.2.2.2.2.2.2.2.2.2.2.2.2.2.1 kk
    by_cases hz_25 : sw = 25
    · refine lv_tableIn (off := 1052) (tgt := 1092) C.1.1.1 C.1.1.2.1 dL_law_40 (by rw [hz_25]; decide) (by rw [hz_25]; decide) (by rw [hz_25]; decide) (by decide) ?_
      exact LB_has C hi X hJ hl0 hc4 hs4 hJL.2.2.2.2.2.2.2.2.2.2.2.2.2.2.2.2.2.2.2.2.2.2.2.2.2.1 kk
    by_cases hz_26 : sw = 26
    · refine lv_tableIn (off := 1080) (tgt := 1120) C.1.1.1 C.1.1.2.1 dL_law_40 (by rw [hz_26]; decide) (by rw [hz_26]; decide) (by rw [hz_26]; decide) (by decide) ?_
      exact LB_toGive C hi X hJ hl0 hc4 hs4 hJL.2.2.2.2.2.2.2.2.2.2.2.2.2.2.2.2.2.2.2.2.2.2.2.2.2.2.1 kk
    by_cases hz_27 : sw = 27
    · refine lv_tableIn (off := 1120) (tgt := 1160) C.1.1.1 C.1.1.2.1 dL_law_40 (by rw [hz_27]; decide) (by rw [hz_27]; decide) (by rw [hz_27]; decide) (by decide) ?_
      exact LB_confessing C hi X hJ hl0 hc4 hs4 hJL.2.2.2.2.2.2.2.2.2.2.2.2.2.2.2.2.2.2.2.2.2.2.2.2.2.2.2.1 kk
    by_cases hz_28 : sw = 28
    · refine lv_tableIn (off := 1160) (tgt := 1200) C.1.1.1 C.1.1.2.1 dL_law_40 (by rw [hz_28]; decide) (by rw [hz_28]; decide) (by rw [hz_28]; decide) (by decide) ?_
      exact LB_see C hi X hJ hl0 hc4 hs4 hJL.2.2.2.2.2.2.2.2.2.2.2.2.2.2.2.2.2.2.2.2.2.2.2.2.2.2.2.2.1 kk
    by_cases hz_29 : sw = 29
    · refine lv_tableIn (off := 1212) (tgt := 1252) C.1.1.1 C.1.1.2.1 dL_law_40 (by rw [hz_29]; decide) (by rw [hz_29]; decide) (by rw [hz_29]; decide) (by decide) ?_
      exact LB_greedy C hi X hJ hl0 hc4 hs4 hJL.2.2.2.2.2.2.2.2.2.2.2.2.2.2.2.2.2.2.2.2.2.2.2.2.2.2.2.2.2.1 kk
    by_cases hz_30 : sw = 30
    · refine lv_tableIn (off := 1240) (tgt := 1280) C.1.1.1 C.1.1.2.1 dL_law_40 (by rw [hz_30]; decide) (by rw [hz_30]; decide) (by rw [hz_30]; decide) (by decide) ?_
      exact LB_look C hi X hJ hl0 hc4 hs4 hJL.2.2.2.2.2.2.2.2.2.2.2.2.2.2.2.2.2.2.2.2.2.2.2.2.2.2.2.2.2.2.1 kk
    by_cases hz_31 : sw = 31
    · refine lv_tableIn (off := 1268) (tgt := 1308) C.1.1.1 C.1.1.2.1 dL_law_40 (by rw [hz_31]; decide) (by rw [hz_31]; decide) (by rw [hz_31]; decide) (by decide) ?_
      exact LB_forget C hi X hJ hl0 hc4 hs4 hJL.2.2.2.2.2.2.2.2.2.2.2.2.2.2.2.2.2.2.2.2.2.2.2.2.2.2.2.2.2.2.2.1 kk
    by_cases hz_32 : sw = 32
    · refine lv_tableIn (off := 1279) (tgt := 1319) C.1.1.1 C.1.1.2.1 dL_law_40 (by rw [hz_32]; decide) (by rw [hz_32]; decide) (by rw [hz_32]; decide) (by decide) ?_
      exact LB_drought C hi X hJ hl0 hc4 hs4 hJL.2.2.2.2.2.2.2.2.2.2.2.2.2.2.2.2.2.2.2.2.2.2.2.2.2.2.2.2.2.2.2.2.1 kk
    by_cases hz_33 : sw = 33
    · refine lv_tableIn (off := 1331) (tgt := 1371) C.1.1.1 C.1.1.2.1 dL_law_40 (by rw [hz_33]; decide) (by rw [hz_33]; decide) (by rw [hz_33]; decide) (by decide) ?_
      exact LB_game C hi X hJ hl0 hc4 hs4 hJL.2.2.2.2.2.2.2.2.2.2.2.2.2.2.2.2.2.2.2.2.2.2.2.2.2.2.2.2.2.2.2.2.2.1 kk
    by_cases hz_34 : sw = 34
    · refine lv_tableIn (off := 1383) (tgt := 1423) C.1.1.1 C.1.1.2.1 dL_law_40 (by rw [hz_34]; decide) (by rw [hz_34]; decide) (by rw [hz_34]; decide) (by decide) ?_
      exact LB_years C hi X hJ hl0 hc4 hs4 hJL.2.2.2.2.2.2.2.2.2.2.2.2.2.2.2.2.2.2.2.2.2.2.2.2.2.2.2.2.2.2.2.2.2.2.1 kk
    by_cases hz_35 : sw = 35
    · refine lv_tableIn (off := 1435) (tgt := 1475) C.1.1.1 C.1.1.2.1 dL_law_40 (by rw [hz_35]; decide) (by rw [hz_35]; decide) (by rw [hz_35]; decide) (by decide) ?_
      exact LB_image C hi X hJ hl0 hc4 hs4 hJL.2.2.2.2.2.2.2.2.2.2.2.2.2.2.2.2.2.2.2.2.2.2.2.2.2.2.2.2.2.2.2.2.2.2.2.1 kk
    by_cases hz_36 : sw = 36
    · refine lv_tableIn (off := 1446) (tgt := 1486) C.1.1.1 C.1.1.2.1 dL_law_40 (by rw [hz_36]; decide) (by rw [hz_36]; decide) (by rw [hz_36]; decide) (by decide) ?_
      exact LB_restore C hi X hJ hl0 hc4 hs4 hJL.2.2.2.2.2.2.2.2.2.2.2.2.2.2.2.2.2.2.2.2.2.2.2.2.2.2.2.2.2.2.2.2.2.2.2.2 kk
    refine lv_tableOut (tgt := 1499) C.1.1.1 C.1.1.2.1 dL_law_40 (g_tsw 0 36 sw (fun i9 h0 h1 => ?_)) (by decide) ?_
    · have h3 : i9 = 0 ∨ i9 = 1 ∨ i9 = 2 ∨ i9 = 3 ∨ i9 = 4 ∨ i9 = 5 ∨ i9 = 6 ∨ i9 = 7 ∨ i9 = 8 ∨ i9 = 9 ∨ i9 = 10 ∨ i9 = 11 ∨ i9 = 12 ∨ i9 = 13 ∨ i9 = 14 ∨ i9 = 15 ∨ i9 = 16 ∨ i9 = 17 ∨ i9 = 18 ∨ i9 = 19 ∨ i9 = 20 ∨ i9 = 21 ∨ i9 = 22 ∨ i9 = 23 ∨ i9 = 24 ∨ i9 = 25 ∨ i9 = 26 ∨ i9 = 27 ∨ i9 = 28 ∨ i9 = 29 ∨ i9 = 30 ∨ i9 = 31 ∨ i9 = 32 ∨ i9 = 33 ∨ i9 = 34 ∨ i9 = 35 ∨ i9 = 36 := by omega
      rcases h3 with rfl | rfl | rfl | rfl | rfl | rfl | rfl | rfl | rfl | rfl | rfl | rfl | rfl | rfl | rfl | rfl | rfl | rfl | rfl | rfl | rfl | rfl | rfl | rfl | rfl | rfl | rfl | rfl | rfl | rfl | rfl | rfl | rfl | rfl | rfl | rfl | rfl
      · exact hz_0
      · exact hz_1
      · exact hz_2
      · exact hz_3
      · exact hz_4
      · exact hz_5
      · exact hz_6
      · exact hz_7
      · exact hz_8
      · exact hz_9
      · exact hz_10
      · exact hz_11
      · exact hz_12
      · exact hz_13
      · exact hz_14
      · exact hz_15
      · exact hz_16
      · exact hz_17
      · exact hz_18
      · exact hz_19
      · exact hz_20
      · exact hz_21
      · exact hz_22
      · exact hz_23
      · exact hz_24
      · exact hz_25
      · exact hz_26
      · exact hz_27
      · exact hz_28
      · exact hz_29
      · exact hz_30
      · exact hz_31
      · exact hz_32
      · exact hz_33
      · exact hz_34
      · exact hz_35
      · exact hz_36
    exact W.widen (k := cs + 4) (n := sl + 24) (Nat.le_add_right _ _) (Nat.le_add_right _ _) (kk _ _ _ _ _ _ hJ X hl0)
end LAW4

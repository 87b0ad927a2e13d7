/-! the blocks of the law's switch (printed by wip/whole/mklawb.py) -/
section LAW3
variable {p : Program} {l : Launch} {e : Env} {s : State} {m : MethodId} {args : Array Value} {below : List Frame} {meth : Method} {c : Code} {H : Heap} {locs : List Loc} {cs sl : Nat} {Q : State → Prop} {Am Am2 : (Nat → Prop) → State → Heap → Prop} {D : va_G} {g g2 : Nat → Nat} {cI cB cZ cQ cS cJ : ClassId} {aK aV : Nat → Nat} {aO b L pc : Nat} {xs : Nat → Int32} {SX SM : gS} {f : Nat → Int64} {ls : Array Slot} {i : Int32} {J0 J : gS → gS → Prop} {rest : List Value} {R : Room}
theorem L_ld (C : LCx p l s m args meth c D g g2 cI cB cZ cQ cS cJ aK aV aO b L xs Am Am2) (X : LX D g g2 cI cB cZ cQ cS cJ aK aO b L xs SX SM f s H locs) {j : Int32} (hin : vp_in j L) (hdg : decode cL_law pc = .ok (.iaload, 1))
    (kk : W p l e R s m args below meth c H locs cs sl Q (F0 m (pc + 1) ls (.int (xs j.toNatClampNeg) :: rest))) : W p l e R s m args below meth c H locs cs sl Q (F0 m pc ls (.int j :: .ref b :: rest)) := by
  have hs := C.2.2.2.2.1
  refine va_sld (A := gA xord g s.heap.size) C.1.1.1 C.1.1.2.1 C.2.2.2.2.2.2.2 hs.2.2.2 ?_ X.1.2 hin hdg kk
  rw [hs.allX]
  exact Nat.not_le.mpr hs.2.2.2
theorem LB_feed (C : LCx p l s m args meth c D g g2 cI cB cZ cQ cS cJ aK aV aO b L xs Am Am2) (hi : Lin i L) (X : LX D g g2 cI cB cZ cQ cS cJ aK aO b L xs SX SM f s H locs) (hJ : J SX SM) (hl : lv_has ls 7 (Llv b (g 0) (g2 99) aO i)) (hc4 : cs + 4 ≤ 600002) (hs4 : sl + 24 ≤ 7302232) (h : Lw_feed J) (kk : ∀ (H1 : Heap) (locs1 : List Loc) (ls1 : Array Slot) (SX1 SM1 : gS) (f1 : Nat → Int64), J SX1 SM1 → LX D g g2 cI cB cZ cQ cS cJ aK aO b L xs SX1 SM1 f1 s H1 locs1 → lv_has ls1 7 (Llv b (g 0) (g2 99) aO i) → W p l e room_1 s m args below meth c H1 locs1 (cs + 4) (sl + 24) Q (F0 m 2325 ls1 [])) : W p l e room_1 s m args below meth c H locs cs sl Q (F0 m 204 ls []) := by
  obtain ⟨N, ox, M, om, h1, h2, h5, h6⟩ := h SX SM (xs (Int32.toNatClampNeg (i + 1))) (xs (Int32.toNatClampNeg (i + 2))) (xs (Int32.toNatClampNeg (i + 3))) (xs (Int32.toNatClampNeg (i + 4))) (xs (Int32.toNatClampNeg (i + 5))) hJ
  unfold Llv at hl
  refine lv_aload_n C.1.1.1 C.1.1.2.1 dL_law_204 rfl (lv_at hl 3 rfl) ?_
  refine lv_aload_n C.1.1.1 C.1.1.2.1 dL_law_205 rfl (lv_at hl 4 rfl) ?_
  refine lv_iload C.1.1.1 C.1.1.2.1 dL_law_206 (lv_at hl 0 rfl) ?_
  refine lv_iconst C.1.1.1 C.1.1.2.1 dL_law_208 rfl ?_
  refine lv_iadd C.1.1.1 C.1.1.2.1 dL_law_209 ?_
  refine L_ld C X hi.2.1 dL_law_210 ?_
  refine lv_aload_n C.1.1.1 C.1.1.2.1 dL_law_211 rfl (lv_at hl 4 rfl) ?_
  refine lv_iload C.1.1.1 C.1.1.2.1 dL_law_212 (lv_at hl 0 rfl) ?_
  refine lv_iconst C.1.1.1 C.1.1.2.1 dL_law_214 rfl ?_
  refine lv_iadd C.1.1.1 C.1.1.2.1 dL_law_215 ?_
  refine L_ld C X hi.2.2.1 dL_law_216 ?_
  refine lv_aload_n C.1.1.1 C.1.1.2.1 dL_law_217 rfl (lv_at hl 4 rfl) ?_
  refine lv_iload C.1.1.1 C.1.1.2.1 dL_law_218 (lv_at hl 0 rfl) ?_
  refine lv_iconst C.1.1.1 C.1.1.2.1 dL_law_220 rfl ?_
  refine lv_iadd C.1.1.1 C.1.1.2.1 dL_law_221 ?_
  refine L_ld C X hi.2.2.2.1 dL_law_222 ?_
  refine lv_aload_n C.1.1.1 C.1.1.2.1 dL_law_223 rfl (lv_at hl 4 rfl) ?_
  refine lv_iload C.1.1.1 C.1.1.2.1 dL_law_224 (lv_at hl 0 rfl) ?_
  refine lv_iconst C.1.1.1 C.1.1.2.1 dL_law_226 rfl ?_
  refine lv_iadd C.1.1.1 C.1.1.2.1 dL_law_227 ?_
  refine L_ld C X hi.2.2.2.2.1 dL_law_228 ?_
  refine lv_aload_n C.1.1.1 C.1.1.2.1 dL_law_229 rfl (lv_at hl 4 rfl) ?_
  refine lv_iload C.1.1.1 C.1.1.2.1 dL_law_230 (lv_at hl 0 rfl) ?_
  refine lv_iconst C.1.1.1 C.1.1.2.1 dL_law_232 rfl ?_
  refine lv_iadd C.1.1.1 C.1.1.2.1 dL_law_233 ?_
  refine L_ld C X hi.2.2.2.2.2 dL_law_234 ?_
  refine L_callX C.2.2.2.2.2.1.1.1.1 C.2.2.2.2.2.2.1.1 C.2.2.2.2.1 C.1 X xv_L_112 rfl (kX11_feed C.2.2.2.2.2.1.1.1 C.1.2.2.2.2.1 N (xs (Int32.toNatClampNeg (i + 1))) (xs (Int32.toNatClampNeg (i + 2))) (xs (Int32.toNatClampNeg (i + 3))) (xs (Int32.toNatClampNeg (i + 4))) (xs (Int32.toNatClampNeg (i + 5))) SX ox h1) (Nat.le_of_ble_eq_true rfl) (Nat.le_of_ble_eq_true rfl) (Nat.le_trans (Nat.le_add_right _ _) hc4) (Nat.le_trans (Nat.le_add_right _ _) hs4) rfl hl.1 rfl (Nat.le_of_ble_eq_true rfl) dL_law_235 (fun H locs X => ?_)
  refine lv_aload_n C.1.1.1 C.1.1.2.1 dL_law_238 rfl (lv_at hl 2 rfl) ?_
  refine lv_aload_n C.1.1.1 C.1.1.2.1 dL_law_239 rfl (lv_at hl 4 rfl) ?_
  refine lv_iload C.1.1.1 C.1.1.2.1 dL_law_240 (lv_at hl 0 rfl) ?_
  refine lv_iconst C.1.1.1 C.1.1.2.1 dL_law_242 rfl ?_
  refine lv_iadd C.1.1.1 C.1.1.2.1 dL_law_243 ?_
  refine L_ld C X hi.2.1 dL_law_244 ?_
  refine lv_aload_n C.1.1.1 C.1.1.2.1 dL_law_245 rfl (lv_at hl 4 rfl) ?_
  refine lv_iload C.1.1.1 C.1.1.2.1 dL_law_246 (lv_at hl 0 rfl) ?_
  refine lv_iconst C.1.1.1 C.1.1.2.1 dL_law_248 rfl ?_
  refine lv_iadd C.1.1.1 C.1.1.2.1 dL_law_249 ?_
  refine L_ld C X hi.2.2.1 dL_law_250 ?_
  refine lv_aload_n C.1.1.1 C.1.1.2.1 dL_law_251 rfl (lv_at hl 4 rfl) ?_
  refine lv_iload C.1.1.1 C.1.1.2.1 dL_law_252 (lv_at hl 0 rfl) ?_
  refine lv_iconst C.1.1.1 C.1.1.2.1 dL_law_254 rfl ?_
  refine lv_iadd C.1.1.1 C.1.1.2.1 dL_law_255 ?_
  refine L_ld C X hi.2.2.2.1 dL_law_256 ?_
  refine lv_aload_n C.1.1.1 C.1.1.2.1 dL_law_257 rfl (lv_at hl 4 rfl) ?_
  refine lv_iload C.1.1.1 C.1.1.2.1 dL_law_258 (lv_at hl 0 rfl) ?_
  refine lv_iconst C.1.1.1 C.1.1.2.1 dL_law_260 rfl ?_
  refine lv_iadd C.1.1.1 C.1.1.2.1 dL_law_261 ?_
  refine L_ld C X hi.2.2.2.2.1 dL_law_262 ?_
  refine lv_aload_n C.1.1.1 C.1.1.2.1 dL_law_263 rfl (lv_at hl 4 rfl) ?_
  refine lv_iload C.1.1.1 C.1.1.2.1 dL_law_264 (lv_at hl 0 rfl) ?_
  refine lv_iconst C.1.1.1 C.1.1.2.1 dL_law_266 rfl ?_
  refine lv_iadd C.1.1.1 C.1.1.2.1 dL_law_267 ?_
  refine L_ld C X hi.2.2.2.2.2 dL_law_268 ?_
  refine L_callM C.2.2.2.2.2.1.1.1.1 C.2.2.2.2.2.2.1.1 C.2.2.2.2.1 C.2.1 X xv_L_116 rfl (kX12_feed C.2.2.2.2.2.2.1.1 C.2.1.2.2.2.2.1 M (xs (Int32.toNatClampNeg (i + 1))) (xs (Int32.toNatClampNeg (i + 2))) (xs (Int32.toNatClampNeg (i + 3))) (xs (Int32.toNatClampNeg (i + 4))) (xs (Int32.toNatClampNeg (i + 5))) SM om h2) (Nat.le_of_ble_eq_true rfl) (Nat.le_of_ble_eq_true rfl) (Nat.le_trans (Nat.le_add_right _ _) hc4) (Nat.le_trans (Nat.le_add_right _ _) hs4) rfl hl.1 rfl (Nat.le_of_ble_eq_true rfl) dL_law_269 (fun H locs X => ?_)
  refine lv_icmp_eq (tgt := 2325) C.1.1.1 C.1.1.2.1 dL_law_272 (by decide) (fun _ => ?_) (fun hz => absurd h5 hz)
  exact W.widen (k := cs + 4) (n := sl + 24) (Nat.le_add_right _ _) (Nat.le_add_right _ _) (kk _ _ _ _ _ _ h6 X (lv_sub hl [0, 1, 2, 3, 4] rfl))
theorem LB_port (C : LCx p l s m args meth c D g g2 cI cB cZ cQ cS cJ aK aV aO b L xs Am Am2) (hi : Lin i L) (X : LX D g g2 cI cB cZ cQ cS cJ aK aO b L xs SX SM f s H locs) (hJ : J SX SM) (hl : lv_has ls 7 (Llv b (g 0) (g2 99) aO i)) (hc4 : cs + 4 ≤ 600002) (hs4 : sl + 24 ≤ 7302232) (h : Lw_port J) (kk : ∀ (H1 : Heap) (locs1 : List Loc) (ls1 : Array Slot) (SX1 SM1 : gS) (f1 : Nat → Int64), J SX1 SM1 → LX D g g2 cI cB cZ cQ cS cJ aK aO b L xs SX1 SM1 f1 s H1 locs1 → lv_has ls1 7 (Llv b (g 0) (g2 99) aO i) → W p l e room_1 s m args below meth c H1 locs1 (cs + 4) (sl + 24) Q (F0 m 2325 ls1 [])) : W p l e room_1 s m args below meth c H locs cs sl Q (F0 m 277 ls []) := by
  obtain ⟨N, ox, M, om, h1, h2, h3, h4, h5, h6⟩ := h SX SM (xs (Int32.toNatClampNeg (i + 1))) hJ
  unfold Llv at hl
  refine lv_aload_n C.1.1.1 C.1.1.2.1 dL_law_277 rfl (lv_at hl 3 rfl) ?_
  refine lv_aload_n C.1.1.1 C.1.1.2.1 dL_law_278 rfl (lv_at hl 4 rfl) ?_
  refine lv_iload C.1.1.1 C.1.1.2.1 dL_law_279 (lv_at hl 0 rfl) ?_
  refine lv_iconst C.1.1.1 C.1.1.2.1 dL_law_281 rfl ?_
  refine lv_iadd C.1.1.1 C.1.1.2.1 dL_law_282 ?_
  refine L_ld C X hi.2.1 dL_law_283 ?_
  refine lv_aload_n C.1.1.1 C.1.1.2.1 dL_law_284 rfl (lv_at hl 1 rfl) ?_
  refine L_callS C.2.2.2.2.2.1.1.1.1 C.2.2.2.2.2.2.1.1 C.2.2.2.2.1 C.1 C.2.2.1 C.2.2.2.1 X lw_port rfl (kL_port C.2.2.2.2.2.1 C.1.2.2.2.2.1 (fun k hk => (C.2.2.2.2.1.1 k hk).2.1) N (xs (Int32.toNatClampNeg (i + 1))) SX f ox h1 h3) (Nat.le_of_ble_eq_true rfl) (Nat.le_of_ble_eq_true rfl) (Nat.le_trans (Nat.add_le_add_left (Nat.le_of_ble_eq_true rfl) _) hc4) (Nat.le_trans (Nat.add_le_add_left (Nat.le_of_ble_eq_true rfl) _) hs4) rfl hl.1 rfl (Nat.le_of_ble_eq_true rfl) dL_law_285 (fun H locs X => ?_)
  refine lv_istore C.1.1.1 C.1.1.2.1 dL_law_288 hl (by decide) rfl (fun ls hl => ?_)
  refine lv_aload_n C.1.1.1 C.1.1.2.1 dL_law_290 rfl (lv_at hl 3 rfl) ?_
  refine lv_aload_n C.1.1.1 C.1.1.2.1 dL_law_291 rfl (lv_at hl 5 rfl) ?_
  refine lv_iload C.1.1.1 C.1.1.2.1 dL_law_292 (lv_at hl 1 rfl) ?_
  refine lv_iconst C.1.1.1 C.1.1.2.1 dL_law_294 rfl ?_
  refine lv_iadd C.1.1.1 C.1.1.2.1 dL_law_295 ?_
  refine L_ld C X hi.2.1 dL_law_296 ?_
  refine L_callM C.2.2.2.2.2.1.1.1.1 C.2.2.2.2.2.2.1.1 C.2.2.2.2.1 C.2.1 X xv_L_122 rfl (kX12_port C.2.2.2.2.2.2.1 C.2.1.2.2.2.2.1 M (xs (Int32.toNatClampNeg (i + 1))) SM om h2) (Nat.le_of_ble_eq_true rfl) (Nat.le_of_ble_eq_true rfl) (Nat.le_trans (Nat.add_le_add_left (Nat.le_of_ble_eq_true rfl) _) hc4) (Nat.le_trans (Nat.add_le_add_left (Nat.le_of_ble_eq_true rfl) _) hs4) rfl hl.1 rfl (Nat.le_of_ble_eq_true rfl) dL_law_297 (fun H locs X => ?_)
  refine lv_istore C.1.1.1 C.1.1.2.1 dL_law_300 hl (by decide) rfl (fun ls hl => ?_)
  refine lv_aload_n C.1.1.1 C.1.1.2.1 dL_law_302 rfl (lv_at hl 4 rfl) ?_
  refine L_callM C.2.2.2.2.2.1.1.1.1 C.2.2.2.2.2.2.1.1 C.2.2.2.2.1 C.2.1 X xv_L_123 rfl (kX12_thrown C.2.2.2.2.2.2.1.1 C.2.1.2.2.2.2.1 0 om.2 (om.2 99 4, om.2) rfl) (Nat.le_of_ble_eq_true rfl) (Nat.le_of_ble_eq_true rfl) (Nat.le_trans (Nat.add_le_add_left (Nat.le_of_ble_eq_true rfl) _) hc4) (Nat.le_trans (Nat.add_le_add_left (Nat.le_of_ble_eq_true rfl) _) hs4) rfl hl.1 rfl (Nat.le_of_ble_eq_true rfl) dL_law_303 (fun H locs X => ?_)
  refine lv_iload C.1.1.1 C.1.1.2.1 dL_law_306 (lv_at hl 1 rfl) ?_
  refine lv_icmp_eq (tgt := 313) C.1.1.1 C.1.1.2.1 dL_law_308 (by decide) (fun _ => ?_) (fun hz => absurd h4 hz)
  refine lv_iload C.1.1.1 C.1.1.2.1 dL_law_313 (lv_at hl 1 rfl) ?_
  refine lv_if_ne (tgt := 330) C.1.1.1 C.1.1.2.1 dL_law_315 (by decide) (fun _ => ?_) (fun hz0 => ?_)
  · refine lv_goto (tgt := 2325) C.1.1.1 C.1.1.2.1 dL_law_330 (by decide) ?_
    exact W.widen (k := cs + 4) (n := sl + 24) (Nat.add_le_add_left (Nat.le_of_ble_eq_true rfl) _) (Nat.add_le_add_left (Nat.le_of_ble_eq_true rfl) _) (kk _ _ _ _ _ _ h6 X (lv_sub hl [2, 3, 4, 5, 6] rfl))
  · have hox := lcA0 hz0
    refine lv_aload_n C.1.1.1 C.1.1.2.1 dL_law_318 rfl (lv_at hl 3 rfl) ?_
    refine lv_iconst C.1.1.1 C.1.1.2.1 dL_law_319 rfl ?_
    refine va_lald C.1.1.1 C.1.1.2.1 C.2.2.1 X.2.2.1 0 0 rfl rfl (by unfold vp_in; decide) dL_law_320 ?_
    refine lv_iload C.1.1.1 C.1.1.2.1 dL_law_321 (lv_at hl 0 rfl) ?_
    refine lv_i2l C.1.1.1 C.1.1.2.1 dL_law_323 rfl ?_
    refine W.lcmp C.1.1.1 C.1.1.2.1 dL_law_324 ?_
    have he := lg_cmp0 ((lrow0 (f := f) hox).trans (congrArg Int32.toInt64 (h5 hox)))
    refine lv_if_eq (tgt := 330) C.1.1.1 C.1.1.2.1 dL_law_325 (by decide) (fun _ => ?_) (fun hz9 => absurd he hz9)
    refine lv_goto (tgt := 2325) C.1.1.1 C.1.1.2.1 dL_law_330 (by decide) ?_
    exact W.widen (k := cs + 4) (n := sl + 24) (Nat.add_le_add_left (Nat.le_of_ble_eq_true rfl) _) (Nat.add_le_add_left (Nat.le_of_ble_eq_true rfl) _) (kk _ _ _ _ _ _ h6 X (lv_sub hl [2, 3, 4, 5, 6] rfl))
theorem LB_fault (C : LCx p l s m args meth c D g g2 cI cB cZ cQ cS cJ aK aV aO b L xs Am Am2) (hi : Lin i L) (X : LX D g g2 cI cB cZ cQ cS cJ aK aO b L xs SX SM f s H locs) (hJ : J SX SM) (hl : lv_has ls 7 (Llv b (g 0) (g2 99) aO i)) (hc4 : cs + 4 ≤ 600002) (hs4 : sl + 24 ≤ 7302232) (h : Lw_fault J) (kk : ∀ (H1 : Heap) (locs1 : List Loc) (ls1 : Array Slot) (SX1 SM1 : gS) (f1 : Nat → Int64), J SX1 SM1 → LX D g g2 cI cB cZ cQ cS cJ aK aO b L xs SX1 SM1 f1 s H1 locs1 → lv_has ls1 7 (Llv b (g 0) (g2 99) aO i) → W p l e room_1 s m args below meth c H1 locs1 (cs + 4) (sl + 24) Q (F0 m 2325 ls1 [])) : W p l e room_1 s m args below meth c H locs cs sl Q (F0 m 333 ls []) := by
  obtain ⟨N, ox, M, om, h1, h2, h5, h6⟩ := h SX SM  hJ
  unfold Llv at hl
  refine lv_aload_n C.1.1.1 C.1.1.2.1 dL_law_333 rfl (lv_at hl 3 rfl) ?_
  refine L_callX C.2.2.2.2.2.1.1.1.1 C.2.2.2.2.2.2.1.1 C.2.2.2.2.1 C.1 X xv_L_127 rfl (kX11_fault C.2.2.2.2.2.1.1.1 C.1.2.2.2.2.1 N  SX ox h1) (Nat.le_of_ble_eq_true rfl) (Nat.le_of_ble_eq_true rfl) (Nat.le_trans (Nat.le_add_right _ _) hc4) (Nat.le_trans (Nat.le_add_right _ _) hs4) rfl hl.1 rfl (Nat.le_of_ble_eq_true rfl) dL_law_334 (fun H locs X => ?_)
  refine lv_aload_n C.1.1.1 C.1.1.2.1 dL_law_337 rfl (lv_at hl 2 rfl) ?_
  refine L_callM C.2.2.2.2.2.1.1.1.1 C.2.2.2.2.2.2.1.1 C.2.2.2.2.1 C.2.1 X xv_L_130 rfl (kX12_fault C.2.2.2.2.2.2.1.1 C.2.1.2.2.2.2.1 M  SM om h2) (Nat.le_of_ble_eq_true rfl) (Nat.le_of_ble_eq_true rfl) (Nat.le_trans (Nat.le_add_right _ _) hc4) (Nat.le_trans (Nat.le_add_right _ _) hs4) rfl hl.1 rfl (Nat.le_of_ble_eq_true rfl) dL_law_338 (fun H locs X => ?_)
  refine lv_icmp_eq (tgt := 2325) C.1.1.1 C.1.1.2.1 dL_law_341 (by decide) (fun _ => ?_) (fun hz => absurd h5 hz)
  exact W.widen (k := cs + 4) (n := sl + 24) (Nat.le_add_right _ _) (Nat.le_add_right _ _) (kk _ _ _ _ _ _ h6 X (lv_sub hl [0, 1, 2, 3, 4] rfl))
theorem LB_count (C : LCx p l s m args meth c D g g2 cI cB cZ cQ cS cJ aK aV aO b L xs Am Am2) (hi : Lin i L) (X : LX D g g2 cI cB cZ cQ cS cJ aK aO b L xs SX SM f s H locs) (hJ : J SX SM) (hl : lv_has ls 7 (Llv b (g 0) (g2 99) aO i)) (hc4 : cs + 4 ≤ 600002) (hs4 : sl + 24 ≤ 7302232) (h : Lw_count J) (kk : ∀ (H1 : Heap) (locs1 : List Loc) (ls1 : Array Slot) (SX1 SM1 : gS) (f1 : Nat → Int64), J SX1 SM1 → LX D g g2 cI cB cZ cQ cS cJ aK aO b L xs SX1 SM1 f1 s H1 locs1 → lv_has ls1 7 (Llv b (g 0) (g2 99) aO i) → W p l e room_1 s m args below meth c H1 locs1 (cs + 4) (sl + 24) Q (F0 m 2325 ls1 [])) : W p l e room_1 s m args below meth c H locs cs sl Q (F0 m 346 ls []) := by
  obtain ⟨N, ox, M, om, h1, h2, h3, h4, h5, h6⟩ := h SX SM (xs (Int32.toNatClampNeg (i + 1))) hJ
  unfold Llv at hl
  refine lv_aload_n C.1.1.1 C.1.1.2.1 dL_law_346 rfl (lv_at hl 3 rfl) ?_
  refine lv_aload_n C.1.1.1 C.1.1.2.1 dL_law_347 rfl (lv_at hl 4 rfl) ?_
  refine lv_iload C.1.1.1 C.1.1.2.1 dL_law_348 (lv_at hl 0 rfl) ?_
  refine lv_iconst C.1.1.1 C.1.1.2.1 dL_law_350 rfl ?_
  refine lv_iadd C.1.1.1 C.1.1.2.1 dL_law_351 ?_
  refine L_ld C X hi.2.1 dL_law_352 ?_
  refine lv_aload_n C.1.1.1 C.1.1.2.1 dL_law_353 rfl (lv_at hl 1 rfl) ?_
  refine L_callS C.2.2.2.2.2.1.1.1.1 C.2.2.2.2.2.2.1.1 C.2.2.2.2.1 C.1 C.2.2.1 C.2.2.2.1 X lw_count rfl (kL_count C.2.2.2.2.2.1 C.1.2.2.2.2.1 (fun k hk => (C.2.2.2.2.1.1 k hk).2.1) N (xs (Int32.toNatClampNeg (i + 1))) SX f ox h1 h3) (Nat.le_of_ble_eq_true rfl) (Nat.le_of_ble_eq_true rfl) (Nat.le_trans (Nat.add_le_add_left (Nat.le_of_ble_eq_true rfl) _) hc4) (Nat.le_trans (Nat.add_le_add_left (Nat.le_of_ble_eq_true rfl) _) hs4) rfl hl.1 rfl (Nat.le_of_ble_eq_true rfl) dL_law_354 (fun H locs X => ?_)
  refine lv_istore C.1.1.1 C.1.1.2.1 dL_law_357 hl (by decide) rfl (fun ls hl => ?_)
  refine lv_aload_n C.1.1.1 C.1.1.2.1 dL_law_359 rfl (lv_at hl 3 rfl) ?_
  refine lv_aload_n C.1.1.1 C.1.1.2.1 dL_law_360 rfl (lv_at hl 5 rfl) ?_
  refine lv_iload C.1.1.1 C.1.1.2.1 dL_law_361 (lv_at hl 1 rfl) ?_
  refine lv_iconst C.1.1.1 C.1.1.2.1 dL_law_363 rfl ?_
  refine lv_iadd C.1.1.1 C.1.1.2.1 dL_law_364 ?_
  refine L_ld C X hi.2.1 dL_law_365 ?_
  refine L_callM C.2.2.2.2.2.1.1.1.1 C.2.2.2.2.2.2.1.1 C.2.2.2.2.1 C.2.1 X xv_L_133 rfl (kX12_count C.2.2.2.2.2.2.1.1 C.2.1.2.2.2.2.1 M (xs (Int32.toNatClampNeg (i + 1))) SM om h2) (Nat.le_of_ble_eq_true rfl) (Nat.le_of_ble_eq_true rfl) (Nat.le_trans (Nat.add_le_add_left (Nat.le_of_ble_eq_true rfl) _) hc4) (Nat.le_trans (Nat.add_le_add_left (Nat.le_of_ble_eq_true rfl) _) hs4) rfl hl.1 rfl (Nat.le_of_ble_eq_true rfl) dL_law_366 (fun H locs X => ?_)
  refine lv_istore C.1.1.1 C.1.1.2.1 dL_law_369 hl (by decide) rfl (fun ls hl => ?_)
  refine lv_aload_n C.1.1.1 C.1.1.2.1 dL_law_371 rfl (lv_at hl 4 rfl) ?_
  refine L_callM C.2.2.2.2.2.1.1.1.1 C.2.2.2.2.2.2.1.1 C.2.2.2.2.1 C.2.1 X xv_L_123 rfl (kX12_thrown C.2.2.2.2.2.2.1.1 C.2.1.2.2.2.2.1 0 om.2 (om.2 99 4, om.2) rfl) (Nat.le_of_ble_eq_true rfl) (Nat.le_of_ble_eq_true rfl) (Nat.le_trans (Nat.add_le_add_left (Nat.le_of_ble_eq_true rfl) _) hc4) (Nat.le_trans (Nat.add_le_add_left (Nat.le_of_ble_eq_true rfl) _) hs4) rfl hl.1 rfl (Nat.le_of_ble_eq_true rfl) dL_law_372 (fun H locs X => ?_)
  refine lv_iload C.1.1.1 C.1.1.2.1 dL_law_375 (lv_at hl 1 rfl) ?_
  refine lv_icmp_eq (tgt := 382) C.1.1.1 C.1.1.2.1 dL_law_377 (by decide) (fun _ => ?_) (fun hz => absurd h4 hz)
  refine lv_iload C.1.1.1 C.1.1.2.1 dL_law_382 (lv_at hl 1 rfl) ?_
  refine lv_if_ne (tgt := 399) C.1.1.1 C.1.1.2.1 dL_law_384 (by decide) (fun _ => ?_) (fun hz0 => ?_)
  · refine lv_goto (tgt := 2325) C.1.1.1 C.1.1.2.1 dL_law_399 (by decide) ?_
    exact W.widen (k := cs + 4) (n := sl + 24) (Nat.add_le_add_left (Nat.le_of_ble_eq_true rfl) _) (Nat.add_le_add_left (Nat.le_of_ble_eq_true rfl) _) (kk _ _ _ _ _ _ h6 X (lv_sub hl [2, 3, 4, 5, 6] rfl))
  · have hox := lcA0 hz0
    refine lv_aload_n C.1.1.1 C.1.1.2.1 dL_law_387 rfl (lv_at hl 3 rfl) ?_
    refine lv_iconst C.1.1.1 C.1.1.2.1 dL_law_388 rfl ?_
    refine va_lald C.1.1.1 C.1.1.2.1 C.2.2.1 X.2.2.1 0 0 rfl rfl (by unfold vp_in; decide) dL_law_389 ?_
    refine lv_iload C.1.1.1 C.1.1.2.1 dL_law_390 (lv_at hl 0 rfl) ?_
    refine lv_i2l C.1.1.1 C.1.1.2.1 dL_law_392 rfl ?_
    refine W.lcmp C.1.1.1 C.1.1.2.1 dL_law_393 ?_
    have he := lg_cmp0 ((lrow0 (f := f) hox).trans (congrArg Int32.toInt64 (h5 hox)))
    refine lv_if_eq (tgt := 399) C.1.1.1 C.1.1.2.1 dL_law_394 (by decide) (fun _ => ?_) (fun hz9 => absurd he hz9)
    refine lv_goto (tgt := 2325) C.1.1.1 C.1.1.2.1 dL_law_399 (by decide) ?_
    exact W.widen (k := cs + 4) (n := sl + 24) (Nat.add_le_add_left (Nat.le_of_ble_eq_true rfl) _) (Nat.add_le_add_left (Nat.le_of_ble_eq_true rfl) _) (kk _ _ _ _ _ _ h6 X (lv_sub hl [2, 3, 4, 5, 6] rfl))
theorem LB_grotto (C : LCx p l s m args meth c D g g2 cI cB cZ cQ cS cJ aK aV aO b L xs Am Am2) (hi : Lin i L) (X : LX D g g2 cI cB cZ cQ cS cJ aK aO b L xs SX SM f s H locs) (hJ : J SX SM) (hl : lv_has ls 7 (Llv b (g 0) (g2 99) aO i)) (hc4 : cs + 4 ≤ 600002) (hs4 : sl + 24 ≤ 7302232) (h : Lw_grotto J) (kk : ∀ (H1 : Heap) (locs1 : List Loc) (ls1 : Array Slot) (SX1 SM1 : gS) (f1 : Nat → Int64), J SX1 SM1 → LX D g g2 cI cB cZ cQ cS cJ aK aO b L xs SX1 SM1 f1 s H1 locs1 → lv_has ls1 7 (Llv b (g 0) (g2 99) aO i) → W p l e room_1 s m args below meth c H1 locs1 (cs + 4) (sl + 24) Q (F0 m 2325 ls1 [])) : W p l e room_1 s m args below meth c H locs cs sl Q (F0 m 402 ls []) := by
  obtain ⟨N, ox, M, om, h1, h2, h3, h4, h5, h6⟩ := h SX SM (xs (Int32.toNatClampNeg (i + 1))) (xs (Int32.toNatClampNeg (i + 2))) hJ
  unfold Llv at hl
  refine lv_aload_n C.1.1.1 C.1.1.2.1 dL_law_402 rfl (lv_at hl 3 rfl) ?_
  refine lv_aload_n C.1.1.1 C.1.1.2.1 dL_law_403 rfl (lv_at hl 4 rfl) ?_
  refine lv_iload C.1.1.1 C.1.1.2.1 dL_law_404 (lv_at hl 0 rfl) ?_
  refine lv_iconst C.1.1.1 C.1.1.2.1 dL_law_406 rfl ?_
  refine lv_iadd C.1.1.1 C.1.1.2.1 dL_law_407 ?_
  refine L_ld C X hi.2.1 dL_law_408 ?_
  refine lv_aload_n C.1.1.1 C.1.1.2.1 dL_law_409 rfl (lv_at hl 4 rfl) ?_
  refine lv_iload C.1.1.1 C.1.1.2.1 dL_law_410 (lv_at hl 0 rfl) ?_
  refine lv_iconst C.1.1.1 C.1.1.2.1 dL_law_412 rfl ?_
  refine lv_iadd C.1.1.1 C.1.1.2.1 dL_law_413 ?_
  refine L_ld C X hi.2.2.1 dL_law_414 ?_
  refine lv_aload_n C.1.1.1 C.1.1.2.1 dL_law_415 rfl (lv_at hl 1 rfl) ?_
  refine L_callS C.2.2.2.2.2.1.1.1.1 C.2.2.2.2.2.2.1.1 C.2.2.2.2.1 C.1 C.2.2.1 C.2.2.2.1 X lw_grotto rfl (kL_grotto C.2.2.2.2.2.1 C.1.2.2.2.2.1 (fun k hk => (C.2.2.2.2.1.1 k hk).2.1) N (xs (Int32.toNatClampNeg (i + 1))) (xs (Int32.toNatClampNeg (i + 2))) SX f ox h1 h3) (Nat.le_of_ble_eq_true rfl) (Nat.le_of_ble_eq_true rfl) (Nat.le_trans (Nat.add_le_add_left (Nat.le_of_ble_eq_true rfl) _) hc4) (Nat.le_trans (Nat.add_le_add_left (Nat.le_of_ble_eq_true rfl) _) hs4) rfl hl.1 rfl (Nat.le_of_ble_eq_true rfl) dL_law_416 (fun H locs X => ?_)
  refine lv_istore C.1.1.1 C.1.1.2.1 dL_law_419 hl (by decide) rfl (fun ls hl => ?_)
  refine lv_aload_n C.1.1.1 C.1.1.2.1 dL_law_421 rfl (lv_at hl 3 rfl) ?_
  refine lv_aload_n C.1.1.1 C.1.1.2.1 dL_law_422 rfl (lv_at hl 5 rfl) ?_
  refine lv_iload C.1.1.1 C.1.1.2.1 dL_law_423 (lv_at hl 1 rfl) ?_
  refine lv_iconst C.1.1.1 C.1.1.2.1 dL_law_425 rfl ?_
  refine lv_iadd C.1.1.1 C.1.1.2.1 dL_law_426 ?_
  refine L_ld C X hi.2.1 dL_law_427 ?_
  refine lv_aload_n C.1.1.1 C.1.1.2.1 dL_law_428 rfl (lv_at hl 5 rfl) ?_
  refine lv_iload C.1.1.1 C.1.1.2.1 dL_law_429 (lv_at hl 1 rfl) ?_
  refine lv_iconst C.1.1.1 C.1.1.2.1 dL_law_431 rfl ?_
  refine lv_iadd C.1.1.1 C.1.1.2.1 dL_law_432 ?_
  refine L_ld C X hi.2.2.1 dL_law_433 ?_
  refine L_callM C.2.2.2.2.2.1.1.1.1 C.2.2.2.2.2.2.1.1 C.2.2.2.2.1 C.2.1 X xv_L_137 rfl (kX12_grotto C.2.2.2.2.2.2.1.1 C.2.1.2.2.2.2.1 M (xs (Int32.toNatClampNeg (i + 1))) (xs (Int32.toNatClampNeg (i + 2))) SM om h2) (Nat.le_of_ble_eq_true rfl) (Nat.le_of_ble_eq_true rfl) (Nat.le_trans (Nat.add_le_add_left (Nat.le_of_ble_eq_true rfl) _) hc4) (Nat.le_trans (Nat.add_le_add_left (Nat.le_of_ble_eq_true rfl) _) hs4) rfl hl.1 rfl (Nat.le_of_ble_eq_true rfl) dL_law_434 (fun H locs X => ?_)
  refine lv_istore C.1.1.1 C.1.1.2.1 dL_law_437 hl (by decide) rfl (fun ls hl => ?_)
  refine lv_aload_n C.1.1.1 C.1.1.2.1 dL_law_439 rfl (lv_at hl 4 rfl) ?_
  refine L_callM C.2.2.2.2.2.1.1.1.1 C.2.2.2.2.2.2.1.1 C.2.2.2.2.1 C.2.1 X xv_L_123 rfl (kX12_thrown C.2.2.2.2.2.2.1.1 C.2.1.2.2.2.2.1 0 om.2 (om.2 99 4, om.2) rfl) (Nat.le_of_ble_eq_true rfl) (Nat.le_of_ble_eq_true rfl) (Nat.le_trans (Nat.add_le_add_left (Nat.le_of_ble_eq_true rfl) _) hc4) (Nat.le_trans (Nat.add_le_add_left (Nat.le_of_ble_eq_true rfl) _) hs4) rfl hl.1 rfl (Nat.le_of_ble_eq_true rfl) dL_law_440 (fun H locs X => ?_)
  refine lv_iload C.1.1.1 C.1.1.2.1 dL_law_443 (lv_at hl 1 rfl) ?_
  refine lv_icmp_eq (tgt := 450) C.1.1.1 C.1.1.2.1 dL_law_445 (by decide) (fun _ => ?_) (fun hz => absurd h4 hz)
  refine lv_iload C.1.1.1 C.1.1.2.1 dL_law_450 (lv_at hl 1 rfl) ?_
  refine lv_if_ne (tgt := 467) C.1.1.1 C.1.1.2.1 dL_law_452 (by decide) (fun _ => ?_) (fun hz0 => ?_)
  · refine lv_goto (tgt := 2325) C.1.1.1 C.1.1.2.1 dL_law_467 (by decide) ?_
    exact W.widen (k := cs + 4) (n := sl + 24) (Nat.add_le_add_left (Nat.le_of_ble_eq_true rfl) _) (Nat.add_le_add_left (Nat.le_of_ble_eq_true rfl) _) (kk _ _ _ _ _ _ h6 X (lv_sub hl [2, 3, 4, 5, 6] rfl))
  · have hox := lcA0 hz0
    refine lv_aload_n C.1.1.1 C.1.1.2.1 dL_law_455 rfl (lv_at hl 3 rfl) ?_
    refine lv_iconst C.1.1.1 C.1.1.2.1 dL_law_456 rfl ?_
    refine va_lald C.1.1.1 C.1.1.2.1 C.2.2.1 X.2.2.1 0 0 rfl rfl (by unfold vp_in; decide) dL_law_457 ?_
    refine lv_iload C.1.1.1 C.1.1.2.1 dL_law_458 (lv_at hl 0 rfl) ?_
    refine lv_i2l C.1.1.1 C.1.1.2.1 dL_law_460 rfl ?_
    refine W.lcmp C.1.1.1 C.1.1.2.1 dL_law_461 ?_
    have he := lg_cmp0 ((lrow0 (f := f) hox).trans (congrArg Int32.toInt64 (h5 hox)))
    refine lv_if_eq (tgt := 467) C.1.1.1 C.1.1.2.1 dL_law_462 (by decide) (fun _ => ?_) (fun hz9 => absurd he hz9)
    refine lv_goto (tgt := 2325) C.1.1.1 C.1.1.2.1 dL_law_467 (by decide) ?_
    exact W.widen (k := cs + 4) (n := sl + 24) (Nat.add_le_add_left (Nat.le_of_ble_eq_true rfl) _) (Nat.add_le_add_left (Nat.le_of_ble_eq_true rfl) _) (kk _ _ _ _ _ _ h6 X (lv_sub hl [2, 3, 4, 5, 6] rfl))
theorem LB_guild (C : LCx p l s m args meth c D g g2 cI cB cZ cQ cS cJ aK aV aO b L xs Am Am2) (hi : Lin i L) (X : LX D g g2 cI cB cZ cQ cS cJ aK aO b L xs SX SM f s H locs) (hJ : J SX SM) (hl : lv_has ls 7 (Llv b (g 0) (g2 99) aO i)) (hc4 : cs + 4 ≤ 600002) (hs4 : sl + 24 ≤ 7302232) (h : Lw_guild J) (kk : ∀ (H1 : Heap) (locs1 : List Loc) (ls1 : Array Slot) (SX1 SM1 : gS) (f1 : Nat → Int64), J SX1 SM1 → LX D g g2 cI cB cZ cQ cS cJ aK aO b L xs SX1 SM1 f1 s H1 locs1 → lv_has ls1 7 (Llv b (g 0) (g2 99) aO i) → W p l e room_1 s m args below meth c H1 locs1 (cs + 4) (sl + 24) Q (F0 m 2325 ls1 [])) : W p l e room_1 s m args below meth c H locs cs sl Q (F0 m 470 ls []) := by
  obtain ⟨N, ox, M, om, h1, h2, h3, h4, h5, h6⟩ := h SX SM (xs (Int32.toNatClampNeg (i + 1))) (xs (Int32.toNatClampNeg (i + 2))) hJ
  unfold Llv at hl
  refine lv_aload_n C.1.1.1 C.1.1.2.1 dL_law_470 rfl (lv_at hl 3 rfl) ?_
  refine lv_aload_n C.1.1.1 C.1.1.2.1 dL_law_471 rfl (lv_at hl 4 rfl) ?_
  refine lv_iload C.1.1.1 C.1.1.2.1 dL_law_472 (lv_at hl 0 rfl) ?_
  refine lv_iconst C.1.1.1 C.1.1.2.1 dL_law_474 rfl ?_
  refine lv_iadd C.1.1.1 C.1.1.2.1 dL_law_475 ?_
  refine L_ld C X hi.2.1 dL_law_476 ?_
  refine lv_aload_n C.1.1.1 C.1.1.2.1 dL_law_477 rfl (lv_at hl 4 rfl) ?_
  refine lv_iload C.1.1.1 C.1.1.2.1 dL_law_478 (lv_at hl 0 rfl) ?_
  refine lv_iconst C.1.1.1 C.1.1.2.1 dL_law_480 rfl ?_
  refine lv_iadd C.1.1.1 C.1.1.2.1 dL_law_481 ?_
  refine L_ld C X hi.2.2.1 dL_law_482 ?_
  refine lv_aload_n C.1.1.1 C.1.1.2.1 dL_law_483 rfl (lv_at hl 1 rfl) ?_
  refine L_callS C.2.2.2.2.2.1.1.1.1 C.2.2.2.2.2.2.1.1 C.2.2.2.2.1 C.1 C.2.2.1 C.2.2.2.1 X lw_guild rfl (kL_guild C.2.2.2.2.2.1 C.1.2.2.2.2.1 (fun k hk => (C.2.2.2.2.1.1 k hk).2.1) N (xs (Int32.toNatClampNeg (i + 1))) (xs (Int32.toNatClampNeg (i + 2))) SX f ox h1 h3) (Nat.le_of_ble_eq_true rfl) (Nat.le_of_ble_eq_true rfl) (Nat.le_trans (Nat.add_le_add_left (Nat.le_of_ble_eq_true rfl) _) hc4) (Nat.le_trans (Nat.add_le_add_left (Nat.le_of_ble_eq_true rfl) _) hs4) rfl hl.1 rfl (Nat.le_of_ble_eq_true rfl) dL_law_484 (fun H locs X => ?_)
  refine lv_istore C.1.1.1 C.1.1.2.1 dL_law_487 hl (by decide) rfl (fun ls hl => ?_)
  refine lv_aload_n C.1.1.1 C.1.1.2.1 dL_law_489 rfl (lv_at hl 3 rfl) ?_
  refine lv_aload_n C.1.1.1 C.1.1.2.1 dL_law_490 rfl (lv_at hl 5 rfl) ?_
  refine lv_iload C.1.1.1 C.1.1.2.1 dL_law_491 (lv_at hl 1 rfl) ?_
  refine lv_iconst C.1.1.1 C.1.1.2.1 dL_law_493 rfl ?_
  refine lv_iadd C.1.1.1 C.1.1.2.1 dL_law_494 ?_
  refine L_ld C X hi.2.1 dL_law_495 ?_
  refine lv_aload_n C.1.1.1 C.1.1.2.1 dL_law_496 rfl (lv_at hl 5 rfl) ?_
  refine lv_iload C.1.1.1 C.1.1.2.1 dL_law_497 (lv_at hl 1 rfl) ?_
  refine lv_iconst C.1.1.1 C.1.1.2.1 dL_law_499 rfl ?_
  refine lv_iadd C.1.1.1 C.1.1.2.1 dL_law_500 ?_
  refine L_ld C X hi.2.2.1 dL_law_501 ?_
  refine L_callM C.2.2.2.2.2.1.1.1.1 C.2.2.2.2.2.2.1.1 C.2.2.2.2.1 C.2.1 X xv_L_140 rfl (kX12_guild C.2.2.2.2.2.2.1.1 C.2.1.2.2.2.2.1 M (xs (Int32.toNatClampNeg (i + 1))) (xs (Int32.toNatClampNeg (i + 2))) SM om h2) (Nat.le_of_ble_eq_true rfl) (Nat.le_of_ble_eq_true rfl) (Nat.le_trans (Nat.add_le_add_left (Nat.le_of_ble_eq_true rfl) _) hc4) (Nat.le_trans (Nat.add_le_add_left (Nat.le_of_ble_eq_true rfl) _) hs4) rfl hl.1 rfl (Nat.le_of_ble_eq_true rfl) dL_law_502 (fun H locs X => ?_)
  refine lv_istore C.1.1.1 C.1.1.2.1 dL_law_505 hl (by decide) rfl (fun ls hl => ?_)
  refine lv_aload_n C.1.1.1 C.1.1.2.1 dL_law_507 rfl (lv_at hl 4 rfl) ?_
  refine L_callM C.2.2.2.2.2.1.1.1.1 C.2.2.2.2.2.2.1.1 C.2.2.2.2.1 C.2.1 X xv_L_123 rfl (kX12_thrown C.2.2.2.2.2.2.1.1 C.2.1.2.2.2.2.1 0 om.2 (om.2 99 4, om.2) rfl) (Nat.le_of_ble_eq_true rfl) (Nat.le_of_ble_eq_true rfl) (Nat.le_trans (Nat.add_le_add_left (Nat.le_of_ble_eq_true rfl) _) hc4) (Nat.le_trans (Nat.add_le_add_left (Nat.le_of_ble_eq_true rfl) _) hs4) rfl hl.1 rfl (Nat.le_of_ble_eq_true rfl) dL_law_508 (fun H locs X => ?_)
  refine lv_iload C.1.1.1 C.1.1.2.1 dL_law_511 (lv_at hl 1 rfl) ?_
  refine lv_icmp_eq (tgt := 518) C.1.1.1 C.1.1.2.1 dL_law_513 (by decide) (fun _ => ?_) (fun hz => absurd h4 hz)
  refine lv_iload C.1.1.1 C.1.1.2.1 dL_law_518 (lv_at hl 1 rfl) ?_
  refine lv_if_ne (tgt := 535) C.1.1.1 C.1.1.2.1 dL_law_520 (by decide) (fun _ => ?_) (fun hz0 => ?_)
  · refine lv_goto (tgt := 2325) C.1.1.1 C.1.1.2.1 dL_law_535 (by decide) ?_
    exact W.widen (k := cs + 4) (n := sl + 24) (Nat.add_le_add_left (Nat.le_of_ble_eq_true rfl) _) (Nat.add_le_add_left (Nat.le_of_ble_eq_true rfl) _) (kk _ _ _ _ _ _ h6 X (lv_sub hl [2, 3, 4, 5, 6] rfl))
  · have hox := lcA0 hz0
    refine lv_aload_n C.1.1.1 C.1.1.2.1 dL_law_523 rfl (lv_at hl 3 rfl) ?_
    refine lv_iconst C.1.1.1 C.1.1.2.1 dL_law_524 rfl ?_
    refine va_lald C.1.1.1 C.1.1.2.1 C.2.2.1 X.2.2.1 0 0 rfl rfl (by unfold vp_in; decide) dL_law_525 ?_
    refine lv_iload C.1.1.1 C.1.1.2.1 dL_law_526 (lv_at hl 0 rfl) ?_
    refine lv_i2l C.1.1.1 C.1.1.2.1 dL_law_528 rfl ?_
    refine W.lcmp C.1.1.1 C.1.1.2.1 dL_law_529 ?_
    have he := lg_cmp0 ((lrow0 (f := f) hox).trans (congrArg Int32.toInt64 (h5 hox)))
    refine lv_if_eq (tgt := 535) C.1.1.1 C.1.1.2.1 dL_law_530 (by decide) (fun _ => ?_) (fun hz9 => absurd he hz9)
    refine lv_goto (tgt := 2325) C.1.1.1 C.1.1.2.1 dL_law_535 (by decide) ?_
    exact W.widen (k := cs + 4) (n := sl + 24) (Nat.add_le_add_left (Nat.le_of_ble_eq_true rfl) _) (Nat.add_le_add_left (Nat.le_of_ble_eq_true rfl) _) (kk _ _ _ _ _ _ h6 X (lv_sub hl [2, 3, 4, 5, 6] rfl))
theorem LB_hours (C : LCx p l s m args meth c D g g2 cI cB cZ cQ cS cJ aK aV aO b L xs Am Am2) (hi : Lin i L) (X : LX D g g2 cI cB cZ cQ cS cJ aK aO b L xs SX SM f s H locs) (hJ : J SX SM) (hl : lv_has ls 7 (Llv b (g 0) (g2 99) aO i)) (hc4 : cs + 4 ≤ 600002) (hs4 : sl + 24 ≤ 7302232) (h : Lw_hours J) (kk : ∀ (H1 : Heap) (locs1 : List Loc) (ls1 : Array Slot) (SX1 SM1 : gS) (f1 : Nat → Int64), J SX1 SM1 → LX D g g2 cI cB cZ cQ cS cJ aK aO b L xs SX1 SM1 f1 s H1 locs1 → lv_has ls1 7 (Llv b (g 0) (g2 99) aO i) → W p l e room_1 s m args below meth c H1 locs1 (cs + 4) (sl + 24) Q (F0 m 2325 ls1 [])) : W p l e room_1 s m args below meth c H locs cs sl Q (F0 m 538 ls []) := by
  obtain ⟨N, ox, M, om, h1, h2, h5, h6⟩ := h SX SM (xs (Int32.toNatClampNeg (i + 1))) hJ
  unfold Llv at hl
  refine lv_aload_n C.1.1.1 C.1.1.2.1 dL_law_538 rfl (lv_at hl 3 rfl) ?_
  refine lv_aload_n C.1.1.1 C.1.1.2.1 dL_law_539 rfl (lv_at hl 4 rfl) ?_
  refine lv_iload C.1.1.1 C.1.1.2.1 dL_law_540 (lv_at hl 0 rfl) ?_
  refine lv_iconst C.1.1.1 C.1.1.2.1 dL_law_542 rfl ?_
  refine lv_iadd C.1.1.1 C.1.1.2.1 dL_law_543 ?_
  refine L_ld C X hi.2.1 dL_law_544 ?_
  refine L_callX C.2.2.2.2.2.1.1.1.1 C.2.2.2.2.2.2.1.1 C.2.2.2.2.1 C.1 X xv_L_141 rfl (kX11_hours C.2.2.2.2.2.1.1 C.1.2.2.2.2.1 N (xs (Int32.toNatClampNeg (i + 1))) SX ox h1) (Nat.le_of_ble_eq_true rfl) (Nat.le_of_ble_eq_true rfl) (Nat.le_trans (Nat.le_add_right _ _) hc4) (Nat.le_trans (Nat.le_add_right _ _) hs4) rfl hl.1 rfl (Nat.le_of_ble_eq_true rfl) dL_law_545 (fun H locs X => ?_)
  refine lv_aload_n C.1.1.1 C.1.1.2.1 dL_law_548 rfl (lv_at hl 2 rfl) ?_
  refine lv_aload_n C.1.1.1 C.1.1.2.1 dL_law_549 rfl (lv_at hl 4 rfl) ?_
  refine lv_iload C.1.1.1 C.1.1.2.1 dL_law_550 (lv_at hl 0 rfl) ?_
  refine lv_iconst C.1.1.1 C.1.1.2.1 dL_law_552 rfl ?_
  refine lv_iadd C.1.1.1 C.1.1.2.1 dL_law_553 ?_
  refine L_ld C X hi.2.1 dL_law_554 ?_
  refine L_callM C.2.2.2.2.2.1.1.1.1 C.2.2.2.2.2.2.1.1 C.2.2.2.2.1 C.2.1 X xv_L_144 rfl (kX12_hours C.2.2.2.2.2.2.1.1 C.2.1.2.2.2.2.1 M (xs (Int32.toNatClampNeg (i + 1))) SM om h2) (Nat.le_of_ble_eq_true rfl) (Nat.le_of_ble_eq_true rfl) (Nat.le_trans (Nat.le_add_right _ _) hc4) (Nat.le_trans (Nat.le_add_right _ _) hs4) rfl hl.1 rfl (Nat.le_of_ble_eq_true rfl) dL_law_555 (fun H locs X => ?_)
  refine lv_icmp_eq (tgt := 2325) C.1.1.1 C.1.1.2.1 dL_law_558 (by decide) (fun _ => ?_) (fun hz => absurd h5 hz)
  exact W.widen (k := cs + 4) (n := sl + 24) (Nat.le_add_right _ _) (Nat.le_add_right _ _) (kk _ _ _ _ _ _ h6 X (lv_sub hl [0, 1, 2, 3, 4] rfl))
theorem LB_hire (C : LCx p l s m args meth c D g g2 cI cB cZ cQ cS cJ aK aV aO b L xs Am Am2) (hi : Lin i L) (X : LX D g g2 cI cB cZ cQ cS cJ aK aO b L xs SX SM f s H locs) (hJ : J SX SM) (hl : lv_has ls 7 (Llv b (g 0) (g2 99) aO i)) (hc4 : cs + 4 ≤ 600002) (hs4 : sl + 24 ≤ 7302232) (h : Lw_hire J) (kk : ∀ (H1 : Heap) (locs1 : List Loc) (ls1 : Array Slot) (SX1 SM1 : gS) (f1 : Nat → Int64), J SX1 SM1 → LX D g g2 cI cB cZ cQ cS cJ aK aO b L xs SX1 SM1 f1 s H1 locs1 → lv_has ls1 7 (Llv b (g 0) (g2 99) aO i) → W p l e room_1 s m args below meth c H1 locs1 (cs + 4) (sl + 24) Q (F0 m 2325 ls1 [])) : W p l e room_1 s m args below meth c H locs cs sl Q (F0 m 563 ls []) := by
  obtain ⟨N, ox, M, om, h1, h2, h3, h4, h5, h6⟩ := h SX SM (xs (Int32.toNatClampNeg (i + 1))) (xs (Int32.toNatClampNeg (i + 2))) hJ
  unfold Llv at hl
  refine lv_aload_n C.1.1.1 C.1.1.2.1 dL_law_563 rfl (lv_at hl 3 rfl) ?_
  refine lv_aload_n C.1.1.1 C.1.1.2.1 dL_law_564 rfl (lv_at hl 4 rfl) ?_
  refine lv_iload C.1.1.1 C.1.1.2.1 dL_law_565 (lv_at hl 0 rfl) ?_
  refine lv_iconst C.1.1.1 C.1.1.2.1 dL_law_567 rfl ?_
  refine lv_iadd C.1.1.1 C.1.1.2.1 dL_law_568 ?_
  refine L_ld C X hi.2.1 dL_law_569 ?_
  refine lv_aload_n C.1.1.1 C.1.1.2.1 dL_law_570 rfl (lv_at hl 4 rfl) ?_
  refine lv_iload C.1.1.1 C.1.1.2.1 dL_law_571 (lv_at hl 0 rfl) ?_
  refine lv_iconst C.1.1.1 C.1.1.2.1 dL_law_573 rfl ?_
  refine lv_iadd C.1.1.1 C.1.1.2.1 dL_law_574 ?_
  refine L_ld C X hi.2.2.1 dL_law_575 ?_
  refine lv_aload_n C.1.1.1 C.1.1.2.1 dL_law_576 rfl (lv_at hl 1 rfl) ?_
  refine L_callS C.2.2.2.2.2.1.1.1.1 C.2.2.2.2.2.2.1.1 C.2.2.2.2.1 C.1 C.2.2.1 C.2.2.2.1 X lw_hire rfl (kL_hire C.2.2.2.2.2.1 C.1.2.2.2.2.1 (fun k hk => (C.2.2.2.2.1.1 k hk).2.1) N (xs (Int32.toNatClampNeg (i + 1))) (xs (Int32.toNatClampNeg (i + 2))) SX f ox h1 h3) (Nat.le_of_ble_eq_true rfl) (Nat.le_of_ble_eq_true rfl) (Nat.le_trans (Nat.add_le_add_left (Nat.le_of_ble_eq_true rfl) _) hc4) (Nat.le_trans (Nat.add_le_add_left (Nat.le_of_ble_eq_true rfl) _) hs4) rfl hl.1 rfl (Nat.le_of_ble_eq_true rfl) dL_law_577 (fun H locs X => ?_)
  refine lv_istore C.1.1.1 C.1.1.2.1 dL_law_580 hl (by decide) rfl (fun ls hl => ?_)
  refine lv_aload_n C.1.1.1 C.1.1.2.1 dL_law_582 rfl (lv_at hl 3 rfl) ?_
  refine lv_aload_n C.1.1.1 C.1.1.2.1 dL_law_583 rfl (lv_at hl 5 rfl) ?_
  refine lv_iload C.1.1.1 C.1.1.2.1 dL_law_584 (lv_at hl 1 rfl) ?_
  refine lv_iconst C.1.1.1 C.1.1.2.1 dL_law_586 rfl ?_
  refine lv_iadd C.1.1.1 C.1.1.2.1 dL_law_587 ?_
  refine L_ld C X hi.2.1 dL_law_588 ?_
  refine lv_aload_n C.1.1.1 C.1.1.2.1 dL_law_589 rfl (lv_at hl 5 rfl) ?_
  refine lv_iload C.1.1.1 C.1.1.2.1 dL_law_590 (lv_at hl 1 rfl) ?_
  refine lv_iconst C.1.1.1 C.1.1.2.1 dL_law_592 rfl ?_
  refine lv_iadd C.1.1.1 C.1.1.2.1 dL_law_593 ?_
  refine L_ld C X hi.2.2.1 dL_law_594 ?_
  refine L_callM C.2.2.2.2.2.1.1.1.1 C.2.2.2.2.2.2.1.1 C.2.2.2.2.1 C.2.1 X xv_L_147 rfl (kX12_hire C.2.2.2.2.2.2.1.1 C.2.1.2.2.2.2.1 M (xs (Int32.toNatClampNeg (i + 1))) (xs (Int32.toNatClampNeg (i + 2))) SM om h2) (Nat.le_of_ble_eq_true rfl) (Nat.le_of_ble_eq_true rfl) (Nat.le_trans (Nat.add_le_add_left (Nat.le_of_ble_eq_true rfl) _) hc4) (Nat.le_trans (Nat.add_le_add_left (Nat.le_of_ble_eq_true rfl) _) hs4) rfl hl.1 rfl (Nat.le_of_ble_eq_true rfl) dL_law_595 (fun H locs X => ?_)
  refine lv_istore C.1.1.1 C.1.1.2.1 dL_law_598 hl (by decide) rfl (fun ls hl => ?_)
  refine lv_aload_n C.1.1.1 C.1.1.2.1 dL_law_600 rfl (lv_at hl 4 rfl) ?_
  refine L_callM C.2.2.2.2.2.1.1.1.1 C.2.2.2.2.2.2.1.1 C.2.2.2.2.1 C.2.1 X xv_L_123 rfl (kX12_thrown C.2.2.2.2.2.2.1.1 C.2.1.2.2.2.2.1 0 om.2 (om.2 99 4, om.2) rfl) (Nat.le_of_ble_eq_true rfl) (Nat.le_of_ble_eq_true rfl) (Nat.le_trans (Nat.add_le_add_left (Nat.le_of_ble_eq_true rfl) _) hc4) (Nat.le_trans (Nat.add_le_add_left (Nat.le_of_ble_eq_true rfl) _) hs4) rfl hl.1 rfl (Nat.le_of_ble_eq_true rfl) dL_law_601 (fun H locs X => ?_)
  refine lv_iload C.1.1.1 C.1.1.2.1 dL_law_604 (lv_at hl 1 rfl) ?_
  refine lv_icmp_eq (tgt := 611) C.1.1.1 C.1.1.2.1 dL_law_606 (by decide) (fun _ => ?_) (fun hz => absurd h4 hz)
  refine lv_iload C.1.1.1 C.1.1.2.1 dL_law_611 (lv_at hl 1 rfl) ?_
  refine lv_if_ne (tgt := 635) C.1.1.1 C.1.1.2.1 dL_law_613 (by decide) (fun _ => ?_) (fun hz0 => ?_)
  · refine lv_goto (tgt := 2325) C.1.1.1 C.1.1.2.1 dL_law_635 (by decide) ?_
    exact W.widen (k := cs + 4) (n := sl + 24) (Nat.add_le_add_left (Nat.le_of_ble_eq_true rfl) _) (Nat.add_le_add_left (Nat.le_of_ble_eq_true rfl) _) (kk _ _ _ _ _ _ h6 X (lv_sub hl [2, 3, 4, 5, 6] rfl))
  · have hox := lcA0 hz0
    refine lv_aload_n C.1.1.1 C.1.1.2.1 dL_law_616 rfl (lv_at hl 3 rfl) ?_
    refine lv_iconst C.1.1.1 C.1.1.2.1 dL_law_617 rfl ?_
    refine va_lald C.1.1.1 C.1.1.2.1 C.2.2.1 X.2.2.1 0 0 rfl rfl (by unfold vp_in; decide) dL_law_618 ?_
    refine lv_iload C.1.1.1 C.1.1.2.1 dL_law_619 (lv_at hl 0 rfl) ?_
    refine lv_if_eq (tgt := 628) C.1.1.1 C.1.1.2.1 dL_law_621 (by decide) (fun hb => ?_) (fun hb => ?_)
    · refine lv_lconst C.1.1.1 C.1.1.2.1 dL_law_628 rfl ?_
      have he : lg_cmp (lrowZ f ox (Int32.toNatClampNeg 0)) 0 = 0 := lg_cmp0 ((lrowZ0 (f := f) hox).trans (if_pos ((h5 hox).trans hb)))
      refine W.lcmp C.1.1.1 C.1.1.2.1 dL_law_629 ?_
      refine lv_if_eq (tgt := 635) C.1.1.1 C.1.1.2.1 dL_law_630 (by decide) (fun _ => ?_) (fun hz9 => absurd he hz9)
      refine lv_goto (tgt := 2325) C.1.1.1 C.1.1.2.1 dL_law_635 (by decide) ?_
      exact W.widen (k := cs + 4) (n := sl + 24) (Nat.add_le_add_left (Nat.le_of_ble_eq_true rfl) _) (Nat.add_le_add_left (Nat.le_of_ble_eq_true rfl) _) (kk _ _ _ _ _ _ h6 X (lv_sub hl [2, 3, 4, 5, 6] rfl))
    · refine lv_lconst C.1.1.1 C.1.1.2.1 dL_law_624 rfl ?_
      refine lv_goto (tgt := 629) C.1.1.1 C.1.1.2.1 dL_law_625 (by decide) ?_
      have he : lg_cmp (lrowZ f ox (Int32.toNatClampNeg 0)) 1 = 0 := lg_cmp0 ((lrowZ0 (f := f) hox).trans (if_neg (fun q => hb ((h5 hox).symm.trans q))))
      refine W.lcmp C.1.1.1 C.1.1.2.1 dL_law_629 ?_
      refine lv_if_eq (tgt := 635) C.1.1.1 C.1.1.2.1 dL_law_630 (by decide) (fun _ => ?_) (fun hz9 => absurd he hz9)
      refine lv_goto (tgt := 2325) C.1.1.1 C.1.1.2.1 dL_law_635 (by decide) ?_
      exact W.widen (k := cs + 4) (n := sl + 24) (Nat.add_le_add_left (Nat.le_of_ble_eq_true rfl) _) (Nat.add_le_add_left (Nat.le_of_ble_eq_true rfl) _) (kk _ _ _ _ _ _ h6 X (lv_sub hl [2, 3, 4, 5, 6] rfl))
theorem LB_dismiss (C : LCx p l s m args meth c D g g2 cI cB cZ cQ cS cJ aK aV aO b L xs Am Am2) (hi : Lin i L) (X : LX D g g2 cI cB cZ cQ cS cJ aK aO b L xs SX SM f s H locs) (hJ : J SX SM) (hl : lv_has ls 7 (Llv b (g 0) (g2 99) aO i)) (hc4 : cs + 4 ≤ 600002) (hs4 : sl + 24 ≤ 7302232) (h : Lw_dismiss J) (kk : ∀ (H1 : Heap) (locs1 : List Loc) (ls1 : Array Slot) (SX1 SM1 : gS) (f1 : Nat → Int64), J SX1 SM1 → LX D g g2 cI cB cZ cQ cS cJ aK aO b L xs SX1 SM1 f1 s H1 locs1 → lv_has ls1 7 (Llv b (g 0) (g2 99) aO i) → W p l e room_1 s m args below meth c H1 locs1 (cs + 4) (sl + 24) Q (F0 m 2325 ls1 [])) : W p l e room_1 s m args below meth c H locs cs sl Q (F0 m 638 ls []) := by
  obtain ⟨N, ox, M, om, h1, h2, h3, h4, h5, h6⟩ := h SX SM (xs (Int32.toNatClampNeg (i + 1))) hJ
  unfold Llv at hl
  refine lv_aload_n C.1.1.1 C.1.1.2.1 dL_law_638 rfl (lv_at hl 3 rfl) ?_
  refine lv_aload_n C.1.1.1 C.1.1.2.1 dL_law_639 rfl (lv_at hl 4 rfl) ?_
  refine lv_iload C.1.1.1 C.1.1.2.1 dL_law_640 (lv_at hl 0 rfl) ?_
  refine lv_iconst C.1.1.1 C.1.1.2.1 dL_law_642 rfl ?_
  refine lv_iadd C.1.1.1 C.1.1.2.1 dL_law_643 ?_
  refine L_ld C X hi.2.1 dL_law_644 ?_
  refine lv_aload_n C.1.1.1 C.1.1.2.1 dL_law_645 rfl (lv_at hl 1 rfl) ?_
  refine L_callS C.2.2.2.2.2.1.1.1.1 C.2.2.2.2.2.2.1.1 C.2.2.2.2.1 C.1 C.2.2.1 C.2.2.2.1 X lw_dismiss rfl (kL_dismiss C.2.2.2.2.2.1 C.1.2.2.2.2.1 (fun k hk => (C.2.2.2.2.1.1 k hk).2.1) N (xs (Int32.toNatClampNeg (i + 1))) SX f ox h1 h3) (Nat.le_of_ble_eq_true rfl) (Nat.le_of_ble_eq_true rfl) (Nat.le_trans (Nat.add_le_add_left (Nat.le_of_ble_eq_true rfl) _) hc4) (Nat.le_trans (Nat.add_le_add_left (Nat.le_of_ble_eq_true rfl) _) hs4) rfl hl.1 rfl (Nat.le_of_ble_eq_true rfl) dL_law_646 (fun H locs X => ?_)
  refine lv_istore C.1.1.1 C.1.1.2.1 dL_law_649 hl (by decide) rfl (fun ls hl => ?_)
  refine lv_aload_n C.1.1.1 C.1.1.2.1 dL_law_651 rfl (lv_at hl 3 rfl) ?_
  refine lv_aload_n C.1.1.1 C.1.1.2.1 dL_law_652 rfl (lv_at hl 5 rfl) ?_
  refine lv_iload C.1.1.1 C.1.1.2.1 dL_law_653 (lv_at hl 1 rfl) ?_
  refine lv_iconst C.1.1.1 C.1.1.2.1 dL_law_655 rfl ?_
  refine lv_iadd C.1.1.1 C.1.1.2.1 dL_law_656 ?_
  refine L_ld C X hi.2.1 dL_law_657 ?_
  refine L_callM C.2.2.2.2.2.1.1.1.1 C.2.2.2.2.2.2.1.1 C.2.2.2.2.1 C.2.1 X xv_L_150 rfl (kX12_dismiss C.2.2.2.2.2.2.1.1 C.2.1.2.2.2.2.1 M (xs (Int32.toNatClampNeg (i + 1))) SM om h2) (Nat.le_of_ble_eq_true rfl) (Nat.le_of_ble_eq_true rfl) (Nat.le_trans (Nat.add_le_add_left (Nat.le_of_ble_eq_true rfl) _) hc4) (Nat.le_trans (Nat.add_le_add_left (Nat.le_of_ble_eq_true rfl) _) hs4) rfl hl.1 rfl (Nat.le_of_ble_eq_true rfl) dL_law_658 (fun H locs X => ?_)
  refine lv_istore C.1.1.1 C.1.1.2.1 dL_law_661 hl (by decide) rfl (fun ls hl => ?_)
  refine lv_aload_n C.1.1.1 C.1.1.2.1 dL_law_663 rfl (lv_at hl 4 rfl) ?_
  refine L_callM C.2.2.2.2.2.1.1.1.1 C.2.2.2.2.2.2.1.1 C.2.2.2.2.1 C.2.1 X xv_L_123 rfl (kX12_thrown C.2.2.2.2.2.2.1.1 C.2.1.2.2.2.2.1 0 om.2 (om.2 99 4, om.2) rfl) (Nat.le_of_ble_eq_true rfl) (Nat.le_of_ble_eq_true rfl) (Nat.le_trans (Nat.add_le_add_left (Nat.le_of_ble_eq_true rfl) _) hc4) (Nat.le_trans (Nat.add_le_add_left (Nat.le_of_ble_eq_true rfl) _) hs4) rfl hl.1 rfl (Nat.le_of_ble_eq_true rfl) dL_law_664 (fun H locs X => ?_)
  refine lv_iload C.1.1.1 C.1.1.2.1 dL_law_667 (lv_at hl 1 rfl) ?_
  refine lv_icmp_eq (tgt := 674) C.1.1.1 C.1.1.2.1 dL_law_669 (by decide) (fun _ => ?_) (fun hz => absurd h4 hz)
  refine lv_iload C.1.1.1 C.1.1.2.1 dL_law_674 (lv_at hl 1 rfl) ?_
  refine lv_if_ne (tgt := 691) C.1.1.1 C.1.1.2.1 dL_law_676 (by decide) (fun _ => ?_) (fun hz0 => ?_)
  · refine lv_goto (tgt := 2325) C.1.1.1 C.1.1.2.1 dL_law_691 (by decide) ?_
    exact W.widen (k := cs + 4) (n := sl + 24) (Nat.add_le_add_left (Nat.le_of_ble_eq_true rfl) _) (Nat.add_le_add_left (Nat.le_of_ble_eq_true rfl) _) (kk _ _ _ _ _ _ h6 X (lv_sub hl [2, 3, 4, 5, 6] rfl))
  · have hox := lcA0 hz0
    refine lv_aload_n C.1.1.1 C.1.1.2.1 dL_law_679 rfl (lv_at hl 3 rfl) ?_
    refine lv_iconst C.1.1.1 C.1.1.2.1 dL_law_680 rfl ?_
    refine va_lald C.1.1.1 C.1.1.2.1 C.2.2.1 X.2.2.1 0 0 rfl rfl (by unfold vp_in; decide) dL_law_681 ?_
    refine lv_iload C.1.1.1 C.1.1.2.1 dL_law_682 (lv_at hl 0 rfl) ?_
    refine lv_i2l C.1.1.1 C.1.1.2.1 dL_law_684 rfl ?_
    refine W.lcmp C.1.1.1 C.1.1.2.1 dL_law_685 ?_
    have he := lg_cmp0 ((lrow0 (f := f) hox).trans (congrArg Int32.toInt64 (h5 hox)))
    refine lv_if_eq (tgt := 691) C.1.1.1 C.1.1.2.1 dL_law_686 (by decide) (fun _ => ?_) (fun hz9 => absurd he hz9)
    refine lv_goto (tgt := 2325) C.1.1.1 C.1.1.2.1 dL_law_691 (by decide) ?_
    exact W.widen (k := cs + 4) (n := sl + 24) (Nat.add_le_add_left (Nat.le_of_ble_eq_true rfl) _) (Nat.add_le_add_left (Nat.le_of_ble_eq_true rfl) _) (kk _ _ _ _ _ _ h6 X (lv_sub hl [2, 3, 4, 5, 6] rfl))
theorem LB_confess (C : LCx p l s m args meth c D g g2 cI cB cZ cQ cS cJ aK aV aO b L xs Am Am2) (hi : Lin i L) (X : LX D g g2 cI cB cZ cQ cS cJ aK aO b L xs SX SM f s H locs) (hJ : J SX SM) (hl : lv_has ls 7 (Llv b (g 0) (g2 99) aO i)) (hc4 : cs + 4 ≤ 600002) (hs4 : sl + 24 ≤ 7302232) (h : Lw_confess J) (kk : ∀ (H1 : Heap) (locs1 : List Loc) (ls1 : Array Slot) (SX1 SM1 : gS) (f1 : Nat → Int64), J SX1 SM1 → LX D g g2 cI cB cZ cQ cS cJ aK aO b L xs SX1 SM1 f1 s H1 locs1 → lv_has ls1 7 (Llv b (g 0) (g2 99) aO i) → W p l e room_1 s m args below meth c H1 locs1 (cs + 4) (sl + 24) Q (F0 m 2325 ls1 [])) : W p l e room_1 s m args below meth c H locs cs sl Q (F0 m 694 ls []) := by
  obtain ⟨N, ox, M, om, h1, h2, h3, h4, h5, h6⟩ := h SX SM (xs (Int32.toNatClampNeg (i + 1))) hJ
  unfold Llv at hl
  refine lv_aload_n C.1.1.1 C.1.1.2.1 dL_law_694 rfl (lv_at hl 3 rfl) ?_
  refine lv_aload_n C.1.1.1 C.1.1.2.1 dL_law_695 rfl (lv_at hl 4 rfl) ?_
  refine lv_iload C.1.1.1 C.1.1.2.1 dL_law_696 (lv_at hl 0 rfl) ?_
  refine lv_iconst C.1.1.1 C.1.1.2.1 dL_law_698 rfl ?_
  refine lv_iadd C.1.1.1 C.1.1.2.1 dL_law_699 ?_
  refine L_ld C X hi.2.1 dL_law_700 ?_
  refine lv_aload_n C.1.1.1 C.1.1.2.1 dL_law_701 rfl (lv_at hl 1 rfl) ?_
  refine L_callS C.2.2.2.2.2.1.1.1.1 C.2.2.2.2.2.2.1.1 C.2.2.2.2.1 C.1 C.2.2.1 C.2.2.2.1 X lw_confess rfl (kL_confess C.2.2.2.2.2.1 C.1.2.2.2.2.1 (fun k hk => (C.2.2.2.2.1.1 k hk).2.1) N (xs (Int32.toNatClampNeg (i + 1))) SX f ox h1 h3) (Nat.le_of_ble_eq_true rfl) (Nat.le_of_ble_eq_true rfl) (Nat.le_trans (Nat.add_le_add_left (Nat.le_of_ble_eq_true rfl) _) hc4) (Nat.le_trans (Nat.add_le_add_left (Nat.le_of_ble_eq_true rfl) _) hs4) rfl hl.1 rfl (Nat.le_of_ble_eq_true rfl) dL_law_702 (fun H locs X => ?_)
  refine lv_istore C.1.1.1 C.1.1.2.1 dL_law_705 hl (by decide) rfl (fun ls hl => ?_)
  refine lv_aload_n C.1.1.1 C.1.1.2.1 dL_law_707 rfl (lv_at hl 3 rfl) ?_
  refine lv_aload_n C.1.1.1 C.1.1.2.1 dL_law_708 rfl (lv_at hl 5 rfl) ?_
  refine lv_iload C.1.1.1 C.1.1.2.1 dL_law_709 (lv_at hl 1 rfl) ?_
  refine lv_iconst C.1.1.1 C.1.1.2.1 dL_law_711 rfl ?_
  refine lv_iadd C.1.1.1 C.1.1.2.1 dL_law_712 ?_
  refine L_ld C X hi.2.1 dL_law_713 ?_
  refine L_callM C.2.2.2.2.2.1.1.1.1 C.2.2.2.2.2.2.1.1 C.2.2.2.2.1 C.2.1 X xv_L_153 rfl (kX12_confess C.2.2.2.2.2.2.1.1 C.2.1.2.2.2.2.1 M (xs (Int32.toNatClampNeg (i + 1))) SM om h2) (Nat.le_of_ble_eq_true rfl) (Nat.le_of_ble_eq_true rfl) (Nat.le_trans (Nat.add_le_add_left (Nat.le_of_ble_eq_true rfl) _) hc4) (Nat.le_trans (Nat.add_le_add_left (Nat.le_of_ble_eq_true rfl) _) hs4) rfl hl.1 rfl (Nat.le_of_ble_eq_true rfl) dL_law_714 (fun H locs X => ?_)
  refine lv_istore C.1.1.1 C.1.1.2.1 dL_law_717 hl (by decide) rfl (fun ls hl => ?_)
  refine lv_aload_n C.1.1.1 C.1.1.2.1 dL_law_719 rfl (lv_at hl 4 rfl) ?_
  refine L_callM C.2.2.2.2.2.1.1.1.1 C.2.2.2.2.2.2.1.1 C.2.2.2.2.1 C.2.1 X xv_L_123 rfl (kX12_thrown C.2.2.2.2.2.2.1.1 C.2.1.2.2.2.2.1 0 om.2 (om.2 99 4, om.2) rfl) (Nat.le_of_ble_eq_true rfl) (Nat.le_of_ble_eq_true rfl) (Nat.le_trans (Nat.add_le_add_left (Nat.le_of_ble_eq_true rfl) _) hc4) (Nat.le_trans (Nat.add_le_add_left (Nat.le_of_ble_eq_true rfl) _) hs4) rfl hl.1 rfl (Nat.le_of_ble_eq_true rfl) dL_law_720 (fun H locs X => ?_)
  refine lv_iload C.1.1.1 C.1.1.2.1 dL_law_723 (lv_at hl 1 rfl) ?_
  refine lv_icmp_eq (tgt := 730) C.1.1.1 C.1.1.2.1 dL_law_725 (by decide) (fun _ => ?_) (fun hz => absurd h4 hz)
  refine lv_iload C.1.1.1 C.1.1.2.1 dL_law_730 (lv_at hl 1 rfl) ?_
  refine lv_if_ne (tgt := 747) C.1.1.1 C.1.1.2.1 dL_law_732 (by decide) (fun _ => ?_) (fun hz0 => ?_)
  · refine lv_goto (tgt := 2325) C.1.1.1 C.1.1.2.1 dL_law_747 (by decide) ?_
    exact W.widen (k := cs + 4) (n := sl + 24) (Nat.add_le_add_left (Nat.le_of_ble_eq_true rfl) _) (Nat.add_le_add_left (Nat.le_of_ble_eq_true rfl) _) (kk _ _ _ _ _ _ h6 X (lv_sub hl [2, 3, 4, 5, 6] rfl))
  · have hox := lcA0 hz0
    refine lv_aload_n C.1.1.1 C.1.1.2.1 dL_law_735 rfl (lv_at hl 3 rfl) ?_
    refine lv_iconst C.1.1.1 C.1.1.2.1 dL_law_736 rfl ?_
    refine va_lald C.1.1.1 C.1.1.2.1 C.2.2.1 X.2.2.1 0 0 rfl rfl (by unfold vp_in; decide) dL_law_737 ?_
    refine lv_iload C.1.1.1 C.1.1.2.1 dL_law_738 (lv_at hl 0 rfl) ?_
    refine lv_i2l C.1.1.1 C.1.1.2.1 dL_law_740 rfl ?_
    refine W.lcmp C.1.1.1 C.1.1.2.1 dL_law_741 ?_
    have he := lg_cmp0 ((lrow0 (f := f) hox).trans (congrArg Int32.toInt64 (h5 hox)))
    refine lv_if_eq (tgt := 747) C.1.1.1 C.1.1.2.1 dL_law_742 (by decide) (fun _ => ?_) (fun hz9 => absurd he hz9)
    refine lv_goto (tgt := 2325) C.1.1.1 C.1.1.2.1 dL_law_747 (by decide) ?_
    exact W.widen (k := cs + 4) (n := sl + 24) (Nat.add_le_add_left (Nat.le_of_ble_eq_true rfl) _) (Nat.add_le_add_left (Nat.le_of_ble_eq_true rfl) _) (kk _ _ _ _ _ _ h6 X (lv_sub hl [2, 3, 4, 5, 6] rfl))
theorem LB_drain0 (C : LCx p l s m args meth c D g g2 cI cB cZ cQ cS cJ aK aV aO b L xs Am Am2) (hi : Lin i L) (X : LX D g g2 cI cB cZ cQ cS cJ aK aO b L xs SX SM f s H locs) (hJ : J SX SM) (hl : lv_has ls 7 (Llv b (g 0) (g2 99) aO i)) (hc4 : cs + 4 ≤ 600002) (hs4 : sl + 24 ≤ 7302232) (hz : xs (Int32.toNatClampNeg (i + 2)) = 0) (h : Lw_drain J) (kk : ∀ (H1 : Heap) (locs1 : List Loc) (ls1 : Array Slot) (SX1 SM1 : gS) (f1 : Nat → Int64), J SX1 SM1 → LX D g g2 cI cB cZ cQ cS cJ aK aO b L xs SX1 SM1 f1 s H1 locs1 → lv_has ls1 7 (Llv b (g 0) (g2 99) aO i) → W p l e room_1 s m args below meth c H1 locs1 (cs + 4) (sl + 24) Q (F0 m 2325 ls1 [])) : W p l e room_1 s m args below meth c H locs cs sl Q (F0 m 750 ls []) := by
  obtain ⟨N, ox, M, om, h1, h2, h3, h4, h5, h6⟩ := h SX SM (xs (Int32.toNatClampNeg (i + 1))) 0 hJ (Or.inl rfl)
  unfold Llv at hl
  refine lv_aload_n C.1.1.1 C.1.1.2.1 dL_law_750 rfl (lv_at hl 3 rfl) ?_
  refine lv_aload_n C.1.1.1 C.1.1.2.1 dL_law_751 rfl (lv_at hl 4 rfl) ?_
  refine lv_iload C.1.1.1 C.1.1.2.1 dL_law_752 (lv_at hl 0 rfl) ?_
  refine lv_iconst C.1.1.1 C.1.1.2.1 dL_law_754 rfl ?_
  refine lv_iadd C.1.1.1 C.1.1.2.1 dL_law_755 ?_
  refine L_ld C X hi.2.1 dL_law_756 ?_
  refine lv_aload_n C.1.1.1 C.1.1.2.1 dL_law_757 rfl (lv_at hl 4 rfl) ?_
  refine lv_iload C.1.1.1 C.1.1.2.1 dL_law_758 (lv_at hl 0 rfl) ?_
  refine lv_iconst C.1.1.1 C.1.1.2.1 dL_law_760 rfl ?_
  refine lv_iadd C.1.1.1 C.1.1.2.1 dL_law_761 ?_
  refine L_ld C X hi.2.2.1 dL_law_762 ?_
  refine lv_if_eq (tgt := 770) C.1.1.1 C.1.1.2.1 dL_law_763 (by decide) (fun _ => ?_) (fun hz9 => absurd hz hz9)
  refine lv_iconst C.1.1.1 C.1.1.2.1 dL_law_770 rfl ?_
  refine lv_aload_n C.1.1.1 C.1.1.2.1 dL_law_771 rfl (lv_at hl 1 rfl) ?_
  refine L_callS C.2.2.2.2.2.1.1.1.1 C.2.2.2.2.2.2.1.1 C.2.2.2.2.1 C.1 C.2.2.1 C.2.2.2.1 X lw_drain rfl (kL_drain C.2.2.2.2.2.1 C.1.2.2.2.2.1 (fun k hk => (C.2.2.2.2.1.1 k hk).2.1) N (xs (Int32.toNatClampNeg (i + 1))) 0 SX f ox h1 h3) (Nat.le_of_ble_eq_true rfl) (Nat.le_of_ble_eq_true rfl) (Nat.le_trans (Nat.add_le_add_left (Nat.le_of_ble_eq_true rfl) _) hc4) (Nat.le_trans (Nat.add_le_add_left (Nat.le_of_ble_eq_true rfl) _) hs4) rfl hl.1 rfl (Nat.le_of_ble_eq_true rfl) dL_law_772 (fun H locs X => ?_)
  refine lv_istore C.1.1.1 C.1.1.2.1 dL_law_775 hl (by decide) rfl (fun ls hl => ?_)
  refine lv_aload_n C.1.1.1 C.1.1.2.1 dL_law_777 rfl (lv_at hl 3 rfl) ?_
  refine lv_aload_n C.1.1.1 C.1.1.2.1 dL_law_778 rfl (lv_at hl 5 rfl) ?_
  refine lv_iload C.1.1.1 C.1.1.2.1 dL_law_779 (lv_at hl 1 rfl) ?_
  refine lv_iconst C.1.1.1 C.1.1.2.1 dL_law_781 rfl ?_
  refine lv_iadd C.1.1.1 C.1.1.2.1 dL_law_782 ?_
  refine L_ld C X hi.2.1 dL_law_783 ?_
  refine lv_aload_n C.1.1.1 C.1.1.2.1 dL_law_784 rfl (lv_at hl 5 rfl) ?_
  refine lv_iload C.1.1.1 C.1.1.2.1 dL_law_785 (lv_at hl 1 rfl) ?_
  refine lv_iconst C.1.1.1 C.1.1.2.1 dL_law_787 rfl ?_
  refine lv_iadd C.1.1.1 C.1.1.2.1 dL_law_788 ?_
  refine L_ld C X hi.2.2.1 dL_law_789 ?_
  refine lv_if_eq (tgt := 797) C.1.1.1 C.1.1.2.1 dL_law_790 (by decide) (fun _ => ?_) (fun hz9 => absurd hz hz9)
  refine lv_iconst C.1.1.1 C.1.1.2.1 dL_law_797 rfl ?_
  refine L_callM C.2.2.2.2.2.1.1.1.1 C.2.2.2.2.2.2.1.1 C.2.2.2.2.1 C.2.1 X xv_L_157 rfl (kX12_drain C.2.2.2.2.2.2.1.1 C.2.1.2.2.2.2.1 M (xs (Int32.toNatClampNeg (i + 1))) 0 SM om h2) (Nat.le_of_ble_eq_true rfl) (Nat.le_of_ble_eq_true rfl) (Nat.le_trans (Nat.add_le_add_left (Nat.le_of_ble_eq_true rfl) _) hc4) (Nat.le_trans (Nat.add_le_add_left (Nat.le_of_ble_eq_true rfl) _) hs4) rfl hl.1 rfl (Nat.le_of_ble_eq_true rfl) dL_law_798 (fun H locs X => ?_)
  refine lv_istore C.1.1.1 C.1.1.2.1 dL_law_801 hl (by decide) rfl (fun ls hl => ?_)
  refine lv_aload_n C.1.1.1 C.1.1.2.1 dL_law_803 rfl (lv_at hl 4 rfl) ?_
  refine L_callM C.2.2.2.2.2.1.1.1.1 C.2.2.2.2.2.2.1.1 C.2.2.2.2.1 C.2.1 X xv_L_123 rfl (kX12_thrown C.2.2.2.2.2.2.1.1 C.2.1.2.2.2.2.1 0 om.2 (om.2 99 4, om.2) rfl) (Nat.le_of_ble_eq_true rfl) (Nat.le_of_ble_eq_true rfl) (Nat.le_trans (Nat.add_le_add_left (Nat.le_of_ble_eq_true rfl) _) hc4) (Nat.le_trans (Nat.add_le_add_left (Nat.le_of_ble_eq_true rfl) _) hs4) rfl hl.1 rfl (Nat.le_of_ble_eq_true rfl) dL_law_804 (fun H locs X => ?_)
  refine lv_iload C.1.1.1 C.1.1.2.1 dL_law_807 (lv_at hl 1 rfl) ?_
  refine lv_icmp_eq (tgt := 814) C.1.1.1 C.1.1.2.1 dL_law_809 (by decide) (fun _ => ?_) (fun hz => absurd h4 hz)
  refine lv_iload C.1.1.1 C.1.1.2.1 dL_law_814 (lv_at hl 1 rfl) ?_
  refine lv_if_ne (tgt := 838) C.1.1.1 C.1.1.2.1 dL_law_816 (by decide) (fun _ => ?_) (fun hz0 => ?_)
  · refine lv_goto (tgt := 2325) C.1.1.1 C.1.1.2.1 dL_law_838 (by decide) ?_
    exact W.widen (k := cs + 4) (n := sl + 24) (Nat.add_le_add_left (Nat.le_of_ble_eq_true rfl) _) (Nat.add_le_add_left (Nat.le_of_ble_eq_true rfl) _) (kk _ _ _ _ _ _ h6 X (lv_sub hl [2, 3, 4, 5, 6] rfl))
  · have hox := lcA0 hz0
    refine lv_aload_n C.1.1.1 C.1.1.2.1 dL_law_819 rfl (lv_at hl 3 rfl) ?_
    refine lv_iconst C.1.1.1 C.1.1.2.1 dL_law_820 rfl ?_
    refine va_lald C.1.1.1 C.1.1.2.1 C.2.2.1 X.2.2.1 0 0 rfl rfl (by unfold vp_in; decide) dL_law_821 ?_
    refine lv_iload C.1.1.1 C.1.1.2.1 dL_law_822 (lv_at hl 0 rfl) ?_
    refine lv_if_eq (tgt := 831) C.1.1.1 C.1.1.2.1 dL_law_824 (by decide) (fun hb => ?_) (fun hb => ?_)
    · refine lv_lconst C.1.1.1 C.1.1.2.1 dL_law_831 rfl ?_
      have he : lg_cmp (lrowZ f ox (Int32.toNatClampNeg 0)) 0 = 0 := lg_cmp0 ((lrowZ0 (f := f) hox).trans (if_pos ((h5 hox).trans hb)))
      refine W.lcmp C.1.1.1 C.1.1.2.1 dL_law_832 ?_
      refine lv_if_eq (tgt := 838) C.1.1.1 C.1.1.2.1 dL_law_833 (by decide) (fun _ => ?_) (fun hz9 => absurd he hz9)
      refine lv_goto (tgt := 2325) C.1.1.1 C.1.1.2.1 dL_law_838 (by decide) ?_
      exact W.widen (k := cs + 4) (n := sl + 24) (Nat.add_le_add_left (Nat.le_of_ble_eq_true rfl) _) (Nat.add_le_add_left (Nat.le_of_ble_eq_true rfl) _) (kk _ _ _ _ _ _ h6 X (lv_sub hl [2, 3, 4, 5, 6] rfl))
    · refine lv_lconst C.1.1.1 C.1.1.2.1 dL_law_827 rfl ?_
      refine lv_goto (tgt := 832) C.1.1.1 C.1.1.2.1 dL_law_828 (by decide) ?_
      have he : lg_cmp (lrowZ f ox (Int32.toNatClampNeg 0)) 1 = 0 := lg_cmp0 ((lrowZ0 (f := f) hox).trans (if_neg (fun q => hb ((h5 hox).symm.trans q))))
      refine W.lcmp C.1.1.1 C.1.1.2.1 dL_law_832 ?_
      refine lv_if_eq (tgt := 838) C.1.1.1 C.1.1.2.1 dL_law_833 (by decide) (fun _ => ?_) (fun hz9 => absurd he hz9)
      refine lv_goto (tgt := 2325) C.1.1.1 C.1.1.2.1 dL_law_838 (by decide) ?_
      exact W.widen (k := cs + 4) (n := sl + 24) (Nat.add_le_add_left (Nat.le_of_ble_eq_true rfl) _) (Nat.add_le_add_left (Nat.le_of_ble_eq_true rfl) _) (kk _ _ _ _ _ _ h6 X (lv_sub hl [2, 3, 4, 5, 6] rfl))
theorem LB_drain1 (C : LCx p l s m args meth c D g g2 cI cB cZ cQ cS cJ aK aV aO b L xs Am Am2) (hi : Lin i L) (X : LX D g g2 cI cB cZ cQ cS cJ aK aO b L xs SX SM f s H locs) (hJ : J SX SM) (hl : lv_has ls 7 (Llv b (g 0) (g2 99) aO i)) (hc4 : cs + 4 ≤ 600002) (hs4 : sl + 24 ≤ 7302232) (hz : ¬ xs (Int32.toNatClampNeg (i + 2)) = 0) (h : Lw_drain J) (kk : ∀ (H1 : Heap) (locs1 : List Loc) (ls1 : Array Slot) (SX1 SM1 : gS) (f1 : Nat → Int64), J SX1 SM1 → LX D g g2 cI cB cZ cQ cS cJ aK aO b L xs SX1 SM1 f1 s H1 locs1 → lv_has ls1 7 (Llv b (g 0) (g2 99) aO i) → W p l e room_1 s m args below meth c H1 locs1 (cs + 4) (sl + 24) Q (F0 m 2325 ls1 [])) : W p l e room_1 s m args below meth c H locs cs sl Q (F0 m 750 ls []) := by
  obtain ⟨N, ox, M, om, h1, h2, h3, h4, h5, h6⟩ := h SX SM (xs (Int32.toNatClampNeg (i + 1))) 1 hJ (Or.inr rfl)
  unfold Llv at hl
  refine lv_aload_n C.1.1.1 C.1.1.2.1 dL_law_750 rfl (lv_at hl 3 rfl) ?_
  refine lv_aload_n C.1.1.1 C.1.1.2.1 dL_law_751 rfl (lv_at hl 4 rfl) ?_
  refine lv_iload C.1.1.1 C.1.1.2.1 dL_law_752 (lv_at hl 0 rfl) ?_
  refine lv_iconst C.1.1.1 C.1.1.2.1 dL_law_754 rfl ?_
  refine lv_iadd C.1.1.1 C.1.1.2.1 dL_law_755 ?_
  refine L_ld C X hi.2.1 dL_law_756 ?_
  refine lv_aload_n C.1.1.1 C.1.1.2.1 dL_law_757 rfl (lv_at hl 4 rfl) ?_
  refine lv_iload C.1.1.1 C.1.1.2.1 dL_law_758 (lv_at hl 0 rfl) ?_
  refine lv_iconst C.1.1.1 C.1.1.2.1 dL_law_760 rfl ?_
  refine lv_iadd C.1.1.1 C.1.1.2.1 dL_law_761 ?_
  refine L_ld C X hi.2.2.1 dL_law_762 ?_
  refine lv_if_eq (tgt := 770) C.1.1.1 C.1.1.2.1 dL_law_763 (by decide) (fun hz9 => absurd hz9 hz) (fun _ => ?_)
  refine lv_iconst C.1.1.1 C.1.1.2.1 dL_law_766 rfl ?_
  refine lv_goto (tgt := 771) C.1.1.1 C.1.1.2.1 dL_law_767 (by decide) ?_
  refine lv_aload_n C.1.1.1 C.1.1.2.1 dL_law_771 rfl (lv_at hl 1 rfl) ?_
  refine L_callS C.2.2.2.2.2.1.1.1.1 C.2.2.2.2.2.2.1.1 C.2.2.2.2.1 C.1 C.2.2.1 C.2.2.2.1 X lw_drain rfl (kL_drain C.2.2.2.2.2.1 C.1.2.2.2.2.1 (fun k hk => (C.2.2.2.2.1.1 k hk).2.1) N (xs (Int32.toNatClampNeg (i + 1))) 1 SX f ox h1 h3) (Nat.le_of_ble_eq_true rfl) (Nat.le_of_ble_eq_true rfl) (Nat.le_trans (Nat.add_le_add_left (Nat.le_of_ble_eq_true rfl) _) hc4) (Nat.le_trans (Nat.add_le_add_left (Nat.le_of_ble_eq_true rfl) _) hs4) rfl hl.1 rfl (Nat.le_of_ble_eq_true rfl) dL_law_772 (fun H locs X => ?_)
  refine lv_istore C.1.1.1 C.1.1.2.1 dL_law_775 hl (by decide) rfl (fun ls hl => ?_)
  refine lv_aload_n C.1.1.1 C.1.1.2.1 dL_law_777 rfl (lv_at hl 3 rfl) ?_
  refine lv_aload_n C.1.1.1 C.1.1.2.1 dL_law_778 rfl (lv_at hl 5 rfl) ?_
  refine lv_iload C.1.1.1 C.1.1.2.1 dL_law_779 (lv_at hl 1 rfl) ?_
  refine lv_iconst C.1.1.1 C.1.1.2.1 dL_law_781 rfl ?_
  refine lv_iadd C.1.1.1 C.1.1.2.1 dL_law_782 ?_
  refine L_ld C X hi.2.1 dL_law_783 ?_
  refine lv_aload_n C.1.1.1 C.1.1.2.1 dL_law_784 rfl (lv_at hl 5 rfl) ?_
  refine lv_iload C.1.1.1 C.1.1.2.1 dL_law_785 (lv_at hl 1 rfl) ?_
  refine lv_iconst C.1.1.1 C.1.1.2.1 dL_law_787 rfl ?_
  refine lv_iadd C.1.1.1 C.1.1.2.1 dL_law_788 ?_
  refine L_ld C X hi.2.2.1 dL_law_789 ?_
  refine lv_if_eq (tgt := 797) C.1.1.1 C.1.1.2.1 dL_law_790 (by decide) (fun hz9 => absurd hz9 hz) (fun _ => ?_)
  refine lv_iconst C.1.1.1 C.1.1.2.1 dL_law_793 rfl ?_
  refine lv_goto (tgt := 798) C.1.1.1 C.1.1.2.1 dL_law_794 (by decide) ?_
  refine L_callM C.2.2.2.2.2.1.1.1.1 C.2.2.2.2.2.2.1.1 C.2.2.2.2.1 C.2.1 X xv_L_157 rfl (kX12_drain C.2.2.2.2.2.2.1.1 C.2.1.2.2.2.2.1 M (xs (Int32.toNatClampNeg (i + 1))) 1 SM om h2) (Nat.le_of_ble_eq_true rfl) (Nat.le_of_ble_eq_true rfl) (Nat.le_trans (Nat.add_le_add_left (Nat.le_of_ble_eq_true rfl) _) hc4) (Nat.le_trans (Nat.add_le_add_left (Nat.le_of_ble_eq_true rfl) _) hs4) rfl hl.1 rfl (Nat.le_of_ble_eq_true rfl) dL_law_798 (fun H locs X => ?_)
  refine lv_istore C.1.1.1 C.1.1.2.1 dL_law_801 hl (by decide) rfl (fun ls hl => ?_)
  refine lv_aload_n C.1.1.1 C.1.1.2.1 dL_law_803 rfl (lv_at hl 4 rfl) ?_
  refine L_callM C.2.2.2.2.2.1.1.1.1 C.2.2.2.2.2.2.1.1 C.2.2.2.2.1 C.2.1 X xv_L_123 rfl (kX12_thrown C.2.2.2.2.2.2.1.1 C.2.1.2.2.2.2.1 0 om.2 (om.2 99 4, om.2) rfl) (Nat.le_of_ble_eq_true rfl) (Nat.le_of_ble_eq_true rfl) (Nat.le_trans (Nat.add_le_add_left (Nat.le_of_ble_eq_true rfl) _) hc4) (Nat.le_trans (Nat.add_le_add_left (Nat.le_of_ble_eq_true rfl) _) hs4) rfl hl.1 rfl (Nat.le_of_ble_eq_true rfl) dL_law_804 (fun H locs X => ?_)
  refine lv_iload C.1.1.1 C.1.1.2.1 dL_law_807 (lv_at hl 1 rfl) ?_
  refine lv_icmp_eq (tgt := 814) C.1.1.1 C.1.1.2.1 dL_law_809 (by decide) (fun _ => ?_) (fun hz => absurd h4 hz)
  refine lv_iload C.1.1.1 C.1.1.2.1 dL_law_814 (lv_at hl 1 rfl) ?_
  refine lv_if_ne (tgt := 838) C.1.1.1 C.1.1.2.1 dL_law_816 (by decide) (fun _ => ?_) (fun hz0 => ?_)
  · refine lv_goto (tgt := 2325) C.1.1.1 C.1.1.2.1 dL_law_838 (by decide) ?_
    exact W.widen (k := cs + 4) (n := sl + 24) (Nat.add_le_add_left (Nat.le_of_ble_eq_true rfl) _) (Nat.add_le_add_left (Nat.le_of_ble_eq_true rfl) _) (kk _ _ _ _ _ _ h6 X (lv_sub hl [2, 3, 4, 5, 6] rfl))
  · have hox := lcA0 hz0
    refine lv_aload_n C.1.1.1 C.1.1.2.1 dL_law_819 rfl (lv_at hl 3 rfl) ?_
    refine lv_iconst C.1.1.1 C.1.1.2.1 dL_law_820 rfl ?_
    refine va_lald C.1.1.1 C.1.1.2.1 C.2.2.1 X.2.2.1 0 0 rfl rfl (by unfold vp_in; decide) dL_law_821 ?_
    refine lv_iload C.1.1.1 C.1.1.2.1 dL_law_822 (lv_at hl 0 rfl) ?_
    refine lv_if_eq (tgt := 831) C.1.1.1 C.1.1.2.1 dL_law_824 (by decide) (fun hb => ?_) (fun hb => ?_)
    · refine lv_lconst C.1.1.1 C.1.1.2.1 dL_law_831 rfl ?_
      have he : lg_cmp (lrowZ f ox (Int32.toNatClampNeg 0)) 0 = 0 := lg_cmp0 ((lrowZ0 (f := f) hox).trans (if_pos ((h5 hox).trans hb)))
      refine W.lcmp C.1.1.1 C.1.1.2.1 dL_law_832 ?_
      refine lv_if_eq (tgt := 838) C.1.1.1 C.1.1.2.1 dL_law_833 (by decide) (fun _ => ?_) (fun hz9 => absurd he hz9)
      refine lv_goto (tgt := 2325) C.1.1.1 C.1.1.2.1 dL_law_838 (by decide) ?_
      exact W.widen (k := cs + 4) (n := sl + 24) (Nat.add_le_add_left (Nat.le_of_ble_eq_true rfl) _) (Nat.add_le_add_left (Nat.le_of_ble_eq_true rfl) _) (kk _ _ _ _ _ _ h6 X (lv_sub hl [2, 3, 4, 5, 6] rfl))
    · refine lv_lconst C.1.1.1 C.1.1.2.1 dL_law_827 rfl ?_
      refine lv_goto (tgt := 832) C.1.1.1 C.1.1.2.1 dL_law_828 (by decide) ?_
      have he : lg_cmp (lrowZ f ox (Int32.toNatClampNeg 0)) 1 = 0 := lg_cmp0 ((lrowZ0 (f := f) hox).trans (if_neg (fun q => hb ((h5 hox).symm.trans q))))
      refine W.lcmp C.1.1.1 C.1.1.2.1 dL_law_832 ?_
      refine lv_if_eq (tgt := 838) C.1.1.1 C.1.1.2.1 dL_law_833 (by decide) (fun _ => ?_) (fun hz9 => absurd he hz9)
      refine lv_goto (tgt := 2325) C.1.1.1 C.1.1.2.1 dL_law_838 (by decide) ?_
      exact W.widen (k := cs + 4) (n := sl + 24) (Nat.add_le_add_left (Nat.le_of_ble_eq_true rfl) _) (Nat.add_le_add_left (Nat.le_of_ble_eq_true rfl) _) (kk _ _ _ _ _ _ h6 X (lv_sub hl [2, 3, 4, 5, 6] rfl))
theorem LB_give (C : LCx p l s m args meth c D g g2 cI cB cZ cQ cS cJ aK aV aO b L xs Am Am2) (hi : Lin i L) (X : LX D g g2 cI cB cZ cQ cS cJ aK aO b L xs SX SM f s H locs) (hJ : J SX SM) (hl : lv_has ls 7 (Llv b (g 0) (g2 99) aO i)) (hc4 : cs + 4 ≤ 600002) (hs4 : sl + 24 ≤ 7302232) (h : Lw_give J) (kk : ∀ (H1 : Heap) (locs1 : List Loc) (ls1 : Array Slot) (SX1 SM1 : gS) (f1 : Nat → Int64), J SX1 SM1 → LX D g g2 cI cB cZ cQ cS cJ aK aO b L xs SX1 SM1 f1 s H1 locs1 → lv_has ls1 7 (Llv b (g 0) (g2 99) aO i) → W p l e room_1 s m args below meth c H1 locs1 (cs + 4) (sl + 24) Q (F0 m 2325 ls1 [])) : W p l e room_1 s m args below meth c H locs cs sl Q (F0 m 841 ls []) := by
  obtain ⟨N, ox, M, om, h1, h2, h3, h4, h5, h6⟩ := h SX SM (xs (Int32.toNatClampNeg (i + 1))) (xs (Int32.toNatClampNeg (i + 2))) hJ
  unfold Llv at hl
  refine lv_aload_n C.1.1.1 C.1.1.2.1 dL_law_841 rfl (lv_at hl 3 rfl) ?_
  refine lv_aload_n C.1.1.1 C.1.1.2.1 dL_law_842 rfl (lv_at hl 4 rfl) ?_
  refine lv_iload C.1.1.1 C.1.1.2.1 dL_law_843 (lv_at hl 0 rfl) ?_
  refine lv_iconst C.1.1.1 C.1.1.2.1 dL_law_845 rfl ?_
  refine lv_iadd C.1.1.1 C.1.1.2.1 dL_law_846 ?_
  refine L_ld C X hi.2.1 dL_law_847 ?_
  refine lv_aload_n C.1.1.1 C.1.1.2.1 dL_law_848 rfl (lv_at hl 4 rfl) ?_
  refine lv_iload C.1.1.1 C.1.1.2.1 dL_law_849 (lv_at hl 0 rfl) ?_
  refine lv_iconst C.1.1.1 C.1.1.2.1 dL_law_851 rfl ?_
  refine lv_iadd C.1.1.1 C.1.1.2.1 dL_law_852 ?_
  refine L_ld C X hi.2.2.1 dL_law_853 ?_
  refine lv_aload_n C.1.1.1 C.1.1.2.1 dL_law_854 rfl (lv_at hl 1 rfl) ?_
  refine L_callS C.2.2.2.2.2.1.1.1.1 C.2.2.2.2.2.2.1.1 C.2.2.2.2.1 C.1 C.2.2.1 C.2.2.2.1 X lw_give rfl (kL_give C.2.2.2.2.2.1 C.1.2.2.2.2.1 (fun k hk => (C.2.2.2.2.1.1 k hk).2.1) N (xs (Int32.toNatClampNeg (i + 1))) (xs (Int32.toNatClampNeg (i + 2))) SX f ox h1 h3) (Nat.le_of_ble_eq_true rfl) (Nat.le_of_ble_eq_true rfl) (Nat.le_trans (Nat.add_le_add_left (Nat.le_of_ble_eq_true rfl) _) hc4) (Nat.le_trans (Nat.add_le_add_left (Nat.le_of_ble_eq_true rfl) _) hs4) rfl hl.1 rfl (Nat.le_of_ble_eq_true rfl) dL_law_855 (fun H locs X => ?_)
  refine lv_istore C.1.1.1 C.1.1.2.1 dL_law_858 hl (by decide) rfl (fun ls hl => ?_)
  refine lv_aload_n C.1.1.1 C.1.1.2.1 dL_law_860 rfl (lv_at hl 3 rfl) ?_
  refine lv_aload_n C.1.1.1 C.1.1.2.1 dL_law_861 rfl (lv_at hl 5 rfl) ?_
  refine lv_iload C.1.1.1 C.1.1.2.1 dL_law_862 (lv_at hl 1 rfl) ?_
  refine lv_iconst C.1.1.1 C.1.1.2.1 dL_law_864 rfl ?_
  refine lv_iadd C.1.1.1 C.1.1.2.1 dL_law_865 ?_
  refine L_ld C X hi.2.1 dL_law_866 ?_
  refine lv_aload_n C.1.1.1 C.1.1.2.1 dL_law_867 rfl (lv_at hl 5 rfl) ?_
  refine lv_iload C.1.1.1 C.1.1.2.1 dL_law_868 (lv_at hl 1 rfl) ?_
  refine lv_iconst C.1.1.1 C.1.1.2.1 dL_law_870 rfl ?_
  refine lv_iadd C.1.1.1 C.1.1.2.1 dL_law_871 ?_
  refine L_ld C X hi.2.2.1 dL_law_872 ?_
  refine L_callM C.2.2.2.2.2.1.1.1.1 C.2.2.2.2.2.2.1.1 C.2.2.2.2.1 C.2.1 X xv_L_160 rfl (kX12_give C.2.2.2.2.2.2.1.1 C.2.1.2.2.2.2.1 M (xs (Int32.toNatClampNeg (i + 1))) (xs (Int32.toNatClampNeg (i + 2))) SM om h2) (Nat.le_of_ble_eq_true rfl) (Nat.le_of_ble_eq_true rfl) (Nat.le_trans (Nat.add_le_add_left (Nat.le_of_ble_eq_true rfl) _) hc4) (Nat.le_trans (Nat.add_le_add_left (Nat.le_of_ble_eq_true rfl) _) hs4) rfl hl.1 rfl (Nat.le_of_ble_eq_true rfl) dL_law_873 (fun H locs X => ?_)
  refine lv_istore C.1.1.1 C.1.1.2.1 dL_law_876 hl (by decide) rfl (fun ls hl => ?_)
  refine lv_aload_n C.1.1.1 C.1.1.2.1 dL_law_878 rfl (lv_at hl 4 rfl) ?_
  refine L_callM C.2.2.2.2.2.1.1.1.1 C.2.2.2.2.2.2.1.1 C.2.2.2.2.1 C.2.1 X xv_L_123 rfl (kX12_thrown C.2.2.2.2.2.2.1.1 C.2.1.2.2.2.2.1 0 om.2 (om.2 99 4, om.2) rfl) (Nat.le_of_ble_eq_true rfl) (Nat.le_of_ble_eq_true rfl) (Nat.le_trans (Nat.add_le_add_left (Nat.le_of_ble_eq_true rfl) _) hc4) (Nat.le_trans (Nat.add_le_add_left (Nat.le_of_ble_eq_true rfl) _) hs4) rfl hl.1 rfl (Nat.le_of_ble_eq_true rfl) dL_law_879 (fun H locs X => ?_)
  refine lv_iload C.1.1.1 C.1.1.2.1 dL_law_882 (lv_at hl 1 rfl) ?_
  refine lv_icmp_eq (tgt := 889) C.1.1.1 C.1.1.2.1 dL_law_884 (by decide) (fun _ => ?_) (fun hz => absurd h4 hz)
  refine lv_iload C.1.1.1 C.1.1.2.1 dL_law_889 (lv_at hl 1 rfl) ?_
  refine lv_if_ne (tgt := 906) C.1.1.1 C.1.1.2.1 dL_law_891 (by decide) (fun _ => ?_) (fun hz0 => ?_)
  · refine lv_goto (tgt := 2325) C.1.1.1 C.1.1.2.1 dL_law_906 (by decide) ?_
    exact W.widen (k := cs + 4) (n := sl + 24) (Nat.add_le_add_left (Nat.le_of_ble_eq_true rfl) _) (Nat.add_le_add_left (Nat.le_of_ble_eq_true rfl) _) (kk _ _ _ _ _ _ h6 X (lv_sub hl [2, 3, 4, 5, 6] rfl))
  · have hox := lcA0 hz0
    refine lv_aload_n C.1.1.1 C.1.1.2.1 dL_law_894 rfl (lv_at hl 3 rfl) ?_
    refine lv_iconst C.1.1.1 C.1.1.2.1 dL_law_895 rfl ?_
    refine va_lald C.1.1.1 C.1.1.2.1 C.2.2.1 X.2.2.1 0 0 rfl rfl (by unfold vp_in; decide) dL_law_896 ?_
    refine lv_iload C.1.1.1 C.1.1.2.1 dL_law_897 (lv_at hl 0 rfl) ?_
    refine lv_i2l C.1.1.1 C.1.1.2.1 dL_law_899 rfl ?_
    refine W.lcmp C.1.1.1 C.1.1.2.1 dL_law_900 ?_
    have he := lg_cmp0 ((lrow0 (f := f) hox).trans (congrArg Int32.toInt64 (h5 hox)))
    refine lv_if_eq (tgt := 906) C.1.1.1 C.1.1.2.1 dL_law_901 (by decide) (fun _ => ?_) (fun hz9 => absurd he hz9)
    refine lv_goto (tgt := 2325) C.1.1.1 C.1.1.2.1 dL_law_906 (by decide) ?_
    exact W.widen (k := cs + 4) (n := sl + 24) (Nat.add_le_add_left (Nat.le_of_ble_eq_true rfl) _) (Nat.add_le_add_left (Nat.le_of_ble_eq_true rfl) _) (kk _ _ _ _ _ _ h6 X (lv_sub hl [2, 3, 4, 5, 6] rfl))
theorem LB_undo (C : LCx p l s m args meth c D g g2 cI cB cZ cQ cS cJ aK aV aO b L xs Am Am2) (hi : Lin i L) (X : LX D g g2 cI cB cZ cQ cS cJ aK aO b L xs SX SM f s H locs) (hJ : J SX SM) (hl : lv_has ls 7 (Llv b (g 0) (g2 99) aO i)) (hc4 : cs + 4 ≤ 600002) (hs4 : sl + 24 ≤ 7302232) (h : Lw_undo J) (kk : ∀ (H1 : Heap) (locs1 : List Loc) (ls1 : Array Slot) (SX1 SM1 : gS) (f1 : Nat → Int64), J SX1 SM1 → LX D g g2 cI cB cZ cQ cS cJ aK aO b L xs SX1 SM1 f1 s H1 locs1 → lv_has ls1 7 (Llv b (g 0) (g2 99) aO i) → W p l e room_1 s m args below meth c H1 locs1 (cs + 4) (sl + 24) Q (F0 m 2325 ls1 [])) : W p l e room_1 s m args below meth c H locs cs sl Q (F0 m 909 ls []) := by
  obtain ⟨N, ox, M, om, h1, h2, h5, h6⟩ := h SX SM  hJ
  unfold Llv at hl
  refine lv_aload_n C.1.1.1 C.1.1.2.1 dL_law_909 rfl (lv_at hl 3 rfl) ?_
  refine L_callX C.2.2.2.2.2.1.1.1.1 C.2.2.2.2.2.2.1.1 C.2.2.2.2.1 C.1 X xv_L_161 rfl (kX11_undo C.2.2.2.2.2.1.1.1 C.1.2.2.2.2.1 N  SX ox h1) (Nat.le_of_ble_eq_true rfl) (Nat.le_of_ble_eq_true rfl) (Nat.le_trans (Nat.le_add_right _ _) hc4) (Nat.le_trans (Nat.le_add_right _ _) hs4) rfl hl.1 rfl (Nat.le_of_ble_eq_true rfl) dL_law_910 (fun H locs X => ?_)
  refine lv_aload_n C.1.1.1 C.1.1.2.1 dL_law_913 rfl (lv_at hl 2 rfl) ?_
  refine L_callM C.2.2.2.2.2.1.1.1.1 C.2.2.2.2.2.2.1.1 C.2.2.2.2.1 C.2.1 X xv_L_164 rfl (kX12_undo C.2.2.2.2.2.2.1.1 C.2.1.2.2.2.2.1 M  SM om h2) (Nat.le_of_ble_eq_true rfl) (Nat.le_of_ble_eq_true rfl) (Nat.le_trans (Nat.le_add_right _ _) hc4) (Nat.le_trans (Nat.le_add_right _ _) hs4) rfl hl.1 rfl (Nat.le_of_ble_eq_true rfl) dL_law_914 (fun H locs X => ?_)
  refine lv_icmp_eq (tgt := 2325) C.1.1.1 C.1.1.2.1 dL_law_917 (by decide) (fun _ => ?_) (fun hz => absurd h5 hz)
  exact W.widen (k := cs + 4) (n := sl + 24) (Nat.le_add_right _ _) (Nat.le_add_right _ _) (kk _ _ _ _ _ _ h6 X (lv_sub hl [0, 1, 2, 3, 4] rfl))
theorem LB_then (C : LCx p l s m args meth c D g g2 cI cB cZ cQ cS cJ aK aV aO b L xs Am Am2) (hi : Lin i L) (X : LX D g g2 cI cB cZ cQ cS cJ aK aO b L xs SX SM f s H locs) (hJ : J SX SM) (hl : lv_has ls 7 (Llv b (g 0) (g2 99) aO i)) (hc4 : cs + 4 ≤ 600002) (hs4 : sl + 24 ≤ 7302232) (h : Lw_then J) (kk : ∀ (H1 : Heap) (locs1 : List Loc) (ls1 : Array Slot) (SX1 SM1 : gS) (f1 : Nat → Int64), J SX1 SM1 → LX D g g2 cI cB cZ cQ cS cJ aK aO b L xs SX1 SM1 f1 s H1 locs1 → lv_has ls1 7 (Llv b (g 0) (g2 99) aO i) → W p l e room_1 s m args below meth c H1 locs1 (cs + 4) (sl + 24) Q (F0 m 2325 ls1 [])) : W p l e room_1 s m args below meth c H locs cs sl Q (F0 m 922 ls []) := by
  obtain ⟨N, ox, M, om, h1, h2, h3, h4, h5, h6⟩ := h SX SM (xs (Int32.toNatClampNeg (i + 1))) (xs (Int32.toNatClampNeg (i + 2))) (xs (Int32.toNatClampNeg (i + 3))) hJ
  unfold Llv at hl
  refine lv_aload_n C.1.1.1 C.1.1.2.1 dL_law_922 rfl (lv_at hl 3 rfl) ?_
  refine lv_aload_n C.1.1.1 C.1.1.2.1 dL_law_923 rfl (lv_at hl 4 rfl) ?_
  refine lv_iload C.1.1.1 C.1.1.2.1 dL_law_924 (lv_at hl 0 rfl) ?_
  refine lv_iconst C.1.1.1 C.1.1.2.1 dL_law_926 rfl ?_
  refine lv_iadd C.1.1.1 C.1.1.2.1 dL_law_927 ?_
  refine L_ld C X hi.2.1 dL_law_928 ?_
  refine lv_aload_n C.1.1.1 C.1.1.2.1 dL_law_929 rfl (lv_at hl 4 rfl) ?_
  refine lv_iload C.1.1.1 C.1.1.2.1 dL_law_930 (lv_at hl 0 rfl) ?_
  refine lv_iconst C.1.1.1 C.1.1.2.1 dL_law_932 rfl ?_
  refine lv_iadd C.1.1.1 C.1.1.2.1 dL_law_933 ?_
  refine L_ld C X hi.2.2.1 dL_law_934 ?_
  refine lv_aload_n C.1.1.1 C.1.1.2.1 dL_law_935 rfl (lv_at hl 4 rfl) ?_
  refine lv_iload C.1.1.1 C.1.1.2.1 dL_law_936 (lv_at hl 0 rfl) ?_
  refine lv_iconst C.1.1.1 C.1.1.2.1 dL_law_938 rfl ?_
  refine lv_iadd C.1.1.1 C.1.1.2.1 dL_law_939 ?_
  refine L_ld C X hi.2.2.2.1 dL_law_940 ?_
  refine lv_aload_n C.1.1.1 C.1.1.2.1 dL_law_941 rfl (lv_at hl 1 rfl) ?_
  refine L_callS C.2.2.2.2.2.1.1.1.1 C.2.2.2.2.2.2.1.1 C.2.2.2.2.1 C.1 C.2.2.1 C.2.2.2.1 X lw_then rfl (kL_then C.2.2.2.2.2.1 C.1.2.2.2.2.1 (fun k hk => (C.2.2.2.2.1.1 k hk).2.1) N (xs (Int32.toNatClampNeg (i + 1))) (xs (Int32.toNatClampNeg (i + 2))) (xs (Int32.toNatClampNeg (i + 3))) SX f ox h1 h3) (Nat.le_of_ble_eq_true rfl) (Nat.le_of_ble_eq_true rfl) (Nat.le_trans (Nat.add_le_add_left (Nat.le_of_ble_eq_true rfl) _) hc4) (Nat.le_trans (Nat.add_le_add_left (Nat.le_of_ble_eq_true rfl) _) hs4) rfl hl.1 rfl (Nat.le_of_ble_eq_true rfl) dL_law_942 (fun H locs X => ?_)
  refine lv_istore C.1.1.1 C.1.1.2.1 dL_law_945 hl (by decide) rfl (fun ls hl => ?_)
  refine lv_aload_n C.1.1.1 C.1.1.2.1 dL_law_947 rfl (lv_at hl 3 rfl) ?_
  refine lv_aload_n C.1.1.1 C.1.1.2.1 dL_law_948 rfl (lv_at hl 5 rfl) ?_
  refine lv_iload C.1.1.1 C.1.1.2.1 dL_law_949 (lv_at hl 1 rfl) ?_
  refine lv_iconst C.1.1.1 C.1.1.2.1 dL_law_951 rfl ?_
  refine lv_iadd C.1.1.1 C.1.1.2.1 dL_law_952 ?_
  refine L_ld C X hi.2.1 dL_law_953 ?_
  refine lv_aload_n C.1.1.1 C.1.1.2.1 dL_law_954 rfl (lv_at hl 5 rfl) ?_
  refine lv_iload C.1.1.1 C.1.1.2.1 dL_law_955 (lv_at hl 1 rfl) ?_
  refine lv_iconst C.1.1.1 C.1.1.2.1 dL_law_957 rfl ?_
  refine lv_iadd C.1.1.1 C.1.1.2.1 dL_law_958 ?_
  refine L_ld C X hi.2.2.1 dL_law_959 ?_
  refine lv_aload_n C.1.1.1 C.1.1.2.1 dL_law_960 rfl (lv_at hl 5 rfl) ?_
  refine lv_iload C.1.1.1 C.1.1.2.1 dL_law_961 (lv_at hl 1 rfl) ?_
  refine lv_iconst C.1.1.1 C.1.1.2.1 dL_law_963 rfl ?_
  refine lv_iadd C.1.1.1 C.1.1.2.1 dL_law_964 ?_
  refine L_ld C X hi.2.2.2.1 dL_law_965 ?_
  refine L_callM C.2.2.2.2.2.1.1.1.1 C.2.2.2.2.2.2.1.1 C.2.2.2.2.1 C.2.1 X xv_L_168 rfl (kX12_then C.2.2.2.2.2.2.1.1 C.2.1.2.2.2.2.1 M (xs (Int32.toNatClampNeg (i + 1))) (xs (Int32.toNatClampNeg (i + 2))) (xs (Int32.toNatClampNeg (i + 3))) SM om h2) (Nat.le_of_ble_eq_true rfl) (Nat.le_of_ble_eq_true rfl) (Nat.le_trans (Nat.add_le_add_left (Nat.le_of_ble_eq_true rfl) _) hc4) (Nat.le_trans (Nat.add_le_add_left (Nat.le_of_ble_eq_true rfl) _) hs4) rfl hl.1 rfl (Nat.le_of_ble_eq_true rfl) dL_law_966 (fun H locs X => ?_)
  refine lv_istore C.1.1.1 C.1.1.2.1 dL_law_969 hl (by decide) rfl (fun ls hl => ?_)
  refine lv_aload_n C.1.1.1 C.1.1.2.1 dL_law_971 rfl (lv_at hl 4 rfl) ?_
  refine L_callM C.2.2.2.2.2.1.1.1.1 C.2.2.2.2.2.2.1.1 C.2.2.2.2.1 C.2.1 X xv_L_123 rfl (kX12_thrown C.2.2.2.2.2.2.1.1 C.2.1.2.2.2.2.1 0 om.2 (om.2 99 4, om.2) rfl) (Nat.le_of_ble_eq_true rfl) (Nat.le_of_ble_eq_true rfl) (Nat.le_trans (Nat.add_le_add_left (Nat.le_of_ble_eq_true rfl) _) hc4) (Nat.le_trans (Nat.add_le_add_left (Nat.le_of_ble_eq_true rfl) _) hs4) rfl hl.1 rfl (Nat.le_of_ble_eq_true rfl) dL_law_972 (fun H locs X => ?_)
  refine lv_iload C.1.1.1 C.1.1.2.1 dL_law_975 (lv_at hl 1 rfl) ?_
  refine lv_icmp_eq (tgt := 982) C.1.1.1 C.1.1.2.1 dL_law_977 (by decide) (fun _ => ?_) (fun hz => absurd h4 hz)
  refine lv_iload C.1.1.1 C.1.1.2.1 dL_law_982 (lv_at hl 1 rfl) ?_
  refine lv_if_ne (tgt := 999) C.1.1.1 C.1.1.2.1 dL_law_984 (by decide) (fun _ => ?_) (fun hz0 => ?_)
  · refine lv_goto (tgt := 2325) C.1.1.1 C.1.1.2.1 dL_law_999 (by decide) ?_
    exact W.widen (k := cs + 4) (n := sl + 24) (Nat.add_le_add_left (Nat.le_of_ble_eq_true rfl) _) (Nat.add_le_add_left (Nat.le_of_ble_eq_true rfl) _) (kk _ _ _ _ _ _ h6 X (lv_sub hl [2, 3, 4, 5, 6] rfl))
  · have hox := lcC0 hz0
    refine lv_aload_n C.1.1.1 C.1.1.2.1 dL_law_987 rfl (lv_at hl 3 rfl) ?_
    refine lv_iconst C.1.1.1 C.1.1.2.1 dL_law_988 rfl ?_
    refine va_lald C.1.1.1 C.1.1.2.1 C.2.2.1 X.2.2.1 0 0 rfl rfl (by unfold vp_in; decide) dL_law_989 ?_
    refine lv_iload C.1.1.1 C.1.1.2.1 dL_law_990 (lv_at hl 0 rfl) ?_
    refine lv_i2l C.1.1.1 C.1.1.2.1 dL_law_992 rfl ?_
    refine W.lcmp C.1.1.1 C.1.1.2.1 dL_law_993 ?_
    have he := lg_cmp0 ((lrow0 (f := f) hox).trans (congrArg Int32.toInt64 (h5 hox)))
    refine lv_if_eq (tgt := 999) C.1.1.1 C.1.1.2.1 dL_law_994 (by decide) (fun _ => ?_) (fun hz9 => absurd he hz9)
    refine lv_goto (tgt := 2325) C.1.1.1 C.1.1.2.1 dL_law_999 (by decide) ?_
    exact W.widen (k := cs + 4) (n := sl + 24) (Nat.add_le_add_left (Nat.le_of_ble_eq_true rfl) _) (Nat.add_le_add_left (Nat.le_of_ble_eq_true rfl) _) (kk _ _ _ _ _ _ h6 X (lv_sub hl [2, 3, 4, 5, 6] rfl))
theorem LB_dripping (C : LCx p l s m args meth c D g g2 cI cB cZ cQ cS cJ aK aV aO b L xs Am Am2) (hi : Lin i L) (X : LX D g g2 cI cB cZ cQ cS cJ aK aO b L xs SX SM f s H locs) (hJ : J SX SM) (hl : lv_has ls 7 (Llv b (g 0) (g2 99) aO i)) (hc4 : cs + 4 ≤ 600002) (hs4 : sl + 24 ≤ 7302232) (h : Lw_dripping J) (kk : ∀ (H1 : Heap) (locs1 : List Loc) (ls1 : Array Slot) (SX1 SM1 : gS) (f1 : Nat → Int64), J SX1 SM1 → LX D g g2 cI cB cZ cQ cS cJ aK aO b L xs SX1 SM1 f1 s H1 locs1 → lv_has ls1 7 (Llv b (g 0) (g2 99) aO i) → W p l e room_1 s m args below meth c H1 locs1 (cs + 4) (sl + 24) Q (F0 m 2325 ls1 [])) : W p l e room_1 s m args below meth c H locs cs sl Q (F0 m 1002 ls []) := by
  obtain ⟨N, ox, M, om, h1, h2, h3, h4, h5, h6⟩ := h SX SM (xs (Int32.toNatClampNeg (i + 1))) hJ
  unfold Llv at hl
  refine lv_aload_n C.1.1.1 C.1.1.2.1 dL_law_1002 rfl (lv_at hl 3 rfl) ?_
  refine lv_aload_n C.1.1.1 C.1.1.2.1 dL_law_1003 rfl (lv_at hl 4 rfl) ?_
  refine lv_iload C.1.1.1 C.1.1.2.1 dL_law_1004 (lv_at hl 0 rfl) ?_
  refine lv_iconst C.1.1.1 C.1.1.2.1 dL_law_1006 rfl ?_
  refine lv_iadd C.1.1.1 C.1.1.2.1 dL_law_1007 ?_
  refine L_ld C X hi.2.1 dL_law_1008 ?_
  refine lv_aload_n C.1.1.1 C.1.1.2.1 dL_law_1009 rfl (lv_at hl 1 rfl) ?_
  refine L_callS C.2.2.2.2.2.1.1.1.1 C.2.2.2.2.2.2.1.1 C.2.2.2.2.1 C.1 C.2.2.1 C.2.2.2.1 X lw_dripping rfl (kL_dripping C.2.2.2.2.2.1 C.1.2.2.2.2.1 (fun k hk => (C.2.2.2.2.1.1 k hk).2.1) N (xs (Int32.toNatClampNeg (i + 1))) SX f ox h1 h3) (Nat.le_of_ble_eq_true rfl) (Nat.le_of_ble_eq_true rfl) (Nat.le_trans (Nat.add_le_add_left (Nat.le_of_ble_eq_true rfl) _) hc4) (Nat.le_trans (Nat.add_le_add_left (Nat.le_of_ble_eq_true rfl) _) hs4) rfl hl.1 rfl (Nat.le_of_ble_eq_true rfl) dL_law_1010 (fun H locs X => ?_)
  refine lv_istore C.1.1.1 C.1.1.2.1 dL_law_1013 hl (by decide) rfl (fun ls hl => ?_)
  refine lv_aload_n C.1.1.1 C.1.1.2.1 dL_law_1015 rfl (lv_at hl 3 rfl) ?_
  refine lv_aload_n C.1.1.1 C.1.1.2.1 dL_law_1016 rfl (lv_at hl 5 rfl) ?_
  refine lv_iload C.1.1.1 C.1.1.2.1 dL_law_1017 (lv_at hl 1 rfl) ?_
  refine lv_iconst C.1.1.1 C.1.1.2.1 dL_law_1019 rfl ?_
  refine lv_iadd C.1.1.1 C.1.1.2.1 dL_law_1020 ?_
  refine L_ld C X hi.2.1 dL_law_1021 ?_
  refine L_callM C.2.2.2.2.2.1.1.1.1 C.2.2.2.2.2.2.1.1 C.2.2.2.2.1 C.2.1 X xv_L_171 rfl (kX12_dripping C.2.2.2.2.2.2.1.1 C.2.1.2.2.2.2.1 M (xs (Int32.toNatClampNeg (i + 1))) SM om h2) (Nat.le_of_ble_eq_true rfl) (Nat.le_of_ble_eq_true rfl) (Nat.le_trans (Nat.add_le_add_left (Nat.le_of_ble_eq_true rfl) _) hc4) (Nat.le_trans (Nat.add_le_add_left (Nat.le_of_ble_eq_true rfl) _) hs4) rfl hl.1 rfl (Nat.le_of_ble_eq_true rfl) dL_law_1022 (fun H locs X => ?_)
  refine lv_istore C.1.1.1 C.1.1.2.1 dL_law_1025 hl (by decide) rfl (fun ls hl => ?_)
  refine lv_aload_n C.1.1.1 C.1.1.2.1 dL_law_1027 rfl (lv_at hl 4 rfl) ?_
  refine L_callM C.2.2.2.2.2.1.1.1.1 C.2.2.2.2.2.2.1.1 C.2.2.2.2.1 C.2.1 X xv_L_123 rfl (kX12_thrown C.2.2.2.2.2.2.1.1 C.2.1.2.2.2.2.1 0 om.2 (om.2 99 4, om.2) rfl) (Nat.le_of_ble_eq_true rfl) (Nat.le_of_ble_eq_true rfl) (Nat.le_trans (Nat.add_le_add_left (Nat.le_of_ble_eq_true rfl) _) hc4) (Nat.le_trans (Nat.add_le_add_left (Nat.le_of_ble_eq_true rfl) _) hs4) rfl hl.1 rfl (Nat.le_of_ble_eq_true rfl) dL_law_1028 (fun H locs X => ?_)
  refine lv_iload C.1.1.1 C.1.1.2.1 dL_law_1031 (lv_at hl 1 rfl) ?_
  refine lv_icmp_eq (tgt := 1038) C.1.1.1 C.1.1.2.1 dL_law_1033 (by decide) (fun _ => ?_) (fun hz => absurd h4 hz)
  refine lv_iload C.1.1.1 C.1.1.2.1 dL_law_1038 (lv_at hl 1 rfl) ?_
  refine lv_if_ne (tgt := 1055) C.1.1.1 C.1.1.2.1 dL_law_1040 (by decide) (fun _ => ?_) (fun hz0 => ?_)
  · refine lv_goto (tgt := 2325) C.1.1.1 C.1.1.2.1 dL_law_1055 (by decide) ?_
    exact W.widen (k := cs + 4) (n := sl + 24) (Nat.add_le_add_left (Nat.le_of_ble_eq_true rfl) _) (Nat.add_le_add_left (Nat.le_of_ble_eq_true rfl) _) (kk _ _ _ _ _ _ h6 X (lv_sub hl [2, 3, 4, 5, 6] rfl))
  · have hox := lcA0 hz0
    refine lv_aload_n C.1.1.1 C.1.1.2.1 dL_law_1043 rfl (lv_at hl 3 rfl) ?_
    refine lv_iconst C.1.1.1 C.1.1.2.1 dL_law_1044 rfl ?_
    refine va_lald C.1.1.1 C.1.1.2.1 C.2.2.1 X.2.2.1 0 0 rfl rfl (by unfold vp_in; decide) dL_law_1045 ?_
    refine lv_iload C.1.1.1 C.1.1.2.1 dL_law_1046 (lv_at hl 0 rfl) ?_
    refine lv_i2l C.1.1.1 C.1.1.2.1 dL_law_1048 rfl ?_
    refine W.lcmp C.1.1.1 C.1.1.2.1 dL_law_1049 ?_
    have he := lg_cmp0 ((lrow0 (f := f) hox).trans (congrArg Int32.toInt64 (h5 hox)))
    refine lv_if_eq (tgt := 1055) C.1.1.1 C.1.1.2.1 dL_law_1050 (by decide) (fun _ => ?_) (fun hz9 => absurd he hz9)
    refine lv_goto (tgt := 2325) C.1.1.1 C.1.1.2.1 dL_law_1055 (by decide) ?_
    exact W.widen (k := cs + 4) (n := sl + 24) (Nat.add_le_add_left (Nat.le_of_ble_eq_true rfl) _) (Nat.add_le_add_left (Nat.le_of_ble_eq_true rfl) _) (kk _ _ _ _ _ _ h6 X (lv_sub hl [2, 3, 4, 5, 6] rfl))
theorem LB_first (C : LCx p l s m args meth c D g g2 cI cB cZ cQ cS cJ aK aV aO b L xs Am Am2) (hi : Lin i L) (X : LX D g g2 cI cB cZ cQ cS cJ aK aO b L xs SX SM f s H locs) (hJ : J SX SM) (hl : lv_has ls 7 (Llv b (g 0) (g2 99) aO i)) (hc4 : cs + 4 ≤ 600002) (hs4 : sl + 24 ≤ 7302232) (h : Lw_first J) (kk : ∀ (H1 : Heap) (locs1 : List Loc) (ls1 : Array Slot) (SX1 SM1 : gS) (f1 : Nat → Int64), J SX1 SM1 → LX D g g2 cI cB cZ cQ cS cJ aK aO b L xs SX1 SM1 f1 s H1 locs1 → lv_has ls1 7 (Llv b (g 0) (g2 99) aO i) → W p l e room_1 s m args below meth c H1 locs1 (cs + 4) (sl + 24) Q (F0 m 2325 ls1 [])) : W p l e room_1 s m args below meth c H locs cs sl Q (F0 m 1058 ls []) := by
  obtain ⟨N, ox, M, om, h1, h2, h3, h4, h5, h6⟩ := h SX SM (xs (Int32.toNatClampNeg (i + 1))) hJ
  unfold Llv at hl
  refine lv_aload_n C.1.1.1 C.1.1.2.1 dL_law_1058 rfl (lv_at hl 3 rfl) ?_
  refine lv_aload_n C.1.1.1 C.1.1.2.1 dL_law_1059 rfl (lv_at hl 4 rfl) ?_
  refine lv_iload C.1.1.1 C.1.1.2.1 dL_law_1060 (lv_at hl 0 rfl) ?_
  refine lv_iconst C.1.1.1 C.1.1.2.1 dL_law_1062 rfl ?_
  refine lv_iadd C.1.1.1 C.1.1.2.1 dL_law_1063 ?_
  refine L_ld C X hi.2.1 dL_law_1064 ?_
  refine lv_aload_n C.1.1.1 C.1.1.2.1 dL_law_1065 rfl (lv_at hl 1 rfl) ?_
  refine L_callS C.2.2.2.2.2.1.1.1.1 C.2.2.2.2.2.2.1.1 C.2.2.2.2.1 C.1 C.2.2.1 C.2.2.2.1 X lw_first rfl (kL_first C.2.2.2.2.2.1 C.1.2.2.2.2.1 (fun k hk => (C.2.2.2.2.1.1 k hk).2.1) N (xs (Int32.toNatClampNeg (i + 1))) SX f ox h1 h3) (Nat.le_of_ble_eq_true rfl) (Nat.le_of_ble_eq_true rfl) (Nat.le_trans (Nat.add_le_add_left (Nat.le_of_ble_eq_true rfl) _) hc4) (Nat.le_trans (Nat.add_le_add_left (Nat.le_of_ble_eq_true rfl) _) hs4) rfl hl.1 rfl (Nat.le_of_ble_eq_true rfl) dL_law_1066 (fun H locs X => ?_)
  refine lv_istore C.1.1.1 C.1.1.2.1 dL_law_1069 hl (by decide) rfl (fun ls hl => ?_)
  refine lv_aload_n C.1.1.1 C.1.1.2.1 dL_law_1071 rfl (lv_at hl 3 rfl) ?_
  refine lv_aload_n C.1.1.1 C.1.1.2.1 dL_law_1072 rfl (lv_at hl 5 rfl) ?_
  refine lv_iload C.1.1.1 C.1.1.2.1 dL_law_1073 (lv_at hl 1 rfl) ?_
  refine lv_iconst C.1.1.1 C.1.1.2.1 dL_law_1075 rfl ?_
  refine lv_iadd C.1.1.1 C.1.1.2.1 dL_law_1076 ?_
  refine L_ld C X hi.2.1 dL_law_1077 ?_
  refine L_callM C.2.2.2.2.2.1.1.1.1 C.2.2.2.2.2.2.1.1 C.2.2.2.2.1 C.2.1 X xv_L_174 rfl (kX12_first C.2.2.2.2.2.2.1.1 C.2.1.2.2.2.2.1 M (xs (Int32.toNatClampNeg (i + 1))) SM om h2) (Nat.le_of_ble_eq_true rfl) (Nat.le_of_ble_eq_true rfl) (Nat.le_trans (Nat.add_le_add_left (Nat.le_of_ble_eq_true rfl) _) hc4) (Nat.le_trans (Nat.add_le_add_left (Nat.le_of_ble_eq_true rfl) _) hs4) rfl hl.1 rfl (Nat.le_of_ble_eq_true rfl) dL_law_1078 (fun H locs X => ?_)
  refine lv_istore C.1.1.1 C.1.1.2.1 dL_law_1081 hl (by decide) rfl (fun ls hl => ?_)
  refine lv_aload_n C.1.1.1 C.1.1.2.1 dL_law_1083 rfl (lv_at hl 4 rfl) ?_
  refine L_callM C.2.2.2.2.2.1.1.1.1 C.2.2.2.2.2.2.1.1 C.2.2.2.2.1 C.2.1 X xv_L_123 rfl (kX12_thrown C.2.2.2.2.2.2.1.1 C.2.1.2.2.2.2.1 0 om.2 (om.2 99 4, om.2) rfl) (Nat.le_of_ble_eq_true rfl) (Nat.le_of_ble_eq_true rfl) (Nat.le_trans (Nat.add_le_add_left (Nat.le_of_ble_eq_true rfl) _) hc4) (Nat.le_trans (Nat.add_le_add_left (Nat.le_of_ble_eq_true rfl) _) hs4) rfl hl.1 rfl (Nat.le_of_ble_eq_true rfl) dL_law_1084 (fun H locs X => ?_)
  refine lv_iload C.1.1.1 C.1.1.2.1 dL_law_1087 (lv_at hl 1 rfl) ?_
  refine lv_icmp_eq (tgt := 1094) C.1.1.1 C.1.1.2.1 dL_law_1089 (by decide) (fun _ => ?_) (fun hz => absurd h4 hz)
  refine lv_iload C.1.1.1 C.1.1.2.1 dL_law_1094 (lv_at hl 1 rfl) ?_
  refine lv_if_ne (tgt := 1111) C.1.1.1 C.1.1.2.1 dL_law_1096 (by decide) (fun _ => ?_) (fun hz0 => ?_)
  · refine lv_goto (tgt := 2325) C.1.1.1 C.1.1.2.1 dL_law_1111 (by decide) ?_
    exact W.widen (k := cs + 4) (n := sl + 24) (Nat.add_le_add_left (Nat.le_of_ble_eq_true rfl) _) (Nat.add_le_add_left (Nat.le_of_ble_eq_true rfl) _) (kk _ _ _ _ _ _ h6 X (lv_sub hl [2, 3, 4, 5, 6] rfl))
  · have hox := lcA0 hz0
    refine lv_aload_n C.1.1.1 C.1.1.2.1 dL_law_1099 rfl (lv_at hl 3 rfl) ?_
    refine lv_iconst C.1.1.1 C.1.1.2.1 dL_law_1100 rfl ?_
    refine va_lald C.1.1.1 C.1.1.2.1 C.2.2.1 X.2.2.1 0 0 rfl rfl (by unfold vp_in; decide) dL_law_1101 ?_
    refine lv_iload C.1.1.1 C.1.1.2.1 dL_law_1102 (lv_at hl 0 rfl) ?_
    refine lv_i2l C.1.1.1 C.1.1.2.1 dL_law_1104 rfl ?_
    refine W.lcmp C.1.1.1 C.1.1.2.1 dL_law_1105 ?_
    have he := lg_cmp0 ((lrow0 (f := f) hox).trans (congrArg Int32.toInt64 (h5 hox)))
    refine lv_if_eq (tgt := 1111) C.1.1.1 C.1.1.2.1 dL_law_1106 (by decide) (fun _ => ?_) (fun hz9 => absurd he hz9)
    refine lv_goto (tgt := 2325) C.1.1.1 C.1.1.2.1 dL_law_1111 (by decide) ?_
    exact W.widen (k := cs + 4) (n := sl + 24) (Nat.add_le_add_left (Nat.le_of_ble_eq_true rfl) _) (Nat.add_le_add_left (Nat.le_of_ble_eq_true rfl) _) (kk _ _ _ _ _ _ h6 X (lv_sub hl [2, 3, 4, 5, 6] rfl))
theorem LB_dismissed (C : LCx p l s m args meth c D g g2 cI cB cZ cQ cS cJ aK aV aO b L xs Am Am2) (hi : Lin i L) (X : LX D g g2 cI cB cZ cQ cS cJ aK aO b L xs SX SM f s H locs) (hJ : J SX SM) (hl : lv_has ls 7 (Llv b (g 0) (g2 99) aO i)) (hc4 : cs + 4 ≤ 600002) (hs4 : sl + 24 ≤ 7302232) (h : Lw_dismissed J) (kk : ∀ (H1 : Heap) (locs1 : List Loc) (ls1 : Array Slot) (SX1 SM1 : gS) (f1 : Nat → Int64), J SX1 SM1 → LX D g g2 cI cB cZ cQ cS cJ aK aO b L xs SX1 SM1 f1 s H1 locs1 → lv_has ls1 7 (Llv b (g 0) (g2 99) aO i) → W p l e room_1 s m args below meth c H1 locs1 (cs + 4) (sl + 24) Q (F0 m 2325 ls1 [])) : W p l e room_1 s m args below meth c H locs cs sl Q (F0 m 1114 ls []) := by
  obtain ⟨N, ox, M, om, h1, h2, h3, h4, h5, h6⟩ := h SX SM (xs (Int32.toNatClampNeg (i + 1))) hJ
  unfold Llv at hl
  refine lv_aload_n C.1.1.1 C.1.1.2.1 dL_law_1114 rfl (lv_at hl 3 rfl) ?_
  refine lv_aload_n C.1.1.1 C.1.1.2.1 dL_law_1115 rfl (lv_at hl 4 rfl) ?_
  refine lv_iload C.1.1.1 C.1.1.2.1 dL_law_1116 (lv_at hl 0 rfl) ?_
  refine lv_iconst C.1.1.1 C.1.1.2.1 dL_law_1118 rfl ?_
  refine lv_iadd C.1.1.1 C.1.1.2.1 dL_law_1119 ?_
  refine L_ld C X hi.2.1 dL_law_1120 ?_
  refine lv_aload_n C.1.1.1 C.1.1.2.1 dL_law_1121 rfl (lv_at hl 1 rfl) ?_
  refine L_callS C.2.2.2.2.2.1.1.1.1 C.2.2.2.2.2.2.1.1 C.2.2.2.2.1 C.1 C.2.2.1 C.2.2.2.1 X lw_dismissed rfl (kL_dismissed C.2.2.2.2.2.1 C.1.2.2.2.2.1 (fun k hk => (C.2.2.2.2.1.1 k hk).2.1) N (xs (Int32.toNatClampNeg (i + 1))) SX f ox h1 h3) (Nat.le_of_ble_eq_true rfl) (Nat.le_of_ble_eq_true rfl) (Nat.le_trans (Nat.add_le_add_left (Nat.le_of_ble_eq_true rfl) _) hc4) (Nat.le_trans (Nat.add_le_add_left (Nat.le_of_ble_eq_true rfl) _) hs4) rfl hl.1 rfl (Nat.le_of_ble_eq_true rfl) dL_law_1122 (fun H locs X => ?_)
  refine lv_istore C.1.1.1 C.1.1.2.1 dL_law_1125 hl (by decide) rfl (fun ls hl => ?_)
  refine lv_aload_n C.1.1.1 C.1.1.2.1 dL_law_1127 rfl (lv_at hl 3 rfl) ?_
  refine lv_aload_n C.1.1.1 C.1.1.2.1 dL_law_1128 rfl (lv_at hl 5 rfl) ?_
  refine lv_iload C.1.1.1 C.1.1.2.1 dL_law_1129 (lv_at hl 1 rfl) ?_
  refine lv_iconst C.1.1.1 C.1.1.2.1 dL_law_1131 rfl ?_
  refine lv_iadd C.1.1.1 C.1.1.2.1 dL_law_1132 ?_
  refine L_ld C X hi.2.1 dL_law_1133 ?_
  refine L_callM C.2.2.2.2.2.1.1.1.1 C.2.2.2.2.2.2.1.1 C.2.2.2.2.1 C.2.1 X xv_L_177 rfl (kX12_dismissed C.2.2.2.2.2.2.1.1 C.2.1.2.2.2.2.1 M (xs (Int32.toNatClampNeg (i + 1))) SM om h2) (Nat.le_of_ble_eq_true rfl) (Nat.le_of_ble_eq_true rfl) (Nat.le_trans (Nat.add_le_add_left (Nat.le_of_ble_eq_true rfl) _) hc4) (Nat.le_trans (Nat.add_le_add_left (Nat.le_of_ble_eq_true rfl) _) hs4) rfl hl.1 rfl (Nat.le_of_ble_eq_true rfl) dL_law_1134 (fun H locs X => ?_)
  refine lv_istore C.1.1.1 C.1.1.2.1 dL_law_1137 hl (by decide) rfl (fun ls hl => ?_)
  refine lv_aload_n C.1.1.1 C.1.1.2.1 dL_law_1139 rfl (lv_at hl 4 rfl) ?_
  refine L_callM C.2.2.2.2.2.1.1.1.1 C.2.2.2.2.2.2.1.1 C.2.2.2.2.1 C.2.1 X xv_L_123 rfl (kX12_thrown C.2.2.2.2.2.2.1.1 C.2.1.2.2.2.2.1 0 om.2 (om.2 99 4, om.2) rfl) (Nat.le_of_ble_eq_true rfl) (Nat.le_of_ble_eq_true rfl) (Nat.le_trans (Nat.add_le_add_left (Nat.le_of_ble_eq_true rfl) _) hc4) (Nat.le_trans (Nat.add_le_add_left (Nat.le_of_ble_eq_true rfl) _) hs4) rfl hl.1 rfl (Nat.le_of_ble_eq_true rfl) dL_law_1140 (fun H locs X => ?_)
  refine lv_iload C.1.1.1 C.1.1.2.1 dL_law_1143 (lv_at hl 1 rfl) ?_
  refine lv_icmp_eq (tgt := 1150) C.1.1.1 C.1.1.2.1 dL_law_1145 (by decide) (fun _ => ?_) (fun hz => absurd h4 hz)
  refine lv_iload C.1.1.1 C.1.1.2.1 dL_law_1150 (lv_at hl 1 rfl) ?_
  refine lv_if_ne (tgt := 1167) C.1.1.1 C.1.1.2.1 dL_law_1152 (by decide) (fun _ => ?_) (fun hz0 => ?_)
  · refine lv_goto (tgt := 2325) C.1.1.1 C.1.1.2.1 dL_law_1167 (by decide) ?_
    exact W.widen (k := cs + 4) (n := sl + 24) (Nat.add_le_add_left (Nat.le_of_ble_eq_true rfl) _) (Nat.add_le_add_left (Nat.le_of_ble_eq_true rfl) _) (kk _ _ _ _ _ _ h6 X (lv_sub hl [2, 3, 4, 5, 6] rfl))
  · have hox := lcA0 hz0
    refine lv_aload_n C.1.1.1 C.1.1.2.1 dL_law_1155 rfl (lv_at hl 3 rfl) ?_
    refine lv_iconst C.1.1.1 C.1.1.2.1 dL_law_1156 rfl ?_
    refine va_lald C.1.1.1 C.1.1.2.1 C.2.2.1 X.2.2.1 0 0 rfl rfl (by unfold vp_in; decide) dL_law_1157 ?_
    refine lv_iload C.1.1.1 C.1.1.2.1 dL_law_1158 (lv_at hl 0 rfl) ?_
    refine lv_i2l C.1.1.1 C.1.1.2.1 dL_law_1160 rfl ?_
    refine W.lcmp C.1.1.1 C.1.1.2.1 dL_law_1161 ?_
    have he := lg_cmp0 ((lrow0 (f := f) hox).trans (congrArg Int32.toInt64 (h5 hox)))
    refine lv_if_eq (tgt := 1167) C.1.1.1 C.1.1.2.1 dL_law_1162 (by decide) (fun _ => ?_) (fun hz9 => absurd he hz9)
    refine lv_goto (tgt := 2325) C.1.1.1 C.1.1.2.1 dL_law_1167 (by decide) ?_
    exact W.widen (k := cs + 4) (n := sl + 24) (Nat.add_le_add_left (Nat.le_of_ble_eq_true rfl) _) (Nat.add_le_add_left (Nat.le_of_ble_eq_true rfl) _) (kk _ _ _ _ _ _ h6 X (lv_sub hl [2, 3, 4, 5, 6] rfl))
theorem LB_most (C : LCx p l s m args meth c D g g2 cI cB cZ cQ cS cJ aK aV aO b L xs Am Am2) (hi : Lin i L) (X : LX D g g2 cI cB cZ cQ cS cJ aK aO b L xs SX SM f s H locs) (hJ : J SX SM) (hl : lv_has ls 7 (Llv b (g 0) (g2 99) aO i)) (hc4 : cs + 4 ≤ 600002) (hs4 : sl + 24 ≤ 7302232) (h : Lw_most J) (kk : ∀ (H1 : Heap) (locs1 : List Loc) (ls1 : Array Slot) (SX1 SM1 : gS) (f1 : Nat → Int64), J SX1 SM1 → LX D g g2 cI cB cZ cQ cS cJ aK aO b L xs SX1 SM1 f1 s H1 locs1 → lv_has ls1 7 (Llv b (g 0) (g2 99) aO i) → W p l e room_1 s m args below meth c H1 locs1 (cs + 4) (sl + 24) Q (F0 m 2325 ls1 [])) : W p l e room_1 s m args below meth c H locs cs sl Q (F0 m 1170 ls []) := by
  obtain ⟨N, ox, M, om, h1, h2, h3, h4, h5, h6⟩ := h SX SM (xs (Int32.toNatClampNeg (i + 1))) (xs (Int32.toNatClampNeg (i + 2))) hJ
  unfold Llv at hl
  refine lv_aload_n C.1.1.1 C.1.1.2.1 dL_law_1170 rfl (lv_at hl 3 rfl) ?_
  refine lv_aload_n C.1.1.1 C.1.1.2.1 dL_law_1171 rfl (lv_at hl 4 rfl) ?_
  refine lv_iload C.1.1.1 C.1.1.2.1 dL_law_1172 (lv_at hl 0 rfl) ?_
  refine lv_iconst C.1.1.1 C.1.1.2.1 dL_law_1174 rfl ?_
  refine lv_iadd C.1.1.1 C.1.1.2.1 dL_law_1175 ?_
  refine L_ld C X hi.2.1 dL_law_1176 ?_
  refine lv_aload_n C.1.1.1 C.1.1.2.1 dL_law_1177 rfl (lv_at hl 4 rfl) ?_
  refine lv_iload C.1.1.1 C.1.1.2.1 dL_law_1178 (lv_at hl 0 rfl) ?_
  refine lv_iconst C.1.1.1 C.1.1.2.1 dL_law_1180 rfl ?_
  refine lv_iadd C.1.1.1 C.1.1.2.1 dL_law_1181 ?_
  refine L_ld C X hi.2.2.1 dL_law_1182 ?_
  refine lv_aload_n C.1.1.1 C.1.1.2.1 dL_law_1183 rfl (lv_at hl 1 rfl) ?_
  refine L_callS C.2.2.2.2.2.1.1.1.1 C.2.2.2.2.2.2.1.1 C.2.2.2.2.1 C.1 C.2.2.1 C.2.2.2.1 X lw_most rfl (kL_most C.2.2.2.2.2.1 C.1.2.2.2.2.1 (fun k hk => (C.2.2.2.2.1.1 k hk).2.1) N (xs (Int32.toNatClampNeg (i + 1))) (xs (Int32.toNatClampNeg (i + 2))) SX f ox h1 h3) (Nat.le_of_ble_eq_true rfl) (Nat.le_of_ble_eq_true rfl) (Nat.le_trans (Nat.add_le_add_left (Nat.le_of_ble_eq_true rfl) _) hc4) (Nat.le_trans (Nat.add_le_add_left (Nat.le_of_ble_eq_true rfl) _) hs4) rfl hl.1 rfl (Nat.le_of_ble_eq_true rfl) dL_law_1184 (fun H locs X => ?_)
  refine lv_istore C.1.1.1 C.1.1.2.1 dL_law_1187 hl (by decide) rfl (fun ls hl => ?_)
  refine lv_aload_n C.1.1.1 C.1.1.2.1 dL_law_1189 rfl (lv_at hl 3 rfl) ?_
  refine lv_aload_n C.1.1.1 C.1.1.2.1 dL_law_1190 rfl (lv_at hl 5 rfl) ?_
  refine lv_iload C.1.1.1 C.1.1.2.1 dL_law_1191 (lv_at hl 1 rfl) ?_
  refine lv_iconst C.1.1.1 C.1.1.2.1 dL_law_1193 rfl ?_
  refine lv_iadd C.1.1.1 C.1.1.2.1 dL_law_1194 ?_
  refine L_ld C X hi.2.1 dL_law_1195 ?_
  refine lv_aload_n C.1.1.1 C.1.1.2.1 dL_law_1196 rfl (lv_at hl 5 rfl) ?_
  refine lv_iload C.1.1.1 C.1.1.2.1 dL_law_1197 (lv_at hl 1 rfl) ?_
  refine lv_iconst C.1.1.1 C.1.1.2.1 dL_law_1199 rfl ?_
  refine lv_iadd C.1.1.1 C.1.1.2.1 dL_law_1200 ?_
  refine L_ld C X hi.2.2.1 dL_law_1201 ?_
  refine L_callM C.2.2.2.2.2.1.1.1.1 C.2.2.2.2.2.2.1.1 C.2.2.2.2.1 C.2.1 X xv_L_180 rfl (kX12_most C.2.2.2.2.2.2.1.1 C.2.1.2.2.2.2.1 M (xs (Int32.toNatClampNeg (i + 1))) (xs (Int32.toNatClampNeg (i + 2))) SM om h2) (Nat.le_of_ble_eq_true rfl) (Nat.le_of_ble_eq_true rfl) (Nat.le_trans (Nat.add_le_add_left (Nat.le_of_ble_eq_true rfl) _) hc4) (Nat.le_trans (Nat.add_le_add_left (Nat.le_of_ble_eq_true rfl) _) hs4) rfl hl.1 rfl (Nat.le_of_ble_eq_true rfl) dL_law_1202 (fun H locs X => ?_)
  refine lv_istore C.1.1.1 C.1.1.2.1 dL_law_1205 hl (by decide) rfl (fun ls hl => ?_)
  refine lv_aload_n C.1.1.1 C.1.1.2.1 dL_law_1207 rfl (lv_at hl 4 rfl) ?_
  refine L_callM C.2.2.2.2.2.1.1.1.1 C.2.2.2.2.2.2.1.1 C.2.2.2.2.1 C.2.1 X xv_L_123 rfl (kX12_thrown C.2.2.2.2.2.2.1.1 C.2.1.2.2.2.2.1 0 om.2 (om.2 99 4, om.2) rfl) (Nat.le_of_ble_eq_true rfl) (Nat.le_of_ble_eq_true rfl) (Nat.le_trans (Nat.add_le_add_left (Nat.le_of_ble_eq_true rfl) _) hc4) (Nat.le_trans (Nat.add_le_add_left (Nat.le_of_ble_eq_true rfl) _) hs4) rfl hl.1 rfl (Nat.le_of_ble_eq_true rfl) dL_law_1208 (fun H locs X => ?_)
  refine lv_iload C.1.1.1 C.1.1.2.1 dL_law_1211 (lv_at hl 1 rfl) ?_
  refine lv_icmp_eq (tgt := 1218) C.1.1.1 C.1.1.2.1 dL_law_1213 (by decide) (fun _ => ?_) (fun hz => absurd h4 hz)
  refine lv_iload C.1.1.1 C.1.1.2.1 dL_law_1218 (lv_at hl 1 rfl) ?_
  refine lv_if_ne (tgt := 1235) C.1.1.1 C.1.1.2.1 dL_law_1220 (by decide) (fun _ => ?_) (fun hz0 => ?_)
  · refine lv_goto (tgt := 2325) C.1.1.1 C.1.1.2.1 dL_law_1235 (by decide) ?_
    exact W.widen (k := cs + 4) (n := sl + 24) (Nat.add_le_add_left (Nat.le_of_ble_eq_true rfl) _) (Nat.add_le_add_left (Nat.le_of_ble_eq_true rfl) _) (kk _ _ _ _ _ _ h6 X (lv_sub hl [2, 3, 4, 5, 6] rfl))
  · have hox := lcC0 hz0
    refine lv_aload_n C.1.1.1 C.1.1.2.1 dL_law_1223 rfl (lv_at hl 3 rfl) ?_
    refine lv_iconst C.1.1.1 C.1.1.2.1 dL_law_1224 rfl ?_
    refine va_lald C.1.1.1 C.1.1.2.1 C.2.2.1 X.2.2.1 0 0 rfl rfl (by unfold vp_in; decide) dL_law_1225 ?_
    refine lv_iload C.1.1.1 C.1.1.2.1 dL_law_1226 (lv_at hl 0 rfl) ?_
    refine lv_i2l C.1.1.1 C.1.1.2.1 dL_law_1228 rfl ?_
    refine W.lcmp C.1.1.1 C.1.1.2.1 dL_law_1229 ?_
    have he := lg_cmp0 ((lrow0 (f := f) hox).trans (congrArg Int32.toInt64 (h5 hox)))
    refine lv_if_eq (tgt := 1235) C.1.1.1 C.1.1.2.1 dL_law_1230 (by decide) (fun _ => ?_) (fun hz9 => absurd he hz9)
    refine lv_goto (tgt := 2325) C.1.1.1 C.1.1.2.1 dL_law_1235 (by decide) ?_
    exact W.widen (k := cs + 4) (n := sl + 24) (Nat.add_le_add_left (Nat.le_of_ble_eq_true rfl) _) (Nat.add_le_add_left (Nat.le_of_ble_eq_true rfl) _) (kk _ _ _ _ _ _ h6 X (lv_sub hl [2, 3, 4, 5, 6] rfl))
theorem LB_hush (C : LCx p l s m args meth c D g g2 cI cB cZ cQ cS cJ aK aV aO b L xs Am Am2) (hi : Lin i L) (X : LX D g g2 cI cB cZ cQ cS cJ aK aO b L xs SX SM f s H locs) (hJ : J SX SM) (hl : lv_has ls 7 (Llv b (g 0) (g2 99) aO i)) (hc4 : cs + 4 ≤ 600002) (hs4 : sl + 24 ≤ 7302232) (h : Lw_hush J) (kk : ∀ (H1 : Heap) (locs1 : List Loc) (ls1 : Array Slot) (SX1 SM1 : gS) (f1 : Nat → Int64), J SX1 SM1 → LX D g g2 cI cB cZ cQ cS cJ aK aO b L xs SX1 SM1 f1 s H1 locs1 → lv_has ls1 7 (Llv b (g 0) (g2 99) aO i) → W p l e room_1 s m args below meth c H1 locs1 (cs + 4) (sl + 24) Q (F0 m 2325 ls1 [])) : W p l e room_1 s m args below meth c H locs cs sl Q (F0 m 1238 ls []) := by
  obtain ⟨N, ox, M, om, h1, h2, h3, h4, h5, h6⟩ := h SX SM (xs (Int32.toNatClampNeg (i + 1))) hJ
  unfold Llv at hl
  refine lv_aload_n C.1.1.1 C.1.1.2.1 dL_law_1238 rfl (lv_at hl 3 rfl) ?_
  refine lv_aload_n C.1.1.1 C.1.1.2.1 dL_law_1239 rfl (lv_at hl 4 rfl) ?_
  refine lv_iload C.1.1.1 C.1.1.2.1 dL_law_1240 (lv_at hl 0 rfl) ?_
  refine lv_iconst C.1.1.1 C.1.1.2.1 dL_law_1242 rfl ?_
  refine lv_iadd C.1.1.1 C.1.1.2.1 dL_law_1243 ?_
  refine L_ld C X hi.2.1 dL_law_1244 ?_
  refine lv_aload_n C.1.1.1 C.1.1.2.1 dL_law_1245 rfl (lv_at hl 1 rfl) ?_
  refine L_callS C.2.2.2.2.2.1.1.1.1 C.2.2.2.2.2.2.1.1 C.2.2.2.2.1 C.1 C.2.2.1 C.2.2.2.1 X lw_hush rfl (kL_hush C.2.2.2.2.2.1 C.1.2.2.2.2.1 (fun k hk => (C.2.2.2.2.1.1 k hk).2.1) N (xs (Int32.toNatClampNeg (i + 1))) SX f ox h1 h3) (Nat.le_of_ble_eq_true rfl) (Nat.le_of_ble_eq_true rfl) (Nat.le_trans (Nat.add_le_add_left (Nat.le_of_ble_eq_true rfl) _) hc4) (Nat.le_trans (Nat.add_le_add_left (Nat.le_of_ble_eq_true rfl) _) hs4) rfl hl.1 rfl (Nat.le_of_ble_eq_true rfl) dL_law_1246 (fun H locs X => ?_)
  refine lv_istore C.1.1.1 C.1.1.2.1 dL_law_1249 hl (by decide) rfl (fun ls hl => ?_)
  refine lv_aload_n C.1.1.1 C.1.1.2.1 dL_law_1251 rfl (lv_at hl 3 rfl) ?_
  refine lv_aload_n C.1.1.1 C.1.1.2.1 dL_law_1252 rfl (lv_at hl 5 rfl) ?_
  refine lv_iload C.1.1.1 C.1.1.2.1 dL_law_1253 (lv_at hl 1 rfl) ?_
  refine lv_iconst C.1.1.1 C.1.1.2.1 dL_law_1255 rfl ?_
  refine lv_iadd C.1.1.1 C.1.1.2.1 dL_law_1256 ?_
  refine L_ld C X hi.2.1 dL_law_1257 ?_
  refine L_callM C.2.2.2.2.2.1.1.1.1 C.2.2.2.2.2.2.1.1 C.2.2.2.2.1 C.2.1 X xv_L_183 rfl (kX12_hush C.2.2.2.2.2.2.1.1 C.2.1.2.2.2.2.1 M (xs (Int32.toNatClampNeg (i + 1))) SM om h2) (Nat.le_of_ble_eq_true rfl) (Nat.le_of_ble_eq_true rfl) (Nat.le_trans (Nat.add_le_add_left (Nat.le_of_ble_eq_true rfl) _) hc4) (Nat.le_trans (Nat.add_le_add_left (Nat.le_of_ble_eq_true rfl) _) hs4) rfl hl.1 rfl (Nat.le_of_ble_eq_true rfl) dL_law_1258 (fun H locs X => ?_)
  refine lv_istore C.1.1.1 C.1.1.2.1 dL_law_1261 hl (by decide) rfl (fun ls hl => ?_)
  refine lv_aload_n C.1.1.1 C.1.1.2.1 dL_law_1263 rfl (lv_at hl 4 rfl) ?_
  refine L_callM C.2.2.2.2.2.1.1.1.1 C.2.2.2.2.2.2.1.1 C.2.2.2.2.1 C.2.1 X xv_L_123 rfl (kX12_thrown C.2.2.2.2.2.2.1.1 C.2.1.2.2.2.2.1 0 om.2 (om.2 99 4, om.2) rfl) (Nat.le_of_ble_eq_true rfl) (Nat.le_of_ble_eq_true rfl) (Nat.le_trans (Nat.add_le_add_left (Nat.le_of_ble_eq_true rfl) _) hc4) (Nat.le_trans (Nat.add_le_add_left (Nat.le_of_ble_eq_true rfl) _) hs4) rfl hl.1 rfl (Nat.le_of_ble_eq_true rfl) dL_law_1264 (fun H locs X => ?_)
  refine lv_iload C.1.1.1 C.1.1.2.1 dL_law_1267 (lv_at hl 1 rfl) ?_
  refine lv_icmp_eq (tgt := 1274) C.1.1.1 C.1.1.2.1 dL_law_1269 (by decide) (fun _ => ?_) (fun hz => absurd h4 hz)
  refine lv_iload C.1.1.1 C.1.1.2.1 dL_law_1274 (lv_at hl 1 rfl) ?_
  refine lv_if_ne (tgt := 1291) C.1.1.1 C.1.1.2.1 dL_law_1276 (by decide) (fun _ => ?_) (fun hz0 => ?_)
  · refine lv_goto (tgt := 2325) C.1.1.1 C.1.1.2.1 dL_law_1291 (by decide) ?_
    exact W.widen (k := cs + 4) (n := sl + 24) (Nat.add_le_add_left (Nat.le_of_ble_eq_true rfl) _) (Nat.add_le_add_left (Nat.le_of_ble_eq_true rfl) _) (kk _ _ _ _ _ _ h6 X (lv_sub hl [2, 3, 4, 5, 6] rfl))
  · have hox := lcA0 hz0
    refine lv_aload_n C.1.1.1 C.1.1.2.1 dL_law_1279 rfl (lv_at hl 3 rfl) ?_
    refine lv_iconst C.1.1.1 C.1.1.2.1 dL_law_1280 rfl ?_
    refine va_lald C.1.1.1 C.1.1.2.1 C.2.2.1 X.2.2.1 0 0 rfl rfl (by unfold vp_in; decide) dL_law_1281 ?_
    refine lv_iload C.1.1.1 C.1.1.2.1 dL_law_1282 (lv_at hl 0 rfl) ?_
    refine lv_i2l C.1.1.1 C.1.1.2.1 dL_law_1284 rfl ?_
    refine W.lcmp C.1.1.1 C.1.1.2.1 dL_law_1285 ?_
    have he := lg_cmp0 ((lrow0 (f := f) hox).trans (congrArg Int32.toInt64 (h5 hox)))
    refine lv_if_eq (tgt := 1291) C.1.1.1 C.1.1.2.1 dL_law_1286 (by decide) (fun _ => ?_) (fun hz9 => absurd he hz9)
    refine lv_goto (tgt := 2325) C.1.1.1 C.1.1.2.1 dL_law_1291 (by decide) ?_
    exact W.widen (k := cs + 4) (n := sl + 24) (Nat.add_le_add_left (Nat.le_of_ble_eq_true rfl) _) (Nat.add_le_add_left (Nat.le_of_ble_eq_true rfl) _) (kk _ _ _ _ _ _ h6 X (lv_sub hl [2, 3, 4, 5, 6] rfl))
theorem LB_chorus (C : LCx p l s m args meth c D g g2 cI cB cZ cQ cS cJ aK aV aO b L xs Am Am2) (hi : Lin i L) (X : LX D g g2 cI cB cZ cQ cS cJ aK aO b L xs SX SM f s H locs) (hJ : J SX SM) (hl : lv_has ls 7 (Llv b (g 0) (g2 99) aO i)) (hc4 : cs + 4 ≤ 600002) (hs4 : sl + 24 ≤ 7302232) (h : Lw_chorus J) (kk : ∀ (H1 : Heap) (locs1 : List Loc) (ls1 : Array Slot) (SX1 SM1 : gS) (f1 : Nat → Int64), J SX1 SM1 → LX D g g2 cI cB cZ cQ cS cJ aK aO b L xs SX1 SM1 f1 s H1 locs1 → lv_has ls1 7 (Llv b (g 0) (g2 99) aO i) → W p l e room_1 s m args below meth c H1 locs1 (cs + 4) (sl + 24) Q (F0 m 2325 ls1 [])) : W p l e room_1 s m args below meth c H locs cs sl Q (F0 m 1294 ls []) := by
  obtain ⟨N, ox, M, om, h1, h2, h3, h4, h5, h6⟩ := h SX SM (xs (Int32.toNatClampNeg (i + 1))) hJ
  unfold Llv at hl
  refine lv_aload_n C.1.1.1 C.1.1.2.1 dL_law_1294 rfl (lv_at hl 3 rfl) ?_
  refine lv_aload_n C.1.1.1 C.1.1.2.1 dL_law_1295 rfl (lv_at hl 4 rfl) ?_
  refine lv_iload C.1.1.1 C.1.1.2.1 dL_law_1296 (lv_at hl 0 rfl) ?_
  refine lv_iconst C.1.1.1 C.1.1.2.1 dL_law_1298 rfl ?_
  refine lv_iadd C.1.1.1 C.1.1.2.1 dL_law_1299 ?_
  refine L_ld C X hi.2.1 dL_law_1300 ?_
  refine lv_aload_n C.1.1.1 C.1.1.2.1 dL_law_1301 rfl (lv_at hl 1 rfl) ?_
  refine L_callS C.2.2.2.2.2.1.1.1.1 C.2.2.2.2.2.2.1.1 C.2.2.2.2.1 C.1 C.2.2.1 C.2.2.2.1 X lw_chorus rfl (kL_chorus C.2.2.2.2.2.1 C.1.2.2.2.2.1 (fun k hk => (C.2.2.2.2.1.1 k hk).2.1) N (xs (Int32.toNatClampNeg (i + 1))) SX f ox h1 h3) (Nat.le_of_ble_eq_true rfl) (Nat.le_of_ble_eq_true rfl) (Nat.le_trans (Nat.add_le_add_left (Nat.le_of_ble_eq_true rfl) _) hc4) (Nat.le_trans (Nat.add_le_add_left (Nat.le_of_ble_eq_true rfl) _) hs4) rfl hl.1 rfl (Nat.le_of_ble_eq_true rfl) dL_law_1302 (fun H locs X => ?_)
  refine lv_istore C.1.1.1 C.1.1.2.1 dL_law_1305 hl (by decide) rfl (fun ls hl => ?_)
  refine lv_aload_n C.1.1.1 C.1.1.2.1 dL_law_1307 rfl (lv_at hl 3 rfl) ?_
  refine lv_aload_n C.1.1.1 C.1.1.2.1 dL_law_1308 rfl (lv_at hl 5 rfl) ?_
  refine lv_iload C.1.1.1 C.1.1.2.1 dL_law_1309 (lv_at hl 1 rfl) ?_
  refine lv_iconst C.1.1.1 C.1.1.2.1 dL_law_1311 rfl ?_
  refine lv_iadd C.1.1.1 C.1.1.2.1 dL_law_1312 ?_
  refine L_ld C X hi.2.1 dL_law_1313 ?_
  refine L_callM C.2.2.2.2.2.1.1.1.1 C.2.2.2.2.2.2.1.1 C.2.2.2.2.1 C.2.1 X xv_L_186 rfl (kX12_chorus C.2.2.2.2.2.2.1.1 C.2.1.2.2.2.2.1 M (xs (Int32.toNatClampNeg (i + 1))) SM om h2) (Nat.le_of_ble_eq_true rfl) (Nat.le_of_ble_eq_true rfl) (Nat.le_trans (Nat.add_le_add_left (Nat.le_of_ble_eq_true rfl) _) hc4) (Nat.le_trans (Nat.add_le_add_left (Nat.le_of_ble_eq_true rfl) _) hs4) rfl hl.1 rfl (Nat.le_of_ble_eq_true rfl) dL_law_1314 (fun H locs X => ?_)
  refine lv_istore C.1.1.1 C.1.1.2.1 dL_law_1317 hl (by decide) rfl (fun ls hl => ?_)
  refine lv_aload_n C.1.1.1 C.1.1.2.1 dL_law_1319 rfl (lv_at hl 4 rfl) ?_
  refine L_callM C.2.2.2.2.2.1.1.1.1 C.2.2.2.2.2.2.1.1 C.2.2.2.2.1 C.2.1 X xv_L_123 rfl (kX12_thrown C.2.2.2.2.2.2.1.1 C.2.1.2.2.2.2.1 0 om.2 (om.2 99 4, om.2) rfl) (Nat.le_of_ble_eq_true rfl) (Nat.le_of_ble_eq_true rfl) (Nat.le_trans (Nat.add_le_add_left (Nat.le_of_ble_eq_true rfl) _) hc4) (Nat.le_trans (Nat.add_le_add_left (Nat.le_of_ble_eq_true rfl) _) hs4) rfl hl.1 rfl (Nat.le_of_ble_eq_true rfl) dL_law_1320 (fun H locs X => ?_)
  refine lv_iload C.1.1.1 C.1.1.2.1 dL_law_1323 (lv_at hl 1 rfl) ?_
  refine lv_icmp_eq (tgt := 1330) C.1.1.1 C.1.1.2.1 dL_law_1325 (by decide) (fun _ => ?_) (fun hz => absurd h4 hz)
  refine lv_iload C.1.1.1 C.1.1.2.1 dL_law_1330 (lv_at hl 1 rfl) ?_
  refine lv_if_ne (tgt := 1347) C.1.1.1 C.1.1.2.1 dL_law_1332 (by decide) (fun _ => ?_) (fun hz0 => ?_)
  · refine lv_goto (tgt := 2325) C.1.1.1 C.1.1.2.1 dL_law_1347 (by decide) ?_
    exact W.widen (k := cs + 4) (n := sl + 24) (Nat.add_le_add_left (Nat.le_of_ble_eq_true rfl) _) (Nat.add_le_add_left (Nat.le_of_ble_eq_true rfl) _) (kk _ _ _ _ _ _ h6 X (lv_sub hl [2, 3, 4, 5, 6] rfl))
  · have hox := lcA0 hz0
    refine lv_aload_n C.1.1.1 C.1.1.2.1 dL_law_1335 rfl (lv_at hl 3 rfl) ?_
    refine lv_iconst C.1.1.1 C.1.1.2.1 dL_law_1336 rfl ?_
    refine va_lald C.1.1.1 C.1.1.2.1 C.2.2.1 X.2.2.1 0 0 rfl rfl (by unfold vp_in; decide) dL_law_1337 ?_
    refine lv_iload C.1.1.1 C.1.1.2.1 dL_law_1338 (lv_at hl 0 rfl) ?_
    refine lv_i2l C.1.1.1 C.1.1.2.1 dL_law_1340 rfl ?_
    refine W.lcmp C.1.1.1 C.1.1.2.1 dL_law_1341 ?_
    have he := lg_cmp0 ((lrow0 (f := f) hox).trans (congrArg Int32.toInt64 (h5 hox)))
    refine lv_if_eq (tgt := 1347) C.1.1.1 C.1.1.2.1 dL_law_1342 (by decide) (fun _ => ?_) (fun hz9 => absurd he hz9)
    refine lv_goto (tgt := 2325) C.1.1.1 C.1.1.2.1 dL_law_1347 (by decide) ?_
    exact W.widen (k := cs + 4) (n := sl + 24) (Nat.add_le_add_left (Nat.le_of_ble_eq_true rfl) _) (Nat.add_le_add_left (Nat.le_of_ble_eq_true rfl) _) (kk _ _ _ _ _ _ h6 X (lv_sub hl [2, 3, 4, 5, 6] rfl))
theorem LB_together (C : LCx p l s m args meth c D g g2 cI cB cZ cQ cS cJ aK aV aO b L xs Am Am2) (hi : Lin i L) (X : LX D g g2 cI cB cZ cQ cS cJ aK aO b L xs SX SM f s H locs) (hJ : J SX SM) (hl : lv_has ls 7 (Llv b (g 0) (g2 99) aO i)) (hc4 : cs + 4 ≤ 600002) (hs4 : sl + 24 ≤ 7302232) (h : Lw_together J) (kk : ∀ (H1 : Heap) (locs1 : List Loc) (ls1 : Array Slot) (SX1 SM1 : gS) (f1 : Nat → Int64), J SX1 SM1 → LX D g g2 cI cB cZ cQ cS cJ aK aO b L xs SX1 SM1 f1 s H1 locs1 → lv_has ls1 7 (Llv b (g 0) (g2 99) aO i) → W p l e room_1 s m args below meth c H1 locs1 (cs + 4) (sl + 24) Q (F0 m 2325 ls1 [])) : W p l e room_1 s m args below meth c H locs cs sl Q (F0 m 1350 ls []) := by
  obtain ⟨N, ox, M, om, h1, h2, h3, h4, h5, h6⟩ := h SX SM (xs (Int32.toNatClampNeg (i + 1))) hJ
  unfold Llv at hl
  refine lv_aload_n C.1.1.1 C.1.1.2.1 dL_law_1350 rfl (lv_at hl 3 rfl) ?_
  refine lv_aload_n C.1.1.1 C.1.1.2.1 dL_law_1351 rfl (lv_at hl 4 rfl) ?_
  refine lv_iload C.1.1.1 C.1.1.2.1 dL_law_1352 (lv_at hl 0 rfl) ?_
  refine lv_iconst C.1.1.1 C.1.1.2.1 dL_law_1354 rfl ?_
  refine lv_iadd C.1.1.1 C.1.1.2.1 dL_law_1355 ?_
  refine L_ld C X hi.2.1 dL_law_1356 ?_
  refine lv_aload_n C.1.1.1 C.1.1.2.1 dL_law_1357 rfl (lv_at hl 1 rfl) ?_
  refine L_callS C.2.2.2.2.2.1.1.1.1 C.2.2.2.2.2.2.1.1 C.2.2.2.2.1 C.1 C.2.2.1 C.2.2.2.1 X lw_together rfl (kL_together C.2.2.2.2.2.1 C.1.2.2.2.2.1 (fun k hk => (C.2.2.2.2.1.1 k hk).2.1) N (xs (Int32.toNatClampNeg (i + 1))) SX f ox h1 h3) (Nat.le_of_ble_eq_true rfl) (Nat.le_of_ble_eq_true rfl) (Nat.le_trans (Nat.add_le_add_left (Nat.le_of_ble_eq_true rfl) _) hc4) (Nat.le_trans (Nat.add_le_add_left (Nat.le_of_ble_eq_true rfl) _) hs4) rfl hl.1 rfl (Nat.le_of_ble_eq_true rfl) dL_law_1358 (fun H locs X => ?_)
  refine lv_istore C.1.1.1 C.1.1.2.1 dL_law_1361 hl (by decide) rfl (fun ls hl => ?_)
  refine lv_aload_n C.1.1.1 C.1.1.2.1 dL_law_1363 rfl (lv_at hl 3 rfl) ?_
  refine lv_aload_n C.1.1.1 C.1.1.2.1 dL_law_1364 rfl (lv_at hl 5 rfl) ?_
  refine lv_iload C.1.1.1 C.1.1.2.1 dL_law_1365 (lv_at hl 1 rfl) ?_
  refine lv_iconst C.1.1.1 C.1.1.2.1 dL_law_1367 rfl ?_
  refine lv_iadd C.1.1.1 C.1.1.2.1 dL_law_1368 ?_
  refine L_ld C X hi.2.1 dL_law_1369 ?_
  refine L_callM C.2.2.2.2.2.1.1.1.1 C.2.2.2.2.2.2.1.1 C.2.2.2.2.1 C.2.1 X xv_L_189 rfl (kX12_together C.2.2.2.2.2.2.1.1 C.2.1.2.2.2.2.1 M (xs (Int32.toNatClampNeg (i + 1))) SM om h2) (Nat.le_of_ble_eq_true rfl) (Nat.le_of_ble_eq_true rfl) (Nat.le_trans (Nat.add_le_add_left (Nat.le_of_ble_eq_true rfl) _) hc4) (Nat.le_trans (Nat.add_le_add_left (Nat.le_of_ble_eq_true rfl) _) hs4) rfl hl.1 rfl (Nat.le_of_ble_eq_true rfl) dL_law_1370 (fun H locs X => ?_)
  refine lv_istore C.1.1.1 C.1.1.2.1 dL_law_1373 hl (by decide) rfl (fun ls hl => ?_)
  refine lv_aload_n C.1.1.1 C.1.1.2.1 dL_law_1375 rfl (lv_at hl 4 rfl) ?_
  refine L_callM C.2.2.2.2.2.1.1.1.1 C.2.2.2.2.2.2.1.1 C.2.2.2.2.1 C.2.1 X xv_L_123 rfl (kX12_thrown C.2.2.2.2.2.2.1.1 C.2.1.2.2.2.2.1 0 om.2 (om.2 99 4, om.2) rfl) (Nat.le_of_ble_eq_true rfl) (Nat.le_of_ble_eq_true rfl) (Nat.le_trans (Nat.add_le_add_left (Nat.le_of_ble_eq_true rfl) _) hc4) (Nat.le_trans (Nat.add_le_add_left (Nat.le_of_ble_eq_true rfl) _) hs4) rfl hl.1 rfl (Nat.le_of_ble_eq_true rfl) dL_law_1376 (fun H locs X => ?_)
  refine lv_iload C.1.1.1 C.1.1.2.1 dL_law_1379 (lv_at hl 1 rfl) ?_
  refine lv_icmp_eq (tgt := 1386) C.1.1.1 C.1.1.2.1 dL_law_1381 (by decide) (fun _ => ?_) (fun hz => absurd h4 hz)
  refine lv_iload C.1.1.1 C.1.1.2.1 dL_law_1386 (lv_at hl 1 rfl) ?_
  refine lv_if_ne (tgt := 1403) C.1.1.1 C.1.1.2.1 dL_law_1388 (by decide) (fun _ => ?_) (fun hz0 => ?_)
  · refine lv_goto (tgt := 2325) C.1.1.1 C.1.1.2.1 dL_law_1403 (by decide) ?_
    exact W.widen (k := cs + 4) (n := sl + 24) (Nat.add_le_add_left (Nat.le_of_ble_eq_true rfl) _) (Nat.add_le_add_left (Nat.le_of_ble_eq_true rfl) _) (kk _ _ _ _ _ _ h6 X (lv_sub hl [2, 3, 4, 5, 6] rfl))
  · have hox := lcA0 hz0
    refine lv_aload_n C.1.1.1 C.1.1.2.1 dL_law_1391 rfl (lv_at hl 3 rfl) ?_
    refine lv_iconst C.1.1.1 C.1.1.2.1 dL_law_1392 rfl ?_
    refine va_lald C.1.1.1 C.1.1.2.1 C.2.2.1 X.2.2.1 0 0 rfl rfl (by unfold vp_in; decide) dL_law_1393 ?_
    refine lv_iload C.1.1.1 C.1.1.2.1 dL_law_1394 (lv_at hl 0 rfl) ?_
    refine lv_i2l C.1.1.1 C.1.1.2.1 dL_law_1396 rfl ?_
    refine W.lcmp C.1.1.1 C.1.1.2.1 dL_law_1397 ?_
    have he := lg_cmp0 ((lrow0 (f := f) hox).trans (congrArg Int32.toInt64 (h5 hox)))
    refine lv_if_eq (tgt := 1403) C.1.1.1 C.1.1.2.1 dL_law_1398 (by decide) (fun _ => ?_) (fun hz9 => absurd he hz9)
    refine lv_goto (tgt := 2325) C.1.1.1 C.1.1.2.1 dL_law_1403 (by decide) ?_
    exact W.widen (k := cs + 4) (n := sl + 24) (Nat.add_le_add_left (Nat.le_of_ble_eq_true rfl) _) (Nat.add_le_add_left (Nat.le_of_ble_eq_true rfl) _) (kk _ _ _ _ _ _ h6 X (lv_sub hl [2, 3, 4, 5, 6] rfl))
theorem LB_rhythm (C : LCx p l s m args meth c D g g2 cI cB cZ cQ cS cJ aK aV aO b L xs Am Am2) (hi : Lin i L) (X : LX D g g2 cI cB cZ cQ cS cJ aK aO b L xs SX SM f s H locs) (hJ : J SX SM) (hl : lv_has ls 7 (Llv b (g 0) (g2 99) aO i)) (hc4 : cs + 4 ≤ 600002) (hs4 : sl + 24 ≤ 7302232) (h : Lw_rhythm J) (kk : ∀ (H1 : Heap) (locs1 : List Loc) (ls1 : Array Slot) (SX1 SM1 : gS) (f1 : Nat → Int64), J SX1 SM1 → LX D g g2 cI cB cZ cQ cS cJ aK aO b L xs SX1 SM1 f1 s H1 locs1 → lv_has ls1 7 (Llv b (g 0) (g2 99) aO i) → W p l e room_1 s m args below meth c H1 locs1 (cs + 4) (sl + 24) Q (F0 m 2325 ls1 [])) : W p l e room_1 s m args below meth c H locs cs sl Q (F0 m 1406 ls []) := by
  obtain ⟨N, ox, M, om, h1, h2, h3, h4, h5, h6⟩ := h SX SM (xs (Int32.toNatClampNeg (i + 1))) hJ
  unfold Llv at hl
  refine lv_aload_n C.1.1.1 C.1.1.2.1 dL_law_1406 rfl (lv_at hl 3 rfl) ?_
  refine lv_aload_n C.1.1.1 C.1.1.2.1 dL_law_1407 rfl (lv_at hl 4 rfl) ?_
  refine lv_iload C.1.1.1 C.1.1.2.1 dL_law_1408 (lv_at hl 0 rfl) ?_
  refine lv_iconst C.1.1.1 C.1.1.2.1 dL_law_1410 rfl ?_
  refine lv_iadd C.1.1.1 C.1.1.2.1 dL_law_1411 ?_
  refine L_ld C X hi.2.1 dL_law_1412 ?_
  refine lv_aload_n C.1.1.1 C.1.1.2.1 dL_law_1413 rfl (lv_at hl 1 rfl) ?_
  refine L_callS C.2.2.2.2.2.1.1.1.1 C.2.2.2.2.2.2.1.1 C.2.2.2.2.1 C.1 C.2.2.1 C.2.2.2.1 X lw_rhythm rfl (kL_rhythm C.2.2.2.2.2.1 C.1.2.2.2.2.1 (fun k hk => (C.2.2.2.2.1.1 k hk).2.1) N (xs (Int32.toNatClampNeg (i + 1))) SX f ox h1 h3) (Nat.le_of_ble_eq_true rfl) (Nat.le_of_ble_eq_true rfl) (Nat.le_trans (Nat.add_le_add_left (Nat.le_of_ble_eq_true rfl) _) hc4) (Nat.le_trans (Nat.add_le_add_left (Nat.le_of_ble_eq_true rfl) _) hs4) rfl hl.1 rfl (Nat.le_of_ble_eq_true rfl) dL_law_1414 (fun H locs X => ?_)
  refine lv_istore C.1.1.1 C.1.1.2.1 dL_law_1417 hl (by decide) rfl (fun ls hl => ?_)
  refine lv_aload_n C.1.1.1 C.1.1.2.1 dL_law_1419 rfl (lv_at hl 3 rfl) ?_
  refine lv_aload_n C.1.1.1 C.1.1.2.1 dL_law_1420 rfl (lv_at hl 5 rfl) ?_
  refine lv_iload C.1.1.1 C.1.1.2.1 dL_law_1421 (lv_at hl 1 rfl) ?_
  refine lv_iconst C.1.1.1 C.1.1.2.1 dL_law_1423 rfl ?_
  refine lv_iadd C.1.1.1 C.1.1.2.1 dL_law_1424 ?_
  refine L_ld C X hi.2.1 dL_law_1425 ?_
  refine L_callM C.2.2.2.2.2.1.1.1.1 C.2.2.2.2.2.2.1.1 C.2.2.2.2.1 C.2.1 X xv_L_192 rfl (kX12_rhythm C.2.2.2.2.2.2.1.1 C.2.1.2.2.2.2.1 M (xs (Int32.toNatClampNeg (i + 1))) SM om h2) (Nat.le_of_ble_eq_true rfl) (Nat.le_of_ble_eq_true rfl) (Nat.le_trans (Nat.add_le_add_left (Nat.le_of_ble_eq_true rfl) _) hc4) (Nat.le_trans (Nat.add_le_add_left (Nat.le_of_ble_eq_true rfl) _) hs4) rfl hl.1 rfl (Nat.le_of_ble_eq_true rfl) dL_law_1426 (fun H locs X => ?_)
  refine lv_istore C.1.1.1 C.1.1.2.1 dL_law_1429 hl (by decide) rfl (fun ls hl => ?_)
  refine lv_aload_n C.1.1.1 C.1.1.2.1 dL_law_1431 rfl (lv_at hl 4 rfl) ?_
  refine L_callM C.2.2.2.2.2.1.1.1.1 C.2.2.2.2.2.2.1.1 C.2.2.2.2.1 C.2.1 X xv_L_123 rfl (kX12_thrown C.2.2.2.2.2.2.1.1 C.2.1.2.2.2.2.1 0 om.2 (om.2 99 4, om.2) rfl) (Nat.le_of_ble_eq_true rfl) (Nat.le_of_ble_eq_true rfl) (Nat.le_trans (Nat.add_le_add_left (Nat.le_of_ble_eq_true rfl) _) hc4) (Nat.le_trans (Nat.add_le_add_left (Nat.le_of_ble_eq_true rfl) _) hs4) rfl hl.1 rfl (Nat.le_of_ble_eq_true rfl) dL_law_1432 (fun H locs X => ?_)
  refine lv_iload C.1.1.1 C.1.1.2.1 dL_law_1435 (lv_at hl 1 rfl) ?_
  refine lv_icmp_eq (tgt := 1442) C.1.1.1 C.1.1.2.1 dL_law_1437 (by decide) (fun _ => ?_) (fun hz => absurd h4 hz)
  refine lv_iload C.1.1.1 C.1.1.2.1 dL_law_1442 (lv_at hl 1 rfl) ?_
  refine lv_if_ne (tgt := 1459) C.1.1.1 C.1.1.2.1 dL_law_1444 (by decide) (fun _ => ?_) (fun hz0 => ?_)
  · refine lv_goto (tgt := 2325) C.1.1.1 C.1.1.2.1 dL_law_1459 (by decide) ?_
    exact W.widen (k := cs + 4) (n := sl + 24) (Nat.add_le_add_left (Nat.le_of_ble_eq_true rfl) _) (Nat.add_le_add_left (Nat.le_of_ble_eq_true rfl) _) (kk _ _ _ _ _ _ h6 X (lv_sub hl [2, 3, 4, 5, 6] rfl))
  · have hox := lcA0 hz0
    refine lv_aload_n C.1.1.1 C.1.1.2.1 dL_law_1447 rfl (lv_at hl 3 rfl) ?_
    refine lv_iconst C.1.1.1 C.1.1.2.1 dL_law_1448 rfl ?_
    refine va_lald C.1.1.1 C.1.1.2.1 C.2.2.1 X.2.2.1 0 0 rfl rfl (by unfold vp_in; decide) dL_law_1449 ?_
    refine lv_iload C.1.1.1 C.1.1.2.1 dL_law_1450 (lv_at hl 0 rfl) ?_
    refine lv_i2l C.1.1.1 C.1.1.2.1 dL_law_1452 rfl ?_
    refine W.lcmp C.1.1.1 C.1.1.2.1 dL_law_1453 ?_
    have he := lg_cmp0 ((lrow0 (f := f) hox).trans (congrArg Int32.toInt64 (h5 hox)))
    refine lv_if_eq (tgt := 1459) C.1.1.1 C.1.1.2.1 dL_law_1454 (by decide) (fun _ => ?_) (fun hz9 => absurd he hz9)
    refine lv_goto (tgt := 2325) C.1.1.1 C.1.1.2.1 dL_law_1459 (by decide) ?_
    exact W.widen (k := cs + 4) (n := sl + 24) (Nat.add_le_add_left (Nat.le_of_ble_eq_true rfl) _) (Nat.add_le_add_left (Nat.le_of_ble_eq_true rfl) _) (kk _ _ _ _ _ _ h6 X (lv_sub hl [2, 3, 4, 5, 6] rfl))
theorem LB_often (C : LCx p l s m args meth c D g g2 cI cB cZ cQ cS cJ aK aV aO b L xs Am Am2) (hi : Lin i L) (X : LX D g g2 cI cB cZ cQ cS cJ aK aO b L xs SX SM f s H locs) (hJ : J SX SM) (hl : lv_has ls 7 (Llv b (g 0) (g2 99) aO i)) (hc4 : cs + 4 ≤ 600002) (hs4 : sl + 24 ≤ 7302232) (h : Lw_often J) (kk : ∀ (H1 : Heap) (locs1 : List Loc) (ls1 : Array Slot) (SX1 SM1 : gS) (f1 : Nat → Int64), J SX1 SM1 → LX D g g2 cI cB cZ cQ cS cJ aK aO b L xs SX1 SM1 f1 s H1 locs1 → lv_has ls1 7 (Llv b (g 0) (g2 99) aO i) → W p l e room_1 s m args below meth c H1 locs1 (cs + 4) (sl + 24) Q (F0 m 2325 ls1 [])) : W p l e room_1 s m args below meth c H locs cs sl Q (F0 m 1462 ls []) := by
  obtain ⟨N, ox, M, om, h1, h2, h3, h4, h5, h6⟩ := h SX SM (xs (Int32.toNatClampNeg (i + 1))) (xs (Int32.toNatClampNeg (i + 2))) hJ
  unfold Llv at hl
  refine lv_aload_n C.1.1.1 C.1.1.2.1 dL_law_1462 rfl (lv_at hl 3 rfl) ?_
  refine lv_aload_n C.1.1.1 C.1.1.2.1 dL_law_1463 rfl (lv_at hl 4 rfl) ?_
  refine lv_iload C.1.1.1 C.1.1.2.1 dL_law_1464 (lv_at hl 0 rfl) ?_
  refine lv_iconst C.1.1.1 C.1.1.2.1 dL_law_1466 rfl ?_
  refine lv_iadd C.1.1.1 C.1.1.2.1 dL_law_1467 ?_
  refine L_ld C X hi.2.1 dL_law_1468 ?_
  refine lv_aload_n C.1.1.1 C.1.1.2.1 dL_law_1469 rfl (lv_at hl 4 rfl) ?_
  refine lv_iload C.1.1.1 C.1.1.2.1 dL_law_1470 (lv_at hl 0 rfl) ?_
  refine lv_iconst C.1.1.1 C.1.1.2.1 dL_law_1472 rfl ?_
  refine lv_iadd C.1.1.1 C.1.1.2.1 dL_law_1473 ?_
  refine L_ld C X hi.2.2.1 dL_law_1474 ?_
  refine lv_aload_n C.1.1.1 C.1.1.2.1 dL_law_1475 rfl (lv_at hl 1 rfl) ?_
  refine L_callS C.2.2.2.2.2.1.1.1.1 C.2.2.2.2.2.2.1.1 C.2.2.2.2.1 C.1 C.2.2.1 C.2.2.2.1 X lw_often rfl (kL_often C.2.2.2.2.2.1 C.1.2.2.2.2.1 (fun k hk => (C.2.2.2.2.1.1 k hk).2.1) N (xs (Int32.toNatClampNeg (i + 1))) (xs (Int32.toNatClampNeg (i + 2))) SX f ox h1 h3) (Nat.le_of_ble_eq_true rfl) (Nat.le_of_ble_eq_true rfl) (Nat.le_trans (Nat.add_le_add_left (Nat.le_of_ble_eq_true rfl) _) hc4) (Nat.le_trans (Nat.add_le_add_left (Nat.le_of_ble_eq_true rfl) _) hs4) rfl hl.1 rfl (Nat.le_of_ble_eq_true rfl) dL_law_1476 (fun H locs X => ?_)
  refine lv_istore C.1.1.1 C.1.1.2.1 dL_law_1479 hl (by decide) rfl (fun ls hl => ?_)
  refine lv_aload_n C.1.1.1 C.1.1.2.1 dL_law_1481 rfl (lv_at hl 3 rfl) ?_
  refine lv_aload_n C.1.1.1 C.1.1.2.1 dL_law_1482 rfl (lv_at hl 5 rfl) ?_
  refine lv_iload C.1.1.1 C.1.1.2.1 dL_law_1483 (lv_at hl 1 rfl) ?_
  refine lv_iconst C.1.1.1 C.1.1.2.1 dL_law_1485 rfl ?_
  refine lv_iadd C.1.1.1 C.1.1.2.1 dL_law_1486 ?_
  refine L_ld C X hi.2.1 dL_law_1487 ?_
  refine lv_aload_n C.1.1.1 C.1.1.2.1 dL_law_1488 rfl (lv_at hl 5 rfl) ?_
  refine lv_iload C.1.1.1 C.1.1.2.1 dL_law_1489 (lv_at hl 1 rfl) ?_
  refine lv_iconst C.1.1.1 C.1.1.2.1 dL_law_1491 rfl ?_
  refine lv_iadd C.1.1.1 C.1.1.2.1 dL_law_1492 ?_
  refine L_ld C X hi.2.2.1 dL_law_1493 ?_
  refine L_callM C.2.2.2.2.2.1.1.1.1 C.2.2.2.2.2.2.1.1 C.2.2.2.2.1 C.2.1 X xv_L_195 rfl (kX12_often C.2.2.2.2.2.2.1.1 C.2.1.2.2.2.2.1 M (xs (Int32.toNatClampNeg (i + 1))) (xs (Int32.toNatClampNeg (i + 2))) SM om h2) (Nat.le_of_ble_eq_true rfl) (Nat.le_of_ble_eq_true rfl) (Nat.le_trans (Nat.add_le_add_left (Nat.le_of_ble_eq_true rfl) _) hc4) (Nat.le_trans (Nat.add_le_add_left (Nat.le_of_ble_eq_true rfl) _) hs4) rfl hl.1 rfl (Nat.le_of_ble_eq_true rfl) dL_law_1494 (fun H locs X => ?_)
  refine lv_istore C.1.1.1 C.1.1.2.1 dL_law_1497 hl (by decide) rfl (fun ls hl => ?_)
  refine lv_aload_n C.1.1.1 C.1.1.2.1 dL_law_1499 rfl (lv_at hl 4 rfl) ?_
  refine L_callM C.2.2.2.2.2.1.1.1.1 C.2.2.2.2.2.2.1.1 C.2.2.2.2.1 C.2.1 X xv_L_123 rfl (kX12_thrown C.2.2.2.2.2.2.1.1 C.2.1.2.2.2.2.1 0 om.2 (om.2 99 4, om.2) rfl) (Nat.le_of_ble_eq_true rfl) (Nat.le_of_ble_eq_true rfl) (Nat.le_trans (Nat.add_le_add_left (Nat.le_of_ble_eq_true rfl) _) hc4) (Nat.le_trans (Nat.add_le_add_left (Nat.le_of_ble_eq_true rfl) _) hs4) rfl hl.1 rfl (Nat.le_of_ble_eq_true rfl) dL_law_1500 (fun H locs X => ?_)
  refine lv_iload C.1.1.1 C.1.1.2.1 dL_law_1503 (lv_at hl 1 rfl) ?_
  refine lv_icmp_eq (tgt := 1510) C.1.1.1 C.1.1.2.1 dL_law_1505 (by decide) (fun _ => ?_) (fun hz => absurd h4 hz)
  refine lv_iload C.1.1.1 C.1.1.2.1 dL_law_1510 (lv_at hl 1 rfl) ?_
  refine lv_if_ne (tgt := 1527) C.1.1.1 C.1.1.2.1 dL_law_1512 (by decide) (fun _ => ?_) (fun hz0 => ?_)
  · refine lv_goto (tgt := 2325) C.1.1.1 C.1.1.2.1 dL_law_1527 (by decide) ?_
    exact W.widen (k := cs + 4) (n := sl + 24) (Nat.add_le_add_left (Nat.le_of_ble_eq_true rfl) _) (Nat.add_le_add_left (Nat.le_of_ble_eq_true rfl) _) (kk _ _ _ _ _ _ h6 X (lv_sub hl [2, 3, 4, 5, 6] rfl))
  · have hox := lcC0 hz0
    refine lv_aload_n C.1.1.1 C.1.1.2.1 dL_law_1515 rfl (lv_at hl 3 rfl) ?_
    refine lv_iconst C.1.1.1 C.1.1.2.1 dL_law_1516 rfl ?_
    refine va_lald C.1.1.1 C.1.1.2.1 C.2.2.1 X.2.2.1 0 0 rfl rfl (by unfold vp_in; decide) dL_law_1517 ?_
    refine lv_iload C.1.1.1 C.1.1.2.1 dL_law_1518 (lv_at hl 0 rfl) ?_
    refine lv_i2l C.1.1.1 C.1.1.2.1 dL_law_1520 rfl ?_
    refine W.lcmp C.1.1.1 C.1.1.2.1 dL_law_1521 ?_
    have he := lg_cmp0 ((lrow0 (f := f) hox).trans (congrArg Int32.toInt64 (h5 hox)))
    refine lv_if_eq (tgt := 1527) C.1.1.1 C.1.1.2.1 dL_law_1522 (by decide) (fun _ => ?_) (fun hz9 => absurd he hz9)
    refine lv_goto (tgt := 2325) C.1.1.1 C.1.1.2.1 dL_law_1527 (by decide) ?_
    exact W.widen (k := cs + 4) (n := sl + 24) (Nat.add_le_add_left (Nat.le_of_ble_eq_true rfl) _) (Nat.add_le_add_left (Nat.le_of_ble_eq_true rfl) _) (kk _ _ _ _ _ _ h6 X (lv_sub hl [2, 3, 4, 5, 6] rfl))
theorem LB_toHire (C : LCx p l s m args meth c D g g2 cI cB cZ cQ cS cJ aK aV aO b L xs Am Am2) (hi : Lin i L) (X : LX D g g2 cI cB cZ cQ cS cJ aK aO b L xs SX SM f s H locs) (hJ : J SX SM) (hl : lv_has ls 7 (Llv b (g 0) (g2 99) aO i)) (hc4 : cs + 4 ≤ 600002) (hs4 : sl + 24 ≤ 7302232) (h : Lw_toHire J) (kk : ∀ (H1 : Heap) (locs1 : List Loc) (ls1 : Array Slot) (SX1 SM1 : gS) (f1 : Nat → Int64), J SX1 SM1 → LX D g g2 cI cB cZ cQ cS cJ aK aO b L xs SX1 SM1 f1 s H1 locs1 → lv_has ls1 7 (Llv b (g 0) (g2 99) aO i) → W p l e room_1 s m args below meth c H1 locs1 (cs + 4) (sl + 24) Q (F0 m 2325 ls1 [])) : W p l e room_1 s m args below meth c H locs cs sl Q (F0 m 1530 ls []) := by
  obtain ⟨N, ox, M, om, h1, h2, h3, h4, h5, h6⟩ := h SX SM (xs (Int32.toNatClampNeg (i + 1))) (xs (Int32.toNatClampNeg (i + 2))) (xs (Int32.toNatClampNeg (i + 3))) hJ
  unfold Llv at hl
  refine lv_aload_n C.1.1.1 C.1.1.2.1 dL_law_1530 rfl (lv_at hl 3 rfl) ?_
  refine lv_aload_n C.1.1.1 C.1.1.2.1 dL_law_1531 rfl (lv_at hl 4 rfl) ?_
  refine lv_iload C.1.1.1 C.1.1.2.1 dL_law_1532 (lv_at hl 0 rfl) ?_
  refine lv_iconst C.1.1.1 C.1.1.2.1 dL_law_1534 rfl ?_
  refine lv_iadd C.1.1.1 C.1.1.2.1 dL_law_1535 ?_
  refine L_ld C X hi.2.1 dL_law_1536 ?_
  refine lv_aload_n C.1.1.1 C.1.1.2.1 dL_law_1537 rfl (lv_at hl 4 rfl) ?_
  refine lv_iload C.1.1.1 C.1.1.2.1 dL_law_1538 (lv_at hl 0 rfl) ?_
  refine lv_iconst C.1.1.1 C.1.1.2.1 dL_law_1540 rfl ?_
  refine lv_iadd C.1.1.1 C.1.1.2.1 dL_law_1541 ?_
  refine L_ld C X hi.2.2.1 dL_law_1542 ?_
  refine lv_aload_n C.1.1.1 C.1.1.2.1 dL_law_1543 rfl (lv_at hl 4 rfl) ?_
  refine lv_iload C.1.1.1 C.1.1.2.1 dL_law_1544 (lv_at hl 0 rfl) ?_
  refine lv_iconst C.1.1.1 C.1.1.2.1 dL_law_1546 rfl ?_
  refine lv_iadd C.1.1.1 C.1.1.2.1 dL_law_1547 ?_
  refine L_ld C X hi.2.2.2.1 dL_law_1548 ?_
  refine lv_aload_n C.1.1.1 C.1.1.2.1 dL_law_1549 rfl (lv_at hl 1 rfl) ?_
  refine L_callS C.2.2.2.2.2.1.1.1.1 C.2.2.2.2.2.2.1.1 C.2.2.2.2.1 C.1 C.2.2.1 C.2.2.2.1 X lw_toHire rfl (kL_toHire C.2.2.2.2.2.1 C.1.2.2.2.2.1 (fun k hk => (C.2.2.2.2.1.1 k hk).2.1) N (xs (Int32.toNatClampNeg (i + 1))) (xs (Int32.toNatClampNeg (i + 2))) (xs (Int32.toNatClampNeg (i + 3))) SX f ox h1 h3) (Nat.le_of_ble_eq_true rfl) (Nat.le_of_ble_eq_true rfl) (Nat.le_trans (Nat.add_le_add_left (Nat.le_of_ble_eq_true rfl) _) hc4) (Nat.le_trans (Nat.add_le_add_left (Nat.le_of_ble_eq_true rfl) _) hs4) rfl hl.1 rfl (Nat.le_of_ble_eq_true rfl) dL_law_1550 (fun H locs X => ?_)
  refine lv_istore C.1.1.1 C.1.1.2.1 dL_law_1553 hl (by decide) rfl (fun ls hl => ?_)
  refine lv_aload_n C.1.1.1 C.1.1.2.1 dL_law_1555 rfl (lv_at hl 3 rfl) ?_
  refine lv_aload_n C.1.1.1 C.1.1.2.1 dL_law_1556 rfl (lv_at hl 5 rfl) ?_
  refine lv_iload C.1.1.1 C.1.1.2.1 dL_law_1557 (lv_at hl 1 rfl) ?_
  refine lv_iconst C.1.1.1 C.1.1.2.1 dL_law_1559 rfl ?_
  refine lv_iadd C.1.1.1 C.1.1.2.1 dL_law_1560 ?_
  refine L_ld C X hi.2.1 dL_law_1561 ?_
  refine lv_aload_n C.1.1.1 C.1.1.2.1 dL_law_1562 rfl (lv_at hl 5 rfl) ?_
  refine lv_iload C.1.1.1 C.1.1.2.1 dL_law_1563 (lv_at hl 1 rfl) ?_
  refine lv_iconst C.1.1.1 C.1.1.2.1 dL_law_1565 rfl ?_
  refine lv_iadd C.1.1.1 C.1.1.2.1 dL_law_1566 ?_
  refine L_ld C X hi.2.2.1 dL_law_1567 ?_
  refine lv_aload_n C.1.1.1 C.1.1.2.1 dL_law_1568 rfl (lv_at hl 5 rfl) ?_
  refine lv_iload C.1.1.1 C.1.1.2.1 dL_law_1569 (lv_at hl 1 rfl) ?_
  refine lv_iconst C.1.1.1 C.1.1.2.1 dL_law_1571 rfl ?_
  refine lv_iadd C.1.1.1 C.1.1.2.1 dL_law_1572 ?_
  refine L_ld C X hi.2.2.2.1 dL_law_1573 ?_
  refine L_callM C.2.2.2.2.2.1.1.1.1 C.2.2.2.2.2.2.1.1 C.2.2.2.2.1 C.2.1 X xv_L_198 rfl (kX12_toHire C.2.2.2.2.2.2.1.1 C.2.1.2.2.2.2.1 M (xs (Int32.toNatClampNeg (i + 1))) (xs (Int32.toNatClampNeg (i + 2))) (xs (Int32.toNatClampNeg (i + 3))) SM om h2) (Nat.le_of_ble_eq_true rfl) (Nat.le_of_ble_eq_true rfl) (Nat.le_trans (Nat.add_le_add_left (Nat.le_of_ble_eq_true rfl) _) hc4) (Nat.le_trans (Nat.add_le_add_left (Nat.le_of_ble_eq_true rfl) _) hs4) rfl hl.1 rfl (Nat.le_of_ble_eq_true rfl) dL_law_1574 (fun H locs X => ?_)
  refine lv_istore C.1.1.1 C.1.1.2.1 dL_law_1577 hl (by decide) rfl (fun ls hl => ?_)
  refine lv_aload_n C.1.1.1 C.1.1.2.1 dL_law_1579 rfl (lv_at hl 4 rfl) ?_
  refine L_callM C.2.2.2.2.2.1.1.1.1 C.2.2.2.2.2.2.1.1 C.2.2.2.2.1 C.2.1 X xv_L_123 rfl (kX12_thrown C.2.2.2.2.2.2.1.1 C.2.1.2.2.2.2.1 0 om.2 (om.2 99 4, om.2) rfl) (Nat.le_of_ble_eq_true rfl) (Nat.le_of_ble_eq_true rfl) (Nat.le_trans (Nat.add_le_add_left (Nat.le_of_ble_eq_true rfl) _) hc4) (Nat.le_trans (Nat.add_le_add_left (Nat.le_of_ble_eq_true rfl) _) hs4) rfl hl.1 rfl (Nat.le_of_ble_eq_true rfl) dL_law_1580 (fun H locs X => ?_)
  refine lv_iload C.1.1.1 C.1.1.2.1 dL_law_1583 (lv_at hl 1 rfl) ?_
  refine lv_icmp_eq (tgt := 1590) C.1.1.1 C.1.1.2.1 dL_law_1585 (by decide) (fun _ => ?_) (fun hz => absurd h4 hz)
  refine lv_iload C.1.1.1 C.1.1.2.1 dL_law_1590 (lv_at hl 1 rfl) ?_
  refine lv_if_ne (tgt := 1607) C.1.1.1 C.1.1.2.1 dL_law_1592 (by decide) (fun _ => ?_) (fun hz0 => ?_)
  · refine lv_goto (tgt := 2325) C.1.1.1 C.1.1.2.1 dL_law_1607 (by decide) ?_
    exact W.widen (k := cs + 4) (n := sl + 24) (Nat.add_le_add_left (Nat.le_of_ble_eq_true rfl) _) (Nat.add_le_add_left (Nat.le_of_ble_eq_true rfl) _) (kk _ _ _ _ _ _ h6 X (lv_sub hl [2, 3, 4, 5, 6] rfl))
  · have hox := lcC0 hz0
    refine lv_aload_n C.1.1.1 C.1.1.2.1 dL_law_1595 rfl (lv_at hl 3 rfl) ?_
    refine lv_iconst C.1.1.1 C.1.1.2.1 dL_law_1596 rfl ?_
    refine va_lald C.1.1.1 C.1.1.2.1 C.2.2.1 X.2.2.1 0 0 rfl rfl (by unfold vp_in; decide) dL_law_1597 ?_
    refine lv_iload C.1.1.1 C.1.1.2.1 dL_law_1598 (lv_at hl 0 rfl) ?_
    refine lv_i2l C.1.1.1 C.1.1.2.1 dL_law_1600 rfl ?_
    refine W.lcmp C.1.1.1 C.1.1.2.1 dL_law_1601 ?_
    have he := lg_cmp0 ((lrow0 (f := f) hox).trans (congrArg Int32.toInt64 (h5 hox)))
    refine lv_if_eq (tgt := 1607) C.1.1.1 C.1.1.2.1 dL_law_1602 (by decide) (fun _ => ?_) (fun hz9 => absurd he hz9)
    refine lv_goto (tgt := 2325) C.1.1.1 C.1.1.2.1 dL_law_1607 (by decide) ?_
    exact W.widen (k := cs + 4) (n := sl + 24) (Nat.add_le_add_left (Nat.le_of_ble_eq_true rfl) _) (Nat.add_le_add_left (Nat.le_of_ble_eq_true rfl) _) (kk _ _ _ _ _ _ h6 X (lv_sub hl [2, 3, 4, 5, 6] rfl))
theorem LB_shared (C : LCx p l s m args meth c D g g2 cI cB cZ cQ cS cJ aK aV aO b L xs Am Am2) (hi : Lin i L) (X : LX D g g2 cI cB cZ cQ cS cJ aK aO b L xs SX SM f s H locs) (hJ : J SX SM) (hl : lv_has ls 7 (Llv b (g 0) (g2 99) aO i)) (hc4 : cs + 4 ≤ 600002) (hs4 : sl + 24 ≤ 7302232) (h : Lw_shared J) (kk : ∀ (H1 : Heap) (locs1 : List Loc) (ls1 : Array Slot) (SX1 SM1 : gS) (f1 : Nat → Int64), J SX1 SM1 → LX D g g2 cI cB cZ cQ cS cJ aK aO b L xs SX1 SM1 f1 s H1 locs1 → lv_has ls1 7 (Llv b (g 0) (g2 99) aO i) → W p l e room_1 s m args below meth c H1 locs1 (cs + 4) (sl + 24) Q (F0 m 2325 ls1 [])) : W p l e room_1 s m args below meth c H locs cs sl Q (F0 m 1610 ls []) := by
  obtain ⟨N, ox, M, om, h1, h2, h3, h4, h5, h6⟩ := h SX SM (xs (Int32.toNatClampNeg (i + 1))) hJ
  unfold Llv at hl
  refine lv_aload_n C.1.1.1 C.1.1.2.1 dL_law_1610 rfl (lv_at hl 3 rfl) ?_
  refine lv_aload_n C.1.1.1 C.1.1.2.1 dL_law_1611 rfl (lv_at hl 4 rfl) ?_
  refine lv_iload C.1.1.1 C.1.1.2.1 dL_law_1612 (lv_at hl 0 rfl) ?_
  refine lv_iconst C.1.1.1 C.1.1.2.1 dL_law_1614 rfl ?_
  refine lv_iadd C.1.1.1 C.1.1.2.1 dL_law_1615 ?_
  refine L_ld C X hi.2.1 dL_law_1616 ?_
  refine lv_aload_n C.1.1.1 C.1.1.2.1 dL_law_1617 rfl (lv_at hl 1 rfl) ?_
  refine L_callS C.2.2.2.2.2.1.1.1.1 C.2.2.2.2.2.2.1.1 C.2.2.2.2.1 C.1 C.2.2.1 C.2.2.2.1 X lw_shared rfl (kL_shared C.2.2.2.2.2.1 C.1.2.2.2.2.1 (fun k hk => (C.2.2.2.2.1.1 k hk).2.1) N (xs (Int32.toNatClampNeg (i + 1))) SX f ox h1 h3) (Nat.le_of_ble_eq_true rfl) (Nat.le_of_ble_eq_true rfl) (Nat.le_trans (Nat.add_le_add_left (Nat.le_of_ble_eq_true rfl) _) hc4) (Nat.le_trans (Nat.add_le_add_left (Nat.le_of_ble_eq_true rfl) _) hs4) rfl hl.1 rfl (Nat.le_of_ble_eq_true rfl) dL_law_1618 (fun H locs X => ?_)
  refine lv_istore C.1.1.1 C.1.1.2.1 dL_law_1621 hl (by decide) rfl (fun ls hl => ?_)
  refine lv_aload_n C.1.1.1 C.1.1.2.1 dL_law_1623 rfl (lv_at hl 3 rfl) ?_
  refine lv_aload_n C.1.1.1 C.1.1.2.1 dL_law_1624 rfl (lv_at hl 5 rfl) ?_
  refine lv_iload C.1.1.1 C.1.1.2.1 dL_law_1625 (lv_at hl 1 rfl) ?_
  refine lv_iconst C.1.1.1 C.1.1.2.1 dL_law_1627 rfl ?_
  refine lv_iadd C.1.1.1 C.1.1.2.1 dL_law_1628 ?_
  refine L_ld C X hi.2.1 dL_law_1629 ?_
  refine L_callM C.2.2.2.2.2.1.1.1.1 C.2.2.2.2.2.2.1.1 C.2.2.2.2.1 C.2.1 X xv_L_201 rfl (kX12_shared C.2.2.2.2.2.2.1.1 C.2.1.2.2.2.2.1 M (xs (Int32.toNatClampNeg (i + 1))) SM om h2) (Nat.le_of_ble_eq_true rfl) (Nat.le_of_ble_eq_true rfl) (Nat.le_trans (Nat.add_le_add_left (Nat.le_of_ble_eq_true rfl) _) hc4) (Nat.le_trans (Nat.add_le_add_left (Nat.le_of_ble_eq_true rfl) _) hs4) rfl hl.1 rfl (Nat.le_of_ble_eq_true rfl) dL_law_1630 (fun H locs X => ?_)
  refine lv_istore C.1.1.1 C.1.1.2.1 dL_law_1633 hl (by decide) rfl (fun ls hl => ?_)
  refine lv_aload_n C.1.1.1 C.1.1.2.1 dL_law_1635 rfl (lv_at hl 4 rfl) ?_
  refine L_callM C.2.2.2.2.2.1.1.1.1 C.2.2.2.2.2.2.1.1 C.2.2.2.2.1 C.2.1 X xv_L_123 rfl (kX12_thrown C.2.2.2.2.2.2.1.1 C.2.1.2.2.2.2.1 0 om.2 (om.2 99 4, om.2) rfl) (Nat.le_of_ble_eq_true rfl) (Nat.le_of_ble_eq_true rfl) (Nat.le_trans (Nat.add_le_add_left (Nat.le_of_ble_eq_true rfl) _) hc4) (Nat.le_trans (Nat.add_le_add_left (Nat.le_of_ble_eq_true rfl) _) hs4) rfl hl.1 rfl (Nat.le_of_ble_eq_true rfl) dL_law_1636 (fun H locs X => ?_)
  refine lv_iload C.1.1.1 C.1.1.2.1 dL_law_1639 (lv_at hl 1 rfl) ?_
  refine lv_icmp_eq (tgt := 1646) C.1.1.1 C.1.1.2.1 dL_law_1641 (by decide) (fun _ => ?_) (fun hz => absurd h4 hz)
  refine lv_iload C.1.1.1 C.1.1.2.1 dL_law_1646 (lv_at hl 1 rfl) ?_
  refine lv_if_ne (tgt := 1663) C.1.1.1 C.1.1.2.1 dL_law_1648 (by decide) (fun _ => ?_) (fun hz0 => ?_)
  · refine lv_goto (tgt := 2325) C.1.1.1 C.1.1.2.1 dL_law_1663 (by decide) ?_
    exact W.widen (k := cs + 4) (n := sl + 24) (Nat.add_le_add_left (Nat.le_of_ble_eq_true rfl) _) (Nat.add_le_add_left (Nat.le_of_ble_eq_true rfl) _) (kk _ _ _ _ _ _ h6 X (lv_sub hl [2, 3, 4, 5, 6] rfl))
  · have hox := lcA0 hz0
    refine lv_aload_n C.1.1.1 C.1.1.2.1 dL_law_1651 rfl (lv_at hl 3 rfl) ?_
    refine lv_iconst C.1.1.1 C.1.1.2.1 dL_law_1652 rfl ?_
    refine va_lald C.1.1.1 C.1.1.2.1 C.2.2.1 X.2.2.1 0 0 rfl rfl (by unfold vp_in; decide) dL_law_1653 ?_
    refine lv_iload C.1.1.1 C.1.1.2.1 dL_law_1654 (lv_at hl 0 rfl) ?_
    refine lv_i2l C.1.1.1 C.1.1.2.1 dL_law_1656 rfl ?_
    refine W.lcmp C.1.1.1 C.1.1.2.1 dL_law_1657 ?_
    have he := lg_cmp0 ((lrow0 (f := f) hox).trans (congrArg Int32.toInt64 (h5 hox)))
    refine lv_if_eq (tgt := 1663) C.1.1.1 C.1.1.2.1 dL_law_1658 (by decide) (fun _ => ?_) (fun hz9 => absurd he hz9)
    refine lv_goto (tgt := 2325) C.1.1.1 C.1.1.2.1 dL_law_1663 (by decide) ?_
    exact W.widen (k := cs + 4) (n := sl + 24) (Nat.add_le_add_left (Nat.le_of_ble_eq_true rfl) _) (Nat.add_le_add_left (Nat.le_of_ble_eq_true rfl) _) (kk _ _ _ _ _ _ h6 X (lv_sub hl [2, 3, 4, 5, 6] rfl))
theorem LB_has (C : LCx p l s m args meth c D g g2 cI cB cZ cQ cS cJ aK aV aO b L xs Am Am2) (hi : Lin i L) (X : LX D g g2 cI cB cZ cQ cS cJ aK aO b L xs SX SM f s H locs) (hJ : J SX SM) (hl : lv_has ls 7 (Llv b (g 0) (g2 99) aO i)) (hc4 : cs + 4 ≤ 600002) (hs4 : sl + 24 ≤ 7302232) (h : Lw_has J) (kk : ∀ (H1 : Heap) (locs1 : List Loc) (ls1 : Array Slot) (SX1 SM1 : gS) (f1 : Nat → Int64), J SX1 SM1 → LX D g g2 cI cB cZ cQ cS cJ aK aO b L xs SX1 SM1 f1 s H1 locs1 → lv_has ls1 7 (Llv b (g 0) (g2 99) aO i) → W p l e room_1 s m args below meth c H1 locs1 (cs + 4) (sl + 24) Q (F0 m 2325 ls1 [])) : W p l e room_1 s m args below meth c H locs cs sl Q (F0 m 1666 ls []) := by
  obtain ⟨N, ox, M, om, h1, h2, h3, h4, h5, h6⟩ := h SX SM (xs (Int32.toNatClampNeg (i + 1))) hJ
  unfold Llv at hl
  refine lv_aload_n C.1.1.1 C.1.1.2.1 dL_law_1666 rfl (lv_at hl 3 rfl) ?_
  refine lv_aload_n C.1.1.1 C.1.1.2.1 dL_law_1667 rfl (lv_at hl 4 rfl) ?_
  refine lv_iload C.1.1.1 C.1.1.2.1 dL_law_1668 (lv_at hl 0 rfl) ?_
  refine lv_iconst C.1.1.1 C.1.1.2.1 dL_law_1670 rfl ?_
  refine lv_iadd C.1.1.1 C.1.1.2.1 dL_law_1671 ?_
  refine L_ld C X hi.2.1 dL_law_1672 ?_
  refine lv_aload_n C.1.1.1 C.1.1.2.1 dL_law_1673 rfl (lv_at hl 1 rfl) ?_
  refine L_callS C.2.2.2.2.2.1.1.1.1 C.2.2.2.2.2.2.1.1 C.2.2.2.2.1 C.1 C.2.2.1 C.2.2.2.1 X lw_has rfl (kL_has C.2.2.2.2.2.1 C.1.2.2.2.2.1 (fun k hk => (C.2.2.2.2.1.1 k hk).2.1) N (xs (Int32.toNatClampNeg (i + 1))) SX f ox h1 h3) (Nat.le_of_ble_eq_true rfl) (Nat.le_of_ble_eq_true rfl) (Nat.le_trans (Nat.add_le_add_left (Nat.le_of_ble_eq_true rfl) _) hc4) (Nat.le_trans (Nat.add_le_add_left (Nat.le_of_ble_eq_true rfl) _) hs4) rfl hl.1 rfl (Nat.le_of_ble_eq_true rfl) dL_law_1674 (fun H locs X => ?_)
  refine lv_istore C.1.1.1 C.1.1.2.1 dL_law_1677 hl (by decide) rfl (fun ls hl => ?_)
  refine lv_aload_n C.1.1.1 C.1.1.2.1 dL_law_1679 rfl (lv_at hl 3 rfl) ?_
  refine lv_aload_n C.1.1.1 C.1.1.2.1 dL_law_1680 rfl (lv_at hl 5 rfl) ?_
  refine lv_iload C.1.1.1 C.1.1.2.1 dL_law_1681 (lv_at hl 1 rfl) ?_
  refine lv_iconst C.1.1.1 C.1.1.2.1 dL_law_1683 rfl ?_
  refine lv_iadd C.1.1.1 C.1.1.2.1 dL_law_1684 ?_
  refine L_ld C X hi.2.1 dL_law_1685 ?_
  refine L_callM C.2.2.2.2.2.1.1.1.1 C.2.2.2.2.2.2.1.1 C.2.2.2.2.1 C.2.1 X xv_L_204 rfl (kX12_has C.2.2.2.2.2.2.1.1 C.2.1.2.2.2.2.1 M (xs (Int32.toNatClampNeg (i + 1))) SM om h2) (Nat.le_of_ble_eq_true rfl) (Nat.le_of_ble_eq_true rfl) (Nat.le_trans (Nat.add_le_add_left (Nat.le_of_ble_eq_true rfl) _) hc4) (Nat.le_trans (Nat.add_le_add_left (Nat.le_of_ble_eq_true rfl) _) hs4) rfl hl.1 rfl (Nat.le_of_ble_eq_true rfl) dL_law_1686 (fun H locs X => ?_)
  refine lv_istore C.1.1.1 C.1.1.2.1 dL_law_1689 hl (by decide) rfl (fun ls hl => ?_)
  refine lv_aload_n C.1.1.1 C.1.1.2.1 dL_law_1691 rfl (lv_at hl 4 rfl) ?_
  refine L_callM C.2.2.2.2.2.1.1.1.1 C.2.2.2.2.2.2.1.1 C.2.2.2.2.1 C.2.1 X xv_L_123 rfl (kX12_thrown C.2.2.2.2.2.2.1.1 C.2.1.2.2.2.2.1 0 om.2 (om.2 99 4, om.2) rfl) (Nat.le_of_ble_eq_true rfl) (Nat.le_of_ble_eq_true rfl) (Nat.le_trans (Nat.add_le_add_left (Nat.le_of_ble_eq_true rfl) _) hc4) (Nat.le_trans (Nat.add_le_add_left (Nat.le_of_ble_eq_true rfl) _) hs4) rfl hl.1 rfl (Nat.le_of_ble_eq_true rfl) dL_law_1692 (fun H locs X => ?_)
  refine lv_iload C.1.1.1 C.1.1.2.1 dL_law_1695 (lv_at hl 1 rfl) ?_
  refine lv_icmp_eq (tgt := 1702) C.1.1.1 C.1.1.2.1 dL_law_1697 (by decide) (fun _ => ?_) (fun hz => absurd h4 hz)
  refine lv_iload C.1.1.1 C.1.1.2.1 dL_law_1702 (lv_at hl 1 rfl) ?_
  refine lv_if_ne (tgt := 1719) C.1.1.1 C.1.1.2.1 dL_law_1704 (by decide) (fun _ => ?_) (fun hz0 => ?_)
  · refine lv_goto (tgt := 2325) C.1.1.1 C.1.1.2.1 dL_law_1719 (by decide) ?_
    exact W.widen (k := cs + 4) (n := sl + 24) (Nat.add_le_add_left (Nat.le_of_ble_eq_true rfl) _) (Nat.add_le_add_left (Nat.le_of_ble_eq_true rfl) _) (kk _ _ _ _ _ _ h6 X (lv_sub hl [2, 3, 4, 5, 6] rfl))
  · have hox := lcA0 hz0
    refine lv_aload_n C.1.1.1 C.1.1.2.1 dL_law_1707 rfl (lv_at hl 3 rfl) ?_
    refine lv_iconst C.1.1.1 C.1.1.2.1 dL_law_1708 rfl ?_
    refine va_lald C.1.1.1 C.1.1.2.1 C.2.2.1 X.2.2.1 0 0 rfl rfl (by unfold vp_in; decide) dL_law_1709 ?_
    refine lv_iload C.1.1.1 C.1.1.2.1 dL_law_1710 (lv_at hl 0 rfl) ?_
    refine lv_i2l C.1.1.1 C.1.1.2.1 dL_law_1712 rfl ?_
    refine W.lcmp C.1.1.1 C.1.1.2.1 dL_law_1713 ?_
    have he := lg_cmp0 ((lrow0 (f := f) hox).trans (congrArg Int32.toInt64 (h5 hox)))
    refine lv_if_eq (tgt := 1719) C.1.1.1 C.1.1.2.1 dL_law_1714 (by decide) (fun _ => ?_) (fun hz9 => absurd he hz9)
    refine lv_goto (tgt := 2325) C.1.1.1 C.1.1.2.1 dL_law_1719 (by decide) ?_
    exact W.widen (k := cs + 4) (n := sl + 24) (Nat.add_le_add_left (Nat.le_of_ble_eq_true rfl) _) (Nat.add_le_add_left (Nat.le_of_ble_eq_true rfl) _) (kk _ _ _ _ _ _ h6 X (lv_sub hl [2, 3, 4, 5, 6] rfl))
theorem LB_toGive (C : LCx p l s m args meth c D g g2 cI cB cZ cQ cS cJ aK aV aO b L xs Am Am2) (hi : Lin i L) (X : LX D g g2 cI cB cZ cQ cS cJ aK aO b L xs SX SM f s H locs) (hJ : J SX SM) (hl : lv_has ls 7 (Llv b (g 0) (g2 99) aO i)) (hc4 : cs + 4 ≤ 600002) (hs4 : sl + 24 ≤ 7302232) (h : Lw_toGive J) (kk : ∀ (H1 : Heap) (locs1 : List Loc) (ls1 : Array Slot) (SX1 SM1 : gS) (f1 : Nat → Int64), J SX1 SM1 → LX D g g2 cI cB cZ cQ cS cJ aK aO b L xs SX1 SM1 f1 s H1 locs1 → lv_has ls1 7 (Llv b (g 0) (g2 99) aO i) → W p l e room_1 s m args below meth c H1 locs1 (cs + 4) (sl + 24) Q (F0 m 2325 ls1 [])) : W p l e room_1 s m args below meth c H locs cs sl Q (F0 m 1722 ls []) := by
  obtain ⟨N, ox, M, om, h1, h2, h3, h4, h5, h6⟩ := h SX SM (xs (Int32.toNatClampNeg (i + 1))) (xs (Int32.toNatClampNeg (i + 2))) hJ
  unfold Llv at hl
  refine lv_aload_n C.1.1.1 C.1.1.2.1 dL_law_1722 rfl (lv_at hl 3 rfl) ?_
  refine lv_aload_n C.1.1.1 C.1.1.2.1 dL_law_1723 rfl (lv_at hl 4 rfl) ?_
  refine lv_iload C.1.1.1 C.1.1.2.1 dL_law_1724 (lv_at hl 0 rfl) ?_
  refine lv_iconst C.1.1.1 C.1.1.2.1 dL_law_1726 rfl ?_
  refine lv_iadd C.1.1.1 C.1.1.2.1 dL_law_1727 ?_
  refine L_ld C X hi.2.1 dL_law_1728 ?_
  refine lv_aload_n C.1.1.1 C.1.1.2.1 dL_law_1729 rfl (lv_at hl 4 rfl) ?_
  refine lv_iload C.1.1.1 C.1.1.2.1 dL_law_1730 (lv_at hl 0 rfl) ?_
  refine lv_iconst C.1.1.1 C.1.1.2.1 dL_law_1732 rfl ?_
  refine lv_iadd C.1.1.1 C.1.1.2.1 dL_law_1733 ?_
  refine L_ld C X hi.2.2.1 dL_law_1734 ?_
  refine lv_aload_n C.1.1.1 C.1.1.2.1 dL_law_1735 rfl (lv_at hl 1 rfl) ?_
  refine L_callS C.2.2.2.2.2.1.1.1.1 C.2.2.2.2.2.2.1.1 C.2.2.2.2.1 C.1 C.2.2.1 C.2.2.2.1 X lw_toGive rfl (kL_toGive C.2.2.2.2.2.1 C.1.2.2.2.2.1 (fun k hk => (C.2.2.2.2.1.1 k hk).2.1) N (xs (Int32.toNatClampNeg (i + 1))) (xs (Int32.toNatClampNeg (i + 2))) SX f ox h1 h3) (Nat.le_of_ble_eq_true rfl) (Nat.le_of_ble_eq_true rfl) (Nat.le_trans (Nat.add_le_add_left (Nat.le_of_ble_eq_true rfl) _) hc4) (Nat.le_trans (Nat.add_le_add_left (Nat.le_of_ble_eq_true rfl) _) hs4) rfl hl.1 rfl (Nat.le_of_ble_eq_true rfl) dL_law_1736 (fun H locs X => ?_)
  refine lv_istore C.1.1.1 C.1.1.2.1 dL_law_1739 hl (by decide) rfl (fun ls hl => ?_)
  refine lv_aload_n C.1.1.1 C.1.1.2.1 dL_law_1741 rfl (lv_at hl 3 rfl) ?_
  refine lv_aload_n C.1.1.1 C.1.1.2.1 dL_law_1742 rfl (lv_at hl 5 rfl) ?_
  refine lv_iload C.1.1.1 C.1.1.2.1 dL_law_1743 (lv_at hl 1 rfl) ?_
  refine lv_iconst C.1.1.1 C.1.1.2.1 dL_law_1745 rfl ?_
  refine lv_iadd C.1.1.1 C.1.1.2.1 dL_law_1746 ?_
  refine L_ld C X hi.2.1 dL_law_1747 ?_
  refine lv_aload_n C.1.1.1 C.1.1.2.1 dL_law_1748 rfl (lv_at hl 5 rfl) ?_
  refine lv_iload C.1.1.1 C.1.1.2.1 dL_law_1749 (lv_at hl 1 rfl) ?_
  refine lv_iconst C.1.1.1 C.1.1.2.1 dL_law_1751 rfl ?_
  refine lv_iadd C.1.1.1 C.1.1.2.1 dL_law_1752 ?_
  refine L_ld C X hi.2.2.1 dL_law_1753 ?_
  refine L_callM C.2.2.2.2.2.1.1.1.1 C.2.2.2.2.2.2.1.1 C.2.2.2.2.1 C.2.1 X xv_L_207 rfl (kX12_toGive C.2.2.2.2.2.2.1.1 C.2.1.2.2.2.2.1 M (xs (Int32.toNatClampNeg (i + 1))) (xs (Int32.toNatClampNeg (i + 2))) SM om h2) (Nat.le_of_ble_eq_true rfl) (Nat.le_of_ble_eq_true rfl) (Nat.le_trans (Nat.add_le_add_left (Nat.le_of_ble_eq_true rfl) _) hc4) (Nat.le_trans (Nat.add_le_add_left (Nat.le_of_ble_eq_true rfl) _) hs4) rfl hl.1 rfl (Nat.le_of_ble_eq_true rfl) dL_law_1754 (fun H locs X => ?_)
  refine lv_istore C.1.1.1 C.1.1.2.1 dL_law_1757 hl (by decide) rfl (fun ls hl => ?_)
  refine lv_aload_n C.1.1.1 C.1.1.2.1 dL_law_1759 rfl (lv_at hl 4 rfl) ?_
  refine L_callM C.2.2.2.2.2.1.1.1.1 C.2.2.2.2.2.2.1.1 C.2.2.2.2.1 C.2.1 X xv_L_123 rfl (kX12_thrown C.2.2.2.2.2.2.1.1 C.2.1.2.2.2.2.1 0 om.2 (om.2 99 4, om.2) rfl) (Nat.le_of_ble_eq_true rfl) (Nat.le_of_ble_eq_true rfl) (Nat.le_trans (Nat.add_le_add_left (Nat.le_of_ble_eq_true rfl) _) hc4) (Nat.le_trans (Nat.add_le_add_left (Nat.le_of_ble_eq_true rfl) _) hs4) rfl hl.1 rfl (Nat.le_of_ble_eq_true rfl) dL_law_1760 (fun H locs X => ?_)
  refine lv_iload C.1.1.1 C.1.1.2.1 dL_law_1763 (lv_at hl 1 rfl) ?_
  refine lv_icmp_eq (tgt := 1770) C.1.1.1 C.1.1.2.1 dL_law_1765 (by decide) (fun _ => ?_) (fun hz => absurd h4 hz)
  refine lv_iload C.1.1.1 C.1.1.2.1 dL_law_1770 (lv_at hl 1 rfl) ?_
  refine lv_if_ne (tgt := 1787) C.1.1.1 C.1.1.2.1 dL_law_1772 (by decide) (fun _ => ?_) (fun hz0 => ?_)
  · refine lv_goto (tgt := 2325) C.1.1.1 C.1.1.2.1 dL_law_1787 (by decide) ?_
    exact W.widen (k := cs + 4) (n := sl + 24) (Nat.add_le_add_left (Nat.le_of_ble_eq_true rfl) _) (Nat.add_le_add_left (Nat.le_of_ble_eq_true rfl) _) (kk _ _ _ _ _ _ h6 X (lv_sub hl [2, 3, 4, 5, 6] rfl))
  · have hox := lcC0 hz0
    refine lv_aload_n C.1.1.1 C.1.1.2.1 dL_law_1775 rfl (lv_at hl 3 rfl) ?_
    refine lv_iconst C.1.1.1 C.1.1.2.1 dL_law_1776 rfl ?_
    refine va_lald C.1.1.1 C.1.1.2.1 C.2.2.1 X.2.2.1 0 0 rfl rfl (by unfold vp_in; decide) dL_law_1777 ?_
    refine lv_iload C.1.1.1 C.1.1.2.1 dL_law_1778 (lv_at hl 0 rfl) ?_
    refine lv_i2l C.1.1.1 C.1.1.2.1 dL_law_1780 rfl ?_
    refine W.lcmp C.1.1.1 C.1.1.2.1 dL_law_1781 ?_
    have he := lg_cmp0 ((lrow0 (f := f) hox).trans (congrArg Int32.toInt64 (h5 hox)))
    refine lv_if_eq (tgt := 1787) C.1.1.1 C.1.1.2.1 dL_law_1782 (by decide) (fun _ => ?_) (fun hz9 => absurd he hz9)
    refine lv_goto (tgt := 2325) C.1.1.1 C.1.1.2.1 dL_law_1787 (by decide) ?_
    exact W.widen (k := cs + 4) (n := sl + 24) (Nat.add_le_add_left (Nat.le_of_ble_eq_true rfl) _) (Nat.add_le_add_left (Nat.le_of_ble_eq_true rfl) _) (kk _ _ _ _ _ _ h6 X (lv_sub hl [2, 3, 4, 5, 6] rfl))
theorem LB_confessing (C : LCx p l s m args meth c D g g2 cI cB cZ cQ cS cJ aK aV aO b L xs Am Am2) (hi : Lin i L) (X : LX D g g2 cI cB cZ cQ cS cJ aK aO b L xs SX SM f s H locs) (hJ : J SX SM) (hl : lv_has ls 7 (Llv b (g 0) (g2 99) aO i)) (hc4 : cs + 4 ≤ 600002) (hs4 : sl + 24 ≤ 7302232) (h : Lw_confessing J) (kk : ∀ (H1 : Heap) (locs1 : List Loc) (ls1 : Array Slot) (SX1 SM1 : gS) (f1 : Nat → Int64), J SX1 SM1 → LX D g g2 cI cB cZ cQ cS cJ aK aO b L xs SX1 SM1 f1 s H1 locs1 → lv_has ls1 7 (Llv b (g 0) (g2 99) aO i) → W p l e room_1 s m args below meth c H1 locs1 (cs + 4) (sl + 24) Q (F0 m 2325 ls1 [])) : W p l e room_1 s m args below meth c H locs cs sl Q (F0 m 1790 ls []) := by
  obtain ⟨N, ox, M, om, h1, h2, h3, h4, h5, h6⟩ := h SX SM (xs (Int32.toNatClampNeg (i + 1))) (xs (Int32.toNatClampNeg (i + 2))) hJ
  unfold Llv at hl
  refine lv_aload_n C.1.1.1 C.1.1.2.1 dL_law_1790 rfl (lv_at hl 3 rfl) ?_
  refine lv_aload_n C.1.1.1 C.1.1.2.1 dL_law_1791 rfl (lv_at hl 4 rfl) ?_
  refine lv_iload C.1.1.1 C.1.1.2.1 dL_law_1792 (lv_at hl 0 rfl) ?_
  refine lv_iconst C.1.1.1 C.1.1.2.1 dL_law_1794 rfl ?_
  refine lv_iadd C.1.1.1 C.1.1.2.1 dL_law_1795 ?_
  refine L_ld C X hi.2.1 dL_law_1796 ?_
  refine lv_aload_n C.1.1.1 C.1.1.2.1 dL_law_1797 rfl (lv_at hl 4 rfl) ?_
  refine lv_iload C.1.1.1 C.1.1.2.1 dL_law_1798 (lv_at hl 0 rfl) ?_
  refine lv_iconst C.1.1.1 C.1.1.2.1 dL_law_1800 rfl ?_
  refine lv_iadd C.1.1.1 C.1.1.2.1 dL_law_1801 ?_
  refine L_ld C X hi.2.2.1 dL_law_1802 ?_
  refine lv_aload_n C.1.1.1 C.1.1.2.1 dL_law_1803 rfl (lv_at hl 1 rfl) ?_
  refine L_callS C.2.2.2.2.2.1.1.1.1 C.2.2.2.2.2.2.1.1 C.2.2.2.2.1 C.1 C.2.2.1 C.2.2.2.1 X lw_confessing rfl (kL_confessing C.2.2.2.2.2.1 C.1.2.2.2.2.1 (fun k hk => (C.2.2.2.2.1.1 k hk).2.1) N (xs (Int32.toNatClampNeg (i + 1))) (xs (Int32.toNatClampNeg (i + 2))) SX f ox h1 h3) (Nat.le_of_ble_eq_true rfl) (Nat.le_of_ble_eq_true rfl) (Nat.le_trans (Nat.add_le_add_left (Nat.le_of_ble_eq_true rfl) _) hc4) (Nat.le_trans (Nat.add_le_add_left (Nat.le_of_ble_eq_true rfl) _) hs4) rfl hl.1 rfl (Nat.le_of_ble_eq_true rfl) dL_law_1804 (fun H locs X => ?_)
  refine lv_istore C.1.1.1 C.1.1.2.1 dL_law_1807 hl (by decide) rfl (fun ls hl => ?_)
  refine lv_aload_n C.1.1.1 C.1.1.2.1 dL_law_1809 rfl (lv_at hl 3 rfl) ?_
  refine lv_aload_n C.1.1.1 C.1.1.2.1 dL_law_1810 rfl (lv_at hl 5 rfl) ?_
  refine lv_iload C.1.1.1 C.1.1.2.1 dL_law_1811 (lv_at hl 1 rfl) ?_
  refine lv_iconst C.1.1.1 C.1.1.2.1 dL_law_1813 rfl ?_
  refine lv_iadd C.1.1.1 C.1.1.2.1 dL_law_1814 ?_
  refine L_ld C X hi.2.1 dL_law_1815 ?_
  refine lv_aload_n C.1.1.1 C.1.1.2.1 dL_law_1816 rfl (lv_at hl 5 rfl) ?_
  refine lv_iload C.1.1.1 C.1.1.2.1 dL_law_1817 (lv_at hl 1 rfl) ?_
  refine lv_iconst C.1.1.1 C.1.1.2.1 dL_law_1819 rfl ?_
  refine lv_iadd C.1.1.1 C.1.1.2.1 dL_law_1820 ?_
  refine L_ld C X hi.2.2.1 dL_law_1821 ?_
  refine L_callM C.2.2.2.2.2.1.1.1.1 C.2.2.2.2.2.2.1.1 C.2.2.2.2.1 C.2.1 X xv_L_210 rfl (kX12_confessing C.2.2.2.2.2.2.1.1 C.2.1.2.2.2.2.1 M (xs (Int32.toNatClampNeg (i + 1))) (xs (Int32.toNatClampNeg (i + 2))) SM om h2) (Nat.le_of_ble_eq_true rfl) (Nat.le_of_ble_eq_true rfl) (Nat.le_trans (Nat.add_le_add_left (Nat.le_of_ble_eq_true rfl) _) hc4) (Nat.le_trans (Nat.add_le_add_left (Nat.le_of_ble_eq_true rfl) _) hs4) rfl hl.1 rfl (Nat.le_of_ble_eq_true rfl) dL_law_1822 (fun H locs X => ?_)
  refine lv_istore C.1.1.1 C.1.1.2.1 dL_law_1825 hl (by decide) rfl (fun ls hl => ?_)
  refine lv_aload_n C.1.1.1 C.1.1.2.1 dL_law_1827 rfl (lv_at hl 4 rfl) ?_
  refine L_callM C.2.2.2.2.2.1.1.1.1 C.2.2.2.2.2.2.1.1 C.2.2.2.2.1 C.2.1 X xv_L_123 rfl (kX12_thrown C.2.2.2.2.2.2.1.1 C.2.1.2.2.2.2.1 0 om.2 (om.2 99 4, om.2) rfl) (Nat.le_of_ble_eq_true rfl) (Nat.le_of_ble_eq_true rfl) (Nat.le_trans (Nat.add_le_add_left (Nat.le_of_ble_eq_true rfl) _) hc4) (Nat.le_trans (Nat.add_le_add_left (Nat.le_of_ble_eq_true rfl) _) hs4) rfl hl.1 rfl (Nat.le_of_ble_eq_true rfl) dL_law_1828 (fun H locs X => ?_)
  refine lv_iload C.1.1.1 C.1.1.2.1 dL_law_1831 (lv_at hl 1 rfl) ?_
  refine lv_icmp_eq (tgt := 1838) C.1.1.1 C.1.1.2.1 dL_law_1833 (by decide) (fun _ => ?_) (fun hz => absurd h4 hz)
  refine lv_iload C.1.1.1 C.1.1.2.1 dL_law_1838 (lv_at hl 1 rfl) ?_
  refine lv_if_ne (tgt := 1855) C.1.1.1 C.1.1.2.1 dL_law_1840 (by decide) (fun _ => ?_) (fun hz0 => ?_)
  · refine lv_goto (tgt := 2325) C.1.1.1 C.1.1.2.1 dL_law_1855 (by decide) ?_
    exact W.widen (k := cs + 4) (n := sl + 24) (Nat.add_le_add_left (Nat.le_of_ble_eq_true rfl) _) (Nat.add_le_add_left (Nat.le_of_ble_eq_true rfl) _) (kk _ _ _ _ _ _ h6 X (lv_sub hl [2, 3, 4, 5, 6] rfl))
  · have hox := lcC0 hz0
    refine lv_aload_n C.1.1.1 C.1.1.2.1 dL_law_1843 rfl (lv_at hl 3 rfl) ?_
    refine lv_iconst C.1.1.1 C.1.1.2.1 dL_law_1844 rfl ?_
    refine va_lald C.1.1.1 C.1.1.2.1 C.2.2.1 X.2.2.1 0 0 rfl rfl (by unfold vp_in; decide) dL_law_1845 ?_
    refine lv_iload C.1.1.1 C.1.1.2.1 dL_law_1846 (lv_at hl 0 rfl) ?_
    refine lv_i2l C.1.1.1 C.1.1.2.1 dL_law_1848 rfl ?_
    refine W.lcmp C.1.1.1 C.1.1.2.1 dL_law_1849 ?_
    have he := lg_cmp0 ((lrow0 (f := f) hox).trans (congrArg Int32.toInt64 (h5 hox)))
    refine lv_if_eq (tgt := 1855) C.1.1.1 C.1.1.2.1 dL_law_1850 (by decide) (fun _ => ?_) (fun hz9 => absurd he hz9)
    refine lv_goto (tgt := 2325) C.1.1.1 C.1.1.2.1 dL_law_1855 (by decide) ?_
    exact W.widen (k := cs + 4) (n := sl + 24) (Nat.add_le_add_left (Nat.le_of_ble_eq_true rfl) _) (Nat.add_le_add_left (Nat.le_of_ble_eq_true rfl) _) (kk _ _ _ _ _ _ h6 X (lv_sub hl [2, 3, 4, 5, 6] rfl))
theorem LB_see (C : LCx p l s m args meth c D g g2 cI cB cZ cQ cS cJ aK aV aO b L xs Am Am2) (hi : Lin i L) (X : LX D g g2 cI cB cZ cQ cS cJ aK aO b L xs SX SM f s H locs) (hJ : J SX SM) (hl : lv_has ls 7 (Llv b (g 0) (g2 99) aO i)) (hc4 : cs + 4 ≤ 600002) (hs4 : sl + 24 ≤ 7302232) (h : Lw_see J) (kk : ∀ (H1 : Heap) (locs1 : List Loc) (ls1 : Array Slot) (SX1 SM1 : gS) (f1 : Nat → Int64), J SX1 SM1 → LX D g g2 cI cB cZ cQ cS cJ aK aO b L xs SX1 SM1 f1 s H1 locs1 → lv_has ls1 7 (Llv b (g 0) (g2 99) aO i) → W p l e room_1 s m args below meth c H1 locs1 (cs + 4) (sl + 24) Q (F0 m 2325 ls1 [])) : W p l e room_1 s m args below meth c H locs cs sl Q (F0 m 1858 ls []) := by
  obtain ⟨N, ox, M, om, h1, h2, h3, h4, h5, h6⟩ := h SX SM (xs (Int32.toNatClampNeg (i + 1))) (xs (Int32.toNatClampNeg (i + 2))) (xs (Int32.toNatClampNeg (i + 3))) hJ
  unfold Llv at hl
  refine lv_aload_n C.1.1.1 C.1.1.2.1 dL_law_1858 rfl (lv_at hl 3 rfl) ?_
  refine lv_aload_n C.1.1.1 C.1.1.2.1 dL_law_1859 rfl (lv_at hl 4 rfl) ?_
  refine lv_iload C.1.1.1 C.1.1.2.1 dL_law_1860 (lv_at hl 0 rfl) ?_
  refine lv_iconst C.1.1.1 C.1.1.2.1 dL_law_1862 rfl ?_
  refine lv_iadd C.1.1.1 C.1.1.2.1 dL_law_1863 ?_
  refine L_ld C X hi.2.1 dL_law_1864 ?_
  refine lv_aload_n C.1.1.1 C.1.1.2.1 dL_law_1865 rfl (lv_at hl 4 rfl) ?_
  refine lv_iload C.1.1.1 C.1.1.2.1 dL_law_1866 (lv_at hl 0 rfl) ?_
  refine lv_iconst C.1.1.1 C.1.1.2.1 dL_law_1868 rfl ?_
  refine lv_iadd C.1.1.1 C.1.1.2.1 dL_law_1869 ?_
  refine L_ld C X hi.2.2.1 dL_law_1870 ?_
  refine lv_aload_n C.1.1.1 C.1.1.2.1 dL_law_1871 rfl (lv_at hl 4 rfl) ?_
  refine lv_iload C.1.1.1 C.1.1.2.1 dL_law_1872 (lv_at hl 0 rfl) ?_
  refine lv_iconst C.1.1.1 C.1.1.2.1 dL_law_1874 rfl ?_
  refine lv_iadd C.1.1.1 C.1.1.2.1 dL_law_1875 ?_
  refine L_ld C X hi.2.2.2.1 dL_law_1876 ?_
  refine lv_aload_n C.1.1.1 C.1.1.2.1 dL_law_1877 rfl (lv_at hl 1 rfl) ?_
  refine L_callS C.2.2.2.2.2.1.1.1.1 C.2.2.2.2.2.2.1.1 C.2.2.2.2.1 C.1 C.2.2.1 C.2.2.2.1 X lw_see rfl (kL_see C.2.2.2.2.2.1 C.1.2.2.2.2.1 (fun k hk => (C.2.2.2.2.1.1 k hk).2.1) N (xs (Int32.toNatClampNeg (i + 1))) (xs (Int32.toNatClampNeg (i + 2))) (xs (Int32.toNatClampNeg (i + 3))) SX f ox h1 h3) (Nat.le_of_ble_eq_true rfl) (Nat.le_of_ble_eq_true rfl) (Nat.le_trans (Nat.add_le_add_left (Nat.le_of_ble_eq_true rfl) _) hc4) (Nat.le_trans (Nat.add_le_add_left (Nat.le_of_ble_eq_true rfl) _) hs4) rfl hl.1 rfl (Nat.le_of_ble_eq_true rfl) dL_law_1878 (fun H locs X => ?_)
  refine lv_istore C.1.1.1 C.1.1.2.1 dL_law_1881 hl (by decide) rfl (fun ls hl => ?_)
  refine lv_aload_n C.1.1.1 C.1.1.2.1 dL_law_1883 rfl (lv_at hl 3 rfl) ?_
  refine lv_aload_n C.1.1.1 C.1.1.2.1 dL_law_1884 rfl (lv_at hl 5 rfl) ?_
  refine lv_iload C.1.1.1 C.1.1.2.1 dL_law_1885 (lv_at hl 1 rfl) ?_
  refine lv_iconst C.1.1.1 C.1.1.2.1 dL_law_1887 rfl ?_
  refine lv_iadd C.1.1.1 C.1.1.2.1 dL_law_1888 ?_
  refine L_ld C X hi.2.1 dL_law_1889 ?_
  refine lv_aload_n C.1.1.1 C.1.1.2.1 dL_law_1890 rfl (lv_at hl 5 rfl) ?_
  refine lv_iload C.1.1.1 C.1.1.2.1 dL_law_1891 (lv_at hl 1 rfl) ?_
  refine lv_iconst C.1.1.1 C.1.1.2.1 dL_law_1893 rfl ?_
  refine lv_iadd C.1.1.1 C.1.1.2.1 dL_law_1894 ?_
  refine L_ld C X hi.2.2.1 dL_law_1895 ?_
  refine lv_aload_n C.1.1.1 C.1.1.2.1 dL_law_1896 rfl (lv_at hl 5 rfl) ?_
  refine lv_iload C.1.1.1 C.1.1.2.1 dL_law_1897 (lv_at hl 1 rfl) ?_
  refine lv_iconst C.1.1.1 C.1.1.2.1 dL_law_1899 rfl ?_
  refine lv_iadd C.1.1.1 C.1.1.2.1 dL_law_1900 ?_
  refine L_ld C X hi.2.2.2.1 dL_law_1901 ?_
  refine L_callM C.2.2.2.2.2.1.1.1.1 C.2.2.2.2.2.2.1.1 C.2.2.2.2.1 C.2.1 X xv_L_213 rfl (kX12_see C.2.2.2.2.2.2.1.1 C.2.1.2.2.2.2.1 M (xs (Int32.toNatClampNeg (i + 1))) (xs (Int32.toNatClampNeg (i + 2))) (xs (Int32.toNatClampNeg (i + 3))) SM om h2) (Nat.le_of_ble_eq_true rfl) (Nat.le_of_ble_eq_true rfl) (Nat.le_trans (Nat.add_le_add_left (Nat.le_of_ble_eq_true rfl) _) hc4) (Nat.le_trans (Nat.add_le_add_left (Nat.le_of_ble_eq_true rfl) _) hs4) rfl hl.1 rfl (Nat.le_of_ble_eq_true rfl) dL_law_1902 (fun H locs X => ?_)
  refine lv_istore C.1.1.1 C.1.1.2.1 dL_law_1905 hl (by decide) rfl (fun ls hl => ?_)
  refine lv_aload_n C.1.1.1 C.1.1.2.1 dL_law_1907 rfl (lv_at hl 4 rfl) ?_
  refine L_callM C.2.2.2.2.2.1.1.1.1 C.2.2.2.2.2.2.1.1 C.2.2.2.2.1 C.2.1 X xv_L_123 rfl (kX12_thrown C.2.2.2.2.2.2.1.1 C.2.1.2.2.2.2.1 0 om.2 (om.2 99 4, om.2) rfl) (Nat.le_of_ble_eq_true rfl) (Nat.le_of_ble_eq_true rfl) (Nat.le_trans (Nat.add_le_add_left (Nat.le_of_ble_eq_true rfl) _) hc4) (Nat.le_trans (Nat.add_le_add_left (Nat.le_of_ble_eq_true rfl) _) hs4) rfl hl.1 rfl (Nat.le_of_ble_eq_true rfl) dL_law_1908 (fun H locs X => ?_)
  refine lv_iload C.1.1.1 C.1.1.2.1 dL_law_1911 (lv_at hl 1 rfl) ?_
  refine lv_icmp_eq (tgt := 1918) C.1.1.1 C.1.1.2.1 dL_law_1913 (by decide) (fun _ => ?_) (fun hz => absurd h4 hz)
  refine lv_iload C.1.1.1 C.1.1.2.1 dL_law_1918 (lv_at hl 1 rfl) ?_
  refine lv_if_ne (tgt := 1935) C.1.1.1 C.1.1.2.1 dL_law_1920 (by decide) (fun _ => ?_) (fun hz0 => ?_)
  · refine lv_goto (tgt := 2325) C.1.1.1 C.1.1.2.1 dL_law_1935 (by decide) ?_
    exact W.widen (k := cs + 4) (n := sl + 24) (Nat.add_le_add_left (Nat.le_of_ble_eq_true rfl) _) (Nat.add_le_add_left (Nat.le_of_ble_eq_true rfl) _) (kk _ _ _ _ _ _ h6 X (lv_sub hl [2, 3, 4, 5, 6] rfl))
  · have hox := lcA0 hz0
    refine lv_aload_n C.1.1.1 C.1.1.2.1 dL_law_1923 rfl (lv_at hl 3 rfl) ?_
    refine lv_iconst C.1.1.1 C.1.1.2.1 dL_law_1924 rfl ?_
    refine va_lald C.1.1.1 C.1.1.2.1 C.2.2.1 X.2.2.1 0 0 rfl rfl (by unfold vp_in; decide) dL_law_1925 ?_
    refine lv_iload C.1.1.1 C.1.1.2.1 dL_law_1926 (lv_at hl 0 rfl) ?_
    refine lv_i2l C.1.1.1 C.1.1.2.1 dL_law_1928 rfl ?_
    refine W.lcmp C.1.1.1 C.1.1.2.1 dL_law_1929 ?_
    have he := lg_cmp0 ((lrow0 (f := f) hox).trans (congrArg Int32.toInt64 (h5 hox)))
    refine lv_if_eq (tgt := 1935) C.1.1.1 C.1.1.2.1 dL_law_1930 (by decide) (fun _ => ?_) (fun hz9 => absurd he hz9)
    refine lv_goto (tgt := 2325) C.1.1.1 C.1.1.2.1 dL_law_1935 (by decide) ?_
    exact W.widen (k := cs + 4) (n := sl + 24) (Nat.add_le_add_left (Nat.le_of_ble_eq_true rfl) _) (Nat.add_le_add_left (Nat.le_of_ble_eq_true rfl) _) (kk _ _ _ _ _ _ h6 X (lv_sub hl [2, 3, 4, 5, 6] rfl))
theorem LB_greedy (C : LCx p l s m args meth c D g g2 cI cB cZ cQ cS cJ aK aV aO b L xs Am Am2) (hi : Lin i L) (X : LX D g g2 cI cB cZ cQ cS cJ aK aO b L xs SX SM f s H locs) (hJ : J SX SM) (hl : lv_has ls 7 (Llv b (g 0) (g2 99) aO i)) (hc4 : cs + 4 ≤ 600002) (hs4 : sl + 24 ≤ 7302232) (h : Lw_greedy J) (kk : ∀ (H1 : Heap) (locs1 : List Loc) (ls1 : Array Slot) (SX1 SM1 : gS) (f1 : Nat → Int64), J SX1 SM1 → LX D g g2 cI cB cZ cQ cS cJ aK aO b L xs SX1 SM1 f1 s H1 locs1 → lv_has ls1 7 (Llv b (g 0) (g2 99) aO i) → W p l e room_1 s m args below meth c H1 locs1 (cs + 4) (sl + 24) Q (F0 m 2325 ls1 [])) : W p l e room_1 s m args below meth c H locs cs sl Q (F0 m 1938 ls []) := by
  obtain ⟨N, ox, M, om, h1, h2, h3, h4, h5, h6⟩ := h SX SM (xs (Int32.toNatClampNeg (i + 1))) hJ
  unfold Llv at hl
  refine lv_aload_n C.1.1.1 C.1.1.2.1 dL_law_1938 rfl (lv_at hl 3 rfl) ?_
  refine lv_aload_n C.1.1.1 C.1.1.2.1 dL_law_1939 rfl (lv_at hl 4 rfl) ?_
  refine lv_iload C.1.1.1 C.1.1.2.1 dL_law_1940 (lv_at hl 0 rfl) ?_
  refine lv_iconst C.1.1.1 C.1.1.2.1 dL_law_1942 rfl ?_
  refine lv_iadd C.1.1.1 C.1.1.2.1 dL_law_1943 ?_
  refine L_ld C X hi.2.1 dL_law_1944 ?_
  refine lv_aload_n C.1.1.1 C.1.1.2.1 dL_law_1945 rfl (lv_at hl 1 rfl) ?_
  refine L_callS C.2.2.2.2.2.1.1.1.1 C.2.2.2.2.2.2.1.1 C.2.2.2.2.1 C.1 C.2.2.1 C.2.2.2.1 X lw_greedy rfl (kL_greedy C.2.2.2.2.2.1 C.1.2.2.2.2.1 (fun k hk => (C.2.2.2.2.1.1 k hk).2.1) N (xs (Int32.toNatClampNeg (i + 1))) SX f ox h1 h3) (Nat.le_of_ble_eq_true rfl) (Nat.le_of_ble_eq_true rfl) (Nat.le_trans (Nat.add_le_add_left (Nat.le_of_ble_eq_true rfl) _) hc4) (Nat.le_trans (Nat.add_le_add_left (Nat.le_of_ble_eq_true rfl) _) hs4) rfl hl.1 rfl (Nat.le_of_ble_eq_true rfl) dL_law_1946 (fun H locs X => ?_)
  refine lv_istore C.1.1.1 C.1.1.2.1 dL_law_1949 hl (by decide) rfl (fun ls hl => ?_)
  refine lv_aload_n C.1.1.1 C.1.1.2.1 dL_law_1951 rfl (lv_at hl 3 rfl) ?_
  refine lv_aload_n C.1.1.1 C.1.1.2.1 dL_law_1952 rfl (lv_at hl 5 rfl) ?_
  refine lv_iload C.1.1.1 C.1.1.2.1 dL_law_1953 (lv_at hl 1 rfl) ?_
  refine lv_iconst C.1.1.1 C.1.1.2.1 dL_law_1955 rfl ?_
  refine lv_iadd C.1.1.1 C.1.1.2.1 dL_law_1956 ?_
  refine L_ld C X hi.2.1 dL_law_1957 ?_
  refine L_callM C.2.2.2.2.2.1.1.1.1 C.2.2.2.2.2.2.1.1 C.2.2.2.2.1 C.2.1 X xv_L_216 rfl (kX12_greedy C.2.2.2.2.2.2.1.1 C.2.1.2.2.2.2.1 M (xs (Int32.toNatClampNeg (i + 1))) SM om h2) (Nat.le_of_ble_eq_true rfl) (Nat.le_of_ble_eq_true rfl) (Nat.le_trans (Nat.add_le_add_left (Nat.le_of_ble_eq_true rfl) _) hc4) (Nat.le_trans (Nat.add_le_add_left (Nat.le_of_ble_eq_true rfl) _) hs4) rfl hl.1 rfl (Nat.le_of_ble_eq_true rfl) dL_law_1958 (fun H locs X => ?_)
  refine lv_istore C.1.1.1 C.1.1.2.1 dL_law_1961 hl (by decide) rfl (fun ls hl => ?_)
  refine lv_aload_n C.1.1.1 C.1.1.2.1 dL_law_1963 rfl (lv_at hl 4 rfl) ?_
  refine L_callM C.2.2.2.2.2.1.1.1.1 C.2.2.2.2.2.2.1.1 C.2.2.2.2.1 C.2.1 X xv_L_123 rfl (kX12_thrown C.2.2.2.2.2.2.1.1 C.2.1.2.2.2.2.1 0 om.2 (om.2 99 4, om.2) rfl) (Nat.le_of_ble_eq_true rfl) (Nat.le_of_ble_eq_true rfl) (Nat.le_trans (Nat.add_le_add_left (Nat.le_of_ble_eq_true rfl) _) hc4) (Nat.le_trans (Nat.add_le_add_left (Nat.le_of_ble_eq_true rfl) _) hs4) rfl hl.1 rfl (Nat.le_of_ble_eq_true rfl) dL_law_1964 (fun H locs X => ?_)
  refine lv_iload C.1.1.1 C.1.1.2.1 dL_law_1967 (lv_at hl 1 rfl) ?_
  refine lv_icmp_eq (tgt := 1974) C.1.1.1 C.1.1.2.1 dL_law_1969 (by decide) (fun _ => ?_) (fun hz => absurd h4 hz)
  refine lv_iload C.1.1.1 C.1.1.2.1 dL_law_1974 (lv_at hl 1 rfl) ?_
  refine lv_if_ne (tgt := 1991) C.1.1.1 C.1.1.2.1 dL_law_1976 (by decide) (fun _ => ?_) (fun hz0 => ?_)
  · refine lv_goto (tgt := 2325) C.1.1.1 C.1.1.2.1 dL_law_1991 (by decide) ?_
    exact W.widen (k := cs + 4) (n := sl + 24) (Nat.add_le_add_left (Nat.le_of_ble_eq_true rfl) _) (Nat.add_le_add_left (Nat.le_of_ble_eq_true rfl) _) (kk _ _ _ _ _ _ h6 X (lv_sub hl [2, 3, 4, 5, 6] rfl))
  · have hox := lcA0 hz0
    refine lv_aload_n C.1.1.1 C.1.1.2.1 dL_law_1979 rfl (lv_at hl 3 rfl) ?_
    refine lv_iconst C.1.1.1 C.1.1.2.1 dL_law_1980 rfl ?_
    refine va_lald C.1.1.1 C.1.1.2.1 C.2.2.1 X.2.2.1 0 0 rfl rfl (by unfold vp_in; decide) dL_law_1981 ?_
    refine lv_iload C.1.1.1 C.1.1.2.1 dL_law_1982 (lv_at hl 0 rfl) ?_
    refine lv_i2l C.1.1.1 C.1.1.2.1 dL_law_1984 rfl ?_
    refine W.lcmp C.1.1.1 C.1.1.2.1 dL_law_1985 ?_
    have he := lg_cmp0 ((lrow0 (f := f) hox).trans (congrArg Int32.toInt64 (h5 hox)))
    refine lv_if_eq (tgt := 1991) C.1.1.1 C.1.1.2.1 dL_law_1986 (by decide) (fun _ => ?_) (fun hz9 => absurd he hz9)
    refine lv_goto (tgt := 2325) C.1.1.1 C.1.1.2.1 dL_law_1991 (by decide) ?_
    exact W.widen (k := cs + 4) (n := sl + 24) (Nat.add_le_add_left (Nat.le_of_ble_eq_true rfl) _) (Nat.add_le_add_left (Nat.le_of_ble_eq_true rfl) _) (kk _ _ _ _ _ _ h6 X (lv_sub hl [2, 3, 4, 5, 6] rfl))
theorem LB_look (C : LCx p l s m args meth c D g g2 cI cB cZ cQ cS cJ aK aV aO b L xs Am Am2) (hi : Lin i L) (X : LX D g g2 cI cB cZ cQ cS cJ aK aO b L xs SX SM f s H locs) (hJ : J SX SM) (hl : lv_has ls 7 (Llv b (g 0) (g2 99) aO i)) (hc4 : cs + 4 ≤ 600002) (hs4 : sl + 24 ≤ 7302232) (h : Lw_look J) (kk : ∀ (H1 : Heap) (locs1 : List Loc) (ls1 : Array Slot) (SX1 SM1 : gS) (f1 : Nat → Int64), J SX1 SM1 → LX D g g2 cI cB cZ cQ cS cJ aK aO b L xs SX1 SM1 f1 s H1 locs1 → lv_has ls1 7 (Llv b (g 0) (g2 99) aO i) → W p l e room_1 s m args below meth c H1 locs1 (cs + 4) (sl + 24) Q (F0 m 2325 ls1 [])) : W p l e room_1 s m args below meth c H locs cs sl Q (F0 m 1994 ls []) := by
  obtain ⟨N, ox, M, om, h1, h2, h3, h4, h5, h6⟩ := h SX SM (xs (Int32.toNatClampNeg (i + 1))) hJ
  unfold Llv at hl
  refine lv_aload_n C.1.1.1 C.1.1.2.1 dL_law_1994 rfl (lv_at hl 3 rfl) ?_
  refine lv_aload_n C.1.1.1 C.1.1.2.1 dL_law_1995 rfl (lv_at hl 4 rfl) ?_
  refine lv_iload C.1.1.1 C.1.1.2.1 dL_law_1996 (lv_at hl 0 rfl) ?_
  refine lv_iconst C.1.1.1 C.1.1.2.1 dL_law_1998 rfl ?_
  refine lv_iadd C.1.1.1 C.1.1.2.1 dL_law_1999 ?_
  refine L_ld C X hi.2.1 dL_law_2000 ?_
  refine lv_aload_n C.1.1.1 C.1.1.2.1 dL_law_2001 rfl (lv_at hl 1 rfl) ?_
  refine L_callS C.2.2.2.2.2.1.1.1.1 C.2.2.2.2.2.2.1.1 C.2.2.2.2.1 C.1 C.2.2.1 C.2.2.2.1 X lw_look rfl (kL_look C.2.2.2.2.2.1 C.1.2.2.2.2.1 (fun k hk => (C.2.2.2.2.1.1 k hk).2.1) N (xs (Int32.toNatClampNeg (i + 1))) SX f ox h1 h3) (Nat.le_of_ble_eq_true rfl) (Nat.le_of_ble_eq_true rfl) (Nat.le_trans (Nat.add_le_add_left (Nat.le_of_ble_eq_true rfl) _) hc4) (Nat.le_trans (Nat.add_le_add_left (Nat.le_of_ble_eq_true rfl) _) hs4) rfl hl.1 rfl (Nat.le_of_ble_eq_true rfl) dL_law_2002 (fun H locs X => ?_)
  refine lv_istore C.1.1.1 C.1.1.2.1 dL_law_2005 hl (by decide) rfl (fun ls hl => ?_)
  refine lv_aload_n C.1.1.1 C.1.1.2.1 dL_law_2007 rfl (lv_at hl 3 rfl) ?_
  refine lv_aload_n C.1.1.1 C.1.1.2.1 dL_law_2008 rfl (lv_at hl 5 rfl) ?_
  refine lv_iload C.1.1.1 C.1.1.2.1 dL_law_2009 (lv_at hl 1 rfl) ?_
  refine lv_iconst C.1.1.1 C.1.1.2.1 dL_law_2011 rfl ?_
  refine lv_iadd C.1.1.1 C.1.1.2.1 dL_law_2012 ?_
  refine L_ld C X hi.2.1 dL_law_2013 ?_
  refine L_callM C.2.2.2.2.2.1.1.1.1 C.2.2.2.2.2.2.1.1 C.2.2.2.2.1 C.2.1 X xv_L_219 rfl (kX12_look C.2.2.2.2.2.2.1.1 C.2.1.2.2.2.2.1 M (xs (Int32.toNatClampNeg (i + 1))) SM om h2) (Nat.le_of_ble_eq_true rfl) (Nat.le_of_ble_eq_true rfl) (Nat.le_trans (Nat.add_le_add_left (Nat.le_of_ble_eq_true rfl) _) hc4) (Nat.le_trans (Nat.add_le_add_left (Nat.le_of_ble_eq_true rfl) _) hs4) rfl hl.1 rfl (Nat.le_of_ble_eq_true rfl) dL_law_2014 (fun H locs X => ?_)
  refine lv_istore C.1.1.1 C.1.1.2.1 dL_law_2017 hl (by decide) rfl (fun ls hl => ?_)
  refine lv_aload_n C.1.1.1 C.1.1.2.1 dL_law_2019 rfl (lv_at hl 4 rfl) ?_
  refine L_callM C.2.2.2.2.2.1.1.1.1 C.2.2.2.2.2.2.1.1 C.2.2.2.2.1 C.2.1 X xv_L_123 rfl (kX12_thrown C.2.2.2.2.2.2.1.1 C.2.1.2.2.2.2.1 0 om.2 (om.2 99 4, om.2) rfl) (Nat.le_of_ble_eq_true rfl) (Nat.le_of_ble_eq_true rfl) (Nat.le_trans (Nat.add_le_add_left (Nat.le_of_ble_eq_true rfl) _) hc4) (Nat.le_trans (Nat.add_le_add_left (Nat.le_of_ble_eq_true rfl) _) hs4) rfl hl.1 rfl (Nat.le_of_ble_eq_true rfl) dL_law_2020 (fun H locs X => ?_)
  refine lv_iload C.1.1.1 C.1.1.2.1 dL_law_2023 (lv_at hl 1 rfl) ?_
  refine lv_icmp_eq (tgt := 2030) C.1.1.1 C.1.1.2.1 dL_law_2025 (by decide) (fun _ => ?_) (fun hz => absurd h4 hz)
  refine lv_iload C.1.1.1 C.1.1.2.1 dL_law_2030 (lv_at hl 1 rfl) ?_
  refine lv_if_ne (tgt := 2047) C.1.1.1 C.1.1.2.1 dL_law_2032 (by decide) (fun _ => ?_) (fun hz0 => ?_)
  · refine lv_goto (tgt := 2325) C.1.1.1 C.1.1.2.1 dL_law_2047 (by decide) ?_
    exact W.widen (k := cs + 4) (n := sl + 24) (Nat.add_le_add_left (Nat.le_of_ble_eq_true rfl) _) (Nat.add_le_add_left (Nat.le_of_ble_eq_true rfl) _) (kk _ _ _ _ _ _ h6 X (lv_sub hl [2, 3, 4, 5, 6] rfl))
  · have hox := lcA0 hz0
    refine lv_aload_n C.1.1.1 C.1.1.2.1 dL_law_2035 rfl (lv_at hl 3 rfl) ?_
    refine lv_iconst C.1.1.1 C.1.1.2.1 dL_law_2036 rfl ?_
    refine va_lald C.1.1.1 C.1.1.2.1 C.2.2.1 X.2.2.1 0 0 rfl rfl (by unfold vp_in; decide) dL_law_2037 ?_
    refine lv_iload C.1.1.1 C.1.1.2.1 dL_law_2038 (lv_at hl 0 rfl) ?_
    refine lv_i2l C.1.1.1 C.1.1.2.1 dL_law_2040 rfl ?_
    refine W.lcmp C.1.1.1 C.1.1.2.1 dL_law_2041 ?_
    have he := lg_cmp0 ((lrow0 (f := f) hox).trans (congrArg Int32.toInt64 (h5 hox)))
    refine lv_if_eq (tgt := 2047) C.1.1.1 C.1.1.2.1 dL_law_2042 (by decide) (fun _ => ?_) (fun hz9 => absurd he hz9)
    refine lv_goto (tgt := 2325) C.1.1.1 C.1.1.2.1 dL_law_2047 (by decide) ?_
    exact W.widen (k := cs + 4) (n := sl + 24) (Nat.add_le_add_left (Nat.le_of_ble_eq_true rfl) _) (Nat.add_le_add_left (Nat.le_of_ble_eq_true rfl) _) (kk _ _ _ _ _ _ h6 X (lv_sub hl [2, 3, 4, 5, 6] rfl))
theorem LB_forget (C : LCx p l s m args meth c D g g2 cI cB cZ cQ cS cJ aK aV aO b L xs Am Am2) (hi : Lin i L) (X : LX D g g2 cI cB cZ cQ cS cJ aK aO b L xs SX SM f s H locs) (hJ : J SX SM) (hl : lv_has ls 7 (Llv b (g 0) (g2 99) aO i)) (hc4 : cs + 4 ≤ 600002) (hs4 : sl + 24 ≤ 7302232) (h : Lw_forget J) (kk : ∀ (H1 : Heap) (locs1 : List Loc) (ls1 : Array Slot) (SX1 SM1 : gS) (f1 : Nat → Int64), J SX1 SM1 → LX D g g2 cI cB cZ cQ cS cJ aK aO b L xs SX1 SM1 f1 s H1 locs1 → lv_has ls1 7 (Llv b (g 0) (g2 99) aO i) → W p l e room_1 s m args below meth c H1 locs1 (cs + 4) (sl + 24) Q (F0 m 2325 ls1 [])) : W p l e room_1 s m args below meth c H locs cs sl Q (F0 m 2050 ls []) := by
  obtain ⟨N, ox, M, om, h1, h2, h5, h6⟩ := h SX SM  hJ
  unfold Llv at hl
  refine lv_aload_n C.1.1.1 C.1.1.2.1 dL_law_2050 rfl (lv_at hl 3 rfl) ?_
  refine L_callX C.2.2.2.2.2.1.1.1.1 C.2.2.2.2.2.2.1.1 C.2.2.2.2.1 C.1 X xv_L_220 rfl (kX11_forget C.2.2.2.2.2.1.1.1 C.1.2.2.2.2.1 N  SX ox h1) (Nat.le_of_ble_eq_true rfl) (Nat.le_of_ble_eq_true rfl) (Nat.le_trans (Nat.le_add_right _ _) hc4) (Nat.le_trans (Nat.le_add_right _ _) hs4) rfl hl.1 rfl (Nat.le_of_ble_eq_true rfl) dL_law_2051 (fun H locs X => ?_)
  refine lv_aload_n C.1.1.1 C.1.1.2.1 dL_law_2054 rfl (lv_at hl 2 rfl) ?_
  refine L_callM C.2.2.2.2.2.1.1.1.1 C.2.2.2.2.2.2.1.1 C.2.2.2.2.1 C.2.1 X xv_L_223 rfl (kX12_forget C.2.2.2.2.2.2.1.1 C.2.1.2.2.2.2.1 M  SM om h2) (Nat.le_of_ble_eq_true rfl) (Nat.le_of_ble_eq_true rfl) (Nat.le_trans (Nat.le_add_right _ _) hc4) (Nat.le_trans (Nat.le_add_right _ _) hs4) rfl hl.1 rfl (Nat.le_of_ble_eq_true rfl) dL_law_2055 (fun H locs X => ?_)
  refine lv_goto (tgt := 2325) C.1.1.1 C.1.1.2.1 dL_law_2058 (by decide) ?_
  exact W.widen (k := cs + 4) (n := sl + 24) (Nat.le_add_right _ _) (Nat.le_add_right _ _) (kk _ _ _ _ _ _ h6 X (lv_sub hl [0, 1, 2, 3, 4] rfl))
theorem LB_drought (C : LCx p l s m args meth c D g g2 cI cB cZ cQ cS cJ aK aV aO b L xs Am Am2) (hi : Lin i L) (X : LX D g g2 cI cB cZ cQ cS cJ aK aO b L xs SX SM f s H locs) (hJ : J0 SX SM) (hl : lv_has ls 7 (Llv b (g 0) (g2 99) aO i)) (hc4 : cs + 4 ≤ 600002) (hs4 : sl + 24 ≤ 7302232) (h : Lw_drought J0 J) (kk : ∀ (H1 : Heap) (locs1 : List Loc) (ls1 : Array Slot) (SX1 SM1 : gS) (f1 : Nat → Int64), J SX1 SM1 → LX D g g2 cI cB cZ cQ cS cJ aK aO b L xs SX1 SM1 f1 s H1 locs1 → lv_has ls1 7 (Llv b (g 0) (g2 99) aO i) → W p l e room_1 s m args below meth c H1 locs1 (cs + 4) (sl + 24) Q (F0 m 2325 ls1 [])) : W p l e room_1 s m args below meth c H locs cs sl Q (F0 m 2061 ls []) := by
  obtain ⟨N, ox, M, om, h1, h2, h3, h4, h5, h6⟩ := h SX SM (xs (Int32.toNatClampNeg (i + 1))) (xs (Int32.toNatClampNeg (i + 2))) (xs (Int32.toNatClampNeg (i + 3))) hJ
  unfold Llv at hl
  refine lv_aload_n C.1.1.1 C.1.1.2.1 dL_law_2061 rfl (lv_at hl 3 rfl) ?_
  refine lv_aload_n C.1.1.1 C.1.1.2.1 dL_law_2062 rfl (lv_at hl 4 rfl) ?_
  refine lv_iload C.1.1.1 C.1.1.2.1 dL_law_2063 (lv_at hl 0 rfl) ?_
  refine lv_iconst C.1.1.1 C.1.1.2.1 dL_law_2065 rfl ?_
  refine lv_iadd C.1.1.1 C.1.1.2.1 dL_law_2066 ?_
  refine L_ld C X hi.2.1 dL_law_2067 ?_
  refine lv_aload_n C.1.1.1 C.1.1.2.1 dL_law_2068 rfl (lv_at hl 4 rfl) ?_
  refine lv_iload C.1.1.1 C.1.1.2.1 dL_law_2069 (lv_at hl 0 rfl) ?_
  refine lv_iconst C.1.1.1 C.1.1.2.1 dL_law_2071 rfl ?_
  refine lv_iadd C.1.1.1 C.1.1.2.1 dL_law_2072 ?_
  refine L_ld C X hi.2.2.1 dL_law_2073 ?_
  refine lv_aload_n C.1.1.1 C.1.1.2.1 dL_law_2074 rfl (lv_at hl 4 rfl) ?_
  refine lv_iload C.1.1.1 C.1.1.2.1 dL_law_2075 (lv_at hl 0 rfl) ?_
  refine lv_iconst C.1.1.1 C.1.1.2.1 dL_law_2077 rfl ?_
  refine lv_iadd C.1.1.1 C.1.1.2.1 dL_law_2078 ?_
  refine L_ld C X hi.2.2.2.1 dL_law_2079 ?_
  refine lv_aload_n C.1.1.1 C.1.1.2.1 dL_law_2080 rfl (lv_at hl 1 rfl) ?_
  refine L_callS C.2.2.2.2.2.1.1.1.1 C.2.2.2.2.2.2.1.1 C.2.2.2.2.1 C.1 C.2.2.1 C.2.2.2.1 X lw_drought rfl (kL_drought C.2.2.2.2.2.1 C.1.2.2.2.2.1 (fun k hk => (C.2.2.2.2.1.1 k hk).2.1) N (xs (Int32.toNatClampNeg (i + 1))) (xs (Int32.toNatClampNeg (i + 2))) (xs (Int32.toNatClampNeg (i + 3))) SX f ox h1 h3) (Nat.le_of_ble_eq_true rfl) (Nat.le_of_ble_eq_true rfl) (Nat.le_trans (Nat.add_le_add_left (Nat.le_of_ble_eq_true rfl) _) hc4) (Nat.le_trans (Nat.add_le_add_left (Nat.le_of_ble_eq_true rfl) _) hs4) rfl hl.1 rfl (Nat.le_of_ble_eq_true rfl) dL_law_2081 (fun H locs X => ?_)
  refine lv_istore C.1.1.1 C.1.1.2.1 dL_law_2084 hl (by decide) rfl (fun ls hl => ?_)
  refine lv_aload_n C.1.1.1 C.1.1.2.1 dL_law_2086 rfl (lv_at hl 3 rfl) ?_
  refine lv_aload_n C.1.1.1 C.1.1.2.1 dL_law_2087 rfl (lv_at hl 5 rfl) ?_
  refine lv_iload C.1.1.1 C.1.1.2.1 dL_law_2088 (lv_at hl 1 rfl) ?_
  refine lv_iconst C.1.1.1 C.1.1.2.1 dL_law_2090 rfl ?_
  refine lv_iadd C.1.1.1 C.1.1.2.1 dL_law_2091 ?_
  refine L_ld C X hi.2.1 dL_law_2092 ?_
  refine lv_aload_n C.1.1.1 C.1.1.2.1 dL_law_2093 rfl (lv_at hl 5 rfl) ?_
  refine lv_iload C.1.1.1 C.1.1.2.1 dL_law_2094 (lv_at hl 1 rfl) ?_
  refine lv_iconst C.1.1.1 C.1.1.2.1 dL_law_2096 rfl ?_
  refine lv_iadd C.1.1.1 C.1.1.2.1 dL_law_2097 ?_
  refine L_ld C X hi.2.2.1 dL_law_2098 ?_
  refine lv_aload_n C.1.1.1 C.1.1.2.1 dL_law_2099 rfl (lv_at hl 5 rfl) ?_
  refine lv_iload C.1.1.1 C.1.1.2.1 dL_law_2100 (lv_at hl 1 rfl) ?_
  refine lv_iconst C.1.1.1 C.1.1.2.1 dL_law_2102 rfl ?_
  refine lv_iadd C.1.1.1 C.1.1.2.1 dL_law_2103 ?_
  refine L_ld C X hi.2.2.2.1 dL_law_2104 ?_
  refine L_callM C.2.2.2.2.2.1.1.1.1 C.2.2.2.2.2.2.1.1 C.2.2.2.2.1 C.2.1 X xv_L_226 rfl (kX12_drought C.2.2.2.2.2.2.1.1 C.2.1.2.2.2.2.1 M (xs (Int32.toNatClampNeg (i + 1))) (xs (Int32.toNatClampNeg (i + 2))) (xs (Int32.toNatClampNeg (i + 3))) SM om h2) (Nat.le_of_ble_eq_true rfl) (Nat.le_of_ble_eq_true rfl) (Nat.le_trans (Nat.add_le_add_left (Nat.le_of_ble_eq_true rfl) _) hc4) (Nat.le_trans (Nat.add_le_add_left (Nat.le_of_ble_eq_true rfl) _) hs4) rfl hl.1 rfl (Nat.le_of_ble_eq_true rfl) dL_law_2105 (fun H locs X => ?_)
  refine lv_istore C.1.1.1 C.1.1.2.1 dL_law_2108 hl (by decide) rfl (fun ls hl => ?_)
  refine lv_aload_n C.1.1.1 C.1.1.2.1 dL_law_2110 rfl (lv_at hl 4 rfl) ?_
  refine L_callM C.2.2.2.2.2.1.1.1.1 C.2.2.2.2.2.2.1.1 C.2.2.2.2.1 C.2.1 X xv_L_123 rfl (kX12_thrown C.2.2.2.2.2.2.1.1 C.2.1.2.2.2.2.1 0 om.2 (om.2 99 4, om.2) rfl) (Nat.le_of_ble_eq_true rfl) (Nat.le_of_ble_eq_true rfl) (Nat.le_trans (Nat.add_le_add_left (Nat.le_of_ble_eq_true rfl) _) hc4) (Nat.le_trans (Nat.add_le_add_left (Nat.le_of_ble_eq_true rfl) _) hs4) rfl hl.1 rfl (Nat.le_of_ble_eq_true rfl) dL_law_2111 (fun H locs X => ?_)
  refine lv_iload C.1.1.1 C.1.1.2.1 dL_law_2114 (lv_at hl 1 rfl) ?_
  refine lv_icmp_eq (tgt := 2121) C.1.1.1 C.1.1.2.1 dL_law_2116 (by decide) (fun _ => ?_) (fun hz => absurd h4 hz)
  refine lv_iload C.1.1.1 C.1.1.2.1 dL_law_2121 (lv_at hl 1 rfl) ?_
  refine lv_if_ne (tgt := 2138) C.1.1.1 C.1.1.2.1 dL_law_2123 (by decide) (fun _ => ?_) (fun hz0 => ?_)
  · refine lv_goto (tgt := 2325) C.1.1.1 C.1.1.2.1 dL_law_2138 (by decide) ?_
    exact W.widen (k := cs + 4) (n := sl + 24) (Nat.add_le_add_left (Nat.le_of_ble_eq_true rfl) _) (Nat.add_le_add_left (Nat.le_of_ble_eq_true rfl) _) (kk _ _ _ _ _ _ h6 X (lv_sub hl [2, 3, 4, 5, 6] rfl))
  · have hox := lcC0 hz0
    refine lv_aload_n C.1.1.1 C.1.1.2.1 dL_law_2126 rfl (lv_at hl 3 rfl) ?_
    refine lv_iconst C.1.1.1 C.1.1.2.1 dL_law_2127 rfl ?_
    refine va_lald C.1.1.1 C.1.1.2.1 C.2.2.1 X.2.2.1 0 0 rfl rfl (by unfold vp_in; decide) dL_law_2128 ?_
    refine lv_iload C.1.1.1 C.1.1.2.1 dL_law_2129 (lv_at hl 0 rfl) ?_
    refine lv_i2l C.1.1.1 C.1.1.2.1 dL_law_2131 rfl ?_
    refine W.lcmp C.1.1.1 C.1.1.2.1 dL_law_2132 ?_
    have he := lg_cmp0 ((lrow0 (f := f) hox).trans (congrArg Int32.toInt64 (h5 hox)))
    refine lv_if_eq (tgt := 2138) C.1.1.1 C.1.1.2.1 dL_law_2133 (by decide) (fun _ => ?_) (fun hz9 => absurd he hz9)
    refine lv_goto (tgt := 2325) C.1.1.1 C.1.1.2.1 dL_law_2138 (by decide) ?_
    exact W.widen (k := cs + 4) (n := sl + 24) (Nat.add_le_add_left (Nat.le_of_ble_eq_true rfl) _) (Nat.add_le_add_left (Nat.le_of_ble_eq_true rfl) _) (kk _ _ _ _ _ _ h6 X (lv_sub hl [2, 3, 4, 5, 6] rfl))
theorem LB_game (C : LCx p l s m args meth c D g g2 cI cB cZ cQ cS cJ aK aV aO b L xs Am Am2) (hi : Lin i L) (X : LX D g g2 cI cB cZ cQ cS cJ aK aO b L xs SX SM f s H locs) (hJ : J SX SM) (hl : lv_has ls 7 (Llv b (g 0) (g2 99) aO i)) (hc4 : cs + 4 ≤ 600002) (hs4 : sl + 24 ≤ 7302232) (h : Lw_game J) (kk : ∀ (H1 : Heap) (locs1 : List Loc) (ls1 : Array Slot) (SX1 SM1 : gS) (f1 : Nat → Int64), J SX1 SM1 → LX D g g2 cI cB cZ cQ cS cJ aK aO b L xs SX1 SM1 f1 s H1 locs1 → lv_has ls1 7 (Llv b (g 0) (g2 99) aO i) → W p l e room_1 s m args below meth c H1 locs1 (cs + 4) (sl + 24) Q (F0 m 2325 ls1 [])) : W p l e room_1 s m args below meth c H locs cs sl Q (F0 m 2141 ls []) := by
  obtain ⟨N, ox, M, om, h1, h2, h3, h4, h5, h6⟩ := h SX SM (xs (Int32.toNatClampNeg (i + 1))) (xs (Int32.toNatClampNeg (i + 2))) (xs (Int32.toNatClampNeg (i + 3))) hJ
  unfold Llv at hl
  refine lv_aload_n C.1.1.1 C.1.1.2.1 dL_law_2141 rfl (lv_at hl 3 rfl) ?_
  refine lv_aload_n C.1.1.1 C.1.1.2.1 dL_law_2142 rfl (lv_at hl 4 rfl) ?_
  refine lv_iload C.1.1.1 C.1.1.2.1 dL_law_2143 (lv_at hl 0 rfl) ?_
  refine lv_iconst C.1.1.1 C.1.1.2.1 dL_law_2145 rfl ?_
  refine lv_iadd C.1.1.1 C.1.1.2.1 dL_law_2146 ?_
  refine L_ld C X hi.2.1 dL_law_2147 ?_
  refine lv_aload_n C.1.1.1 C.1.1.2.1 dL_law_2148 rfl (lv_at hl 4 rfl) ?_
  refine lv_iload C.1.1.1 C.1.1.2.1 dL_law_2149 (lv_at hl 0 rfl) ?_
  refine lv_iconst C.1.1.1 C.1.1.2.1 dL_law_2151 rfl ?_
  refine lv_iadd C.1.1.1 C.1.1.2.1 dL_law_2152 ?_
  refine L_ld C X hi.2.2.1 dL_law_2153 ?_
  refine lv_aload_n C.1.1.1 C.1.1.2.1 dL_law_2154 rfl (lv_at hl 4 rfl) ?_
  refine lv_iload C.1.1.1 C.1.1.2.1 dL_law_2155 (lv_at hl 0 rfl) ?_
  refine lv_iconst C.1.1.1 C.1.1.2.1 dL_law_2157 rfl ?_
  refine lv_iadd C.1.1.1 C.1.1.2.1 dL_law_2158 ?_
  refine L_ld C X hi.2.2.2.1 dL_law_2159 ?_
  refine lv_aload_n C.1.1.1 C.1.1.2.1 dL_law_2160 rfl (lv_at hl 1 rfl) ?_
  refine L_callS C.2.2.2.2.2.1.1.1.1 C.2.2.2.2.2.2.1.1 C.2.2.2.2.1 C.1 C.2.2.1 C.2.2.2.1 X lw_game rfl (kL_game C.2.2.2.2.2.1 C.1.2.2.2.2.1 (fun k hk => (C.2.2.2.2.1.1 k hk).2.1) N (xs (Int32.toNatClampNeg (i + 1))) (xs (Int32.toNatClampNeg (i + 2))) (xs (Int32.toNatClampNeg (i + 3))) SX f ox h1 h3) (Nat.le_of_ble_eq_true rfl) (Nat.le_of_ble_eq_true rfl) (Nat.le_trans (Nat.add_le_add_left (Nat.le_of_ble_eq_true rfl) _) hc4) (Nat.le_trans (Nat.add_le_add_left (Nat.le_of_ble_eq_true rfl) _) hs4) rfl hl.1 rfl (Nat.le_of_ble_eq_true rfl) dL_law_2161 (fun H locs X => ?_)
  refine lv_istore C.1.1.1 C.1.1.2.1 dL_law_2164 hl (by decide) rfl (fun ls hl => ?_)
  refine lv_aload_n C.1.1.1 C.1.1.2.1 dL_law_2166 rfl (lv_at hl 3 rfl) ?_
  refine lv_aload_n C.1.1.1 C.1.1.2.1 dL_law_2167 rfl (lv_at hl 5 rfl) ?_
  refine lv_iload C.1.1.1 C.1.1.2.1 dL_law_2168 (lv_at hl 1 rfl) ?_
  refine lv_iconst C.1.1.1 C.1.1.2.1 dL_law_2170 rfl ?_
  refine lv_iadd C.1.1.1 C.1.1.2.1 dL_law_2171 ?_
  refine L_ld C X hi.2.1 dL_law_2172 ?_
  refine lv_aload_n C.1.1.1 C.1.1.2.1 dL_law_2173 rfl (lv_at hl 5 rfl) ?_
  refine lv_iload C.1.1.1 C.1.1.2.1 dL_law_2174 (lv_at hl 1 rfl) ?_
  refine lv_iconst C.1.1.1 C.1.1.2.1 dL_law_2176 rfl ?_
  refine lv_iadd C.1.1.1 C.1.1.2.1 dL_law_2177 ?_
  refine L_ld C X hi.2.2.1 dL_law_2178 ?_
  refine lv_aload_n C.1.1.1 C.1.1.2.1 dL_law_2179 rfl (lv_at hl 5 rfl) ?_
  refine lv_iload C.1.1.1 C.1.1.2.1 dL_law_2180 (lv_at hl 1 rfl) ?_
  refine lv_iconst C.1.1.1 C.1.1.2.1 dL_law_2182 rfl ?_
  refine lv_iadd C.1.1.1 C.1.1.2.1 dL_law_2183 ?_
  refine L_ld C X hi.2.2.2.1 dL_law_2184 ?_
  refine L_callM C.2.2.2.2.2.1.1.1.1 C.2.2.2.2.2.2.1.1 C.2.2.2.2.1 C.2.1 X xv_L_229 rfl (kX12_game C.2.2.2.2.2.2.1.1 C.2.1.2.2.2.2.1 M (xs (Int32.toNatClampNeg (i + 1))) (xs (Int32.toNatClampNeg (i + 2))) (xs (Int32.toNatClampNeg (i + 3))) SM om h2) (Nat.le_of_ble_eq_true rfl) (Nat.le_of_ble_eq_true rfl) (Nat.le_trans (Nat.add_le_add_left (Nat.le_of_ble_eq_true rfl) _) hc4) (Nat.le_trans (Nat.add_le_add_left (Nat.le_of_ble_eq_true rfl) _) hs4) rfl hl.1 rfl (Nat.le_of_ble_eq_true rfl) dL_law_2185 (fun H locs X => ?_)
  refine lv_istore C.1.1.1 C.1.1.2.1 dL_law_2188 hl (by decide) rfl (fun ls hl => ?_)
  refine lv_aload_n C.1.1.1 C.1.1.2.1 dL_law_2190 rfl (lv_at hl 4 rfl) ?_
  refine L_callM C.2.2.2.2.2.1.1.1.1 C.2.2.2.2.2.2.1.1 C.2.2.2.2.1 C.2.1 X xv_L_123 rfl (kX12_thrown C.2.2.2.2.2.2.1.1 C.2.1.2.2.2.2.1 0 om.2 (om.2 99 4, om.2) rfl) (Nat.le_of_ble_eq_true rfl) (Nat.le_of_ble_eq_true rfl) (Nat.le_trans (Nat.add_le_add_left (Nat.le_of_ble_eq_true rfl) _) hc4) (Nat.le_trans (Nat.add_le_add_left (Nat.le_of_ble_eq_true rfl) _) hs4) rfl hl.1 rfl (Nat.le_of_ble_eq_true rfl) dL_law_2191 (fun H locs X => ?_)
  refine lv_iload C.1.1.1 C.1.1.2.1 dL_law_2194 (lv_at hl 1 rfl) ?_
  refine lv_icmp_eq (tgt := 2201) C.1.1.1 C.1.1.2.1 dL_law_2196 (by decide) (fun _ => ?_) (fun hz => absurd h4 hz)
  refine lv_iload C.1.1.1 C.1.1.2.1 dL_law_2201 (lv_at hl 1 rfl) ?_
  refine lv_if_ne (tgt := 2218) C.1.1.1 C.1.1.2.1 dL_law_2203 (by decide) (fun _ => ?_) (fun hz0 => ?_)
  · refine lv_goto (tgt := 2325) C.1.1.1 C.1.1.2.1 dL_law_2218 (by decide) ?_
    exact W.widen (k := cs + 4) (n := sl + 24) (Nat.add_le_add_left (Nat.le_of_ble_eq_true rfl) _) (Nat.add_le_add_left (Nat.le_of_ble_eq_true rfl) _) (kk _ _ _ _ _ _ h6 X (lv_sub hl [2, 3, 4, 5, 6] rfl))
  · have hox := lcC0 hz0
    refine lv_aload_n C.1.1.1 C.1.1.2.1 dL_law_2206 rfl (lv_at hl 3 rfl) ?_
    refine lv_iconst C.1.1.1 C.1.1.2.1 dL_law_2207 rfl ?_
    refine va_lald C.1.1.1 C.1.1.2.1 C.2.2.1 X.2.2.1 0 0 rfl rfl (by unfold vp_in; decide) dL_law_2208 ?_
    refine lv_iload C.1.1.1 C.1.1.2.1 dL_law_2209 (lv_at hl 0 rfl) ?_
    refine lv_i2l C.1.1.1 C.1.1.2.1 dL_law_2211 rfl ?_
    refine W.lcmp C.1.1.1 C.1.1.2.1 dL_law_2212 ?_
    have he := lg_cmp0 ((lrow0 (f := f) hox).trans (congrArg Int32.toInt64 (h5 hox)))
    refine lv_if_eq (tgt := 2218) C.1.1.1 C.1.1.2.1 dL_law_2213 (by decide) (fun _ => ?_) (fun hz9 => absurd he hz9)
    refine lv_goto (tgt := 2325) C.1.1.1 C.1.1.2.1 dL_law_2218 (by decide) ?_
    exact W.widen (k := cs + 4) (n := sl + 24) (Nat.add_le_add_left (Nat.le_of_ble_eq_true rfl) _) (Nat.add_le_add_left (Nat.le_of_ble_eq_true rfl) _) (kk _ _ _ _ _ _ h6 X (lv_sub hl [2, 3, 4, 5, 6] rfl))
theorem LB_years (C : LCx p l s m args meth c D g g2 cI cB cZ cQ cS cJ aK aV aO b L xs Am Am2) (hi : Lin i L) (X : LX D g g2 cI cB cZ cQ cS cJ aK aO b L xs SX SM f s H locs) (hJ : J SX SM) (hl : lv_has ls 7 (Llv b (g 0) (g2 99) aO i)) (hc4 : cs + 4 ≤ 600002) (hs4 : sl + 24 ≤ 7302232) (h : Lw_years J) (kk : ∀ (H1 : Heap) (locs1 : List Loc) (ls1 : Array Slot) (SX1 SM1 : gS) (f1 : Nat → Int64), J SX1 SM1 → LX D g g2 cI cB cZ cQ cS cJ aK aO b L xs SX1 SM1 f1 s H1 locs1 → lv_has ls1 7 (Llv b (g 0) (g2 99) aO i) → W p l e room_1 s m args below meth c H1 locs1 (cs + 4) (sl + 24) Q (F0 m 2325 ls1 [])) : W p l e room_1 s m args below meth c H locs cs sl Q (F0 m 2221 ls []) := by
  obtain ⟨N, ox, M, om, h1, h2, h3, h4, h5, h6⟩ := h SX SM (xs (Int32.toNatClampNeg (i + 1))) (xs (Int32.toNatClampNeg (i + 2))) (xs (Int32.toNatClampNeg (i + 3))) hJ
  unfold Llv at hl
  refine lv_aload_n C.1.1.1 C.1.1.2.1 dL_law_2221 rfl (lv_at hl 3 rfl) ?_
  refine lv_aload_n C.1.1.1 C.1.1.2.1 dL_law_2222 rfl (lv_at hl 4 rfl) ?_
  refine lv_iload C.1.1.1 C.1.1.2.1 dL_law_2223 (lv_at hl 0 rfl) ?_
  refine lv_iconst C.1.1.1 C.1.1.2.1 dL_law_2225 rfl ?_
  refine lv_iadd C.1.1.1 C.1.1.2.1 dL_law_2226 ?_
  refine L_ld C X hi.2.1 dL_law_2227 ?_
  refine lv_aload_n C.1.1.1 C.1.1.2.1 dL_law_2228 rfl (lv_at hl 4 rfl) ?_
  refine lv_iload C.1.1.1 C.1.1.2.1 dL_law_2229 (lv_at hl 0 rfl) ?_
  refine lv_iconst C.1.1.1 C.1.1.2.1 dL_law_2231 rfl ?_
  refine lv_iadd C.1.1.1 C.1.1.2.1 dL_law_2232 ?_
  refine L_ld C X hi.2.2.1 dL_law_2233 ?_
  refine lv_aload_n C.1.1.1 C.1.1.2.1 dL_law_2234 rfl (lv_at hl 4 rfl) ?_
  refine lv_iload C.1.1.1 C.1.1.2.1 dL_law_2235 (lv_at hl 0 rfl) ?_
  refine lv_iconst C.1.1.1 C.1.1.2.1 dL_law_2237 rfl ?_
  refine lv_iadd C.1.1.1 C.1.1.2.1 dL_law_2238 ?_
  refine L_ld C X hi.2.2.2.1 dL_law_2239 ?_
  refine lv_aload_n C.1.1.1 C.1.1.2.1 dL_law_2240 rfl (lv_at hl 1 rfl) ?_
  refine L_callS C.2.2.2.2.2.1.1.1.1 C.2.2.2.2.2.2.1.1 C.2.2.2.2.1 C.1 C.2.2.1 C.2.2.2.1 X lw_years rfl (kL_years C.2.2.2.2.2.1 C.1.2.2.2.2.1 (fun k hk => (C.2.2.2.2.1.1 k hk).2.1) N (xs (Int32.toNatClampNeg (i + 1))) (xs (Int32.toNatClampNeg (i + 2))) (xs (Int32.toNatClampNeg (i + 3))) SX f ox h1 h3) (Nat.le_of_ble_eq_true rfl) (Nat.le_of_ble_eq_true rfl) (Nat.le_trans (Nat.add_le_add_left (Nat.le_of_ble_eq_true rfl) _) hc4) (Nat.le_trans (Nat.add_le_add_left (Nat.le_of_ble_eq_true rfl) _) hs4) rfl hl.1 rfl (Nat.le_of_ble_eq_true rfl) dL_law_2241 (fun H locs X => ?_)
  refine lv_istore C.1.1.1 C.1.1.2.1 dL_law_2244 hl (by decide) rfl (fun ls hl => ?_)
  refine lv_aload_n C.1.1.1 C.1.1.2.1 dL_law_2246 rfl (lv_at hl 3 rfl) ?_
  refine lv_aload_n C.1.1.1 C.1.1.2.1 dL_law_2247 rfl (lv_at hl 5 rfl) ?_
  refine lv_iload C.1.1.1 C.1.1.2.1 dL_law_2248 (lv_at hl 1 rfl) ?_
  refine lv_iconst C.1.1.1 C.1.1.2.1 dL_law_2250 rfl ?_
  refine lv_iadd C.1.1.1 C.1.1.2.1 dL_law_2251 ?_
  refine L_ld C X hi.2.1 dL_law_2252 ?_
  refine lv_aload_n C.1.1.1 C.1.1.2.1 dL_law_2253 rfl (lv_at hl 5 rfl) ?_
  refine lv_iload C.1.1.1 C.1.1.2.1 dL_law_2254 (lv_at hl 1 rfl) ?_
  refine lv_iconst C.1.1.1 C.1.1.2.1 dL_law_2256 rfl ?_
  refine lv_iadd C.1.1.1 C.1.1.2.1 dL_law_2257 ?_
  refine L_ld C X hi.2.2.1 dL_law_2258 ?_
  refine lv_aload_n C.1.1.1 C.1.1.2.1 dL_law_2259 rfl (lv_at hl 5 rfl) ?_
  refine lv_iload C.1.1.1 C.1.1.2.1 dL_law_2260 (lv_at hl 1 rfl) ?_
  refine lv_iconst C.1.1.1 C.1.1.2.1 dL_law_2262 rfl ?_
  refine lv_iadd C.1.1.1 C.1.1.2.1 dL_law_2263 ?_
  refine L_ld C X hi.2.2.2.1 dL_law_2264 ?_
  refine L_callM C.2.2.2.2.2.1.1.1.1 C.2.2.2.2.2.2.1.1 C.2.2.2.2.1 C.2.1 X xv_L_232 rfl (kX12_years C.2.2.2.2.2.2.1.1 C.2.1.2.2.2.2.1 M (xs (Int32.toNatClampNeg (i + 1))) (xs (Int32.toNatClampNeg (i + 2))) (xs (Int32.toNatClampNeg (i + 3))) SM om h2) (Nat.le_of_ble_eq_true rfl) (Nat.le_of_ble_eq_true rfl) (Nat.le_trans (Nat.add_le_add_left (Nat.le_of_ble_eq_true rfl) _) hc4) (Nat.le_trans (Nat.add_le_add_left (Nat.le_of_ble_eq_true rfl) _) hs4) rfl hl.1 rfl (Nat.le_of_ble_eq_true rfl) dL_law_2265 (fun H locs X => ?_)
  refine lv_istore C.1.1.1 C.1.1.2.1 dL_law_2268 hl (by decide) rfl (fun ls hl => ?_)
  refine lv_aload_n C.1.1.1 C.1.1.2.1 dL_law_2270 rfl (lv_at hl 4 rfl) ?_
  refine L_callM C.2.2.2.2.2.1.1.1.1 C.2.2.2.2.2.2.1.1 C.2.2.2.2.1 C.2.1 X xv_L_123 rfl (kX12_thrown C.2.2.2.2.2.2.1.1 C.2.1.2.2.2.2.1 0 om.2 (om.2 99 4, om.2) rfl) (Nat.le_of_ble_eq_true rfl) (Nat.le_of_ble_eq_true rfl) (Nat.le_trans (Nat.add_le_add_left (Nat.le_of_ble_eq_true rfl) _) hc4) (Nat.le_trans (Nat.add_le_add_left (Nat.le_of_ble_eq_true rfl) _) hs4) rfl hl.1 rfl (Nat.le_of_ble_eq_true rfl) dL_law_2271 (fun H locs X => ?_)
  refine lv_iload C.1.1.1 C.1.1.2.1 dL_law_2274 (lv_at hl 1 rfl) ?_
  refine lv_icmp_eq (tgt := 2281) C.1.1.1 C.1.1.2.1 dL_law_2276 (by decide) (fun _ => ?_) (fun hz => absurd h4 hz)
  refine lv_iload C.1.1.1 C.1.1.2.1 dL_law_2281 (lv_at hl 1 rfl) ?_
  refine lv_if_ne (tgt := 2298) C.1.1.1 C.1.1.2.1 dL_law_2283 (by decide) (fun _ => ?_) (fun hz0 => ?_)
  · refine lv_goto (tgt := 2325) C.1.1.1 C.1.1.2.1 dL_law_2298 (by decide) ?_
    exact W.widen (k := cs + 4) (n := sl + 24) (Nat.add_le_add_left (Nat.le_of_ble_eq_true rfl) _) (Nat.add_le_add_left (Nat.le_of_ble_eq_true rfl) _) (kk _ _ _ _ _ _ h6 X (lv_sub hl [2, 3, 4, 5, 6] rfl))
  · have hox := lcC0 hz0
    refine lv_aload_n C.1.1.1 C.1.1.2.1 dL_law_2286 rfl (lv_at hl 3 rfl) ?_
    refine lv_iconst C.1.1.1 C.1.1.2.1 dL_law_2287 rfl ?_
    refine va_lald C.1.1.1 C.1.1.2.1 C.2.2.1 X.2.2.1 0 0 rfl rfl (by unfold vp_in; decide) dL_law_2288 ?_
    refine lv_iload C.1.1.1 C.1.1.2.1 dL_law_2289 (lv_at hl 0 rfl) ?_
    refine lv_i2l C.1.1.1 C.1.1.2.1 dL_law_2291 rfl ?_
    refine W.lcmp C.1.1.1 C.1.1.2.1 dL_law_2292 ?_
    have he := lg_cmp0 ((lrow0 (f := f) hox).trans (congrArg Int32.toInt64 (h5 hox)))
    refine lv_if_eq (tgt := 2298) C.1.1.1 C.1.1.2.1 dL_law_2293 (by decide) (fun _ => ?_) (fun hz9 => absurd he hz9)
    refine lv_goto (tgt := 2325) C.1.1.1 C.1.1.2.1 dL_law_2298 (by decide) ?_
    exact W.widen (k := cs + 4) (n := sl + 24) (Nat.add_le_add_left (Nat.le_of_ble_eq_true rfl) _) (Nat.add_le_add_left (Nat.le_of_ble_eq_true rfl) _) (kk _ _ _ _ _ _ h6 X (lv_sub hl [2, 3, 4, 5, 6] rfl))
theorem LB_image (C : LCx p l s m args meth c D g g2 cI cB cZ cQ cS cJ aK aV aO b L xs Am Am2) (hi : Lin i L) (X : LX D g g2 cI cB cZ cQ cS cJ aK aO b L xs SX SM f s H locs) (hJ : J SX SM) (hl : lv_has ls 7 (Llv b (g 0) (g2 99) aO i)) (hc4 : cs + 4 ≤ 600002) (hs4 : sl + 24 ≤ 7302232) (h : Lw_image J) (kk : ∀ (H1 : Heap) (locs1 : List Loc) (ls1 : Array Slot) (SX1 SM1 : gS) (f1 : Nat → Int64), J SX1 SM1 → LX D g g2 cI cB cZ cQ cS cJ aK aO b L xs SX1 SM1 f1 s H1 locs1 → lv_has ls1 7 (Llv b (g 0) (g2 99) aO i) → W p l e room_1 s m args below meth c H1 locs1 (cs + 4) (sl + 24) Q (F0 m 2325 ls1 [])) : W p l e room_1 s m args below meth c H locs cs sl Q (F0 m 2301 ls []) := by
  obtain ⟨N, ox, M, om, h1, h2, h5, h6⟩ := h SX SM  hJ
  unfold Llv at hl
  refine lv_aload_n C.1.1.1 C.1.1.2.1 dL_law_2301 rfl (lv_at hl 3 rfl) ?_
  refine L_callX C.2.2.2.2.2.1.1.1.1 C.2.2.2.2.2.2.1.1 C.2.2.2.2.1 C.1 X xv_L_233 rfl (kX11_image C.2.2.2.2.2.1.1 C.1.2.2.2.2.1 N  SX ox h1) (Nat.le_of_ble_eq_true rfl) (Nat.le_of_ble_eq_true rfl) (Nat.le_trans (Nat.le_add_right _ _) hc4) (Nat.le_trans (Nat.le_add_right _ _) hs4) rfl hl.1 rfl (Nat.le_of_ble_eq_true rfl) dL_law_2302 (fun H locs X => ?_)
  refine lv_aload_n C.1.1.1 C.1.1.2.1 dL_law_2305 rfl (lv_at hl 2 rfl) ?_
  refine L_callM C.2.2.2.2.2.1.1.1.1 C.2.2.2.2.2.2.1.1 C.2.2.2.2.1 C.2.1 X xv_L_236 rfl (kX12_image C.2.2.2.2.2.2.1.1 C.2.1.2.2.2.2.1 M  SM om h2) (Nat.le_of_ble_eq_true rfl) (Nat.le_of_ble_eq_true rfl) (Nat.le_trans (Nat.le_add_right _ _) hc4) (Nat.le_trans (Nat.le_add_right _ _) hs4) rfl hl.1 rfl (Nat.le_of_ble_eq_true rfl) dL_law_2306 (fun H locs X => ?_)
  refine lv_goto (tgt := 2325) C.1.1.1 C.1.1.2.1 dL_law_2309 (by decide) ?_
  exact W.widen (k := cs + 4) (n := sl + 24) (Nat.le_add_right _ _) (Nat.le_add_right _ _) (kk _ _ _ _ _ _ h6 X (lv_sub hl [0, 1, 2, 3, 4] rfl))
theorem LB_restore (C : LCx p l s m args meth c D g g2 cI cB cZ cQ cS cJ aK aV aO b L xs Am Am2) (hi : Lin i L) (X : LX D g g2 cI cB cZ cQ cS cJ aK aO b L xs SX SM f s H locs) (hJ : J SX SM) (hl : lv_has ls 7 (Llv b (g 0) (g2 99) aO i)) (hc4 : cs + 4 ≤ 600002) (hs4 : sl + 24 ≤ 7302232) (h : Lw_restore J) (kk : ∀ (H1 : Heap) (locs1 : List Loc) (ls1 : Array Slot) (SX1 SM1 : gS) (f1 : Nat → Int64), J SX1 SM1 → LX D g g2 cI cB cZ cQ cS cJ aK aO b L xs SX1 SM1 f1 s H1 locs1 → lv_has ls1 7 (Llv b (g 0) (g2 99) aO i) → W p l e room_1 s m args below meth c H1 locs1 (cs + 4) (sl + 24) Q (F0 m 2325 ls1 [])) : W p l e room_1 s m args below meth c H locs cs sl Q (F0 m 2312 ls []) := by
  obtain ⟨N, ox, M, om, h1, h2, h5, h6⟩ := h SX SM  hJ
  unfold Llv at hl
  refine lv_aload_n C.1.1.1 C.1.1.2.1 dL_law_2312 rfl (lv_at hl 3 rfl) ?_
  refine L_callX C.2.2.2.2.2.1.1.1.1 C.2.2.2.2.2.2.1.1 C.2.2.2.2.1 C.1 X xv_L_237 rfl (kX11_restore C.2.2.2.2.2.1.1 C.1.2.2.2.2.1 N  SX ox h1) (Nat.le_of_ble_eq_true rfl) (Nat.le_of_ble_eq_true rfl) (Nat.le_trans (Nat.le_add_right _ _) hc4) (Nat.le_trans (Nat.le_add_right _ _) hs4) rfl hl.1 rfl (Nat.le_of_ble_eq_true rfl) dL_law_2313 (fun H locs X => ?_)
  refine lv_aload_n C.1.1.1 C.1.1.2.1 dL_law_2316 rfl (lv_at hl 2 rfl) ?_
  refine L_callM C.2.2.2.2.2.1.1.1.1 C.2.2.2.2.2.2.1.1 C.2.2.2.2.1 C.2.1 X xv_L_241 rfl (kX12_restore C.2.2.2.2.2.2.1.1 C.2.1.2.2.2.2.1 M  SM om h2) (Nat.le_of_ble_eq_true rfl) (Nat.le_of_ble_eq_true rfl) (Nat.le_trans (Nat.le_add_right _ _) hc4) (Nat.le_trans (Nat.le_add_right _ _) hs4) rfl hl.1 rfl (Nat.le_of_ble_eq_true rfl) dL_law_2317 (fun H locs X => ?_)
  refine lv_icmp_eq (tgt := 2325) C.1.1.1 C.1.1.2.1 dL_law_2320 (by decide) (fun _ => ?_) (fun hz => absurd h5 hz)
  exact W.widen (k := cs + 4) (n := sl + 24) (Nat.le_add_right _ _) (Nat.le_add_right _ _) (kk _ _ _ _ _ _ h6 X (lv_sub hl [0, 1, 2, 3, 4] rfl))
end LAW3

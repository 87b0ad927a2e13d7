/-! the blocks of the law's switch (printed by wip/whole/mklawb.py) -/
section LAW3
variable {p : Program} {l : Launch} {e : Env} {s : State} {m : MethodId} {args : Array Value} {below : List Frame} {meth : Method} {c : Code} {H : Heap} {locs : List Loc} {cs sl : Nat} {Q : State → Prop} {Am Am2 : (Nat → Prop) → State → Heap → Prop} {D : va_G} {g g2 : Nat → Nat} {cI cB cZ cQ cS cJ : ClassId} {aK aV : Nat → Nat} {aO b L pc : Nat} {xs : Nat → Int32} {SX SM : gS} {f : Nat → Int64} {ls : Array Slot} {i : Int32} {J0 J : gS → gS → Prop} {rest : List Value} {R : Room}
theorem L_ld (C : LCx p l s m args meth c D g g2 cI cB cZ cQ cS cJ aK aV aO b L xs Am Am2) (X : LX D g g2 cI cB cZ cQ cS cJ aK aO b L xs SX SM f s H locs) {j : Int32} (hin : vp_in j L) (hdg : decode cL_law pc = .ok (.iaload, 1))
    (kk : W p l e R s m args below meth c H locs cs sl Q (F0 m (pc + 1) ls (.int (xs j.toNatClampNeg) :: rest))) : W p l e R s m args below meth c H locs cs sl Q (F0 m pc ls (.int j :: .ref b :: rest)) := by
  have hs := C.2.2.2.2.1
  refine va_sld (A := gA xord g s.heap.size) C.1.1.1 C.1.1.2.1 C.2.2.2.2.2.2.2 hs.2.2.2 ?_ X.1.2 hin hdg kk
  rw [hs.allX]
  exact Nat.not_le.mpr hs.2.2.2
theorem LB_feed (C : LCx p l s m args meth c D g g2 cI cB cZ cQ cS cJ aK aV aO b L xs Am Am2) (hi : Lin i L) (X : LX D g g2 cI cB cZ cQ cS cJ aK aO b L xs SX SM f s H locs) (hJ : J SX SM) (hl : lv_has ls 7 (Llv b (g 0) (g2 99) aO i)) (hc4 : cs + 4 ≤ 601024) (hs4 : sl + 24 ≤ 7293034) (h : Lw_feed J) (kk : ∀ (H1 : Heap) (locs1 : List Loc) (ls1 : Array Slot) (SX1 SM1 : gS) (f1 : Nat → Int64), J SX1 SM1 → LX D g g2 cI cB cZ cQ cS cJ aK aO b L xs SX1 SM1 f1 s H1 locs1 → lv_has ls1 7 (Llv b (g 0) (g2 99) aO i) → W p l e room_1 s m args below meth c H1 locs1 (cs + 4) (sl + 24) Q (F0 m 1499 ls1 [])) : W p l e room_1 s m args below meth c H locs cs sl Q (F0 m 204 ls []) := by
  obtain ⟨N, ox, M, om, h1, h2, h5, h6⟩ := h SX SM (xs (Int32.toNatClampNeg (i + 1))) (xs (Int32.toNatClampNeg (i + 2))) (xs (Int32.toNatClampNeg (i + 3))) (xs (Int32.toNatClampNeg (i + 4))) (xs (Int32.toNatClampNeg (i + 5))) hJ
  unfold Llv at hl
  refine lv_aload_n C.1.1.1 C.1.1.2.1 dL_law_204 rfl (lv_at hl 3 rfl) ?_
  refine lv_aload_n C.1.1.1 C.1.1.2.1 dL_law_205 rfl (lv_at hl 4 rfl) ?_
  refine lv_iload C.1.1.1 C.1.1.2.1 dL_law_206 (lv_at hl 0 rfl) ?_
  refine lv_iconst C.1.1.1 C.1.1.2.1 dL_law_208 rfl ?_
  refine lv_iadd C.1.1.1 C.1.1.2.1 dL_law_209 ?_
  refine L_ld C X hi.2.1 dL_law_210 ?_
  refine lv_aload_n C.1.1.1 C.1.1.2.1 dL_law_211 rfl (lv_at hl 4 rfl) ?_
  refine lv_iload C.1.1.1 C.1.1.2.1 dL_law_212 (lv_at hl 0 rfl) ?_
  refine lv_iconst C.1.1.1 C.1.1.2.1 dL_law_214 rfl ?_
  refine lv_iadd C.1.1.1 C.1.1.2.1 dL_law_215 ?_
  refine L_ld C X hi.2.2.1 dL_law_216 ?_
  refine lv_aload_n C.1.1.1 C.1.1.2.1 dL_law_217 rfl (lv_at hl 4 rfl) ?_
  refine lv_iload C.1.1.1 C.1.1.2.1 dL_law_218 (lv_at hl 0 rfl) ?_
  refine lv_iconst C.1.1.1 C.1.1.2.1 dL_law_220 rfl ?_
  refine lv_iadd C.1.1.1 C.1.1.2.1 dL_law_221 ?_
  refine L_ld C X hi.2.2.2.1 dL_law_222 ?_
  refine lv_aload_n C.1.1.1 C.1.1.2.1 dL_law_223 rfl (lv_at hl 4 rfl) ?_
  refine lv_iload C.1.1.1 C.1.1.2.1 dL_law_224 (lv_at hl 0 rfl) ?_
  refine lv_iconst C.1.1.1 C.1.1.2.1 dL_law_226 rfl ?_
  refine lv_iadd C.1.1.1 C.1.1.2.1 dL_law_227 ?_
  refine L_ld C X hi.2.2.2.2.1 dL_law_228 ?_
  refine lv_aload_n C.1.1.1 C.1.1.2.1 dL_law_229 rfl (lv_at hl 4 rfl) ?_
  refine lv_iload C.1.1.1 C.1.1.2.1 dL_law_230 (lv_at hl 0 rfl) ?_
  refine lv_iconst C.1.1.1 C.1.1.2.1 dL_law_232 rfl ?_
  refine lv_iadd C.1.1.1 C.1.1.2.1 dL_law_233 ?_
  refine L_ld C X hi.2.2.2.2.2 dL_law_234 ?_
  refine L_callX C.2.2.2.2.2.1.1.1.1 C.2.2.2.2.2.2.1.1 C.2.2.2.2.1 C.1 X xv_L_112 rfl (kX11_feed C.2.2.2.2.2.1.1.1 C.1.2.2.2.2.1 N (xs (Int32.toNatClampNeg (i + 1))) (xs (Int32.toNatClampNeg (i + 2))) (xs (Int32.toNatClampNeg (i + 3))) (xs (Int32.toNatClampNeg (i + 4))) (xs (Int32.toNatClampNeg (i + 5))) SX ox h1) (Nat.le_of_ble_eq_true rfl) (Nat.le_of_ble_eq_true rfl) (Nat.le_trans (Nat.le_add_right _ _) hc4) (Nat.le_trans (Nat.le_add_right _ _) hs4) rfl hl.1 rfl (Nat.le_of_ble_eq_true rfl) dL_law_235 (fun H locs X => ?_)
  refine lv_pop C.1.1.1 C.1.1.2.1 dL_law_238 rfl ?_
  refine lv_aload_n C.1.1.1 C.1.1.2.1 dL_law_239 rfl (lv_at hl 2 rfl) ?_
  refine lv_aload_n C.1.1.1 C.1.1.2.1 dL_law_240 rfl (lv_at hl 4 rfl) ?_
  refine lv_iload C.1.1.1 C.1.1.2.1 dL_law_241 (lv_at hl 0 rfl) ?_
  refine lv_iconst C.1.1.1 C.1.1.2.1 dL_law_243 rfl ?_
  refine lv_iadd C.1.1.1 C.1.1.2.1 dL_law_244 ?_
  refine L_ld C X hi.2.1 dL_law_245 ?_
  refine lv_aload_n C.1.1.1 C.1.1.2.1 dL_law_246 rfl (lv_at hl 4 rfl) ?_
  refine lv_iload C.1.1.1 C.1.1.2.1 dL_law_247 (lv_at hl 0 rfl) ?_
  refine lv_iconst C.1.1.1 C.1.1.2.1 dL_law_249 rfl ?_
  refine lv_iadd C.1.1.1 C.1.1.2.1 dL_law_250 ?_
  refine L_ld C X hi.2.2.1 dL_law_251 ?_
  refine lv_aload_n C.1.1.1 C.1.1.2.1 dL_law_252 rfl (lv_at hl 4 rfl) ?_
  refine lv_iload C.1.1.1 C.1.1.2.1 dL_law_253 (lv_at hl 0 rfl) ?_
  refine lv_iconst C.1.1.1 C.1.1.2.1 dL_law_255 rfl ?_
  refine lv_iadd C.1.1.1 C.1.1.2.1 dL_law_256 ?_
  refine L_ld C X hi.2.2.2.1 dL_law_257 ?_
  refine lv_aload_n C.1.1.1 C.1.1.2.1 dL_law_258 rfl (lv_at hl 4 rfl) ?_
  refine lv_iload C.1.1.1 C.1.1.2.1 dL_law_259 (lv_at hl 0 rfl) ?_
  refine lv_iconst C.1.1.1 C.1.1.2.1 dL_law_261 rfl ?_
  refine lv_iadd C.1.1.1 C.1.1.2.1 dL_law_262 ?_
  refine L_ld C X hi.2.2.2.2.1 dL_law_263 ?_
  refine lv_aload_n C.1.1.1 C.1.1.2.1 dL_law_264 rfl (lv_at hl 4 rfl) ?_
  refine lv_iload C.1.1.1 C.1.1.2.1 dL_law_265 (lv_at hl 0 rfl) ?_
  refine lv_iconst C.1.1.1 C.1.1.2.1 dL_law_267 rfl ?_
  refine lv_iadd C.1.1.1 C.1.1.2.1 dL_law_268 ?_
  refine L_ld C X hi.2.2.2.2.2 dL_law_269 ?_
  refine L_callM C.2.2.2.2.2.1.1.1.1 C.2.2.2.2.2.2.1.1 C.2.2.2.2.1 C.2.1 X xv_L_116 rfl (kX12_feed C.2.2.2.2.2.2.1.1 C.2.1.2.2.2.2.1 M (xs (Int32.toNatClampNeg (i + 1))) (xs (Int32.toNatClampNeg (i + 2))) (xs (Int32.toNatClampNeg (i + 3))) (xs (Int32.toNatClampNeg (i + 4))) (xs (Int32.toNatClampNeg (i + 5))) SM om h2) (Nat.le_of_ble_eq_true rfl) (Nat.le_of_ble_eq_true rfl) (Nat.le_trans (Nat.le_add_right _ _) hc4) (Nat.le_trans (Nat.le_add_right _ _) hs4) rfl hl.1 rfl (Nat.le_of_ble_eq_true rfl) dL_law_270 (fun H locs X => ?_)
  refine lv_pop C.1.1.1 C.1.1.2.1 dL_law_273 rfl ?_
  refine lv_goto (tgt := 1499) C.1.1.1 C.1.1.2.1 dL_law_274 (by decide) ?_
  exact W.widen (k := cs + 4) (n := sl + 24) (Nat.le_add_right _ _) (Nat.le_add_right _ _) (kk _ _ _ _ _ _ h6 X (lv_sub hl [0, 1, 2, 3, 4] rfl))
theorem LB_port (C : LCx p l s m args meth c D g g2 cI cB cZ cQ cS cJ aK aV aO b L xs Am Am2) (hi : Lin i L) (X : LX D g g2 cI cB cZ cQ cS cJ aK aO b L xs SX SM f s H locs) (hJ : J SX SM) (hl : lv_has ls 7 (Llv b (g 0) (g2 99) aO i)) (hc4 : cs + 4 ≤ 601024) (hs4 : sl + 24 ≤ 7293034) (h : Lw_port J) (kk : ∀ (H1 : Heap) (locs1 : List Loc) (ls1 : Array Slot) (SX1 SM1 : gS) (f1 : Nat → Int64), J SX1 SM1 → LX D g g2 cI cB cZ cQ cS cJ aK aO b L xs SX1 SM1 f1 s H1 locs1 → lv_has ls1 7 (Llv b (g 0) (g2 99) aO i) → W p l e room_1 s m args below meth c H1 locs1 (cs + 4) (sl + 24) Q (F0 m 1499 ls1 [])) : W p l e room_1 s m args below meth c H locs cs sl Q (F0 m 277 ls []) := by
  obtain ⟨N, ox, M, om, h1, h2, h3, h4, h5, h6⟩ := h SX SM (xs (Int32.toNatClampNeg (i + 1))) hJ
  unfold Llv at hl
  refine lv_aload_n C.1.1.1 C.1.1.2.1 dL_law_277 rfl (lv_at hl 3 rfl) ?_
  refine lv_aload_n C.1.1.1 C.1.1.2.1 dL_law_278 rfl (lv_at hl 4 rfl) ?_
  refine lv_iload C.1.1.1 C.1.1.2.1 dL_law_279 (lv_at hl 0 rfl) ?_
  refine lv_iconst C.1.1.1 C.1.1.2.1 dL_law_281 rfl ?_
  refine lv_iadd C.1.1.1 C.1.1.2.1 dL_law_282 ?_
  refine L_ld C X hi.2.1 dL_law_283 ?_
  refine lv_aload_n C.1.1.1 C.1.1.2.1 dL_law_284 rfl (lv_at hl 1 rfl) ?_
  refine L_callS C.2.2.2.2.2.1.1.1.1 C.2.2.2.2.2.2.1.1 C.2.2.2.2.1 C.1 C.2.2.1 C.2.2.2.1 X lw_port rfl (kL_port C.2.2.2.2.2.1 C.1.2.2.2.2.1 (fun k hk => (C.2.2.2.2.1.1 k hk).2.1) N (xs (Int32.toNatClampNeg (i + 1))) SX f ox h1 h3) (Nat.le_of_ble_eq_true rfl) (Nat.le_of_ble_eq_true rfl) (Nat.le_trans (Nat.add_le_add_left (Nat.le_of_ble_eq_true rfl) _) hc4) (Nat.le_trans (Nat.add_le_add_left (Nat.le_of_ble_eq_true rfl) _) hs4) rfl hl.1 rfl (Nat.le_of_ble_eq_true rfl) dL_law_285 (fun H locs X => ?_)
  refine lv_istore C.1.1.1 C.1.1.2.1 dL_law_288 hl (by decide) rfl (fun ls hl => ?_)
  refine lv_aload_n C.1.1.1 C.1.1.2.1 dL_law_290 rfl (lv_at hl 3 rfl) ?_
  refine lv_aload_n C.1.1.1 C.1.1.2.1 dL_law_291 rfl (lv_at hl 5 rfl) ?_
  refine lv_iload C.1.1.1 C.1.1.2.1 dL_law_292 (lv_at hl 1 rfl) ?_
  refine lv_iconst C.1.1.1 C.1.1.2.1 dL_law_294 rfl ?_
  refine lv_iadd C.1.1.1 C.1.1.2.1 dL_law_295 ?_
  refine L_ld C X hi.2.1 dL_law_296 ?_
  refine L_callM C.2.2.2.2.2.1.1.1.1 C.2.2.2.2.2.2.1.1 C.2.2.2.2.1 C.2.1 X xv_L_122 rfl (kX12_port C.2.2.2.2.2.2.1 C.2.1.2.2.2.2.1 M (xs (Int32.toNatClampNeg (i + 1))) SM om h2) (Nat.le_of_ble_eq_true rfl) (Nat.le_of_ble_eq_true rfl) (Nat.le_trans (Nat.add_le_add_left (Nat.le_of_ble_eq_true rfl) _) hc4) (Nat.le_trans (Nat.add_le_add_left (Nat.le_of_ble_eq_true rfl) _) hs4) rfl hl.1 rfl (Nat.le_of_ble_eq_true rfl) dL_law_297 (fun H locs X => ?_)
  refine lv_istore C.1.1.1 C.1.1.2.1 dL_law_300 hl (by decide) rfl (fun ls hl => ?_)
  refine lv_goto (tgt := 1499) C.1.1.1 C.1.1.2.1 dL_law_302 (by decide) ?_
  exact W.widen (k := cs + 4) (n := sl + 24) (Nat.add_le_add_left (Nat.le_of_ble_eq_true rfl) _) (Nat.add_le_add_left (Nat.le_of_ble_eq_true rfl) _) (kk _ _ _ _ _ _ h6 X (lv_sub hl [2, 3, 4, 5, 6] rfl))
theorem LB_fault (C : LCx p l s m args meth c D g g2 cI cB cZ cQ cS cJ aK aV aO b L xs Am Am2) (hi : Lin i L) (X : LX D g g2 cI cB cZ cQ cS cJ aK aO b L xs SX SM f s H locs) (hJ : J SX SM) (hl : lv_has ls 7 (Llv b (g 0) (g2 99) aO i)) (hc4 : cs + 4 ≤ 601024) (hs4 : sl + 24 ≤ 7293034) (h : Lw_fault J) (kk : ∀ (H1 : Heap) (locs1 : List Loc) (ls1 : Array Slot) (SX1 SM1 : gS) (f1 : Nat → Int64), J SX1 SM1 → LX D g g2 cI cB cZ cQ cS cJ aK aO b L xs SX1 SM1 f1 s H1 locs1 → lv_has ls1 7 (Llv b (g 0) (g2 99) aO i) → W p l e room_1 s m args below meth c H1 locs1 (cs + 4) (sl + 24) Q (F0 m 1499 ls1 [])) : W p l e room_1 s m args below meth c H locs cs sl Q (F0 m 305 ls []) := by
  obtain ⟨N, ox, M, om, h1, h2, h5, h6⟩ := h SX SM  hJ
  unfold Llv at hl
  refine lv_aload_n C.1.1.1 C.1.1.2.1 dL_law_305 rfl (lv_at hl 3 rfl) ?_
  refine L_callX C.2.2.2.2.2.1.1.1.1 C.2.2.2.2.2.2.1.1 C.2.2.2.2.1 C.1 X xv_L_123 rfl (kX11_fault C.2.2.2.2.2.1.1.1 C.1.2.2.2.2.1 N  SX ox h1) (Nat.le_of_ble_eq_true rfl) (Nat.le_of_ble_eq_true rfl) (Nat.le_trans (Nat.le_add_right _ _) hc4) (Nat.le_trans (Nat.le_add_right _ _) hs4) rfl hl.1 rfl (Nat.le_of_ble_eq_true rfl) dL_law_306 (fun H locs X => ?_)
  refine lv_pop C.1.1.1 C.1.1.2.1 dL_law_309 rfl ?_
  refine lv_aload_n C.1.1.1 C.1.1.2.1 dL_law_310 rfl (lv_at hl 2 rfl) ?_
  refine L_callM C.2.2.2.2.2.1.1.1.1 C.2.2.2.2.2.2.1.1 C.2.2.2.2.1 C.2.1 X xv_L_127 rfl (kX12_fault C.2.2.2.2.2.2.1.1 C.2.1.2.2.2.2.1 M  SM om h2) (Nat.le_of_ble_eq_true rfl) (Nat.le_of_ble_eq_true rfl) (Nat.le_trans (Nat.le_add_right _ _) hc4) (Nat.le_trans (Nat.le_add_right _ _) hs4) rfl hl.1 rfl (Nat.le_of_ble_eq_true rfl) dL_law_311 (fun H locs X => ?_)
  refine lv_pop C.1.1.1 C.1.1.2.1 dL_law_314 rfl ?_
  refine lv_goto (tgt := 1499) C.1.1.1 C.1.1.2.1 dL_law_315 (by decide) ?_
  exact W.widen (k := cs + 4) (n := sl + 24) (Nat.le_add_right _ _) (Nat.le_add_right _ _) (kk _ _ _ _ _ _ h6 X (lv_sub hl [0, 1, 2, 3, 4] rfl))
theorem LB_count (C : LCx p l s m args meth c D g g2 cI cB cZ cQ cS cJ aK aV aO b L xs Am Am2) (hi : Lin i L) (X : LX D g g2 cI cB cZ cQ cS cJ aK aO b L xs SX SM f s H locs) (hJ : J SX SM) (hl : lv_has ls 7 (Llv b (g 0) (g2 99) aO i)) (hc4 : cs + 4 ≤ 601024) (hs4 : sl + 24 ≤ 7293034) (h : Lw_count J) (kk : ∀ (H1 : Heap) (locs1 : List Loc) (ls1 : Array Slot) (SX1 SM1 : gS) (f1 : Nat → Int64), J SX1 SM1 → LX D g g2 cI cB cZ cQ cS cJ aK aO b L xs SX1 SM1 f1 s H1 locs1 → lv_has ls1 7 (Llv b (g 0) (g2 99) aO i) → W p l e room_1 s m args below meth c H1 locs1 (cs + 4) (sl + 24) Q (F0 m 1499 ls1 [])) : W p l e room_1 s m args below meth c H locs cs sl Q (F0 m 318 ls []) := by
  obtain ⟨N, ox, M, om, h1, h2, h3, h4, h5, h6⟩ := h SX SM (xs (Int32.toNatClampNeg (i + 1))) hJ
  unfold Llv at hl
  refine lv_aload_n C.1.1.1 C.1.1.2.1 dL_law_318 rfl (lv_at hl 3 rfl) ?_
  refine lv_aload_n C.1.1.1 C.1.1.2.1 dL_law_319 rfl (lv_at hl 4 rfl) ?_
  refine lv_iload C.1.1.1 C.1.1.2.1 dL_law_320 (lv_at hl 0 rfl) ?_
  refine lv_iconst C.1.1.1 C.1.1.2.1 dL_law_322 rfl ?_
  refine lv_iadd C.1.1.1 C.1.1.2.1 dL_law_323 ?_
  refine L_ld C X hi.2.1 dL_law_324 ?_
  refine lv_aload_n C.1.1.1 C.1.1.2.1 dL_law_325 rfl (lv_at hl 1 rfl) ?_
  refine L_callS C.2.2.2.2.2.1.1.1.1 C.2.2.2.2.2.2.1.1 C.2.2.2.2.1 C.1 C.2.2.1 C.2.2.2.1 X lw_count rfl (kL_count C.2.2.2.2.2.1 C.1.2.2.2.2.1 (fun k hk => (C.2.2.2.2.1.1 k hk).2.1) N (xs (Int32.toNatClampNeg (i + 1))) SX f ox h1 h3) (Nat.le_of_ble_eq_true rfl) (Nat.le_of_ble_eq_true rfl) (Nat.le_trans (Nat.add_le_add_left (Nat.le_of_ble_eq_true rfl) _) hc4) (Nat.le_trans (Nat.add_le_add_left (Nat.le_of_ble_eq_true rfl) _) hs4) rfl hl.1 rfl (Nat.le_of_ble_eq_true rfl) dL_law_326 (fun H locs X => ?_)
  refine lv_istore C.1.1.1 C.1.1.2.1 dL_law_329 hl (by decide) rfl (fun ls hl => ?_)
  refine lv_aload_n C.1.1.1 C.1.1.2.1 dL_law_331 rfl (lv_at hl 3 rfl) ?_
  refine lv_aload_n C.1.1.1 C.1.1.2.1 dL_law_332 rfl (lv_at hl 5 rfl) ?_
  refine lv_iload C.1.1.1 C.1.1.2.1 dL_law_333 (lv_at hl 1 rfl) ?_
  refine lv_iconst C.1.1.1 C.1.1.2.1 dL_law_335 rfl ?_
  refine lv_iadd C.1.1.1 C.1.1.2.1 dL_law_336 ?_
  refine L_ld C X hi.2.1 dL_law_337 ?_
  refine L_callM C.2.2.2.2.2.1.1.1.1 C.2.2.2.2.2.2.1.1 C.2.2.2.2.1 C.2.1 X xv_L_130 rfl (kX12_count C.2.2.2.2.2.2.1.1 C.2.1.2.2.2.2.1 M (xs (Int32.toNatClampNeg (i + 1))) SM om h2) (Nat.le_of_ble_eq_true rfl) (Nat.le_of_ble_eq_true rfl) (Nat.le_trans (Nat.add_le_add_left (Nat.le_of_ble_eq_true rfl) _) hc4) (Nat.le_trans (Nat.add_le_add_left (Nat.le_of_ble_eq_true rfl) _) hs4) rfl hl.1 rfl (Nat.le_of_ble_eq_true rfl) dL_law_338 (fun H locs X => ?_)
  refine lv_istore C.1.1.1 C.1.1.2.1 dL_law_341 hl (by decide) rfl (fun ls hl => ?_)
  refine lv_goto (tgt := 1499) C.1.1.1 C.1.1.2.1 dL_law_343 (by decide) ?_
  exact W.widen (k := cs + 4) (n := sl + 24) (Nat.add_le_add_left (Nat.le_of_ble_eq_true rfl) _) (Nat.add_le_add_left (Nat.le_of_ble_eq_true rfl) _) (kk _ _ _ _ _ _ h6 X (lv_sub hl [2, 3, 4, 5, 6] rfl))
theorem LB_grotto (C : LCx p l s m args meth c D g g2 cI cB cZ cQ cS cJ aK aV aO b L xs Am Am2) (hi : Lin i L) (X : LX D g g2 cI cB cZ cQ cS cJ aK aO b L xs SX SM f s H locs) (hJ : J SX SM) (hl : lv_has ls 7 (Llv b (g 0) (g2 99) aO i)) (hc4 : cs + 4 ≤ 601024) (hs4 : sl + 24 ≤ 7293034) (h : Lw_grotto J) (kk : ∀ (H1 : Heap) (locs1 : List Loc) (ls1 : Array Slot) (SX1 SM1 : gS) (f1 : Nat → Int64), J SX1 SM1 → LX D g g2 cI cB cZ cQ cS cJ aK aO b L xs SX1 SM1 f1 s H1 locs1 → lv_has ls1 7 (Llv b (g 0) (g2 99) aO i) → W p l e room_1 s m args below meth c H1 locs1 (cs + 4) (sl + 24) Q (F0 m 1499 ls1 [])) : W p l e room_1 s m args below meth c H locs cs sl Q (F0 m 346 ls []) := by
  obtain ⟨N, ox, M, om, h1, h2, h3, h4, h5, h6⟩ := h SX SM (xs (Int32.toNatClampNeg (i + 1))) (xs (Int32.toNatClampNeg (i + 2))) hJ
  unfold Llv at hl
  refine lv_aload_n C.1.1.1 C.1.1.2.1 dL_law_346 rfl (lv_at hl 3 rfl) ?_
  refine lv_aload_n C.1.1.1 C.1.1.2.1 dL_law_347 rfl (lv_at hl 4 rfl) ?_
  refine lv_iload C.1.1.1 C.1.1.2.1 dL_law_348 (lv_at hl 0 rfl) ?_
  refine lv_iconst C.1.1.1 C.1.1.2.1 dL_law_350 rfl ?_
  refine lv_iadd C.1.1.1 C.1.1.2.1 dL_law_351 ?_
  refine L_ld C X hi.2.1 dL_law_352 ?_
  refine lv_aload_n C.1.1.1 C.1.1.2.1 dL_law_353 rfl (lv_at hl 4 rfl) ?_
  refine lv_iload C.1.1.1 C.1.1.2.1 dL_law_354 (lv_at hl 0 rfl) ?_
  refine lv_iconst C.1.1.1 C.1.1.2.1 dL_law_356 rfl ?_
  refine lv_iadd C.1.1.1 C.1.1.2.1 dL_law_357 ?_
  refine L_ld C X hi.2.2.1 dL_law_358 ?_
  refine lv_aload_n C.1.1.1 C.1.1.2.1 dL_law_359 rfl (lv_at hl 1 rfl) ?_
  refine L_callS C.2.2.2.2.2.1.1.1.1 C.2.2.2.2.2.2.1.1 C.2.2.2.2.1 C.1 C.2.2.1 C.2.2.2.1 X lw_grotto rfl (kL_grotto C.2.2.2.2.2.1 C.1.2.2.2.2.1 (fun k hk => (C.2.2.2.2.1.1 k hk).2.1) N (xs (Int32.toNatClampNeg (i + 1))) (xs (Int32.toNatClampNeg (i + 2))) SX f ox h1 h3) (Nat.le_of_ble_eq_true rfl) (Nat.le_of_ble_eq_true rfl) (Nat.le_trans (Nat.add_le_add_left (Nat.le_of_ble_eq_true rfl) _) hc4) (Nat.le_trans (Nat.add_le_add_left (Nat.le_of_ble_eq_true rfl) _) hs4) rfl hl.1 rfl (Nat.le_of_ble_eq_true rfl) dL_law_360 (fun H locs X => ?_)
  refine lv_istore C.1.1.1 C.1.1.2.1 dL_law_363 hl (by decide) rfl (fun ls hl => ?_)
  refine lv_aload_n C.1.1.1 C.1.1.2.1 dL_law_365 rfl (lv_at hl 3 rfl) ?_
  refine lv_aload_n C.1.1.1 C.1.1.2.1 dL_law_366 rfl (lv_at hl 5 rfl) ?_
  refine lv_iload C.1.1.1 C.1.1.2.1 dL_law_367 (lv_at hl 1 rfl) ?_
  refine lv_iconst C.1.1.1 C.1.1.2.1 dL_law_369 rfl ?_
  refine lv_iadd C.1.1.1 C.1.1.2.1 dL_law_370 ?_
  refine L_ld C X hi.2.1 dL_law_371 ?_
  refine lv_aload_n C.1.1.1 C.1.1.2.1 dL_law_372 rfl (lv_at hl 5 rfl) ?_
  refine lv_iload C.1.1.1 C.1.1.2.1 dL_law_373 (lv_at hl 1 rfl) ?_
  refine lv_iconst C.1.1.1 C.1.1.2.1 dL_law_375 rfl ?_
  refine lv_iadd C.1.1.1 C.1.1.2.1 dL_law_376 ?_
  refine L_ld C X hi.2.2.1 dL_law_377 ?_
  refine L_callM C.2.2.2.2.2.1.1.1.1 C.2.2.2.2.2.2.1.1 C.2.2.2.2.1 C.2.1 X xv_L_134 rfl (kX12_grotto C.2.2.2.2.2.2.1.1 C.2.1.2.2.2.2.1 M (xs (Int32.toNatClampNeg (i + 1))) (xs (Int32.toNatClampNeg (i + 2))) SM om h2) (Nat.le_of_ble_eq_true rfl) (Nat.le_of_ble_eq_true rfl) (Nat.le_trans (Nat.add_le_add_left (Nat.le_of_ble_eq_true rfl) _) hc4) (Nat.le_trans (Nat.add_le_add_left (Nat.le_of_ble_eq_true rfl) _) hs4) rfl hl.1 rfl (Nat.le_of_ble_eq_true rfl) dL_law_378 (fun H locs X => ?_)
  refine lv_istore C.1.1.1 C.1.1.2.1 dL_law_381 hl (by decide) rfl (fun ls hl => ?_)
  refine lv_goto (tgt := 1499) C.1.1.1 C.1.1.2.1 dL_law_383 (by decide) ?_
  exact W.widen (k := cs + 4) (n := sl + 24) (Nat.add_le_add_left (Nat.le_of_ble_eq_true rfl) _) (Nat.add_le_add_left (Nat.le_of_ble_eq_true rfl) _) (kk _ _ _ _ _ _ h6 X (lv_sub hl [2, 3, 4, 5, 6] rfl))
theorem LB_guild (C : LCx p l s m args meth c D g g2 cI cB cZ cQ cS cJ aK aV aO b L xs Am Am2) (hi : Lin i L) (X : LX D g g2 cI cB cZ cQ cS cJ aK aO b L xs SX SM f s H locs) (hJ : J SX SM) (hl : lv_has ls 7 (Llv b (g 0) (g2 99) aO i)) (hc4 : cs + 4 ≤ 601024) (hs4 : sl + 24 ≤ 7293034) (h : Lw_guild J) (kk : ∀ (H1 : Heap) (locs1 : List Loc) (ls1 : Array Slot) (SX1 SM1 : gS) (f1 : Nat → Int64), J SX1 SM1 → LX D g g2 cI cB cZ cQ cS cJ aK aO b L xs SX1 SM1 f1 s H1 locs1 → lv_has ls1 7 (Llv b (g 0) (g2 99) aO i) → W p l e room_1 s m args below meth c H1 locs1 (cs + 4) (sl + 24) Q (F0 m 1499 ls1 [])) : W p l e room_1 s m args below meth c H locs cs sl Q (F0 m 386 ls []) := by
  obtain ⟨N, ox, M, om, h1, h2, h3, h4, h5, h6⟩ := h SX SM (xs (Int32.toNatClampNeg (i + 1))) (xs (Int32.toNatClampNeg (i + 2))) hJ
  unfold Llv at hl
  refine lv_aload_n C.1.1.1 C.1.1.2.1 dL_law_386 rfl (lv_at hl 3 rfl) ?_
  refine lv_aload_n C.1.1.1 C.1.1.2.1 dL_law_387 rfl (lv_at hl 4 rfl) ?_
  refine lv_iload C.1.1.1 C.1.1.2.1 dL_law_388 (lv_at hl 0 rfl) ?_
  refine lv_iconst C.1.1.1 C.1.1.2.1 dL_law_390 rfl ?_
  refine lv_iadd C.1.1.1 C.1.1.2.1 dL_law_391 ?_
  refine L_ld C X hi.2.1 dL_law_392 ?_
  refine lv_aload_n C.1.1.1 C.1.1.2.1 dL_law_393 rfl (lv_at hl 4 rfl) ?_
  refine lv_iload C.1.1.1 C.1.1.2.1 dL_law_394 (lv_at hl 0 rfl) ?_
  refine lv_iconst C.1.1.1 C.1.1.2.1 dL_law_396 rfl ?_
  refine lv_iadd C.1.1.1 C.1.1.2.1 dL_law_397 ?_
  refine L_ld C X hi.2.2.1 dL_law_398 ?_
  refine lv_aload_n C.1.1.1 C.1.1.2.1 dL_law_399 rfl (lv_at hl 1 rfl) ?_
  refine L_callS C.2.2.2.2.2.1.1.1.1 C.2.2.2.2.2.2.1.1 C.2.2.2.2.1 C.1 C.2.2.1 C.2.2.2.1 X lw_guild rfl (kL_guild C.2.2.2.2.2.1 C.1.2.2.2.2.1 (fun k hk => (C.2.2.2.2.1.1 k hk).2.1) N (xs (Int32.toNatClampNeg (i + 1))) (xs (Int32.toNatClampNeg (i + 2))) SX f ox h1 h3) (Nat.le_of_ble_eq_true rfl) (Nat.le_of_ble_eq_true rfl) (Nat.le_trans (Nat.add_le_add_left (Nat.le_of_ble_eq_true rfl) _) hc4) (Nat.le_trans (Nat.add_le_add_left (Nat.le_of_ble_eq_true rfl) _) hs4) rfl hl.1 rfl (Nat.le_of_ble_eq_true rfl) dL_law_400 (fun H locs X => ?_)
  refine lv_istore C.1.1.1 C.1.1.2.1 dL_law_403 hl (by decide) rfl (fun ls hl => ?_)
  refine lv_aload_n C.1.1.1 C.1.1.2.1 dL_law_405 rfl (lv_at hl 3 rfl) ?_
  refine lv_aload_n C.1.1.1 C.1.1.2.1 dL_law_406 rfl (lv_at hl 5 rfl) ?_
  refine lv_iload C.1.1.1 C.1.1.2.1 dL_law_407 (lv_at hl 1 rfl) ?_
  refine lv_iconst C.1.1.1 C.1.1.2.1 dL_law_409 rfl ?_
  refine lv_iadd C.1.1.1 C.1.1.2.1 dL_law_410 ?_
  refine L_ld C X hi.2.1 dL_law_411 ?_
  refine lv_aload_n C.1.1.1 C.1.1.2.1 dL_law_412 rfl (lv_at hl 5 rfl) ?_
  refine lv_iload C.1.1.1 C.1.1.2.1 dL_law_413 (lv_at hl 1 rfl) ?_
  refine lv_iconst C.1.1.1 C.1.1.2.1 dL_law_415 rfl ?_
  refine lv_iadd C.1.1.1 C.1.1.2.1 dL_law_416 ?_
  refine L_ld C X hi.2.2.1 dL_law_417 ?_
  refine L_callM C.2.2.2.2.2.1.1.1.1 C.2.2.2.2.2.2.1.1 C.2.2.2.2.1 C.2.1 X xv_L_137 rfl (kX12_guild C.2.2.2.2.2.2.1.1 C.2.1.2.2.2.2.1 M (xs (Int32.toNatClampNeg (i + 1))) (xs (Int32.toNatClampNeg (i + 2))) SM om h2) (Nat.le_of_ble_eq_true rfl) (Nat.le_of_ble_eq_true rfl) (Nat.le_trans (Nat.add_le_add_left (Nat.le_of_ble_eq_true rfl) _) hc4) (Nat.le_trans (Nat.add_le_add_left (Nat.le_of_ble_eq_true rfl) _) hs4) rfl hl.1 rfl (Nat.le_of_ble_eq_true rfl) dL_law_418 (fun H locs X => ?_)
  refine lv_istore C.1.1.1 C.1.1.2.1 dL_law_421 hl (by decide) rfl (fun ls hl => ?_)
  refine lv_goto (tgt := 1499) C.1.1.1 C.1.1.2.1 dL_law_423 (by decide) ?_
  exact W.widen (k := cs + 4) (n := sl + 24) (Nat.add_le_add_left (Nat.le_of_ble_eq_true rfl) _) (Nat.add_le_add_left (Nat.le_of_ble_eq_true rfl) _) (kk _ _ _ _ _ _ h6 X (lv_sub hl [2, 3, 4, 5, 6] rfl))
theorem LB_hours (C : LCx p l s m args meth c D g g2 cI cB cZ cQ cS cJ aK aV aO b L xs Am Am2) (hi : Lin i L) (X : LX D g g2 cI cB cZ cQ cS cJ aK aO b L xs SX SM f s H locs) (hJ : J SX SM) (hl : lv_has ls 7 (Llv b (g 0) (g2 99) aO i)) (hc4 : cs + 4 ≤ 601024) (hs4 : sl + 24 ≤ 7293034) (h : Lw_hours J) (kk : ∀ (H1 : Heap) (locs1 : List Loc) (ls1 : Array Slot) (SX1 SM1 : gS) (f1 : Nat → Int64), J SX1 SM1 → LX D g g2 cI cB cZ cQ cS cJ aK aO b L xs SX1 SM1 f1 s H1 locs1 → lv_has ls1 7 (Llv b (g 0) (g2 99) aO i) → W p l e room_1 s m args below meth c H1 locs1 (cs + 4) (sl + 24) Q (F0 m 1499 ls1 [])) : W p l e room_1 s m args below meth c H locs cs sl Q (F0 m 426 ls []) := by
  obtain ⟨N, ox, M, om, h1, h2, h5, h6⟩ := h SX SM (xs (Int32.toNatClampNeg (i + 1))) hJ
  unfold Llv at hl
  refine lv_aload_n C.1.1.1 C.1.1.2.1 dL_law_426 rfl (lv_at hl 3 rfl) ?_
  refine lv_aload_n C.1.1.1 C.1.1.2.1 dL_law_427 rfl (lv_at hl 4 rfl) ?_
  refine lv_iload C.1.1.1 C.1.1.2.1 dL_law_428 (lv_at hl 0 rfl) ?_
  refine lv_iconst C.1.1.1 C.1.1.2.1 dL_law_430 rfl ?_
  refine lv_iadd C.1.1.1 C.1.1.2.1 dL_law_431 ?_
  refine L_ld C X hi.2.1 dL_law_432 ?_
  refine L_callX C.2.2.2.2.2.1.1.1.1 C.2.2.2.2.2.2.1.1 C.2.2.2.2.1 C.1 X xv_L_138 rfl (kX11_hours C.2.2.2.2.2.1.1 C.1.2.2.2.2.1 N (xs (Int32.toNatClampNeg (i + 1))) SX ox h1) (Nat.le_of_ble_eq_true rfl) (Nat.le_of_ble_eq_true rfl) (Nat.le_trans (Nat.le_add_right _ _) hc4) (Nat.le_trans (Nat.le_add_right _ _) hs4) rfl hl.1 rfl (Nat.le_of_ble_eq_true rfl) dL_law_433 (fun H locs X => ?_)
  refine lv_pop C.1.1.1 C.1.1.2.1 dL_law_436 rfl ?_
  refine lv_aload_n C.1.1.1 C.1.1.2.1 dL_law_437 rfl (lv_at hl 2 rfl) ?_
  refine lv_aload_n C.1.1.1 C.1.1.2.1 dL_law_438 rfl (lv_at hl 4 rfl) ?_
  refine lv_iload C.1.1.1 C.1.1.2.1 dL_law_439 (lv_at hl 0 rfl) ?_
  refine lv_iconst C.1.1.1 C.1.1.2.1 dL_law_441 rfl ?_
  refine lv_iadd C.1.1.1 C.1.1.2.1 dL_law_442 ?_
  refine L_ld C X hi.2.1 dL_law_443 ?_
  refine L_callM C.2.2.2.2.2.1.1.1.1 C.2.2.2.2.2.2.1.1 C.2.2.2.2.1 C.2.1 X xv_L_141 rfl (kX12_hours C.2.2.2.2.2.2.1.1 C.2.1.2.2.2.2.1 M (xs (Int32.toNatClampNeg (i + 1))) SM om h2) (Nat.le_of_ble_eq_true rfl) (Nat.le_of_ble_eq_true rfl) (Nat.le_trans (Nat.le_add_right _ _) hc4) (Nat.le_trans (Nat.le_add_right _ _) hs4) rfl hl.1 rfl (Nat.le_of_ble_eq_true rfl) dL_law_444 (fun H locs X => ?_)
  refine lv_pop C.1.1.1 C.1.1.2.1 dL_law_447 rfl ?_
  refine lv_goto (tgt := 1499) C.1.1.1 C.1.1.2.1 dL_law_448 (by decide) ?_
  exact W.widen (k := cs + 4) (n := sl + 24) (Nat.le_add_right _ _) (Nat.le_add_right _ _) (kk _ _ _ _ _ _ h6 X (lv_sub hl [0, 1, 2, 3, 4] rfl))
theorem LB_hire (C : LCx p l s m args meth c D g g2 cI cB cZ cQ cS cJ aK aV aO b L xs Am Am2) (hi : Lin i L) (X : LX D g g2 cI cB cZ cQ cS cJ aK aO b L xs SX SM f s H locs) (hJ : J SX SM) (hl : lv_has ls 7 (Llv b (g 0) (g2 99) aO i)) (hc4 : cs + 4 ≤ 601024) (hs4 : sl + 24 ≤ 7293034) (h : Lw_hire J) (kk : ∀ (H1 : Heap) (locs1 : List Loc) (ls1 : Array Slot) (SX1 SM1 : gS) (f1 : Nat → Int64), J SX1 SM1 → LX D g g2 cI cB cZ cQ cS cJ aK aO b L xs SX1 SM1 f1 s H1 locs1 → lv_has ls1 7 (Llv b (g 0) (g2 99) aO i) → W p l e room_1 s m args below meth c H1 locs1 (cs + 4) (sl + 24) Q (F0 m 1499 ls1 [])) : W p l e room_1 s m args below meth c H locs cs sl Q (F0 m 451 ls []) := by
  obtain ⟨N, ox, M, om, h1, h2, h3, h4, h5, h6⟩ := h SX SM (xs (Int32.toNatClampNeg (i + 1))) (xs (Int32.toNatClampNeg (i + 2))) hJ
  unfold Llv at hl
  refine lv_aload_n C.1.1.1 C.1.1.2.1 dL_law_451 rfl (lv_at hl 3 rfl) ?_
  refine lv_aload_n C.1.1.1 C.1.1.2.1 dL_law_452 rfl (lv_at hl 4 rfl) ?_
  refine lv_iload C.1.1.1 C.1.1.2.1 dL_law_453 (lv_at hl 0 rfl) ?_
  refine lv_iconst C.1.1.1 C.1.1.2.1 dL_law_455 rfl ?_
  refine lv_iadd C.1.1.1 C.1.1.2.1 dL_law_456 ?_
  refine L_ld C X hi.2.1 dL_law_457 ?_
  refine lv_aload_n C.1.1.1 C.1.1.2.1 dL_law_458 rfl (lv_at hl 4 rfl) ?_
  refine lv_iload C.1.1.1 C.1.1.2.1 dL_law_459 (lv_at hl 0 rfl) ?_
  refine lv_iconst C.1.1.1 C.1.1.2.1 dL_law_461 rfl ?_
  refine lv_iadd C.1.1.1 C.1.1.2.1 dL_law_462 ?_
  refine L_ld C X hi.2.2.1 dL_law_463 ?_
  refine lv_aload_n C.1.1.1 C.1.1.2.1 dL_law_464 rfl (lv_at hl 1 rfl) ?_
  refine L_callS C.2.2.2.2.2.1.1.1.1 C.2.2.2.2.2.2.1.1 C.2.2.2.2.1 C.1 C.2.2.1 C.2.2.2.1 X lw_hire rfl (kL_hire C.2.2.2.2.2.1 C.1.2.2.2.2.1 (fun k hk => (C.2.2.2.2.1.1 k hk).2.1) N (xs (Int32.toNatClampNeg (i + 1))) (xs (Int32.toNatClampNeg (i + 2))) SX f ox h1 h3) (Nat.le_of_ble_eq_true rfl) (Nat.le_of_ble_eq_true rfl) (Nat.le_trans (Nat.add_le_add_left (Nat.le_of_ble_eq_true rfl) _) hc4) (Nat.le_trans (Nat.add_le_add_left (Nat.le_of_ble_eq_true rfl) _) hs4) rfl hl.1 rfl (Nat.le_of_ble_eq_true rfl) dL_law_465 (fun H locs X => ?_)
  refine lv_istore C.1.1.1 C.1.1.2.1 dL_law_468 hl (by decide) rfl (fun ls hl => ?_)
  refine lv_aload_n C.1.1.1 C.1.1.2.1 dL_law_470 rfl (lv_at hl 3 rfl) ?_
  refine lv_aload_n C.1.1.1 C.1.1.2.1 dL_law_471 rfl (lv_at hl 5 rfl) ?_
  refine lv_iload C.1.1.1 C.1.1.2.1 dL_law_472 (lv_at hl 1 rfl) ?_
  refine lv_iconst C.1.1.1 C.1.1.2.1 dL_law_474 rfl ?_
  refine lv_iadd C.1.1.1 C.1.1.2.1 dL_law_475 ?_
  refine L_ld C X hi.2.1 dL_law_476 ?_
  refine lv_aload_n C.1.1.1 C.1.1.2.1 dL_law_477 rfl (lv_at hl 5 rfl) ?_
  refine lv_iload C.1.1.1 C.1.1.2.1 dL_law_478 (lv_at hl 1 rfl) ?_
  refine lv_iconst C.1.1.1 C.1.1.2.1 dL_law_480 rfl ?_
  refine lv_iadd C.1.1.1 C.1.1.2.1 dL_law_481 ?_
  refine L_ld C X hi.2.2.1 dL_law_482 ?_
  refine L_callM C.2.2.2.2.2.1.1.1.1 C.2.2.2.2.2.2.1.1 C.2.2.2.2.1 C.2.1 X xv_L_144 rfl (kX12_hire C.2.2.2.2.2.2.1.1 C.2.1.2.2.2.2.1 M (xs (Int32.toNatClampNeg (i + 1))) (xs (Int32.toNatClampNeg (i + 2))) SM om h2) (Nat.le_of_ble_eq_true rfl) (Nat.le_of_ble_eq_true rfl) (Nat.le_trans (Nat.add_le_add_left (Nat.le_of_ble_eq_true rfl) _) hc4) (Nat.le_trans (Nat.add_le_add_left (Nat.le_of_ble_eq_true rfl) _) hs4) rfl hl.1 rfl (Nat.le_of_ble_eq_true rfl) dL_law_483 (fun H locs X => ?_)
  refine lv_istore C.1.1.1 C.1.1.2.1 dL_law_486 hl (by decide) rfl (fun ls hl => ?_)
  refine lv_goto (tgt := 1499) C.1.1.1 C.1.1.2.1 dL_law_488 (by decide) ?_
  exact W.widen (k := cs + 4) (n := sl + 24) (Nat.add_le_add_left (Nat.le_of_ble_eq_true rfl) _) (Nat.add_le_add_left (Nat.le_of_ble_eq_true rfl) _) (kk _ _ _ _ _ _ h6 X (lv_sub hl [2, 3, 4, 5, 6] rfl))
theorem LB_dismiss (C : LCx p l s m args meth c D g g2 cI cB cZ cQ cS cJ aK aV aO b L xs Am Am2) (hi : Lin i L) (X : LX D g g2 cI cB cZ cQ cS cJ aK aO b L xs SX SM f s H locs) (hJ : J SX SM) (hl : lv_has ls 7 (Llv b (g 0) (g2 99) aO i)) (hc4 : cs + 4 ≤ 601024) (hs4 : sl + 24 ≤ 7293034) (h : Lw_dismiss J) (kk : ∀ (H1 : Heap) (locs1 : List Loc) (ls1 : Array Slot) (SX1 SM1 : gS) (f1 : Nat → Int64), J SX1 SM1 → LX D g g2 cI cB cZ cQ cS cJ aK aO b L xs SX1 SM1 f1 s H1 locs1 → lv_has ls1 7 (Llv b (g 0) (g2 99) aO i) → W p l e room_1 s m args below meth c H1 locs1 (cs + 4) (sl + 24) Q (F0 m 1499 ls1 [])) : W p l e room_1 s m args below meth c H locs cs sl Q (F0 m 491 ls []) := by
  obtain ⟨N, ox, M, om, h1, h2, h3, h4, h5, h6⟩ := h SX SM (xs (Int32.toNatClampNeg (i + 1))) hJ
  unfold Llv at hl
  refine lv_aload_n C.1.1.1 C.1.1.2.1 dL_law_491 rfl (lv_at hl 3 rfl) ?_
  refine lv_aload_n C.1.1.1 C.1.1.2.1 dL_law_492 rfl (lv_at hl 4 rfl) ?_
  refine lv_iload C.1.1.1 C.1.1.2.1 dL_law_493 (lv_at hl 0 rfl) ?_
  refine lv_iconst C.1.1.1 C.1.1.2.1 dL_law_495 rfl ?_
  refine lv_iadd C.1.1.1 C.1.1.2.1 dL_law_496 ?_
  refine L_ld C X hi.2.1 dL_law_497 ?_
  refine lv_aload_n C.1.1.1 C.1.1.2.1 dL_law_498 rfl (lv_at hl 1 rfl) ?_
  refine L_callS C.2.2.2.2.2.1.1.1.1 C.2.2.2.2.2.2.1.1 C.2.2.2.2.1 C.1 C.2.2.1 C.2.2.2.1 X lw_dismiss rfl (kL_dismiss C.2.2.2.2.2.1 C.1.2.2.2.2.1 (fun k hk => (C.2.2.2.2.1.1 k hk).2.1) N (xs (Int32.toNatClampNeg (i + 1))) SX f ox h1 h3) (Nat.le_of_ble_eq_true rfl) (Nat.le_of_ble_eq_true rfl) (Nat.le_trans (Nat.add_le_add_left (Nat.le_of_ble_eq_true rfl) _) hc4) (Nat.le_trans (Nat.add_le_add_left (Nat.le_of_ble_eq_true rfl) _) hs4) rfl hl.1 rfl (Nat.le_of_ble_eq_true rfl) dL_law_499 (fun H locs X => ?_)
  refine lv_istore C.1.1.1 C.1.1.2.1 dL_law_502 hl (by decide) rfl (fun ls hl => ?_)
  refine lv_aload_n C.1.1.1 C.1.1.2.1 dL_law_504 rfl (lv_at hl 3 rfl) ?_
  refine lv_aload_n C.1.1.1 C.1.1.2.1 dL_law_505 rfl (lv_at hl 5 rfl) ?_
  refine lv_iload C.1.1.1 C.1.1.2.1 dL_law_506 (lv_at hl 1 rfl) ?_
  refine lv_iconst C.1.1.1 C.1.1.2.1 dL_law_508 rfl ?_
  refine lv_iadd C.1.1.1 C.1.1.2.1 dL_law_509 ?_
  refine L_ld C X hi.2.1 dL_law_510 ?_
  refine L_callM C.2.2.2.2.2.1.1.1.1 C.2.2.2.2.2.2.1.1 C.2.2.2.2.1 C.2.1 X xv_L_147 rfl (kX12_dismiss C.2.2.2.2.2.2.1.1 C.2.1.2.2.2.2.1 M (xs (Int32.toNatClampNeg (i + 1))) SM om h2) (Nat.le_of_ble_eq_true rfl) (Nat.le_of_ble_eq_true rfl) (Nat.le_trans (Nat.add_le_add_left (Nat.le_of_ble_eq_true rfl) _) hc4) (Nat.le_trans (Nat.add_le_add_left (Nat.le_of_ble_eq_true rfl) _) hs4) rfl hl.1 rfl (Nat.le_of_ble_eq_true rfl) dL_law_511 (fun H locs X => ?_)
  refine lv_istore C.1.1.1 C.1.1.2.1 dL_law_514 hl (by decide) rfl (fun ls hl => ?_)
  refine lv_goto (tgt := 1499) C.1.1.1 C.1.1.2.1 dL_law_516 (by decide) ?_
  exact W.widen (k := cs + 4) (n := sl + 24) (Nat.add_le_add_left (Nat.le_of_ble_eq_true rfl) _) (Nat.add_le_add_left (Nat.le_of_ble_eq_true rfl) _) (kk _ _ _ _ _ _ h6 X (lv_sub hl [2, 3, 4, 5, 6] rfl))
theorem LB_confess (C : LCx p l s m args meth c D g g2 cI cB cZ cQ cS cJ aK aV aO b L xs Am Am2) (hi : Lin i L) (X : LX D g g2 cI cB cZ cQ cS cJ aK aO b L xs SX SM f s H locs) (hJ : J SX SM) (hl : lv_has ls 7 (Llv b (g 0) (g2 99) aO i)) (hc4 : cs + 4 ≤ 601024) (hs4 : sl + 24 ≤ 7293034) (h : Lw_confess J) (kk : ∀ (H1 : Heap) (locs1 : List Loc) (ls1 : Array Slot) (SX1 SM1 : gS) (f1 : Nat → Int64), J SX1 SM1 → LX D g g2 cI cB cZ cQ cS cJ aK aO b L xs SX1 SM1 f1 s H1 locs1 → lv_has ls1 7 (Llv b (g 0) (g2 99) aO i) → W p l e room_1 s m args below meth c H1 locs1 (cs + 4) (sl + 24) Q (F0 m 1499 ls1 [])) : W p l e room_1 s m args below meth c H locs cs sl Q (F0 m 519 ls []) := by
  obtain ⟨N, ox, M, om, h1, h2, h3, h4, h5, h6⟩ := h SX SM (xs (Int32.toNatClampNeg (i + 1))) hJ
  unfold Llv at hl
  refine lv_aload_n C.1.1.1 C.1.1.2.1 dL_law_519 rfl (lv_at hl 3 rfl) ?_
  refine lv_aload_n C.1.1.1 C.1.1.2.1 dL_law_520 rfl (lv_at hl 4 rfl) ?_
  refine lv_iload C.1.1.1 C.1.1.2.1 dL_law_521 (lv_at hl 0 rfl) ?_
  refine lv_iconst C.1.1.1 C.1.1.2.1 dL_law_523 rfl ?_
  refine lv_iadd C.1.1.1 C.1.1.2.1 dL_law_524 ?_
  refine L_ld C X hi.2.1 dL_law_525 ?_
  refine lv_aload_n C.1.1.1 C.1.1.2.1 dL_law_526 rfl (lv_at hl 1 rfl) ?_
  refine L_callS C.2.2.2.2.2.1.1.1.1 C.2.2.2.2.2.2.1.1 C.2.2.2.2.1 C.1 C.2.2.1 C.2.2.2.1 X lw_confess rfl (kL_confess C.2.2.2.2.2.1 C.1.2.2.2.2.1 (fun k hk => (C.2.2.2.2.1.1 k hk).2.1) N (xs (Int32.toNatClampNeg (i + 1))) SX f ox h1 h3) (Nat.le_of_ble_eq_true rfl) (Nat.le_of_ble_eq_true rfl) (Nat.le_trans (Nat.add_le_add_left (Nat.le_of_ble_eq_true rfl) _) hc4) (Nat.le_trans (Nat.add_le_add_left (Nat.le_of_ble_eq_true rfl) _) hs4) rfl hl.1 rfl (Nat.le_of_ble_eq_true rfl) dL_law_527 (fun H locs X => ?_)
  refine lv_istore C.1.1.1 C.1.1.2.1 dL_law_530 hl (by decide) rfl (fun ls hl => ?_)
  refine lv_aload_n C.1.1.1 C.1.1.2.1 dL_law_532 rfl (lv_at hl 3 rfl) ?_
  refine lv_aload_n C.1.1.1 C.1.1.2.1 dL_law_533 rfl (lv_at hl 5 rfl) ?_
  refine lv_iload C.1.1.1 C.1.1.2.1 dL_law_534 (lv_at hl 1 rfl) ?_
  refine lv_iconst C.1.1.1 C.1.1.2.1 dL_law_536 rfl ?_
  refine lv_iadd C.1.1.1 C.1.1.2.1 dL_law_537 ?_
  refine L_ld C X hi.2.1 dL_law_538 ?_
  refine L_callM C.2.2.2.2.2.1.1.1.1 C.2.2.2.2.2.2.1.1 C.2.2.2.2.1 C.2.1 X xv_L_150 rfl (kX12_confess C.2.2.2.2.2.2.1.1 C.2.1.2.2.2.2.1 M (xs (Int32.toNatClampNeg (i + 1))) SM om h2) (Nat.le_of_ble_eq_true rfl) (Nat.le_of_ble_eq_true rfl) (Nat.le_trans (Nat.add_le_add_left (Nat.le_of_ble_eq_true rfl) _) hc4) (Nat.le_trans (Nat.add_le_add_left (Nat.le_of_ble_eq_true rfl) _) hs4) rfl hl.1 rfl (Nat.le_of_ble_eq_true rfl) dL_law_539 (fun H locs X => ?_)
  refine lv_istore C.1.1.1 C.1.1.2.1 dL_law_542 hl (by decide) rfl (fun ls hl => ?_)
  refine lv_aload_n C.1.1.1 C.1.1.2.1 dL_law_544 rfl (lv_at hl 4 rfl) ?_
  refine L_callM C.2.2.2.2.2.1.1.1.1 C.2.2.2.2.2.2.1.1 C.2.2.2.2.1 C.2.1 X xv_L_151 rfl (kX12_thrown C.2.2.2.2.2.2.1.1 C.2.1.2.2.2.2.1 0 om.2 (om.2 99 4, om.2) rfl) (Nat.le_of_ble_eq_true rfl) (Nat.le_of_ble_eq_true rfl) (Nat.le_trans (Nat.add_le_add_left (Nat.le_of_ble_eq_true rfl) _) hc4) (Nat.le_trans (Nat.add_le_add_left (Nat.le_of_ble_eq_true rfl) _) hs4) rfl hl.1 rfl (Nat.le_of_ble_eq_true rfl) dL_law_545 (fun H locs X => ?_)
  refine lv_iload C.1.1.1 C.1.1.2.1 dL_law_548 (lv_at hl 1 rfl) ?_
  refine lv_icmp_eq (tgt := 555) C.1.1.1 C.1.1.2.1 dL_law_550 (by decide) (fun _ => ?_) (fun hz => absurd h4 hz)
  refine lv_iload C.1.1.1 C.1.1.2.1 dL_law_555 (lv_at hl 1 rfl) ?_
  refine lv_if_ne (tgt := 572) C.1.1.1 C.1.1.2.1 dL_law_557 (by decide) (fun _ => ?_) (fun hz0 => ?_)
  · refine lv_goto (tgt := 1499) C.1.1.1 C.1.1.2.1 dL_law_572 (by decide) ?_
    exact W.widen (k := cs + 4) (n := sl + 24) (Nat.add_le_add_left (Nat.le_of_ble_eq_true rfl) _) (Nat.add_le_add_left (Nat.le_of_ble_eq_true rfl) _) (kk _ _ _ _ _ _ h6 X (lv_sub hl [2, 3, 4, 5, 6] rfl))
  · have hox := lcA0 hz0
    refine lv_aload_n C.1.1.1 C.1.1.2.1 dL_law_560 rfl (lv_at hl 3 rfl) ?_
    refine lv_iconst C.1.1.1 C.1.1.2.1 dL_law_561 rfl ?_
    refine va_lald C.1.1.1 C.1.1.2.1 C.2.2.1 X.2.2.1 0 0 rfl rfl (by unfold vp_in; decide) dL_law_562 ?_
    refine lv_iload C.1.1.1 C.1.1.2.1 dL_law_563 (lv_at hl 0 rfl) ?_
    refine lv_i2l C.1.1.1 C.1.1.2.1 dL_law_565 rfl ?_
    refine W.lcmp C.1.1.1 C.1.1.2.1 dL_law_566 ?_
    have he := lg_cmp0 ((lrow0 (f := f) hox).trans (congrArg Int32.toInt64 (h5 hox)))
    refine lv_if_eq (tgt := 572) C.1.1.1 C.1.1.2.1 dL_law_567 (by decide) (fun _ => ?_) (fun hz9 => absurd he hz9)
    refine lv_goto (tgt := 1499) C.1.1.1 C.1.1.2.1 dL_law_572 (by decide) ?_
    exact W.widen (k := cs + 4) (n := sl + 24) (Nat.add_le_add_left (Nat.le_of_ble_eq_true rfl) _) (Nat.add_le_add_left (Nat.le_of_ble_eq_true rfl) _) (kk _ _ _ _ _ _ h6 X (lv_sub hl [2, 3, 4, 5, 6] rfl))
theorem LB_drain0 (C : LCx p l s m args meth c D g g2 cI cB cZ cQ cS cJ aK aV aO b L xs Am Am2) (hi : Lin i L) (X : LX D g g2 cI cB cZ cQ cS cJ aK aO b L xs SX SM f s H locs) (hJ : J SX SM) (hl : lv_has ls 7 (Llv b (g 0) (g2 99) aO i)) (hc4 : cs + 4 ≤ 601024) (hs4 : sl + 24 ≤ 7293034) (hz : xs (Int32.toNatClampNeg (i + 2)) = 0) (h : Lw_drain J) (kk : ∀ (H1 : Heap) (locs1 : List Loc) (ls1 : Array Slot) (SX1 SM1 : gS) (f1 : Nat → Int64), J SX1 SM1 → LX D g g2 cI cB cZ cQ cS cJ aK aO b L xs SX1 SM1 f1 s H1 locs1 → lv_has ls1 7 (Llv b (g 0) (g2 99) aO i) → W p l e room_1 s m args below meth c H1 locs1 (cs + 4) (sl + 24) Q (F0 m 1499 ls1 [])) : W p l e room_1 s m args below meth c H locs cs sl Q (F0 m 575 ls []) := by
  obtain ⟨N, ox, M, om, h1, h2, h3, h4, h5, h6⟩ := h SX SM (xs (Int32.toNatClampNeg (i + 1))) 0 hJ (Or.inl rfl)
  unfold Llv at hl
  refine lv_aload_n C.1.1.1 C.1.1.2.1 dL_law_575 rfl (lv_at hl 3 rfl) ?_
  refine lv_aload_n C.1.1.1 C.1.1.2.1 dL_law_576 rfl (lv_at hl 4 rfl) ?_
  refine lv_iload C.1.1.1 C.1.1.2.1 dL_law_577 (lv_at hl 0 rfl) ?_
  refine lv_iconst C.1.1.1 C.1.1.2.1 dL_law_579 rfl ?_
  refine lv_iadd C.1.1.1 C.1.1.2.1 dL_law_580 ?_
  refine L_ld C X hi.2.1 dL_law_581 ?_
  refine lv_aload_n C.1.1.1 C.1.1.2.1 dL_law_582 rfl (lv_at hl 4 rfl) ?_
  refine lv_iload C.1.1.1 C.1.1.2.1 dL_law_583 (lv_at hl 0 rfl) ?_
  refine lv_iconst C.1.1.1 C.1.1.2.1 dL_law_585 rfl ?_
  refine lv_iadd C.1.1.1 C.1.1.2.1 dL_law_586 ?_
  refine L_ld C X hi.2.2.1 dL_law_587 ?_
  refine lv_if_eq (tgt := 595) C.1.1.1 C.1.1.2.1 dL_law_588 (by decide) (fun _ => ?_) (fun hz9 => absurd hz hz9)
  refine lv_iconst C.1.1.1 C.1.1.2.1 dL_law_595 rfl ?_
  refine lv_aload_n C.1.1.1 C.1.1.2.1 dL_law_596 rfl (lv_at hl 1 rfl) ?_
  refine L_callS C.2.2.2.2.2.1.1.1.1 C.2.2.2.2.2.2.1.1 C.2.2.2.2.1 C.1 C.2.2.1 C.2.2.2.1 X lw_drain rfl (kL_drain C.2.2.2.2.2.1 C.1.2.2.2.2.1 (fun k hk => (C.2.2.2.2.1.1 k hk).2.1) N (xs (Int32.toNatClampNeg (i + 1))) 0 SX f ox h1 h3) (Nat.le_of_ble_eq_true rfl) (Nat.le_of_ble_eq_true rfl) (Nat.le_trans (Nat.add_le_add_left (Nat.le_of_ble_eq_true rfl) _) hc4) (Nat.le_trans (Nat.add_le_add_left (Nat.le_of_ble_eq_true rfl) _) hs4) rfl hl.1 rfl (Nat.le_of_ble_eq_true rfl) dL_law_597 (fun H locs X => ?_)
  refine lv_istore C.1.1.1 C.1.1.2.1 dL_law_600 hl (by decide) rfl (fun ls hl => ?_)
  refine lv_aload_n C.1.1.1 C.1.1.2.1 dL_law_602 rfl (lv_at hl 3 rfl) ?_
  refine lv_aload_n C.1.1.1 C.1.1.2.1 dL_law_603 rfl (lv_at hl 5 rfl) ?_
  refine lv_iload C.1.1.1 C.1.1.2.1 dL_law_604 (lv_at hl 1 rfl) ?_
  refine lv_iconst C.1.1.1 C.1.1.2.1 dL_law_606 rfl ?_
  refine lv_iadd C.1.1.1 C.1.1.2.1 dL_law_607 ?_
  refine L_ld C X hi.2.1 dL_law_608 ?_
  refine lv_aload_n C.1.1.1 C.1.1.2.1 dL_law_609 rfl (lv_at hl 5 rfl) ?_
  refine lv_iload C.1.1.1 C.1.1.2.1 dL_law_610 (lv_at hl 1 rfl) ?_
  refine lv_iconst C.1.1.1 C.1.1.2.1 dL_law_612 rfl ?_
  refine lv_iadd C.1.1.1 C.1.1.2.1 dL_law_613 ?_
  refine L_ld C X hi.2.2.1 dL_law_614 ?_
  refine lv_if_eq (tgt := 622) C.1.1.1 C.1.1.2.1 dL_law_615 (by decide) (fun _ => ?_) (fun hz9 => absurd hz hz9)
  refine lv_iconst C.1.1.1 C.1.1.2.1 dL_law_622 rfl ?_
  refine L_callM C.2.2.2.2.2.1.1.1.1 C.2.2.2.2.2.2.1.1 C.2.2.2.2.1 C.2.1 X xv_L_157 rfl (kX12_drain C.2.2.2.2.2.2.1.1 C.2.1.2.2.2.2.1 M (xs (Int32.toNatClampNeg (i + 1))) 0 SM om h2) (Nat.le_of_ble_eq_true rfl) (Nat.le_of_ble_eq_true rfl) (Nat.le_trans (Nat.add_le_add_left (Nat.le_of_ble_eq_true rfl) _) hc4) (Nat.le_trans (Nat.add_le_add_left (Nat.le_of_ble_eq_true rfl) _) hs4) rfl hl.1 rfl (Nat.le_of_ble_eq_true rfl) dL_law_623 (fun H locs X => ?_)
  refine lv_istore C.1.1.1 C.1.1.2.1 dL_law_626 hl (by decide) rfl (fun ls hl => ?_)
  refine lv_goto (tgt := 1499) C.1.1.1 C.1.1.2.1 dL_law_628 (by decide) ?_
  exact W.widen (k := cs + 4) (n := sl + 24) (Nat.add_le_add_left (Nat.le_of_ble_eq_true rfl) _) (Nat.add_le_add_left (Nat.le_of_ble_eq_true rfl) _) (kk _ _ _ _ _ _ h6 X (lv_sub hl [2, 3, 4, 5, 6] rfl))
theorem LB_drain1 (C : LCx p l s m args meth c D g g2 cI cB cZ cQ cS cJ aK aV aO b L xs Am Am2) (hi : Lin i L) (X : LX D g g2 cI cB cZ cQ cS cJ aK aO b L xs SX SM f s H locs) (hJ : J SX SM) (hl : lv_has ls 7 (Llv b (g 0) (g2 99) aO i)) (hc4 : cs + 4 ≤ 601024) (hs4 : sl + 24 ≤ 7293034) (hz : ¬ xs (Int32.toNatClampNeg (i + 2)) = 0) (h : Lw_drain J) (kk : ∀ (H1 : Heap) (locs1 : List Loc) (ls1 : Array Slot) (SX1 SM1 : gS) (f1 : Nat → Int64), J SX1 SM1 → LX D g g2 cI cB cZ cQ cS cJ aK aO b L xs SX1 SM1 f1 s H1 locs1 → lv_has ls1 7 (Llv b (g 0) (g2 99) aO i) → W p l e room_1 s m args below meth c H1 locs1 (cs + 4) (sl + 24) Q (F0 m 1499 ls1 [])) : W p l e room_1 s m args below meth c H locs cs sl Q (F0 m 575 ls []) := by
  obtain ⟨N, ox, M, om, h1, h2, h3, h4, h5, h6⟩ := h SX SM (xs (Int32.toNatClampNeg (i + 1))) 1 hJ (Or.inr rfl)
  unfold Llv at hl
  refine lv_aload_n C.1.1.1 C.1.1.2.1 dL_law_575 rfl (lv_at hl 3 rfl) ?_
  refine lv_aload_n C.1.1.1 C.1.1.2.1 dL_law_576 rfl (lv_at hl 4 rfl) ?_
  refine lv_iload C.1.1.1 C.1.1.2.1 dL_law_577 (lv_at hl 0 rfl) ?_
  refine lv_iconst C.1.1.1 C.1.1.2.1 dL_law_579 rfl ?_
  refine lv_iadd C.1.1.1 C.1.1.2.1 dL_law_580 ?_
  refine L_ld C X hi.2.1 dL_law_581 ?_
  refine lv_aload_n C.1.1.1 C.1.1.2.1 dL_law_582 rfl (lv_at hl 4 rfl) ?_
  refine lv_iload C.1.1.1 C.1.1.2.1 dL_law_583 (lv_at hl 0 rfl) ?_
  refine lv_iconst C.1.1.1 C.1.1.2.1 dL_law_585 rfl ?_
  refine lv_iadd C.1.1.1 C.1.1.2.1 dL_law_586 ?_
  refine L_ld C X hi.2.2.1 dL_law_587 ?_
  refine lv_if_eq (tgt := 595) C.1.1.1 C.1.1.2.1 dL_law_588 (by decide) (fun hz9 => absurd hz9 hz) (fun _ => ?_)
  refine lv_iconst C.1.1.1 C.1.1.2.1 dL_law_591 rfl ?_
  refine lv_goto (tgt := 596) C.1.1.1 C.1.1.2.1 dL_law_592 (by decide) ?_
  refine lv_aload_n C.1.1.1 C.1.1.2.1 dL_law_596 rfl (lv_at hl 1 rfl) ?_
  refine L_callS C.2.2.2.2.2.1.1.1.1 C.2.2.2.2.2.2.1.1 C.2.2.2.2.1 C.1 C.2.2.1 C.2.2.2.1 X lw_drain rfl (kL_drain C.2.2.2.2.2.1 C.1.2.2.2.2.1 (fun k hk => (C.2.2.2.2.1.1 k hk).2.1) N (xs (Int32.toNatClampNeg (i + 1))) 1 SX f ox h1 h3) (Nat.le_of_ble_eq_true rfl) (Nat.le_of_ble_eq_true rfl) (Nat.le_trans (Nat.add_le_add_left (Nat.le_of_ble_eq_true rfl) _) hc4) (Nat.le_trans (Nat.add_le_add_left (Nat.le_of_ble_eq_true rfl) _) hs4) rfl hl.1 rfl (Nat.le_of_ble_eq_true rfl) dL_law_597 (fun H locs X => ?_)
  refine lv_istore C.1.1.1 C.1.1.2.1 dL_law_600 hl (by decide) rfl (fun ls hl => ?_)
  refine lv_aload_n C.1.1.1 C.1.1.2.1 dL_law_602 rfl (lv_at hl 3 rfl) ?_
  refine lv_aload_n C.1.1.1 C.1.1.2.1 dL_law_603 rfl (lv_at hl 5 rfl) ?_
  refine lv_iload C.1.1.1 C.1.1.2.1 dL_law_604 (lv_at hl 1 rfl) ?_
  refine lv_iconst C.1.1.1 C.1.1.2.1 dL_law_606 rfl ?_
  refine lv_iadd C.1.1.1 C.1.1.2.1 dL_law_607 ?_
  refine L_ld C X hi.2.1 dL_law_608 ?_
  refine lv_aload_n C.1.1.1 C.1.1.2.1 dL_law_609 rfl (lv_at hl 5 rfl) ?_
  refine lv_iload C.1.1.1 C.1.1.2.1 dL_law_610 (lv_at hl 1 rfl) ?_
  refine lv_iconst C.1.1.1 C.1.1.2.1 dL_law_612 rfl ?_
  refine lv_iadd C.1.1.1 C.1.1.2.1 dL_law_613 ?_
  refine L_ld C X hi.2.2.1 dL_law_614 ?_
  refine lv_if_eq (tgt := 622) C.1.1.1 C.1.1.2.1 dL_law_615 (by decide) (fun hz9 => absurd hz9 hz) (fun _ => ?_)
  refine lv_iconst C.1.1.1 C.1.1.2.1 dL_law_618 rfl ?_
  refine lv_goto (tgt := 623) C.1.1.1 C.1.1.2.1 dL_law_619 (by decide) ?_
  refine L_callM C.2.2.2.2.2.1.1.1.1 C.2.2.2.2.2.2.1.1 C.2.2.2.2.1 C.2.1 X xv_L_157 rfl (kX12_drain C.2.2.2.2.2.2.1.1 C.2.1.2.2.2.2.1 M (xs (Int32.toNatClampNeg (i + 1))) 1 SM om h2) (Nat.le_of_ble_eq_true rfl) (Nat.le_of_ble_eq_true rfl) (Nat.le_trans (Nat.add_le_add_left (Nat.le_of_ble_eq_true rfl) _) hc4) (Nat.le_trans (Nat.add_le_add_left (Nat.le_of_ble_eq_true rfl) _) hs4) rfl hl.1 rfl (Nat.le_of_ble_eq_true rfl) dL_law_623 (fun H locs X => ?_)
  refine lv_istore C.1.1.1 C.1.1.2.1 dL_law_626 hl (by decide) rfl (fun ls hl => ?_)
  refine lv_goto (tgt := 1499) C.1.1.1 C.1.1.2.1 dL_law_628 (by decide) ?_
  exact W.widen (k := cs + 4) (n := sl + 24) (Nat.add_le_add_left (Nat.le_of_ble_eq_true rfl) _) (Nat.add_le_add_left (Nat.le_of_ble_eq_true rfl) _) (kk _ _ _ _ _ _ h6 X (lv_sub hl [2, 3, 4, 5, 6] rfl))
theorem LB_give (C : LCx p l s m args meth c D g g2 cI cB cZ cQ cS cJ aK aV aO b L xs Am Am2) (hi : Lin i L) (X : LX D g g2 cI cB cZ cQ cS cJ aK aO b L xs SX SM f s H locs) (hJ : J SX SM) (hl : lv_has ls 7 (Llv b (g 0) (g2 99) aO i)) (hc4 : cs + 4 ≤ 601024) (hs4 : sl + 24 ≤ 7293034) (h : Lw_give J) (kk : ∀ (H1 : Heap) (locs1 : List Loc) (ls1 : Array Slot) (SX1 SM1 : gS) (f1 : Nat → Int64), J SX1 SM1 → LX D g g2 cI cB cZ cQ cS cJ aK aO b L xs SX1 SM1 f1 s H1 locs1 → lv_has ls1 7 (Llv b (g 0) (g2 99) aO i) → W p l e room_1 s m args below meth c H1 locs1 (cs + 4) (sl + 24) Q (F0 m 1499 ls1 [])) : W p l e room_1 s m args below meth c H locs cs sl Q (F0 m 631 ls []) := by
  obtain ⟨N, ox, M, om, h1, h2, h3, h4, h5, h6⟩ := h SX SM (xs (Int32.toNatClampNeg (i + 1))) (xs (Int32.toNatClampNeg (i + 2))) hJ
  unfold Llv at hl
  refine lv_aload_n C.1.1.1 C.1.1.2.1 dL_law_631 rfl (lv_at hl 3 rfl) ?_
  refine lv_aload_n C.1.1.1 C.1.1.2.1 dL_law_632 rfl (lv_at hl 4 rfl) ?_
  refine lv_iload C.1.1.1 C.1.1.2.1 dL_law_633 (lv_at hl 0 rfl) ?_
  refine lv_iconst C.1.1.1 C.1.1.2.1 dL_law_635 rfl ?_
  refine lv_iadd C.1.1.1 C.1.1.2.1 dL_law_636 ?_
  refine L_ld C X hi.2.1 dL_law_637 ?_
  refine lv_aload_n C.1.1.1 C.1.1.2.1 dL_law_638 rfl (lv_at hl 4 rfl) ?_
  refine lv_iload C.1.1.1 C.1.1.2.1 dL_law_639 (lv_at hl 0 rfl) ?_
  refine lv_iconst C.1.1.1 C.1.1.2.1 dL_law_641 rfl ?_
  refine lv_iadd C.1.1.1 C.1.1.2.1 dL_law_642 ?_
  refine L_ld C X hi.2.2.1 dL_law_643 ?_
  refine lv_aload_n C.1.1.1 C.1.1.2.1 dL_law_644 rfl (lv_at hl 1 rfl) ?_
  refine L_callS C.2.2.2.2.2.1.1.1.1 C.2.2.2.2.2.2.1.1 C.2.2.2.2.1 C.1 C.2.2.1 C.2.2.2.1 X lw_give rfl (kL_give C.2.2.2.2.2.1 C.1.2.2.2.2.1 (fun k hk => (C.2.2.2.2.1.1 k hk).2.1) N (xs (Int32.toNatClampNeg (i + 1))) (xs (Int32.toNatClampNeg (i + 2))) SX f ox h1 h3) (Nat.le_of_ble_eq_true rfl) (Nat.le_of_ble_eq_true rfl) (Nat.le_trans (Nat.add_le_add_left (Nat.le_of_ble_eq_true rfl) _) hc4) (Nat.le_trans (Nat.add_le_add_left (Nat.le_of_ble_eq_true rfl) _) hs4) rfl hl.1 rfl (Nat.le_of_ble_eq_true rfl) dL_law_645 (fun H locs X => ?_)
  refine lv_istore C.1.1.1 C.1.1.2.1 dL_law_648 hl (by decide) rfl (fun ls hl => ?_)
  refine lv_aload_n C.1.1.1 C.1.1.2.1 dL_law_650 rfl (lv_at hl 3 rfl) ?_
  refine lv_aload_n C.1.1.1 C.1.1.2.1 dL_law_651 rfl (lv_at hl 5 rfl) ?_
  refine lv_iload C.1.1.1 C.1.1.2.1 dL_law_652 (lv_at hl 1 rfl) ?_
  refine lv_iconst C.1.1.1 C.1.1.2.1 dL_law_654 rfl ?_
  refine lv_iadd C.1.1.1 C.1.1.2.1 dL_law_655 ?_
  refine L_ld C X hi.2.1 dL_law_656 ?_
  refine lv_aload_n C.1.1.1 C.1.1.2.1 dL_law_657 rfl (lv_at hl 5 rfl) ?_
  refine lv_iload C.1.1.1 C.1.1.2.1 dL_law_658 (lv_at hl 1 rfl) ?_
  refine lv_iconst C.1.1.1 C.1.1.2.1 dL_law_660 rfl ?_
  refine lv_iadd C.1.1.1 C.1.1.2.1 dL_law_661 ?_
  refine L_ld C X hi.2.2.1 dL_law_662 ?_
  refine L_callM C.2.2.2.2.2.1.1.1.1 C.2.2.2.2.2.2.1.1 C.2.2.2.2.1 C.2.1 X xv_L_160 rfl (kX12_give C.2.2.2.2.2.2.1.1 C.2.1.2.2.2.2.1 M (xs (Int32.toNatClampNeg (i + 1))) (xs (Int32.toNatClampNeg (i + 2))) SM om h2) (Nat.le_of_ble_eq_true rfl) (Nat.le_of_ble_eq_true rfl) (Nat.le_trans (Nat.add_le_add_left (Nat.le_of_ble_eq_true rfl) _) hc4) (Nat.le_trans (Nat.add_le_add_left (Nat.le_of_ble_eq_true rfl) _) hs4) rfl hl.1 rfl (Nat.le_of_ble_eq_true rfl) dL_law_663 (fun H locs X => ?_)
  refine lv_istore C.1.1.1 C.1.1.2.1 dL_law_666 hl (by decide) rfl (fun ls hl => ?_)
  refine lv_goto (tgt := 1499) C.1.1.1 C.1.1.2.1 dL_law_668 (by decide) ?_
  exact W.widen (k := cs + 4) (n := sl + 24) (Nat.add_le_add_left (Nat.le_of_ble_eq_true rfl) _) (Nat.add_le_add_left (Nat.le_of_ble_eq_true rfl) _) (kk _ _ _ _ _ _ h6 X (lv_sub hl [2, 3, 4, 5, 6] rfl))
theorem LB_undo (C : LCx p l s m args meth c D g g2 cI cB cZ cQ cS cJ aK aV aO b L xs Am Am2) (hi : Lin i L) (X : LX D g g2 cI cB cZ cQ cS cJ aK aO b L xs SX SM f s H locs) (hJ : J SX SM) (hl : lv_has ls 7 (Llv b (g 0) (g2 99) aO i)) (hc4 : cs + 4 ≤ 601024) (hs4 : sl + 24 ≤ 7293034) (h : Lw_undo J) (kk : ∀ (H1 : Heap) (locs1 : List Loc) (ls1 : Array Slot) (SX1 SM1 : gS) (f1 : Nat → Int64), J SX1 SM1 → LX D g g2 cI cB cZ cQ cS cJ aK aO b L xs SX1 SM1 f1 s H1 locs1 → lv_has ls1 7 (Llv b (g 0) (g2 99) aO i) → W p l e room_1 s m args below meth c H1 locs1 (cs + 4) (sl + 24) Q (F0 m 1499 ls1 [])) : W p l e room_1 s m args below meth c H locs cs sl Q (F0 m 671 ls []) := by
  obtain ⟨N, ox, M, om, h1, h2, h5, h6⟩ := h SX SM  hJ
  unfold Llv at hl
  refine lv_aload_n C.1.1.1 C.1.1.2.1 dL_law_671 rfl (lv_at hl 3 rfl) ?_
  refine L_callX C.2.2.2.2.2.1.1.1.1 C.2.2.2.2.2.2.1.1 C.2.2.2.2.1 C.1 X xv_L_161 rfl (kX11_undo C.2.2.2.2.2.1.1.1 C.1.2.2.2.2.1 N  SX ox h1) (Nat.le_of_ble_eq_true rfl) (Nat.le_of_ble_eq_true rfl) (Nat.le_trans (Nat.le_add_right _ _) hc4) (Nat.le_trans (Nat.le_add_right _ _) hs4) rfl hl.1 rfl (Nat.le_of_ble_eq_true rfl) dL_law_672 (fun H locs X => ?_)
  refine lv_pop C.1.1.1 C.1.1.2.1 dL_law_675 rfl ?_
  refine lv_aload_n C.1.1.1 C.1.1.2.1 dL_law_676 rfl (lv_at hl 2 rfl) ?_
  refine L_callM C.2.2.2.2.2.1.1.1.1 C.2.2.2.2.2.2.1.1 C.2.2.2.2.1 C.2.1 X xv_L_164 rfl (kX12_undo C.2.2.2.2.2.2.1.1 C.2.1.2.2.2.2.1 M  SM om h2) (Nat.le_of_ble_eq_true rfl) (Nat.le_of_ble_eq_true rfl) (Nat.le_trans (Nat.le_add_right _ _) hc4) (Nat.le_trans (Nat.le_add_right _ _) hs4) rfl hl.1 rfl (Nat.le_of_ble_eq_true rfl) dL_law_677 (fun H locs X => ?_)
  refine lv_pop C.1.1.1 C.1.1.2.1 dL_law_680 rfl ?_
  refine lv_goto (tgt := 1499) C.1.1.1 C.1.1.2.1 dL_law_681 (by decide) ?_
  exact W.widen (k := cs + 4) (n := sl + 24) (Nat.le_add_right _ _) (Nat.le_add_right _ _) (kk _ _ _ _ _ _ h6 X (lv_sub hl [0, 1, 2, 3, 4] rfl))
theorem LB_then (C : LCx p l s m args meth c D g g2 cI cB cZ cQ cS cJ aK aV aO b L xs Am Am2) (hi : Lin i L) (X : LX D g g2 cI cB cZ cQ cS cJ aK aO b L xs SX SM f s H locs) (hJ : J SX SM) (hl : lv_has ls 7 (Llv b (g 0) (g2 99) aO i)) (hc4 : cs + 4 ≤ 601024) (hs4 : sl + 24 ≤ 7293034) (h : Lw_then J) (kk : ∀ (H1 : Heap) (locs1 : List Loc) (ls1 : Array Slot) (SX1 SM1 : gS) (f1 : Nat → Int64), J SX1 SM1 → LX D g g2 cI cB cZ cQ cS cJ aK aO b L xs SX1 SM1 f1 s H1 locs1 → lv_has ls1 7 (Llv b (g 0) (g2 99) aO i) → W p l e room_1 s m args below meth c H1 locs1 (cs + 4) (sl + 24) Q (F0 m 1499 ls1 [])) : W p l e room_1 s m args below meth c H locs cs sl Q (F0 m 684 ls []) := by
  obtain ⟨N, ox, M, om, h1, h2, h3, h4, h5, h6⟩ := h SX SM (xs (Int32.toNatClampNeg (i + 1))) (xs (Int32.toNatClampNeg (i + 2))) (xs (Int32.toNatClampNeg (i + 3))) hJ
  unfold Llv at hl
  refine lv_aload_n C.1.1.1 C.1.1.2.1 dL_law_684 rfl (lv_at hl 3 rfl) ?_
  refine lv_aload_n C.1.1.1 C.1.1.2.1 dL_law_685 rfl (lv_at hl 4 rfl) ?_
  refine lv_iload C.1.1.1 C.1.1.2.1 dL_law_686 (lv_at hl 0 rfl) ?_
  refine lv_iconst C.1.1.1 C.1.1.2.1 dL_law_688 rfl ?_
  refine lv_iadd C.1.1.1 C.1.1.2.1 dL_law_689 ?_
  refine L_ld C X hi.2.1 dL_law_690 ?_
  refine lv_aload_n C.1.1.1 C.1.1.2.1 dL_law_691 rfl (lv_at hl 4 rfl) ?_
  refine lv_iload C.1.1.1 C.1.1.2.1 dL_law_692 (lv_at hl 0 rfl) ?_
  refine lv_iconst C.1.1.1 C.1.1.2.1 dL_law_694 rfl ?_
  refine lv_iadd C.1.1.1 C.1.1.2.1 dL_law_695 ?_
  refine L_ld C X hi.2.2.1 dL_law_696 ?_
  refine lv_aload_n C.1.1.1 C.1.1.2.1 dL_law_697 rfl (lv_at hl 4 rfl) ?_
  refine lv_iload C.1.1.1 C.1.1.2.1 dL_law_698 (lv_at hl 0 rfl) ?_
  refine lv_iconst C.1.1.1 C.1.1.2.1 dL_law_700 rfl ?_
  refine lv_iadd C.1.1.1 C.1.1.2.1 dL_law_701 ?_
  refine L_ld C X hi.2.2.2.1 dL_law_702 ?_
  refine lv_aload_n C.1.1.1 C.1.1.2.1 dL_law_703 rfl (lv_at hl 1 rfl) ?_
  refine L_callS C.2.2.2.2.2.1.1.1.1 C.2.2.2.2.2.2.1.1 C.2.2.2.2.1 C.1 C.2.2.1 C.2.2.2.1 X lw_then rfl (kL_then C.2.2.2.2.2.1 C.1.2.2.2.2.1 (fun k hk => (C.2.2.2.2.1.1 k hk).2.1) N (xs (Int32.toNatClampNeg (i + 1))) (xs (Int32.toNatClampNeg (i + 2))) (xs (Int32.toNatClampNeg (i + 3))) SX f ox h1 h3) (Nat.le_of_ble_eq_true rfl) (Nat.le_of_ble_eq_true rfl) (Nat.le_trans (Nat.add_le_add_left (Nat.le_of_ble_eq_true rfl) _) hc4) (Nat.le_trans (Nat.add_le_add_left (Nat.le_of_ble_eq_true rfl) _) hs4) rfl hl.1 rfl (Nat.le_of_ble_eq_true rfl) dL_law_704 (fun H locs X => ?_)
  refine lv_istore C.1.1.1 C.1.1.2.1 dL_law_707 hl (by decide) rfl (fun ls hl => ?_)
  refine lv_aload_n C.1.1.1 C.1.1.2.1 dL_law_709 rfl (lv_at hl 3 rfl) ?_
  refine lv_aload_n C.1.1.1 C.1.1.2.1 dL_law_710 rfl (lv_at hl 5 rfl) ?_
  refine lv_iload C.1.1.1 C.1.1.2.1 dL_law_711 (lv_at hl 1 rfl) ?_
  refine lv_iconst C.1.1.1 C.1.1.2.1 dL_law_713 rfl ?_
  refine lv_iadd C.1.1.1 C.1.1.2.1 dL_law_714 ?_
  refine L_ld C X hi.2.1 dL_law_715 ?_
  refine lv_aload_n C.1.1.1 C.1.1.2.1 dL_law_716 rfl (lv_at hl 5 rfl) ?_
  refine lv_iload C.1.1.1 C.1.1.2.1 dL_law_717 (lv_at hl 1 rfl) ?_
  refine lv_iconst C.1.1.1 C.1.1.2.1 dL_law_719 rfl ?_
  refine lv_iadd C.1.1.1 C.1.1.2.1 dL_law_720 ?_
  refine L_ld C X hi.2.2.1 dL_law_721 ?_
  refine lv_aload_n C.1.1.1 C.1.1.2.1 dL_law_722 rfl (lv_at hl 5 rfl) ?_
  refine lv_iload C.1.1.1 C.1.1.2.1 dL_law_723 (lv_at hl 1 rfl) ?_
  refine lv_iconst C.1.1.1 C.1.1.2.1 dL_law_725 rfl ?_
  refine lv_iadd C.1.1.1 C.1.1.2.1 dL_law_726 ?_
  refine L_ld C X hi.2.2.2.1 dL_law_727 ?_
  refine L_callM C.2.2.2.2.2.1.1.1.1 C.2.2.2.2.2.2.1.1 C.2.2.2.2.1 C.2.1 X xv_L_168 rfl (kX12_then C.2.2.2.2.2.2.1.1 C.2.1.2.2.2.2.1 M (xs (Int32.toNatClampNeg (i + 1))) (xs (Int32.toNatClampNeg (i + 2))) (xs (Int32.toNatClampNeg (i + 3))) SM om h2) (Nat.le_of_ble_eq_true rfl) (Nat.le_of_ble_eq_true rfl) (Nat.le_trans (Nat.add_le_add_left (Nat.le_of_ble_eq_true rfl) _) hc4) (Nat.le_trans (Nat.add_le_add_left (Nat.le_of_ble_eq_true rfl) _) hs4) rfl hl.1 rfl (Nat.le_of_ble_eq_true rfl) dL_law_728 (fun H locs X => ?_)
  refine lv_istore C.1.1.1 C.1.1.2.1 dL_law_731 hl (by decide) rfl (fun ls hl => ?_)
  refine lv_goto (tgt := 1499) C.1.1.1 C.1.1.2.1 dL_law_733 (by decide) ?_
  exact W.widen (k := cs + 4) (n := sl + 24) (Nat.add_le_add_left (Nat.le_of_ble_eq_true rfl) _) (Nat.add_le_add_left (Nat.le_of_ble_eq_true rfl) _) (kk _ _ _ _ _ _ h6 X (lv_sub hl [2, 3, 4, 5, 6] rfl))
theorem LB_dripping (C : LCx p l s m args meth c D g g2 cI cB cZ cQ cS cJ aK aV aO b L xs Am Am2) (hi : Lin i L) (X : LX D g g2 cI cB cZ cQ cS cJ aK aO b L xs SX SM f s H locs) (hJ : J SX SM) (hl : lv_has ls 7 (Llv b (g 0) (g2 99) aO i)) (hc4 : cs + 4 ≤ 601024) (hs4 : sl + 24 ≤ 7293034) (h : Lw_dripping J) (kk : ∀ (H1 : Heap) (locs1 : List Loc) (ls1 : Array Slot) (SX1 SM1 : gS) (f1 : Nat → Int64), J SX1 SM1 → LX D g g2 cI cB cZ cQ cS cJ aK aO b L xs SX1 SM1 f1 s H1 locs1 → lv_has ls1 7 (Llv b (g 0) (g2 99) aO i) → W p l e room_1 s m args below meth c H1 locs1 (cs + 4) (sl + 24) Q (F0 m 1499 ls1 [])) : W p l e room_1 s m args below meth c H locs cs sl Q (F0 m 736 ls []) := by
  obtain ⟨N, ox, M, om, h1, h2, h3, h4, h5, h6⟩ := h SX SM (xs (Int32.toNatClampNeg (i + 1))) hJ
  unfold Llv at hl
  refine lv_aload_n C.1.1.1 C.1.1.2.1 dL_law_736 rfl (lv_at hl 3 rfl) ?_
  refine lv_aload_n C.1.1.1 C.1.1.2.1 dL_law_737 rfl (lv_at hl 4 rfl) ?_
  refine lv_iload C.1.1.1 C.1.1.2.1 dL_law_738 (lv_at hl 0 rfl) ?_
  refine lv_iconst C.1.1.1 C.1.1.2.1 dL_law_740 rfl ?_
  refine lv_iadd C.1.1.1 C.1.1.2.1 dL_law_741 ?_
  refine L_ld C X hi.2.1 dL_law_742 ?_
  refine lv_aload_n C.1.1.1 C.1.1.2.1 dL_law_743 rfl (lv_at hl 1 rfl) ?_
  refine L_callS C.2.2.2.2.2.1.1.1.1 C.2.2.2.2.2.2.1.1 C.2.2.2.2.1 C.1 C.2.2.1 C.2.2.2.1 X lw_dripping rfl (kL_dripping C.2.2.2.2.2.1 C.1.2.2.2.2.1 (fun k hk => (C.2.2.2.2.1.1 k hk).2.1) N (xs (Int32.toNatClampNeg (i + 1))) SX f ox h1 h3) (Nat.le_of_ble_eq_true rfl) (Nat.le_of_ble_eq_true rfl) (Nat.le_trans (Nat.add_le_add_left (Nat.le_of_ble_eq_true rfl) _) hc4) (Nat.le_trans (Nat.add_le_add_left (Nat.le_of_ble_eq_true rfl) _) hs4) rfl hl.1 rfl (Nat.le_of_ble_eq_true rfl) dL_law_744 (fun H locs X => ?_)
  refine lv_istore C.1.1.1 C.1.1.2.1 dL_law_747 hl (by decide) rfl (fun ls hl => ?_)
  refine lv_aload_n C.1.1.1 C.1.1.2.1 dL_law_749 rfl (lv_at hl 3 rfl) ?_
  refine lv_aload_n C.1.1.1 C.1.1.2.1 dL_law_750 rfl (lv_at hl 5 rfl) ?_
  refine lv_iload C.1.1.1 C.1.1.2.1 dL_law_751 (lv_at hl 1 rfl) ?_
  refine lv_iconst C.1.1.1 C.1.1.2.1 dL_law_753 rfl ?_
  refine lv_iadd C.1.1.1 C.1.1.2.1 dL_law_754 ?_
  refine L_ld C X hi.2.1 dL_law_755 ?_
  refine L_callM C.2.2.2.2.2.1.1.1.1 C.2.2.2.2.2.2.1.1 C.2.2.2.2.1 C.2.1 X xv_L_171 rfl (kX12_dripping C.2.2.2.2.2.2.1.1 C.2.1.2.2.2.2.1 M (xs (Int32.toNatClampNeg (i + 1))) SM om h2) (Nat.le_of_ble_eq_true rfl) (Nat.le_of_ble_eq_true rfl) (Nat.le_trans (Nat.add_le_add_left (Nat.le_of_ble_eq_true rfl) _) hc4) (Nat.le_trans (Nat.add_le_add_left (Nat.le_of_ble_eq_true rfl) _) hs4) rfl hl.1 rfl (Nat.le_of_ble_eq_true rfl) dL_law_756 (fun H locs X => ?_)
  refine lv_istore C.1.1.1 C.1.1.2.1 dL_law_759 hl (by decide) rfl (fun ls hl => ?_)
  refine lv_goto (tgt := 1499) C.1.1.1 C.1.1.2.1 dL_law_761 (by decide) ?_
  exact W.widen (k := cs + 4) (n := sl + 24) (Nat.add_le_add_left (Nat.le_of_ble_eq_true rfl) _) (Nat.add_le_add_left (Nat.le_of_ble_eq_true rfl) _) (kk _ _ _ _ _ _ h6 X (lv_sub hl [2, 3, 4, 5, 6] rfl))
theorem LB_first (C : LCx p l s m args meth c D g g2 cI cB cZ cQ cS cJ aK aV aO b L xs Am Am2) (hi : Lin i L) (X : LX D g g2 cI cB cZ cQ cS cJ aK aO b L xs SX SM f s H locs) (hJ : J SX SM) (hl : lv_has ls 7 (Llv b (g 0) (g2 99) aO i)) (hc4 : cs + 4 ≤ 601024) (hs4 : sl + 24 ≤ 7293034) (h : Lw_first J) (kk : ∀ (H1 : Heap) (locs1 : List Loc) (ls1 : Array Slot) (SX1 SM1 : gS) (f1 : Nat → Int64), J SX1 SM1 → LX D g g2 cI cB cZ cQ cS cJ aK aO b L xs SX1 SM1 f1 s H1 locs1 → lv_has ls1 7 (Llv b (g 0) (g2 99) aO i) → W p l e room_1 s m args below meth c H1 locs1 (cs + 4) (sl + 24) Q (F0 m 1499 ls1 [])) : W p l e room_1 s m args below meth c H locs cs sl Q (F0 m 764 ls []) := by
  obtain ⟨N, ox, M, om, h1, h2, h3, h4, h5, h6⟩ := h SX SM (xs (Int32.toNatClampNeg (i + 1))) hJ
  unfold Llv at hl
  refine lv_aload_n C.1.1.1 C.1.1.2.1 dL_law_764 rfl (lv_at hl 3 rfl) ?_
  refine lv_aload_n C.1.1.1 C.1.1.2.1 dL_law_765 rfl (lv_at hl 4 rfl) ?_
  refine lv_iload C.1.1.1 C.1.1.2.1 dL_law_766 (lv_at hl 0 rfl) ?_
  refine lv_iconst C.1.1.1 C.1.1.2.1 dL_law_768 rfl ?_
  refine lv_iadd C.1.1.1 C.1.1.2.1 dL_law_769 ?_
  refine L_ld C X hi.2.1 dL_law_770 ?_
  refine lv_aload_n C.1.1.1 C.1.1.2.1 dL_law_771 rfl (lv_at hl 1 rfl) ?_
  refine L_callS C.2.2.2.2.2.1.1.1.1 C.2.2.2.2.2.2.1.1 C.2.2.2.2.1 C.1 C.2.2.1 C.2.2.2.1 X lw_first rfl (kL_first C.2.2.2.2.2.1 C.1.2.2.2.2.1 (fun k hk => (C.2.2.2.2.1.1 k hk).2.1) N (xs (Int32.toNatClampNeg (i + 1))) SX f ox h1 h3) (Nat.le_of_ble_eq_true rfl) (Nat.le_of_ble_eq_true rfl) (Nat.le_trans (Nat.add_le_add_left (Nat.le_of_ble_eq_true rfl) _) hc4) (Nat.le_trans (Nat.add_le_add_left (Nat.le_of_ble_eq_true rfl) _) hs4) rfl hl.1 rfl (Nat.le_of_ble_eq_true rfl) dL_law_772 (fun H locs X => ?_)
  refine lv_istore C.1.1.1 C.1.1.2.1 dL_law_775 hl (by decide) rfl (fun ls hl => ?_)
  refine lv_aload_n C.1.1.1 C.1.1.2.1 dL_law_777 rfl (lv_at hl 3 rfl) ?_
  refine lv_aload_n C.1.1.1 C.1.1.2.1 dL_law_778 rfl (lv_at hl 5 rfl) ?_
  refine lv_iload C.1.1.1 C.1.1.2.1 dL_law_779 (lv_at hl 1 rfl) ?_
  refine lv_iconst C.1.1.1 C.1.1.2.1 dL_law_781 rfl ?_
  refine lv_iadd C.1.1.1 C.1.1.2.1 dL_law_782 ?_
  refine L_ld C X hi.2.1 dL_law_783 ?_
  refine L_callM C.2.2.2.2.2.1.1.1.1 C.2.2.2.2.2.2.1.1 C.2.2.2.2.1 C.2.1 X xv_L_174 rfl (kX12_first C.2.2.2.2.2.2.1.1 C.2.1.2.2.2.2.1 M (xs (Int32.toNatClampNeg (i + 1))) SM om h2) (Nat.le_of_ble_eq_true rfl) (Nat.le_of_ble_eq_true rfl) (Nat.le_trans (Nat.add_le_add_left (Nat.le_of_ble_eq_true rfl) _) hc4) (Nat.le_trans (Nat.add_le_add_left (Nat.le_of_ble_eq_true rfl) _) hs4) rfl hl.1 rfl (Nat.le_of_ble_eq_true rfl) dL_law_784 (fun H locs X => ?_)
  refine lv_istore C.1.1.1 C.1.1.2.1 dL_law_787 hl (by decide) rfl (fun ls hl => ?_)
  refine lv_goto (tgt := 1499) C.1.1.1 C.1.1.2.1 dL_law_789 (by decide) ?_
  exact W.widen (k := cs + 4) (n := sl + 24) (Nat.add_le_add_left (Nat.le_of_ble_eq_true rfl) _) (Nat.add_le_add_left (Nat.le_of_ble_eq_true rfl) _) (kk _ _ _ _ _ _ h6 X (lv_sub hl [2, 3, 4, 5, 6] rfl))
theorem LB_dismissed (C : LCx p l s m args meth c D g g2 cI cB cZ cQ cS cJ aK aV aO b L xs Am Am2) (hi : Lin i L) (X : LX D g g2 cI cB cZ cQ cS cJ aK aO b L xs SX SM f s H locs) (hJ : J SX SM) (hl : lv_has ls 7 (Llv b (g 0) (g2 99) aO i)) (hc4 : cs + 4 ≤ 601024) (hs4 : sl + 24 ≤ 7293034) (h : Lw_dismissed J) (kk : ∀ (H1 : Heap) (locs1 : List Loc) (ls1 : Array Slot) (SX1 SM1 : gS) (f1 : Nat → Int64), J SX1 SM1 → LX D g g2 cI cB cZ cQ cS cJ aK aO b L xs SX1 SM1 f1 s H1 locs1 → lv_has ls1 7 (Llv b (g 0) (g2 99) aO i) → W p l e room_1 s m args below meth c H1 locs1 (cs + 4) (sl + 24) Q (F0 m 1499 ls1 [])) : W p l e room_1 s m args below meth c H locs cs sl Q (F0 m 792 ls []) := by
  obtain ⟨N, ox, M, om, h1, h2, h3, h4, h5, h6⟩ := h SX SM (xs (Int32.toNatClampNeg (i + 1))) hJ
  unfold Llv at hl
  refine lv_aload_n C.1.1.1 C.1.1.2.1 dL_law_792 rfl (lv_at hl 3 rfl) ?_
  refine lv_aload_n C.1.1.1 C.1.1.2.1 dL_law_793 rfl (lv_at hl 4 rfl) ?_
  refine lv_iload C.1.1.1 C.1.1.2.1 dL_law_794 (lv_at hl 0 rfl) ?_
  refine lv_iconst C.1.1.1 C.1.1.2.1 dL_law_796 rfl ?_
  refine lv_iadd C.1.1.1 C.1.1.2.1 dL_law_797 ?_
  refine L_ld C X hi.2.1 dL_law_798 ?_
  refine lv_aload_n C.1.1.1 C.1.1.2.1 dL_law_799 rfl (lv_at hl 1 rfl) ?_
  refine L_callS C.2.2.2.2.2.1.1.1.1 C.2.2.2.2.2.2.1.1 C.2.2.2.2.1 C.1 C.2.2.1 C.2.2.2.1 X lw_dismissed rfl (kL_dismissed C.2.2.2.2.2.1 C.1.2.2.2.2.1 (fun k hk => (C.2.2.2.2.1.1 k hk).2.1) N (xs (Int32.toNatClampNeg (i + 1))) SX f ox h1 h3) (Nat.le_of_ble_eq_true rfl) (Nat.le_of_ble_eq_true rfl) (Nat.le_trans (Nat.add_le_add_left (Nat.le_of_ble_eq_true rfl) _) hc4) (Nat.le_trans (Nat.add_le_add_left (Nat.le_of_ble_eq_true rfl) _) hs4) rfl hl.1 rfl (Nat.le_of_ble_eq_true rfl) dL_law_800 (fun H locs X => ?_)
  refine lv_istore C.1.1.1 C.1.1.2.1 dL_law_803 hl (by decide) rfl (fun ls hl => ?_)
  refine lv_aload_n C.1.1.1 C.1.1.2.1 dL_law_805 rfl (lv_at hl 3 rfl) ?_
  refine lv_aload_n C.1.1.1 C.1.1.2.1 dL_law_806 rfl (lv_at hl 5 rfl) ?_
  refine lv_iload C.1.1.1 C.1.1.2.1 dL_law_807 (lv_at hl 1 rfl) ?_
  refine lv_iconst C.1.1.1 C.1.1.2.1 dL_law_809 rfl ?_
  refine lv_iadd C.1.1.1 C.1.1.2.1 dL_law_810 ?_
  refine L_ld C X hi.2.1 dL_law_811 ?_
  refine L_callM C.2.2.2.2.2.1.1.1.1 C.2.2.2.2.2.2.1.1 C.2.2.2.2.1 C.2.1 X xv_L_177 rfl (kX12_dismissed C.2.2.2.2.2.2.1.1 C.2.1.2.2.2.2.1 M (xs (Int32.toNatClampNeg (i + 1))) SM om h2) (Nat.le_of_ble_eq_true rfl) (Nat.le_of_ble_eq_true rfl) (Nat.le_trans (Nat.add_le_add_left (Nat.le_of_ble_eq_true rfl) _) hc4) (Nat.le_trans (Nat.add_le_add_left (Nat.le_of_ble_eq_true rfl) _) hs4) rfl hl.1 rfl (Nat.le_of_ble_eq_true rfl) dL_law_812 (fun H locs X => ?_)
  refine lv_istore C.1.1.1 C.1.1.2.1 dL_law_815 hl (by decide) rfl (fun ls hl => ?_)
  refine lv_goto (tgt := 1499) C.1.1.1 C.1.1.2.1 dL_law_817 (by decide) ?_
  exact W.widen (k := cs + 4) (n := sl + 24) (Nat.add_le_add_left (Nat.le_of_ble_eq_true rfl) _) (Nat.add_le_add_left (Nat.le_of_ble_eq_true rfl) _) (kk _ _ _ _ _ _ h6 X (lv_sub hl [2, 3, 4, 5, 6] rfl))
theorem LB_most (C : LCx p l s m args meth c D g g2 cI cB cZ cQ cS cJ aK aV aO b L xs Am Am2) (hi : Lin i L) (X : LX D g g2 cI cB cZ cQ cS cJ aK aO b L xs SX SM f s H locs) (hJ : J SX SM) (hl : lv_has ls 7 (Llv b (g 0) (g2 99) aO i)) (hc4 : cs + 4 ≤ 601024) (hs4 : sl + 24 ≤ 7293034) (h : Lw_most J) (kk : ∀ (H1 : Heap) (locs1 : List Loc) (ls1 : Array Slot) (SX1 SM1 : gS) (f1 : Nat → Int64), J SX1 SM1 → LX D g g2 cI cB cZ cQ cS cJ aK aO b L xs SX1 SM1 f1 s H1 locs1 → lv_has ls1 7 (Llv b (g 0) (g2 99) aO i) → W p l e room_1 s m args below meth c H1 locs1 (cs + 4) (sl + 24) Q (F0 m 1499 ls1 [])) : W p l e room_1 s m args below meth c H locs cs sl Q (F0 m 820 ls []) := by
  obtain ⟨N, ox, M, om, h1, h2, h3, h4, h5, h6⟩ := h SX SM (xs (Int32.toNatClampNeg (i + 1))) (xs (Int32.toNatClampNeg (i + 2))) hJ
  unfold Llv at hl
  refine lv_aload_n C.1.1.1 C.1.1.2.1 dL_law_820 rfl (lv_at hl 3 rfl) ?_
  refine lv_aload_n C.1.1.1 C.1.1.2.1 dL_law_821 rfl (lv_at hl 4 rfl) ?_
  refine lv_iload C.1.1.1 C.1.1.2.1 dL_law_822 (lv_at hl 0 rfl) ?_
  refine lv_iconst C.1.1.1 C.1.1.2.1 dL_law_824 rfl ?_
  refine lv_iadd C.1.1.1 C.1.1.2.1 dL_law_825 ?_
  refine L_ld C X hi.2.1 dL_law_826 ?_
  refine lv_aload_n C.1.1.1 C.1.1.2.1 dL_law_827 rfl (lv_at hl 4 rfl) ?_
  refine lv_iload C.1.1.1 C.1.1.2.1 dL_law_828 (lv_at hl 0 rfl) ?_
  refine lv_iconst C.1.1.1 C.1.1.2.1 dL_law_830 rfl ?_
  refine lv_iadd C.1.1.1 C.1.1.2.1 dL_law_831 ?_
  refine L_ld C X hi.2.2.1 dL_law_832 ?_
  refine lv_aload_n C.1.1.1 C.1.1.2.1 dL_law_833 rfl (lv_at hl 1 rfl) ?_
  refine L_callS C.2.2.2.2.2.1.1.1.1 C.2.2.2.2.2.2.1.1 C.2.2.2.2.1 C.1 C.2.2.1 C.2.2.2.1 X lw_most rfl (kL_most C.2.2.2.2.2.1 C.1.2.2.2.2.1 (fun k hk => (C.2.2.2.2.1.1 k hk).2.1) N (xs (Int32.toNatClampNeg (i + 1))) (xs (Int32.toNatClampNeg (i + 2))) SX f ox h1 h3) (Nat.le_of_ble_eq_true rfl) (Nat.le_of_ble_eq_true rfl) (Nat.le_trans (Nat.add_le_add_left (Nat.le_of_ble_eq_true rfl) _) hc4) (Nat.le_trans (Nat.add_le_add_left (Nat.le_of_ble_eq_true rfl) _) hs4) rfl hl.1 rfl (Nat.le_of_ble_eq_true rfl) dL_law_834 (fun H locs X => ?_)
  refine lv_istore C.1.1.1 C.1.1.2.1 dL_law_837 hl (by decide) rfl (fun ls hl => ?_)
  refine lv_aload_n C.1.1.1 C.1.1.2.1 dL_law_839 rfl (lv_at hl 3 rfl) ?_
  refine lv_aload_n C.1.1.1 C.1.1.2.1 dL_law_840 rfl (lv_at hl 5 rfl) ?_
  refine lv_iload C.1.1.1 C.1.1.2.1 dL_law_841 (lv_at hl 1 rfl) ?_
  refine lv_iconst C.1.1.1 C.1.1.2.1 dL_law_843 rfl ?_
  refine lv_iadd C.1.1.1 C.1.1.2.1 dL_law_844 ?_
  refine L_ld C X hi.2.1 dL_law_845 ?_
  refine lv_aload_n C.1.1.1 C.1.1.2.1 dL_law_846 rfl (lv_at hl 5 rfl) ?_
  refine lv_iload C.1.1.1 C.1.1.2.1 dL_law_847 (lv_at hl 1 rfl) ?_
  refine lv_iconst C.1.1.1 C.1.1.2.1 dL_law_849 rfl ?_
  refine lv_iadd C.1.1.1 C.1.1.2.1 dL_law_850 ?_
  refine L_ld C X hi.2.2.1 dL_law_851 ?_
  refine L_callM C.2.2.2.2.2.1.1.1.1 C.2.2.2.2.2.2.1.1 C.2.2.2.2.1 C.2.1 X xv_L_180 rfl (kX12_most C.2.2.2.2.2.2.1.1 C.2.1.2.2.2.2.1 M (xs (Int32.toNatClampNeg (i + 1))) (xs (Int32.toNatClampNeg (i + 2))) SM om h2) (Nat.le_of_ble_eq_true rfl) (Nat.le_of_ble_eq_true rfl) (Nat.le_trans (Nat.add_le_add_left (Nat.le_of_ble_eq_true rfl) _) hc4) (Nat.le_trans (Nat.add_le_add_left (Nat.le_of_ble_eq_true rfl) _) hs4) rfl hl.1 rfl (Nat.le_of_ble_eq_true rfl) dL_law_852 (fun H locs X => ?_)
  refine lv_istore C.1.1.1 C.1.1.2.1 dL_law_855 hl (by decide) rfl (fun ls hl => ?_)
  refine lv_goto (tgt := 1499) C.1.1.1 C.1.1.2.1 dL_law_857 (by decide) ?_
  exact W.widen (k := cs + 4) (n := sl + 24) (Nat.add_le_add_left (Nat.le_of_ble_eq_true rfl) _) (Nat.add_le_add_left (Nat.le_of_ble_eq_true rfl) _) (kk _ _ _ _ _ _ h6 X (lv_sub hl [2, 3, 4, 5, 6] rfl))
theorem LB_hush (C : LCx p l s m args meth c D g g2 cI cB cZ cQ cS cJ aK aV aO b L xs Am Am2) (hi : Lin i L) (X : LX D g g2 cI cB cZ cQ cS cJ aK aO b L xs SX SM f s H locs) (hJ : J SX SM) (hl : lv_has ls 7 (Llv b (g 0) (g2 99) aO i)) (hc4 : cs + 4 ≤ 601024) (hs4 : sl + 24 ≤ 7293034) (h : Lw_hush J) (kk : ∀ (H1 : Heap) (locs1 : List Loc) (ls1 : Array Slot) (SX1 SM1 : gS) (f1 : Nat → Int64), J SX1 SM1 → LX D g g2 cI cB cZ cQ cS cJ aK aO b L xs SX1 SM1 f1 s H1 locs1 → lv_has ls1 7 (Llv b (g 0) (g2 99) aO i) → W p l e room_1 s m args below meth c H1 locs1 (cs + 4) (sl + 24) Q (F0 m 1499 ls1 [])) : W p l e room_1 s m args below meth c H locs cs sl Q (F0 m 860 ls []) := by
  obtain ⟨N, ox, M, om, h1, h2, h3, h4, h5, h6⟩ := h SX SM (xs (Int32.toNatClampNeg (i + 1))) hJ
  unfold Llv at hl
  refine lv_aload_n C.1.1.1 C.1.1.2.1 dL_law_860 rfl (lv_at hl 3 rfl) ?_
  refine lv_aload_n C.1.1.1 C.1.1.2.1 dL_law_861 rfl (lv_at hl 4 rfl) ?_
  refine lv_iload C.1.1.1 C.1.1.2.1 dL_law_862 (lv_at hl 0 rfl) ?_
  refine lv_iconst C.1.1.1 C.1.1.2.1 dL_law_864 rfl ?_
  refine lv_iadd C.1.1.1 C.1.1.2.1 dL_law_865 ?_
  refine L_ld C X hi.2.1 dL_law_866 ?_
  refine lv_aload_n C.1.1.1 C.1.1.2.1 dL_law_867 rfl (lv_at hl 1 rfl) ?_
  refine L_callS C.2.2.2.2.2.1.1.1.1 C.2.2.2.2.2.2.1.1 C.2.2.2.2.1 C.1 C.2.2.1 C.2.2.2.1 X lw_hush rfl (kL_hush C.2.2.2.2.2.1 C.1.2.2.2.2.1 (fun k hk => (C.2.2.2.2.1.1 k hk).2.1) N (xs (Int32.toNatClampNeg (i + 1))) SX f ox h1 h3) (Nat.le_of_ble_eq_true rfl) (Nat.le_of_ble_eq_true rfl) (Nat.le_trans (Nat.add_le_add_left (Nat.le_of_ble_eq_true rfl) _) hc4) (Nat.le_trans (Nat.add_le_add_left (Nat.le_of_ble_eq_true rfl) _) hs4) rfl hl.1 rfl (Nat.le_of_ble_eq_true rfl) dL_law_868 (fun H locs X => ?_)
  refine lv_istore C.1.1.1 C.1.1.2.1 dL_law_871 hl (by decide) rfl (fun ls hl => ?_)
  refine lv_aload_n C.1.1.1 C.1.1.2.1 dL_law_873 rfl (lv_at hl 3 rfl) ?_
  refine lv_aload_n C.1.1.1 C.1.1.2.1 dL_law_874 rfl (lv_at hl 5 rfl) ?_
  refine lv_iload C.1.1.1 C.1.1.2.1 dL_law_875 (lv_at hl 1 rfl) ?_
  refine lv_iconst C.1.1.1 C.1.1.2.1 dL_law_877 rfl ?_
  refine lv_iadd C.1.1.1 C.1.1.2.1 dL_law_878 ?_
  refine L_ld C X hi.2.1 dL_law_879 ?_
  refine L_callM C.2.2.2.2.2.1.1.1.1 C.2.2.2.2.2.2.1.1 C.2.2.2.2.1 C.2.1 X xv_L_183 rfl (kX12_hush C.2.2.2.2.2.2.1.1 C.2.1.2.2.2.2.1 M (xs (Int32.toNatClampNeg (i + 1))) SM om h2) (Nat.le_of_ble_eq_true rfl) (Nat.le_of_ble_eq_true rfl) (Nat.le_trans (Nat.add_le_add_left (Nat.le_of_ble_eq_true rfl) _) hc4) (Nat.le_trans (Nat.add_le_add_left (Nat.le_of_ble_eq_true rfl) _) hs4) rfl hl.1 rfl (Nat.le_of_ble_eq_true rfl) dL_law_880 (fun H locs X => ?_)
  refine lv_istore C.1.1.1 C.1.1.2.1 dL_law_883 hl (by decide) rfl (fun ls hl => ?_)
  refine lv_goto (tgt := 1499) C.1.1.1 C.1.1.2.1 dL_law_885 (by decide) ?_
  exact W.widen (k := cs + 4) (n := sl + 24) (Nat.add_le_add_left (Nat.le_of_ble_eq_true rfl) _) (Nat.add_le_add_left (Nat.le_of_ble_eq_true rfl) _) (kk _ _ _ _ _ _ h6 X (lv_sub hl [2, 3, 4, 5, 6] rfl))
theorem LB_chorus (C : LCx p l s m args meth c D g g2 cI cB cZ cQ cS cJ aK aV aO b L xs Am Am2) (hi : Lin i L) (X : LX D g g2 cI cB cZ cQ cS cJ aK aO b L xs SX SM f s H locs) (hJ : J SX SM) (hl : lv_has ls 7 (Llv b (g 0) (g2 99) aO i)) (hc4 : cs + 4 ≤ 601024) (hs4 : sl + 24 ≤ 7293034) (h : Lw_chorus J) (kk : ∀ (H1 : Heap) (locs1 : List Loc) (ls1 : Array Slot) (SX1 SM1 : gS) (f1 : Nat → Int64), J SX1 SM1 → LX D g g2 cI cB cZ cQ cS cJ aK aO b L xs SX1 SM1 f1 s H1 locs1 → lv_has ls1 7 (Llv b (g 0) (g2 99) aO i) → W p l e room_1 s m args below meth c H1 locs1 (cs + 4) (sl + 24) Q (F0 m 1499 ls1 [])) : W p l e room_1 s m args below meth c H locs cs sl Q (F0 m 888 ls []) := by
  obtain ⟨N, ox, M, om, h1, h2, h3, h4, h5, h6⟩ := h SX SM (xs (Int32.toNatClampNeg (i + 1))) hJ
  unfold Llv at hl
  refine lv_aload_n C.1.1.1 C.1.1.2.1 dL_law_888 rfl (lv_at hl 3 rfl) ?_
  refine lv_aload_n C.1.1.1 C.1.1.2.1 dL_law_889 rfl (lv_at hl 4 rfl) ?_
  refine lv_iload C.1.1.1 C.1.1.2.1 dL_law_890 (lv_at hl 0 rfl) ?_
  refine lv_iconst C.1.1.1 C.1.1.2.1 dL_law_892 rfl ?_
  refine lv_iadd C.1.1.1 C.1.1.2.1 dL_law_893 ?_
  refine L_ld C X hi.2.1 dL_law_894 ?_
  refine lv_aload_n C.1.1.1 C.1.1.2.1 dL_law_895 rfl (lv_at hl 1 rfl) ?_
  refine L_callS C.2.2.2.2.2.1.1.1.1 C.2.2.2.2.2.2.1.1 C.2.2.2.2.1 C.1 C.2.2.1 C.2.2.2.1 X lw_chorus rfl (kL_chorus C.2.2.2.2.2.1 C.1.2.2.2.2.1 (fun k hk => (C.2.2.2.2.1.1 k hk).2.1) N (xs (Int32.toNatClampNeg (i + 1))) SX f ox h1 h3) (Nat.le_of_ble_eq_true rfl) (Nat.le_of_ble_eq_true rfl) (Nat.le_trans (Nat.add_le_add_left (Nat.le_of_ble_eq_true rfl) _) hc4) (Nat.le_trans (Nat.add_le_add_left (Nat.le_of_ble_eq_true rfl) _) hs4) rfl hl.1 rfl (Nat.le_of_ble_eq_true rfl) dL_law_896 (fun H locs X => ?_)
  refine lv_istore C.1.1.1 C.1.1.2.1 dL_law_899 hl (by decide) rfl (fun ls hl => ?_)
  refine lv_aload_n C.1.1.1 C.1.1.2.1 dL_law_901 rfl (lv_at hl 3 rfl) ?_
  refine lv_aload_n C.1.1.1 C.1.1.2.1 dL_law_902 rfl (lv_at hl 5 rfl) ?_
  refine lv_iload C.1.1.1 C.1.1.2.1 dL_law_903 (lv_at hl 1 rfl) ?_
  refine lv_iconst C.1.1.1 C.1.1.2.1 dL_law_905 rfl ?_
  refine lv_iadd C.1.1.1 C.1.1.2.1 dL_law_906 ?_
  refine L_ld C X hi.2.1 dL_law_907 ?_
  refine L_callM C.2.2.2.2.2.1.1.1.1 C.2.2.2.2.2.2.1.1 C.2.2.2.2.1 C.2.1 X xv_L_186 rfl (kX12_chorus C.2.2.2.2.2.2.1.1 C.2.1.2.2.2.2.1 M (xs (Int32.toNatClampNeg (i + 1))) SM om h2) (Nat.le_of_ble_eq_true rfl) (Nat.le_of_ble_eq_true rfl) (Nat.le_trans (Nat.add_le_add_left (Nat.le_of_ble_eq_true rfl) _) hc4) (Nat.le_trans (Nat.add_le_add_left (Nat.le_of_ble_eq_true rfl) _) hs4) rfl hl.1 rfl (Nat.le_of_ble_eq_true rfl) dL_law_908 (fun H locs X => ?_)
  refine lv_istore C.1.1.1 C.1.1.2.1 dL_law_911 hl (by decide) rfl (fun ls hl => ?_)
  refine lv_goto (tgt := 1499) C.1.1.1 C.1.1.2.1 dL_law_913 (by decide) ?_
  exact W.widen (k := cs + 4) (n := sl + 24) (Nat.add_le_add_left (Nat.le_of_ble_eq_true rfl) _) (Nat.add_le_add_left (Nat.le_of_ble_eq_true rfl) _) (kk _ _ _ _ _ _ h6 X (lv_sub hl [2, 3, 4, 5, 6] rfl))
theorem LB_together (C : LCx p l s m args meth c D g g2 cI cB cZ cQ cS cJ aK aV aO b L xs Am Am2) (hi : Lin i L) (X : LX D g g2 cI cB cZ cQ cS cJ aK aO b L xs SX SM f s H locs) (hJ : J SX SM) (hl : lv_has ls 7 (Llv b (g 0) (g2 99) aO i)) (hc4 : cs + 4 ≤ 601024) (hs4 : sl + 24 ≤ 7293034) (h : Lw_together J) (kk : ∀ (H1 : Heap) (locs1 : List Loc) (ls1 : Array Slot) (SX1 SM1 : gS) (f1 : Nat → Int64), J SX1 SM1 → LX D g g2 cI cB cZ cQ cS cJ aK aO b L xs SX1 SM1 f1 s H1 locs1 → lv_has ls1 7 (Llv b (g 0) (g2 99) aO i) → W p l e room_1 s m args below meth c H1 locs1 (cs + 4) (sl + 24) Q (F0 m 1499 ls1 [])) : W p l e room_1 s m args below meth c H locs cs sl Q (F0 m 916 ls []) := by
  obtain ⟨N, ox, M, om, h1, h2, h3, h4, h5, h6⟩ := h SX SM (xs (Int32.toNatClampNeg (i + 1))) hJ
  unfold Llv at hl
  refine lv_aload_n C.1.1.1 C.1.1.2.1 dL_law_916 rfl (lv_at hl 3 rfl) ?_
  refine lv_aload_n C.1.1.1 C.1.1.2.1 dL_law_917 rfl (lv_at hl 4 rfl) ?_
  refine lv_iload C.1.1.1 C.1.1.2.1 dL_law_918 (lv_at hl 0 rfl) ?_
  refine lv_iconst C.1.1.1 C.1.1.2.1 dL_law_920 rfl ?_
  refine lv_iadd C.1.1.1 C.1.1.2.1 dL_law_921 ?_
  refine L_ld C X hi.2.1 dL_law_922 ?_
  refine lv_aload_n C.1.1.1 C.1.1.2.1 dL_law_923 rfl (lv_at hl 1 rfl) ?_
  refine L_callS C.2.2.2.2.2.1.1.1.1 C.2.2.2.2.2.2.1.1 C.2.2.2.2.1 C.1 C.2.2.1 C.2.2.2.1 X lw_together rfl (kL_together C.2.2.2.2.2.1 C.1.2.2.2.2.1 (fun k hk => (C.2.2.2.2.1.1 k hk).2.1) N (xs (Int32.toNatClampNeg (i + 1))) SX f ox h1 h3) (Nat.le_of_ble_eq_true rfl) (Nat.le_of_ble_eq_true rfl) (Nat.le_trans (Nat.add_le_add_left (Nat.le_of_ble_eq_true rfl) _) hc4) (Nat.le_trans (Nat.add_le_add_left (Nat.le_of_ble_eq_true rfl) _) hs4) rfl hl.1 rfl (Nat.le_of_ble_eq_true rfl) dL_law_924 (fun H locs X => ?_)
  refine lv_istore C.1.1.1 C.1.1.2.1 dL_law_927 hl (by decide) rfl (fun ls hl => ?_)
  refine lv_aload_n C.1.1.1 C.1.1.2.1 dL_law_929 rfl (lv_at hl 3 rfl) ?_
  refine lv_aload_n C.1.1.1 C.1.1.2.1 dL_law_930 rfl (lv_at hl 5 rfl) ?_
  refine lv_iload C.1.1.1 C.1.1.2.1 dL_law_931 (lv_at hl 1 rfl) ?_
  refine lv_iconst C.1.1.1 C.1.1.2.1 dL_law_933 rfl ?_
  refine lv_iadd C.1.1.1 C.1.1.2.1 dL_law_934 ?_
  refine L_ld C X hi.2.1 dL_law_935 ?_
  refine L_callM C.2.2.2.2.2.1.1.1.1 C.2.2.2.2.2.2.1.1 C.2.2.2.2.1 C.2.1 X xv_L_189 rfl (kX12_together C.2.2.2.2.2.2.1.1 C.2.1.2.2.2.2.1 M (xs (Int32.toNatClampNeg (i + 1))) SM om h2) (Nat.le_of_ble_eq_true rfl) (Nat.le_of_ble_eq_true rfl) (Nat.le_trans (Nat.add_le_add_left (Nat.le_of_ble_eq_true rfl) _) hc4) (Nat.le_trans (Nat.add_le_add_left (Nat.le_of_ble_eq_true rfl) _) hs4) rfl hl.1 rfl (Nat.le_of_ble_eq_true rfl) dL_law_936 (fun H locs X => ?_)
  refine lv_istore C.1.1.1 C.1.1.2.1 dL_law_939 hl (by decide) rfl (fun ls hl => ?_)
  refine lv_goto (tgt := 1499) C.1.1.1 C.1.1.2.1 dL_law_941 (by decide) ?_
  exact W.widen (k := cs + 4) (n := sl + 24) (Nat.add_le_add_left (Nat.le_of_ble_eq_true rfl) _) (Nat.add_le_add_left (Nat.le_of_ble_eq_true rfl) _) (kk _ _ _ _ _ _ h6 X (lv_sub hl [2, 3, 4, 5, 6] rfl))
theorem LB_rhythm (C : LCx p l s m args meth c D g g2 cI cB cZ cQ cS cJ aK aV aO b L xs Am Am2) (hi : Lin i L) (X : LX D g g2 cI cB cZ cQ cS cJ aK aO b L xs SX SM f s H locs) (hJ : J SX SM) (hl : lv_has ls 7 (Llv b (g 0) (g2 99) aO i)) (hc4 : cs + 4 ≤ 601024) (hs4 : sl + 24 ≤ 7293034) (h : Lw_rhythm J) (kk : ∀ (H1 : Heap) (locs1 : List Loc) (ls1 : Array Slot) (SX1 SM1 : gS) (f1 : Nat → Int64), J SX1 SM1 → LX D g g2 cI cB cZ cQ cS cJ aK aO b L xs SX1 SM1 f1 s H1 locs1 → lv_has ls1 7 (Llv b (g 0) (g2 99) aO i) → W p l e room_1 s m args below meth c H1 locs1 (cs + 4) (sl + 24) Q (F0 m 1499 ls1 [])) : W p l e room_1 s m args below meth c H locs cs sl Q (F0 m 944 ls []) := by
  obtain ⟨N, ox, M, om, h1, h2, h3, h4, h5, h6⟩ := h SX SM (xs (Int32.toNatClampNeg (i + 1))) hJ
  unfold Llv at hl
  refine lv_aload_n C.1.1.1 C.1.1.2.1 dL_law_944 rfl (lv_at hl 3 rfl) ?_
  refine lv_aload_n C.1.1.1 C.1.1.2.1 dL_law_945 rfl (lv_at hl 4 rfl) ?_
  refine lv_iload C.1.1.1 C.1.1.2.1 dL_law_946 (lv_at hl 0 rfl) ?_
  refine lv_iconst C.1.1.1 C.1.1.2.1 dL_law_948 rfl ?_
  refine lv_iadd C.1.1.1 C.1.1.2.1 dL_law_949 ?_
  refine L_ld C X hi.2.1 dL_law_950 ?_
  refine lv_aload_n C.1.1.1 C.1.1.2.1 dL_law_951 rfl (lv_at hl 1 rfl) ?_
  refine L_callS C.2.2.2.2.2.1.1.1.1 C.2.2.2.2.2.2.1.1 C.2.2.2.2.1 C.1 C.2.2.1 C.2.2.2.1 X lw_rhythm rfl (kL_rhythm C.2.2.2.2.2.1 C.1.2.2.2.2.1 (fun k hk => (C.2.2.2.2.1.1 k hk).2.1) N (xs (Int32.toNatClampNeg (i + 1))) SX f ox h1 h3) (Nat.le_of_ble_eq_true rfl) (Nat.le_of_ble_eq_true rfl) (Nat.le_trans (Nat.add_le_add_left (Nat.le_of_ble_eq_true rfl) _) hc4) (Nat.le_trans (Nat.add_le_add_left (Nat.le_of_ble_eq_true rfl) _) hs4) rfl hl.1 rfl (Nat.le_of_ble_eq_true rfl) dL_law_952 (fun H locs X => ?_)
  refine lv_istore C.1.1.1 C.1.1.2.1 dL_law_955 hl (by decide) rfl (fun ls hl => ?_)
  refine lv_aload_n C.1.1.1 C.1.1.2.1 dL_law_957 rfl (lv_at hl 3 rfl) ?_
  refine lv_aload_n C.1.1.1 C.1.1.2.1 dL_law_958 rfl (lv_at hl 5 rfl) ?_
  refine lv_iload C.1.1.1 C.1.1.2.1 dL_law_959 (lv_at hl 1 rfl) ?_
  refine lv_iconst C.1.1.1 C.1.1.2.1 dL_law_961 rfl ?_
  refine lv_iadd C.1.1.1 C.1.1.2.1 dL_law_962 ?_
  refine L_ld C X hi.2.1 dL_law_963 ?_
  refine L_callM C.2.2.2.2.2.1.1.1.1 C.2.2.2.2.2.2.1.1 C.2.2.2.2.1 C.2.1 X xv_L_192 rfl (kX12_rhythm C.2.2.2.2.2.2.1.1 C.2.1.2.2.2.2.1 M (xs (Int32.toNatClampNeg (i + 1))) SM om h2) (Nat.le_of_ble_eq_true rfl) (Nat.le_of_ble_eq_true rfl) (Nat.le_trans (Nat.add_le_add_left (Nat.le_of_ble_eq_true rfl) _) hc4) (Nat.le_trans (Nat.add_le_add_left (Nat.le_of_ble_eq_true rfl) _) hs4) rfl hl.1 rfl (Nat.le_of_ble_eq_true rfl) dL_law_964 (fun H locs X => ?_)
  refine lv_istore C.1.1.1 C.1.1.2.1 dL_law_967 hl (by decide) rfl (fun ls hl => ?_)
  refine lv_goto (tgt := 1499) C.1.1.1 C.1.1.2.1 dL_law_969 (by decide) ?_
  exact W.widen (k := cs + 4) (n := sl + 24) (Nat.add_le_add_left (Nat.le_of_ble_eq_true rfl) _) (Nat.add_le_add_left (Nat.le_of_ble_eq_true rfl) _) (kk _ _ _ _ _ _ h6 X (lv_sub hl [2, 3, 4, 5, 6] rfl))
theorem LB_often (C : LCx p l s m args meth c D g g2 cI cB cZ cQ cS cJ aK aV aO b L xs Am Am2) (hi : Lin i L) (X : LX D g g2 cI cB cZ cQ cS cJ aK aO b L xs SX SM f s H locs) (hJ : J SX SM) (hl : lv_has ls 7 (Llv b (g 0) (g2 99) aO i)) (hc4 : cs + 4 ≤ 601024) (hs4 : sl + 24 ≤ 7293034) (h : Lw_often J) (kk : ∀ (H1 : Heap) (locs1 : List Loc) (ls1 : Array Slot) (SX1 SM1 : gS) (f1 : Nat → Int64), J SX1 SM1 → LX D g g2 cI cB cZ cQ cS cJ aK aO b L xs SX1 SM1 f1 s H1 locs1 → lv_has ls1 7 (Llv b (g 0) (g2 99) aO i) → W p l e room_1 s m args below meth c H1 locs1 (cs + 4) (sl + 24) Q (F0 m 1499 ls1 [])) : W p l e room_1 s m args below meth c H locs cs sl Q (F0 m 972 ls []) := by
  obtain ⟨N, ox, M, om, h1, h2, h3, h4, h5, h6⟩ := h SX SM (xs (Int32.toNatClampNeg (i + 1))) (xs (Int32.toNatClampNeg (i + 2))) hJ
  unfold Llv at hl
  refine lv_aload_n C.1.1.1 C.1.1.2.1 dL_law_972 rfl (lv_at hl 3 rfl) ?_
  refine lv_aload_n C.1.1.1 C.1.1.2.1 dL_law_973 rfl (lv_at hl 4 rfl) ?_
  refine lv_iload C.1.1.1 C.1.1.2.1 dL_law_974 (lv_at hl 0 rfl) ?_
  refine lv_iconst C.1.1.1 C.1.1.2.1 dL_law_976 rfl ?_
  refine lv_iadd C.1.1.1 C.1.1.2.1 dL_law_977 ?_
  refine L_ld C X hi.2.1 dL_law_978 ?_
  refine lv_aload_n C.1.1.1 C.1.1.2.1 dL_law_979 rfl (lv_at hl 4 rfl) ?_
  refine lv_iload C.1.1.1 C.1.1.2.1 dL_law_980 (lv_at hl 0 rfl) ?_
  refine lv_iconst C.1.1.1 C.1.1.2.1 dL_law_982 rfl ?_
  refine lv_iadd C.1.1.1 C.1.1.2.1 dL_law_983 ?_
  refine L_ld C X hi.2.2.1 dL_law_984 ?_
  refine lv_aload_n C.1.1.1 C.1.1.2.1 dL_law_985 rfl (lv_at hl 1 rfl) ?_
  refine L_callS C.2.2.2.2.2.1.1.1.1 C.2.2.2.2.2.2.1.1 C.2.2.2.2.1 C.1 C.2.2.1 C.2.2.2.1 X lw_often rfl (kL_often C.2.2.2.2.2.1 C.1.2.2.2.2.1 (fun k hk => (C.2.2.2.2.1.1 k hk).2.1) N (xs (Int32.toNatClampNeg (i + 1))) (xs (Int32.toNatClampNeg (i + 2))) SX f ox h1 h3) (Nat.le_of_ble_eq_true rfl) (Nat.le_of_ble_eq_true rfl) (Nat.le_trans (Nat.add_le_add_left (Nat.le_of_ble_eq_true rfl) _) hc4) (Nat.le_trans (Nat.add_le_add_left (Nat.le_of_ble_eq_true rfl) _) hs4) rfl hl.1 rfl (Nat.le_of_ble_eq_true rfl) dL_law_986 (fun H locs X => ?_)
  refine lv_istore C.1.1.1 C.1.1.2.1 dL_law_989 hl (by decide) rfl (fun ls hl => ?_)
  refine lv_aload_n C.1.1.1 C.1.1.2.1 dL_law_991 rfl (lv_at hl 3 rfl) ?_
  refine lv_aload_n C.1.1.1 C.1.1.2.1 dL_law_992 rfl (lv_at hl 5 rfl) ?_
  refine lv_iload C.1.1.1 C.1.1.2.1 dL_law_993 (lv_at hl 1 rfl) ?_
  refine lv_iconst C.1.1.1 C.1.1.2.1 dL_law_995 rfl ?_
  refine lv_iadd C.1.1.1 C.1.1.2.1 dL_law_996 ?_
  refine L_ld C X hi.2.1 dL_law_997 ?_
  refine lv_aload_n C.1.1.1 C.1.1.2.1 dL_law_998 rfl (lv_at hl 5 rfl) ?_
  refine lv_iload C.1.1.1 C.1.1.2.1 dL_law_999 (lv_at hl 1 rfl) ?_
  refine lv_iconst C.1.1.1 C.1.1.2.1 dL_law_1001 rfl ?_
  refine lv_iadd C.1.1.1 C.1.1.2.1 dL_law_1002 ?_
  refine L_ld C X hi.2.2.1 dL_law_1003 ?_
  refine L_callM C.2.2.2.2.2.1.1.1.1 C.2.2.2.2.2.2.1.1 C.2.2.2.2.1 C.2.1 X xv_L_195 rfl (kX12_often C.2.2.2.2.2.2.1.1 C.2.1.2.2.2.2.1 M (xs (Int32.toNatClampNeg (i + 1))) (xs (Int32.toNatClampNeg (i + 2))) SM om h2) (Nat.le_of_ble_eq_true rfl) (Nat.le_of_ble_eq_true rfl) (Nat.le_trans (Nat.add_le_add_left (Nat.le_of_ble_eq_true rfl) _) hc4) (Nat.le_trans (Nat.add_le_add_left (Nat.le_of_ble_eq_true rfl) _) hs4) rfl hl.1 rfl (Nat.le_of_ble_eq_true rfl) dL_law_1004 (fun H locs X => ?_)
  refine lv_istore C.1.1.1 C.1.1.2.1 dL_law_1007 hl (by decide) rfl (fun ls hl => ?_)
  refine lv_goto (tgt := 1499) C.1.1.1 C.1.1.2.1 dL_law_1009 (by decide) ?_
  exact W.widen (k := cs + 4) (n := sl + 24) (Nat.add_le_add_left (Nat.le_of_ble_eq_true rfl) _) (Nat.add_le_add_left (Nat.le_of_ble_eq_true rfl) _) (kk _ _ _ _ _ _ h6 X (lv_sub hl [2, 3, 4, 5, 6] rfl))
theorem LB_toHire (C : LCx p l s m args meth c D g g2 cI cB cZ cQ cS cJ aK aV aO b L xs Am Am2) (hi : Lin i L) (X : LX D g g2 cI cB cZ cQ cS cJ aK aO b L xs SX SM f s H locs) (hJ : J SX SM) (hl : lv_has ls 7 (Llv b (g 0) (g2 99) aO i)) (hc4 : cs + 4 ≤ 601024) (hs4 : sl + 24 ≤ 7293034) (h : Lw_toHire J) (kk : ∀ (H1 : Heap) (locs1 : List Loc) (ls1 : Array Slot) (SX1 SM1 : gS) (f1 : Nat → Int64), J SX1 SM1 → LX D g g2 cI cB cZ cQ cS cJ aK aO b L xs SX1 SM1 f1 s H1 locs1 → lv_has ls1 7 (Llv b (g 0) (g2 99) aO i) → W p l e room_1 s m args below meth c H1 locs1 (cs + 4) (sl + 24) Q (F0 m 1499 ls1 [])) : W p l e room_1 s m args below meth c H locs cs sl Q (F0 m 1012 ls []) := by
  obtain ⟨N, ox, M, om, h1, h2, h3, h4, h5, h6⟩ := h SX SM (xs (Int32.toNatClampNeg (i + 1))) (xs (Int32.toNatClampNeg (i + 2))) (xs (Int32.toNatClampNeg (i + 3))) hJ
  unfold Llv at hl
  refine lv_aload_n C.1.1.1 C.1.1.2.1 dL_law_1012 rfl (lv_at hl 3 rfl) ?_
  refine lv_aload_n C.1.1.1 C.1.1.2.1 dL_law_1013 rfl (lv_at hl 4 rfl) ?_
  refine lv_iload C.1.1.1 C.1.1.2.1 dL_law_1014 (lv_at hl 0 rfl) ?_
  refine lv_iconst C.1.1.1 C.1.1.2.1 dL_law_1016 rfl ?_
  refine lv_iadd C.1.1.1 C.1.1.2.1 dL_law_1017 ?_
  refine L_ld C X hi.2.1 dL_law_1018 ?_
  refine lv_aload_n C.1.1.1 C.1.1.2.1 dL_law_1019 rfl (lv_at hl 4 rfl) ?_
  refine lv_iload C.1.1.1 C.1.1.2.1 dL_law_1020 (lv_at hl 0 rfl) ?_
  refine lv_iconst C.1.1.1 C.1.1.2.1 dL_law_1022 rfl ?_
  refine lv_iadd C.1.1.1 C.1.1.2.1 dL_law_1023 ?_
  refine L_ld C X hi.2.2.1 dL_law_1024 ?_
  refine lv_aload_n C.1.1.1 C.1.1.2.1 dL_law_1025 rfl (lv_at hl 4 rfl) ?_
  refine lv_iload C.1.1.1 C.1.1.2.1 dL_law_1026 (lv_at hl 0 rfl) ?_
  refine lv_iconst C.1.1.1 C.1.1.2.1 dL_law_1028 rfl ?_
  refine lv_iadd C.1.1.1 C.1.1.2.1 dL_law_1029 ?_
  refine L_ld C X hi.2.2.2.1 dL_law_1030 ?_
  refine lv_aload_n C.1.1.1 C.1.1.2.1 dL_law_1031 rfl (lv_at hl 1 rfl) ?_
  refine L_callS C.2.2.2.2.2.1.1.1.1 C.2.2.2.2.2.2.1.1 C.2.2.2.2.1 C.1 C.2.2.1 C.2.2.2.1 X lw_toHire rfl (kL_toHire C.2.2.2.2.2.1 C.1.2.2.2.2.1 (fun k hk => (C.2.2.2.2.1.1 k hk).2.1) N (xs (Int32.toNatClampNeg (i + 1))) (xs (Int32.toNatClampNeg (i + 2))) (xs (Int32.toNatClampNeg (i + 3))) SX f ox h1 h3) (Nat.le_of_ble_eq_true rfl) (Nat.le_of_ble_eq_true rfl) (Nat.le_trans (Nat.add_le_add_left (Nat.le_of_ble_eq_true rfl) _) hc4) (Nat.le_trans (Nat.add_le_add_left (Nat.le_of_ble_eq_true rfl) _) hs4) rfl hl.1 rfl (Nat.le_of_ble_eq_true rfl) dL_law_1032 (fun H locs X => ?_)
  refine lv_istore C.1.1.1 C.1.1.2.1 dL_law_1035 hl (by decide) rfl (fun ls hl => ?_)
  refine lv_aload_n C.1.1.1 C.1.1.2.1 dL_law_1037 rfl (lv_at hl 3 rfl) ?_
  refine lv_aload_n C.1.1.1 C.1.1.2.1 dL_law_1038 rfl (lv_at hl 5 rfl) ?_
  refine lv_iload C.1.1.1 C.1.1.2.1 dL_law_1039 (lv_at hl 1 rfl) ?_
  refine lv_iconst C.1.1.1 C.1.1.2.1 dL_law_1041 rfl ?_
  refine lv_iadd C.1.1.1 C.1.1.2.1 dL_law_1042 ?_
  refine L_ld C X hi.2.1 dL_law_1043 ?_
  refine lv_aload_n C.1.1.1 C.1.1.2.1 dL_law_1044 rfl (lv_at hl 5 rfl) ?_
  refine lv_iload C.1.1.1 C.1.1.2.1 dL_law_1045 (lv_at hl 1 rfl) ?_
  refine lv_iconst C.1.1.1 C.1.1.2.1 dL_law_1047 rfl ?_
  refine lv_iadd C.1.1.1 C.1.1.2.1 dL_law_1048 ?_
  refine L_ld C X hi.2.2.1 dL_law_1049 ?_
  refine lv_aload_n C.1.1.1 C.1.1.2.1 dL_law_1050 rfl (lv_at hl 5 rfl) ?_
  refine lv_iload C.1.1.1 C.1.1.2.1 dL_law_1051 (lv_at hl 1 rfl) ?_
  refine lv_iconst C.1.1.1 C.1.1.2.1 dL_law_1053 rfl ?_
  refine lv_iadd C.1.1.1 C.1.1.2.1 dL_law_1054 ?_
  refine L_ld C X hi.2.2.2.1 dL_law_1055 ?_
  refine L_callM C.2.2.2.2.2.1.1.1.1 C.2.2.2.2.2.2.1.1 C.2.2.2.2.1 C.2.1 X xv_L_198 rfl (kX12_toHire C.2.2.2.2.2.2.1.1 C.2.1.2.2.2.2.1 M (xs (Int32.toNatClampNeg (i + 1))) (xs (Int32.toNatClampNeg (i + 2))) (xs (Int32.toNatClampNeg (i + 3))) SM om h2) (Nat.le_of_ble_eq_true rfl) (Nat.le_of_ble_eq_true rfl) (Nat.le_trans (Nat.add_le_add_left (Nat.le_of_ble_eq_true rfl) _) hc4) (Nat.le_trans (Nat.add_le_add_left (Nat.le_of_ble_eq_true rfl) _) hs4) rfl hl.1 rfl (Nat.le_of_ble_eq_true rfl) dL_law_1056 (fun H locs X => ?_)
  refine lv_istore C.1.1.1 C.1.1.2.1 dL_law_1059 hl (by decide) rfl (fun ls hl => ?_)
  refine lv_goto (tgt := 1499) C.1.1.1 C.1.1.2.1 dL_law_1061 (by decide) ?_
  exact W.widen (k := cs + 4) (n := sl + 24) (Nat.add_le_add_left (Nat.le_of_ble_eq_true rfl) _) (Nat.add_le_add_left (Nat.le_of_ble_eq_true rfl) _) (kk _ _ _ _ _ _ h6 X (lv_sub hl [2, 3, 4, 5, 6] rfl))
theorem LB_shared (C : LCx p l s m args meth c D g g2 cI cB cZ cQ cS cJ aK aV aO b L xs Am Am2) (hi : Lin i L) (X : LX D g g2 cI cB cZ cQ cS cJ aK aO b L xs SX SM f s H locs) (hJ : J SX SM) (hl : lv_has ls 7 (Llv b (g 0) (g2 99) aO i)) (hc4 : cs + 4 ≤ 601024) (hs4 : sl + 24 ≤ 7293034) (h : Lw_shared J) (kk : ∀ (H1 : Heap) (locs1 : List Loc) (ls1 : Array Slot) (SX1 SM1 : gS) (f1 : Nat → Int64), J SX1 SM1 → LX D g g2 cI cB cZ cQ cS cJ aK aO b L xs SX1 SM1 f1 s H1 locs1 → lv_has ls1 7 (Llv b (g 0) (g2 99) aO i) → W p l e room_1 s m args below meth c H1 locs1 (cs + 4) (sl + 24) Q (F0 m 1499 ls1 [])) : W p l e room_1 s m args below meth c H locs cs sl Q (F0 m 1064 ls []) := by
  obtain ⟨N, ox, M, om, h1, h2, h3, h4, h5, h6⟩ := h SX SM (xs (Int32.toNatClampNeg (i + 1))) hJ
  unfold Llv at hl
  refine lv_aload_n C.1.1.1 C.1.1.2.1 dL_law_1064 rfl (lv_at hl 3 rfl) ?_
  refine lv_aload_n C.1.1.1 C.1.1.2.1 dL_law_1065 rfl (lv_at hl 4 rfl) ?_
  refine lv_iload C.1.1.1 C.1.1.2.1 dL_law_1066 (lv_at hl 0 rfl) ?_
  refine lv_iconst C.1.1.1 C.1.1.2.1 dL_law_1068 rfl ?_
  refine lv_iadd C.1.1.1 C.1.1.2.1 dL_law_1069 ?_
  refine L_ld C X hi.2.1 dL_law_1070 ?_
  refine lv_aload_n C.1.1.1 C.1.1.2.1 dL_law_1071 rfl (lv_at hl 1 rfl) ?_
  refine L_callS C.2.2.2.2.2.1.1.1.1 C.2.2.2.2.2.2.1.1 C.2.2.2.2.1 C.1 C.2.2.1 C.2.2.2.1 X lw_shared rfl (kL_shared C.2.2.2.2.2.1 C.1.2.2.2.2.1 (fun k hk => (C.2.2.2.2.1.1 k hk).2.1) N (xs (Int32.toNatClampNeg (i + 1))) SX f ox h1 h3) (Nat.le_of_ble_eq_true rfl) (Nat.le_of_ble_eq_true rfl) (Nat.le_trans (Nat.add_le_add_left (Nat.le_of_ble_eq_true rfl) _) hc4) (Nat.le_trans (Nat.add_le_add_left (Nat.le_of_ble_eq_true rfl) _) hs4) rfl hl.1 rfl (Nat.le_of_ble_eq_true rfl) dL_law_1072 (fun H locs X => ?_)
  refine lv_istore C.1.1.1 C.1.1.2.1 dL_law_1075 hl (by decide) rfl (fun ls hl => ?_)
  refine lv_aload_n C.1.1.1 C.1.1.2.1 dL_law_1077 rfl (lv_at hl 3 rfl) ?_
  refine lv_aload_n C.1.1.1 C.1.1.2.1 dL_law_1078 rfl (lv_at hl 5 rfl) ?_
  refine lv_iload C.1.1.1 C.1.1.2.1 dL_law_1079 (lv_at hl 1 rfl) ?_
  refine lv_iconst C.1.1.1 C.1.1.2.1 dL_law_1081 rfl ?_
  refine lv_iadd C.1.1.1 C.1.1.2.1 dL_law_1082 ?_
  refine L_ld C X hi.2.1 dL_law_1083 ?_
  refine L_callM C.2.2.2.2.2.1.1.1.1 C.2.2.2.2.2.2.1.1 C.2.2.2.2.1 C.2.1 X xv_L_201 rfl (kX12_shared C.2.2.2.2.2.2.1.1 C.2.1.2.2.2.2.1 M (xs (Int32.toNatClampNeg (i + 1))) SM om h2) (Nat.le_of_ble_eq_true rfl) (Nat.le_of_ble_eq_true rfl) (Nat.le_trans (Nat.add_le_add_left (Nat.le_of_ble_eq_true rfl) _) hc4) (Nat.le_trans (Nat.add_le_add_left (Nat.le_of_ble_eq_true rfl) _) hs4) rfl hl.1 rfl (Nat.le_of_ble_eq_true rfl) dL_law_1084 (fun H locs X => ?_)
  refine lv_istore C.1.1.1 C.1.1.2.1 dL_law_1087 hl (by decide) rfl (fun ls hl => ?_)
  refine lv_goto (tgt := 1499) C.1.1.1 C.1.1.2.1 dL_law_1089 (by decide) ?_
  exact W.widen (k := cs + 4) (n := sl + 24) (Nat.add_le_add_left (Nat.le_of_ble_eq_true rfl) _) (Nat.add_le_add_left (Nat.le_of_ble_eq_true rfl) _) (kk _ _ _ _ _ _ h6 X (lv_sub hl [2, 3, 4, 5, 6] rfl))
theorem LB_has (C : LCx p l s m args meth c D g g2 cI cB cZ cQ cS cJ aK aV aO b L xs Am Am2) (hi : Lin i L) (X : LX D g g2 cI cB cZ cQ cS cJ aK aO b L xs SX SM f s H locs) (hJ : J SX SM) (hl : lv_has ls 7 (Llv b (g 0) (g2 99) aO i)) (hc4 : cs + 4 ≤ 601024) (hs4 : sl + 24 ≤ 7293034) (h : Lw_has J) (kk : ∀ (H1 : Heap) (locs1 : List Loc) (ls1 : Array Slot) (SX1 SM1 : gS) (f1 : Nat → Int64), J SX1 SM1 → LX D g g2 cI cB cZ cQ cS cJ aK aO b L xs SX1 SM1 f1 s H1 locs1 → lv_has ls1 7 (Llv b (g 0) (g2 99) aO i) → W p l e room_1 s m args below meth c H1 locs1 (cs + 4) (sl + 24) Q (F0 m 1499 ls1 [])) : W p l e room_1 s m args below meth c H locs cs sl Q (F0 m 1092 ls []) := by
  obtain ⟨N, ox, M, om, h1, h2, h3, h4, h5, h6⟩ := h SX SM (xs (Int32.toNatClampNeg (i + 1))) hJ
  unfold Llv at hl
  refine lv_aload_n C.1.1.1 C.1.1.2.1 dL_law_1092 rfl (lv_at hl 3 rfl) ?_
  refine lv_aload_n C.1.1.1 C.1.1.2.1 dL_law_1093 rfl (lv_at hl 4 rfl) ?_
  refine lv_iload C.1.1.1 C.1.1.2.1 dL_law_1094 (lv_at hl 0 rfl) ?_
  refine lv_iconst C.1.1.1 C.1.1.2.1 dL_law_1096 rfl ?_
  refine lv_iadd C.1.1.1 C.1.1.2.1 dL_law_1097 ?_
  refine L_ld C X hi.2.1 dL_law_1098 ?_
  refine lv_aload_n C.1.1.1 C.1.1.2.1 dL_law_1099 rfl (lv_at hl 1 rfl) ?_
  refine L_callS C.2.2.2.2.2.1.1.1.1 C.2.2.2.2.2.2.1.1 C.2.2.2.2.1 C.1 C.2.2.1 C.2.2.2.1 X lw_has rfl (kL_has C.2.2.2.2.2.1 C.1.2.2.2.2.1 (fun k hk => (C.2.2.2.2.1.1 k hk).2.1) N (xs (Int32.toNatClampNeg (i + 1))) SX f ox h1 h3) (Nat.le_of_ble_eq_true rfl) (Nat.le_of_ble_eq_true rfl) (Nat.le_trans (Nat.add_le_add_left (Nat.le_of_ble_eq_true rfl) _) hc4) (Nat.le_trans (Nat.add_le_add_left (Nat.le_of_ble_eq_true rfl) _) hs4) rfl hl.1 rfl (Nat.le_of_ble_eq_true rfl) dL_law_1100 (fun H locs X => ?_)
  refine lv_istore C.1.1.1 C.1.1.2.1 dL_law_1103 hl (by decide) rfl (fun ls hl => ?_)
  refine lv_aload_n C.1.1.1 C.1.1.2.1 dL_law_1105 rfl (lv_at hl 3 rfl) ?_
  refine lv_aload_n C.1.1.1 C.1.1.2.1 dL_law_1106 rfl (lv_at hl 5 rfl) ?_
  refine lv_iload C.1.1.1 C.1.1.2.1 dL_law_1107 (lv_at hl 1 rfl) ?_
  refine lv_iconst C.1.1.1 C.1.1.2.1 dL_law_1109 rfl ?_
  refine lv_iadd C.1.1.1 C.1.1.2.1 dL_law_1110 ?_
  refine L_ld C X hi.2.1 dL_law_1111 ?_
  refine L_callM C.2.2.2.2.2.1.1.1.1 C.2.2.2.2.2.2.1.1 C.2.2.2.2.1 C.2.1 X xv_L_204 rfl (kX12_has C.2.2.2.2.2.2.1.1 C.2.1.2.2.2.2.1 M (xs (Int32.toNatClampNeg (i + 1))) SM om h2) (Nat.le_of_ble_eq_true rfl) (Nat.le_of_ble_eq_true rfl) (Nat.le_trans (Nat.add_le_add_left (Nat.le_of_ble_eq_true rfl) _) hc4) (Nat.le_trans (Nat.add_le_add_left (Nat.le_of_ble_eq_true rfl) _) hs4) rfl hl.1 rfl (Nat.le_of_ble_eq_true rfl) dL_law_1112 (fun H locs X => ?_)
  refine lv_istore C.1.1.1 C.1.1.2.1 dL_law_1115 hl (by decide) rfl (fun ls hl => ?_)
  refine lv_goto (tgt := 1499) C.1.1.1 C.1.1.2.1 dL_law_1117 (by decide) ?_
  exact W.widen (k := cs + 4) (n := sl + 24) (Nat.add_le_add_left (Nat.le_of_ble_eq_true rfl) _) (Nat.add_le_add_left (Nat.le_of_ble_eq_true rfl) _) (kk _ _ _ _ _ _ h6 X (lv_sub hl [2, 3, 4, 5, 6] rfl))
theorem LB_toGive (C : LCx p l s m args meth c D g g2 cI cB cZ cQ cS cJ aK aV aO b L xs Am Am2) (hi : Lin i L) (X : LX D g g2 cI cB cZ cQ cS cJ aK aO b L xs SX SM f s H locs) (hJ : J SX SM) (hl : lv_has ls 7 (Llv b (g 0) (g2 99) aO i)) (hc4 : cs + 4 ≤ 601024) (hs4 : sl + 24 ≤ 7293034) (h : Lw_toGive J) (kk : ∀ (H1 : Heap) (locs1 : List Loc) (ls1 : Array Slot) (SX1 SM1 : gS) (f1 : Nat → Int64), J SX1 SM1 → LX D g g2 cI cB cZ cQ cS cJ aK aO b L xs SX1 SM1 f1 s H1 locs1 → lv_has ls1 7 (Llv b (g 0) (g2 99) aO i) → W p l e room_1 s m args below meth c H1 locs1 (cs + 4) (sl + 24) Q (F0 m 1499 ls1 [])) : W p l e room_1 s m args below meth c H locs cs sl Q (F0 m 1120 ls []) := by
  obtain ⟨N, ox, M, om, h1, h2, h3, h4, h5, h6⟩ := h SX SM (xs (Int32.toNatClampNeg (i + 1))) (xs (Int32.toNatClampNeg (i + 2))) hJ
  unfold Llv at hl
  refine lv_aload_n C.1.1.1 C.1.1.2.1 dL_law_1120 rfl (lv_at hl 3 rfl) ?_
  refine lv_aload_n C.1.1.1 C.1.1.2.1 dL_law_1121 rfl (lv_at hl 4 rfl) ?_
  refine lv_iload C.1.1.1 C.1.1.2.1 dL_law_1122 (lv_at hl 0 rfl) ?_
  refine lv_iconst C.1.1.1 C.1.1.2.1 dL_law_1124 rfl ?_
  refine lv_iadd C.1.1.1 C.1.1.2.1 dL_law_1125 ?_
  refine L_ld C X hi.2.1 dL_law_1126 ?_
  refine lv_aload_n C.1.1.1 C.1.1.2.1 dL_law_1127 rfl (lv_at hl 4 rfl) ?_
  refine lv_iload C.1.1.1 C.1.1.2.1 dL_law_1128 (lv_at hl 0 rfl) ?_
  refine lv_iconst C.1.1.1 C.1.1.2.1 dL_law_1130 rfl ?_
  refine lv_iadd C.1.1.1 C.1.1.2.1 dL_law_1131 ?_
  refine L_ld C X hi.2.2.1 dL_law_1132 ?_
  refine lv_aload_n C.1.1.1 C.1.1.2.1 dL_law_1133 rfl (lv_at hl 1 rfl) ?_
  refine L_callS C.2.2.2.2.2.1.1.1.1 C.2.2.2.2.2.2.1.1 C.2.2.2.2.1 C.1 C.2.2.1 C.2.2.2.1 X lw_toGive rfl (kL_toGive C.2.2.2.2.2.1 C.1.2.2.2.2.1 (fun k hk => (C.2.2.2.2.1.1 k hk).2.1) N (xs (Int32.toNatClampNeg (i + 1))) (xs (Int32.toNatClampNeg (i + 2))) SX f ox h1 h3) (Nat.le_of_ble_eq_true rfl) (Nat.le_of_ble_eq_true rfl) (Nat.le_trans (Nat.add_le_add_left (Nat.le_of_ble_eq_true rfl) _) hc4) (Nat.le_trans (Nat.add_le_add_left (Nat.le_of_ble_eq_true rfl) _) hs4) rfl hl.1 rfl (Nat.le_of_ble_eq_true rfl) dL_law_1134 (fun H locs X => ?_)
  refine lv_istore C.1.1.1 C.1.1.2.1 dL_law_1137 hl (by decide) rfl (fun ls hl => ?_)
  refine lv_aload_n C.1.1.1 C.1.1.2.1 dL_law_1139 rfl (lv_at hl 3 rfl) ?_
  refine lv_aload_n C.1.1.1 C.1.1.2.1 dL_law_1140 rfl (lv_at hl 5 rfl) ?_
  refine lv_iload C.1.1.1 C.1.1.2.1 dL_law_1141 (lv_at hl 1 rfl) ?_
  refine lv_iconst C.1.1.1 C.1.1.2.1 dL_law_1143 rfl ?_
  refine lv_iadd C.1.1.1 C.1.1.2.1 dL_law_1144 ?_
  refine L_ld C X hi.2.1 dL_law_1145 ?_
  refine lv_aload_n C.1.1.1 C.1.1.2.1 dL_law_1146 rfl (lv_at hl 5 rfl) ?_
  refine lv_iload C.1.1.1 C.1.1.2.1 dL_law_1147 (lv_at hl 1 rfl) ?_
  refine lv_iconst C.1.1.1 C.1.1.2.1 dL_law_1149 rfl ?_
  refine lv_iadd C.1.1.1 C.1.1.2.1 dL_law_1150 ?_
  refine L_ld C X hi.2.2.1 dL_law_1151 ?_
  refine L_callM C.2.2.2.2.2.1.1.1.1 C.2.2.2.2.2.2.1.1 C.2.2.2.2.1 C.2.1 X xv_L_207 rfl (kX12_toGive C.2.2.2.2.2.2.1.1 C.2.1.2.2.2.2.1 M (xs (Int32.toNatClampNeg (i + 1))) (xs (Int32.toNatClampNeg (i + 2))) SM om h2) (Nat.le_of_ble_eq_true rfl) (Nat.le_of_ble_eq_true rfl) (Nat.le_trans (Nat.add_le_add_left (Nat.le_of_ble_eq_true rfl) _) hc4) (Nat.le_trans (Nat.add_le_add_left (Nat.le_of_ble_eq_true rfl) _) hs4) rfl hl.1 rfl (Nat.le_of_ble_eq_true rfl) dL_law_1152 (fun H locs X => ?_)
  refine lv_istore C.1.1.1 C.1.1.2.1 dL_law_1155 hl (by decide) rfl (fun ls hl => ?_)
  refine lv_goto (tgt := 1499) C.1.1.1 C.1.1.2.1 dL_law_1157 (by decide) ?_
  exact W.widen (k := cs + 4) (n := sl + 24) (Nat.add_le_add_left (Nat.le_of_ble_eq_true rfl) _) (Nat.add_le_add_left (Nat.le_of_ble_eq_true rfl) _) (kk _ _ _ _ _ _ h6 X (lv_sub hl [2, 3, 4, 5, 6] rfl))
theorem LB_confessing (C : LCx p l s m args meth c D g g2 cI cB cZ cQ cS cJ aK aV aO b L xs Am Am2) (hi : Lin i L) (X : LX D g g2 cI cB cZ cQ cS cJ aK aO b L xs SX SM f s H locs) (hJ : J SX SM) (hl : lv_has ls 7 (Llv b (g 0) (g2 99) aO i)) (hc4 : cs + 4 ≤ 601024) (hs4 : sl + 24 ≤ 7293034) (h : Lw_confessing J) (kk : ∀ (H1 : Heap) (locs1 : List Loc) (ls1 : Array Slot) (SX1 SM1 : gS) (f1 : Nat → Int64), J SX1 SM1 → LX D g g2 cI cB cZ cQ cS cJ aK aO b L xs SX1 SM1 f1 s H1 locs1 → lv_has ls1 7 (Llv b (g 0) (g2 99) aO i) → W p l e room_1 s m args below meth c H1 locs1 (cs + 4) (sl + 24) Q (F0 m 1499 ls1 [])) : W p l e room_1 s m args below meth c H locs cs sl Q (F0 m 1160 ls []) := by
  obtain ⟨N, ox, M, om, h1, h2, h3, h4, h5, h6⟩ := h SX SM (xs (Int32.toNatClampNeg (i + 1))) (xs (Int32.toNatClampNeg (i + 2))) hJ
  unfold Llv at hl
  refine lv_aload_n C.1.1.1 C.1.1.2.1 dL_law_1160 rfl (lv_at hl 3 rfl) ?_
  refine lv_aload_n C.1.1.1 C.1.1.2.1 dL_law_1161 rfl (lv_at hl 4 rfl) ?_
  refine lv_iload C.1.1.1 C.1.1.2.1 dL_law_1162 (lv_at hl 0 rfl) ?_
  refine lv_iconst C.1.1.1 C.1.1.2.1 dL_law_1164 rfl ?_
  refine lv_iadd C.1.1.1 C.1.1.2.1 dL_law_1165 ?_
  refine L_ld C X hi.2.1 dL_law_1166 ?_
  refine lv_aload_n C.1.1.1 C.1.1.2.1 dL_law_1167 rfl (lv_at hl 4 rfl) ?_
  refine lv_iload C.1.1.1 C.1.1.2.1 dL_law_1168 (lv_at hl 0 rfl) ?_
  refine lv_iconst C.1.1.1 C.1.1.2.1 dL_law_1170 rfl ?_
  refine lv_iadd C.1.1.1 C.1.1.2.1 dL_law_1171 ?_
  refine L_ld C X hi.2.2.1 dL_law_1172 ?_
  refine lv_aload_n C.1.1.1 C.1.1.2.1 dL_law_1173 rfl (lv_at hl 1 rfl) ?_
  refine L_callS C.2.2.2.2.2.1.1.1.1 C.2.2.2.2.2.2.1.1 C.2.2.2.2.1 C.1 C.2.2.1 C.2.2.2.1 X lw_confessing rfl (kL_confessing C.2.2.2.2.2.1 C.1.2.2.2.2.1 (fun k hk => (C.2.2.2.2.1.1 k hk).2.1) N (xs (Int32.toNatClampNeg (i + 1))) (xs (Int32.toNatClampNeg (i + 2))) SX f ox h1 h3) (Nat.le_of_ble_eq_true rfl) (Nat.le_of_ble_eq_true rfl) (Nat.le_trans (Nat.add_le_add_left (Nat.le_of_ble_eq_true rfl) _) hc4) (Nat.le_trans (Nat.add_le_add_left (Nat.le_of_ble_eq_true rfl) _) hs4) rfl hl.1 rfl (Nat.le_of_ble_eq_true rfl) dL_law_1174 (fun H locs X => ?_)
  refine lv_istore C.1.1.1 C.1.1.2.1 dL_law_1177 hl (by decide) rfl (fun ls hl => ?_)
  refine lv_aload_n C.1.1.1 C.1.1.2.1 dL_law_1179 rfl (lv_at hl 3 rfl) ?_
  refine lv_aload_n C.1.1.1 C.1.1.2.1 dL_law_1180 rfl (lv_at hl 5 rfl) ?_
  refine lv_iload C.1.1.1 C.1.1.2.1 dL_law_1181 (lv_at hl 1 rfl) ?_
  refine lv_iconst C.1.1.1 C.1.1.2.1 dL_law_1183 rfl ?_
  refine lv_iadd C.1.1.1 C.1.1.2.1 dL_law_1184 ?_
  refine L_ld C X hi.2.1 dL_law_1185 ?_
  refine lv_aload_n C.1.1.1 C.1.1.2.1 dL_law_1186 rfl (lv_at hl 5 rfl) ?_
  refine lv_iload C.1.1.1 C.1.1.2.1 dL_law_1187 (lv_at hl 1 rfl) ?_
  refine lv_iconst C.1.1.1 C.1.1.2.1 dL_law_1189 rfl ?_
  refine lv_iadd C.1.1.1 C.1.1.2.1 dL_law_1190 ?_
  refine L_ld C X hi.2.2.1 dL_law_1191 ?_
  refine L_callM C.2.2.2.2.2.1.1.1.1 C.2.2.2.2.2.2.1.1 C.2.2.2.2.1 C.2.1 X xv_L_210 rfl (kX12_confessing C.2.2.2.2.2.2.1.1 C.2.1.2.2.2.2.1 M (xs (Int32.toNatClampNeg (i + 1))) (xs (Int32.toNatClampNeg (i + 2))) SM om h2) (Nat.le_of_ble_eq_true rfl) (Nat.le_of_ble_eq_true rfl) (Nat.le_trans (Nat.add_le_add_left (Nat.le_of_ble_eq_true rfl) _) hc4) (Nat.le_trans (Nat.add_le_add_left (Nat.le_of_ble_eq_true rfl) _) hs4) rfl hl.1 rfl (Nat.le_of_ble_eq_true rfl) dL_law_1192 (fun H locs X => ?_)
  refine lv_istore C.1.1.1 C.1.1.2.1 dL_law_1195 hl (by decide) rfl (fun ls hl => ?_)
  refine lv_goto (tgt := 1499) C.1.1.1 C.1.1.2.1 dL_law_1197 (by decide) ?_
  exact W.widen (k := cs + 4) (n := sl + 24) (Nat.add_le_add_left (Nat.le_of_ble_eq_true rfl) _) (Nat.add_le_add_left (Nat.le_of_ble_eq_true rfl) _) (kk _ _ _ _ _ _ h6 X (lv_sub hl [2, 3, 4, 5, 6] rfl))
theorem LB_see (C : LCx p l s m args meth c D g g2 cI cB cZ cQ cS cJ aK aV aO b L xs Am Am2) (hi : Lin i L) (X : LX D g g2 cI cB cZ cQ cS cJ aK aO b L xs SX SM f s H locs) (hJ : J SX SM) (hl : lv_has ls 7 (Llv b (g 0) (g2 99) aO i)) (hc4 : cs + 4 ≤ 601024) (hs4 : sl + 24 ≤ 7293034) (h : Lw_see J) (kk : ∀ (H1 : Heap) (locs1 : List Loc) (ls1 : Array Slot) (SX1 SM1 : gS) (f1 : Nat → Int64), J SX1 SM1 → LX D g g2 cI cB cZ cQ cS cJ aK aO b L xs SX1 SM1 f1 s H1 locs1 → lv_has ls1 7 (Llv b (g 0) (g2 99) aO i) → W p l e room_1 s m args below meth c H1 locs1 (cs + 4) (sl + 24) Q (F0 m 1499 ls1 [])) : W p l e room_1 s m args below meth c H locs cs sl Q (F0 m 1200 ls []) := by
  obtain ⟨N, ox, M, om, h1, h2, h3, h4, h5, h6⟩ := h SX SM (xs (Int32.toNatClampNeg (i + 1))) (xs (Int32.toNatClampNeg (i + 2))) (xs (Int32.toNatClampNeg (i + 3))) hJ
  unfold Llv at hl
  refine lv_aload_n C.1.1.1 C.1.1.2.1 dL_law_1200 rfl (lv_at hl 3 rfl) ?_
  refine lv_aload_n C.1.1.1 C.1.1.2.1 dL_law_1201 rfl (lv_at hl 4 rfl) ?_
  refine lv_iload C.1.1.1 C.1.1.2.1 dL_law_1202 (lv_at hl 0 rfl) ?_
  refine lv_iconst C.1.1.1 C.1.1.2.1 dL_law_1204 rfl ?_
  refine lv_iadd C.1.1.1 C.1.1.2.1 dL_law_1205 ?_
  refine L_ld C X hi.2.1 dL_law_1206 ?_
  refine lv_aload_n C.1.1.1 C.1.1.2.1 dL_law_1207 rfl (lv_at hl 4 rfl) ?_
  refine lv_iload C.1.1.1 C.1.1.2.1 dL_law_1208 (lv_at hl 0 rfl) ?_
  refine lv_iconst C.1.1.1 C.1.1.2.1 dL_law_1210 rfl ?_
  refine lv_iadd C.1.1.1 C.1.1.2.1 dL_law_1211 ?_
  refine L_ld C X hi.2.2.1 dL_law_1212 ?_
  refine lv_aload_n C.1.1.1 C.1.1.2.1 dL_law_1213 rfl (lv_at hl 4 rfl) ?_
  refine lv_iload C.1.1.1 C.1.1.2.1 dL_law_1214 (lv_at hl 0 rfl) ?_
  refine lv_iconst C.1.1.1 C.1.1.2.1 dL_law_1216 rfl ?_
  refine lv_iadd C.1.1.1 C.1.1.2.1 dL_law_1217 ?_
  refine L_ld C X hi.2.2.2.1 dL_law_1218 ?_
  refine lv_aload_n C.1.1.1 C.1.1.2.1 dL_law_1219 rfl (lv_at hl 1 rfl) ?_
  refine L_callS C.2.2.2.2.2.1.1.1.1 C.2.2.2.2.2.2.1.1 C.2.2.2.2.1 C.1 C.2.2.1 C.2.2.2.1 X lw_see rfl (kL_see C.2.2.2.2.2.1 C.1.2.2.2.2.1 (fun k hk => (C.2.2.2.2.1.1 k hk).2.1) N (xs (Int32.toNatClampNeg (i + 1))) (xs (Int32.toNatClampNeg (i + 2))) (xs (Int32.toNatClampNeg (i + 3))) SX f ox h1 h3) (Nat.le_of_ble_eq_true rfl) (Nat.le_of_ble_eq_true rfl) (Nat.le_trans (Nat.add_le_add_left (Nat.le_of_ble_eq_true rfl) _) hc4) (Nat.le_trans (Nat.add_le_add_left (Nat.le_of_ble_eq_true rfl) _) hs4) rfl hl.1 rfl (Nat.le_of_ble_eq_true rfl) dL_law_1220 (fun H locs X => ?_)
  refine lv_istore C.1.1.1 C.1.1.2.1 dL_law_1223 hl (by decide) rfl (fun ls hl => ?_)
  refine lv_aload_n C.1.1.1 C.1.1.2.1 dL_law_1225 rfl (lv_at hl 3 rfl) ?_
  refine lv_aload_n C.1.1.1 C.1.1.2.1 dL_law_1226 rfl (lv_at hl 5 rfl) ?_
  refine lv_iload C.1.1.1 C.1.1.2.1 dL_law_1227 (lv_at hl 1 rfl) ?_
  refine lv_iconst C.1.1.1 C.1.1.2.1 dL_law_1229 rfl ?_
  refine lv_iadd C.1.1.1 C.1.1.2.1 dL_law_1230 ?_
  refine L_ld C X hi.2.1 dL_law_1231 ?_
  refine lv_aload_n C.1.1.1 C.1.1.2.1 dL_law_1232 rfl (lv_at hl 5 rfl) ?_
  refine lv_iload C.1.1.1 C.1.1.2.1 dL_law_1233 (lv_at hl 1 rfl) ?_
  refine lv_iconst C.1.1.1 C.1.1.2.1 dL_law_1235 rfl ?_
  refine lv_iadd C.1.1.1 C.1.1.2.1 dL_law_1236 ?_
  refine L_ld C X hi.2.2.1 dL_law_1237 ?_
  refine lv_aload_n C.1.1.1 C.1.1.2.1 dL_law_1238 rfl (lv_at hl 5 rfl) ?_
  refine lv_iload C.1.1.1 C.1.1.2.1 dL_law_1239 (lv_at hl 1 rfl) ?_
  refine lv_iconst C.1.1.1 C.1.1.2.1 dL_law_1241 rfl ?_
  refine lv_iadd C.1.1.1 C.1.1.2.1 dL_law_1242 ?_
  refine L_ld C X hi.2.2.2.1 dL_law_1243 ?_
  refine L_callM C.2.2.2.2.2.1.1.1.1 C.2.2.2.2.2.2.1.1 C.2.2.2.2.1 C.2.1 X xv_L_213 rfl (kX12_see C.2.2.2.2.2.2.1.1 C.2.1.2.2.2.2.1 M (xs (Int32.toNatClampNeg (i + 1))) (xs (Int32.toNatClampNeg (i + 2))) (xs (Int32.toNatClampNeg (i + 3))) SM om h2) (Nat.le_of_ble_eq_true rfl) (Nat.le_of_ble_eq_true rfl) (Nat.le_trans (Nat.add_le_add_left (Nat.le_of_ble_eq_true rfl) _) hc4) (Nat.le_trans (Nat.add_le_add_left (Nat.le_of_ble_eq_true rfl) _) hs4) rfl hl.1 rfl (Nat.le_of_ble_eq_true rfl) dL_law_1244 (fun H locs X => ?_)
  refine lv_istore C.1.1.1 C.1.1.2.1 dL_law_1247 hl (by decide) rfl (fun ls hl => ?_)
  refine lv_goto (tgt := 1499) C.1.1.1 C.1.1.2.1 dL_law_1249 (by decide) ?_
  exact W.widen (k := cs + 4) (n := sl + 24) (Nat.add_le_add_left (Nat.le_of_ble_eq_true rfl) _) (Nat.add_le_add_left (Nat.le_of_ble_eq_true rfl) _) (kk _ _ _ _ _ _ h6 X (lv_sub hl [2, 3, 4, 5, 6] rfl))
theorem LB_greedy (C : LCx p l s m args meth c D g g2 cI cB cZ cQ cS cJ aK aV aO b L xs Am Am2) (hi : Lin i L) (X : LX D g g2 cI cB cZ cQ cS cJ aK aO b L xs SX SM f s H locs) (hJ : J SX SM) (hl : lv_has ls 7 (Llv b (g 0) (g2 99) aO i)) (hc4 : cs + 4 ≤ 601024) (hs4 : sl + 24 ≤ 7293034) (h : Lw_greedy J) (kk : ∀ (H1 : Heap) (locs1 : List Loc) (ls1 : Array Slot) (SX1 SM1 : gS) (f1 : Nat → Int64), J SX1 SM1 → LX D g g2 cI cB cZ cQ cS cJ aK aO b L xs SX1 SM1 f1 s H1 locs1 → lv_has ls1 7 (Llv b (g 0) (g2 99) aO i) → W p l e room_1 s m args below meth c H1 locs1 (cs + 4) (sl + 24) Q (F0 m 1499 ls1 [])) : W p l e room_1 s m args below meth c H locs cs sl Q (F0 m 1252 ls []) := by
  obtain ⟨N, ox, M, om, h1, h2, h3, h4, h5, h6⟩ := h SX SM (xs (Int32.toNatClampNeg (i + 1))) hJ
  unfold Llv at hl
  refine lv_aload_n C.1.1.1 C.1.1.2.1 dL_law_1252 rfl (lv_at hl 3 rfl) ?_
  refine lv_aload_n C.1.1.1 C.1.1.2.1 dL_law_1253 rfl (lv_at hl 4 rfl) ?_
  refine lv_iload C.1.1.1 C.1.1.2.1 dL_law_1254 (lv_at hl 0 rfl) ?_
  refine lv_iconst C.1.1.1 C.1.1.2.1 dL_law_1256 rfl ?_
  refine lv_iadd C.1.1.1 C.1.1.2.1 dL_law_1257 ?_
  refine L_ld C X hi.2.1 dL_law_1258 ?_
  refine lv_aload_n C.1.1.1 C.1.1.2.1 dL_law_1259 rfl (lv_at hl 1 rfl) ?_
  refine L_callS C.2.2.2.2.2.1.1.1.1 C.2.2.2.2.2.2.1.1 C.2.2.2.2.1 C.1 C.2.2.1 C.2.2.2.1 X lw_greedy rfl (kL_greedy C.2.2.2.2.2.1 C.1.2.2.2.2.1 (fun k hk => (C.2.2.2.2.1.1 k hk).2.1) N (xs (Int32.toNatClampNeg (i + 1))) SX f ox h1 h3) (Nat.le_of_ble_eq_true rfl) (Nat.le_of_ble_eq_true rfl) (Nat.le_trans (Nat.add_le_add_left (Nat.le_of_ble_eq_true rfl) _) hc4) (Nat.le_trans (Nat.add_le_add_left (Nat.le_of_ble_eq_true rfl) _) hs4) rfl hl.1 rfl (Nat.le_of_ble_eq_true rfl) dL_law_1260 (fun H locs X => ?_)
  refine lv_istore C.1.1.1 C.1.1.2.1 dL_law_1263 hl (by decide) rfl (fun ls hl => ?_)
  refine lv_aload_n C.1.1.1 C.1.1.2.1 dL_law_1265 rfl (lv_at hl 3 rfl) ?_
  refine lv_aload_n C.1.1.1 C.1.1.2.1 dL_law_1266 rfl (lv_at hl 5 rfl) ?_
  refine lv_iload C.1.1.1 C.1.1.2.1 dL_law_1267 (lv_at hl 1 rfl) ?_
  refine lv_iconst C.1.1.1 C.1.1.2.1 dL_law_1269 rfl ?_
  refine lv_iadd C.1.1.1 C.1.1.2.1 dL_law_1270 ?_
  refine L_ld C X hi.2.1 dL_law_1271 ?_
  refine L_callM C.2.2.2.2.2.1.1.1.1 C.2.2.2.2.2.2.1.1 C.2.2.2.2.1 C.2.1 X xv_L_216 rfl (kX12_greedy C.2.2.2.2.2.2.1.1 C.2.1.2.2.2.2.1 M (xs (Int32.toNatClampNeg (i + 1))) SM om h2) (Nat.le_of_ble_eq_true rfl) (Nat.le_of_ble_eq_true rfl) (Nat.le_trans (Nat.add_le_add_left (Nat.le_of_ble_eq_true rfl) _) hc4) (Nat.le_trans (Nat.add_le_add_left (Nat.le_of_ble_eq_true rfl) _) hs4) rfl hl.1 rfl (Nat.le_of_ble_eq_true rfl) dL_law_1272 (fun H locs X => ?_)
  refine lv_istore C.1.1.1 C.1.1.2.1 dL_law_1275 hl (by decide) rfl (fun ls hl => ?_)
  refine lv_goto (tgt := 1499) C.1.1.1 C.1.1.2.1 dL_law_1277 (by decide) ?_
  exact W.widen (k := cs + 4) (n := sl + 24) (Nat.add_le_add_left (Nat.le_of_ble_eq_true rfl) _) (Nat.add_le_add_left (Nat.le_of_ble_eq_true rfl) _) (kk _ _ _ _ _ _ h6 X (lv_sub hl [2, 3, 4, 5, 6] rfl))
theorem LB_look (C : LCx p l s m args meth c D g g2 cI cB cZ cQ cS cJ aK aV aO b L xs Am Am2) (hi : Lin i L) (X : LX D g g2 cI cB cZ cQ cS cJ aK aO b L xs SX SM f s H locs) (hJ : J SX SM) (hl : lv_has ls 7 (Llv b (g 0) (g2 99) aO i)) (hc4 : cs + 4 ≤ 601024) (hs4 : sl + 24 ≤ 7293034) (h : Lw_look J) (kk : ∀ (H1 : Heap) (locs1 : List Loc) (ls1 : Array Slot) (SX1 SM1 : gS) (f1 : Nat → Int64), J SX1 SM1 → LX D g g2 cI cB cZ cQ cS cJ aK aO b L xs SX1 SM1 f1 s H1 locs1 → lv_has ls1 7 (Llv b (g 0) (g2 99) aO i) → W p l e room_1 s m args below meth c H1 locs1 (cs + 4) (sl + 24) Q (F0 m 1499 ls1 [])) : W p l e room_1 s m args below meth c H locs cs sl Q (F0 m 1280 ls []) := by
  obtain ⟨N, ox, M, om, h1, h2, h3, h4, h5, h6⟩ := h SX SM (xs (Int32.toNatClampNeg (i + 1))) hJ
  unfold Llv at hl
  refine lv_aload_n C.1.1.1 C.1.1.2.1 dL_law_1280 rfl (lv_at hl 3 rfl) ?_
  refine lv_aload_n C.1.1.1 C.1.1.2.1 dL_law_1281 rfl (lv_at hl 4 rfl) ?_
  refine lv_iload C.1.1.1 C.1.1.2.1 dL_law_1282 (lv_at hl 0 rfl) ?_
  refine lv_iconst C.1.1.1 C.1.1.2.1 dL_law_1284 rfl ?_
  refine lv_iadd C.1.1.1 C.1.1.2.1 dL_law_1285 ?_
  refine L_ld C X hi.2.1 dL_law_1286 ?_
  refine lv_aload_n C.1.1.1 C.1.1.2.1 dL_law_1287 rfl (lv_at hl 1 rfl) ?_
  refine L_callS C.2.2.2.2.2.1.1.1.1 C.2.2.2.2.2.2.1.1 C.2.2.2.2.1 C.1 C.2.2.1 C.2.2.2.1 X lw_look rfl (kL_look C.2.2.2.2.2.1 C.1.2.2.2.2.1 (fun k hk => (C.2.2.2.2.1.1 k hk).2.1) N (xs (Int32.toNatClampNeg (i + 1))) SX f ox h1 h3) (Nat.le_of_ble_eq_true rfl) (Nat.le_of_ble_eq_true rfl) (Nat.le_trans (Nat.add_le_add_left (Nat.le_of_ble_eq_true rfl) _) hc4) (Nat.le_trans (Nat.add_le_add_left (Nat.le_of_ble_eq_true rfl) _) hs4) rfl hl.1 rfl (Nat.le_of_ble_eq_true rfl) dL_law_1288 (fun H locs X => ?_)
  refine lv_istore C.1.1.1 C.1.1.2.1 dL_law_1291 hl (by decide) rfl (fun ls hl => ?_)
  refine lv_aload_n C.1.1.1 C.1.1.2.1 dL_law_1293 rfl (lv_at hl 3 rfl) ?_
  refine lv_aload_n C.1.1.1 C.1.1.2.1 dL_law_1294 rfl (lv_at hl 5 rfl) ?_
  refine lv_iload C.1.1.1 C.1.1.2.1 dL_law_1295 (lv_at hl 1 rfl) ?_
  refine lv_iconst C.1.1.1 C.1.1.2.1 dL_law_1297 rfl ?_
  refine lv_iadd C.1.1.1 C.1.1.2.1 dL_law_1298 ?_
  refine L_ld C X hi.2.1 dL_law_1299 ?_
  refine L_callM C.2.2.2.2.2.1.1.1.1 C.2.2.2.2.2.2.1.1 C.2.2.2.2.1 C.2.1 X xv_L_219 rfl (kX12_look C.2.2.2.2.2.2.1.1 C.2.1.2.2.2.2.1 M (xs (Int32.toNatClampNeg (i + 1))) SM om h2) (Nat.le_of_ble_eq_true rfl) (Nat.le_of_ble_eq_true rfl) (Nat.le_trans (Nat.add_le_add_left (Nat.le_of_ble_eq_true rfl) _) hc4) (Nat.le_trans (Nat.add_le_add_left (Nat.le_of_ble_eq_true rfl) _) hs4) rfl hl.1 rfl (Nat.le_of_ble_eq_true rfl) dL_law_1300 (fun H locs X => ?_)
  refine lv_istore C.1.1.1 C.1.1.2.1 dL_law_1303 hl (by decide) rfl (fun ls hl => ?_)
  refine lv_goto (tgt := 1499) C.1.1.1 C.1.1.2.1 dL_law_1305 (by decide) ?_
  exact W.widen (k := cs + 4) (n := sl + 24) (Nat.add_le_add_left (Nat.le_of_ble_eq_true rfl) _) (Nat.add_le_add_left (Nat.le_of_ble_eq_true rfl) _) (kk _ _ _ _ _ _ h6 X (lv_sub hl [2, 3, 4, 5, 6] rfl))
theorem LB_forget (C : LCx p l s m args meth c D g g2 cI cB cZ cQ cS cJ aK aV aO b L xs Am Am2) (hi : Lin i L) (X : LX D g g2 cI cB cZ cQ cS cJ aK aO b L xs SX SM f s H locs) (hJ : J SX SM) (hl : lv_has ls 7 (Llv b (g 0) (g2 99) aO i)) (hc4 : cs + 4 ≤ 601024) (hs4 : sl + 24 ≤ 7293034) (h : Lw_forget J) (kk : ∀ (H1 : Heap) (locs1 : List Loc) (ls1 : Array Slot) (SX1 SM1 : gS) (f1 : Nat → Int64), J SX1 SM1 → LX D g g2 cI cB cZ cQ cS cJ aK aO b L xs SX1 SM1 f1 s H1 locs1 → lv_has ls1 7 (Llv b (g 0) (g2 99) aO i) → W p l e room_1 s m args below meth c H1 locs1 (cs + 4) (sl + 24) Q (F0 m 1499 ls1 [])) : W p l e room_1 s m args below meth c H locs cs sl Q (F0 m 1308 ls []) := by
  obtain ⟨N, ox, M, om, h1, h2, h5, h6⟩ := h SX SM  hJ
  unfold Llv at hl
  refine lv_aload_n C.1.1.1 C.1.1.2.1 dL_law_1308 rfl (lv_at hl 3 rfl) ?_
  refine L_callX C.2.2.2.2.2.1.1.1.1 C.2.2.2.2.2.2.1.1 C.2.2.2.2.1 C.1 X xv_L_220 rfl (kX11_forget C.2.2.2.2.2.1.1.1 C.1.2.2.2.2.1 N  SX ox h1) (Nat.le_of_ble_eq_true rfl) (Nat.le_of_ble_eq_true rfl) (Nat.le_trans (Nat.le_add_right _ _) hc4) (Nat.le_trans (Nat.le_add_right _ _) hs4) rfl hl.1 rfl (Nat.le_of_ble_eq_true rfl) dL_law_1309 (fun H locs X => ?_)
  refine lv_aload_n C.1.1.1 C.1.1.2.1 dL_law_1312 rfl (lv_at hl 2 rfl) ?_
  refine L_callM C.2.2.2.2.2.1.1.1.1 C.2.2.2.2.2.2.1.1 C.2.2.2.2.1 C.2.1 X xv_L_223 rfl (kX12_forget C.2.2.2.2.2.2.1.1 C.2.1.2.2.2.2.1 M  SM om h2) (Nat.le_of_ble_eq_true rfl) (Nat.le_of_ble_eq_true rfl) (Nat.le_trans (Nat.le_add_right _ _) hc4) (Nat.le_trans (Nat.le_add_right _ _) hs4) rfl hl.1 rfl (Nat.le_of_ble_eq_true rfl) dL_law_1313 (fun H locs X => ?_)
  refine lv_goto (tgt := 1499) C.1.1.1 C.1.1.2.1 dL_law_1316 (by decide) ?_
  exact W.widen (k := cs + 4) (n := sl + 24) (Nat.le_add_right _ _) (Nat.le_add_right _ _) (kk _ _ _ _ _ _ h6 X (lv_sub hl [0, 1, 2, 3, 4] rfl))
theorem LB_drought (C : LCx p l s m args meth c D g g2 cI cB cZ cQ cS cJ aK aV aO b L xs Am Am2) (hi : Lin i L) (X : LX D g g2 cI cB cZ cQ cS cJ aK aO b L xs SX SM f s H locs) (hJ : J SX SM) (hl : lv_has ls 7 (Llv b (g 0) (g2 99) aO i)) (hc4 : cs + 4 ≤ 601024) (hs4 : sl + 24 ≤ 7293034) (h : Lw_drought J) (kk : ∀ (H1 : Heap) (locs1 : List Loc) (ls1 : Array Slot) (SX1 SM1 : gS) (f1 : Nat → Int64), J SX1 SM1 → LX D g g2 cI cB cZ cQ cS cJ aK aO b L xs SX1 SM1 f1 s H1 locs1 → lv_has ls1 7 (Llv b (g 0) (g2 99) aO i) → W p l e room_1 s m args below meth c H1 locs1 (cs + 4) (sl + 24) Q (F0 m 1499 ls1 [])) : W p l e room_1 s m args below meth c H locs cs sl Q (F0 m 1319 ls []) := by
  obtain ⟨N, ox, M, om, h1, h2, h3, h4, h6⟩ := h SX SM (xs (Int32.toNatClampNeg (i + 1))) (xs (Int32.toNatClampNeg (i + 2))) (xs (Int32.toNatClampNeg (i + 3))) hJ
  unfold Llv at hl
  refine lv_aload_n C.1.1.1 C.1.1.2.1 dL_law_1319 rfl (lv_at hl 3 rfl) ?_
  refine lv_aload_n C.1.1.1 C.1.1.2.1 dL_law_1320 rfl (lv_at hl 4 rfl) ?_
  refine lv_iload C.1.1.1 C.1.1.2.1 dL_law_1321 (lv_at hl 0 rfl) ?_
  refine lv_iconst C.1.1.1 C.1.1.2.1 dL_law_1323 rfl ?_
  refine lv_iadd C.1.1.1 C.1.1.2.1 dL_law_1324 ?_
  refine L_ld C X hi.2.1 dL_law_1325 ?_
  refine lv_aload_n C.1.1.1 C.1.1.2.1 dL_law_1326 rfl (lv_at hl 4 rfl) ?_
  refine lv_iload C.1.1.1 C.1.1.2.1 dL_law_1327 (lv_at hl 0 rfl) ?_
  refine lv_iconst C.1.1.1 C.1.1.2.1 dL_law_1329 rfl ?_
  refine lv_iadd C.1.1.1 C.1.1.2.1 dL_law_1330 ?_
  refine L_ld C X hi.2.2.1 dL_law_1331 ?_
  refine lv_aload_n C.1.1.1 C.1.1.2.1 dL_law_1332 rfl (lv_at hl 4 rfl) ?_
  refine lv_iload C.1.1.1 C.1.1.2.1 dL_law_1333 (lv_at hl 0 rfl) ?_
  refine lv_iconst C.1.1.1 C.1.1.2.1 dL_law_1335 rfl ?_
  refine lv_iadd C.1.1.1 C.1.1.2.1 dL_law_1336 ?_
  refine L_ld C X hi.2.2.2.1 dL_law_1337 ?_
  refine lv_aload_n C.1.1.1 C.1.1.2.1 dL_law_1338 rfl (lv_at hl 1 rfl) ?_
  refine L_callS C.2.2.2.2.2.1.1.1.1 C.2.2.2.2.2.2.1.1 C.2.2.2.2.1 C.1 C.2.2.1 C.2.2.2.1 X lw_drought rfl (kL_drought C.2.2.2.2.2.1 C.1.2.2.2.2.1 (fun k hk => (C.2.2.2.2.1.1 k hk).2.1) N (xs (Int32.toNatClampNeg (i + 1))) (xs (Int32.toNatClampNeg (i + 2))) (xs (Int32.toNatClampNeg (i + 3))) SX f ox h1 h3) (Nat.le_of_ble_eq_true rfl) (Nat.le_of_ble_eq_true rfl) (Nat.le_trans (Nat.add_le_add_left (Nat.le_of_ble_eq_true rfl) _) hc4) (Nat.le_trans (Nat.add_le_add_left (Nat.le_of_ble_eq_true rfl) _) hs4) rfl hl.1 rfl (Nat.le_of_ble_eq_true rfl) dL_law_1339 (fun H locs X => ?_)
  refine lv_istore C.1.1.1 C.1.1.2.1 dL_law_1342 hl (by decide) rfl (fun ls hl => ?_)
  refine lv_aload_n C.1.1.1 C.1.1.2.1 dL_law_1344 rfl (lv_at hl 3 rfl) ?_
  refine lv_aload_n C.1.1.1 C.1.1.2.1 dL_law_1345 rfl (lv_at hl 5 rfl) ?_
  refine lv_iload C.1.1.1 C.1.1.2.1 dL_law_1346 (lv_at hl 1 rfl) ?_
  refine lv_iconst C.1.1.1 C.1.1.2.1 dL_law_1348 rfl ?_
  refine lv_iadd C.1.1.1 C.1.1.2.1 dL_law_1349 ?_
  refine L_ld C X hi.2.1 dL_law_1350 ?_
  refine lv_aload_n C.1.1.1 C.1.1.2.1 dL_law_1351 rfl (lv_at hl 5 rfl) ?_
  refine lv_iload C.1.1.1 C.1.1.2.1 dL_law_1352 (lv_at hl 1 rfl) ?_
  refine lv_iconst C.1.1.1 C.1.1.2.1 dL_law_1354 rfl ?_
  refine lv_iadd C.1.1.1 C.1.1.2.1 dL_law_1355 ?_
  refine L_ld C X hi.2.2.1 dL_law_1356 ?_
  refine lv_aload_n C.1.1.1 C.1.1.2.1 dL_law_1357 rfl (lv_at hl 5 rfl) ?_
  refine lv_iload C.1.1.1 C.1.1.2.1 dL_law_1358 (lv_at hl 1 rfl) ?_
  refine lv_iconst C.1.1.1 C.1.1.2.1 dL_law_1360 rfl ?_
  refine lv_iadd C.1.1.1 C.1.1.2.1 dL_law_1361 ?_
  refine L_ld C X hi.2.2.2.1 dL_law_1362 ?_
  refine L_callM C.2.2.2.2.2.1.1.1.1 C.2.2.2.2.2.2.1.1 C.2.2.2.2.1 C.2.1 X xv_L_226 rfl (kX12_drought C.2.2.2.2.2.2.1.1 C.2.1.2.2.2.2.1 M (xs (Int32.toNatClampNeg (i + 1))) (xs (Int32.toNatClampNeg (i + 2))) (xs (Int32.toNatClampNeg (i + 3))) SM om h2) (Nat.le_of_ble_eq_true rfl) (Nat.le_of_ble_eq_true rfl) (Nat.le_trans (Nat.add_le_add_left (Nat.le_of_ble_eq_true rfl) _) hc4) (Nat.le_trans (Nat.add_le_add_left (Nat.le_of_ble_eq_true rfl) _) hs4) rfl hl.1 rfl (Nat.le_of_ble_eq_true rfl) dL_law_1363 (fun H locs X => ?_)
  refine lv_istore C.1.1.1 C.1.1.2.1 dL_law_1366 hl (by decide) rfl (fun ls hl => ?_)
  refine lv_goto (tgt := 1499) C.1.1.1 C.1.1.2.1 dL_law_1368 (by decide) ?_
  exact W.widen (k := cs + 4) (n := sl + 24) (Nat.add_le_add_left (Nat.le_of_ble_eq_true rfl) _) (Nat.add_le_add_left (Nat.le_of_ble_eq_true rfl) _) (kk _ _ _ _ _ _ h6 X (lv_sub hl [2, 3, 4, 5, 6] rfl))
theorem LB_game (C : LCx p l s m args meth c D g g2 cI cB cZ cQ cS cJ aK aV aO b L xs Am Am2) (hi : Lin i L) (X : LX D g g2 cI cB cZ cQ cS cJ aK aO b L xs SX SM f s H locs) (hJ : J SX SM) (hl : lv_has ls 7 (Llv b (g 0) (g2 99) aO i)) (hc4 : cs + 4 ≤ 601024) (hs4 : sl + 24 ≤ 7293034) (h : Lw_game J) (kk : ∀ (H1 : Heap) (locs1 : List Loc) (ls1 : Array Slot) (SX1 SM1 : gS) (f1 : Nat → Int64), J SX1 SM1 → LX D g g2 cI cB cZ cQ cS cJ aK aO b L xs SX1 SM1 f1 s H1 locs1 → lv_has ls1 7 (Llv b (g 0) (g2 99) aO i) → W p l e room_1 s m args below meth c H1 locs1 (cs + 4) (sl + 24) Q (F0 m 1499 ls1 [])) : W p l e room_1 s m args below meth c H locs cs sl Q (F0 m 1371 ls []) := by
  obtain ⟨N, ox, M, om, h1, h2, h3, h4, h5, h6⟩ := h SX SM (xs (Int32.toNatClampNeg (i + 1))) (xs (Int32.toNatClampNeg (i + 2))) (xs (Int32.toNatClampNeg (i + 3))) hJ
  unfold Llv at hl
  refine lv_aload_n C.1.1.1 C.1.1.2.1 dL_law_1371 rfl (lv_at hl 3 rfl) ?_
  refine lv_aload_n C.1.1.1 C.1.1.2.1 dL_law_1372 rfl (lv_at hl 4 rfl) ?_
  refine lv_iload C.1.1.1 C.1.1.2.1 dL_law_1373 (lv_at hl 0 rfl) ?_
  refine lv_iconst C.1.1.1 C.1.1.2.1 dL_law_1375 rfl ?_
  refine lv_iadd C.1.1.1 C.1.1.2.1 dL_law_1376 ?_
  refine L_ld C X hi.2.1 dL_law_1377 ?_
  refine lv_aload_n C.1.1.1 C.1.1.2.1 dL_law_1378 rfl (lv_at hl 4 rfl) ?_
  refine lv_iload C.1.1.1 C.1.1.2.1 dL_law_1379 (lv_at hl 0 rfl) ?_
  refine lv_iconst C.1.1.1 C.1.1.2.1 dL_law_1381 rfl ?_
  refine lv_iadd C.1.1.1 C.1.1.2.1 dL_law_1382 ?_
  refine L_ld C X hi.2.2.1 dL_law_1383 ?_
  refine lv_aload_n C.1.1.1 C.1.1.2.1 dL_law_1384 rfl (lv_at hl 4 rfl) ?_
  refine lv_iload C.1.1.1 C.1.1.2.1 dL_law_1385 (lv_at hl 0 rfl) ?_
  refine lv_iconst C.1.1.1 C.1.1.2.1 dL_law_1387 rfl ?_
  refine lv_iadd C.1.1.1 C.1.1.2.1 dL_law_1388 ?_
  refine L_ld C X hi.2.2.2.1 dL_law_1389 ?_
  refine lv_aload_n C.1.1.1 C.1.1.2.1 dL_law_1390 rfl (lv_at hl 1 rfl) ?_
  refine L_callS C.2.2.2.2.2.1.1.1.1 C.2.2.2.2.2.2.1.1 C.2.2.2.2.1 C.1 C.2.2.1 C.2.2.2.1 X lw_game rfl (kL_game C.2.2.2.2.2.1 C.1.2.2.2.2.1 (fun k hk => (C.2.2.2.2.1.1 k hk).2.1) N (xs (Int32.toNatClampNeg (i + 1))) (xs (Int32.toNatClampNeg (i + 2))) (xs (Int32.toNatClampNeg (i + 3))) SX f ox h1 h3) (Nat.le_of_ble_eq_true rfl) (Nat.le_of_ble_eq_true rfl) (Nat.le_trans (Nat.add_le_add_left (Nat.le_of_ble_eq_true rfl) _) hc4) (Nat.le_trans (Nat.add_le_add_left (Nat.le_of_ble_eq_true rfl) _) hs4) rfl hl.1 rfl (Nat.le_of_ble_eq_true rfl) dL_law_1391 (fun H locs X => ?_)
  refine lv_istore C.1.1.1 C.1.1.2.1 dL_law_1394 hl (by decide) rfl (fun ls hl => ?_)
  refine lv_aload_n C.1.1.1 C.1.1.2.1 dL_law_1396 rfl (lv_at hl 3 rfl) ?_
  refine lv_aload_n C.1.1.1 C.1.1.2.1 dL_law_1397 rfl (lv_at hl 5 rfl) ?_
  refine lv_iload C.1.1.1 C.1.1.2.1 dL_law_1398 (lv_at hl 1 rfl) ?_
  refine lv_iconst C.1.1.1 C.1.1.2.1 dL_law_1400 rfl ?_
  refine lv_iadd C.1.1.1 C.1.1.2.1 dL_law_1401 ?_
  refine L_ld C X hi.2.1 dL_law_1402 ?_
  refine lv_aload_n C.1.1.1 C.1.1.2.1 dL_law_1403 rfl (lv_at hl 5 rfl) ?_
  refine lv_iload C.1.1.1 C.1.1.2.1 dL_law_1404 (lv_at hl 1 rfl) ?_
  refine lv_iconst C.1.1.1 C.1.1.2.1 dL_law_1406 rfl ?_
  refine lv_iadd C.1.1.1 C.1.1.2.1 dL_law_1407 ?_
  refine L_ld C X hi.2.2.1 dL_law_1408 ?_
  refine lv_aload_n C.1.1.1 C.1.1.2.1 dL_law_1409 rfl (lv_at hl 5 rfl) ?_
  refine lv_iload C.1.1.1 C.1.1.2.1 dL_law_1410 (lv_at hl 1 rfl) ?_
  refine lv_iconst C.1.1.1 C.1.1.2.1 dL_law_1412 rfl ?_
  refine lv_iadd C.1.1.1 C.1.1.2.1 dL_law_1413 ?_
  refine L_ld C X hi.2.2.2.1 dL_law_1414 ?_
  refine L_callM C.2.2.2.2.2.1.1.1.1 C.2.2.2.2.2.2.1.1 C.2.2.2.2.1 C.2.1 X xv_L_229 rfl (kX12_game C.2.2.2.2.2.2.1.1 C.2.1.2.2.2.2.1 M (xs (Int32.toNatClampNeg (i + 1))) (xs (Int32.toNatClampNeg (i + 2))) (xs (Int32.toNatClampNeg (i + 3))) SM om h2) (Nat.le_of_ble_eq_true rfl) (Nat.le_of_ble_eq_true rfl) (Nat.le_trans (Nat.add_le_add_left (Nat.le_of_ble_eq_true rfl) _) hc4) (Nat.le_trans (Nat.add_le_add_left (Nat.le_of_ble_eq_true rfl) _) hs4) rfl hl.1 rfl (Nat.le_of_ble_eq_true rfl) dL_law_1415 (fun H locs X => ?_)
  refine lv_istore C.1.1.1 C.1.1.2.1 dL_law_1418 hl (by decide) rfl (fun ls hl => ?_)
  refine lv_goto (tgt := 1499) C.1.1.1 C.1.1.2.1 dL_law_1420 (by decide) ?_
  exact W.widen (k := cs + 4) (n := sl + 24) (Nat.add_le_add_left (Nat.le_of_ble_eq_true rfl) _) (Nat.add_le_add_left (Nat.le_of_ble_eq_true rfl) _) (kk _ _ _ _ _ _ h6 X (lv_sub hl [2, 3, 4, 5, 6] rfl))
theorem LB_years (C : LCx p l s m args meth c D g g2 cI cB cZ cQ cS cJ aK aV aO b L xs Am Am2) (hi : Lin i L) (X : LX D g g2 cI cB cZ cQ cS cJ aK aO b L xs SX SM f s H locs) (hJ : J SX SM) (hl : lv_has ls 7 (Llv b (g 0) (g2 99) aO i)) (hc4 : cs + 4 ≤ 601024) (hs4 : sl + 24 ≤ 7293034) (h : Lw_years J) (kk : ∀ (H1 : Heap) (locs1 : List Loc) (ls1 : Array Slot) (SX1 SM1 : gS) (f1 : Nat → Int64), J SX1 SM1 → LX D g g2 cI cB cZ cQ cS cJ aK aO b L xs SX1 SM1 f1 s H1 locs1 → lv_has ls1 7 (Llv b (g 0) (g2 99) aO i) → W p l e room_1 s m args below meth c H1 locs1 (cs + 4) (sl + 24) Q (F0 m 1499 ls1 [])) : W p l e room_1 s m args below meth c H locs cs sl Q (F0 m 1423 ls []) := by
  obtain ⟨N, ox, M, om, h1, h2, h3, h4, h5, h6⟩ := h SX SM (xs (Int32.toNatClampNeg (i + 1))) (xs (Int32.toNatClampNeg (i + 2))) (xs (Int32.toNatClampNeg (i + 3))) hJ
  unfold Llv at hl
  refine lv_aload_n C.1.1.1 C.1.1.2.1 dL_law_1423 rfl (lv_at hl 3 rfl) ?_
  refine lv_aload_n C.1.1.1 C.1.1.2.1 dL_law_1424 rfl (lv_at hl 4 rfl) ?_
  refine lv_iload C.1.1.1 C.1.1.2.1 dL_law_1425 (lv_at hl 0 rfl) ?_
  refine lv_iconst C.1.1.1 C.1.1.2.1 dL_law_1427 rfl ?_
  refine lv_iadd C.1.1.1 C.1.1.2.1 dL_law_1428 ?_
  refine L_ld C X hi.2.1 dL_law_1429 ?_
  refine lv_aload_n C.1.1.1 C.1.1.2.1 dL_law_1430 rfl (lv_at hl 4 rfl) ?_
  refine lv_iload C.1.1.1 C.1.1.2.1 dL_law_1431 (lv_at hl 0 rfl) ?_
  refine lv_iconst C.1.1.1 C.1.1.2.1 dL_law_1433 rfl ?_
  refine lv_iadd C.1.1.1 C.1.1.2.1 dL_law_1434 ?_
  refine L_ld C X hi.2.2.1 dL_law_1435 ?_
  refine lv_aload_n C.1.1.1 C.1.1.2.1 dL_law_1436 rfl (lv_at hl 4 rfl) ?_
  refine lv_iload C.1.1.1 C.1.1.2.1 dL_law_1437 (lv_at hl 0 rfl) ?_
  refine lv_iconst C.1.1.1 C.1.1.2.1 dL_law_1439 rfl ?_
  refine lv_iadd C.1.1.1 C.1.1.2.1 dL_law_1440 ?_
  refine L_ld C X hi.2.2.2.1 dL_law_1441 ?_
  refine lv_aload_n C.1.1.1 C.1.1.2.1 dL_law_1442 rfl (lv_at hl 1 rfl) ?_
  refine L_callS C.2.2.2.2.2.1.1.1.1 C.2.2.2.2.2.2.1.1 C.2.2.2.2.1 C.1 C.2.2.1 C.2.2.2.1 X lw_years rfl (kL_years C.2.2.2.2.2.1 C.1.2.2.2.2.1 (fun k hk => (C.2.2.2.2.1.1 k hk).2.1) N (xs (Int32.toNatClampNeg (i + 1))) (xs (Int32.toNatClampNeg (i + 2))) (xs (Int32.toNatClampNeg (i + 3))) SX f ox h1 h3) (Nat.le_of_ble_eq_true rfl) (Nat.le_of_ble_eq_true rfl) (Nat.le_trans (Nat.add_le_add_left (Nat.le_of_ble_eq_true rfl) _) hc4) (Nat.le_trans (Nat.add_le_add_left (Nat.le_of_ble_eq_true rfl) _) hs4) rfl hl.1 rfl (Nat.le_of_ble_eq_true rfl) dL_law_1443 (fun H locs X => ?_)
  refine lv_istore C.1.1.1 C.1.1.2.1 dL_law_1446 hl (by decide) rfl (fun ls hl => ?_)
  refine lv_aload_n C.1.1.1 C.1.1.2.1 dL_law_1448 rfl (lv_at hl 3 rfl) ?_
  refine lv_aload_n C.1.1.1 C.1.1.2.1 dL_law_1449 rfl (lv_at hl 5 rfl) ?_
  refine lv_iload C.1.1.1 C.1.1.2.1 dL_law_1450 (lv_at hl 1 rfl) ?_
  refine lv_iconst C.1.1.1 C.1.1.2.1 dL_law_1452 rfl ?_
  refine lv_iadd C.1.1.1 C.1.1.2.1 dL_law_1453 ?_
  refine L_ld C X hi.2.1 dL_law_1454 ?_
  refine lv_aload_n C.1.1.1 C.1.1.2.1 dL_law_1455 rfl (lv_at hl 5 rfl) ?_
  refine lv_iload C.1.1.1 C.1.1.2.1 dL_law_1456 (lv_at hl 1 rfl) ?_
  refine lv_iconst C.1.1.1 C.1.1.2.1 dL_law_1458 rfl ?_
  refine lv_iadd C.1.1.1 C.1.1.2.1 dL_law_1459 ?_
  refine L_ld C X hi.2.2.1 dL_law_1460 ?_
  refine lv_aload_n C.1.1.1 C.1.1.2.1 dL_law_1461 rfl (lv_at hl 5 rfl) ?_
  refine lv_iload C.1.1.1 C.1.1.2.1 dL_law_1462 (lv_at hl 1 rfl) ?_
  refine lv_iconst C.1.1.1 C.1.1.2.1 dL_law_1464 rfl ?_
  refine lv_iadd C.1.1.1 C.1.1.2.1 dL_law_1465 ?_
  refine L_ld C X hi.2.2.2.1 dL_law_1466 ?_
  refine L_callM C.2.2.2.2.2.1.1.1.1 C.2.2.2.2.2.2.1.1 C.2.2.2.2.1 C.2.1 X xv_L_232 rfl (kX12_years C.2.2.2.2.2.2.1.1 C.2.1.2.2.2.2.1 M (xs (Int32.toNatClampNeg (i + 1))) (xs (Int32.toNatClampNeg (i + 2))) (xs (Int32.toNatClampNeg (i + 3))) SM om h2) (Nat.le_of_ble_eq_true rfl) (Nat.le_of_ble_eq_true rfl) (Nat.le_trans (Nat.add_le_add_left (Nat.le_of_ble_eq_true rfl) _) hc4) (Nat.le_trans (Nat.add_le_add_left (Nat.le_of_ble_eq_true rfl) _) hs4) rfl hl.1 rfl (Nat.le_of_ble_eq_true rfl) dL_law_1467 (fun H locs X => ?_)
  refine lv_istore C.1.1.1 C.1.1.2.1 dL_law_1470 hl (by decide) rfl (fun ls hl => ?_)
  refine lv_goto (tgt := 1499) C.1.1.1 C.1.1.2.1 dL_law_1472 (by decide) ?_
  exact W.widen (k := cs + 4) (n := sl + 24) (Nat.add_le_add_left (Nat.le_of_ble_eq_true rfl) _) (Nat.add_le_add_left (Nat.le_of_ble_eq_true rfl) _) (kk _ _ _ _ _ _ h6 X (lv_sub hl [2, 3, 4, 5, 6] rfl))
theorem LB_image (C : LCx p l s m args meth c D g g2 cI cB cZ cQ cS cJ aK aV aO b L xs Am Am2) (hi : Lin i L) (X : LX D g g2 cI cB cZ cQ cS cJ aK aO b L xs SX SM f s H locs) (hJ : J SX SM) (hl : lv_has ls 7 (Llv b (g 0) (g2 99) aO i)) (hc4 : cs + 4 ≤ 601024) (hs4 : sl + 24 ≤ 7293034) (h : Lw_image J) (kk : ∀ (H1 : Heap) (locs1 : List Loc) (ls1 : Array Slot) (SX1 SM1 : gS) (f1 : Nat → Int64), J SX1 SM1 → LX D g g2 cI cB cZ cQ cS cJ aK aO b L xs SX1 SM1 f1 s H1 locs1 → lv_has ls1 7 (Llv b (g 0) (g2 99) aO i) → W p l e room_1 s m args below meth c H1 locs1 (cs + 4) (sl + 24) Q (F0 m 1499 ls1 [])) : W p l e room_1 s m args below meth c H locs cs sl Q (F0 m 1475 ls []) := by
  obtain ⟨N, ox, M, om, h1, h2, h5, h6⟩ := h SX SM  hJ
  unfold Llv at hl
  refine lv_aload_n C.1.1.1 C.1.1.2.1 dL_law_1475 rfl (lv_at hl 3 rfl) ?_
  refine L_callX C.2.2.2.2.2.1.1.1.1 C.2.2.2.2.2.2.1.1 C.2.2.2.2.1 C.1 X xv_L_233 rfl (kX11_image C.2.2.2.2.2.1.1 C.1.2.2.2.2.1 N  SX ox h1) (Nat.le_of_ble_eq_true rfl) (Nat.le_of_ble_eq_true rfl) (Nat.le_trans (Nat.le_add_right _ _) hc4) (Nat.le_trans (Nat.le_add_right _ _) hs4) rfl hl.1 rfl (Nat.le_of_ble_eq_true rfl) dL_law_1476 (fun H locs X => ?_)
  refine lv_aload_n C.1.1.1 C.1.1.2.1 dL_law_1479 rfl (lv_at hl 2 rfl) ?_
  refine L_callM C.2.2.2.2.2.1.1.1.1 C.2.2.2.2.2.2.1.1 C.2.2.2.2.1 C.2.1 X xv_L_236 rfl (kX12_image C.2.2.2.2.2.2.1.1 C.2.1.2.2.2.2.1 M  SM om h2) (Nat.le_of_ble_eq_true rfl) (Nat.le_of_ble_eq_true rfl) (Nat.le_trans (Nat.le_add_right _ _) hc4) (Nat.le_trans (Nat.le_add_right _ _) hs4) rfl hl.1 rfl (Nat.le_of_ble_eq_true rfl) dL_law_1480 (fun H locs X => ?_)
  refine lv_goto (tgt := 1499) C.1.1.1 C.1.1.2.1 dL_law_1483 (by decide) ?_
  exact W.widen (k := cs + 4) (n := sl + 24) (Nat.le_add_right _ _) (Nat.le_add_right _ _) (kk _ _ _ _ _ _ h6 X (lv_sub hl [0, 1, 2, 3, 4] rfl))
theorem LB_restore (C : LCx p l s m args meth c D g g2 cI cB cZ cQ cS cJ aK aV aO b L xs Am Am2) (hi : Lin i L) (X : LX D g g2 cI cB cZ cQ cS cJ aK aO b L xs SX SM f s H locs) (hJ : J SX SM) (hl : lv_has ls 7 (Llv b (g 0) (g2 99) aO i)) (hc4 : cs + 4 ≤ 601024) (hs4 : sl + 24 ≤ 7293034) (h : Lw_restore J) (kk : ∀ (H1 : Heap) (locs1 : List Loc) (ls1 : Array Slot) (SX1 SM1 : gS) (f1 : Nat → Int64), J SX1 SM1 → LX D g g2 cI cB cZ cQ cS cJ aK aO b L xs SX1 SM1 f1 s H1 locs1 → lv_has ls1 7 (Llv b (g 0) (g2 99) aO i) → W p l e room_1 s m args below meth c H1 locs1 (cs + 4) (sl + 24) Q (F0 m 1499 ls1 [])) : W p l e room_1 s m args below meth c H locs cs sl Q (F0 m 1486 ls []) := by
  obtain ⟨N, ox, M, om, h1, h2, h5, h6⟩ := h SX SM  hJ
  unfold Llv at hl
  refine lv_aload_n C.1.1.1 C.1.1.2.1 dL_law_1486 rfl (lv_at hl 3 rfl) ?_
  refine L_callX C.2.2.2.2.2.1.1.1.1 C.2.2.2.2.2.2.1.1 C.2.2.2.2.1 C.1 X xv_L_237 rfl (kX11_restore C.2.2.2.2.2.1.1 C.1.2.2.2.2.1 N  SX ox h1) (Nat.le_of_ble_eq_true rfl) (Nat.le_of_ble_eq_true rfl) (Nat.le_trans (Nat.le_add_right _ _) hc4) (Nat.le_trans (Nat.le_add_right _ _) hs4) rfl hl.1 rfl (Nat.le_of_ble_eq_true rfl) dL_law_1487 (fun H locs X => ?_)
  refine lv_pop C.1.1.1 C.1.1.2.1 dL_law_1490 rfl ?_
  refine lv_aload_n C.1.1.1 C.1.1.2.1 dL_law_1491 rfl (lv_at hl 2 rfl) ?_
  refine L_callM C.2.2.2.2.2.1.1.1.1 C.2.2.2.2.2.2.1.1 C.2.2.2.2.1 C.2.1 X xv_L_241 rfl (kX12_restore C.2.2.2.2.2.2.1.1 C.2.1.2.2.2.2.1 M  SM om h2) (Nat.le_of_ble_eq_true rfl) (Nat.le_of_ble_eq_true rfl) (Nat.le_trans (Nat.le_add_right _ _) hc4) (Nat.le_trans (Nat.le_add_right _ _) hs4) rfl hl.1 rfl (Nat.le_of_ble_eq_true rfl) dL_law_1492 (fun H locs X => ?_)
  refine lv_pop C.1.1.1 C.1.1.2.1 dL_law_1495 rfl ?_
  refine lv_goto (tgt := 1499) C.1.1.1 C.1.1.2.1 dL_law_1496 (by decide) ?_
  exact W.widen (k := cs + 4) (n := sl + 24) (Nat.le_add_right _ _) (Nat.le_add_right _ _) (kk _ _ _ _ _ _ h6 X (lv_sub hl [0, 1, 2, 3, 4] rfl))
end LAW3

/-! part 23.ecm -/
section
/-! the reference's constructor (printed by wip/whole/gencm.py) -/
noncomputable def mS0 : gS := fun i => match i with
  | 99 => fun j => if j = 29 then (-1) else if j = 41 then (-1) else 0
  | 5 => upd (fun _ => 0) 2 70
  | 35 => upd (upd (upd (upd (upd (upd (fun _ => 0) 0 (-1)) 1 (-1)) 2 (-1)) 3 (-1)) 4 (-1)) 5 (-1)
  | _ => fun _ => 0
theorem cm_df : ∀ j, j < 66 → defaultValue (tyX12 j) = vp_V [.null, .null, .null, .null, .int 0, .null, .null, .null, .null, .null, .null, .null, .null, .null, .null, .null, .null, .null, .null, .null, .int 0, .int 0, .int 0, .int 0, .int 0, .int 0, .int 0, .int 0, .int 0, .int 0, .int 0, .int 0, .null, .null, .null, .null, .null, .int 0, .int 0, .int 0, .int 0, .int 0, .null, .null, .int 0, .int 0, .null, .null, .null, .null, .null, .null, .null, .null, .int 0, .null, .int 0, .int 0, .int 0, .int 0, .null, .null, .null, .null, .null, .null] j := by
  intro j hj
  have h : ∀ k : Fin 66, defaultValue (tyX12 k.val) = vp_V [.null, .null, .null, .null, .int 0, .null, .null, .null, .null, .null, .null, .null, .null, .null, .null, .null, .null, .null, .null, .null, .int 0, .int 0, .int 0, .int 0, .int 0, .int 0, .int 0, .int 0, .int 0, .int 0, .int 0, .int 0, .null, .null, .null, .null, .null, .int 0, .int 0, .int 0, .int 0, .int 0, .null, .null, .int 0, .int 0, .null, .null, .null, .null, .null, .null, .null, .null, .int 0, .null, .int 0, .int 0, .int 0, .int 0, .null, .null, .null, .null, .null, .null] k.val := by decide +kernel
  exact h ⟨j, hj⟩
theorem cm_oi : Cond.methodLink RX12 3 objectInit ∈ gT := gT_c6 149 rfl rfl
theorem cm_cs : Cond.classLink RX12 9 "java/lang/String" ∈ gT := gT_c6 150 rfl rfl
section CM
variable {p : Program} {l : Launch} {e : Env} {R : Room} {s : State} {m : MethodId} {args : Array Value} {below : List Frame} {meth : Method} {c : Code} {H H0 : Heap} {locs : List Loc} {cs sl : Nat} {Q : State → Prop} {A : Nat → Prop}
variable {cc : ByteArray} {pc : Nat} {D : va_G} {tys : List (ClassId × FieldType)} {ls : Array Slot} {rest : List Value} {ws : va_W}
theorem cm_st {a : Nat} (h : va_O "java/lang/String" a A s s.heap) (hS : va_S A s.heap H locs) : ∃ cellV : Cell, H[a]? = some cellV ∧ cellV.vm.isStatics = false ∧ s.vm.findClass "java/lang/String" = some cellV.cls := by
  obtain ⟨cell0, h1, h2, h3, -⟩ := h.kept hS.2.1
  exact ⟨cell0, h1, h2, h3⟩
theorem c_oneO {C : String} {c1 c2 : ClassId} (h1 : va_RA s c1 (.object C)) (h2 : va_RA s c2 (.object C)) : c1 = c2 := by
  obtain ⟨_, _, _, _, _, a⟩ := h1
  obtain ⟨_, _, _, _, _, b⟩ := h2
  exact Option.some.inj (a.symm.trans b)
theorem c_newq (hexec : p.tables.exec = Jvm.exec) (hb : c.code = cc) {own C : String} {index : Nat} (hown : s.vm.findClass own = some m.cls) (hclink : (Cond.classLink own index C).before args s = true) (hover : va_AO C s) (hK : va_K D vwCl tys s) {t0 : Nat} {cT : ClassId} (ht : tys[t0]? = some (cT, .object C)) (hP : va_P D vwCl ws H) (hD : va_D A ws) (hS : va_S A H0 H locs) (hA : ∀ q, H0.size ≤ q → A q)
    {n : Int32} {N' : Nat} (hn : ¬ n < 0) (hN : n.toNatClampNeg = N') (hbytes : N' * 4 ≤ 536870912) (hcells : cs + 1 ≤ R.cells) (hslots : sl + N' ≤ R.slots) (hdg : decode cc pc = .ok (.anewarray index, 3))
    (kk : ∀ (q : Nat) (H1 : Heap), va_P D vwCl (ws ++ [(q, .inl (cT, N', .inr (.inr (.inr (.inr (fun _ => none))))))]) H1 → va_D A (ws ++ [(q, .inl (cT, N', .inr (.inr (.inr (.inr (fun _ => none))))))]) → va_S A H0 H1 locs → W p l e R s m args below meth c H1 locs (cs + 1) (sl + N') Q (F0 m (pc + 3) ls (.ref q :: rest))) : W p l e R s m args below meth c H locs cs sl Q (F0 m pc ls (.int n :: rest)) := by
  refine va_newq hexec hb hown hclink hover hK hP hD hS hA hn hN hbytes hcells hslots hdg (fun q cA H1 hK1 hP1 hD1 hS1 => ?_)
  have e1 : cA = cT := c_oneO ((hK1.2 tys.length (cA, .object C) (by rw [List.getElem?_append_right (Nat.le_refl _)]; simp)).2) ((hK.2 t0 _ ht).2)
  subst e1
  exact kk q H1 hP1 hD1 hS1
theorem cm_eqP {h0 : Nat} {fs : List Value} {ar br : va_W} (e : ar = br) (h : va_P D vwCl ((h0, .inr (12, fs)) :: ar) H) : va_P D vwCl ((h0, .inr (12, fs)) :: br) H := e ▸ h
theorem cm_eqD {h0 : Nat} {fs : List Value} {ar br : va_W} (e : ar = br) (h : va_D A ((h0, .inr (12, fs)) :: ar)) : va_D A ((h0, .inr (12, fs)) :: br) := e ▸ h
theorem cm_eqF {h0 : Nat} {fs gs : List Value} {ar : va_W} (e : fs = gs) (h : va_P D vwCl ((h0, .inr (12, fs)) :: ar) H) : va_P D vwCl ((h0, .inr (12, gs)) :: ar) H := e ▸ h
theorem cm_eqG {h0 : Nat} {fs gs : List Value} {ar : va_W} (e : fs = gs) (h : va_D A ((h0, .inr (12, fs)) :: ar)) : va_D A ((h0, .inr (12, gs)) :: ar) := e ▸ h
theorem cm_s2 {aK aV : Nat → Nat} {i : Nat} (hY : sAll aK aV A s s.heap) (hi : sI i = true) (hS : va_S A s.heap H locs) : ∃ cellV : Cell, H[aK i]? = some cellV ∧ cellV.vm.isStatics = false ∧ s.vm.findClass "java/lang/String" = some cellV.cls := by
  unfold sAll at hY
  have h := (hY.1 i hi).1
  exact cm_st h hS
theorem cm_ld {aK aV : Nat → Nat} {own tx : String} {index i : Nat} (hY : sAll aK aV A s s.heap) (hw : sW[i]? = some (own, index, tx)) (hexec : p.tables.exec = Jvm.exec) (hb : c.code = cc) (hown : s.vm.findClass own = some m.cls) (hdg : decode cc pc = .ok (.ldc index, 2)) (kk : W p l e R s m args below meth c H locs cs sl Q (F0 m (pc + 2) ls (.ref (aK i) :: rest))) : W p l e R s m args below meth c H locs cs sl Q (F0 m pc ls rest) := by
  unfold sAll at hY
  have h : vk_R own index tx (aK i) s := hY.2.1 i (own, index, tx) hw
  exact va_ldcS hexec hb hown h hdg kk
/-- a text into a row of texts, at the index k -/
theorem cm_ast (hexec : p.tables.exec = Jvm.exec) (hb : c.code = cc) (hK : va_K D vwCl tys s) (hP : va_P D vwCl ws H) (hD : va_D A ws) (hS : va_S A H0 H locs) (q0 t0 : Nat) {cA : ClassId} {n v a : Nat} {f : Nat → Option Nat} (ha : ws[q0]? = some (a, .inl (cA, n, .inr (.inr (.inr (.inr f)))))) (ht : tys[t0]? = some (cA, .object "java/lang/String")) (hr : ∃ cellV : Cell, H[v]? = some cellV ∧ cellV.vm.isStatics = false ∧ s.vm.findClass "java/lang/String" = some cellV.cls) {i : Int32} {k : Nat} (hk : i.toNatClampNeg = k) (hin : vp_in i n) (hdg : decode cc pc = .ok (.aastore, 1))
    (kk : ∀ (H1 : Heap) (locs1 : List Loc), va_P D vwCl (ws.set q0 (a, .inl (cA, n, .inr (.inr (.inr (.inr (va_up f k (some v)))))))) H1 → va_D A (ws.set q0 (a, .inl (cA, n, .inr (.inr (.inr (.inr (va_up f k (some v)))))))) → va_S A H0 H1 locs1 → W p l e R s m args below meth c H1 locs1 cs sl Q (F0 m (pc + 1) ls rest)) : W p l e R s m args below meth c H locs cs sl Q (F0 m pc ls (.ref v :: .int i :: .ref a :: rest)) := by
  subst hk
  exact vb_astq (E := "java/lang/String") (C := "java/lang/String") hexec hb hK hP hD hS q0 t0 ha ht hr (fun _ _ h1 h2 => by cases h1.symm.trans h2; exact va_asg _ _) hin hdg kk
theorem cm_ist (hexec : p.tables.exec = Jvm.exec) (hb : c.code = cc) (hK : va_K D vwCl tys s) (hP : va_P D vwCl ws H) (hD : va_D A ws) (hS : va_S A H0 H locs) (q0 t0 : Nat) {cA : ClassId} {n a : Nat} {f : Nat → Int32} (ha : ws[q0]? = some (a, .inl (cA, n, .inl f))) (ht : tys[t0]? = some (cA, .int)) {i : Int32} {x : Int32} {k : Nat} (hk : i.toNatClampNeg = k) (hin : vp_in i n) (hdg : decode cc pc = .ok (.iastore, 1))
    (kk : ∀ (H1 : Heap) (locs1 : List Loc), va_P D vwCl (ws.set q0 (a, .inl (cA, n, .inl (upd f k x)))) H1 → va_D A (ws.set q0 (a, .inl (cA, n, .inl (upd f k x)))) → va_S A H0 H1 locs1 → W p l e R s m args below meth c H1 locs1 cs sl Q (F0 m (pc + 1) ls rest)) : W p l e R s m args below meth c H locs cs sl Q (F0 m pc ls (.int x :: .int i :: .ref a :: rest)) := by
  subst hk
  exact va_iast hexec hb hK hP hD hS q0 t0 ha ht hin hdg kk
end CM
def cmP (D : va_G) (tys : List (ClassId × FieldType)) (aK aV : Nat → Nat) (av : List Value) (w0 : va_W) (sz : Nat) : Array Value → State → Prop :=
  va_Pc av (fun U => U.heap.size = sz ∧ va_P D vwCl w0 U.heap ∧ va_K D vwCl tys U ∧ va_D (fun _ => True) w0 ∧ sAll aK aV (va_A w0 sz) U U.heap ∧ va_AO "java/lang/String" U)
set_option maxHeartbeats 8000000 in
set_option maxRecDepth 100000 in
theorem kc_12 (l : Launch) (D : va_G) (cI cS : ClassId) (aK aV : Nat → Nat) (h0 sz : Nat) : Met l yX12_init (Cond.code yX12_init cX12_init 2 none :: gT) (rmc 1 40 9028) (cmP D (mtys cI cS) aK aV [.ref h0] [(h0, .inr (12, [.null, .null, .null, .null, .int 0, .null, .null, .null, .null, .null, .null, .null, .null, .null, .null, .null, .null, .null, .null, .null, .int 0, .int 0, .int 0, .int 0, .int 0, .int 0, .int 0, .int 0, .int 0, .int 0, .int 0, .int 0, .null, .null, .null, .null, .null, .int 0, .int 0, .int 0, .int 0, .int 0, .null, .null, .int 0, .int 0, .null, .null, .null, .null, .null, .null, .null, .null, .int 0, .null, .int 0, .int 0, .int 0, .int 0, .null, .null, .null, .null, .null, .null]))] sz) (va_Qv (fun _ : Nat → Nat => True) (cB D (mtys cI cS) (va_A [(h0, .inr (12, [.null, .null, .null, .null, .int 0, .null, .null, .null, .null, .null, .null, .null, .null, .null, .null, .null, .null, .null, .null, .null, .int 0, .int 0, .int 0, .int 0, .int 0, .int 0, .int 0, .int 0, .int 0, .int 0, .int 0, .int 0, .null, .null, .null, .null, .null, .int 0, .int 0, .int 0, .int 0, .int 0, .null, .null, .int 0, .int 0, .null, .null, .null, .null, .null, .null, .null, .null, .int 0, .null, .int 0, .int 0, .int 0, .int 0, .null, .null, .null, .null, .null, .null]))] sz) 99 h0 (fun u => gw (mcell u cI cS (msa aK)) mord mS0)) (va_A [(h0, .inr (12, [.null, .null, .null, .null, .int 0, .null, .null, .null, .null, .null, .null, .null, .null, .null, .null, .null, .null, .null, .null, .null, .int 0, .int 0, .int 0, .int 0, .int 0, .int 0, .int 0, .int 0, .int 0, .int 0, .int 0, .int 0, .null, .null, .null, .null, .null, .int 0, .int 0, .int 0, .int 0, .int 0, .null, .null, .int 0, .int 0, .null, .null, .null, .null, .null, .null, .null, .null, .int 0, .null, .int 0, .int 0, .int 0, .int 0, .null, .null, .null, .null, .null, .null]))] sz)) 40 9028 (va_A [(h0, .inr (12, [.null, .null, .null, .null, .int 0, .null, .null, .null, .null, .null, .null, .null, .null, .null, .null, .null, .null, .null, .null, .null, .int 0, .int 0, .int 0, .int 0, .int 0, .int 0, .int 0, .int 0, .int 0, .int 0, .int 0, .int 0, .null, .null, .null, .null, .null, .int 0, .int 0, .int 0, .int 0, .int 0, .null, .null, .int 0, .int 0, .null, .null, .null, .null, .null, .null, .null, .null, .int 0, .null, .int 0, .int 0, .int 0, .int 0, .null, .null, .null, .null, .null, .null]))] sz) := by
  refine Met.ofW (cc := cX12_init) (maxL := 2) (ret := none) (by decide) rfl ?_
  intro p e s m args below meth c s₁ B hml hv
  obtain ⟨rfl, hsz, hP, hK, hD0, hY, hAO⟩ := hv
  have hx := B.exec
  have hb := B.bytes
  have hr := B.returns
  have hts : ∀ w ∈ gT, w.before _ s = true := fun w h => atoms_spec (ws := Cond.code yX12_init cX12_init 2 none :: gT) B.pre w (List.mem_cons_of_mem _ h)
  have hown : s.vm.findClass RX12 = some m.cls := findClass_of_methodNamed B.named
  have hlocks := B.notSynchronized
  have hin : meth.name = "<init>" := (name_of_methodNamed B.named B.method).1
  subst hsz
  have hD := hD0.self (sz := s.heap.size)
  generalize hAe : va_A [(h0, .inr (12, [.null, .null, .null, .null, .int 0, .null, .null, .null, .null, .null, .null, .null, .null, .null, .null, .null, .null, .null, .null, .null, .int 0, .int 0, .int 0, .int 0, .int 0, .int 0, .int 0, .int 0, .int 0, .int 0, .int 0, .int 0, .null, .null, .null, .null, .null, .int 0, .int 0, .int 0, .int 0, .int 0, .null, .null, .int 0, .int 0, .null, .null, .null, .null, .null, .null, .null, .null, .int 0, .null, .int 0, .int 0, .int 0, .int 0, .null, .null, .null, .null, .null, .null]))] s.heap.size = A at hD hY ⊢
  have hA : ∀ q : Nat, s.heap.size ≤ q → A q := fun q h => by rw [← hAe]; exact Or.inr h
  have hS : va_S A s.heap s.heap [] := va_S.rf
  have hl := lv_entry ([.ref h0]) (n := 2) (Nat.le_of_ble_eq_true rfl)
  rw [lg_entry_eq]
  generalize (lg_sl ([.ref h0]) ++ List.replicate (2 - (lg_sl ([.ref h0])).length) Slot.unset).toArray = ls at hl ⊢
  have hl : lv_has ls 2 [(0, .ref h0)] := hl
  obtain ⟨fs0, hfs0⟩ : ∃ z : List Value, z = [.null, .null, .null, .null, .int 0, .null, .null, .null, .null, .null, .null, .null, .null, .null, .null, .null, .null, .null, .null, .null, .int 0, .int 0, .int 0, .int 0, .int 0, .int 0, .int 0, .int 0, .int 0, .int 0, .int 0, .int 0, .null, .null, .null, .null, .null, .int 0, .int 0, .int 0, .int 0, .int 0, .null, .null, .int 0, .int 0, .null, .null, .null, .null, .null, .null, .null, .null, .int 0, .null, .int 0, .int 0, .int 0, .int 0, .null, .null, .null, .null, .null, .null] := ⟨_, rfl⟩
  have ef0 : fs0 = [.null, .null, .null, .null, .int 0, .null, .null, .null, .null, .null, .null, .null, .null, .null, .null, .null, .null, .null, .null, .null, .int 0, .int 0, .int 0, .int 0, .int 0, .int 0, .int 0, .int 0, .int 0, .int 0, .int 0, .int 0, .null, .null, .null, .null, .null, .int 0, .int 0, .int 0, .int 0, .int 0, .null, .null, .int 0, .int 0, .null, .null, .null, .null, .null, .null, .null, .null, .int 0, .null, .int 0, .int 0, .int 0, .int 0, .null, .null, .null, .null, .null, .null] := hfs0
  have ln0 : fs0.length = 66 := by rw [hfs0]; rfl
  have hP : va_P D vwCl ((h0, .inr (12, fs0)) :: []) s.heap := by rw [hfs0]; exact hP
  have hD : va_D A ((h0, .inr (12, fs0)) :: []) := by rw [hfs0]; exact hD
  refine lv_aload_n hx hb dX12_init_0 rfl (lv_at hl 0 rfl) ?_
  refine W.objInit hx hb hown (hts _ cm_oi) (hts _ c_ob.1) (hts _ c_ob.2) rfl (by rw [hml]; exact hl.1) rfl dX12_init_1 (Nat.le_of_ble_eq_true rfl) (Nat.le_of_ble_eq_true rfl) ?_
  refine W.eq (g2 := F0 m 4 ls []) rfl ?_
  refine lv_aload_n hx hb dX12_init_4 rfl (lv_at hl 0 rfl) ?_
  refine lv_iconst (v := 2) hx hb dX12_init_5 (by decide) ?_
  refine c_newq (N' := 2) hx hb hown (hts _ cm_cs) hAO hK (t0 := 1) rfl hP hD hS hA (by decide) (by decide) (Nat.le_of_ble_eq_true rfl) (Nat.le_of_ble_eq_true rfl) (Nat.le_of_ble_eq_true rfl) dX12_init_6 (fun q1 H hP hD hS => ?_)
  have hP : va_P D vwCl ((h0, .inr (12, fs0)) :: [(q1, .inl (cS, 2, .inr (.inr (.inr (.inr (fun _ => none))))))]) H := hP
  have hD : va_D A ((h0, .inr (12, fs0)) :: [(q1, .inl (cS, 2, .inr (.inr (.inr (.inr (fun _ => none))))))]) := hD
  refine W.widen (k := 1) (n := 2) (Nat.le_of_ble_eq_true rfl) (Nat.le_of_ble_eq_true rfl) ?_
  refine lv_dup hx hb dX12_init_9 rfl ?_
  refine lv_iconst (v := 0) hx hb dX12_init_10 (by decide) ?_
  refine cm_ld (i := 28) (own := RX12) (index := 11) hY rfl hx hb hown dX12_init_11 ?_
  refine cm_ast (v := aK 28) (k := 0) hx hb hK hP hD hS 1 1 rfl rfl (cm_s2 (i := 28) hY rfl hS) (by decide) (inb_vp (by decide)) dX12_init_13 (fun H locs hP hD hS => ?_)
  have hP : va_P D vwCl ((h0, .inr (12, fs0)) :: [(q1, .inl (cS, 2, .inr (.inr (.inr (.inr (va_up (fun _ => none) 0 (some (aK 28))))))))]) H := hP
  have hD : va_D A ((h0, .inr (12, fs0)) :: [(q1, .inl (cS, 2, .inr (.inr (.inr (.inr (va_up (fun _ => none) 0 (some (aK 28))))))))]) := hD
  refine lv_dup hx hb dX12_init_14 rfl ?_
  refine lv_iconst (v := 1) hx hb dX12_init_15 (by decide) ?_
  refine cm_ld (i := 29) (own := RX12) (index := 13) hY rfl hx hb hown dX12_init_16 ?_
  refine cm_ast (v := aK 29) (k := 1) hx hb hK hP hD hS 1 1 rfl rfl (cm_s2 (i := 29) hY rfl hS) (by decide) (inb_vp (by decide)) dX12_init_18 (fun H locs hP hD hS => ?_)
  have hP : va_P D vwCl ((h0, .inr (12, fs0)) :: [(q1, .inl (cS, 2, .inr (.inr (.inr (.inr (va_up (va_up (fun _ => none) 0 (some (aK 28))) 1 (some (aK 29))))))))]) H := hP
  have hD : va_D A ((h0, .inr (12, fs0)) :: [(q1, .inl (cS, 2, .inr (.inr (.inr (.inr (va_up (va_up (fun _ => none) 0 (some (aK 28))) 1 (some (aK 29))))))))]) := hD
  refine va_putF (D := D) (ci := 12) (v := .ref q1) (ty := tyX12 0) (C := RX12) (T := TX12) (N := 66) hx hb hts m_in tyX12 tyX12_ok nmX12 hown hK hP hD hS 0 rfl rfl 0 (by decide) (hts _ m_l0) (fun _ h9 => h9) rfl hin rfl (tyX12_ok 0 (by decide)) rfl rfl (by rw [ln0]; decide) dX12_init_19 (fun H locs hP hD hS => ?_)
  obtain ⟨fs1, hfs1⟩ : ∃ z : List Value, z = fs0.set 0 (.ref q1) := ⟨_, rfl⟩
  have ln1 : fs1.length = 66 := by rw [hfs1, List.length_set]; exact ln0
  have hP : va_P D vwCl ((h0, .inr (12, fs1)) :: [(q1, .inl (cS, 2, .inr (.inr (.inr (.inr (va_up (va_up (fun _ => none) 0 (some (aK 28))) 1 (some (aK 29))))))))]) H := by rw [hfs1]; exact hP
  have hD : va_D A ((h0, .inr (12, fs1)) :: [(q1, .inl (cS, 2, .inr (.inr (.inr (.inr (va_up (va_up (fun _ => none) 0 (some (aK 28))) 1 (some (aK 29))))))))]) := by rw [hfs1]; exact hD
  refine lv_aload_n hx hb dX12_init_22 rfl (lv_at hl 0 rfl) ?_
  refine lv_bipush (v := 6) hx hb dX12_init_23 (by decide) ?_
  refine c_newq (N' := 6) hx hb hown (hts _ cm_cs) hAO hK (t0 := 1) rfl hP hD hS hA (by decide) (by decide) (Nat.le_of_ble_eq_true rfl) (Nat.le_of_ble_eq_true rfl) (Nat.le_of_ble_eq_true rfl) dX12_init_25 (fun q2 H hP hD hS => ?_)
  have hP : va_P D vwCl ((h0, .inr (12, fs1)) :: [(q1, .inl (cS, 2, .inr (.inr (.inr (.inr (va_up (va_up (fun _ => none) 0 (some (aK 28))) 1 (some (aK 29)))))))), (q2, .inl (cS, 6, .inr (.inr (.inr (.inr (fun _ => none))))))]) H := hP
  have hD : va_D A ((h0, .inr (12, fs1)) :: [(q1, .inl (cS, 2, .inr (.inr (.inr (.inr (va_up (va_up (fun _ => none) 0 (some (aK 28))) 1 (some (aK 29)))))))), (q2, .inl (cS, 6, .inr (.inr (.inr (.inr (fun _ => none))))))]) := hD
  refine W.widen (k := 2) (n := 8) (Nat.le_of_ble_eq_true rfl) (Nat.le_of_ble_eq_true rfl) ?_
  refine lv_dup hx hb dX12_init_28 rfl ?_
  refine lv_iconst (v := 0) hx hb dX12_init_29 (by decide) ?_
  refine cm_ld (i := 30) (own := RX12) (index := 19) hY rfl hx hb hown dX12_init_30 ?_
  refine cm_ast (v := aK 30) (k := 0) hx hb hK hP hD hS 2 1 rfl rfl (cm_s2 (i := 30) hY rfl hS) (by decide) (inb_vp (by decide)) dX12_init_32 (fun H locs hP hD hS => ?_)
  have hP : va_P D vwCl ((h0, .inr (12, fs1)) :: [(q1, .inl (cS, 2, .inr (.inr (.inr (.inr (va_up (va_up (fun _ => none) 0 (some (aK 28))) 1 (some (aK 29)))))))), (q2, .inl (cS, 6, .inr (.inr (.inr (.inr (va_up (fun _ => none) 0 (some (aK 30))))))))]) H := hP
  have hD : va_D A ((h0, .inr (12, fs1)) :: [(q1, .inl (cS, 2, .inr (.inr (.inr (.inr (va_up (va_up (fun _ => none) 0 (some (aK 28))) 1 (some (aK 29)))))))), (q2, .inl (cS, 6, .inr (.inr (.inr (.inr (va_up (fun _ => none) 0 (some (aK 30))))))))]) := hD
  refine lv_dup hx hb dX12_init_33 rfl ?_
  refine lv_iconst (v := 1) hx hb dX12_init_34 (by decide) ?_
  refine cm_ld (i := 31) (own := RX12) (index := 21) hY rfl hx hb hown dX12_init_35 ?_
  refine cm_ast (v := aK 31) (k := 1) hx hb hK hP hD hS 2 1 rfl rfl (cm_s2 (i := 31) hY rfl hS) (by decide) (inb_vp (by decide)) dX12_init_37 (fun H locs hP hD hS => ?_)
  have hP : va_P D vwCl ((h0, .inr (12, fs1)) :: [(q1, .inl (cS, 2, .inr (.inr (.inr (.inr (va_up (va_up (fun _ => none) 0 (some (aK 28))) 1 (some (aK 29)))))))), (q2, .inl (cS, 6, .inr (.inr (.inr (.inr (va_up (va_up (fun _ => none) 0 (some (aK 30))) 1 (some (aK 31))))))))]) H := hP
  have hD : va_D A ((h0, .inr (12, fs1)) :: [(q1, .inl (cS, 2, .inr (.inr (.inr (.inr (va_up (va_up (fun _ => none) 0 (some (aK 28))) 1 (some (aK 29)))))))), (q2, .inl (cS, 6, .inr (.inr (.inr (.inr (va_up (va_up (fun _ => none) 0 (some (aK 30))) 1 (some (aK 31))))))))]) := hD
  refine lv_dup hx hb dX12_init_38 rfl ?_
  refine lv_iconst (v := 2) hx hb dX12_init_39 (by decide) ?_
  refine cm_ld (i := 32) (own := RX12) (index := 23) hY rfl hx hb hown dX12_init_40 ?_
  refine cm_ast (v := aK 32) (k := 2) hx hb hK hP hD hS 2 1 rfl rfl (cm_s2 (i := 32) hY rfl hS) (by decide) (inb_vp (by decide)) dX12_init_42 (fun H locs hP hD hS => ?_)
  have hP : va_P D vwCl ((h0, .inr (12, fs1)) :: [(q1, .inl (cS, 2, .inr (.inr (.inr (.inr (va_up (va_up (fun _ => none) 0 (some (aK 28))) 1 (some (aK 29)))))))), (q2, .inl (cS, 6, .inr (.inr (.inr (.inr (va_up (va_up (va_up (fun _ => none) 0 (some (aK 30))) 1 (some (aK 31))) 2 (some (aK 32))))))))]) H := hP
  have hD : va_D A ((h0, .inr (12, fs1)) :: [(q1, .inl (cS, 2, .inr (.inr (.inr (.inr (va_up (va_up (fun _ => none) 0 (some (aK 28))) 1 (some (aK 29)))))))), (q2, .inl (cS, 6, .inr (.inr (.inr (.inr (va_up (va_up (va_up (fun _ => none) 0 (some (aK 30))) 1 (some (aK 31))) 2 (some (aK 32))))))))]) := hD
  refine lv_dup hx hb dX12_init_43 rfl ?_
  refine lv_iconst (v := 3) hx hb dX12_init_44 (by decide) ?_
  refine cm_ld (i := 33) (own := RX12) (index := 25) hY rfl hx hb hown dX12_init_45 ?_
  refine cm_ast (v := aK 33) (k := 3) hx hb hK hP hD hS 2 1 rfl rfl (cm_s2 (i := 33) hY rfl hS) (by decide) (inb_vp (by decide)) dX12_init_47 (fun H locs hP hD hS => ?_)
  have hP : va_P D vwCl ((h0, .inr (12, fs1)) :: [(q1, .inl (cS, 2, .inr (.inr (.inr (.inr (va_up (va_up (fun _ => none) 0 (some (aK 28))) 1 (some (aK 29)))))))), (q2, .inl (cS, 6, .inr (.inr (.inr (.inr (va_up (va_up (va_up (va_up (fun _ => none) 0 (some (aK 30))) 1 (some (aK 31))) 2 (some (aK 32))) 3 (some (aK 33))))))))]) H := hP
  have hD : va_D A ((h0, .inr (12, fs1)) :: [(q1, .inl (cS, 2, .inr (.inr (.inr (.inr (va_up (va_up (fun _ => none) 0 (some (aK 28))) 1 (some (aK 29)))))))), (q2, .inl (cS, 6, .inr (.inr (.inr (.inr (va_up (va_up (va_up (va_up (fun _ => none) 0 (some (aK 30))) 1 (some (aK 31))) 2 (some (aK 32))) 3 (some (aK 33))))))))]) := hD
  refine lv_dup hx hb dX12_init_48 rfl ?_
  refine lv_iconst (v := 4) hx hb dX12_init_49 (by decide) ?_
  refine cm_ld (i := 34) (own := RX12) (index := 27) hY rfl hx hb hown dX12_init_50 ?_
  refine cm_ast (v := aK 34) (k := 4) hx hb hK hP hD hS 2 1 rfl rfl (cm_s2 (i := 34) hY rfl hS) (by decide) (inb_vp (by decide)) dX12_init_52 (fun H locs hP hD hS => ?_)
  have hP : va_P D vwCl ((h0, .inr (12, fs1)) :: [(q1, .inl (cS, 2, .inr (.inr (.inr (.inr (va_up (va_up (fun _ => none) 0 (some (aK 28))) 1 (some (aK 29)))))))), (q2, .inl (cS, 6, .inr (.inr (.inr (.inr (va_up (va_up (va_up (va_up (va_up (fun _ => none) 0 (some (aK 30))) 1 (some (aK 31))) 2 (some (aK 32))) 3 (some (aK 33))) 4 (some (aK 34))))))))]) H := hP
  have hD : va_D A ((h0, .inr (12, fs1)) :: [(q1, .inl (cS, 2, .inr (.inr (.inr (.inr (va_up (va_up (fun _ => none) 0 (some (aK 28))) 1 (some (aK 29)))))))), (q2, .inl (cS, 6, .inr (.inr (.inr (.inr (va_up (va_up (va_up (va_up (va_up (fun _ => none) 0 (some (aK 30))) 1 (some (aK 31))) 2 (some (aK 32))) 3 (some (aK 33))) 4 (some (aK 34))))))))]) := hD
  refine lv_dup hx hb dX12_init_53 rfl ?_
  refine lv_iconst (v := 5) hx hb dX12_init_54 (by decide) ?_
  refine cm_ld (i := 35) (own := RX12) (index := 29) hY rfl hx hb hown dX12_init_55 ?_
  refine cm_ast (v := aK 35) (k := 5) hx hb hK hP hD hS 2 1 rfl rfl (cm_s2 (i := 35) hY rfl hS) (by decide) (inb_vp (by decide)) dX12_init_57 (fun H locs hP hD hS => ?_)
  have hP : va_P D vwCl ((h0, .inr (12, fs1)) :: [(q1, .inl (cS, 2, .inr (.inr (.inr (.inr (va_up (va_up (fun _ => none) 0 (some (aK 28))) 1 (some (aK 29)))))))), (q2, .inl (cS, 6, .inr (.inr (.inr (.inr (va_up (va_up (va_up (va_up (va_up (va_up (fun _ => none) 0 (some (aK 30))) 1 (some (aK 31))) 2 (some (aK 32))) 3 (some (aK 33))) 4 (some (aK 34))) 5 (some (aK 35))))))))]) H := hP
  have hD : va_D A ((h0, .inr (12, fs1)) :: [(q1, .inl (cS, 2, .inr (.inr (.inr (.inr (va_up (va_up (fun _ => none) 0 (some (aK 28))) 1 (some (aK 29)))))))), (q2, .inl (cS, 6, .inr (.inr (.inr (.inr (va_up (va_up (va_up (va_up (va_up (va_up (fun _ => none) 0 (some (aK 30))) 1 (some (aK 31))) 2 (some (aK 32))) 3 (some (aK 33))) 4 (some (aK 34))) 5 (some (aK 35))))))))]) := hD
  refine va_putF (D := D) (ci := 12) (v := .ref q2) (ty := tyX12 1) (C := RX12) (T := TX12) (N := 66) hx hb hts m_in tyX12 tyX12_ok nmX12 hown hK hP hD hS 0 rfl rfl 1 (by decide) (hts _ m_l1) (fun _ h9 => h9) rfl hin rfl (tyX12_ok 1 (by decide)) rfl rfl (by rw [ln1]; decide) dX12_init_58 (fun H locs hP hD hS => ?_)
  obtain ⟨fs2, hfs2⟩ : ∃ z : List Value, z = fs1.set 1 (.ref q2) := ⟨_, rfl⟩
  have ln2 : fs2.length = 66 := by rw [hfs2, List.length_set]; exact ln1
  have hP : va_P D vwCl ((h0, .inr (12, fs2)) :: [(q1, .inl (cS, 2, .inr (.inr (.inr (.inr (va_up (va_up (fun _ => none) 0 (some (aK 28))) 1 (some (aK 29)))))))), (q2, .inl (cS, 6, .inr (.inr (.inr (.inr (va_up (va_up (va_up (va_up (va_up (va_up (fun _ => none) 0 (some (aK 30))) 1 (some (aK 31))) 2 (some (aK 32))) 3 (some (aK 33))) 4 (some (aK 34))) 5 (some (aK 35))))))))]) H := by rw [hfs2]; exact hP
  have hD : va_D A ((h0, .inr (12, fs2)) :: [(q1, .inl (cS, 2, .inr (.inr (.inr (.inr (va_up (va_up (fun _ => none) 0 (some (aK 28))) 1 (some (aK 29)))))))), (q2, .inl (cS, 6, .inr (.inr (.inr (.inr (va_up (va_up (va_up (va_up (va_up (va_up (fun _ => none) 0 (some (aK 30))) 1 (some (aK 31))) 2 (some (aK 32))) 3 (some (aK 33))) 4 (some (aK 34))) 5 (some (aK 35))))))))]) := by rw [hfs2]; exact hD
  refine lv_aload_n hx hb dX12_init_61 rfl (lv_at hl 0 rfl) ?_
  refine lv_bipush (v := 7) hx hb dX12_init_62 (by decide) ?_
  refine c_newq (N' := 7) hx hb hown (hts _ cm_cs) hAO hK (t0 := 1) rfl hP hD hS hA (by decide) (by decide) (Nat.le_of_ble_eq_true rfl) (Nat.le_of_ble_eq_true rfl) (Nat.le_of_ble_eq_true rfl) dX12_init_64 (fun q3 H hP hD hS => ?_)
  have hP : va_P D vwCl ((h0, .inr (12, fs2)) :: [(q1, .inl (cS, 2, .inr (.inr (.inr (.inr (va_up (va_up (fun _ => none) 0 (some (aK 28))) 1 (some (aK 29)))))))), (q2, .inl (cS, 6, .inr (.inr (.inr (.inr (va_up (va_up (va_up (va_up (va_up (va_up (fun _ => none) 0 (some (aK 30))) 1 (some (aK 31))) 2 (some (aK 32))) 3 (some (aK 33))) 4 (some (aK 34))) 5 (some (aK 35)))))))), (q3, .inl (cS, 7, .inr (.inr (.inr (.inr (fun _ => none))))))]) H := hP
  have hD : va_D A ((h0, .inr (12, fs2)) :: [(q1, .inl (cS, 2, .inr (.inr (.inr (.inr (va_up (va_up (fun _ => none) 0 (some (aK 28))) 1 (some (aK 29)))))))), (q2, .inl (cS, 6, .inr (.inr (.inr (.inr (va_up (va_up (va_up (va_up (va_up (va_up (fun _ => none) 0 (some (aK 30))) 1 (some (aK 31))) 2 (some (aK 32))) 3 (some (aK 33))) 4 (some (aK 34))) 5 (some (aK 35)))))))), (q3, .inl (cS, 7, .inr (.inr (.inr (.inr (fun _ => none))))))]) := hD
  refine W.widen (k := 3) (n := 15) (Nat.le_of_ble_eq_true rfl) (Nat.le_of_ble_eq_true rfl) ?_
  refine lv_dup hx hb dX12_init_67 rfl ?_
  refine lv_iconst (v := 0) hx hb dX12_init_68 (by decide) ?_
  refine cm_ld (i := 30) (own := RX12) (index := 19) hY rfl hx hb hown dX12_init_69 ?_
  refine cm_ast (v := aK 30) (k := 0) hx hb hK hP hD hS 3 1 rfl rfl (cm_s2 (i := 30) hY rfl hS) (by decide) (inb_vp (by decide)) dX12_init_71 (fun H locs hP hD hS => ?_)
  have hP : va_P D vwCl ((h0, .inr (12, fs2)) :: [(q1, .inl (cS, 2, .inr (.inr (.inr (.inr (va_up (va_up (fun _ => none) 0 (some (aK 28))) 1 (some (aK 29)))))))), (q2, .inl (cS, 6, .inr (.inr (.inr (.inr (va_up (va_up (va_up (va_up (va_up (va_up (fun _ => none) 0 (some (aK 30))) 1 (some (aK 31))) 2 (some (aK 32))) 3 (some (aK 33))) 4 (some (aK 34))) 5 (some (aK 35)))))))), (q3, .inl (cS, 7, .inr (.inr (.inr (.inr (va_up (fun _ => none) 0 (some (aK 30))))))))]) H := hP
  have hD : va_D A ((h0, .inr (12, fs2)) :: [(q1, .inl (cS, 2, .inr (.inr (.inr (.inr (va_up (va_up (fun _ => none) 0 (some (aK 28))) 1 (some (aK 29)))))))), (q2, .inl (cS, 6, .inr (.inr (.inr (.inr (va_up (va_up (va_up (va_up (va_up (va_up (fun _ => none) 0 (some (aK 30))) 1 (some (aK 31))) 2 (some (aK 32))) 3 (some (aK 33))) 4 (some (aK 34))) 5 (some (aK 35)))))))), (q3, .inl (cS, 7, .inr (.inr (.inr (.inr (va_up (fun _ => none) 0 (some (aK 30))))))))]) := hD
  refine lv_dup hx hb dX12_init_72 rfl ?_
  refine lv_iconst (v := 1) hx hb dX12_init_73 (by decide) ?_
  refine cm_ld (i := 31) (own := RX12) (index := 21) hY rfl hx hb hown dX12_init_74 ?_
  refine cm_ast (v := aK 31) (k := 1) hx hb hK hP hD hS 3 1 rfl rfl (cm_s2 (i := 31) hY rfl hS) (by decide) (inb_vp (by decide)) dX12_init_76 (fun H locs hP hD hS => ?_)
  have hP : va_P D vwCl ((h0, .inr (12, fs2)) :: [(q1, .inl (cS, 2, .inr (.inr (.inr (.inr (va_up (va_up (fun _ => none) 0 (some (aK 28))) 1 (some (aK 29)))))))), (q2, .inl (cS, 6, .inr (.inr (.inr (.inr (va_up (va_up (va_up (va_up (va_up (va_up (fun _ => none) 0 (some (aK 30))) 1 (some (aK 31))) 2 (some (aK 32))) 3 (some (aK 33))) 4 (some (aK 34))) 5 (some (aK 35)))))))), (q3, .inl (cS, 7, .inr (.inr (.inr (.inr (va_up (va_up (fun _ => none) 0 (some (aK 30))) 1 (some (aK 31))))))))]) H := hP
  have hD : va_D A ((h0, .inr (12, fs2)) :: [(q1, .inl (cS, 2, .inr (.inr (.inr (.inr (va_up (va_up (fun _ => none) 0 (some (aK 28))) 1 (some (aK 29)))))))), (q2, .inl (cS, 6, .inr (.inr (.inr (.inr (va_up (va_up (va_up (va_up (va_up (va_up (fun _ => none) 0 (some (aK 30))) 1 (some (aK 31))) 2 (some (aK 32))) 3 (some (aK 33))) 4 (some (aK 34))) 5 (some (aK 35)))))))), (q3, .inl (cS, 7, .inr (.inr (.inr (.inr (va_up (va_up (fun _ => none) 0 (some (aK 30))) 1 (some (aK 31))))))))]) := hD
  refine lv_dup hx hb dX12_init_77 rfl ?_
  refine lv_iconst (v := 2) hx hb dX12_init_78 (by decide) ?_
  refine cm_ld (i := 32) (own := RX12) (index := 23) hY rfl hx hb hown dX12_init_79 ?_
  refine cm_ast (v := aK 32) (k := 2) hx hb hK hP hD hS 3 1 rfl rfl (cm_s2 (i := 32) hY rfl hS) (by decide) (inb_vp (by decide)) dX12_init_81 (fun H locs hP hD hS => ?_)
  have hP : va_P D vwCl ((h0, .inr (12, fs2)) :: [(q1, .inl (cS, 2, .inr (.inr (.inr (.inr (va_up (va_up (fun _ => none) 0 (some (aK 28))) 1 (some (aK 29)))))))), (q2, .inl (cS, 6, .inr (.inr (.inr (.inr (va_up (va_up (va_up (va_up (va_up (va_up (fun _ => none) 0 (some (aK 30))) 1 (some (aK 31))) 2 (some (aK 32))) 3 (some (aK 33))) 4 (some (aK 34))) 5 (some (aK 35)))))))), (q3, .inl (cS, 7, .inr (.inr (.inr (.inr (va_up (va_up (va_up (fun _ => none) 0 (some (aK 30))) 1 (some (aK 31))) 2 (some (aK 32))))))))]) H := hP
  have hD : va_D A ((h0, .inr (12, fs2)) :: [(q1, .inl (cS, 2, .inr (.inr (.inr (.inr (va_up (va_up (fun _ => none) 0 (some (aK 28))) 1 (some (aK 29)))))))), (q2, .inl (cS, 6, .inr (.inr (.inr (.inr (va_up (va_up (va_up (va_up (va_up (va_up (fun _ => none) 0 (some (aK 30))) 1 (some (aK 31))) 2 (some (aK 32))) 3 (some (aK 33))) 4 (some (aK 34))) 5 (some (aK 35)))))))), (q3, .inl (cS, 7, .inr (.inr (.inr (.inr (va_up (va_up (va_up (fun _ => none) 0 (some (aK 30))) 1 (some (aK 31))) 2 (some (aK 32))))))))]) := hD
  refine lv_dup hx hb dX12_init_82 rfl ?_
  refine lv_iconst (v := 3) hx hb dX12_init_83 (by decide) ?_
  refine cm_ld (i := 33) (own := RX12) (index := 25) hY rfl hx hb hown dX12_init_84 ?_
  refine cm_ast (v := aK 33) (k := 3) hx hb hK hP hD hS 3 1 rfl rfl (cm_s2 (i := 33) hY rfl hS) (by decide) (inb_vp (by decide)) dX12_init_86 (fun H locs hP hD hS => ?_)
  have hP : va_P D vwCl ((h0, .inr (12, fs2)) :: [(q1, .inl (cS, 2, .inr (.inr (.inr (.inr (va_up (va_up (fun _ => none) 0 (some (aK 28))) 1 (some (aK 29)))))))), (q2, .inl (cS, 6, .inr (.inr (.inr (.inr (va_up (va_up (va_up (va_up (va_up (va_up (fun _ => none) 0 (some (aK 30))) 1 (some (aK 31))) 2 (some (aK 32))) 3 (some (aK 33))) 4 (some (aK 34))) 5 (some (aK 35)))))))), (q3, .inl (cS, 7, .inr (.inr (.inr (.inr (va_up (va_up (va_up (va_up (fun _ => none) 0 (some (aK 30))) 1 (some (aK 31))) 2 (some (aK 32))) 3 (some (aK 33))))))))]) H := hP
  have hD : va_D A ((h0, .inr (12, fs2)) :: [(q1, .inl (cS, 2, .inr (.inr (.inr (.inr (va_up (va_up (fun _ => none) 0 (some (aK 28))) 1 (some (aK 29)))))))), (q2, .inl (cS, 6, .inr (.inr (.inr (.inr (va_up (va_up (va_up (va_up (va_up (va_up (fun _ => none) 0 (some (aK 30))) 1 (some (aK 31))) 2 (some (aK 32))) 3 (some (aK 33))) 4 (some (aK 34))) 5 (some (aK 35)))))))), (q3, .inl (cS, 7, .inr (.inr (.inr (.inr (va_up (va_up (va_up (va_up (fun _ => none) 0 (some (aK 30))) 1 (some (aK 31))) 2 (some (aK 32))) 3 (some (aK 33))))))))]) := hD
  refine lv_dup hx hb dX12_init_87 rfl ?_
  refine lv_iconst (v := 4) hx hb dX12_init_88 (by decide) ?_
  refine cm_ld (i := 34) (own := RX12) (index := 27) hY rfl hx hb hown dX12_init_89 ?_
  refine cm_ast (v := aK 34) (k := 4) hx hb hK hP hD hS 3 1 rfl rfl (cm_s2 (i := 34) hY rfl hS) (by decide) (inb_vp (by decide)) dX12_init_91 (fun H locs hP hD hS => ?_)
  have hP : va_P D vwCl ((h0, .inr (12, fs2)) :: [(q1, .inl (cS, 2, .inr (.inr (.inr (.inr (va_up (va_up (fun _ => none) 0 (some (aK 28))) 1 (some (aK 29)))))))), (q2, .inl (cS, 6, .inr (.inr (.inr (.inr (va_up (va_up (va_up (va_up (va_up (va_up (fun _ => none) 0 (some (aK 30))) 1 (some (aK 31))) 2 (some (aK 32))) 3 (some (aK 33))) 4 (some (aK 34))) 5 (some (aK 35)))))))), (q3, .inl (cS, 7, .inr (.inr (.inr (.inr (va_up (va_up (va_up (va_up (va_up (fun _ => none) 0 (some (aK 30))) 1 (some (aK 31))) 2 (some (aK 32))) 3 (some (aK 33))) 4 (some (aK 34))))))))]) H := hP
  have hD : va_D A ((h0, .inr (12, fs2)) :: [(q1, .inl (cS, 2, .inr (.inr (.inr (.inr (va_up (va_up (fun _ => none) 0 (some (aK 28))) 1 (some (aK 29)))))))), (q2, .inl (cS, 6, .inr (.inr (.inr (.inr (va_up (va_up (va_up (va_up (va_up (va_up (fun _ => none) 0 (some (aK 30))) 1 (some (aK 31))) 2 (some (aK 32))) 3 (some (aK 33))) 4 (some (aK 34))) 5 (some (aK 35)))))))), (q3, .inl (cS, 7, .inr (.inr (.inr (.inr (va_up (va_up (va_up (va_up (va_up (fun _ => none) 0 (some (aK 30))) 1 (some (aK 31))) 2 (some (aK 32))) 3 (some (aK 33))) 4 (some (aK 34))))))))]) := hD
  refine lv_dup hx hb dX12_init_92 rfl ?_
  refine lv_iconst (v := 5) hx hb dX12_init_93 (by decide) ?_
  refine cm_ld (i := 35) (own := RX12) (index := 29) hY rfl hx hb hown dX12_init_94 ?_
  refine cm_ast (v := aK 35) (k := 5) hx hb hK hP hD hS 3 1 rfl rfl (cm_s2 (i := 35) hY rfl hS) (by decide) (inb_vp (by decide)) dX12_init_96 (fun H locs hP hD hS => ?_)
  have hP : va_P D vwCl ((h0, .inr (12, fs2)) :: [(q1, .inl (cS, 2, .inr (.inr (.inr (.inr (va_up (va_up (fun _ => none) 0 (some (aK 28))) 1 (some (aK 29)))))))), (q2, .inl (cS, 6, .inr (.inr (.inr (.inr (va_up (va_up (va_up (va_up (va_up (va_up (fun _ => none) 0 (some (aK 30))) 1 (some (aK 31))) 2 (some (aK 32))) 3 (some (aK 33))) 4 (some (aK 34))) 5 (some (aK 35)))))))), (q3, .inl (cS, 7, .inr (.inr (.inr (.inr (va_up (va_up (va_up (va_up (va_up (va_up (fun _ => none) 0 (some (aK 30))) 1 (some (aK 31))) 2 (some (aK 32))) 3 (some (aK 33))) 4 (some (aK 34))) 5 (some (aK 35))))))))]) H := hP
  have hD : va_D A ((h0, .inr (12, fs2)) :: [(q1, .inl (cS, 2, .inr (.inr (.inr (.inr (va_up (va_up (fun _ => none) 0 (some (aK 28))) 1 (some (aK 29)))))))), (q2, .inl (cS, 6, .inr (.inr (.inr (.inr (va_up (va_up (va_up (va_up (va_up (va_up (fun _ => none) 0 (some (aK 30))) 1 (some (aK 31))) 2 (some (aK 32))) 3 (some (aK 33))) 4 (some (aK 34))) 5 (some (aK 35)))))))), (q3, .inl (cS, 7, .inr (.inr (.inr (.inr (va_up (va_up (va_up (va_up (va_up (va_up (fun _ => none) 0 (some (aK 30))) 1 (some (aK 31))) 2 (some (aK 32))) 3 (some (aK 33))) 4 (some (aK 34))) 5 (some (aK 35))))))))]) := hD
  refine lv_dup hx hb dX12_init_97 rfl ?_
  refine lv_bipush (v := 6) hx hb dX12_init_98 (by decide) ?_
  refine cm_ld (i := 36) (own := RX12) (index := 34) hY rfl hx hb hown dX12_init_100 ?_
  refine cm_ast (v := aK 36) (k := 6) hx hb hK hP hD hS 3 1 rfl rfl (cm_s2 (i := 36) hY rfl hS) (by decide) (inb_vp (by decide)) dX12_init_102 (fun H locs hP hD hS => ?_)
  have hP : va_P D vwCl ((h0, .inr (12, fs2)) :: [(q1, .inl (cS, 2, .inr (.inr (.inr (.inr (va_up (va_up (fun _ => none) 0 (some (aK 28))) 1 (some (aK 29)))))))), (q2, .inl (cS, 6, .inr (.inr (.inr (.inr (va_up (va_up (va_up (va_up (va_up (va_up (fun _ => none) 0 (some (aK 30))) 1 (some (aK 31))) 2 (some (aK 32))) 3 (some (aK 33))) 4 (some (aK 34))) 5 (some (aK 35)))))))), (q3, .inl (cS, 7, .inr (.inr (.inr (.inr (va_up (va_up (va_up (va_up (va_up (va_up (va_up (fun _ => none) 0 (some (aK 30))) 1 (some (aK 31))) 2 (some (aK 32))) 3 (some (aK 33))) 4 (some (aK 34))) 5 (some (aK 35))) 6 (some (aK 36))))))))]) H := hP
  have hD : va_D A ((h0, .inr (12, fs2)) :: [(q1, .inl (cS, 2, .inr (.inr (.inr (.inr (va_up (va_up (fun _ => none) 0 (some (aK 28))) 1 (some (aK 29)))))))), (q2, .inl (cS, 6, .inr (.inr (.inr (.inr (va_up (va_up (va_up (va_up (va_up (va_up (fun _ => none) 0 (some (aK 30))) 1 (some (aK 31))) 2 (some (aK 32))) 3 (some (aK 33))) 4 (some (aK 34))) 5 (some (aK 35)))))))), (q3, .inl (cS, 7, .inr (.inr (.inr (.inr (va_up (va_up (va_up (va_up (va_up (va_up (va_up (fun _ => none) 0 (some (aK 30))) 1 (some (aK 31))) 2 (some (aK 32))) 3 (some (aK 33))) 4 (some (aK 34))) 5 (some (aK 35))) 6 (some (aK 36))))))))]) := hD
  refine va_putF (D := D) (ci := 12) (v := .ref q3) (ty := tyX12 2) (C := RX12) (T := TX12) (N := 66) hx hb hts m_in tyX12 tyX12_ok nmX12 hown hK hP hD hS 0 rfl rfl 2 (by decide) (hts _ m_l2) (fun _ h9 => h9) rfl hin rfl (tyX12_ok 2 (by decide)) rfl rfl (by rw [ln2]; decide) dX12_init_103 (fun H locs hP hD hS => ?_)
  obtain ⟨fs3, hfs3⟩ : ∃ z : List Value, z = fs2.set 2 (.ref q3) := ⟨_, rfl⟩
  have ln3 : fs3.length = 66 := by rw [hfs3, List.length_set]; exact ln2
  have hP : va_P D vwCl ((h0, .inr (12, fs3)) :: [(q1, .inl (cS, 2, .inr (.inr (.inr (.inr (va_up (va_up (fun _ => none) 0 (some (aK 28))) 1 (some (aK 29)))))))), (q2, .inl (cS, 6, .inr (.inr (.inr (.inr (va_up (va_up (va_up (va_up (va_up (va_up (fun _ => none) 0 (some (aK 30))) 1 (some (aK 31))) 2 (some (aK 32))) 3 (some (aK 33))) 4 (some (aK 34))) 5 (some (aK 35)))))))), (q3, .inl (cS, 7, .inr (.inr (.inr (.inr (va_up (va_up (va_up (va_up (va_up (va_up (va_up (fun _ => none) 0 (some (aK 30))) 1 (some (aK 31))) 2 (some (aK 32))) 3 (some (aK 33))) 4 (some (aK 34))) 5 (some (aK 35))) 6 (some (aK 36))))))))]) H := by rw [hfs3]; exact hP
  have hD : va_D A ((h0, .inr (12, fs3)) :: [(q1, .inl (cS, 2, .inr (.inr (.inr (.inr (va_up (va_up (fun _ => none) 0 (some (aK 28))) 1 (some (aK 29)))))))), (q2, .inl (cS, 6, .inr (.inr (.inr (.inr (va_up (va_up (va_up (va_up (va_up (va_up (fun _ => none) 0 (some (aK 30))) 1 (some (aK 31))) 2 (some (aK 32))) 3 (some (aK 33))) 4 (some (aK 34))) 5 (some (aK 35)))))))), (q3, .inl (cS, 7, .inr (.inr (.inr (.inr (va_up (va_up (va_up (va_up (va_up (va_up (va_up (fun _ => none) 0 (some (aK 30))) 1 (some (aK 31))) 2 (some (aK 32))) 3 (some (aK 33))) 4 (some (aK 34))) 5 (some (aK 35))) 6 (some (aK 36))))))))]) := by rw [hfs3]; exact hD
  refine lv_aload_n hx hb dX12_init_106 rfl (lv_at hl 0 rfl) ?_
  refine lv_aload_n hx hb dX12_init_107 rfl (lv_at hl 0 rfl) ?_
  have ef1 : fs1 = [.ref q1, .null, .null, .null, .int 0, .null, .null, .null, .null, .null, .null, .null, .null, .null, .null, .null, .null, .null, .null, .null, .int 0, .int 0, .int 0, .int 0, .int 0, .int 0, .int 0, .int 0, .int 0, .int 0, .int 0, .int 0, .null, .null, .null, .null, .null, .int 0, .int 0, .int 0, .int 0, .int 0, .null, .null, .int 0, .int 0, .null, .null, .null, .null, .null, .null, .null, .null, .int 0, .null, .int 0, .int 0, .int 0, .int 0, .null, .null, .null, .null, .null, .null] := by rw [hfs1, ef0]; rfl
  have ef2 : fs2 = [.ref q1, .ref q2, .null, .null, .int 0, .null, .null, .null, .null, .null, .null, .null, .null, .null, .null, .null, .null, .null, .null, .null, .int 0, .int 0, .int 0, .int 0, .int 0, .int 0, .int 0, .int 0, .int 0, .int 0, .int 0, .int 0, .null, .null, .null, .null, .null, .int 0, .int 0, .int 0, .int 0, .int 0, .null, .null, .int 0, .int 0, .null, .null, .null, .null, .null, .null, .null, .null, .int 0, .null, .int 0, .int 0, .int 0, .int 0, .null, .null, .null, .null, .null, .null] := by rw [hfs2, ef1]; rfl
  have ef3 : fs3 = [.ref q1, .ref q2, .ref q3, .null, .int 0, .null, .null, .null, .null, .null, .null, .null, .null, .null, .null, .null, .null, .null, .null, .null, .int 0, .int 0, .int 0, .int 0, .int 0, .int 0, .int 0, .int 0, .int 0, .int 0, .int 0, .int 0, .null, .null, .null, .null, .null, .int 0, .int 0, .int 0, .int 0, .int 0, .null, .null, .int 0, .int 0, .null, .null, .null, .null, .null, .null, .null, .null, .int 0, .null, .int 0, .int 0, .int 0, .int 0, .null, .null, .null, .null, .null, .null] := by rw [hfs3, ef2]; rfl
  refine va_get (D := D) (ci := 12) (v := .ref q2) (C := RX12) (T := TX12) (N := 66) hx hb hts m_in hown hK hP 0 rfl rfl 1 (by decide) (hts _ m_l1) (fun _ h9 => h9) (by rw [ef3]; rfl) dX12_init_108 ?_
  refine va_put (D := D) (ci := 12) (v := .ref q2) (ty := tyX12 3) (C := RX12) (T := TX12) (N := 66) hx hb hts m_in tyX12 tyX12_ok nmX12 hown hK hP hD hS 0 rfl rfl 3 (by decide) (hts _ m_l3) (fun _ h9 => h9) rfl (tyX12_ok 3 (by decide)) rfl rfl (by rw [ln3]; decide) dX12_init_111 (fun H locs hP hD hS => ?_)
  obtain ⟨fs4, hfs4⟩ : ∃ z : List Value, z = fs3.set 3 (.ref q2) := ⟨_, rfl⟩
  have ln4 : fs4.length = 66 := by rw [hfs4, List.length_set]; exact ln3
  have hP : va_P D vwCl ((h0, .inr (12, fs4)) :: [(q1, .inl (cS, 2, .inr (.inr (.inr (.inr (va_up (va_up (fun _ => none) 0 (some (aK 28))) 1 (some (aK 29)))))))), (q2, .inl (cS, 6, .inr (.inr (.inr (.inr (va_up (va_up (va_up (va_up (va_up (va_up (fun _ => none) 0 (some (aK 30))) 1 (some (aK 31))) 2 (some (aK 32))) 3 (some (aK 33))) 4 (some (aK 34))) 5 (some (aK 35)))))))), (q3, .inl (cS, 7, .inr (.inr (.inr (.inr (va_up (va_up (va_up (va_up (va_up (va_up (va_up (fun _ => none) 0 (some (aK 30))) 1 (some (aK 31))) 2 (some (aK 32))) 3 (some (aK 33))) 4 (some (aK 34))) 5 (some (aK 35))) 6 (some (aK 36))))))))]) H := by rw [hfs4]; exact hP
  have hD : va_D A ((h0, .inr (12, fs4)) :: [(q1, .inl (cS, 2, .inr (.inr (.inr (.inr (va_up (va_up (fun _ => none) 0 (some (aK 28))) 1 (some (aK 29)))))))), (q2, .inl (cS, 6, .inr (.inr (.inr (.inr (va_up (va_up (va_up (va_up (va_up (va_up (fun _ => none) 0 (some (aK 30))) 1 (some (aK 31))) 2 (some (aK 32))) 3 (some (aK 33))) 4 (some (aK 34))) 5 (some (aK 35)))))))), (q3, .inl (cS, 7, .inr (.inr (.inr (.inr (va_up (va_up (va_up (va_up (va_up (va_up (va_up (fun _ => none) 0 (some (aK 30))) 1 (some (aK 31))) 2 (some (aK 32))) 3 (some (aK 33))) 4 (some (aK 34))) 5 (some (aK 35))) 6 (some (aK 36))))))))]) := by rw [hfs4]; exact hD
  obtain ⟨ar0, har0⟩ : ∃ z : va_W, z = [(q1, .inl (cS, 2, .inr (.inr (.inr (.inr (va_up (va_up (fun _ => none) 0 (some (aK 28))) 1 (some (aK 29)))))))), (q2, .inl (cS, 6, .inr (.inr (.inr (.inr (va_up (va_up (va_up (va_up (va_up (va_up (fun _ => none) 0 (some (aK 30))) 1 (some (aK 31))) 2 (some (aK 32))) 3 (some (aK 33))) 4 (some (aK 34))) 5 (some (aK 35)))))))), (q3, .inl (cS, 7, .inr (.inr (.inr (.inr (va_up (va_up (va_up (va_up (va_up (va_up (va_up (fun _ => none) 0 (some (aK 30))) 1 (some (aK 31))) 2 (some (aK 32))) 3 (some (aK 33))) 4 (some (aK 34))) 5 (some (aK 35))) 6 (some (aK 36))))))))] := ⟨_, rfl⟩
  have hP : va_P D vwCl ((h0, .inr (12, fs4)) :: ar0) H := by rw [har0]; exact hP
  have hD : va_D A ((h0, .inr (12, fs4)) :: ar0) := by rw [har0]; exact hD
  refine lv_aload_n hx hb dX12_init_114 rfl (lv_at hl 0 rfl) ?_
  refine lv_bipush (v := 12) hx hb dX12_init_115 (by decide) ?_
  refine c_newa (atype := .int) (a0 := (12, .inl (fun _ => 0))) hx hb (hts _ c_ac_int) rfl (fun _ h => by cases h) hK (t0 := 0) rfl hP hD hS hA (fun _ => rfl) (by decide) (by decide) (Nat.le_of_ble_eq_true rfl) (Nat.le_of_ble_eq_true rfl) (Nat.le_of_ble_eq_true rfl) dX12_init_117 (fun q4 H hP hD hS => ?_)
  obtain ⟨ar1, har1⟩ : ∃ z : va_W, z = ar0 ++ [(q4, .inl (cI, 12, .inl (fun _ => 0)))] := ⟨_, rfl⟩
  have hP : va_P D vwCl ((h0, .inr (12, fs4)) :: ar1) H := by rw [har1]; exact hP
  have hD : va_D A ((h0, .inr (12, fs4)) :: ar1) := by rw [har1]; exact hD
  refine W.widen (k := 4) (n := 27) (Nat.le_of_ble_eq_true rfl) (Nat.le_of_ble_eq_true rfl) ?_
  refine va_putF (D := D) (ci := 12) (v := .ref q4) (ty := tyX12 5) (C := RX12) (T := TX12) (N := 66) hx hb hts m_in tyX12 tyX12_ok nmX12 hown hK hP hD hS 0 rfl rfl 5 (by decide) (hts _ m_l5) (fun _ h9 => h9) rfl hin rfl (tyX12_ok 5 (by decide)) rfl rfl (by rw [ln4]; decide) dX12_init_119 (fun H locs hP hD hS => ?_)
  obtain ⟨fs5, hfs5⟩ : ∃ z : List Value, z = fs4.set 5 (.ref q4) := ⟨_, rfl⟩
  have ln5 : fs5.length = 66 := by rw [hfs5, List.length_set]; exact ln4
  have hP : va_P D vwCl ((h0, .inr (12, fs5)) :: ar1) H := by rw [hfs5]; exact hP
  have hD : va_D A ((h0, .inr (12, fs5)) :: ar1) := by rw [hfs5]; exact hD
  refine lv_aload_n hx hb dX12_init_122 rfl (lv_at hl 0 rfl) ?_
  refine lv_bipush (v := 16) hx hb dX12_init_123 (by decide) ?_
  refine c_newa (atype := .int) (a0 := (16, .inl (fun _ => 0))) hx hb (hts _ c_ac_int) rfl (fun _ h => by cases h) hK (t0 := 0) rfl hP hD hS hA (fun _ => rfl) (by decide) (by decide) (Nat.le_of_ble_eq_true rfl) (Nat.le_of_ble_eq_true rfl) (Nat.le_of_ble_eq_true rfl) dX12_init_125 (fun q5 H hP hD hS => ?_)
  obtain ⟨ar2, har2⟩ : ∃ z : va_W, z = ar1 ++ [(q5, .inl (cI, 16, .inl (fun _ => 0)))] := ⟨_, rfl⟩
  have hP : va_P D vwCl ((h0, .inr (12, fs5)) :: ar2) H := by rw [har2]; exact hP
  have hD : va_D A ((h0, .inr (12, fs5)) :: ar2) := by rw [har2]; exact hD
  refine W.widen (k := 5) (n := 43) (Nat.le_of_ble_eq_true rfl) (Nat.le_of_ble_eq_true rfl) ?_
  refine va_putF (D := D) (ci := 12) (v := .ref q5) (ty := tyX12 6) (C := RX12) (T := TX12) (N := 66) hx hb hts m_in tyX12 tyX12_ok nmX12 hown hK hP hD hS 0 rfl rfl 6 (by decide) (hts _ m_l6) (fun _ h9 => h9) rfl hin rfl (tyX12_ok 6 (by decide)) rfl rfl (by rw [ln5]; decide) dX12_init_127 (fun H locs hP hD hS => ?_)
  obtain ⟨fs6, hfs6⟩ : ∃ z : List Value, z = fs5.set 6 (.ref q5) := ⟨_, rfl⟩
  have ln6 : fs6.length = 66 := by rw [hfs6, List.length_set]; exact ln5
  have hP : va_P D vwCl ((h0, .inr (12, fs6)) :: ar2) H := by rw [hfs6]; exact hP
  have hD : va_D A ((h0, .inr (12, fs6)) :: ar2) := by rw [hfs6]; exact hD
  refine lv_aload_n hx hb dX12_init_130 rfl (lv_at hl 0 rfl) ?_
  refine lv_bipush (v := 16) hx hb dX12_init_131 (by decide) ?_
  refine c_newa (atype := .int) (a0 := (16, .inl (fun _ => 0))) hx hb (hts _ c_ac_int) rfl (fun _ h => by cases h) hK (t0 := 0) rfl hP hD hS hA (fun _ => rfl) (by decide) (by decide) (Nat.le_of_ble_eq_true rfl) (Nat.le_of_ble_eq_true rfl) (Nat.le_of_ble_eq_true rfl) dX12_init_133 (fun q6 H hP hD hS => ?_)
  obtain ⟨ar3, har3⟩ : ∃ z : va_W, z = ar2 ++ [(q6, .inl (cI, 16, .inl (fun _ => 0)))] := ⟨_, rfl⟩
  have hP : va_P D vwCl ((h0, .inr (12, fs6)) :: ar3) H := by rw [har3]; exact hP
  have hD : va_D A ((h0, .inr (12, fs6)) :: ar3) := by rw [har3]; exact hD
  refine W.widen (k := 6) (n := 59) (Nat.le_of_ble_eq_true rfl) (Nat.le_of_ble_eq_true rfl) ?_
  refine va_putF (D := D) (ci := 12) (v := .ref q6) (ty := tyX12 7) (C := RX12) (T := TX12) (N := 66) hx hb hts m_in tyX12 tyX12_ok nmX12 hown hK hP hD hS 0 rfl rfl 7 (by decide) (hts _ m_l7) (fun _ h9 => h9) rfl hin rfl (tyX12_ok 7 (by decide)) rfl rfl (by rw [ln6]; decide) dX12_init_135 (fun H locs hP hD hS => ?_)
  obtain ⟨fs7, hfs7⟩ : ∃ z : List Value, z = fs6.set 7 (.ref q6) := ⟨_, rfl⟩
  have ln7 : fs7.length = 66 := by rw [hfs7, List.length_set]; exact ln6
  have hP : va_P D vwCl ((h0, .inr (12, fs7)) :: ar3) H := by rw [hfs7]; exact hP
  have hD : va_D A ((h0, .inr (12, fs7)) :: ar3) := by rw [hfs7]; exact hD
  refine lv_aload_n hx hb dX12_init_138 rfl (lv_at hl 0 rfl) ?_
  refine lv_bipush (v := 16) hx hb dX12_init_139 (by decide) ?_
  refine c_newa (atype := .int) (a0 := (16, .inl (fun _ => 0))) hx hb (hts _ c_ac_int) rfl (fun _ h => by cases h) hK (t0 := 0) rfl hP hD hS hA (fun _ => rfl) (by decide) (by decide) (Nat.le_of_ble_eq_true rfl) (Nat.le_of_ble_eq_true rfl) (Nat.le_of_ble_eq_true rfl) dX12_init_141 (fun q7 H hP hD hS => ?_)
  obtain ⟨ar4, har4⟩ : ∃ z : va_W, z = ar3 ++ [(q7, .inl (cI, 16, .inl (fun _ => 0)))] := ⟨_, rfl⟩
  have hP : va_P D vwCl ((h0, .inr (12, fs7)) :: ar4) H := by rw [har4]; exact hP
  have hD : va_D A ((h0, .inr (12, fs7)) :: ar4) := by rw [har4]; exact hD
  refine W.widen (k := 7) (n := 75) (Nat.le_of_ble_eq_true rfl) (Nat.le_of_ble_eq_true rfl) ?_
  refine va_putF (D := D) (ci := 12) (v := .ref q7) (ty := tyX12 8) (C := RX12) (T := TX12) (N := 66) hx hb hts m_in tyX12 tyX12_ok nmX12 hown hK hP hD hS 0 rfl rfl 8 (by decide) (hts _ m_l8) (fun _ h9 => h9) rfl hin rfl (tyX12_ok 8 (by decide)) rfl rfl (by rw [ln7]; decide) dX12_init_143 (fun H locs hP hD hS => ?_)
  obtain ⟨fs8, hfs8⟩ : ∃ z : List Value, z = fs7.set 8 (.ref q7) := ⟨_, rfl⟩
  have ln8 : fs8.length = 66 := by rw [hfs8, List.length_set]; exact ln7
  have hP : va_P D vwCl ((h0, .inr (12, fs8)) :: ar4) H := by rw [hfs8]; exact hP
  have hD : va_D A ((h0, .inr (12, fs8)) :: ar4) := by rw [hfs8]; exact hD
  refine lv_aload_n hx hb dX12_init_146 rfl (lv_at hl 0 rfl) ?_
  refine lv_bipush (v := 16) hx hb dX12_init_147 (by decide) ?_
  refine c_newa (atype := .int) (a0 := (16, .inl (fun _ => 0))) hx hb (hts _ c_ac_int) rfl (fun _ h => by cases h) hK (t0 := 0) rfl hP hD hS hA (fun _ => rfl) (by decide) (by decide) (Nat.le_of_ble_eq_true rfl) (Nat.le_of_ble_eq_true rfl) (Nat.le_of_ble_eq_true rfl) dX12_init_149 (fun q8 H hP hD hS => ?_)
  obtain ⟨ar5, har5⟩ : ∃ z : va_W, z = ar4 ++ [(q8, .inl (cI, 16, .inl (fun _ => 0)))] := ⟨_, rfl⟩
  have hP : va_P D vwCl ((h0, .inr (12, fs8)) :: ar5) H := by rw [har5]; exact hP
  have hD : va_D A ((h0, .inr (12, fs8)) :: ar5) := by rw [har5]; exact hD
  refine W.widen (k := 8) (n := 91) (Nat.le_of_ble_eq_true rfl) (Nat.le_of_ble_eq_true rfl) ?_
  refine va_putF (D := D) (ci := 12) (v := .ref q8) (ty := tyX12 9) (C := RX12) (T := TX12) (N := 66) hx hb hts m_in tyX12 tyX12_ok nmX12 hown hK hP hD hS 0 rfl rfl 9 (by decide) (hts _ m_l9) (fun _ h9 => h9) rfl hin rfl (tyX12_ok 9 (by decide)) rfl rfl (by rw [ln8]; decide) dX12_init_151 (fun H locs hP hD hS => ?_)
  obtain ⟨fs9, hfs9⟩ : ∃ z : List Value, z = fs8.set 9 (.ref q8) := ⟨_, rfl⟩
  have ln9 : fs9.length = 66 := by rw [hfs9, List.length_set]; exact ln8
  have hP : va_P D vwCl ((h0, .inr (12, fs9)) :: ar5) H := by rw [hfs9]; exact hP
  have hD : va_D A ((h0, .inr (12, fs9)) :: ar5) := by rw [hfs9]; exact hD
  refine lv_aload_n hx hb dX12_init_154 rfl (lv_at hl 0 rfl) ?_
  refine lv_bipush (v := 12) hx hb dX12_init_155 (by decide) ?_
  refine c_newa (atype := .int) (a0 := (12, .inl (fun _ => 0))) hx hb (hts _ c_ac_int) rfl (fun _ h => by cases h) hK (t0 := 0) rfl hP hD hS hA (fun _ => rfl) (by decide) (by decide) (Nat.le_of_ble_eq_true rfl) (Nat.le_of_ble_eq_true rfl) (Nat.le_of_ble_eq_true rfl) dX12_init_157 (fun q9 H hP hD hS => ?_)
  obtain ⟨ar6, har6⟩ : ∃ z : va_W, z = ar5 ++ [(q9, .inl (cI, 12, .inl (fun _ => 0)))] := ⟨_, rfl⟩
  have hP : va_P D vwCl ((h0, .inr (12, fs9)) :: ar6) H := by rw [har6]; exact hP
  have hD : va_D A ((h0, .inr (12, fs9)) :: ar6) := by rw [har6]; exact hD
  refine W.widen (k := 9) (n := 103) (Nat.le_of_ble_eq_true rfl) (Nat.le_of_ble_eq_true rfl) ?_
  refine va_putF (D := D) (ci := 12) (v := .ref q9) (ty := tyX12 10) (C := RX12) (T := TX12) (N := 66) hx hb hts m_in tyX12 tyX12_ok nmX12 hown hK hP hD hS 0 rfl rfl 10 (by decide) (hts _ m_l10) (fun _ h9 => h9) rfl hin rfl (tyX12_ok 10 (by decide)) rfl rfl (by rw [ln9]; decide) dX12_init_159 (fun H locs hP hD hS => ?_)
  obtain ⟨fs10, hfs10⟩ : ∃ z : List Value, z = fs9.set 10 (.ref q9) := ⟨_, rfl⟩
  have ln10 : fs10.length = 66 := by rw [hfs10, List.length_set]; exact ln9
  have hP : va_P D vwCl ((h0, .inr (12, fs10)) :: ar6) H := by rw [hfs10]; exact hP
  have hD : va_D A ((h0, .inr (12, fs10)) :: ar6) := by rw [hfs10]; exact hD
  refine lv_aload_n hx hb dX12_init_162 rfl (lv_at hl 0 rfl) ?_
  refine lv_bipush (v := 12) hx hb dX12_init_163 (by decide) ?_
  refine c_newa (atype := .int) (a0 := (12, .inl (fun _ => 0))) hx hb (hts _ c_ac_int) rfl (fun _ h => by cases h) hK (t0 := 0) rfl hP hD hS hA (fun _ => rfl) (by decide) (by decide) (Nat.le_of_ble_eq_true rfl) (Nat.le_of_ble_eq_true rfl) (Nat.le_of_ble_eq_true rfl) dX12_init_165 (fun q10 H hP hD hS => ?_)
  obtain ⟨ar7, har7⟩ : ∃ z : va_W, z = ar6 ++ [(q10, .inl (cI, 12, .inl (fun _ => 0)))] := ⟨_, rfl⟩
  have hP : va_P D vwCl ((h0, .inr (12, fs10)) :: ar7) H := by rw [har7]; exact hP
  have hD : va_D A ((h0, .inr (12, fs10)) :: ar7) := by rw [har7]; exact hD
  refine W.widen (k := 10) (n := 115) (Nat.le_of_ble_eq_true rfl) (Nat.le_of_ble_eq_true rfl) ?_
  refine va_putF (D := D) (ci := 12) (v := .ref q10) (ty := tyX12 11) (C := RX12) (T := TX12) (N := 66) hx hb hts m_in tyX12 tyX12_ok nmX12 hown hK hP hD hS 0 rfl rfl 11 (by decide) (hts _ m_l11) (fun _ h9 => h9) rfl hin rfl (tyX12_ok 11 (by decide)) rfl rfl (by rw [ln10]; decide) dX12_init_167 (fun H locs hP hD hS => ?_)
  obtain ⟨fs11, hfs11⟩ : ∃ z : List Value, z = fs10.set 11 (.ref q10) := ⟨_, rfl⟩
  have ln11 : fs11.length = 66 := by rw [hfs11, List.length_set]; exact ln10
  have hP : va_P D vwCl ((h0, .inr (12, fs11)) :: ar7) H := by rw [hfs11]; exact hP
  have hD : va_D A ((h0, .inr (12, fs11)) :: ar7) := by rw [hfs11]; exact hD
  refine lv_aload_n hx hb dX12_init_170 rfl (lv_at hl 0 rfl) ?_
  refine lv_bipush (v := 12) hx hb dX12_init_171 (by decide) ?_
  refine c_newa (atype := .int) (a0 := (12, .inl (fun _ => 0))) hx hb (hts _ c_ac_int) rfl (fun _ h => by cases h) hK (t0 := 0) rfl hP hD hS hA (fun _ => rfl) (by decide) (by decide) (Nat.le_of_ble_eq_true rfl) (Nat.le_of_ble_eq_true rfl) (Nat.le_of_ble_eq_true rfl) dX12_init_173 (fun q11 H hP hD hS => ?_)
  obtain ⟨ar8, har8⟩ : ∃ z : va_W, z = ar7 ++ [(q11, .inl (cI, 12, .inl (fun _ => 0)))] := ⟨_, rfl⟩
  have hP : va_P D vwCl ((h0, .inr (12, fs11)) :: ar8) H := by rw [har8]; exact hP
  have hD : va_D A ((h0, .inr (12, fs11)) :: ar8) := by rw [har8]; exact hD
  refine W.widen (k := 11) (n := 127) (Nat.le_of_ble_eq_true rfl) (Nat.le_of_ble_eq_true rfl) ?_
  refine va_putF (D := D) (ci := 12) (v := .ref q11) (ty := tyX12 12) (C := RX12) (T := TX12) (N := 66) hx hb hts m_in tyX12 tyX12_ok nmX12 hown hK hP hD hS 0 rfl rfl 12 (by decide) (hts _ m_l12) (fun _ h9 => h9) rfl hin rfl (tyX12_ok 12 (by decide)) rfl rfl (by rw [ln11]; decide) dX12_init_175 (fun H locs hP hD hS => ?_)
  obtain ⟨fs12, hfs12⟩ : ∃ z : List Value, z = fs11.set 12 (.ref q11) := ⟨_, rfl⟩
  have ln12 : fs12.length = 66 := by rw [hfs12, List.length_set]; exact ln11
  have hP : va_P D vwCl ((h0, .inr (12, fs12)) :: ar8) H := by rw [hfs12]; exact hP
  have hD : va_D A ((h0, .inr (12, fs12)) :: ar8) := by rw [hfs12]; exact hD
  refine lv_aload_n hx hb dX12_init_178 rfl (lv_at hl 0 rfl) ?_
  refine lv_bipush (v := 12) hx hb dX12_init_179 (by decide) ?_
  refine c_newa (atype := .int) (a0 := (12, .inl (fun _ => 0))) hx hb (hts _ c_ac_int) rfl (fun _ h => by cases h) hK (t0 := 0) rfl hP hD hS hA (fun _ => rfl) (by decide) (by decide) (Nat.le_of_ble_eq_true rfl) (Nat.le_of_ble_eq_true rfl) (Nat.le_of_ble_eq_true rfl) dX12_init_181 (fun q12 H hP hD hS => ?_)
  obtain ⟨ar9, har9⟩ : ∃ z : va_W, z = ar8 ++ [(q12, .inl (cI, 12, .inl (fun _ => 0)))] := ⟨_, rfl⟩
  have hP : va_P D vwCl ((h0, .inr (12, fs12)) :: ar9) H := by rw [har9]; exact hP
  have hD : va_D A ((h0, .inr (12, fs12)) :: ar9) := by rw [har9]; exact hD
  refine W.widen (k := 12) (n := 139) (Nat.le_of_ble_eq_true rfl) (Nat.le_of_ble_eq_true rfl) ?_
  refine va_putF (D := D) (ci := 12) (v := .ref q12) (ty := tyX12 13) (C := RX12) (T := TX12) (N := 66) hx hb hts m_in tyX12 tyX12_ok nmX12 hown hK hP hD hS 0 rfl rfl 13 (by decide) (hts _ m_l13) (fun _ h9 => h9) rfl hin rfl (tyX12_ok 13 (by decide)) rfl rfl (by rw [ln12]; decide) dX12_init_183 (fun H locs hP hD hS => ?_)
  obtain ⟨fs13, hfs13⟩ : ∃ z : List Value, z = fs12.set 13 (.ref q12) := ⟨_, rfl⟩
  have ln13 : fs13.length = 66 := by rw [hfs13, List.length_set]; exact ln12
  have hP : va_P D vwCl ((h0, .inr (12, fs13)) :: ar9) H := by rw [hfs13]; exact hP
  have hD : va_D A ((h0, .inr (12, fs13)) :: ar9) := by rw [hfs13]; exact hD
  refine lv_aload_n hx hb dX12_init_186 rfl (lv_at hl 0 rfl) ?_
  refine lv_bipush (v := 16) hx hb dX12_init_187 (by decide) ?_
  refine c_newa (atype := .int) (a0 := (16, .inl (fun _ => 0))) hx hb (hts _ c_ac_int) rfl (fun _ h => by cases h) hK (t0 := 0) rfl hP hD hS hA (fun _ => rfl) (by decide) (by decide) (Nat.le_of_ble_eq_true rfl) (Nat.le_of_ble_eq_true rfl) (Nat.le_of_ble_eq_true rfl) dX12_init_189 (fun q13 H hP hD hS => ?_)
  obtain ⟨ar10, har10⟩ : ∃ z : va_W, z = ar9 ++ [(q13, .inl (cI, 16, .inl (fun _ => 0)))] := ⟨_, rfl⟩
  have hP : va_P D vwCl ((h0, .inr (12, fs13)) :: ar10) H := by rw [har10]; exact hP
  have hD : va_D A ((h0, .inr (12, fs13)) :: ar10) := by rw [har10]; exact hD
  refine W.widen (k := 13) (n := 155) (Nat.le_of_ble_eq_true rfl) (Nat.le_of_ble_eq_true rfl) ?_
  refine va_putF (D := D) (ci := 12) (v := .ref q13) (ty := tyX12 14) (C := RX12) (T := TX12) (N := 66) hx hb hts m_in tyX12 tyX12_ok nmX12 hown hK hP hD hS 0 rfl rfl 14 (by decide) (hts _ m_l14) (fun _ h9 => h9) rfl hin rfl (tyX12_ok 14 (by decide)) rfl rfl (by rw [ln13]; decide) dX12_init_191 (fun H locs hP hD hS => ?_)
  obtain ⟨fs14, hfs14⟩ : ∃ z : List Value, z = fs13.set 14 (.ref q13) := ⟨_, rfl⟩
  have ln14 : fs14.length = 66 := by rw [hfs14, List.length_set]; exact ln13
  have hP : va_P D vwCl ((h0, .inr (12, fs14)) :: ar10) H := by rw [hfs14]; exact hP
  have hD : va_D A ((h0, .inr (12, fs14)) :: ar10) := by rw [hfs14]; exact hD
  refine lv_aload_n hx hb dX12_init_194 rfl (lv_at hl 0 rfl) ?_
  refine lv_sipush (v := 1400) hx hb dX12_init_195 (by decide) ?_
  refine c_newa (atype := .int) (a0 := (1400, .inl (fun _ => 0))) hx hb (hts _ c_ac_int) rfl (fun _ h => by cases h) hK (t0 := 0) rfl hP hD hS hA (fun _ => rfl) (by decide) (by decide) (Nat.le_of_ble_eq_true rfl) (Nat.le_of_ble_eq_true rfl) (Nat.le_of_ble_eq_true rfl) dX12_init_198 (fun q14 H hP hD hS => ?_)
  obtain ⟨ar11, har11⟩ : ∃ z : va_W, z = ar10 ++ [(q14, .inl (cI, 1400, .inl (fun _ => 0)))] := ⟨_, rfl⟩
  have hP : va_P D vwCl ((h0, .inr (12, fs14)) :: ar11) H := by rw [har11]; exact hP
  have hD : va_D A ((h0, .inr (12, fs14)) :: ar11) := by rw [har11]; exact hD
  refine W.widen (k := 14) (n := 1555) (Nat.le_of_ble_eq_true rfl) (Nat.le_of_ble_eq_true rfl) ?_
  refine va_putF (D := D) (ci := 12) (v := .ref q14) (ty := tyX12 15) (C := RX12) (T := TX12) (N := 66) hx hb hts m_in tyX12 tyX12_ok nmX12 hown hK hP hD hS 0 rfl rfl 15 (by decide) (hts _ m_l15) (fun _ h9 => h9) rfl hin rfl (tyX12_ok 15 (by decide)) rfl rfl (by rw [ln14]; decide) dX12_init_200 (fun H locs hP hD hS => ?_)
  obtain ⟨fs15, hfs15⟩ : ∃ z : List Value, z = fs14.set 15 (.ref q14) := ⟨_, rfl⟩
  have ln15 : fs15.length = 66 := by rw [hfs15, List.length_set]; exact ln14
  have hP : va_P D vwCl ((h0, .inr (12, fs15)) :: ar11) H := by rw [hfs15]; exact hP
  have hD : va_D A ((h0, .inr (12, fs15)) :: ar11) := by rw [hfs15]; exact hD
  refine lv_aload_n hx hb dX12_init_203 rfl (lv_at hl 0 rfl) ?_
  refine lv_sipush (v := 1400) hx hb dX12_init_204 (by decide) ?_
  refine c_newa (atype := .int) (a0 := (1400, .inl (fun _ => 0))) hx hb (hts _ c_ac_int) rfl (fun _ h => by cases h) hK (t0 := 0) rfl hP hD hS hA (fun _ => rfl) (by decide) (by decide) (Nat.le_of_ble_eq_true rfl) (Nat.le_of_ble_eq_true rfl) (Nat.le_of_ble_eq_true rfl) dX12_init_207 (fun q15 H hP hD hS => ?_)
  obtain ⟨ar12, har12⟩ : ∃ z : va_W, z = ar11 ++ [(q15, .inl (cI, 1400, .inl (fun _ => 0)))] := ⟨_, rfl⟩
  have hP : va_P D vwCl ((h0, .inr (12, fs15)) :: ar12) H := by rw [har12]; exact hP
  have hD : va_D A ((h0, .inr (12, fs15)) :: ar12) := by rw [har12]; exact hD
  refine W.widen (k := 15) (n := 2955) (Nat.le_of_ble_eq_true rfl) (Nat.le_of_ble_eq_true rfl) ?_
  refine va_putF (D := D) (ci := 12) (v := .ref q15) (ty := tyX12 16) (C := RX12) (T := TX12) (N := 66) hx hb hts m_in tyX12 tyX12_ok nmX12 hown hK hP hD hS 0 rfl rfl 16 (by decide) (hts _ m_l16) (fun _ h9 => h9) rfl hin rfl (tyX12_ok 16 (by decide)) rfl rfl (by rw [ln15]; decide) dX12_init_209 (fun H locs hP hD hS => ?_)
  obtain ⟨fs16, hfs16⟩ : ∃ z : List Value, z = fs15.set 16 (.ref q15) := ⟨_, rfl⟩
  have ln16 : fs16.length = 66 := by rw [hfs16, List.length_set]; exact ln15
  have hP : va_P D vwCl ((h0, .inr (12, fs16)) :: ar12) H := by rw [hfs16]; exact hP
  have hD : va_D A ((h0, .inr (12, fs16)) :: ar12) := by rw [hfs16]; exact hD
  refine lv_aload_n hx hb dX12_init_212 rfl (lv_at hl 0 rfl) ?_
  refine lv_iconst (v := 3) hx hb dX12_init_213 (by decide) ?_
  refine c_newa (atype := .int) (a0 := (3, .inl (fun _ => 0))) hx hb (hts _ c_ac_int) rfl (fun _ h => by cases h) hK (t0 := 0) rfl hP hD hS hA (fun _ => rfl) (by decide) (by decide) (Nat.le_of_ble_eq_true rfl) (Nat.le_of_ble_eq_true rfl) (Nat.le_of_ble_eq_true rfl) dX12_init_214 (fun q16 H hP hD hS => ?_)
  obtain ⟨ar13, har13⟩ : ∃ z : va_W, z = ar12 ++ [(q16, .inl (cI, 3, .inl (fun _ => 0)))] := ⟨_, rfl⟩
  have hP : va_P D vwCl ((h0, .inr (12, fs16)) :: ar13) H := by rw [har13]; exact hP
  have hD : va_D A ((h0, .inr (12, fs16)) :: ar13) := by rw [har13]; exact hD
  refine W.widen (k := 16) (n := 2958) (Nat.le_of_ble_eq_true rfl) (Nat.le_of_ble_eq_true rfl) ?_
  refine va_putF (D := D) (ci := 12) (v := .ref q16) (ty := tyX12 17) (C := RX12) (T := TX12) (N := 66) hx hb hts m_in tyX12 tyX12_ok nmX12 hown hK hP hD hS 0 rfl rfl 17 (by decide) (hts _ m_l17) (fun _ h9 => h9) rfl hin rfl (tyX12_ok 17 (by decide)) rfl rfl (by rw [ln16]; decide) dX12_init_216 (fun H locs hP hD hS => ?_)
  obtain ⟨fs17, hfs17⟩ : ∃ z : List Value, z = fs16.set 17 (.ref q16) := ⟨_, rfl⟩
  have ln17 : fs17.length = 66 := by rw [hfs17, List.length_set]; exact ln16
  have hP : va_P D vwCl ((h0, .inr (12, fs17)) :: ar13) H := by rw [hfs17]; exact hP
  have hD : va_D A ((h0, .inr (12, fs17)) :: ar13) := by rw [hfs17]; exact hD
  refine lv_aload_n hx hb dX12_init_219 rfl (lv_at hl 0 rfl) ?_
  refine lv_bipush (v := 6) hx hb dX12_init_220 (by decide) ?_
  refine c_newa (atype := .int) (a0 := (6, .inl (fun _ => 0))) hx hb (hts _ c_ac_int) rfl (fun _ h => by cases h) hK (t0 := 0) rfl hP hD hS hA (fun _ => rfl) (by decide) (by decide) (Nat.le_of_ble_eq_true rfl) (Nat.le_of_ble_eq_true rfl) (Nat.le_of_ble_eq_true rfl) dX12_init_222 (fun q17 H hP hD hS => ?_)
  obtain ⟨ar14, har14⟩ : ∃ z : va_W, z = ar13 ++ [(q17, .inl (cI, 6, .inl (fun _ => 0)))] := ⟨_, rfl⟩
  have hP : va_P D vwCl ((h0, .inr (12, fs17)) :: ar14) H := by rw [har14]; exact hP
  have hD : va_D A ((h0, .inr (12, fs17)) :: ar14) := by rw [har14]; exact hD
  refine W.widen (k := 17) (n := 2964) (Nat.le_of_ble_eq_true rfl) (Nat.le_of_ble_eq_true rfl) ?_
  refine va_putF (D := D) (ci := 12) (v := .ref q17) (ty := tyX12 18) (C := RX12) (T := TX12) (N := 66) hx hb hts m_in tyX12 tyX12_ok nmX12 hown hK hP hD hS 0 rfl rfl 18 (by decide) (hts _ m_l18) (fun _ h9 => h9) rfl hin rfl (tyX12_ok 18 (by decide)) rfl rfl (by rw [ln17]; decide) dX12_init_224 (fun H locs hP hD hS => ?_)
  obtain ⟨fs18, hfs18⟩ : ∃ z : List Value, z = fs17.set 18 (.ref q17) := ⟨_, rfl⟩
  have ln18 : fs18.length = 66 := by rw [hfs18, List.length_set]; exact ln17
  have hP : va_P D vwCl ((h0, .inr (12, fs18)) :: ar14) H := by rw [hfs18]; exact hP
  have hD : va_D A ((h0, .inr (12, fs18)) :: ar14) := by rw [hfs18]; exact hD
  refine lv_aload_n hx hb dX12_init_227 rfl (lv_at hl 0 rfl) ?_
  refine lv_sipush (v := 700) hx hb dX12_init_228 (by decide) ?_
  refine c_newa (atype := .int) (a0 := (700, .inl (fun _ => 0))) hx hb (hts _ c_ac_int) rfl (fun _ h => by cases h) hK (t0 := 0) rfl hP hD hS hA (fun _ => rfl) (by decide) (by decide) (Nat.le_of_ble_eq_true rfl) (Nat.le_of_ble_eq_true rfl) (Nat.le_of_ble_eq_true rfl) dX12_init_231 (fun q18 H hP hD hS => ?_)
  obtain ⟨ar15, har15⟩ : ∃ z : va_W, z = ar14 ++ [(q18, .inl (cI, 700, .inl (fun _ => 0)))] := ⟨_, rfl⟩
  have hP : va_P D vwCl ((h0, .inr (12, fs18)) :: ar15) H := by rw [har15]; exact hP
  have hD : va_D A ((h0, .inr (12, fs18)) :: ar15) := by rw [har15]; exact hD
  refine W.widen (k := 18) (n := 3664) (Nat.le_of_ble_eq_true rfl) (Nat.le_of_ble_eq_true rfl) ?_
  refine va_putF (D := D) (ci := 12) (v := .ref q18) (ty := tyX12 19) (C := RX12) (T := TX12) (N := 66) hx hb hts m_in tyX12 tyX12_ok nmX12 hown hK hP hD hS 0 rfl rfl 19 (by decide) (hts _ m_l19) (fun _ h9 => h9) rfl hin rfl (tyX12_ok 19 (by decide)) rfl rfl (by rw [ln18]; decide) dX12_init_233 (fun H locs hP hD hS => ?_)
  obtain ⟨fs19, hfs19⟩ : ∃ z : List Value, z = fs18.set 19 (.ref q18) := ⟨_, rfl⟩
  have ln19 : fs19.length = 66 := by rw [hfs19, List.length_set]; exact ln18
  have hP : va_P D vwCl ((h0, .inr (12, fs19)) :: ar15) H := by rw [hfs19]; exact hP
  have hD : va_D A ((h0, .inr (12, fs19)) :: ar15) := by rw [hfs19]; exact hD
  refine lv_aload_n hx hb dX12_init_236 rfl (lv_at hl 0 rfl) ?_
  refine lv_iconst (v := (-1)) hx hb dX12_init_237 (by decide) ?_
  refine va_put (D := D) (ci := 12) (v := .int (-1)) (ty := tyX12 29) (C := RX12) (T := TX12) (N := 66) hx hb hts m_in tyX12 tyX12_ok nmX12 hown hK hP hD hS 0 rfl rfl 29 (by decide) (hts _ m_l29) (fun _ h9 => h9) rfl (tyX12_ok 29 (by decide)) rfl rfl (by rw [ln19]; decide) dX12_init_238 (fun H locs hP hD hS => ?_)
  obtain ⟨fs20, hfs20⟩ : ∃ z : List Value, z = fs19.set 29 (.int (-1)) := ⟨_, rfl⟩
  have ln20 : fs20.length = 66 := by rw [hfs20, List.length_set]; exact ln19
  have hP : va_P D vwCl ((h0, .inr (12, fs20)) :: ar15) H := by rw [hfs20]; exact hP
  have hD : va_D A ((h0, .inr (12, fs20)) :: ar15) := by rw [hfs20]; exact hD
  refine lv_aload_n hx hb dX12_init_241 rfl (lv_at hl 0 rfl) ?_
  refine lv_bipush (v := 6) hx hb dX12_init_242 (by decide) ?_
  refine c_newa (atype := .int) (a0 := (6, .inl (fun _ => 0))) hx hb (hts _ c_ac_int) rfl (fun _ h => by cases h) hK (t0 := 0) rfl hP hD hS hA (fun _ => rfl) (by decide) (by decide) (Nat.le_of_ble_eq_true rfl) (Nat.le_of_ble_eq_true rfl) (Nat.le_of_ble_eq_true rfl) dX12_init_244 (fun q19 H hP hD hS => ?_)
  obtain ⟨ar16, har16⟩ : ∃ z : va_W, z = ar15 ++ [(q19, .inl (cI, 6, .inl (fun _ => 0)))] := ⟨_, rfl⟩
  have hP : va_P D vwCl ((h0, .inr (12, fs20)) :: ar16) H := by rw [har16]; exact hP
  have hD : va_D A ((h0, .inr (12, fs20)) :: ar16) := by rw [har16]; exact hD
  refine W.widen (k := 19) (n := 3670) (Nat.le_of_ble_eq_true rfl) (Nat.le_of_ble_eq_true rfl) ?_
  refine va_putF (D := D) (ci := 12) (v := .ref q19) (ty := tyX12 32) (C := RX12) (T := TX12) (N := 66) hx hb hts m_in tyX12 tyX12_ok nmX12 hown hK hP hD hS 0 rfl rfl 32 (by decide) (hts _ m_l32) (fun _ h9 => h9) rfl hin rfl (tyX12_ok 32 (by decide)) rfl rfl (by rw [ln20]; decide) dX12_init_246 (fun H locs hP hD hS => ?_)
  obtain ⟨fs21, hfs21⟩ : ∃ z : List Value, z = fs20.set 32 (.ref q19) := ⟨_, rfl⟩
  have ln21 : fs21.length = 66 := by rw [hfs21, List.length_set]; exact ln20
  have hP : va_P D vwCl ((h0, .inr (12, fs21)) :: ar16) H := by rw [hfs21]; exact hP
  have hD : va_D A ((h0, .inr (12, fs21)) :: ar16) := by rw [hfs21]; exact hD
  refine lv_aload_n hx hb dX12_init_249 rfl (lv_at hl 0 rfl) ?_
  refine lv_bipush (v := 6) hx hb dX12_init_250 (by decide) ?_
  refine c_newa (atype := .int) (a0 := (6, .inl (fun _ => 0))) hx hb (hts _ c_ac_int) rfl (fun _ h => by cases h) hK (t0 := 0) rfl hP hD hS hA (fun _ => rfl) (by decide) (by decide) (Nat.le_of_ble_eq_true rfl) (Nat.le_of_ble_eq_true rfl) (Nat.le_of_ble_eq_true rfl) dX12_init_252 (fun q20 H hP hD hS => ?_)
  obtain ⟨ar17, har17⟩ : ∃ z : va_W, z = ar16 ++ [(q20, .inl (cI, 6, .inl (fun _ => 0)))] := ⟨_, rfl⟩
  have hP : va_P D vwCl ((h0, .inr (12, fs21)) :: ar17) H := by rw [har17]; exact hP
  have hD : va_D A ((h0, .inr (12, fs21)) :: ar17) := by rw [har17]; exact hD
  refine W.widen (k := 20) (n := 3676) (Nat.le_of_ble_eq_true rfl) (Nat.le_of_ble_eq_true rfl) ?_
  refine va_putF (D := D) (ci := 12) (v := .ref q20) (ty := tyX12 33) (C := RX12) (T := TX12) (N := 66) hx hb hts m_in tyX12 tyX12_ok nmX12 hown hK hP hD hS 0 rfl rfl 33 (by decide) (hts _ m_l33) (fun _ h9 => h9) rfl hin rfl (tyX12_ok 33 (by decide)) rfl rfl (by rw [ln21]; decide) dX12_init_254 (fun H locs hP hD hS => ?_)
  obtain ⟨fs22, hfs22⟩ : ∃ z : List Value, z = fs21.set 33 (.ref q20) := ⟨_, rfl⟩
  have ln22 : fs22.length = 66 := by rw [hfs22, List.length_set]; exact ln21
  have hP : va_P D vwCl ((h0, .inr (12, fs22)) :: ar17) H := by rw [hfs22]; exact hP
  have hD : va_D A ((h0, .inr (12, fs22)) :: ar17) := by rw [hfs22]; exact hD
  refine lv_aload_n hx hb dX12_init_257 rfl (lv_at hl 0 rfl) ?_
  refine lv_bipush (v := 6) hx hb dX12_init_258 (by decide) ?_
  refine c_newa (atype := .int) (a0 := (6, .inl (fun _ => 0))) hx hb (hts _ c_ac_int) rfl (fun _ h => by cases h) hK (t0 := 0) rfl hP hD hS hA (fun _ => rfl) (by decide) (by decide) (Nat.le_of_ble_eq_true rfl) (Nat.le_of_ble_eq_true rfl) (Nat.le_of_ble_eq_true rfl) dX12_init_260 (fun q21 H hP hD hS => ?_)
  obtain ⟨ar18, har18⟩ : ∃ z : va_W, z = ar17 ++ [(q21, .inl (cI, 6, .inl (fun _ => 0)))] := ⟨_, rfl⟩
  have hP : va_P D vwCl ((h0, .inr (12, fs22)) :: ar18) H := by rw [har18]; exact hP
  have hD : va_D A ((h0, .inr (12, fs22)) :: ar18) := by rw [har18]; exact hD
  refine W.widen (k := 21) (n := 3682) (Nat.le_of_ble_eq_true rfl) (Nat.le_of_ble_eq_true rfl) ?_
  refine va_putF (D := D) (ci := 12) (v := .ref q21) (ty := tyX12 34) (C := RX12) (T := TX12) (N := 66) hx hb hts m_in tyX12 tyX12_ok nmX12 hown hK hP hD hS 0 rfl rfl 34 (by decide) (hts _ m_l34) (fun _ h9 => h9) rfl hin rfl (tyX12_ok 34 (by decide)) rfl rfl (by rw [ln22]; decide) dX12_init_262 (fun H locs hP hD hS => ?_)
  obtain ⟨fs23, hfs23⟩ : ∃ z : List Value, z = fs22.set 34 (.ref q21) := ⟨_, rfl⟩
  have ln23 : fs23.length = 66 := by rw [hfs23, List.length_set]; exact ln22
  have hP : va_P D vwCl ((h0, .inr (12, fs23)) :: ar18) H := by rw [hfs23]; exact hP
  have hD : va_D A ((h0, .inr (12, fs23)) :: ar18) := by rw [hfs23]; exact hD
  refine lv_aload_n hx hb dX12_init_265 rfl (lv_at hl 0 rfl) ?_
  refine lv_bipush (v := 6) hx hb dX12_init_266 (by decide) ?_
  refine c_newa (atype := .int) (a0 := (6, .inl (fun _ => 0))) hx hb (hts _ c_ac_int) rfl (fun _ h => by cases h) hK (t0 := 0) rfl hP hD hS hA (fun _ => rfl) (by decide) (by decide) (Nat.le_of_ble_eq_true rfl) (Nat.le_of_ble_eq_true rfl) (Nat.le_of_ble_eq_true rfl) dX12_init_268 (fun q22 H hP hD hS => ?_)
  obtain ⟨ar19, har19⟩ : ∃ z : va_W, z = ar18 ++ [(q22, .inl (cI, 6, .inl (fun _ => 0)))] := ⟨_, rfl⟩
  have hP : va_P D vwCl ((h0, .inr (12, fs23)) :: ar19) H := by rw [har19]; exact hP
  have hD : va_D A ((h0, .inr (12, fs23)) :: ar19) := by rw [har19]; exact hD
  refine W.widen (k := 22) (n := 3688) (Nat.le_of_ble_eq_true rfl) (Nat.le_of_ble_eq_true rfl) ?_
  refine va_putF (D := D) (ci := 12) (v := .ref q22) (ty := tyX12 35) (C := RX12) (T := TX12) (N := 66) hx hb hts m_in tyX12 tyX12_ok nmX12 hown hK hP hD hS 0 rfl rfl 35 (by decide) (hts _ m_l35) (fun _ h9 => h9) rfl hin rfl (tyX12_ok 35 (by decide)) rfl rfl (by rw [ln23]; decide) dX12_init_270 (fun H locs hP hD hS => ?_)
  obtain ⟨fs24, hfs24⟩ : ∃ z : List Value, z = fs23.set 35 (.ref q22) := ⟨_, rfl⟩
  have ln24 : fs24.length = 66 := by rw [hfs24, List.length_set]; exact ln23
  have hP : va_P D vwCl ((h0, .inr (12, fs24)) :: ar19) H := by rw [hfs24]; exact hP
  have hD : va_D A ((h0, .inr (12, fs24)) :: ar19) := by rw [hfs24]; exact hD
  refine lv_aload_n hx hb dX12_init_273 rfl (lv_at hl 0 rfl) ?_
  refine lv_sipush (v := 1040) hx hb dX12_init_274 (by decide) ?_
  refine c_newa (atype := .int) (a0 := (1040, .inl (fun _ => 0))) hx hb (hts _ c_ac_int) rfl (fun _ h => by cases h) hK (t0 := 0) rfl hP hD hS hA (fun _ => rfl) (by decide) (by decide) (Nat.le_of_ble_eq_true rfl) (Nat.le_of_ble_eq_true rfl) (Nat.le_of_ble_eq_true rfl) dX12_init_277 (fun q23 H hP hD hS => ?_)
  obtain ⟨ar20, har20⟩ : ∃ z : va_W, z = ar19 ++ [(q23, .inl (cI, 1040, .inl (fun _ => 0)))] := ⟨_, rfl⟩
  have hP : va_P D vwCl ((h0, .inr (12, fs24)) :: ar20) H := by rw [har20]; exact hP
  have hD : va_D A ((h0, .inr (12, fs24)) :: ar20) := by rw [har20]; exact hD
  refine W.widen (k := 23) (n := 4728) (Nat.le_of_ble_eq_true rfl) (Nat.le_of_ble_eq_true rfl) ?_
  refine va_putF (D := D) (ci := 12) (v := .ref q23) (ty := tyX12 36) (C := RX12) (T := TX12) (N := 66) hx hb hts m_in tyX12 tyX12_ok nmX12 hown hK hP hD hS 0 rfl rfl 36 (by decide) (hts _ m_l36) (fun _ h9 => h9) rfl hin rfl (tyX12_ok 36 (by decide)) rfl rfl (by rw [ln24]; decide) dX12_init_279 (fun H locs hP hD hS => ?_)
  obtain ⟨fs25, hfs25⟩ : ∃ z : List Value, z = fs24.set 36 (.ref q23) := ⟨_, rfl⟩
  have ln25 : fs25.length = 66 := by rw [hfs25, List.length_set]; exact ln24
  have hP : va_P D vwCl ((h0, .inr (12, fs25)) :: ar20) H := by rw [hfs25]; exact hP
  have hD : va_D A ((h0, .inr (12, fs25)) :: ar20) := by rw [hfs25]; exact hD
  refine lv_aload_n hx hb dX12_init_282 rfl (lv_at hl 0 rfl) ?_
  refine lv_iconst (v := (-1)) hx hb dX12_init_283 (by decide) ?_
  refine va_put (D := D) (ci := 12) (v := .int (-1)) (ty := tyX12 41) (C := RX12) (T := TX12) (N := 66) hx hb hts m_in tyX12 tyX12_ok nmX12 hown hK hP hD hS 0 rfl rfl 41 (by decide) (hts _ m_l41) (fun _ h9 => h9) rfl (tyX12_ok 41 (by decide)) rfl rfl (by rw [ln25]; decide) dX12_init_284 (fun H locs hP hD hS => ?_)
  obtain ⟨fs26, hfs26⟩ : ∃ z : List Value, z = fs25.set 41 (.int (-1)) := ⟨_, rfl⟩
  have ln26 : fs26.length = 66 := by rw [hfs26, List.length_set]; exact ln25
  have hP : va_P D vwCl ((h0, .inr (12, fs26)) :: ar20) H := by rw [hfs26]; exact hP
  have hD : va_D A ((h0, .inr (12, fs26)) :: ar20) := by rw [hfs26]; exact hD
  refine lv_aload_n hx hb dX12_init_287 rfl (lv_at hl 0 rfl) ?_
  refine lv_bipush (v := 7) hx hb dX12_init_288 (by decide) ?_
  refine c_newa (atype := .int) (a0 := (7, .inl (fun _ => 0))) hx hb (hts _ c_ac_int) rfl (fun _ h => by cases h) hK (t0 := 0) rfl hP hD hS hA (fun _ => rfl) (by decide) (by decide) (Nat.le_of_ble_eq_true rfl) (Nat.le_of_ble_eq_true rfl) (Nat.le_of_ble_eq_true rfl) dX12_init_290 (fun q24 H hP hD hS => ?_)
  obtain ⟨ar21, har21⟩ : ∃ z : va_W, z = ar20 ++ [(q24, .inl (cI, 7, .inl (fun _ => 0)))] := ⟨_, rfl⟩
  have hP : va_P D vwCl ((h0, .inr (12, fs26)) :: ar21) H := by rw [har21]; exact hP
  have hD : va_D A ((h0, .inr (12, fs26)) :: ar21) := by rw [har21]; exact hD
  refine W.widen (k := 24) (n := 4735) (Nat.le_of_ble_eq_true rfl) (Nat.le_of_ble_eq_true rfl) ?_
  refine va_putF (D := D) (ci := 12) (v := .ref q24) (ty := tyX12 42) (C := RX12) (T := TX12) (N := 66) hx hb hts m_in tyX12 tyX12_ok nmX12 hown hK hP hD hS 0 rfl rfl 42 (by decide) (hts _ m_l42) (fun _ h9 => h9) rfl hin rfl (tyX12_ok 42 (by decide)) rfl rfl (by rw [ln26]; decide) dX12_init_292 (fun H locs hP hD hS => ?_)
  obtain ⟨fs27, hfs27⟩ : ∃ z : List Value, z = fs26.set 42 (.ref q24) := ⟨_, rfl⟩
  have ln27 : fs27.length = 66 := by rw [hfs27, List.length_set]; exact ln26
  have hP : va_P D vwCl ((h0, .inr (12, fs27)) :: ar21) H := by rw [hfs27]; exact hP
  have hD : va_D A ((h0, .inr (12, fs27)) :: ar21) := by rw [hfs27]; exact hD
  refine lv_aload_n hx hb dX12_init_295 rfl (lv_at hl 0 rfl) ?_
  refine lv_bipush (v := 64) hx hb dX12_init_296 (by decide) ?_
  refine c_newa (atype := .int) (a0 := (64, .inl (fun _ => 0))) hx hb (hts _ c_ac_int) rfl (fun _ h => by cases h) hK (t0 := 0) rfl hP hD hS hA (fun _ => rfl) (by decide) (by decide) (Nat.le_of_ble_eq_true rfl) (Nat.le_of_ble_eq_true rfl) (Nat.le_of_ble_eq_true rfl) dX12_init_298 (fun q25 H hP hD hS => ?_)
  obtain ⟨ar22, har22⟩ : ∃ z : va_W, z = ar21 ++ [(q25, .inl (cI, 64, .inl (fun _ => 0)))] := ⟨_, rfl⟩
  have hP : va_P D vwCl ((h0, .inr (12, fs27)) :: ar22) H := by rw [har22]; exact hP
  have hD : va_D A ((h0, .inr (12, fs27)) :: ar22) := by rw [har22]; exact hD
  refine W.widen (k := 25) (n := 4799) (Nat.le_of_ble_eq_true rfl) (Nat.le_of_ble_eq_true rfl) ?_
  refine va_putF (D := D) (ci := 12) (v := .ref q25) (ty := tyX12 43) (C := RX12) (T := TX12) (N := 66) hx hb hts m_in tyX12 tyX12_ok nmX12 hown hK hP hD hS 0 rfl rfl 43 (by decide) (hts _ m_l43) (fun _ h9 => h9) rfl hin rfl (tyX12_ok 43 (by decide)) rfl rfl (by rw [ln27]; decide) dX12_init_300 (fun H locs hP hD hS => ?_)
  obtain ⟨fs28, hfs28⟩ : ∃ z : List Value, z = fs27.set 43 (.ref q25) := ⟨_, rfl⟩
  have ln28 : fs28.length = 66 := by rw [hfs28, List.length_set]; exact ln27
  have hP : va_P D vwCl ((h0, .inr (12, fs28)) :: ar22) H := by rw [hfs28]; exact hP
  have hD : va_D A ((h0, .inr (12, fs28)) :: ar22) := by rw [hfs28]; exact hD
  refine lv_aload_n hx hb dX12_init_303 rfl (lv_at hl 0 rfl) ?_
  refine lv_bipush (v := 26) hx hb dX12_init_304 (by decide) ?_
  refine c_newa (atype := .int) (a0 := (26, .inl (fun _ => 0))) hx hb (hts _ c_ac_int) rfl (fun _ h => by cases h) hK (t0 := 0) rfl hP hD hS hA (fun _ => rfl) (by decide) (by decide) (Nat.le_of_ble_eq_true rfl) (Nat.le_of_ble_eq_true rfl) (Nat.le_of_ble_eq_true rfl) dX12_init_306 (fun q26 H hP hD hS => ?_)
  obtain ⟨ar23, har23⟩ : ∃ z : va_W, z = ar22 ++ [(q26, .inl (cI, 26, .inl (fun _ => 0)))] := ⟨_, rfl⟩
  have hP : va_P D vwCl ((h0, .inr (12, fs28)) :: ar23) H := by rw [har23]; exact hP
  have hD : va_D A ((h0, .inr (12, fs28)) :: ar23) := by rw [har23]; exact hD
  refine W.widen (k := 26) (n := 4825) (Nat.le_of_ble_eq_true rfl) (Nat.le_of_ble_eq_true rfl) ?_
  refine va_putF (D := D) (ci := 12) (v := .ref q26) (ty := tyX12 46) (C := RX12) (T := TX12) (N := 66) hx hb hts m_in tyX12 tyX12_ok nmX12 hown hK hP hD hS 0 rfl rfl 46 (by decide) (hts _ m_l46) (fun _ h9 => h9) rfl hin rfl (tyX12_ok 46 (by decide)) rfl rfl (by rw [ln28]; decide) dX12_init_308 (fun H locs hP hD hS => ?_)
  obtain ⟨fs29, hfs29⟩ : ∃ z : List Value, z = fs28.set 46 (.ref q26) := ⟨_, rfl⟩
  have ln29 : fs29.length = 66 := by rw [hfs29, List.length_set]; exact ln28
  have hP : va_P D vwCl ((h0, .inr (12, fs29)) :: ar23) H := by rw [hfs29]; exact hP
  have hD : va_D A ((h0, .inr (12, fs29)) :: ar23) := by rw [hfs29]; exact hD
  refine lv_aload_n hx hb dX12_init_311 rfl (lv_at hl 0 rfl) ?_
  refine lv_sipush (v := 1792) hx hb dX12_init_312 (by decide) ?_
  refine c_newa (atype := .int) (a0 := (1792, .inl (fun _ => 0))) hx hb (hts _ c_ac_int) rfl (fun _ h => by cases h) hK (t0 := 0) rfl hP hD hS hA (fun _ => rfl) (by decide) (by decide) (Nat.le_of_ble_eq_true rfl) (Nat.le_of_ble_eq_true rfl) (Nat.le_of_ble_eq_true rfl) dX12_init_315 (fun q27 H hP hD hS => ?_)
  obtain ⟨ar24, har24⟩ : ∃ z : va_W, z = ar23 ++ [(q27, .inl (cI, 1792, .inl (fun _ => 0)))] := ⟨_, rfl⟩
  have hP : va_P D vwCl ((h0, .inr (12, fs29)) :: ar24) H := by rw [har24]; exact hP
  have hD : va_D A ((h0, .inr (12, fs29)) :: ar24) := by rw [har24]; exact hD
  refine W.widen (k := 27) (n := 6617) (Nat.le_of_ble_eq_true rfl) (Nat.le_of_ble_eq_true rfl) ?_
  refine va_putF (D := D) (ci := 12) (v := .ref q27) (ty := tyX12 47) (C := RX12) (T := TX12) (N := 66) hx hb hts m_in tyX12 tyX12_ok nmX12 hown hK hP hD hS 0 rfl rfl 47 (by decide) (hts _ m_l47) (fun _ h9 => h9) rfl hin rfl (tyX12_ok 47 (by decide)) rfl rfl (by rw [ln29]; decide) dX12_init_317 (fun H locs hP hD hS => ?_)
  obtain ⟨fs30, hfs30⟩ : ∃ z : List Value, z = fs29.set 47 (.ref q27) := ⟨_, rfl⟩
  have ln30 : fs30.length = 66 := by rw [hfs30, List.length_set]; exact ln29
  have hP : va_P D vwCl ((h0, .inr (12, fs30)) :: ar24) H := by rw [hfs30]; exact hP
  have hD : va_D A ((h0, .inr (12, fs30)) :: ar24) := by rw [hfs30]; exact hD
  refine lv_aload_n hx hb dX12_init_320 rfl (lv_at hl 0 rfl) ?_
  refine lv_bipush (v := 8) hx hb dX12_init_321 (by decide) ?_
  refine c_newa (atype := .int) (a0 := (8, .inl (fun _ => 0))) hx hb (hts _ c_ac_int) rfl (fun _ h => by cases h) hK (t0 := 0) rfl hP hD hS hA (fun _ => rfl) (by decide) (by decide) (Nat.le_of_ble_eq_true rfl) (Nat.le_of_ble_eq_true rfl) (Nat.le_of_ble_eq_true rfl) dX12_init_323 (fun q28 H hP hD hS => ?_)
  obtain ⟨ar25, har25⟩ : ∃ z : va_W, z = ar24 ++ [(q28, .inl (cI, 8, .inl (fun _ => 0)))] := ⟨_, rfl⟩
  have hP : va_P D vwCl ((h0, .inr (12, fs30)) :: ar25) H := by rw [har25]; exact hP
  have hD : va_D A ((h0, .inr (12, fs30)) :: ar25) := by rw [har25]; exact hD
  refine W.widen (k := 28) (n := 6625) (Nat.le_of_ble_eq_true rfl) (Nat.le_of_ble_eq_true rfl) ?_
  refine va_putF (D := D) (ci := 12) (v := .ref q28) (ty := tyX12 48) (C := RX12) (T := TX12) (N := 66) hx hb hts m_in tyX12 tyX12_ok nmX12 hown hK hP hD hS 0 rfl rfl 48 (by decide) (hts _ m_l48) (fun _ h9 => h9) rfl hin rfl (tyX12_ok 48 (by decide)) rfl rfl (by rw [ln30]; decide) dX12_init_325 (fun H locs hP hD hS => ?_)
  obtain ⟨fs31, hfs31⟩ : ∃ z : List Value, z = fs30.set 48 (.ref q28) := ⟨_, rfl⟩
  have ln31 : fs31.length = 66 := by rw [hfs31, List.length_set]; exact ln30
  have hP : va_P D vwCl ((h0, .inr (12, fs31)) :: ar25) H := by rw [hfs31]; exact hP
  have hD : va_D A ((h0, .inr (12, fs31)) :: ar25) := by rw [hfs31]; exact hD
  refine lv_aload_n hx hb dX12_init_328 rfl (lv_at hl 0 rfl) ?_
  refine lv_bipush (v := 8) hx hb dX12_init_329 (by decide) ?_
  refine c_newa (atype := .int) (a0 := (8, .inl (fun _ => 0))) hx hb (hts _ c_ac_int) rfl (fun _ h => by cases h) hK (t0 := 0) rfl hP hD hS hA (fun _ => rfl) (by decide) (by decide) (Nat.le_of_ble_eq_true rfl) (Nat.le_of_ble_eq_true rfl) (Nat.le_of_ble_eq_true rfl) dX12_init_331 (fun q29 H hP hD hS => ?_)
  obtain ⟨ar26, har26⟩ : ∃ z : va_W, z = ar25 ++ [(q29, .inl (cI, 8, .inl (fun _ => 0)))] := ⟨_, rfl⟩
  have hP : va_P D vwCl ((h0, .inr (12, fs31)) :: ar26) H := by rw [har26]; exact hP
  have hD : va_D A ((h0, .inr (12, fs31)) :: ar26) := by rw [har26]; exact hD
  refine W.widen (k := 29) (n := 6633) (Nat.le_of_ble_eq_true rfl) (Nat.le_of_ble_eq_true rfl) ?_
  refine va_putF (D := D) (ci := 12) (v := .ref q29) (ty := tyX12 49) (C := RX12) (T := TX12) (N := 66) hx hb hts m_in tyX12 tyX12_ok nmX12 hown hK hP hD hS 0 rfl rfl 49 (by decide) (hts _ m_l49) (fun _ h9 => h9) rfl hin rfl (tyX12_ok 49 (by decide)) rfl rfl (by rw [ln31]; decide) dX12_init_333 (fun H locs hP hD hS => ?_)
  obtain ⟨fs32, hfs32⟩ : ∃ z : List Value, z = fs31.set 49 (.ref q29) := ⟨_, rfl⟩
  have ln32 : fs32.length = 66 := by rw [hfs32, List.length_set]; exact ln31
  have hP : va_P D vwCl ((h0, .inr (12, fs32)) :: ar26) H := by rw [hfs32]; exact hP
  have hD : va_D A ((h0, .inr (12, fs32)) :: ar26) := by rw [hfs32]; exact hD
  refine lv_aload_n hx hb dX12_init_336 rfl (lv_at hl 0 rfl) ?_
  refine lv_bipush (v := 8) hx hb dX12_init_337 (by decide) ?_
  refine c_newa (atype := .int) (a0 := (8, .inl (fun _ => 0))) hx hb (hts _ c_ac_int) rfl (fun _ h => by cases h) hK (t0 := 0) rfl hP hD hS hA (fun _ => rfl) (by decide) (by decide) (Nat.le_of_ble_eq_true rfl) (Nat.le_of_ble_eq_true rfl) (Nat.le_of_ble_eq_true rfl) dX12_init_339 (fun q30 H hP hD hS => ?_)
  obtain ⟨ar27, har27⟩ : ∃ z : va_W, z = ar26 ++ [(q30, .inl (cI, 8, .inl (fun _ => 0)))] := ⟨_, rfl⟩
  have hP : va_P D vwCl ((h0, .inr (12, fs32)) :: ar27) H := by rw [har27]; exact hP
  have hD : va_D A ((h0, .inr (12, fs32)) :: ar27) := by rw [har27]; exact hD
  refine W.widen (k := 30) (n := 6641) (Nat.le_of_ble_eq_true rfl) (Nat.le_of_ble_eq_true rfl) ?_
  refine va_putF (D := D) (ci := 12) (v := .ref q30) (ty := tyX12 50) (C := RX12) (T := TX12) (N := 66) hx hb hts m_in tyX12 tyX12_ok nmX12 hown hK hP hD hS 0 rfl rfl 50 (by decide) (hts _ m_l50) (fun _ h9 => h9) rfl hin rfl (tyX12_ok 50 (by decide)) rfl rfl (by rw [ln32]; decide) dX12_init_341 (fun H locs hP hD hS => ?_)
  obtain ⟨fs33, hfs33⟩ : ∃ z : List Value, z = fs32.set 50 (.ref q30) := ⟨_, rfl⟩
  have ln33 : fs33.length = 66 := by rw [hfs33, List.length_set]; exact ln32
  have hP : va_P D vwCl ((h0, .inr (12, fs33)) :: ar27) H := by rw [hfs33]; exact hP
  have hD : va_D A ((h0, .inr (12, fs33)) :: ar27) := by rw [hfs33]; exact hD
  refine lv_aload_n hx hb dX12_init_344 rfl (lv_at hl 0 rfl) ?_
  refine lv_bipush (v := 26) hx hb dX12_init_345 (by decide) ?_
  refine c_newa (atype := .int) (a0 := (26, .inl (fun _ => 0))) hx hb (hts _ c_ac_int) rfl (fun _ h => by cases h) hK (t0 := 0) rfl hP hD hS hA (fun _ => rfl) (by decide) (by decide) (Nat.le_of_ble_eq_true rfl) (Nat.le_of_ble_eq_true rfl) (Nat.le_of_ble_eq_true rfl) dX12_init_347 (fun q31 H hP hD hS => ?_)
  obtain ⟨ar28, har28⟩ : ∃ z : va_W, z = ar27 ++ [(q31, .inl (cI, 26, .inl (fun _ => 0)))] := ⟨_, rfl⟩
  have hP : va_P D vwCl ((h0, .inr (12, fs33)) :: ar28) H := by rw [har28]; exact hP
  have hD : va_D A ((h0, .inr (12, fs33)) :: ar28) := by rw [har28]; exact hD
  refine W.widen (k := 31) (n := 6667) (Nat.le_of_ble_eq_true rfl) (Nat.le_of_ble_eq_true rfl) ?_
  refine va_putF (D := D) (ci := 12) (v := .ref q31) (ty := tyX12 51) (C := RX12) (T := TX12) (N := 66) hx hb hts m_in tyX12 tyX12_ok nmX12 hown hK hP hD hS 0 rfl rfl 51 (by decide) (hts _ m_l51) (fun _ h9 => h9) rfl hin rfl (tyX12_ok 51 (by decide)) rfl rfl (by rw [ln33]; decide) dX12_init_349 (fun H locs hP hD hS => ?_)
  obtain ⟨fs34, hfs34⟩ : ∃ z : List Value, z = fs33.set 51 (.ref q31) := ⟨_, rfl⟩
  have ln34 : fs34.length = 66 := by rw [hfs34, List.length_set]; exact ln33
  have hP : va_P D vwCl ((h0, .inr (12, fs34)) :: ar28) H := by rw [hfs34]; exact hP
  have hD : va_D A ((h0, .inr (12, fs34)) :: ar28) := by rw [hfs34]; exact hD
  refine lv_aload_n hx hb dX12_init_352 rfl (lv_at hl 0 rfl) ?_
  refine lv_bipush (v := 60) hx hb dX12_init_353 (by decide) ?_
  refine c_newa (atype := .int) (a0 := (60, .inl (fun _ => 0))) hx hb (hts _ c_ac_int) rfl (fun _ h => by cases h) hK (t0 := 0) rfl hP hD hS hA (fun _ => rfl) (by decide) (by decide) (Nat.le_of_ble_eq_true rfl) (Nat.le_of_ble_eq_true rfl) (Nat.le_of_ble_eq_true rfl) dX12_init_355 (fun q32 H hP hD hS => ?_)
  obtain ⟨ar29, har29⟩ : ∃ z : va_W, z = ar28 ++ [(q32, .inl (cI, 60, .inl (fun _ => 0)))] := ⟨_, rfl⟩
  have hP : va_P D vwCl ((h0, .inr (12, fs34)) :: ar29) H := by rw [har29]; exact hP
  have hD : va_D A ((h0, .inr (12, fs34)) :: ar29) := by rw [har29]; exact hD
  refine W.widen (k := 32) (n := 6727) (Nat.le_of_ble_eq_true rfl) (Nat.le_of_ble_eq_true rfl) ?_
  refine va_putF (D := D) (ci := 12) (v := .ref q32) (ty := tyX12 52) (C := RX12) (T := TX12) (N := 66) hx hb hts m_in tyX12 tyX12_ok nmX12 hown hK hP hD hS 0 rfl rfl 52 (by decide) (hts _ m_l52) (fun _ h9 => h9) rfl hin rfl (tyX12_ok 52 (by decide)) rfl rfl (by rw [ln34]; decide) dX12_init_357 (fun H locs hP hD hS => ?_)
  obtain ⟨fs35, hfs35⟩ : ∃ z : List Value, z = fs34.set 52 (.ref q32) := ⟨_, rfl⟩
  have ln35 : fs35.length = 66 := by rw [hfs35, List.length_set]; exact ln34
  have hP : va_P D vwCl ((h0, .inr (12, fs35)) :: ar29) H := by rw [hfs35]; exact hP
  have hD : va_D A ((h0, .inr (12, fs35)) :: ar29) := by rw [hfs35]; exact hD
  refine lv_aload_n hx hb dX12_init_360 rfl (lv_at hl 0 rfl) ?_
  refine lv_sipush (v := 1200) hx hb dX12_init_361 (by decide) ?_
  refine c_newa (atype := .int) (a0 := (1200, .inl (fun _ => 0))) hx hb (hts _ c_ac_int) rfl (fun _ h => by cases h) hK (t0 := 0) rfl hP hD hS hA (fun _ => rfl) (by decide) (by decide) (Nat.le_of_ble_eq_true rfl) (Nat.le_of_ble_eq_true rfl) (Nat.le_of_ble_eq_true rfl) dX12_init_364 (fun q33 H hP hD hS => ?_)
  obtain ⟨ar30, har30⟩ : ∃ z : va_W, z = ar29 ++ [(q33, .inl (cI, 1200, .inl (fun _ => 0)))] := ⟨_, rfl⟩
  have hP : va_P D vwCl ((h0, .inr (12, fs35)) :: ar30) H := by rw [har30]; exact hP
  have hD : va_D A ((h0, .inr (12, fs35)) :: ar30) := by rw [har30]; exact hD
  refine W.widen (k := 33) (n := 7927) (Nat.le_of_ble_eq_true rfl) (Nat.le_of_ble_eq_true rfl) ?_
  refine va_putF (D := D) (ci := 12) (v := .ref q33) (ty := tyX12 53) (C := RX12) (T := TX12) (N := 66) hx hb hts m_in tyX12 tyX12_ok nmX12 hown hK hP hD hS 0 rfl rfl 53 (by decide) (hts _ m_l53) (fun _ h9 => h9) rfl hin rfl (tyX12_ok 53 (by decide)) rfl rfl (by rw [ln35]; decide) dX12_init_366 (fun H locs hP hD hS => ?_)
  obtain ⟨fs36, hfs36⟩ : ∃ z : List Value, z = fs35.set 53 (.ref q33) := ⟨_, rfl⟩
  have ln36 : fs36.length = 66 := by rw [hfs36, List.length_set]; exact ln35
  have hP : va_P D vwCl ((h0, .inr (12, fs36)) :: ar30) H := by rw [hfs36]; exact hP
  have hD : va_D A ((h0, .inr (12, fs36)) :: ar30) := by rw [hfs36]; exact hD
  refine lv_aload_n hx hb dX12_init_369 rfl (lv_at hl 0 rfl) ?_
  refine lv_bipush (v := 8) hx hb dX12_init_370 (by decide) ?_
  refine c_newa (atype := .int) (a0 := (8, .inl (fun _ => 0))) hx hb (hts _ c_ac_int) rfl (fun _ h => by cases h) hK (t0 := 0) rfl hP hD hS hA (fun _ => rfl) (by decide) (by decide) (Nat.le_of_ble_eq_true rfl) (Nat.le_of_ble_eq_true rfl) (Nat.le_of_ble_eq_true rfl) dX12_init_372 (fun q34 H hP hD hS => ?_)
  obtain ⟨ar31, har31⟩ : ∃ z : va_W, z = ar30 ++ [(q34, .inl (cI, 8, .inl (fun _ => 0)))] := ⟨_, rfl⟩
  have hP : va_P D vwCl ((h0, .inr (12, fs36)) :: ar31) H := by rw [har31]; exact hP
  have hD : va_D A ((h0, .inr (12, fs36)) :: ar31) := by rw [har31]; exact hD
  refine W.widen (k := 34) (n := 7935) (Nat.le_of_ble_eq_true rfl) (Nat.le_of_ble_eq_true rfl) ?_
  refine va_putF (D := D) (ci := 12) (v := .ref q34) (ty := tyX12 55) (C := RX12) (T := TX12) (N := 66) hx hb hts m_in tyX12 tyX12_ok nmX12 hown hK hP hD hS 0 rfl rfl 55 (by decide) (hts _ m_l55) (fun _ h9 => h9) rfl hin rfl (tyX12_ok 55 (by decide)) rfl rfl (by rw [ln36]; decide) dX12_init_374 (fun H locs hP hD hS => ?_)
  obtain ⟨fs37, hfs37⟩ : ∃ z : List Value, z = fs36.set 55 (.ref q34) := ⟨_, rfl⟩
  have ln37 : fs37.length = 66 := by rw [hfs37, List.length_set]; exact ln36
  have hP : va_P D vwCl ((h0, .inr (12, fs37)) :: ar31) H := by rw [hfs37]; exact hP
  have hD : va_D A ((h0, .inr (12, fs37)) :: ar31) := by rw [hfs37]; exact hD
  refine lv_aload_n hx hb dX12_init_377 rfl (lv_at hl 0 rfl) ?_
  refine lv_bipush (v := 26) hx hb dX12_init_378 (by decide) ?_
  refine c_newa (atype := .int) (a0 := (26, .inl (fun _ => 0))) hx hb (hts _ c_ac_int) rfl (fun _ h => by cases h) hK (t0 := 0) rfl hP hD hS hA (fun _ => rfl) (by decide) (by decide) (Nat.le_of_ble_eq_true rfl) (Nat.le_of_ble_eq_true rfl) (Nat.le_of_ble_eq_true rfl) dX12_init_380 (fun q35 H hP hD hS => ?_)
  obtain ⟨ar32, har32⟩ : ∃ z : va_W, z = ar31 ++ [(q35, .inl (cI, 26, .inl (fun _ => 0)))] := ⟨_, rfl⟩
  have hP : va_P D vwCl ((h0, .inr (12, fs37)) :: ar32) H := by rw [har32]; exact hP
  have hD : va_D A ((h0, .inr (12, fs37)) :: ar32) := by rw [har32]; exact hD
  refine W.widen (k := 35) (n := 7961) (Nat.le_of_ble_eq_true rfl) (Nat.le_of_ble_eq_true rfl) ?_
  refine va_putF (D := D) (ci := 12) (v := .ref q35) (ty := tyX12 60) (C := RX12) (T := TX12) (N := 66) hx hb hts m_in tyX12 tyX12_ok nmX12 hown hK hP hD hS 0 rfl rfl 60 (by decide) (hts _ m_l60) (fun _ h9 => h9) rfl hin rfl (tyX12_ok 60 (by decide)) rfl rfl (by rw [ln37]; decide) dX12_init_382 (fun H locs hP hD hS => ?_)
  obtain ⟨fs38, hfs38⟩ : ∃ z : List Value, z = fs37.set 60 (.ref q35) := ⟨_, rfl⟩
  have ln38 : fs38.length = 66 := by rw [hfs38, List.length_set]; exact ln37
  have hP : va_P D vwCl ((h0, .inr (12, fs38)) :: ar32) H := by rw [hfs38]; exact hP
  have hD : va_D A ((h0, .inr (12, fs38)) :: ar32) := by rw [hfs38]; exact hD
  refine lv_aload_n hx hb dX12_init_385 rfl (lv_at hl 0 rfl) ?_
  refine lv_sipush (v := 1040) hx hb dX12_init_386 (by decide) ?_
  refine c_newa (atype := .int) (a0 := (1040, .inl (fun _ => 0))) hx hb (hts _ c_ac_int) rfl (fun _ h => by cases h) hK (t0 := 0) rfl hP hD hS hA (fun _ => rfl) (by decide) (by decide) (Nat.le_of_ble_eq_true rfl) (Nat.le_of_ble_eq_true rfl) (Nat.le_of_ble_eq_true rfl) dX12_init_389 (fun q36 H hP hD hS => ?_)
  obtain ⟨ar33, har33⟩ : ∃ z : va_W, z = ar32 ++ [(q36, .inl (cI, 1040, .inl (fun _ => 0)))] := ⟨_, rfl⟩
  have hP : va_P D vwCl ((h0, .inr (12, fs38)) :: ar33) H := by rw [har33]; exact hP
  have hD : va_D A ((h0, .inr (12, fs38)) :: ar33) := by rw [har33]; exact hD
  refine W.widen (k := 36) (n := 9001) (Nat.le_of_ble_eq_true rfl) (Nat.le_of_ble_eq_true rfl) ?_
  refine va_putF (D := D) (ci := 12) (v := .ref q36) (ty := tyX12 61) (C := RX12) (T := TX12) (N := 66) hx hb hts m_in tyX12 tyX12_ok nmX12 hown hK hP hD hS 0 rfl rfl 61 (by decide) (hts _ m_l61) (fun _ h9 => h9) rfl hin rfl (tyX12_ok 61 (by decide)) rfl rfl (by rw [ln38]; decide) dX12_init_391 (fun H locs hP hD hS => ?_)
  obtain ⟨fs39, hfs39⟩ : ∃ z : List Value, z = fs38.set 61 (.ref q36) := ⟨_, rfl⟩
  have ln39 : fs39.length = 66 := by rw [hfs39, List.length_set]; exact ln38
  have hP : va_P D vwCl ((h0, .inr (12, fs39)) :: ar33) H := by rw [hfs39]; exact hP
  have hD : va_D A ((h0, .inr (12, fs39)) :: ar33) := by rw [hfs39]; exact hD
  refine lv_aload_n hx hb dX12_init_394 rfl (lv_at hl 0 rfl) ?_
  refine lv_bipush (v := 8) hx hb dX12_init_395 (by decide) ?_
  refine c_newa (atype := .int) (a0 := (8, .inl (fun _ => 0))) hx hb (hts _ c_ac_int) rfl (fun _ h => by cases h) hK (t0 := 0) rfl hP hD hS hA (fun _ => rfl) (by decide) (by decide) (Nat.le_of_ble_eq_true rfl) (Nat.le_of_ble_eq_true rfl) (Nat.le_of_ble_eq_true rfl) dX12_init_397 (fun q37 H hP hD hS => ?_)
  obtain ⟨ar34, har34⟩ : ∃ z : va_W, z = ar33 ++ [(q37, .inl (cI, 8, .inl (fun _ => 0)))] := ⟨_, rfl⟩
  have hP : va_P D vwCl ((h0, .inr (12, fs39)) :: ar34) H := by rw [har34]; exact hP
  have hD : va_D A ((h0, .inr (12, fs39)) :: ar34) := by rw [har34]; exact hD
  refine W.widen (k := 37) (n := 9009) (Nat.le_of_ble_eq_true rfl) (Nat.le_of_ble_eq_true rfl) ?_
  refine va_putF (D := D) (ci := 12) (v := .ref q37) (ty := tyX12 62) (C := RX12) (T := TX12) (N := 66) hx hb hts m_in tyX12 tyX12_ok nmX12 hown hK hP hD hS 0 rfl rfl 62 (by decide) (hts _ m_l62) (fun _ h9 => h9) rfl hin rfl (tyX12_ok 62 (by decide)) rfl rfl (by rw [ln39]; decide) dX12_init_399 (fun H locs hP hD hS => ?_)
  obtain ⟨fs40, hfs40⟩ : ∃ z : List Value, z = fs39.set 62 (.ref q37) := ⟨_, rfl⟩
  have ln40 : fs40.length = 66 := by rw [hfs40, List.length_set]; exact ln39
  have hP : va_P D vwCl ((h0, .inr (12, fs40)) :: ar34) H := by rw [hfs40]; exact hP
  have hD : va_D A ((h0, .inr (12, fs40)) :: ar34) := by rw [hfs40]; exact hD
  refine lv_aload_n hx hb dX12_init_402 rfl (lv_at hl 0 rfl) ?_
  refine lv_bipush (v := 8) hx hb dX12_init_403 (by decide) ?_
  refine c_newa (atype := .int) (a0 := (8, .inl (fun _ => 0))) hx hb (hts _ c_ac_int) rfl (fun _ h => by cases h) hK (t0 := 0) rfl hP hD hS hA (fun _ => rfl) (by decide) (by decide) (Nat.le_of_ble_eq_true rfl) (Nat.le_of_ble_eq_true rfl) (Nat.le_of_ble_eq_true rfl) dX12_init_405 (fun q38 H hP hD hS => ?_)
  obtain ⟨ar35, har35⟩ : ∃ z : va_W, z = ar34 ++ [(q38, .inl (cI, 8, .inl (fun _ => 0)))] := ⟨_, rfl⟩
  have hP : va_P D vwCl ((h0, .inr (12, fs40)) :: ar35) H := by rw [har35]; exact hP
  have hD : va_D A ((h0, .inr (12, fs40)) :: ar35) := by rw [har35]; exact hD
  refine W.widen (k := 38) (n := 9017) (Nat.le_of_ble_eq_true rfl) (Nat.le_of_ble_eq_true rfl) ?_
  refine va_putF (D := D) (ci := 12) (v := .ref q38) (ty := tyX12 63) (C := RX12) (T := TX12) (N := 66) hx hb hts m_in tyX12 tyX12_ok nmX12 hown hK hP hD hS 0 rfl rfl 63 (by decide) (hts _ m_l63) (fun _ h9 => h9) rfl hin rfl (tyX12_ok 63 (by decide)) rfl rfl (by rw [ln40]; decide) dX12_init_407 (fun H locs hP hD hS => ?_)
  obtain ⟨fs41, hfs41⟩ : ∃ z : List Value, z = fs40.set 63 (.ref q38) := ⟨_, rfl⟩
  have ln41 : fs41.length = 66 := by rw [hfs41, List.length_set]; exact ln40
  have hP : va_P D vwCl ((h0, .inr (12, fs41)) :: ar35) H := by rw [hfs41]; exact hP
  have hD : va_D A ((h0, .inr (12, fs41)) :: ar35) := by rw [hfs41]; exact hD
  refine lv_aload_n hx hb dX12_init_410 rfl (lv_at hl 0 rfl) ?_
  refine lv_bipush (v := 8) hx hb dX12_init_411 (by decide) ?_
  refine c_newa (atype := .int) (a0 := (8, .inl (fun _ => 0))) hx hb (hts _ c_ac_int) rfl (fun _ h => by cases h) hK (t0 := 0) rfl hP hD hS hA (fun _ => rfl) (by decide) (by decide) (Nat.le_of_ble_eq_true rfl) (Nat.le_of_ble_eq_true rfl) (Nat.le_of_ble_eq_true rfl) dX12_init_413 (fun q39 H hP hD hS => ?_)
  obtain ⟨ar36, har36⟩ : ∃ z : va_W, z = ar35 ++ [(q39, .inl (cI, 8, .inl (fun _ => 0)))] := ⟨_, rfl⟩
  have hP : va_P D vwCl ((h0, .inr (12, fs41)) :: ar36) H := by rw [har36]; exact hP
  have hD : va_D A ((h0, .inr (12, fs41)) :: ar36) := by rw [har36]; exact hD
  refine W.widen (k := 39) (n := 9025) (Nat.le_of_ble_eq_true rfl) (Nat.le_of_ble_eq_true rfl) ?_
  refine va_putF (D := D) (ci := 12) (v := .ref q39) (ty := tyX12 64) (C := RX12) (T := TX12) (N := 66) hx hb hts m_in tyX12 tyX12_ok nmX12 hown hK hP hD hS 0 rfl rfl 64 (by decide) (hts _ m_l64) (fun _ h9 => h9) rfl hin rfl (tyX12_ok 64 (by decide)) rfl rfl (by rw [ln41]; decide) dX12_init_415 (fun H locs hP hD hS => ?_)
  obtain ⟨fs42, hfs42⟩ : ∃ z : List Value, z = fs41.set 64 (.ref q39) := ⟨_, rfl⟩
  have ln42 : fs42.length = 66 := by rw [hfs42, List.length_set]; exact ln41
  have hP : va_P D vwCl ((h0, .inr (12, fs42)) :: ar36) H := by rw [hfs42]; exact hP
  have hD : va_D A ((h0, .inr (12, fs42)) :: ar36) := by rw [hfs42]; exact hD
  refine lv_aload_n hx hb dX12_init_418 rfl (lv_at hl 0 rfl) ?_
  refine lv_iconst (v := 3) hx hb dX12_init_419 (by decide) ?_
  refine c_newa (atype := .int) (a0 := (3, .inl (fun _ => 0))) hx hb (hts _ c_ac_int) rfl (fun _ h => by cases h) hK (t0 := 0) rfl hP hD hS hA (fun _ => rfl) (by decide) (by decide) (Nat.le_of_ble_eq_true rfl) (Nat.le_of_ble_eq_true rfl) (Nat.le_of_ble_eq_true rfl) dX12_init_420 (fun q40 H hP hD hS => ?_)
  obtain ⟨ar37, har37⟩ : ∃ z : va_W, z = ar36 ++ [(q40, .inl (cI, 3, .inl (fun _ => 0)))] := ⟨_, rfl⟩
  have hP : va_P D vwCl ((h0, .inr (12, fs42)) :: ar37) H := by rw [har37]; exact hP
  have hD : va_D A ((h0, .inr (12, fs42)) :: ar37) := by rw [har37]; exact hD
  refine W.widen (k := 40) (n := 9028) (Nat.le_of_ble_eq_true rfl) (Nat.le_of_ble_eq_true rfl) ?_
  refine va_putF (D := D) (ci := 12) (v := .ref q40) (ty := tyX12 65) (C := RX12) (T := TX12) (N := 66) hx hb hts m_in tyX12 tyX12_ok nmX12 hown hK hP hD hS 0 rfl rfl 65 (by decide) (hts _ m_l65) (fun _ h9 => h9) rfl hin rfl (tyX12_ok 65 (by decide)) rfl rfl (by rw [ln42]; decide) dX12_init_422 (fun H locs hP hD hS => ?_)
  obtain ⟨fs43, hfs43⟩ : ∃ z : List Value, z = fs42.set 65 (.ref q40) := ⟨_, rfl⟩
  have ln43 : fs43.length = 66 := by rw [hfs43, List.length_set]; exact ln42
  have hP : va_P D vwCl ((h0, .inr (12, fs43)) :: ar37) H := by rw [hfs43]; exact hP
  have hD : va_D A ((h0, .inr (12, fs43)) :: ar37) := by rw [hfs43]; exact hD
  refine lv_aload_n hx hb dX12_init_425 rfl (lv_at hl 0 rfl) ?_
  have ef4 : fs4 = [.ref q1, .ref q2, .ref q3, .ref q2, .int 0, .null, .null, .null, .null, .null, .null, .null, .null, .null, .null, .null, .null, .null, .null, .null, .int 0, .int 0, .int 0, .int 0, .int 0, .int 0, .int 0, .int 0, .int 0, .int 0, .int 0, .int 0, .null, .null, .null, .null, .null, .int 0, .int 0, .int 0, .int 0, .int 0, .null, .null, .int 0, .int 0, .null, .null, .null, .null, .null, .null, .null, .null, .int 0, .null, .int 0, .int 0, .int 0, .int 0, .null, .null, .null, .null, .null, .null] := by rw [hfs4, ef3]; rfl
  have ef5 : fs5 = [.ref q1, .ref q2, .ref q3, .ref q2, .int 0, .ref q4, .null, .null, .null, .null, .null, .null, .null, .null, .null, .null, .null, .null, .null, .null, .int 0, .int 0, .int 0, .int 0, .int 0, .int 0, .int 0, .int 0, .int 0, .int 0, .int 0, .int 0, .null, .null, .null, .null, .null, .int 0, .int 0, .int 0, .int 0, .int 0, .null, .null, .int 0, .int 0, .null, .null, .null, .null, .null, .null, .null, .null, .int 0, .null, .int 0, .int 0, .int 0, .int 0, .null, .null, .null, .null, .null, .null] := by rw [hfs5, ef4]; rfl
  have ef6 : fs6 = [.ref q1, .ref q2, .ref q3, .ref q2, .int 0, .ref q4, .ref q5, .null, .null, .null, .null, .null, .null, .null, .null, .null, .null, .null, .null, .null, .int 0, .int 0, .int 0, .int 0, .int 0, .int 0, .int 0, .int 0, .int 0, .int 0, .int 0, .int 0, .null, .null, .null, .null, .null, .int 0, .int 0, .int 0, .int 0, .int 0, .null, .null, .int 0, .int 0, .null, .null, .null, .null, .null, .null, .null, .null, .int 0, .null, .int 0, .int 0, .int 0, .int 0, .null, .null, .null, .null, .null, .null] := by rw [hfs6, ef5]; rfl
  have ef7 : fs7 = [.ref q1, .ref q2, .ref q3, .ref q2, .int 0, .ref q4, .ref q5, .ref q6, .null, .null, .null, .null, .null, .null, .null, .null, .null, .null, .null, .null, .int 0, .int 0, .int 0, .int 0, .int 0, .int 0, .int 0, .int 0, .int 0, .int 0, .int 0, .int 0, .null, .null, .null, .null, .null, .int 0, .int 0, .int 0, .int 0, .int 0, .null, .null, .int 0, .int 0, .null, .null, .null, .null, .null, .null, .null, .null, .int 0, .null, .int 0, .int 0, .int 0, .int 0, .null, .null, .null, .null, .null, .null] := by rw [hfs7, ef6]; rfl
  have ef8 : fs8 = [.ref q1, .ref q2, .ref q3, .ref q2, .int 0, .ref q4, .ref q5, .ref q6, .ref q7, .null, .null, .null, .null, .null, .null, .null, .null, .null, .null, .null, .int 0, .int 0, .int 0, .int 0, .int 0, .int 0, .int 0, .int 0, .int 0, .int 0, .int 0, .int 0, .null, .null, .null, .null, .null, .int 0, .int 0, .int 0, .int 0, .int 0, .null, .null, .int 0, .int 0, .null, .null, .null, .null, .null, .null, .null, .null, .int 0, .null, .int 0, .int 0, .int 0, .int 0, .null, .null, .null, .null, .null, .null] := by rw [hfs8, ef7]; rfl
  have ef9 : fs9 = [.ref q1, .ref q2, .ref q3, .ref q2, .int 0, .ref q4, .ref q5, .ref q6, .ref q7, .ref q8, .null, .null, .null, .null, .null, .null, .null, .null, .null, .null, .int 0, .int 0, .int 0, .int 0, .int 0, .int 0, .int 0, .int 0, .int 0, .int 0, .int 0, .int 0, .null, .null, .null, .null, .null, .int 0, .int 0, .int 0, .int 0, .int 0, .null, .null, .int 0, .int 0, .null, .null, .null, .null, .null, .null, .null, .null, .int 0, .null, .int 0, .int 0, .int 0, .int 0, .null, .null, .null, .null, .null, .null] := by rw [hfs9, ef8]; rfl
  have ef10 : fs10 = [.ref q1, .ref q2, .ref q3, .ref q2, .int 0, .ref q4, .ref q5, .ref q6, .ref q7, .ref q8, .ref q9, .null, .null, .null, .null, .null, .null, .null, .null, .null, .int 0, .int 0, .int 0, .int 0, .int 0, .int 0, .int 0, .int 0, .int 0, .int 0, .int 0, .int 0, .null, .null, .null, .null, .null, .int 0, .int 0, .int 0, .int 0, .int 0, .null, .null, .int 0, .int 0, .null, .null, .null, .null, .null, .null, .null, .null, .int 0, .null, .int 0, .int 0, .int 0, .int 0, .null, .null, .null, .null, .null, .null] := by rw [hfs10, ef9]; rfl
  have ef11 : fs11 = [.ref q1, .ref q2, .ref q3, .ref q2, .int 0, .ref q4, .ref q5, .ref q6, .ref q7, .ref q8, .ref q9, .ref q10, .null, .null, .null, .null, .null, .null, .null, .null, .int 0, .int 0, .int 0, .int 0, .int 0, .int 0, .int 0, .int 0, .int 0, .int 0, .int 0, .int 0, .null, .null, .null, .null, .null, .int 0, .int 0, .int 0, .int 0, .int 0, .null, .null, .int 0, .int 0, .null, .null, .null, .null, .null, .null, .null, .null, .int 0, .null, .int 0, .int 0, .int 0, .int 0, .null, .null, .null, .null, .null, .null] := by rw [hfs11, ef10]; rfl
  have ef12 : fs12 = [.ref q1, .ref q2, .ref q3, .ref q2, .int 0, .ref q4, .ref q5, .ref q6, .ref q7, .ref q8, .ref q9, .ref q10, .ref q11, .null, .null, .null, .null, .null, .null, .null, .int 0, .int 0, .int 0, .int 0, .int 0, .int 0, .int 0, .int 0, .int 0, .int 0, .int 0, .int 0, .null, .null, .null, .null, .null, .int 0, .int 0, .int 0, .int 0, .int 0, .null, .null, .int 0, .int 0, .null, .null, .null, .null, .null, .null, .null, .null, .int 0, .null, .int 0, .int 0, .int 0, .int 0, .null, .null, .null, .null, .null, .null] := by rw [hfs12, ef11]; rfl
  have ef13 : fs13 = [.ref q1, .ref q2, .ref q3, .ref q2, .int 0, .ref q4, .ref q5, .ref q6, .ref q7, .ref q8, .ref q9, .ref q10, .ref q11, .ref q12, .null, .null, .null, .null, .null, .null, .int 0, .int 0, .int 0, .int 0, .int 0, .int 0, .int 0, .int 0, .int 0, .int 0, .int 0, .int 0, .null, .null, .null, .null, .null, .int 0, .int 0, .int 0, .int 0, .int 0, .null, .null, .int 0, .int 0, .null, .null, .null, .null, .null, .null, .null, .null, .int 0, .null, .int 0, .int 0, .int 0, .int 0, .null, .null, .null, .null, .null, .null] := by rw [hfs13, ef12]; rfl
  have ef14 : fs14 = [.ref q1, .ref q2, .ref q3, .ref q2, .int 0, .ref q4, .ref q5, .ref q6, .ref q7, .ref q8, .ref q9, .ref q10, .ref q11, .ref q12, .ref q13, .null, .null, .null, .null, .null, .int 0, .int 0, .int 0, .int 0, .int 0, .int 0, .int 0, .int 0, .int 0, .int 0, .int 0, .int 0, .null, .null, .null, .null, .null, .int 0, .int 0, .int 0, .int 0, .int 0, .null, .null, .int 0, .int 0, .null, .null, .null, .null, .null, .null, .null, .null, .int 0, .null, .int 0, .int 0, .int 0, .int 0, .null, .null, .null, .null, .null, .null] := by rw [hfs14, ef13]; rfl
  have ef15 : fs15 = [.ref q1, .ref q2, .ref q3, .ref q2, .int 0, .ref q4, .ref q5, .ref q6, .ref q7, .ref q8, .ref q9, .ref q10, .ref q11, .ref q12, .ref q13, .ref q14, .null, .null, .null, .null, .int 0, .int 0, .int 0, .int 0, .int 0, .int 0, .int 0, .int 0, .int 0, .int 0, .int 0, .int 0, .null, .null, .null, .null, .null, .int 0, .int 0, .int 0, .int 0, .int 0, .null, .null, .int 0, .int 0, .null, .null, .null, .null, .null, .null, .null, .null, .int 0, .null, .int 0, .int 0, .int 0, .int 0, .null, .null, .null, .null, .null, .null] := by rw [hfs15, ef14]; rfl
  have ef16 : fs16 = [.ref q1, .ref q2, .ref q3, .ref q2, .int 0, .ref q4, .ref q5, .ref q6, .ref q7, .ref q8, .ref q9, .ref q10, .ref q11, .ref q12, .ref q13, .ref q14, .ref q15, .null, .null, .null, .int 0, .int 0, .int 0, .int 0, .int 0, .int 0, .int 0, .int 0, .int 0, .int 0, .int 0, .int 0, .null, .null, .null, .null, .null, .int 0, .int 0, .int 0, .int 0, .int 0, .null, .null, .int 0, .int 0, .null, .null, .null, .null, .null, .null, .null, .null, .int 0, .null, .int 0, .int 0, .int 0, .int 0, .null, .null, .null, .null, .null, .null] := by rw [hfs16, ef15]; rfl
  have ef17 : fs17 = [.ref q1, .ref q2, .ref q3, .ref q2, .int 0, .ref q4, .ref q5, .ref q6, .ref q7, .ref q8, .ref q9, .ref q10, .ref q11, .ref q12, .ref q13, .ref q14, .ref q15, .ref q16, .null, .null, .int 0, .int 0, .int 0, .int 0, .int 0, .int 0, .int 0, .int 0, .int 0, .int 0, .int 0, .int 0, .null, .null, .null, .null, .null, .int 0, .int 0, .int 0, .int 0, .int 0, .null, .null, .int 0, .int 0, .null, .null, .null, .null, .null, .null, .null, .null, .int 0, .null, .int 0, .int 0, .int 0, .int 0, .null, .null, .null, .null, .null, .null] := by rw [hfs17, ef16]; rfl
  have ef18 : fs18 = [.ref q1, .ref q2, .ref q3, .ref q2, .int 0, .ref q4, .ref q5, .ref q6, .ref q7, .ref q8, .ref q9, .ref q10, .ref q11, .ref q12, .ref q13, .ref q14, .ref q15, .ref q16, .ref q17, .null, .int 0, .int 0, .int 0, .int 0, .int 0, .int 0, .int 0, .int 0, .int 0, .int 0, .int 0, .int 0, .null, .null, .null, .null, .null, .int 0, .int 0, .int 0, .int 0, .int 0, .null, .null, .int 0, .int 0, .null, .null, .null, .null, .null, .null, .null, .null, .int 0, .null, .int 0, .int 0, .int 0, .int 0, .null, .null, .null, .null, .null, .null] := by rw [hfs18, ef17]; rfl
  have ef19 : fs19 = [.ref q1, .ref q2, .ref q3, .ref q2, .int 0, .ref q4, .ref q5, .ref q6, .ref q7, .ref q8, .ref q9, .ref q10, .ref q11, .ref q12, .ref q13, .ref q14, .ref q15, .ref q16, .ref q17, .ref q18, .int 0, .int 0, .int 0, .int 0, .int 0, .int 0, .int 0, .int 0, .int 0, .int 0, .int 0, .int 0, .null, .null, .null, .null, .null, .int 0, .int 0, .int 0, .int 0, .int 0, .null, .null, .int 0, .int 0, .null, .null, .null, .null, .null, .null, .null, .null, .int 0, .null, .int 0, .int 0, .int 0, .int 0, .null, .null, .null, .null, .null, .null] := by rw [hfs19, ef18]; rfl
  have ef20 : fs20 = [.ref q1, .ref q2, .ref q3, .ref q2, .int 0, .ref q4, .ref q5, .ref q6, .ref q7, .ref q8, .ref q9, .ref q10, .ref q11, .ref q12, .ref q13, .ref q14, .ref q15, .ref q16, .ref q17, .ref q18, .int 0, .int 0, .int 0, .int 0, .int 0, .int 0, .int 0, .int 0, .int 0, .int (-1), .int 0, .int 0, .null, .null, .null, .null, .null, .int 0, .int 0, .int 0, .int 0, .int 0, .null, .null, .int 0, .int 0, .null, .null, .null, .null, .null, .null, .null, .null, .int 0, .null, .int 0, .int 0, .int 0, .int 0, .null, .null, .null, .null, .null, .null] := by rw [hfs20, ef19]; rfl
  have ef21 : fs21 = [.ref q1, .ref q2, .ref q3, .ref q2, .int 0, .ref q4, .ref q5, .ref q6, .ref q7, .ref q8, .ref q9, .ref q10, .ref q11, .ref q12, .ref q13, .ref q14, .ref q15, .ref q16, .ref q17, .ref q18, .int 0, .int 0, .int 0, .int 0, .int 0, .int 0, .int 0, .int 0, .int 0, .int (-1), .int 0, .int 0, .ref q19, .null, .null, .null, .null, .int 0, .int 0, .int 0, .int 0, .int 0, .null, .null, .int 0, .int 0, .null, .null, .null, .null, .null, .null, .null, .null, .int 0, .null, .int 0, .int 0, .int 0, .int 0, .null, .null, .null, .null, .null, .null] := by rw [hfs21, ef20]; rfl
  have ef22 : fs22 = [.ref q1, .ref q2, .ref q3, .ref q2, .int 0, .ref q4, .ref q5, .ref q6, .ref q7, .ref q8, .ref q9, .ref q10, .ref q11, .ref q12, .ref q13, .ref q14, .ref q15, .ref q16, .ref q17, .ref q18, .int 0, .int 0, .int 0, .int 0, .int 0, .int 0, .int 0, .int 0, .int 0, .int (-1), .int 0, .int 0, .ref q19, .ref q20, .null, .null, .null, .int 0, .int 0, .int 0, .int 0, .int 0, .null, .null, .int 0, .int 0, .null, .null, .null, .null, .null, .null, .null, .null, .int 0, .null, .int 0, .int 0, .int 0, .int 0, .null, .null, .null, .null, .null, .null] := by rw [hfs22, ef21]; rfl
  have ef23 : fs23 = [.ref q1, .ref q2, .ref q3, .ref q2, .int 0, .ref q4, .ref q5, .ref q6, .ref q7, .ref q8, .ref q9, .ref q10, .ref q11, .ref q12, .ref q13, .ref q14, .ref q15, .ref q16, .ref q17, .ref q18, .int 0, .int 0, .int 0, .int 0, .int 0, .int 0, .int 0, .int 0, .int 0, .int (-1), .int 0, .int 0, .ref q19, .ref q20, .ref q21, .null, .null, .int 0, .int 0, .int 0, .int 0, .int 0, .null, .null, .int 0, .int 0, .null, .null, .null, .null, .null, .null, .null, .null, .int 0, .null, .int 0, .int 0, .int 0, .int 0, .null, .null, .null, .null, .null, .null] := by rw [hfs23, ef22]; rfl
  have ef24 : fs24 = [.ref q1, .ref q2, .ref q3, .ref q2, .int 0, .ref q4, .ref q5, .ref q6, .ref q7, .ref q8, .ref q9, .ref q10, .ref q11, .ref q12, .ref q13, .ref q14, .ref q15, .ref q16, .ref q17, .ref q18, .int 0, .int 0, .int 0, .int 0, .int 0, .int 0, .int 0, .int 0, .int 0, .int (-1), .int 0, .int 0, .ref q19, .ref q20, .ref q21, .ref q22, .null, .int 0, .int 0, .int 0, .int 0, .int 0, .null, .null, .int 0, .int 0, .null, .null, .null, .null, .null, .null, .null, .null, .int 0, .null, .int 0, .int 0, .int 0, .int 0, .null, .null, .null, .null, .null, .null] := by rw [hfs24, ef23]; rfl
  have ef25 : fs25 = [.ref q1, .ref q2, .ref q3, .ref q2, .int 0, .ref q4, .ref q5, .ref q6, .ref q7, .ref q8, .ref q9, .ref q10, .ref q11, .ref q12, .ref q13, .ref q14, .ref q15, .ref q16, .ref q17, .ref q18, .int 0, .int 0, .int 0, .int 0, .int 0, .int 0, .int 0, .int 0, .int 0, .int (-1), .int 0, .int 0, .ref q19, .ref q20, .ref q21, .ref q22, .ref q23, .int 0, .int 0, .int 0, .int 0, .int 0, .null, .null, .int 0, .int 0, .null, .null, .null, .null, .null, .null, .null, .null, .int 0, .null, .int 0, .int 0, .int 0, .int 0, .null, .null, .null, .null, .null, .null] := by rw [hfs25, ef24]; rfl
  have ef26 : fs26 = [.ref q1, .ref q2, .ref q3, .ref q2, .int 0, .ref q4, .ref q5, .ref q6, .ref q7, .ref q8, .ref q9, .ref q10, .ref q11, .ref q12, .ref q13, .ref q14, .ref q15, .ref q16, .ref q17, .ref q18, .int 0, .int 0, .int 0, .int 0, .int 0, .int 0, .int 0, .int 0, .int 0, .int (-1), .int 0, .int 0, .ref q19, .ref q20, .ref q21, .ref q22, .ref q23, .int 0, .int 0, .int 0, .int 0, .int (-1), .null, .null, .int 0, .int 0, .null, .null, .null, .null, .null, .null, .null, .null, .int 0, .null, .int 0, .int 0, .int 0, .int 0, .null, .null, .null, .null, .null, .null] := by rw [hfs26, ef25]; rfl
  have ef27 : fs27 = [.ref q1, .ref q2, .ref q3, .ref q2, .int 0, .ref q4, .ref q5, .ref q6, .ref q7, .ref q8, .ref q9, .ref q10, .ref q11, .ref q12, .ref q13, .ref q14, .ref q15, .ref q16, .ref q17, .ref q18, .int 0, .int 0, .int 0, .int 0, .int 0, .int 0, .int 0, .int 0, .int 0, .int (-1), .int 0, .int 0, .ref q19, .ref q20, .ref q21, .ref q22, .ref q23, .int 0, .int 0, .int 0, .int 0, .int (-1), .ref q24, .null, .int 0, .int 0, .null, .null, .null, .null, .null, .null, .null, .null, .int 0, .null, .int 0, .int 0, .int 0, .int 0, .null, .null, .null, .null, .null, .null] := by rw [hfs27, ef26]; rfl
  have ef28 : fs28 = [.ref q1, .ref q2, .ref q3, .ref q2, .int 0, .ref q4, .ref q5, .ref q6, .ref q7, .ref q8, .ref q9, .ref q10, .ref q11, .ref q12, .ref q13, .ref q14, .ref q15, .ref q16, .ref q17, .ref q18, .int 0, .int 0, .int 0, .int 0, .int 0, .int 0, .int 0, .int 0, .int 0, .int (-1), .int 0, .int 0, .ref q19, .ref q20, .ref q21, .ref q22, .ref q23, .int 0, .int 0, .int 0, .int 0, .int (-1), .ref q24, .ref q25, .int 0, .int 0, .null, .null, .null, .null, .null, .null, .null, .null, .int 0, .null, .int 0, .int 0, .int 0, .int 0, .null, .null, .null, .null, .null, .null] := by rw [hfs28, ef27]; rfl
  have ef29 : fs29 = [.ref q1, .ref q2, .ref q3, .ref q2, .int 0, .ref q4, .ref q5, .ref q6, .ref q7, .ref q8, .ref q9, .ref q10, .ref q11, .ref q12, .ref q13, .ref q14, .ref q15, .ref q16, .ref q17, .ref q18, .int 0, .int 0, .int 0, .int 0, .int 0, .int 0, .int 0, .int 0, .int 0, .int (-1), .int 0, .int 0, .ref q19, .ref q20, .ref q21, .ref q22, .ref q23, .int 0, .int 0, .int 0, .int 0, .int (-1), .ref q24, .ref q25, .int 0, .int 0, .ref q26, .null, .null, .null, .null, .null, .null, .null, .int 0, .null, .int 0, .int 0, .int 0, .int 0, .null, .null, .null, .null, .null, .null] := by rw [hfs29, ef28]; rfl
  have ef30 : fs30 = [.ref q1, .ref q2, .ref q3, .ref q2, .int 0, .ref q4, .ref q5, .ref q6, .ref q7, .ref q8, .ref q9, .ref q10, .ref q11, .ref q12, .ref q13, .ref q14, .ref q15, .ref q16, .ref q17, .ref q18, .int 0, .int 0, .int 0, .int 0, .int 0, .int 0, .int 0, .int 0, .int 0, .int (-1), .int 0, .int 0, .ref q19, .ref q20, .ref q21, .ref q22, .ref q23, .int 0, .int 0, .int 0, .int 0, .int (-1), .ref q24, .ref q25, .int 0, .int 0, .ref q26, .ref q27, .null, .null, .null, .null, .null, .null, .int 0, .null, .int 0, .int 0, .int 0, .int 0, .null, .null, .null, .null, .null, .null] := by rw [hfs30, ef29]; rfl
  have ef31 : fs31 = [.ref q1, .ref q2, .ref q3, .ref q2, .int 0, .ref q4, .ref q5, .ref q6, .ref q7, .ref q8, .ref q9, .ref q10, .ref q11, .ref q12, .ref q13, .ref q14, .ref q15, .ref q16, .ref q17, .ref q18, .int 0, .int 0, .int 0, .int 0, .int 0, .int 0, .int 0, .int 0, .int 0, .int (-1), .int 0, .int 0, .ref q19, .ref q20, .ref q21, .ref q22, .ref q23, .int 0, .int 0, .int 0, .int 0, .int (-1), .ref q24, .ref q25, .int 0, .int 0, .ref q26, .ref q27, .ref q28, .null, .null, .null, .null, .null, .int 0, .null, .int 0, .int 0, .int 0, .int 0, .null, .null, .null, .null, .null, .null] := by rw [hfs31, ef30]; rfl
  have ef32 : fs32 = [.ref q1, .ref q2, .ref q3, .ref q2, .int 0, .ref q4, .ref q5, .ref q6, .ref q7, .ref q8, .ref q9, .ref q10, .ref q11, .ref q12, .ref q13, .ref q14, .ref q15, .ref q16, .ref q17, .ref q18, .int 0, .int 0, .int 0, .int 0, .int 0, .int 0, .int 0, .int 0, .int 0, .int (-1), .int 0, .int 0, .ref q19, .ref q20, .ref q21, .ref q22, .ref q23, .int 0, .int 0, .int 0, .int 0, .int (-1), .ref q24, .ref q25, .int 0, .int 0, .ref q26, .ref q27, .ref q28, .ref q29, .null, .null, .null, .null, .int 0, .null, .int 0, .int 0, .int 0, .int 0, .null, .null, .null, .null, .null, .null] := by rw [hfs32, ef31]; rfl
  have ef33 : fs33 = [.ref q1, .ref q2, .ref q3, .ref q2, .int 0, .ref q4, .ref q5, .ref q6, .ref q7, .ref q8, .ref q9, .ref q10, .ref q11, .ref q12, .ref q13, .ref q14, .ref q15, .ref q16, .ref q17, .ref q18, .int 0, .int 0, .int 0, .int 0, .int 0, .int 0, .int 0, .int 0, .int 0, .int (-1), .int 0, .int 0, .ref q19, .ref q20, .ref q21, .ref q22, .ref q23, .int 0, .int 0, .int 0, .int 0, .int (-1), .ref q24, .ref q25, .int 0, .int 0, .ref q26, .ref q27, .ref q28, .ref q29, .ref q30, .null, .null, .null, .int 0, .null, .int 0, .int 0, .int 0, .int 0, .null, .null, .null, .null, .null, .null] := by rw [hfs33, ef32]; rfl
  have ef34 : fs34 = [.ref q1, .ref q2, .ref q3, .ref q2, .int 0, .ref q4, .ref q5, .ref q6, .ref q7, .ref q8, .ref q9, .ref q10, .ref q11, .ref q12, .ref q13, .ref q14, .ref q15, .ref q16, .ref q17, .ref q18, .int 0, .int 0, .int 0, .int 0, .int 0, .int 0, .int 0, .int 0, .int 0, .int (-1), .int 0, .int 0, .ref q19, .ref q20, .ref q21, .ref q22, .ref q23, .int 0, .int 0, .int 0, .int 0, .int (-1), .ref q24, .ref q25, .int 0, .int 0, .ref q26, .ref q27, .ref q28, .ref q29, .ref q30, .ref q31, .null, .null, .int 0, .null, .int 0, .int 0, .int 0, .int 0, .null, .null, .null, .null, .null, .null] := by rw [hfs34, ef33]; rfl
  have ef35 : fs35 = [.ref q1, .ref q2, .ref q3, .ref q2, .int 0, .ref q4, .ref q5, .ref q6, .ref q7, .ref q8, .ref q9, .ref q10, .ref q11, .ref q12, .ref q13, .ref q14, .ref q15, .ref q16, .ref q17, .ref q18, .int 0, .int 0, .int 0, .int 0, .int 0, .int 0, .int 0, .int 0, .int 0, .int (-1), .int 0, .int 0, .ref q19, .ref q20, .ref q21, .ref q22, .ref q23, .int 0, .int 0, .int 0, .int 0, .int (-1), .ref q24, .ref q25, .int 0, .int 0, .ref q26, .ref q27, .ref q28, .ref q29, .ref q30, .ref q31, .ref q32, .null, .int 0, .null, .int 0, .int 0, .int 0, .int 0, .null, .null, .null, .null, .null, .null] := by rw [hfs35, ef34]; rfl
  have ef36 : fs36 = [.ref q1, .ref q2, .ref q3, .ref q2, .int 0, .ref q4, .ref q5, .ref q6, .ref q7, .ref q8, .ref q9, .ref q10, .ref q11, .ref q12, .ref q13, .ref q14, .ref q15, .ref q16, .ref q17, .ref q18, .int 0, .int 0, .int 0, .int 0, .int 0, .int 0, .int 0, .int 0, .int 0, .int (-1), .int 0, .int 0, .ref q19, .ref q20, .ref q21, .ref q22, .ref q23, .int 0, .int 0, .int 0, .int 0, .int (-1), .ref q24, .ref q25, .int 0, .int 0, .ref q26, .ref q27, .ref q28, .ref q29, .ref q30, .ref q31, .ref q32, .ref q33, .int 0, .null, .int 0, .int 0, .int 0, .int 0, .null, .null, .null, .null, .null, .null] := by rw [hfs36, ef35]; rfl
  have ef37 : fs37 = [.ref q1, .ref q2, .ref q3, .ref q2, .int 0, .ref q4, .ref q5, .ref q6, .ref q7, .ref q8, .ref q9, .ref q10, .ref q11, .ref q12, .ref q13, .ref q14, .ref q15, .ref q16, .ref q17, .ref q18, .int 0, .int 0, .int 0, .int 0, .int 0, .int 0, .int 0, .int 0, .int 0, .int (-1), .int 0, .int 0, .ref q19, .ref q20, .ref q21, .ref q22, .ref q23, .int 0, .int 0, .int 0, .int 0, .int (-1), .ref q24, .ref q25, .int 0, .int 0, .ref q26, .ref q27, .ref q28, .ref q29, .ref q30, .ref q31, .ref q32, .ref q33, .int 0, .ref q34, .int 0, .int 0, .int 0, .int 0, .null, .null, .null, .null, .null, .null] := by rw [hfs37, ef36]; rfl
  have ef38 : fs38 = [.ref q1, .ref q2, .ref q3, .ref q2, .int 0, .ref q4, .ref q5, .ref q6, .ref q7, .ref q8, .ref q9, .ref q10, .ref q11, .ref q12, .ref q13, .ref q14, .ref q15, .ref q16, .ref q17, .ref q18, .int 0, .int 0, .int 0, .int 0, .int 0, .int 0, .int 0, .int 0, .int 0, .int (-1), .int 0, .int 0, .ref q19, .ref q20, .ref q21, .ref q22, .ref q23, .int 0, .int 0, .int 0, .int 0, .int (-1), .ref q24, .ref q25, .int 0, .int 0, .ref q26, .ref q27, .ref q28, .ref q29, .ref q30, .ref q31, .ref q32, .ref q33, .int 0, .ref q34, .int 0, .int 0, .int 0, .int 0, .ref q35, .null, .null, .null, .null, .null] := by rw [hfs38, ef37]; rfl
  have ef39 : fs39 = [.ref q1, .ref q2, .ref q3, .ref q2, .int 0, .ref q4, .ref q5, .ref q6, .ref q7, .ref q8, .ref q9, .ref q10, .ref q11, .ref q12, .ref q13, .ref q14, .ref q15, .ref q16, .ref q17, .ref q18, .int 0, .int 0, .int 0, .int 0, .int 0, .int 0, .int 0, .int 0, .int 0, .int (-1), .int 0, .int 0, .ref q19, .ref q20, .ref q21, .ref q22, .ref q23, .int 0, .int 0, .int 0, .int 0, .int (-1), .ref q24, .ref q25, .int 0, .int 0, .ref q26, .ref q27, .ref q28, .ref q29, .ref q30, .ref q31, .ref q32, .ref q33, .int 0, .ref q34, .int 0, .int 0, .int 0, .int 0, .ref q35, .ref q36, .null, .null, .null, .null] := by rw [hfs39, ef38]; rfl
  have ef40 : fs40 = [.ref q1, .ref q2, .ref q3, .ref q2, .int 0, .ref q4, .ref q5, .ref q6, .ref q7, .ref q8, .ref q9, .ref q10, .ref q11, .ref q12, .ref q13, .ref q14, .ref q15, .ref q16, .ref q17, .ref q18, .int 0, .int 0, .int 0, .int 0, .int 0, .int 0, .int 0, .int 0, .int 0, .int (-1), .int 0, .int 0, .ref q19, .ref q20, .ref q21, .ref q22, .ref q23, .int 0, .int 0, .int 0, .int 0, .int (-1), .ref q24, .ref q25, .int 0, .int 0, .ref q26, .ref q27, .ref q28, .ref q29, .ref q30, .ref q31, .ref q32, .ref q33, .int 0, .ref q34, .int 0, .int 0, .int 0, .int 0, .ref q35, .ref q36, .ref q37, .null, .null, .null] := by rw [hfs40, ef39]; rfl
  have ef41 : fs41 = [.ref q1, .ref q2, .ref q3, .ref q2, .int 0, .ref q4, .ref q5, .ref q6, .ref q7, .ref q8, .ref q9, .ref q10, .ref q11, .ref q12, .ref q13, .ref q14, .ref q15, .ref q16, .ref q17, .ref q18, .int 0, .int 0, .int 0, .int 0, .int 0, .int 0, .int 0, .int 0, .int 0, .int (-1), .int 0, .int 0, .ref q19, .ref q20, .ref q21, .ref q22, .ref q23, .int 0, .int 0, .int 0, .int 0, .int (-1), .ref q24, .ref q25, .int 0, .int 0, .ref q26, .ref q27, .ref q28, .ref q29, .ref q30, .ref q31, .ref q32, .ref q33, .int 0, .ref q34, .int 0, .int 0, .int 0, .int 0, .ref q35, .ref q36, .ref q37, .ref q38, .null, .null] := by rw [hfs41, ef40]; rfl
  have ef42 : fs42 = [.ref q1, .ref q2, .ref q3, .ref q2, .int 0, .ref q4, .ref q5, .ref q6, .ref q7, .ref q8, .ref q9, .ref q10, .ref q11, .ref q12, .ref q13, .ref q14, .ref q15, .ref q16, .ref q17, .ref q18, .int 0, .int 0, .int 0, .int 0, .int 0, .int 0, .int 0, .int 0, .int 0, .int (-1), .int 0, .int 0, .ref q19, .ref q20, .ref q21, .ref q22, .ref q23, .int 0, .int 0, .int 0, .int 0, .int (-1), .ref q24, .ref q25, .int 0, .int 0, .ref q26, .ref q27, .ref q28, .ref q29, .ref q30, .ref q31, .ref q32, .ref q33, .int 0, .ref q34, .int 0, .int 0, .int 0, .int 0, .ref q35, .ref q36, .ref q37, .ref q38, .ref q39, .null] := by rw [hfs42, ef41]; rfl
  have ef43 : fs43 = [.ref q1, .ref q2, .ref q3, .ref q2, .int 0, .ref q4, .ref q5, .ref q6, .ref q7, .ref q8, .ref q9, .ref q10, .ref q11, .ref q12, .ref q13, .ref q14, .ref q15, .ref q16, .ref q17, .ref q18, .int 0, .int 0, .int 0, .int 0, .int 0, .int 0, .int 0, .int 0, .int 0, .int (-1), .int 0, .int 0, .ref q19, .ref q20, .ref q21, .ref q22, .ref q23, .int 0, .int 0, .int 0, .int 0, .int (-1), .ref q24, .ref q25, .int 0, .int 0, .ref q26, .ref q27, .ref q28, .ref q29, .ref q30, .ref q31, .ref q32, .ref q33, .int 0, .ref q34, .int 0, .int 0, .int 0, .int 0, .ref q35, .ref q36, .ref q37, .ref q38, .ref q39, .ref q40] := by rw [hfs43, ef42]; rfl
  have ea37 : ar37 = [(q1, .inl (cS, 2, .inr (.inr (.inr (.inr (va_up (va_up (fun _ => none) 0 (some (aK 28))) 1 (some (aK 29)))))))), (q2, .inl (cS, 6, .inr (.inr (.inr (.inr (va_up (va_up (va_up (va_up (va_up (va_up (fun _ => none) 0 (some (aK 30))) 1 (some (aK 31))) 2 (some (aK 32))) 3 (some (aK 33))) 4 (some (aK 34))) 5 (some (aK 35)))))))), (q3, .inl (cS, 7, .inr (.inr (.inr (.inr (va_up (va_up (va_up (va_up (va_up (va_up (va_up (fun _ => none) 0 (some (aK 30))) 1 (some (aK 31))) 2 (some (aK 32))) 3 (some (aK 33))) 4 (some (aK 34))) 5 (some (aK 35))) 6 (some (aK 36)))))))), (q4, .inl (cI, 12, .inl (fun _ => 0))), (q5, .inl (cI, 16, .inl (fun _ => 0))), (q6, .inl (cI, 16, .inl (fun _ => 0))), (q7, .inl (cI, 16, .inl (fun _ => 0))), (q8, .inl (cI, 16, .inl (fun _ => 0))), (q9, .inl (cI, 12, .inl (fun _ => 0))), (q10, .inl (cI, 12, .inl (fun _ => 0))), (q11, .inl (cI, 12, .inl (fun _ => 0))), (q12, .inl (cI, 12, .inl (fun _ => 0))), (q13, .inl (cI, 16, .inl (fun _ => 0))), (q14, .inl (cI, 1400, .inl (fun _ => 0))), (q15, .inl (cI, 1400, .inl (fun _ => 0))), (q16, .inl (cI, 3, .inl (fun _ => 0))), (q17, .inl (cI, 6, .inl (fun _ => 0))), (q18, .inl (cI, 700, .inl (fun _ => 0))), (q19, .inl (cI, 6, .inl (fun _ => 0))), (q20, .inl (cI, 6, .inl (fun _ => 0))), (q21, .inl (cI, 6, .inl (fun _ => 0))), (q22, .inl (cI, 6, .inl (fun _ => 0))), (q23, .inl (cI, 1040, .inl (fun _ => 0))), (q24, .inl (cI, 7, .inl (fun _ => 0))), (q25, .inl (cI, 64, .inl (fun _ => 0))), (q26, .inl (cI, 26, .inl (fun _ => 0))), (q27, .inl (cI, 1792, .inl (fun _ => 0))), (q28, .inl (cI, 8, .inl (fun _ => 0))), (q29, .inl (cI, 8, .inl (fun _ => 0))), (q30, .inl (cI, 8, .inl (fun _ => 0))), (q31, .inl (cI, 26, .inl (fun _ => 0))), (q32, .inl (cI, 60, .inl (fun _ => 0))), (q33, .inl (cI, 1200, .inl (fun _ => 0))), (q34, .inl (cI, 8, .inl (fun _ => 0))), (q35, .inl (cI, 26, .inl (fun _ => 0))), (q36, .inl (cI, 1040, .inl (fun _ => 0))), (q37, .inl (cI, 8, .inl (fun _ => 0))), (q38, .inl (cI, 8, .inl (fun _ => 0))), (q39, .inl (cI, 8, .inl (fun _ => 0))), (q40, .inl (cI, 3, .inl (fun _ => 0)))] := by
    rw [har37, har36, har35, har34, har33, har32, har31, har30, har29, har28, har27, har26, har25, har24, har23, har22, har21, har20, har19, har18, har17, har16, har15, har14, har13, har12, har11, har10, har9, har8, har7, har6, har5, har4, har3, har2, har1, har0]
    simp only [List.cons_append, List.nil_append, List.append_assoc]
  have hP := cm_eqP ea37 hP
  have hD := cm_eqD ea37 hD
  refine va_get (D := D) (ci := 12) (v := .ref q4) (C := RX12) (T := TX12) (N := 66) hx hb hts m_in hown hK hP 0 rfl rfl 5 (by decide) (hts _ m_l5) (fun _ h9 => h9) (by rw [ef43]; rfl) dX12_init_426 ?_
  refine lv_iconst (v := 2) hx hb dX12_init_429 (by decide) ?_
  refine lv_bipush (v := 70) hx hb dX12_init_430 (by decide) ?_
  refine cm_ist (k := 2) hx hb hK hP hD hS 4 0 rfl rfl (by decide) (inb_vp (by decide)) dX12_init_432 (fun H locs hP hD hS => ?_)
  have hP : va_P D vwCl ((h0, .inr (12, fs43)) :: [(q1, .inl (cS, 2, .inr (.inr (.inr (.inr (va_up (va_up (fun _ => none) 0 (some (aK 28))) 1 (some (aK 29)))))))), (q2, .inl (cS, 6, .inr (.inr (.inr (.inr (va_up (va_up (va_up (va_up (va_up (va_up (fun _ => none) 0 (some (aK 30))) 1 (some (aK 31))) 2 (some (aK 32))) 3 (some (aK 33))) 4 (some (aK 34))) 5 (some (aK 35)))))))), (q3, .inl (cS, 7, .inr (.inr (.inr (.inr (va_up (va_up (va_up (va_up (va_up (va_up (va_up (fun _ => none) 0 (some (aK 30))) 1 (some (aK 31))) 2 (some (aK 32))) 3 (some (aK 33))) 4 (some (aK 34))) 5 (some (aK 35))) 6 (some (aK 36)))))))), (q4, .inl (cI, 12, .inl (upd (fun _ => 0) 2 70))), (q5, .inl (cI, 16, .inl (fun _ => 0))), (q6, .inl (cI, 16, .inl (fun _ => 0))), (q7, .inl (cI, 16, .inl (fun _ => 0))), (q8, .inl (cI, 16, .inl (fun _ => 0))), (q9, .inl (cI, 12, .inl (fun _ => 0))), (q10, .inl (cI, 12, .inl (fun _ => 0))), (q11, .inl (cI, 12, .inl (fun _ => 0))), (q12, .inl (cI, 12, .inl (fun _ => 0))), (q13, .inl (cI, 16, .inl (fun _ => 0))), (q14, .inl (cI, 1400, .inl (fun _ => 0))), (q15, .inl (cI, 1400, .inl (fun _ => 0))), (q16, .inl (cI, 3, .inl (fun _ => 0))), (q17, .inl (cI, 6, .inl (fun _ => 0))), (q18, .inl (cI, 700, .inl (fun _ => 0))), (q19, .inl (cI, 6, .inl (fun _ => 0))), (q20, .inl (cI, 6, .inl (fun _ => 0))), (q21, .inl (cI, 6, .inl (fun _ => 0))), (q22, .inl (cI, 6, .inl (fun _ => 0))), (q23, .inl (cI, 1040, .inl (fun _ => 0))), (q24, .inl (cI, 7, .inl (fun _ => 0))), (q25, .inl (cI, 64, .inl (fun _ => 0))), (q26, .inl (cI, 26, .inl (fun _ => 0))), (q27, .inl (cI, 1792, .inl (fun _ => 0))), (q28, .inl (cI, 8, .inl (fun _ => 0))), (q29, .inl (cI, 8, .inl (fun _ => 0))), (q30, .inl (cI, 8, .inl (fun _ => 0))), (q31, .inl (cI, 26, .inl (fun _ => 0))), (q32, .inl (cI, 60, .inl (fun _ => 0))), (q33, .inl (cI, 1200, .inl (fun _ => 0))), (q34, .inl (cI, 8, .inl (fun _ => 0))), (q35, .inl (cI, 26, .inl (fun _ => 0))), (q36, .inl (cI, 1040, .inl (fun _ => 0))), (q37, .inl (cI, 8, .inl (fun _ => 0))), (q38, .inl (cI, 8, .inl (fun _ => 0))), (q39, .inl (cI, 8, .inl (fun _ => 0))), (q40, .inl (cI, 3, .inl (fun _ => 0)))]) H := hP
  have hD : va_D A ((h0, .inr (12, fs43)) :: [(q1, .inl (cS, 2, .inr (.inr (.inr (.inr (va_up (va_up (fun _ => none) 0 (some (aK 28))) 1 (some (aK 29)))))))), (q2, .inl (cS, 6, .inr (.inr (.inr (.inr (va_up (va_up (va_up (va_up (va_up (va_up (fun _ => none) 0 (some (aK 30))) 1 (some (aK 31))) 2 (some (aK 32))) 3 (some (aK 33))) 4 (some (aK 34))) 5 (some (aK 35)))))))), (q3, .inl (cS, 7, .inr (.inr (.inr (.inr (va_up (va_up (va_up (va_up (va_up (va_up (va_up (fun _ => none) 0 (some (aK 30))) 1 (some (aK 31))) 2 (some (aK 32))) 3 (some (aK 33))) 4 (some (aK 34))) 5 (some (aK 35))) 6 (some (aK 36)))))))), (q4, .inl (cI, 12, .inl (upd (fun _ => 0) 2 70))), (q5, .inl (cI, 16, .inl (fun _ => 0))), (q6, .inl (cI, 16, .inl (fun _ => 0))), (q7, .inl (cI, 16, .inl (fun _ => 0))), (q8, .inl (cI, 16, .inl (fun _ => 0))), (q9, .inl (cI, 12, .inl (fun _ => 0))), (q10, .inl (cI, 12, .inl (fun _ => 0))), (q11, .inl (cI, 12, .inl (fun _ => 0))), (q12, .inl (cI, 12, .inl (fun _ => 0))), (q13, .inl (cI, 16, .inl (fun _ => 0))), (q14, .inl (cI, 1400, .inl (fun _ => 0))), (q15, .inl (cI, 1400, .inl (fun _ => 0))), (q16, .inl (cI, 3, .inl (fun _ => 0))), (q17, .inl (cI, 6, .inl (fun _ => 0))), (q18, .inl (cI, 700, .inl (fun _ => 0))), (q19, .inl (cI, 6, .inl (fun _ => 0))), (q20, .inl (cI, 6, .inl (fun _ => 0))), (q21, .inl (cI, 6, .inl (fun _ => 0))), (q22, .inl (cI, 6, .inl (fun _ => 0))), (q23, .inl (cI, 1040, .inl (fun _ => 0))), (q24, .inl (cI, 7, .inl (fun _ => 0))), (q25, .inl (cI, 64, .inl (fun _ => 0))), (q26, .inl (cI, 26, .inl (fun _ => 0))), (q27, .inl (cI, 1792, .inl (fun _ => 0))), (q28, .inl (cI, 8, .inl (fun _ => 0))), (q29, .inl (cI, 8, .inl (fun _ => 0))), (q30, .inl (cI, 8, .inl (fun _ => 0))), (q31, .inl (cI, 26, .inl (fun _ => 0))), (q32, .inl (cI, 60, .inl (fun _ => 0))), (q33, .inl (cI, 1200, .inl (fun _ => 0))), (q34, .inl (cI, 8, .inl (fun _ => 0))), (q35, .inl (cI, 26, .inl (fun _ => 0))), (q36, .inl (cI, 1040, .inl (fun _ => 0))), (q37, .inl (cI, 8, .inl (fun _ => 0))), (q38, .inl (cI, 8, .inl (fun _ => 0))), (q39, .inl (cI, 8, .inl (fun _ => 0))), (q40, .inl (cI, 3, .inl (fun _ => 0)))]) := hD
  refine lv_iconst (v := 0) hx hb dX12_init_433 (by decide) ?_
  refine lv_istore_n (lv' := [(1, .int 0), (0, .ref h0)]) hx hb dX12_init_434 rfl hl (by decide) rfl (fun ls hl => ?_)
  refine lv_iload_n hx hb dX12_init_435 rfl (lv_at hl 0 rfl) ?_
  refine lv_bipush (v := 6) hx hb dX12_init_436 (by decide) ?_
  refine lv_icmp_ge (tgt := 454) hx hb dX12_init_438 (by decide) (fun h => absurd h (by decide)) (fun _ => ?_)
  refine lv_aload_n hx hb dX12_init_441 rfl (lv_at hl 1 rfl) ?_
  refine va_get (D := D) (ci := 12) (v := .ref q22) (C := RX12) (T := TX12) (N := 66) hx hb hts m_in hown hK hP 0 rfl rfl 35 (by decide) (hts _ m_l35) (fun _ h9 => h9) (by rw [ef43]; rfl) dX12_init_442 ?_
  refine lv_iload_n hx hb dX12_init_445 rfl (lv_at hl 0 rfl) ?_
  refine lv_iconst (v := (-1)) hx hb dX12_init_446 (by decide) ?_
  refine cm_ist (k := 0) hx hb hK hP hD hS 22 0 rfl rfl (by decide) (inb_vp (by decide)) dX12_init_447 (fun H locs hP hD hS => ?_)
  have hP : va_P D vwCl ((h0, .inr (12, fs43)) :: [(q1, .inl (cS, 2, .inr (.inr (.inr (.inr (va_up (va_up (fun _ => none) 0 (some (aK 28))) 1 (some (aK 29)))))))), (q2, .inl (cS, 6, .inr (.inr (.inr (.inr (va_up (va_up (va_up (va_up (va_up (va_up (fun _ => none) 0 (some (aK 30))) 1 (some (aK 31))) 2 (some (aK 32))) 3 (some (aK 33))) 4 (some (aK 34))) 5 (some (aK 35)))))))), (q3, .inl (cS, 7, .inr (.inr (.inr (.inr (va_up (va_up (va_up (va_up (va_up (va_up (va_up (fun _ => none) 0 (some (aK 30))) 1 (some (aK 31))) 2 (some (aK 32))) 3 (some (aK 33))) 4 (some (aK 34))) 5 (some (aK 35))) 6 (some (aK 36)))))))), (q4, .inl (cI, 12, .inl (upd (fun _ => 0) 2 70))), (q5, .inl (cI, 16, .inl (fun _ => 0))), (q6, .inl (cI, 16, .inl (fun _ => 0))), (q7, .inl (cI, 16, .inl (fun _ => 0))), (q8, .inl (cI, 16, .inl (fun _ => 0))), (q9, .inl (cI, 12, .inl (fun _ => 0))), (q10, .inl (cI, 12, .inl (fun _ => 0))), (q11, .inl (cI, 12, .inl (fun _ => 0))), (q12, .inl (cI, 12, .inl (fun _ => 0))), (q13, .inl (cI, 16, .inl (fun _ => 0))), (q14, .inl (cI, 1400, .inl (fun _ => 0))), (q15, .inl (cI, 1400, .inl (fun _ => 0))), (q16, .inl (cI, 3, .inl (fun _ => 0))), (q17, .inl (cI, 6, .inl (fun _ => 0))), (q18, .inl (cI, 700, .inl (fun _ => 0))), (q19, .inl (cI, 6, .inl (fun _ => 0))), (q20, .inl (cI, 6, .inl (fun _ => 0))), (q21, .inl (cI, 6, .inl (fun _ => 0))), (q22, .inl (cI, 6, .inl (upd (fun _ => 0) 0 (-1)))), (q23, .inl (cI, 1040, .inl (fun _ => 0))), (q24, .inl (cI, 7, .inl (fun _ => 0))), (q25, .inl (cI, 64, .inl (fun _ => 0))), (q26, .inl (cI, 26, .inl (fun _ => 0))), (q27, .inl (cI, 1792, .inl (fun _ => 0))), (q28, .inl (cI, 8, .inl (fun _ => 0))), (q29, .inl (cI, 8, .inl (fun _ => 0))), (q30, .inl (cI, 8, .inl (fun _ => 0))), (q31, .inl (cI, 26, .inl (fun _ => 0))), (q32, .inl (cI, 60, .inl (fun _ => 0))), (q33, .inl (cI, 1200, .inl (fun _ => 0))), (q34, .inl (cI, 8, .inl (fun _ => 0))), (q35, .inl (cI, 26, .inl (fun _ => 0))), (q36, .inl (cI, 1040, .inl (fun _ => 0))), (q37, .inl (cI, 8, .inl (fun _ => 0))), (q38, .inl (cI, 8, .inl (fun _ => 0))), (q39, .inl (cI, 8, .inl (fun _ => 0))), (q40, .inl (cI, 3, .inl (fun _ => 0)))]) H := hP
  have hD : va_D A ((h0, .inr (12, fs43)) :: [(q1, .inl (cS, 2, .inr (.inr (.inr (.inr (va_up (va_up (fun _ => none) 0 (some (aK 28))) 1 (some (aK 29)))))))), (q2, .inl (cS, 6, .inr (.inr (.inr (.inr (va_up (va_up (va_up (va_up (va_up (va_up (fun _ => none) 0 (some (aK 30))) 1 (some (aK 31))) 2 (some (aK 32))) 3 (some (aK 33))) 4 (some (aK 34))) 5 (some (aK 35)))))))), (q3, .inl (cS, 7, .inr (.inr (.inr (.inr (va_up (va_up (va_up (va_up (va_up (va_up (va_up (fun _ => none) 0 (some (aK 30))) 1 (some (aK 31))) 2 (some (aK 32))) 3 (some (aK 33))) 4 (some (aK 34))) 5 (some (aK 35))) 6 (some (aK 36)))))))), (q4, .inl (cI, 12, .inl (upd (fun _ => 0) 2 70))), (q5, .inl (cI, 16, .inl (fun _ => 0))), (q6, .inl (cI, 16, .inl (fun _ => 0))), (q7, .inl (cI, 16, .inl (fun _ => 0))), (q8, .inl (cI, 16, .inl (fun _ => 0))), (q9, .inl (cI, 12, .inl (fun _ => 0))), (q10, .inl (cI, 12, .inl (fun _ => 0))), (q11, .inl (cI, 12, .inl (fun _ => 0))), (q12, .inl (cI, 12, .inl (fun _ => 0))), (q13, .inl (cI, 16, .inl (fun _ => 0))), (q14, .inl (cI, 1400, .inl (fun _ => 0))), (q15, .inl (cI, 1400, .inl (fun _ => 0))), (q16, .inl (cI, 3, .inl (fun _ => 0))), (q17, .inl (cI, 6, .inl (fun _ => 0))), (q18, .inl (cI, 700, .inl (fun _ => 0))), (q19, .inl (cI, 6, .inl (fun _ => 0))), (q20, .inl (cI, 6, .inl (fun _ => 0))), (q21, .inl (cI, 6, .inl (fun _ => 0))), (q22, .inl (cI, 6, .inl (upd (fun _ => 0) 0 (-1)))), (q23, .inl (cI, 1040, .inl (fun _ => 0))), (q24, .inl (cI, 7, .inl (fun _ => 0))), (q25, .inl (cI, 64, .inl (fun _ => 0))), (q26, .inl (cI, 26, .inl (fun _ => 0))), (q27, .inl (cI, 1792, .inl (fun _ => 0))), (q28, .inl (cI, 8, .inl (fun _ => 0))), (q29, .inl (cI, 8, .inl (fun _ => 0))), (q30, .inl (cI, 8, .inl (fun _ => 0))), (q31, .inl (cI, 26, .inl (fun _ => 0))), (q32, .inl (cI, 60, .inl (fun _ => 0))), (q33, .inl (cI, 1200, .inl (fun _ => 0))), (q34, .inl (cI, 8, .inl (fun _ => 0))), (q35, .inl (cI, 26, .inl (fun _ => 0))), (q36, .inl (cI, 1040, .inl (fun _ => 0))), (q37, .inl (cI, 8, .inl (fun _ => 0))), (q38, .inl (cI, 8, .inl (fun _ => 0))), (q39, .inl (cI, 8, .inl (fun _ => 0))), (q40, .inl (cI, 3, .inl (fun _ => 0)))]) := hD
  refine lv_iinc (v := 1) (lv' := [(1, .int 1), (0, .ref h0)]) hx hb dX12_init_448 hl (k := 0) rfl (by decide) (by decide) rfl (fun ls hl => ?_)
  refine lv_goto (tgt := 435) hx hb dX12_init_451 (by decide) ?_
  refine lv_iload_n hx hb dX12_init_435 rfl (lv_at hl 0 rfl) ?_
  refine lv_bipush (v := 6) hx hb dX12_init_436 (by decide) ?_
  refine lv_icmp_ge (tgt := 454) hx hb dX12_init_438 (by decide) (fun h => absurd h (by decide)) (fun _ => ?_)
  refine lv_aload_n hx hb dX12_init_441 rfl (lv_at hl 1 rfl) ?_
  refine va_get (D := D) (ci := 12) (v := .ref q22) (C := RX12) (T := TX12) (N := 66) hx hb hts m_in hown hK hP 0 rfl rfl 35 (by decide) (hts _ m_l35) (fun _ h9 => h9) (by rw [ef43]; rfl) dX12_init_442 ?_
  refine lv_iload_n hx hb dX12_init_445 rfl (lv_at hl 0 rfl) ?_
  refine lv_iconst (v := (-1)) hx hb dX12_init_446 (by decide) ?_
  refine cm_ist (k := 1) hx hb hK hP hD hS 22 0 rfl rfl (by decide) (inb_vp (by decide)) dX12_init_447 (fun H locs hP hD hS => ?_)
  have hP : va_P D vwCl ((h0, .inr (12, fs43)) :: [(q1, .inl (cS, 2, .inr (.inr (.inr (.inr (va_up (va_up (fun _ => none) 0 (some (aK 28))) 1 (some (aK 29)))))))), (q2, .inl (cS, 6, .inr (.inr (.inr (.inr (va_up (va_up (va_up (va_up (va_up (va_up (fun _ => none) 0 (some (aK 30))) 1 (some (aK 31))) 2 (some (aK 32))) 3 (some (aK 33))) 4 (some (aK 34))) 5 (some (aK 35)))))))), (q3, .inl (cS, 7, .inr (.inr (.inr (.inr (va_up (va_up (va_up (va_up (va_up (va_up (va_up (fun _ => none) 0 (some (aK 30))) 1 (some (aK 31))) 2 (some (aK 32))) 3 (some (aK 33))) 4 (some (aK 34))) 5 (some (aK 35))) 6 (some (aK 36)))))))), (q4, .inl (cI, 12, .inl (upd (fun _ => 0) 2 70))), (q5, .inl (cI, 16, .inl (fun _ => 0))), (q6, .inl (cI, 16, .inl (fun _ => 0))), (q7, .inl (cI, 16, .inl (fun _ => 0))), (q8, .inl (cI, 16, .inl (fun _ => 0))), (q9, .inl (cI, 12, .inl (fun _ => 0))), (q10, .inl (cI, 12, .inl (fun _ => 0))), (q11, .inl (cI, 12, .inl (fun _ => 0))), (q12, .inl (cI, 12, .inl (fun _ => 0))), (q13, .inl (cI, 16, .inl (fun _ => 0))), (q14, .inl (cI, 1400, .inl (fun _ => 0))), (q15, .inl (cI, 1400, .inl (fun _ => 0))), (q16, .inl (cI, 3, .inl (fun _ => 0))), (q17, .inl (cI, 6, .inl (fun _ => 0))), (q18, .inl (cI, 700, .inl (fun _ => 0))), (q19, .inl (cI, 6, .inl (fun _ => 0))), (q20, .inl (cI, 6, .inl (fun _ => 0))), (q21, .inl (cI, 6, .inl (fun _ => 0))), (q22, .inl (cI, 6, .inl (upd (upd (fun _ => 0) 0 (-1)) 1 (-1)))), (q23, .inl (cI, 1040, .inl (fun _ => 0))), (q24, .inl (cI, 7, .inl (fun _ => 0))), (q25, .inl (cI, 64, .inl (fun _ => 0))), (q26, .inl (cI, 26, .inl (fun _ => 0))), (q27, .inl (cI, 1792, .inl (fun _ => 0))), (q28, .inl (cI, 8, .inl (fun _ => 0))), (q29, .inl (cI, 8, .inl (fun _ => 0))), (q30, .inl (cI, 8, .inl (fun _ => 0))), (q31, .inl (cI, 26, .inl (fun _ => 0))), (q32, .inl (cI, 60, .inl (fun _ => 0))), (q33, .inl (cI, 1200, .inl (fun _ => 0))), (q34, .inl (cI, 8, .inl (fun _ => 0))), (q35, .inl (cI, 26, .inl (fun _ => 0))), (q36, .inl (cI, 1040, .inl (fun _ => 0))), (q37, .inl (cI, 8, .inl (fun _ => 0))), (q38, .inl (cI, 8, .inl (fun _ => 0))), (q39, .inl (cI, 8, .inl (fun _ => 0))), (q40, .inl (cI, 3, .inl (fun _ => 0)))]) H := hP
  have hD : va_D A ((h0, .inr (12, fs43)) :: [(q1, .inl (cS, 2, .inr (.inr (.inr (.inr (va_up (va_up (fun _ => none) 0 (some (aK 28))) 1 (some (aK 29)))))))), (q2, .inl (cS, 6, .inr (.inr (.inr (.inr (va_up (va_up (va_up (va_up (va_up (va_up (fun _ => none) 0 (some (aK 30))) 1 (some (aK 31))) 2 (some (aK 32))) 3 (some (aK 33))) 4 (some (aK 34))) 5 (some (aK 35)))))))), (q3, .inl (cS, 7, .inr (.inr (.inr (.inr (va_up (va_up (va_up (va_up (va_up (va_up (va_up (fun _ => none) 0 (some (aK 30))) 1 (some (aK 31))) 2 (some (aK 32))) 3 (some (aK 33))) 4 (some (aK 34))) 5 (some (aK 35))) 6 (some (aK 36)))))))), (q4, .inl (cI, 12, .inl (upd (fun _ => 0) 2 70))), (q5, .inl (cI, 16, .inl (fun _ => 0))), (q6, .inl (cI, 16, .inl (fun _ => 0))), (q7, .inl (cI, 16, .inl (fun _ => 0))), (q8, .inl (cI, 16, .inl (fun _ => 0))), (q9, .inl (cI, 12, .inl (fun _ => 0))), (q10, .inl (cI, 12, .inl (fun _ => 0))), (q11, .inl (cI, 12, .inl (fun _ => 0))), (q12, .inl (cI, 12, .inl (fun _ => 0))), (q13, .inl (cI, 16, .inl (fun _ => 0))), (q14, .inl (cI, 1400, .inl (fun _ => 0))), (q15, .inl (cI, 1400, .inl (fun _ => 0))), (q16, .inl (cI, 3, .inl (fun _ => 0))), (q17, .inl (cI, 6, .inl (fun _ => 0))), (q18, .inl (cI, 700, .inl (fun _ => 0))), (q19, .inl (cI, 6, .inl (fun _ => 0))), (q20, .inl (cI, 6, .inl (fun _ => 0))), (q21, .inl (cI, 6, .inl (fun _ => 0))), (q22, .inl (cI, 6, .inl (upd (upd (fun _ => 0) 0 (-1)) 1 (-1)))), (q23, .inl (cI, 1040, .inl (fun _ => 0))), (q24, .inl (cI, 7, .inl (fun _ => 0))), (q25, .inl (cI, 64, .inl (fun _ => 0))), (q26, .inl (cI, 26, .inl (fun _ => 0))), (q27, .inl (cI, 1792, .inl (fun _ => 0))), (q28, .inl (cI, 8, .inl (fun _ => 0))), (q29, .inl (cI, 8, .inl (fun _ => 0))), (q30, .inl (cI, 8, .inl (fun _ => 0))), (q31, .inl (cI, 26, .inl (fun _ => 0))), (q32, .inl (cI, 60, .inl (fun _ => 0))), (q33, .inl (cI, 1200, .inl (fun _ => 0))), (q34, .inl (cI, 8, .inl (fun _ => 0))), (q35, .inl (cI, 26, .inl (fun _ => 0))), (q36, .inl (cI, 1040, .inl (fun _ => 0))), (q37, .inl (cI, 8, .inl (fun _ => 0))), (q38, .inl (cI, 8, .inl (fun _ => 0))), (q39, .inl (cI, 8, .inl (fun _ => 0))), (q40, .inl (cI, 3, .inl (fun _ => 0)))]) := hD
  refine lv_iinc (v := 2) (lv' := [(1, .int 2), (0, .ref h0)]) hx hb dX12_init_448 hl (k := 0) rfl (by decide) (by decide) rfl (fun ls hl => ?_)
  refine lv_goto (tgt := 435) hx hb dX12_init_451 (by decide) ?_
  refine lv_iload_n hx hb dX12_init_435 rfl (lv_at hl 0 rfl) ?_
  refine lv_bipush (v := 6) hx hb dX12_init_436 (by decide) ?_
  refine lv_icmp_ge (tgt := 454) hx hb dX12_init_438 (by decide) (fun h => absurd h (by decide)) (fun _ => ?_)
  refine lv_aload_n hx hb dX12_init_441 rfl (lv_at hl 1 rfl) ?_
  refine va_get (D := D) (ci := 12) (v := .ref q22) (C := RX12) (T := TX12) (N := 66) hx hb hts m_in hown hK hP 0 rfl rfl 35 (by decide) (hts _ m_l35) (fun _ h9 => h9) (by rw [ef43]; rfl) dX12_init_442 ?_
  refine lv_iload_n hx hb dX12_init_445 rfl (lv_at hl 0 rfl) ?_
  refine lv_iconst (v := (-1)) hx hb dX12_init_446 (by decide) ?_
  refine cm_ist (k := 2) hx hb hK hP hD hS 22 0 rfl rfl (by decide) (inb_vp (by decide)) dX12_init_447 (fun H locs hP hD hS => ?_)
  have hP : va_P D vwCl ((h0, .inr (12, fs43)) :: [(q1, .inl (cS, 2, .inr (.inr (.inr (.inr (va_up (va_up (fun _ => none) 0 (some (aK 28))) 1 (some (aK 29)))))))), (q2, .inl (cS, 6, .inr (.inr (.inr (.inr (va_up (va_up (va_up (va_up (va_up (va_up (fun _ => none) 0 (some (aK 30))) 1 (some (aK 31))) 2 (some (aK 32))) 3 (some (aK 33))) 4 (some (aK 34))) 5 (some (aK 35)))))))), (q3, .inl (cS, 7, .inr (.inr (.inr (.inr (va_up (va_up (va_up (va_up (va_up (va_up (va_up (fun _ => none) 0 (some (aK 30))) 1 (some (aK 31))) 2 (some (aK 32))) 3 (some (aK 33))) 4 (some (aK 34))) 5 (some (aK 35))) 6 (some (aK 36)))))))), (q4, .inl (cI, 12, .inl (upd (fun _ => 0) 2 70))), (q5, .inl (cI, 16, .inl (fun _ => 0))), (q6, .inl (cI, 16, .inl (fun _ => 0))), (q7, .inl (cI, 16, .inl (fun _ => 0))), (q8, .inl (cI, 16, .inl (fun _ => 0))), (q9, .inl (cI, 12, .inl (fun _ => 0))), (q10, .inl (cI, 12, .inl (fun _ => 0))), (q11, .inl (cI, 12, .inl (fun _ => 0))), (q12, .inl (cI, 12, .inl (fun _ => 0))), (q13, .inl (cI, 16, .inl (fun _ => 0))), (q14, .inl (cI, 1400, .inl (fun _ => 0))), (q15, .inl (cI, 1400, .inl (fun _ => 0))), (q16, .inl (cI, 3, .inl (fun _ => 0))), (q17, .inl (cI, 6, .inl (fun _ => 0))), (q18, .inl (cI, 700, .inl (fun _ => 0))), (q19, .inl (cI, 6, .inl (fun _ => 0))), (q20, .inl (cI, 6, .inl (fun _ => 0))), (q21, .inl (cI, 6, .inl (fun _ => 0))), (q22, .inl (cI, 6, .inl (upd (upd (upd (fun _ => 0) 0 (-1)) 1 (-1)) 2 (-1)))), (q23, .inl (cI, 1040, .inl (fun _ => 0))), (q24, .inl (cI, 7, .inl (fun _ => 0))), (q25, .inl (cI, 64, .inl (fun _ => 0))), (q26, .inl (cI, 26, .inl (fun _ => 0))), (q27, .inl (cI, 1792, .inl (fun _ => 0))), (q28, .inl (cI, 8, .inl (fun _ => 0))), (q29, .inl (cI, 8, .inl (fun _ => 0))), (q30, .inl (cI, 8, .inl (fun _ => 0))), (q31, .inl (cI, 26, .inl (fun _ => 0))), (q32, .inl (cI, 60, .inl (fun _ => 0))), (q33, .inl (cI, 1200, .inl (fun _ => 0))), (q34, .inl (cI, 8, .inl (fun _ => 0))), (q35, .inl (cI, 26, .inl (fun _ => 0))), (q36, .inl (cI, 1040, .inl (fun _ => 0))), (q37, .inl (cI, 8, .inl (fun _ => 0))), (q38, .inl (cI, 8, .inl (fun _ => 0))), (q39, .inl (cI, 8, .inl (fun _ => 0))), (q40, .inl (cI, 3, .inl (fun _ => 0)))]) H := hP
  have hD : va_D A ((h0, .inr (12, fs43)) :: [(q1, .inl (cS, 2, .inr (.inr (.inr (.inr (va_up (va_up (fun _ => none) 0 (some (aK 28))) 1 (some (aK 29)))))))), (q2, .inl (cS, 6, .inr (.inr (.inr (.inr (va_up (va_up (va_up (va_up (va_up (va_up (fun _ => none) 0 (some (aK 30))) 1 (some (aK 31))) 2 (some (aK 32))) 3 (some (aK 33))) 4 (some (aK 34))) 5 (some (aK 35)))))))), (q3, .inl (cS, 7, .inr (.inr (.inr (.inr (va_up (va_up (va_up (va_up (va_up (va_up (va_up (fun _ => none) 0 (some (aK 30))) 1 (some (aK 31))) 2 (some (aK 32))) 3 (some (aK 33))) 4 (some (aK 34))) 5 (some (aK 35))) 6 (some (aK 36)))))))), (q4, .inl (cI, 12, .inl (upd (fun _ => 0) 2 70))), (q5, .inl (cI, 16, .inl (fun _ => 0))), (q6, .inl (cI, 16, .inl (fun _ => 0))), (q7, .inl (cI, 16, .inl (fun _ => 0))), (q8, .inl (cI, 16, .inl (fun _ => 0))), (q9, .inl (cI, 12, .inl (fun _ => 0))), (q10, .inl (cI, 12, .inl (fun _ => 0))), (q11, .inl (cI, 12, .inl (fun _ => 0))), (q12, .inl (cI, 12, .inl (fun _ => 0))), (q13, .inl (cI, 16, .inl (fun _ => 0))), (q14, .inl (cI, 1400, .inl (fun _ => 0))), (q15, .inl (cI, 1400, .inl (fun _ => 0))), (q16, .inl (cI, 3, .inl (fun _ => 0))), (q17, .inl (cI, 6, .inl (fun _ => 0))), (q18, .inl (cI, 700, .inl (fun _ => 0))), (q19, .inl (cI, 6, .inl (fun _ => 0))), (q20, .inl (cI, 6, .inl (fun _ => 0))), (q21, .inl (cI, 6, .inl (fun _ => 0))), (q22, .inl (cI, 6, .inl (upd (upd (upd (fun _ => 0) 0 (-1)) 1 (-1)) 2 (-1)))), (q23, .inl (cI, 1040, .inl (fun _ => 0))), (q24, .inl (cI, 7, .inl (fun _ => 0))), (q25, .inl (cI, 64, .inl (fun _ => 0))), (q26, .inl (cI, 26, .inl (fun _ => 0))), (q27, .inl (cI, 1792, .inl (fun _ => 0))), (q28, .inl (cI, 8, .inl (fun _ => 0))), (q29, .inl (cI, 8, .inl (fun _ => 0))), (q30, .inl (cI, 8, .inl (fun _ => 0))), (q31, .inl (cI, 26, .inl (fun _ => 0))), (q32, .inl (cI, 60, .inl (fun _ => 0))), (q33, .inl (cI, 1200, .inl (fun _ => 0))), (q34, .inl (cI, 8, .inl (fun _ => 0))), (q35, .inl (cI, 26, .inl (fun _ => 0))), (q36, .inl (cI, 1040, .inl (fun _ => 0))), (q37, .inl (cI, 8, .inl (fun _ => 0))), (q38, .inl (cI, 8, .inl (fun _ => 0))), (q39, .inl (cI, 8, .inl (fun _ => 0))), (q40, .inl (cI, 3, .inl (fun _ => 0)))]) := hD
  refine lv_iinc (v := 3) (lv' := [(1, .int 3), (0, .ref h0)]) hx hb dX12_init_448 hl (k := 0) rfl (by decide) (by decide) rfl (fun ls hl => ?_)
  refine lv_goto (tgt := 435) hx hb dX12_init_451 (by decide) ?_
  refine lv_iload_n hx hb dX12_init_435 rfl (lv_at hl 0 rfl) ?_
  refine lv_bipush (v := 6) hx hb dX12_init_436 (by decide) ?_
  refine lv_icmp_ge (tgt := 454) hx hb dX12_init_438 (by decide) (fun h => absurd h (by decide)) (fun _ => ?_)
  refine lv_aload_n hx hb dX12_init_441 rfl (lv_at hl 1 rfl) ?_
  refine va_get (D := D) (ci := 12) (v := .ref q22) (C := RX12) (T := TX12) (N := 66) hx hb hts m_in hown hK hP 0 rfl rfl 35 (by decide) (hts _ m_l35) (fun _ h9 => h9) (by rw [ef43]; rfl) dX12_init_442 ?_
  refine lv_iload_n hx hb dX12_init_445 rfl (lv_at hl 0 rfl) ?_
  refine lv_iconst (v := (-1)) hx hb dX12_init_446 (by decide) ?_
  refine cm_ist (k := 3) hx hb hK hP hD hS 22 0 rfl rfl (by decide) (inb_vp (by decide)) dX12_init_447 (fun H locs hP hD hS => ?_)
  have hP : va_P D vwCl ((h0, .inr (12, fs43)) :: [(q1, .inl (cS, 2, .inr (.inr (.inr (.inr (va_up (va_up (fun _ => none) 0 (some (aK 28))) 1 (some (aK 29)))))))), (q2, .inl (cS, 6, .inr (.inr (.inr (.inr (va_up (va_up (va_up (va_up (va_up (va_up (fun _ => none) 0 (some (aK 30))) 1 (some (aK 31))) 2 (some (aK 32))) 3 (some (aK 33))) 4 (some (aK 34))) 5 (some (aK 35)))))))), (q3, .inl (cS, 7, .inr (.inr (.inr (.inr (va_up (va_up (va_up (va_up (va_up (va_up (va_up (fun _ => none) 0 (some (aK 30))) 1 (some (aK 31))) 2 (some (aK 32))) 3 (some (aK 33))) 4 (some (aK 34))) 5 (some (aK 35))) 6 (some (aK 36)))))))), (q4, .inl (cI, 12, .inl (upd (fun _ => 0) 2 70))), (q5, .inl (cI, 16, .inl (fun _ => 0))), (q6, .inl (cI, 16, .inl (fun _ => 0))), (q7, .inl (cI, 16, .inl (fun _ => 0))), (q8, .inl (cI, 16, .inl (fun _ => 0))), (q9, .inl (cI, 12, .inl (fun _ => 0))), (q10, .inl (cI, 12, .inl (fun _ => 0))), (q11, .inl (cI, 12, .inl (fun _ => 0))), (q12, .inl (cI, 12, .inl (fun _ => 0))), (q13, .inl (cI, 16, .inl (fun _ => 0))), (q14, .inl (cI, 1400, .inl (fun _ => 0))), (q15, .inl (cI, 1400, .inl (fun _ => 0))), (q16, .inl (cI, 3, .inl (fun _ => 0))), (q17, .inl (cI, 6, .inl (fun _ => 0))), (q18, .inl (cI, 700, .inl (fun _ => 0))), (q19, .inl (cI, 6, .inl (fun _ => 0))), (q20, .inl (cI, 6, .inl (fun _ => 0))), (q21, .inl (cI, 6, .inl (fun _ => 0))), (q22, .inl (cI, 6, .inl (upd (upd (upd (upd (fun _ => 0) 0 (-1)) 1 (-1)) 2 (-1)) 3 (-1)))), (q23, .inl (cI, 1040, .inl (fun _ => 0))), (q24, .inl (cI, 7, .inl (fun _ => 0))), (q25, .inl (cI, 64, .inl (fun _ => 0))), (q26, .inl (cI, 26, .inl (fun _ => 0))), (q27, .inl (cI, 1792, .inl (fun _ => 0))), (q28, .inl (cI, 8, .inl (fun _ => 0))), (q29, .inl (cI, 8, .inl (fun _ => 0))), (q30, .inl (cI, 8, .inl (fun _ => 0))), (q31, .inl (cI, 26, .inl (fun _ => 0))), (q32, .inl (cI, 60, .inl (fun _ => 0))), (q33, .inl (cI, 1200, .inl (fun _ => 0))), (q34, .inl (cI, 8, .inl (fun _ => 0))), (q35, .inl (cI, 26, .inl (fun _ => 0))), (q36, .inl (cI, 1040, .inl (fun _ => 0))), (q37, .inl (cI, 8, .inl (fun _ => 0))), (q38, .inl (cI, 8, .inl (fun _ => 0))), (q39, .inl (cI, 8, .inl (fun _ => 0))), (q40, .inl (cI, 3, .inl (fun _ => 0)))]) H := hP
  have hD : va_D A ((h0, .inr (12, fs43)) :: [(q1, .inl (cS, 2, .inr (.inr (.inr (.inr (va_up (va_up (fun _ => none) 0 (some (aK 28))) 1 (some (aK 29)))))))), (q2, .inl (cS, 6, .inr (.inr (.inr (.inr (va_up (va_up (va_up (va_up (va_up (va_up (fun _ => none) 0 (some (aK 30))) 1 (some (aK 31))) 2 (some (aK 32))) 3 (some (aK 33))) 4 (some (aK 34))) 5 (some (aK 35)))))))), (q3, .inl (cS, 7, .inr (.inr (.inr (.inr (va_up (va_up (va_up (va_up (va_up (va_up (va_up (fun _ => none) 0 (some (aK 30))) 1 (some (aK 31))) 2 (some (aK 32))) 3 (some (aK 33))) 4 (some (aK 34))) 5 (some (aK 35))) 6 (some (aK 36)))))))), (q4, .inl (cI, 12, .inl (upd (fun _ => 0) 2 70))), (q5, .inl (cI, 16, .inl (fun _ => 0))), (q6, .inl (cI, 16, .inl (fun _ => 0))), (q7, .inl (cI, 16, .inl (fun _ => 0))), (q8, .inl (cI, 16, .inl (fun _ => 0))), (q9, .inl (cI, 12, .inl (fun _ => 0))), (q10, .inl (cI, 12, .inl (fun _ => 0))), (q11, .inl (cI, 12, .inl (fun _ => 0))), (q12, .inl (cI, 12, .inl (fun _ => 0))), (q13, .inl (cI, 16, .inl (fun _ => 0))), (q14, .inl (cI, 1400, .inl (fun _ => 0))), (q15, .inl (cI, 1400, .inl (fun _ => 0))), (q16, .inl (cI, 3, .inl (fun _ => 0))), (q17, .inl (cI, 6, .inl (fun _ => 0))), (q18, .inl (cI, 700, .inl (fun _ => 0))), (q19, .inl (cI, 6, .inl (fun _ => 0))), (q20, .inl (cI, 6, .inl (fun _ => 0))), (q21, .inl (cI, 6, .inl (fun _ => 0))), (q22, .inl (cI, 6, .inl (upd (upd (upd (upd (fun _ => 0) 0 (-1)) 1 (-1)) 2 (-1)) 3 (-1)))), (q23, .inl (cI, 1040, .inl (fun _ => 0))), (q24, .inl (cI, 7, .inl (fun _ => 0))), (q25, .inl (cI, 64, .inl (fun _ => 0))), (q26, .inl (cI, 26, .inl (fun _ => 0))), (q27, .inl (cI, 1792, .inl (fun _ => 0))), (q28, .inl (cI, 8, .inl (fun _ => 0))), (q29, .inl (cI, 8, .inl (fun _ => 0))), (q30, .inl (cI, 8, .inl (fun _ => 0))), (q31, .inl (cI, 26, .inl (fun _ => 0))), (q32, .inl (cI, 60, .inl (fun _ => 0))), (q33, .inl (cI, 1200, .inl (fun _ => 0))), (q34, .inl (cI, 8, .inl (fun _ => 0))), (q35, .inl (cI, 26, .inl (fun _ => 0))), (q36, .inl (cI, 1040, .inl (fun _ => 0))), (q37, .inl (cI, 8, .inl (fun _ => 0))), (q38, .inl (cI, 8, .inl (fun _ => 0))), (q39, .inl (cI, 8, .inl (fun _ => 0))), (q40, .inl (cI, 3, .inl (fun _ => 0)))]) := hD
  refine lv_iinc (v := 4) (lv' := [(1, .int 4), (0, .ref h0)]) hx hb dX12_init_448 hl (k := 0) rfl (by decide) (by decide) rfl (fun ls hl => ?_)
  refine lv_goto (tgt := 435) hx hb dX12_init_451 (by decide) ?_
  refine lv_iload_n hx hb dX12_init_435 rfl (lv_at hl 0 rfl) ?_
  refine lv_bipush (v := 6) hx hb dX12_init_436 (by decide) ?_
  refine lv_icmp_ge (tgt := 454) hx hb dX12_init_438 (by decide) (fun h => absurd h (by decide)) (fun _ => ?_)
  refine lv_aload_n hx hb dX12_init_441 rfl (lv_at hl 1 rfl) ?_
  refine va_get (D := D) (ci := 12) (v := .ref q22) (C := RX12) (T := TX12) (N := 66) hx hb hts m_in hown hK hP 0 rfl rfl 35 (by decide) (hts _ m_l35) (fun _ h9 => h9) (by rw [ef43]; rfl) dX12_init_442 ?_
  refine lv_iload_n hx hb dX12_init_445 rfl (lv_at hl 0 rfl) ?_
  refine lv_iconst (v := (-1)) hx hb dX12_init_446 (by decide) ?_
  refine cm_ist (k := 4) hx hb hK hP hD hS 22 0 rfl rfl (by decide) (inb_vp (by decide)) dX12_init_447 (fun H locs hP hD hS => ?_)
  have hP : va_P D vwCl ((h0, .inr (12, fs43)) :: [(q1, .inl (cS, 2, .inr (.inr (.inr (.inr (va_up (va_up (fun _ => none) 0 (some (aK 28))) 1 (some (aK 29)))))))), (q2, .inl (cS, 6, .inr (.inr (.inr (.inr (va_up (va_up (va_up (va_up (va_up (va_up (fun _ => none) 0 (some (aK 30))) 1 (some (aK 31))) 2 (some (aK 32))) 3 (some (aK 33))) 4 (some (aK 34))) 5 (some (aK 35)))))))), (q3, .inl (cS, 7, .inr (.inr (.inr (.inr (va_up (va_up (va_up (va_up (va_up (va_up (va_up (fun _ => none) 0 (some (aK 30))) 1 (some (aK 31))) 2 (some (aK 32))) 3 (some (aK 33))) 4 (some (aK 34))) 5 (some (aK 35))) 6 (some (aK 36)))))))), (q4, .inl (cI, 12, .inl (upd (fun _ => 0) 2 70))), (q5, .inl (cI, 16, .inl (fun _ => 0))), (q6, .inl (cI, 16, .inl (fun _ => 0))), (q7, .inl (cI, 16, .inl (fun _ => 0))), (q8, .inl (cI, 16, .inl (fun _ => 0))), (q9, .inl (cI, 12, .inl (fun _ => 0))), (q10, .inl (cI, 12, .inl (fun _ => 0))), (q11, .inl (cI, 12, .inl (fun _ => 0))), (q12, .inl (cI, 12, .inl (fun _ => 0))), (q13, .inl (cI, 16, .inl (fun _ => 0))), (q14, .inl (cI, 1400, .inl (fun _ => 0))), (q15, .inl (cI, 1400, .inl (fun _ => 0))), (q16, .inl (cI, 3, .inl (fun _ => 0))), (q17, .inl (cI, 6, .inl (fun _ => 0))), (q18, .inl (cI, 700, .inl (fun _ => 0))), (q19, .inl (cI, 6, .inl (fun _ => 0))), (q20, .inl (cI, 6, .inl (fun _ => 0))), (q21, .inl (cI, 6, .inl (fun _ => 0))), (q22, .inl (cI, 6, .inl (upd (upd (upd (upd (upd (fun _ => 0) 0 (-1)) 1 (-1)) 2 (-1)) 3 (-1)) 4 (-1)))), (q23, .inl (cI, 1040, .inl (fun _ => 0))), (q24, .inl (cI, 7, .inl (fun _ => 0))), (q25, .inl (cI, 64, .inl (fun _ => 0))), (q26, .inl (cI, 26, .inl (fun _ => 0))), (q27, .inl (cI, 1792, .inl (fun _ => 0))), (q28, .inl (cI, 8, .inl (fun _ => 0))), (q29, .inl (cI, 8, .inl (fun _ => 0))), (q30, .inl (cI, 8, .inl (fun _ => 0))), (q31, .inl (cI, 26, .inl (fun _ => 0))), (q32, .inl (cI, 60, .inl (fun _ => 0))), (q33, .inl (cI, 1200, .inl (fun _ => 0))), (q34, .inl (cI, 8, .inl (fun _ => 0))), (q35, .inl (cI, 26, .inl (fun _ => 0))), (q36, .inl (cI, 1040, .inl (fun _ => 0))), (q37, .inl (cI, 8, .inl (fun _ => 0))), (q38, .inl (cI, 8, .inl (fun _ => 0))), (q39, .inl (cI, 8, .inl (fun _ => 0))), (q40, .inl (cI, 3, .inl (fun _ => 0)))]) H := hP
  have hD : va_D A ((h0, .inr (12, fs43)) :: [(q1, .inl (cS, 2, .inr (.inr (.inr (.inr (va_up (va_up (fun _ => none) 0 (some (aK 28))) 1 (some (aK 29)))))))), (q2, .inl (cS, 6, .inr (.inr (.inr (.inr (va_up (va_up (va_up (va_up (va_up (va_up (fun _ => none) 0 (some (aK 30))) 1 (some (aK 31))) 2 (some (aK 32))) 3 (some (aK 33))) 4 (some (aK 34))) 5 (some (aK 35)))))))), (q3, .inl (cS, 7, .inr (.inr (.inr (.inr (va_up (va_up (va_up (va_up (va_up (va_up (va_up (fun _ => none) 0 (some (aK 30))) 1 (some (aK 31))) 2 (some (aK 32))) 3 (some (aK 33))) 4 (some (aK 34))) 5 (some (aK 35))) 6 (some (aK 36)))))))), (q4, .inl (cI, 12, .inl (upd (fun _ => 0) 2 70))), (q5, .inl (cI, 16, .inl (fun _ => 0))), (q6, .inl (cI, 16, .inl (fun _ => 0))), (q7, .inl (cI, 16, .inl (fun _ => 0))), (q8, .inl (cI, 16, .inl (fun _ => 0))), (q9, .inl (cI, 12, .inl (fun _ => 0))), (q10, .inl (cI, 12, .inl (fun _ => 0))), (q11, .inl (cI, 12, .inl (fun _ => 0))), (q12, .inl (cI, 12, .inl (fun _ => 0))), (q13, .inl (cI, 16, .inl (fun _ => 0))), (q14, .inl (cI, 1400, .inl (fun _ => 0))), (q15, .inl (cI, 1400, .inl (fun _ => 0))), (q16, .inl (cI, 3, .inl (fun _ => 0))), (q17, .inl (cI, 6, .inl (fun _ => 0))), (q18, .inl (cI, 700, .inl (fun _ => 0))), (q19, .inl (cI, 6, .inl (fun _ => 0))), (q20, .inl (cI, 6, .inl (fun _ => 0))), (q21, .inl (cI, 6, .inl (fun _ => 0))), (q22, .inl (cI, 6, .inl (upd (upd (upd (upd (upd (fun _ => 0) 0 (-1)) 1 (-1)) 2 (-1)) 3 (-1)) 4 (-1)))), (q23, .inl (cI, 1040, .inl (fun _ => 0))), (q24, .inl (cI, 7, .inl (fun _ => 0))), (q25, .inl (cI, 64, .inl (fun _ => 0))), (q26, .inl (cI, 26, .inl (fun _ => 0))), (q27, .inl (cI, 1792, .inl (fun _ => 0))), (q28, .inl (cI, 8, .inl (fun _ => 0))), (q29, .inl (cI, 8, .inl (fun _ => 0))), (q30, .inl (cI, 8, .inl (fun _ => 0))), (q31, .inl (cI, 26, .inl (fun _ => 0))), (q32, .inl (cI, 60, .inl (fun _ => 0))), (q33, .inl (cI, 1200, .inl (fun _ => 0))), (q34, .inl (cI, 8, .inl (fun _ => 0))), (q35, .inl (cI, 26, .inl (fun _ => 0))), (q36, .inl (cI, 1040, .inl (fun _ => 0))), (q37, .inl (cI, 8, .inl (fun _ => 0))), (q38, .inl (cI, 8, .inl (fun _ => 0))), (q39, .inl (cI, 8, .inl (fun _ => 0))), (q40, .inl (cI, 3, .inl (fun _ => 0)))]) := hD
  refine lv_iinc (v := 5) (lv' := [(1, .int 5), (0, .ref h0)]) hx hb dX12_init_448 hl (k := 0) rfl (by decide) (by decide) rfl (fun ls hl => ?_)
  refine lv_goto (tgt := 435) hx hb dX12_init_451 (by decide) ?_
  refine lv_iload_n hx hb dX12_init_435 rfl (lv_at hl 0 rfl) ?_
  refine lv_bipush (v := 6) hx hb dX12_init_436 (by decide) ?_
  refine lv_icmp_ge (tgt := 454) hx hb dX12_init_438 (by decide) (fun h => absurd h (by decide)) (fun _ => ?_)
  refine lv_aload_n hx hb dX12_init_441 rfl (lv_at hl 1 rfl) ?_
  refine va_get (D := D) (ci := 12) (v := .ref q22) (C := RX12) (T := TX12) (N := 66) hx hb hts m_in hown hK hP 0 rfl rfl 35 (by decide) (hts _ m_l35) (fun _ h9 => h9) (by rw [ef43]; rfl) dX12_init_442 ?_
  refine lv_iload_n hx hb dX12_init_445 rfl (lv_at hl 0 rfl) ?_
  refine lv_iconst (v := (-1)) hx hb dX12_init_446 (by decide) ?_
  refine cm_ist (k := 5) hx hb hK hP hD hS 22 0 rfl rfl (by decide) (inb_vp (by decide)) dX12_init_447 (fun H locs hP hD hS => ?_)
  have hP : va_P D vwCl ((h0, .inr (12, fs43)) :: [(q1, .inl (cS, 2, .inr (.inr (.inr (.inr (va_up (va_up (fun _ => none) 0 (some (aK 28))) 1 (some (aK 29)))))))), (q2, .inl (cS, 6, .inr (.inr (.inr (.inr (va_up (va_up (va_up (va_up (va_up (va_up (fun _ => none) 0 (some (aK 30))) 1 (some (aK 31))) 2 (some (aK 32))) 3 (some (aK 33))) 4 (some (aK 34))) 5 (some (aK 35)))))))), (q3, .inl (cS, 7, .inr (.inr (.inr (.inr (va_up (va_up (va_up (va_up (va_up (va_up (va_up (fun _ => none) 0 (some (aK 30))) 1 (some (aK 31))) 2 (some (aK 32))) 3 (some (aK 33))) 4 (some (aK 34))) 5 (some (aK 35))) 6 (some (aK 36)))))))), (q4, .inl (cI, 12, .inl (upd (fun _ => 0) 2 70))), (q5, .inl (cI, 16, .inl (fun _ => 0))), (q6, .inl (cI, 16, .inl (fun _ => 0))), (q7, .inl (cI, 16, .inl (fun _ => 0))), (q8, .inl (cI, 16, .inl (fun _ => 0))), (q9, .inl (cI, 12, .inl (fun _ => 0))), (q10, .inl (cI, 12, .inl (fun _ => 0))), (q11, .inl (cI, 12, .inl (fun _ => 0))), (q12, .inl (cI, 12, .inl (fun _ => 0))), (q13, .inl (cI, 16, .inl (fun _ => 0))), (q14, .inl (cI, 1400, .inl (fun _ => 0))), (q15, .inl (cI, 1400, .inl (fun _ => 0))), (q16, .inl (cI, 3, .inl (fun _ => 0))), (q17, .inl (cI, 6, .inl (fun _ => 0))), (q18, .inl (cI, 700, .inl (fun _ => 0))), (q19, .inl (cI, 6, .inl (fun _ => 0))), (q20, .inl (cI, 6, .inl (fun _ => 0))), (q21, .inl (cI, 6, .inl (fun _ => 0))), (q22, .inl (cI, 6, .inl (upd (upd (upd (upd (upd (upd (fun _ => 0) 0 (-1)) 1 (-1)) 2 (-1)) 3 (-1)) 4 (-1)) 5 (-1)))), (q23, .inl (cI, 1040, .inl (fun _ => 0))), (q24, .inl (cI, 7, .inl (fun _ => 0))), (q25, .inl (cI, 64, .inl (fun _ => 0))), (q26, .inl (cI, 26, .inl (fun _ => 0))), (q27, .inl (cI, 1792, .inl (fun _ => 0))), (q28, .inl (cI, 8, .inl (fun _ => 0))), (q29, .inl (cI, 8, .inl (fun _ => 0))), (q30, .inl (cI, 8, .inl (fun _ => 0))), (q31, .inl (cI, 26, .inl (fun _ => 0))), (q32, .inl (cI, 60, .inl (fun _ => 0))), (q33, .inl (cI, 1200, .inl (fun _ => 0))), (q34, .inl (cI, 8, .inl (fun _ => 0))), (q35, .inl (cI, 26, .inl (fun _ => 0))), (q36, .inl (cI, 1040, .inl (fun _ => 0))), (q37, .inl (cI, 8, .inl (fun _ => 0))), (q38, .inl (cI, 8, .inl (fun _ => 0))), (q39, .inl (cI, 8, .inl (fun _ => 0))), (q40, .inl (cI, 3, .inl (fun _ => 0)))]) H := hP
  have hD : va_D A ((h0, .inr (12, fs43)) :: [(q1, .inl (cS, 2, .inr (.inr (.inr (.inr (va_up (va_up (fun _ => none) 0 (some (aK 28))) 1 (some (aK 29)))))))), (q2, .inl (cS, 6, .inr (.inr (.inr (.inr (va_up (va_up (va_up (va_up (va_up (va_up (fun _ => none) 0 (some (aK 30))) 1 (some (aK 31))) 2 (some (aK 32))) 3 (some (aK 33))) 4 (some (aK 34))) 5 (some (aK 35)))))))), (q3, .inl (cS, 7, .inr (.inr (.inr (.inr (va_up (va_up (va_up (va_up (va_up (va_up (va_up (fun _ => none) 0 (some (aK 30))) 1 (some (aK 31))) 2 (some (aK 32))) 3 (some (aK 33))) 4 (some (aK 34))) 5 (some (aK 35))) 6 (some (aK 36)))))))), (q4, .inl (cI, 12, .inl (upd (fun _ => 0) 2 70))), (q5, .inl (cI, 16, .inl (fun _ => 0))), (q6, .inl (cI, 16, .inl (fun _ => 0))), (q7, .inl (cI, 16, .inl (fun _ => 0))), (q8, .inl (cI, 16, .inl (fun _ => 0))), (q9, .inl (cI, 12, .inl (fun _ => 0))), (q10, .inl (cI, 12, .inl (fun _ => 0))), (q11, .inl (cI, 12, .inl (fun _ => 0))), (q12, .inl (cI, 12, .inl (fun _ => 0))), (q13, .inl (cI, 16, .inl (fun _ => 0))), (q14, .inl (cI, 1400, .inl (fun _ => 0))), (q15, .inl (cI, 1400, .inl (fun _ => 0))), (q16, .inl (cI, 3, .inl (fun _ => 0))), (q17, .inl (cI, 6, .inl (fun _ => 0))), (q18, .inl (cI, 700, .inl (fun _ => 0))), (q19, .inl (cI, 6, .inl (fun _ => 0))), (q20, .inl (cI, 6, .inl (fun _ => 0))), (q21, .inl (cI, 6, .inl (fun _ => 0))), (q22, .inl (cI, 6, .inl (upd (upd (upd (upd (upd (upd (fun _ => 0) 0 (-1)) 1 (-1)) 2 (-1)) 3 (-1)) 4 (-1)) 5 (-1)))), (q23, .inl (cI, 1040, .inl (fun _ => 0))), (q24, .inl (cI, 7, .inl (fun _ => 0))), (q25, .inl (cI, 64, .inl (fun _ => 0))), (q26, .inl (cI, 26, .inl (fun _ => 0))), (q27, .inl (cI, 1792, .inl (fun _ => 0))), (q28, .inl (cI, 8, .inl (fun _ => 0))), (q29, .inl (cI, 8, .inl (fun _ => 0))), (q30, .inl (cI, 8, .inl (fun _ => 0))), (q31, .inl (cI, 26, .inl (fun _ => 0))), (q32, .inl (cI, 60, .inl (fun _ => 0))), (q33, .inl (cI, 1200, .inl (fun _ => 0))), (q34, .inl (cI, 8, .inl (fun _ => 0))), (q35, .inl (cI, 26, .inl (fun _ => 0))), (q36, .inl (cI, 1040, .inl (fun _ => 0))), (q37, .inl (cI, 8, .inl (fun _ => 0))), (q38, .inl (cI, 8, .inl (fun _ => 0))), (q39, .inl (cI, 8, .inl (fun _ => 0))), (q40, .inl (cI, 3, .inl (fun _ => 0)))]) := hD
  refine lv_iinc (v := 6) (lv' := [(1, .int 6), (0, .ref h0)]) hx hb dX12_init_448 hl (k := 0) rfl (by decide) (by decide) rfl (fun ls hl => ?_)
  refine lv_goto (tgt := 435) hx hb dX12_init_451 (by decide) ?_
  refine lv_iload_n hx hb dX12_init_435 rfl (lv_at hl 0 rfl) ?_
  refine lv_bipush (v := 6) hx hb dX12_init_436 (by decide) ?_
  refine lv_icmp_ge (tgt := 454) hx hb dX12_init_438 (by decide) (fun _ => ?_) (fun h => absurd (by decide) h)
  have es0 : (va_up (va_up (fun _ => none) 0 (some (aK 28))) 1 (some (aK 29))) = msa aK 0 := by
    funext j
    unfold msa
    by_cases h : j < 2
    · rw [if_pos (show j < mN 0 from h)]
      rcases (show j = 0 ∨ j = 1 by omega) with rfl | rfl <;> rfl
    · rw [if_neg (show ¬ j < mN 0 from h)]
      simp only [va_up]
      rw [if_neg (by omega), if_neg (by omega)]
  have es1 : (va_up (va_up (va_up (va_up (va_up (va_up (fun _ => none) 0 (some (aK 30))) 1 (some (aK 31))) 2 (some (aK 32))) 3 (some (aK 33))) 4 (some (aK 34))) 5 (some (aK 35))) = msa aK 1 := by
    funext j
    unfold msa
    by_cases h : j < 6
    · rw [if_pos (show j < mN 1 from h)]
      rcases (show j = 0 ∨ j = 1 ∨ j = 2 ∨ j = 3 ∨ j = 4 ∨ j = 5 by omega) with rfl | rfl | rfl | rfl | rfl | rfl <;> rfl
    · rw [if_neg (show ¬ j < mN 1 from h)]
      simp only [va_up]
      rw [if_neg (by omega), if_neg (by omega), if_neg (by omega), if_neg (by omega), if_neg (by omega), if_neg (by omega)]
  have es2 : (va_up (va_up (va_up (va_up (va_up (va_up (va_up (fun _ => none) 0 (some (aK 30))) 1 (some (aK 31))) 2 (some (aK 32))) 3 (some (aK 33))) 4 (some (aK 34))) 5 (some (aK 35))) 6 (some (aK 36))) = msa aK 2 := by
    funext j
    unfold msa
    by_cases h : j < 7
    · rw [if_pos (show j < mN 2 from h)]
      rcases (show j = 0 ∨ j = 1 ∨ j = 2 ∨ j = 3 ∨ j = 4 ∨ j = 5 ∨ j = 6 by omega) with rfl | rfl | rfl | rfl | rfl | rfl | rfl <;> rfl
    · rw [if_neg (show ¬ j < mN 2 from h)]
      simp only [va_up]
      rw [if_neg (by omega), if_neg (by omega), if_neg (by omega), if_neg (by omega), if_neg (by omega), if_neg (by omega), if_neg (by omega)]
  have eb : ([(q1, .inl (cS, 2, .inr (.inr (.inr (.inr (va_up (va_up (fun _ => none) 0 (some (aK 28))) 1 (some (aK 29)))))))), (q2, .inl (cS, 6, .inr (.inr (.inr (.inr (va_up (va_up (va_up (va_up (va_up (va_up (fun _ => none) 0 (some (aK 30))) 1 (some (aK 31))) 2 (some (aK 32))) 3 (some (aK 33))) 4 (some (aK 34))) 5 (some (aK 35)))))))), (q3, .inl (cS, 7, .inr (.inr (.inr (.inr (va_up (va_up (va_up (va_up (va_up (va_up (va_up (fun _ => none) 0 (some (aK 30))) 1 (some (aK 31))) 2 (some (aK 32))) 3 (some (aK 33))) 4 (some (aK 34))) 5 (some (aK 35))) 6 (some (aK 36)))))))), (q4, .inl (cI, 12, .inl (upd (fun _ => 0) 2 70))), (q5, .inl (cI, 16, .inl (fun _ => 0))), (q6, .inl (cI, 16, .inl (fun _ => 0))), (q7, .inl (cI, 16, .inl (fun _ => 0))), (q8, .inl (cI, 16, .inl (fun _ => 0))), (q9, .inl (cI, 12, .inl (fun _ => 0))), (q10, .inl (cI, 12, .inl (fun _ => 0))), (q11, .inl (cI, 12, .inl (fun _ => 0))), (q12, .inl (cI, 12, .inl (fun _ => 0))), (q13, .inl (cI, 16, .inl (fun _ => 0))), (q14, .inl (cI, 1400, .inl (fun _ => 0))), (q15, .inl (cI, 1400, .inl (fun _ => 0))), (q16, .inl (cI, 3, .inl (fun _ => 0))), (q17, .inl (cI, 6, .inl (fun _ => 0))), (q18, .inl (cI, 700, .inl (fun _ => 0))), (q19, .inl (cI, 6, .inl (fun _ => 0))), (q20, .inl (cI, 6, .inl (fun _ => 0))), (q21, .inl (cI, 6, .inl (fun _ => 0))), (q22, .inl (cI, 6, .inl (upd (upd (upd (upd (upd (upd (fun _ => 0) 0 (-1)) 1 (-1)) 2 (-1)) 3 (-1)) 4 (-1)) 5 (-1)))), (q23, .inl (cI, 1040, .inl (fun _ => 0))), (q24, .inl (cI, 7, .inl (fun _ => 0))), (q25, .inl (cI, 64, .inl (fun _ => 0))), (q26, .inl (cI, 26, .inl (fun _ => 0))), (q27, .inl (cI, 1792, .inl (fun _ => 0))), (q28, .inl (cI, 8, .inl (fun _ => 0))), (q29, .inl (cI, 8, .inl (fun _ => 0))), (q30, .inl (cI, 8, .inl (fun _ => 0))), (q31, .inl (cI, 26, .inl (fun _ => 0))), (q32, .inl (cI, 60, .inl (fun _ => 0))), (q33, .inl (cI, 1200, .inl (fun _ => 0))), (q34, .inl (cI, 8, .inl (fun _ => 0))), (q35, .inl (cI, 26, .inl (fun _ => 0))), (q36, .inl (cI, 1040, .inl (fun _ => 0))), (q37, .inl (cI, 8, .inl (fun _ => 0))), (q38, .inl (cI, 8, .inl (fun _ => 0))), (q39, .inl (cI, 8, .inl (fun _ => 0))), (q40, .inl (cI, 3, .inl (fun _ => 0)))] : va_W) = [(q1, .inl (cS, 2, .inr (.inr (.inr (.inr (msa aK 0)))))), (q2, .inl (cS, 6, .inr (.inr (.inr (.inr (msa aK 1)))))), (q3, .inl (cS, 7, .inr (.inr (.inr (.inr (msa aK 2)))))), (q4, .inl (cI, 12, .inl (upd (fun _ => 0) 2 70))), (q5, .inl (cI, 16, .inl (fun _ => 0))), (q6, .inl (cI, 16, .inl (fun _ => 0))), (q7, .inl (cI, 16, .inl (fun _ => 0))), (q8, .inl (cI, 16, .inl (fun _ => 0))), (q9, .inl (cI, 12, .inl (fun _ => 0))), (q10, .inl (cI, 12, .inl (fun _ => 0))), (q11, .inl (cI, 12, .inl (fun _ => 0))), (q12, .inl (cI, 12, .inl (fun _ => 0))), (q13, .inl (cI, 16, .inl (fun _ => 0))), (q14, .inl (cI, 1400, .inl (fun _ => 0))), (q15, .inl (cI, 1400, .inl (fun _ => 0))), (q16, .inl (cI, 3, .inl (fun _ => 0))), (q17, .inl (cI, 6, .inl (fun _ => 0))), (q18, .inl (cI, 700, .inl (fun _ => 0))), (q19, .inl (cI, 6, .inl (fun _ => 0))), (q20, .inl (cI, 6, .inl (fun _ => 0))), (q21, .inl (cI, 6, .inl (fun _ => 0))), (q22, .inl (cI, 6, .inl (upd (upd (upd (upd (upd (upd (fun _ => 0) 0 (-1)) 1 (-1)) 2 (-1)) 3 (-1)) 4 (-1)) 5 (-1)))), (q23, .inl (cI, 1040, .inl (fun _ => 0))), (q24, .inl (cI, 7, .inl (fun _ => 0))), (q25, .inl (cI, 64, .inl (fun _ => 0))), (q26, .inl (cI, 26, .inl (fun _ => 0))), (q27, .inl (cI, 1792, .inl (fun _ => 0))), (q28, .inl (cI, 8, .inl (fun _ => 0))), (q29, .inl (cI, 8, .inl (fun _ => 0))), (q30, .inl (cI, 8, .inl (fun _ => 0))), (q31, .inl (cI, 26, .inl (fun _ => 0))), (q32, .inl (cI, 60, .inl (fun _ => 0))), (q33, .inl (cI, 1200, .inl (fun _ => 0))), (q34, .inl (cI, 8, .inl (fun _ => 0))), (q35, .inl (cI, 26, .inl (fun _ => 0))), (q36, .inl (cI, 1040, .inl (fun _ => 0))), (q37, .inl (cI, 8, .inl (fun _ => 0))), (q38, .inl (cI, 8, .inl (fun _ => 0))), (q39, .inl (cI, 8, .inl (fun _ => 0))), (q40, .inl (cI, 3, .inl (fun _ => 0)))] := by rw [es2, es1, es0]
  have hP := cm_eqF ef43 (cm_eqP eb hP)
  have hD := cm_eqG ef43 (cm_eqD eb hD)
  have hP8 := hP.sub (ws' := gw (mcell (fun i => if i = 0 then q1 else if i = 1 then q2 else if i = 2 then q3 else if i = 5 then q4 else if i = 6 then q5 else if i = 7 then q6 else if i = 8 then q7 else if i = 9 then q8 else if i = 10 then q9 else if i = 11 then q10 else if i = 12 then q11 else if i = 13 then q12 else if i = 14 then q13 else if i = 15 then q14 else if i = 16 then q15 else if i = 17 then q16 else if i = 18 then q17 else if i = 19 then q18 else if i = 32 then q19 else if i = 33 then q20 else if i = 34 then q21 else if i = 35 then q22 else if i = 36 then q23 else if i = 42 then q24 else if i = 43 then q25 else if i = 46 then q26 else if i = 47 then q27 else if i = 48 then q28 else if i = 49 then q29 else if i = 50 then q30 else if i = 51 then q31 else if i = 52 then q32 else if i = 53 then q33 else if i = 55 then q34 else if i = 60 then q35 else if i = 61 then q36 else if i = 62 then q37 else if i = 63 then q38 else if i = 64 then q39 else if i = 65 then q40 else h0) cI cS (msa aK)) mord mS0) [0, 4, 5, 6, 7, 8, 9, 10, 11, 12, 13, 14, 15, 16, 17, 18, 19, 20, 21, 22, 23, 24, 25, 26, 27, 28, 29, 30, 31, 32, 33, 34, 35, 36, 37, 38, 39, 40, 1, 2, 3] rfl
  have hD8 := hD.sub (ws' := gw (mcell (fun i => if i = 0 then q1 else if i = 1 then q2 else if i = 2 then q3 else if i = 5 then q4 else if i = 6 then q5 else if i = 7 then q6 else if i = 8 then q7 else if i = 9 then q8 else if i = 10 then q9 else if i = 11 then q10 else if i = 12 then q11 else if i = 13 then q12 else if i = 14 then q13 else if i = 15 then q14 else if i = 16 then q15 else if i = 17 then q16 else if i = 18 then q17 else if i = 19 then q18 else if i = 32 then q19 else if i = 33 then q20 else if i = 34 then q21 else if i = 35 then q22 else if i = 36 then q23 else if i = 42 then q24 else if i = 43 then q25 else if i = 46 then q26 else if i = 47 then q27 else if i = 48 then q28 else if i = 49 then q29 else if i = 50 then q30 else if i = 51 then q31 else if i = 52 then q32 else if i = 53 then q33 else if i = 55 then q34 else if i = 60 then q35 else if i = 61 then q36 else if i = 62 then q37 else if i = 63 then q38 else if i = 64 then q39 else if i = 65 then q40 else h0) cI cS (msa aK)) mord mS0) [0, 4, 5, 6, 7, 8, 9, 10, 11, 12, 13, 14, 15, 16, 17, 18, 19, 20, 21, 22, 23, 24, 25, 26, 27, 28, 29, 30, 31, 32, 33, 34, 35, 36, 37, 38, 39, 40, 1, 2, 3] (by decide) rfl
  exact W.vret hx hb hr (fun t ht hW => ⟨⟨(fun i => if i = 0 then q1 else if i = 1 then q2 else if i = 2 then q3 else if i = 5 then q4 else if i = 6 then q5 else if i = 7 then q6 else if i = 8 then q7 else if i = 9 then q8 else if i = 10 then q9 else if i = 11 then q10 else if i = 12 then q11 else if i = 13 then q12 else if i = 14 then q13 else if i = 15 then q14 else if i = 16 then q15 else if i = 17 then q16 else if i = 18 then q17 else if i = 19 then q18 else if i = 32 then q19 else if i = 33 then q20 else if i = 34 then q21 else if i = 35 then q22 else if i = 36 then q23 else if i = 42 then q24 else if i = 43 then q25 else if i = 46 then q26 else if i = 47 then q27 else if i = 48 then q28 else if i = 49 then q29 else if i = 50 then q30 else if i = 51 then q31 else if i = 52 then q32 else if i = 53 then q33 else if i = 55 then q34 else if i = 60 then q35 else if i = 61 then q36 else if i = 62 then q37 else if i = 63 then q38 else if i = 64 then q39 else if i = 65 then q40 else h0), rfl, trivial, rfl, by rw [ht]; exact hP8, va_K.moved hW.alike hK, hD8⟩, hS.F ht⟩) hS.2.2 dX12_init_454 hlocks
end

/-! part 24.astart -/
section
/-! what the law's start gives: classes and array classes (printed by wip/whole/mkstart.py) -/
theorem st_w12 : Cond.instantiable RX12 66 ∈ gT ∧ Cond.initialized RX12 ∈ gT := ⟨gT_c6 145 rfl rfl, gT_c1 13 rfl rfl⟩
theorem st_wl : Cond.classLink RL 8 RX11 ∈ gT ∧ Cond.classLink RL 109 RX12 ∈ gT ∧ Cond.methodLink RL 108 yX11_init ∈ gT ∧ Cond.methodLink RL 111 yX12_init ∈ gT := ⟨gT_c1 27 rfl rfl, gT_c6 144 rfl rfl, gT_c1 29 rfl rfl, gT_c6 146 rfl rfl⟩
theorem st_wa : Cond.arrayClass .int ∈ gT ∧ Cond.arrayClass .byte ∈ gT ∧ Cond.arrayClass .boolean ∈ gT ∧ Cond.arrayClass .long ∈ gT := ⟨gT_c1 100 rfl rfl, gT_c1 73 rfl rfl, gT_c1 101 rfl rfl, gT_c9 77 rfl rfl⟩
theorem st_wo : Cond.arrayOver (.array .int) ∈ lw_tbl ∧ Cond.arrayOver (.object "java/lang/String") ∈ lw_tbl := ⟨List.mem_of_getElem? (i := 456) (by decide +kernel), List.mem_of_getElem? (i := 1457) (by decide +kernel)⟩
theorem st_arr {s : State} {args : Array Value} {ty : FieldType} (h : (Cond.arrayClass ty).before args s = true) (hn : ∀ C, ty ≠ .object C) : ∃ cA : ClassId, ArrOfT s cA ty ∧ va_RA s cA ty := by
  obtain ⟨cA, kA, comp, h1, h2, h3⟩ := Cond.arrayClass_spec h
  refine ⟨cA, fun n z => ⟨fun k h => (by cases h), kA, h2, comp, h3⟩, ?_⟩
  cases ty with
  | object C => exact absurd rfl (hn C)
  | _ => exact h1
theorem st_K {s : State} {args : Array Value} (hts : ∀ w ∈ gT, w.before args s = true) (hB : (Cond.arrayOver (.array .int)).before args s = true) (hS : (Cond.arrayOver (.object "java/lang/String")).before args s = true) : ∃ (D : va_G) (cI cB cZ cQ cS cJ : ClassId), va_K D vwCl (xtys cI cB cZ cQ) s ∧ va_K D vwCl (mtys cI cS) s ∧ va_K D vwCl [(cJ, .long)] s := by
  obtain ⟨c0, i0, k0⟩ := u_known (C := RX0) (T := TX0) (N := 2) (n := 2) hts x_in0 (hts _ c_is0.1)
  obtain ⟨c1, i1, k1⟩ := u_known (C := RX1) (T := TX1) (N := 4) (n := 4) hts x_in1 (hts _ c_is1.1)
  obtain ⟨c2, i2, k2⟩ := u_known (C := RX2) (T := TX2) (N := 6) (n := 6) hts x_in2 (hts _ c_is2.1)
  obtain ⟨c3, i3, k3⟩ := u_known (C := RX3) (T := TX3) (N := 4) (n := 4) hts x_in3 (hts _ c_is3.1)
  obtain ⟨c4, i4, k4⟩ := u_known (C := RX4) (T := TX4) (N := 4) (n := 4) hts x_in4 (hts _ c_is4.1)
  obtain ⟨c5, i5, k5⟩ := u_known (C := RX5) (T := TX5) (N := 4) (n := 4) hts x_in5 (hts _ c_is5.1)
  obtain ⟨c6, i6, k6⟩ := u_known (C := RX6) (T := TX6) (N := 4) (n := 4) hts x_in6 (hts _ c_is6.1)
  obtain ⟨c7, i7, k7⟩ := u_known (C := RX7) (T := TX7) (N := 6) (n := 6) hts x_in7 (hts _ c_is7.1)
  obtain ⟨c8, i8, k8⟩ := u_known (C := RX8) (T := TX8) (N := 7) (n := 7) hts x_in8 (hts _ c_is8.1)
  obtain ⟨c9, i9, k9⟩ := u_known (C := RX9) (T := TX9) (N := 15) (n := 15) hts x_in9 (hts _ c_is9.1)
  obtain ⟨c10, i10, k10⟩ := u_known (C := RX10) (T := TX10) (N := 8) (n := 8) hts x_in10 (hts _ c_is10.1)
  obtain ⟨c11, i11, k11⟩ := u_known (C := RX11) (T := TX11) (N := 10) (n := 10) hts x_in11 (hts _ c_is11.1)
  obtain ⟨c12, i12, k12⟩ := u_known (C := RX12) (T := TX12) (N := 66) (n := 66) hts m_in (hts _ st_w12.1)
  obtain ⟨cI, aI, bI⟩ := st_arr (hts _ st_wa.1) (fun C h => by cases h)
  obtain ⟨cB, aB, bB⟩ := st_arr (hts _ st_wa.2.1) (fun C h => by cases h)
  obtain ⟨cZ, aZ, bZ⟩ := st_arr (hts _ st_wa.2.2.1) (fun C h => by cases h)
  obtain ⟨cJ, aJ, bJ⟩ := st_arr (hts _ st_wa.2.2.2) (fun C h => by cases h)
  obtain ⟨cq, cQ, kQ, q1, q2, q3, q4, q5⟩ := aoa_spec (t := .int) (u := s) hB
  obtain ⟨cs, cS, kS, s1, s2, s3, s4, s5⟩ := Cond.arrayOver_spec hS
  have aQ : ArrOfT s cQ (.array .int) := fun n z => ⟨fun k h => (by cases h), kQ, q3, cq, q4⟩
  have bQ : va_RA s cQ (.array .int) := q5
  have aS : ArrOfT s cS (.object "java/lang/String") := fun n z => ⟨fun k h => (by cases h), kS, s3, cs, s4⟩
  have bS : va_RA s cS (.object "java/lang/String") := ⟨kS, cs, s3, s4, s1, s5⟩
  have hC : ∀ (k : Nat) (q : vw_C), vwCl[k]? = some q → u_Kn s q.1 q.2.1 q.2.2 ([c0, c1, c2, c3, c4, c5, c6, c7, c8, c9, c10, c11, c12].getD k c0) ([i0, i1, i2, i3, i4, i5, i6, i7, i8, i9, i10, i11, i12].getD k i0) := by
    intro k q hq
    match k, hq with
    | 0, hq => cases hq; exact k0
    | 1, hq => cases hq; exact k1
    | 2, hq => cases hq; exact k2
    | 3, hq => cases hq; exact k3
    | 4, hq => cases hq; exact k4
    | 5, hq => cases hq; exact k5
    | 6, hq => cases hq; exact k6
    | 7, hq => cases hq; exact k7
    | 8, hq => cases hq; exact k8
    | 9, hq => cases hq; exact k9
    | 10, hq => cases hq; exact k10
    | 11, hq => cases hq; exact k11
    | 12, hq => cases hq; exact k12
    | k + 13, hq => simp [vwCl] at hq
  refine ⟨(fun k => [c0, c1, c2, c3, c4, c5, c6, c7, c8, c9, c10, c11, c12].getD k c0, fun k => [i0, i1, i2, i3, i4, i5, i6, i7, i8, i9, i10, i11, i12].getD k i0), cI, cB, cZ, cQ, cS, cJ, ⟨hC, ?_⟩, ⟨hC, ?_⟩, ⟨hC, ?_⟩⟩
  · intro k q hq
    match k, hq with
    | 0, hq => cases hq; exact ⟨aI, bI⟩
    | 1, hq => cases hq; exact ⟨aB, bB⟩
    | 2, hq => cases hq; exact ⟨aZ, bZ⟩
    | 3, hq => cases hq; exact ⟨aQ, bQ⟩
    | k + 4, hq => simp at hq
  · intro k q hq
    match k, hq with
    | 0, hq => cases hq; exact ⟨aI, bI⟩
    | 1, hq => cases hq; exact ⟨aS, bS⟩
    | k + 2, hq => simp at hq
  · intro k q hq
    match k, hq with
    | 0, hq => cases hq; exact ⟨aJ, bJ⟩
    | k + 1, hq => simp at hq
end

/-! part 24.bstart -/
section
/-! what the law's start gives: the texts, statics, what is not castable (printed by wip/whole/mkstart.py) -/
noncomputable def stF : List Cond := flatC (Jvm.Cond.and given_1 narrow_1)
noncomputable def stT (i : Nat) : Term := match sW[i]? with
  | some q => .string q.1 q.2.1
  | none => .string "" 0
noncomputable def stW (i : Nat) : List Cond := [.exactly (stT i) "java/lang/String", .eq (.field (stT i) "java/lang/String" "coder" "B") (.int 0), .arrayOf (.field (stT i) "java/lang/String" "value" "[B") .byte, .eq (.length (.field (stT i) "java/lang/String" "value" "[B")) (.int (Int32.ofNat (sLen i)))] ++ (List.range (sLen i)).map (fun j => .eq (.elem (.field (stT i) "java/lang/String" "value" "[B") (.int (Int32.ofNat j))) (.int (sByt i j)))
noncomputable def stO : List Nat := [39, 73, 86, 96, 106, 115, 124, 131, 140, 149, 156, 163, 172, 180, 189, 197, 206, 213, 219, 228, 245, 263, 291, 308, 335, 355, 385, 409, 436, 447, 458, 466, 476, 485, 495, 503, 512, 522, 532, 542, 552, 560, 568, 575, 585]
theorem stW_ok : (List.range 45).all (fun i => decide (stW i = (stF.drop (stO.getD i 0)).take (4 + sLen i))) = true := by decide +kernel
theorem stW_in {i : Nat} (hi : i < 45) : ∀ w ∈ stW i, w ∈ stF := by
  intro w hw
  have h := of_decide_eq_true (List.all_eq_true.mp stW_ok i (List.mem_range.mpr hi))
  rewrite [h] at hw
  exact List.mem_of_mem_drop (List.mem_of_mem_take hw)
theorem stR_ok : (List.range 45).all (fun i => match sW[i]?, [739, 793, 884, 924, 925, 930, 940, 945, 951, 973, 1002, 1003, 1004, 1005, 1006, 1007, 1008, 1009, 1010, 1049, 1068, 1087, 1100, 1106, 1161, 1165, 1235, 1416, 1458, 1459, 1460, 1461, 1462, 1463, 1464, 1465, 1466, 1715, 1716, 1717, 1754, 1775, 1776, 1785, 1790][i]? with
  | some q, some j => decide (lw_tbl[j]? = some (Cond.stringRef q.1 q.2.1 q.2.2))
  | _, _ => false) = true := by decide +kernel
theorem st_ws : Cond.laysStatic "java/lang/String" "COMPACT_STRINGS" "Z" ∈ lw_tbl ∧ Cond.initialized "java/lang/String" ∈ lw_tbl ∧ Cond.laysStatic "jdk/internal/util/Preconditions" "SIOOBE_FORMATTER" "Ljava/util/function/BiFunction;" ∈ lw_tbl ∧ Cond.initialized "jdk/internal/util/Preconditions" ∈ lw_tbl := ⟨List.mem_of_getElem? (i := 807) (by decide +kernel), List.mem_of_getElem? (i := 125) (by decide +kernel), List.mem_of_getElem? (i := 846) (by decide +kernel), List.mem_of_getElem? (i := 128) (by decide +kernel)⟩
theorem st_wf : Cond.eq (.static "java/lang/String" "COMPACT_STRINGS" "Z") (.int 1) ∈ stF ∧ Cond.isRef (.static "jdk/internal/util/Preconditions" "SIOOBE_FORMATTER" "Ljava/util/function/BiFunction;") ∈ stF := ⟨List.mem_of_getElem? (i := 6) (by decide +kernel), List.mem_of_getElem? (i := 7) (by decide +kernel)⟩
theorem st_one {aK aV : Nat → Nat} {A : Nat → Prop} {U : State} {H : Heap} {n : Nat} {bs : List Int32} (h : vk_S 1 [n] [bs] aK aV A U H) : va_O "java/lang/String" (aK 0) A U H ∧ va_OF "java/lang/String" "coder" "B" (.int 0) (aK 0) A U H ∧ va_OF "java/lang/String" "value" "[B" (.ref (aV 0)) (aK 0) A U H ∧ va_T .byte (aV 0) n (fun j => .int (bs.getD j 0)) A U H := h.1 0 (by omega)
theorem sW_len : sW.length = 45 := by decide +kernel
theorem sLen_lt {i : Nat} : sLen i < 2 ^ 31 := by
  unfold sLen
  by_cases h : i < sB.length
  · have h2 : sB.all (fun x => decide (x.length < 2 ^ 31)) = true := by decide +kernel
    rw [List.getD_eq_getElem?_getD, List.getElem?_eq_getElem h]
    exact of_decide_eq_true (List.all_eq_true.mp h2 _ (List.getElem_mem h))
  · rw [List.getD_eq_getElem?_getD, List.getElem?_eq_none (Nat.not_lt.mp h)]
    exact Nat.lt_of_lt_of_le Nat.zero_lt_one (Nat.one_le_two_pow)
theorem st_S {s : State} {args : Array Value} (hts : ∀ w ∈ lw_tbl, w.before args s = true) (hf : ∀ w ∈ stF, w.before args s = true) : ∃ aK aV : Nat → Nat, sAll aK aV (fun q => s.heap.size ≤ q) s s.heap := by
  have hA : ∀ a : Nat, a < s.heap.size → ¬ s.heap.size ≤ a := fun a h => Nat.not_le.mpr h
  have h0 : ∀ i : Nat, ∃ q : Nat × Nat, i < 45 → (va_O "java/lang/String" q.1 (fun q => s.heap.size ≤ q) s s.heap ∧ va_OF "java/lang/String" "coder" "B" (.int 0) q.1 (fun q => s.heap.size ≤ q) s s.heap ∧ va_OF "java/lang/String" "value" "[B" (.ref q.2) q.1 (fun q => s.heap.size ≤ q) s s.heap ∧ va_T .byte q.2 (sLen i) (fun j => .int (sByt i j)) (fun q => s.heap.size ≤ q) s s.heap) ∧ (stT i).eval args s none [] s = some (.ref q.1) := by
    intro i
    by_cases hi : i < 45
    · have hw := fun w h => hf w (stW_in hi w h)
      obtain ⟨adK, adV, h1, h2⟩ := vk_Sof (args := args) (s := s) (N := 1) (tm := fun _ => stT i) (len := [sLen i]) (byt := [sB.getD i []]) (A := fun q => s.heap.size ≤ q) (fun j hj => by cases j with
        | zero => exact sLen_lt
        | succ j => omega) (fun j hj => hw _ (List.mem_append_left _ (List.mem_of_getElem? (i := 0) rfl))) (fun j hj => hw _ (List.mem_append_left _ (List.mem_of_getElem? (i := 1) rfl))) (fun j hj => hw _ (List.mem_append_left _ (List.mem_of_getElem? (i := 2) rfl)))
        (fun j hj => by cases j with
        | zero => exact hw _ (List.mem_append_left _ (List.mem_of_getElem? (i := 3) rfl))
        | succ j => omega)
        (fun j hj k hk => by cases j with
        | zero => exact hw _ (List.mem_append_right _ (List.mem_map.mpr ⟨k, List.mem_range.mpr hk, rfl⟩))
        | succ j => omega) (fun i j hi hj hn => by omega) hA
      exact ⟨(adK 0, adV 0), fun _ => ⟨st_one h1, h2 0 (by omega)⟩⟩
    · exact ⟨(0, 0), fun h => absurd h hi⟩
  refine ⟨fun i => (h0 i).choose.1, fun i => (h0 i).choose.2, fun i hi => ((h0 i).choose_spec (of_decide_eq_true hi)).1, fun i q hi => ?_, ?_, ?_⟩
  · have hl : i < 45 := by
      have := (List.getElem?_eq_some_iff.mp hi).1
      rewrite [sW_len] at this
      exact this
    have h1 := ((h0 i).choose_spec hl).2
    have h2 := List.all_eq_true.mp stR_ok i (List.mem_range.mpr hl)
    rewrite [hi] at h2
    have ht : stT i = .string q.1 q.2.1 := by
      unfold stT
      rw [hi]
    refine vk_R.of (A := args) ?_ ((congrArg (Term.eval args s none [] s) ht.symm).trans h1)
    revert h2
    cases h3 : ([739, 793, 884, 924, 925, 930, 940, 945, 951, 973, 1002, 1003, 1004, 1005, 1006, 1007, 1008, 1009, 1010, 1049, 1068, 1087, 1100, 1106, 1161, 1165, 1235, 1416, 1458, 1459, 1460, 1461, 1462, 1463, 1464, 1465, 1466, 1715, 1716, 1717, 1754, 1775, 1776, 1785, 1790] : List Nat)[i]? with
    | none => intro h2; cases h2
    | some j => intro h2; exact hts _ (List.mem_of_getElem? (of_decide_eq_true h2))
  · refine va_Zof (hts _ st_ws.1) (hts _ st_ws.2.1) ?_ hA
    have h9 := hf _ st_wf.1
    exact va_eqi h9
  · exact va_Zqof (hts _ st_ws.2.2.1) (hts _ st_ws.2.2.2) (hf _ st_wf.2) hA
theorem st_wn : Cond.not (.castable (tE 2) (tE 1)) ∈ stF ∧ Cond.isRef (.static Bundle.tN "UNASSIGNED_STACK" Bundle.steD) ∈ stF ∧ Cond.isRef (.static Bundle.tN "SUPPRESSED_SENTINEL" Bundle.listD) ∈ stF := ⟨List.mem_of_getElem? (i := 38) (by decide +kernel), List.mem_of_getElem? (i := 4) (by decide +kernel), List.mem_of_getElem? (i := 5) (by decide +kernel)⟩
theorem st_wt : Cond.laysStatic Bundle.tN "UNASSIGNED_STACK" Bundle.steD ∈ lw_tbl ∧ Cond.laysStatic Bundle.tN "SUPPRESSED_SENTINEL" Bundle.listD ∈ lw_tbl ∧ Cond.initialized Bundle.tN ∈ lw_tbl := ⟨List.mem_of_getElem? (i := 726) (by decide +kernel), List.mem_of_getElem? (i := 728) (by decide +kernel), List.mem_of_getElem? (i := 120) (by decide +kernel)⟩
theorem st_tW : tW = [1042, 701, 703, 705, 707].filterMap (fun i => lw_tbl[i]?) := by decide +kernel
theorem st_xN : xNest = [143, 149, 155, 159, 161, 163, 182, 195, 209, 210, 211, 213, 214, 215, 217, 218, 220, 221, 222, 223, 225, 226, 227, 229, 230, 231, 232, 233, 235, 236, 237, 238, 240, 241, 243, 244, 246, 247, 249, 251, 253, 255, 256, 257, 259, 260, 261, 294, 296, 299, 311, 317, 322, 323, 325, 326, 328, 329, 331, 332, 333, 335, 336, 338, 339, 355, 361, 362, 370, 378, 379, 390, 391, 393, 395, 396, 398, 409, 412, 417, 419, 420, 422, 424, 426, 428, 429, 451, 459, 461, 463, 475, 484, 486, 488, 503, 602, 923, 1073, 1289].filterMap (fun i => lw_tbl[i]?) := by decide +kernel
theorem st_xo : (xNest.all (fun w => w.onTables) && tW.all (fun w => w.onTables)) = true := by decide +kernel
theorem st_mem {ws : List Cond} {ps : List Nat} (h : ws = ps.filterMap (fun i => lw_tbl[i]?)) : ∀ w ∈ ws, w ∈ lw_tbl := by
  intro w hw
  rewrite [h] at hw
  obtain ⟨i, -, hi⟩ := List.mem_filterMap.mp hw
  exact List.mem_of_getElem? hi
theorem st_T {s : State} {args : Array Value} (hts : ∀ w ∈ lw_tbl, w.before args s = true) (hf : ∀ w ∈ stF, w.before args s = true) : tAll (fun q => s.heap.size ≤ q) s s.heap ∧ (∀ w ∈ xNest, va_Nw w s) ∧ va_Nc (tE 2) (tE 1) s := by
  have hA : ∀ a : Nat, a < s.heap.size → ¬ s.heap.size ≤ a := fun a h => Nat.not_le.mpr h
  have ho := (Bool.and_eq_true _ _).mp st_xo
  refine ⟨⟨fun w hw => va_Nw.of (List.all_eq_true.mp ho.2 w hw) (hts w (st_mem st_tW w hw)), vx_Zqof (hts _ st_wt.1) (hts _ st_wt.2.2) (hf _ st_wn.2.1) hA, vx_Zqof (hts _ st_wt.2.1) (hts _ st_wt.2.2) (hf _ st_wn.2.2) hA⟩, fun w hw => va_Nw.of (List.all_eq_true.mp ho.1 w hw) (hts w (st_mem st_xN w hw)), va_Nc.of (hf _ st_wn.1)⟩
end

/-! part 24.cstart -/
section
/-! the law's start (printed by wip/whole/mkstart2.py) -/
theorem st_df12 : ∀ j, j < 66 → defaultValue (tyX12 j) = vp_V [.null, .null, .null, .null, .int 0, .null, .null, .null, .null, .null, .null, .null, .null, .null, .null, .null, .null, .null, .null, .null, .int 0, .int 0, .int 0, .int 0, .int 0, .int 0, .int 0, .int 0, .int 0, .int 0, .int 0, .int 0, .null, .null, .null, .null, .null, .int 0, .int 0, .int 0, .int 0, .int 0, .null, .null, .int 0, .int 0, .null, .null, .null, .null, .null, .null, .null, .null, .int 0, .null, .int 0, .int 0, .int 0, .int 0, .null, .null, .null, .null, .null, .null] j := cm_df
theorem st_leftD {A : Nat → Prop} {wr wc : va_W} (h : va_D A (wr ++ wc)) : va_D A wr :=
  ⟨fun i j p q hi hj e => h.1 i j p q (by rw [List.getElem?_append_left (List.getElem?_eq_some_iff.mp hi).1]; exact hi) (by rw [List.getElem?_append_left (List.getElem?_eq_some_iff.mp hj).1]; exact hj) e, fun k q hk => h.2 k q (by rw [List.getElem?_append_left (List.getElem?_eq_some_iff.mp hk).1]; exact hk)⟩
theorem st_c12 : Cond.code yX12_init cX12_init 2 none ∈ gT ∧ Cond.instanceMethod yX12_init ∈ gT ∧ (yX12_init.cls ≠ "java/lang/invoke/MethodHandle" ∧ yX12_init.cls ≠ "java/lang/invoke/VarHandle" ∧ (parseMethodDescriptor yX12_init.desc).map (fun d => d.parameters.length) = some 0) := ⟨gT_c6 148 rfl rfl, gT_c6 147 rfl rfl, by decide +kernel⟩
theorem st_gO {cell : gS → Nat → Nat × va_E} {ord : List Nat} {adr : Nat → Nat} {A : Nat → Prop} {S : gS} (h1 : ∀ (S S' : gS) (j : Nat), S j = S' j → cell S j = cell S' j) (h2 : ∀ (S : gS) (j : Nat), (cell S j).1 = adr j) (hD : va_D A (gw cell ord S)) : gO cell ord adr :=
  ⟨h1, h2, fun i j a b ha hb e => hD.1 i j _ _ (gw_get ha rfl) (gw_get hb rfl) (by rw [h2, h2]; exact e)⟩
theorem xb_gw (cI cB cZ cQ : ClassId) (g : Nat → Nat) : xb cI cB cZ cQ g 0 88 = gw (xcell g cI cB cZ cQ) xord xS0 := by
  unfold xb gw xord
  rw [List.range_eq_range']
/-- what lies in the three blocks of the law's world is apart -/
theorem st_apart {A : Nat → Prop} {w1 w2 w3 : va_W} (hD : va_D A ((w1 ++ w2) ++ w3)) : (∀ (i j : Nat) (p q : Nat × va_E), w1[i]? = some p → w2[j]? = some q → p.1 ≠ q.1) ∧ (∀ (i j : Nat) (p q : Nat × va_E), w1[i]? = some p → w3[j]? = some q → p.1 ≠ q.1) ∧ (∀ (i j : Nat) (p q : Nat × va_E), w2[i]? = some p → w3[j]? = some q → p.1 ≠ q.1) := by
  have a1 : ∀ (i : Nat) (p : Nat × va_E), w1[i]? = some p → ((w1 ++ w2) ++ w3)[i]? = some p := fun i p h => by
    have hi := (List.getElem?_eq_some_iff.mp h).1
    rw [List.getElem?_append_left (by rw [List.length_append]; omega), List.getElem?_append_left hi]
    exact h
  have a2 : ∀ (i : Nat) (p : Nat × va_E), w2[i]? = some p → ((w1 ++ w2) ++ w3)[w1.length + i]? = some p := fun i p h => by
    have hi := (List.getElem?_eq_some_iff.mp h).1
    rw [List.getElem?_append_left (by rw [List.length_append]; omega), List.getElem?_append_right (by omega), show w1.length + i - w1.length = i by omega]
    exact h
  have a3 : ∀ (i : Nat) (p : Nat × va_E), w3[i]? = some p → ((w1 ++ w2) ++ w3)[(w1 ++ w2).length + i]? = some p := fun i p h => by
    rw [List.getElem?_append_right (by omega), show (w1 ++ w2).length + i - (w1 ++ w2).length = i by omega]
    exact h
  refine ⟨fun i j p q hi hj e => ?_, fun i j p q hi hj e => ?_, fun i j p q hi hj e => ?_⟩
  · have h := hD.1 _ _ p q (a1 i p hi) (a2 j q hj) e
    have hi := (List.getElem?_eq_some_iff.mp hi).1
    omega
  · have h := hD.1 _ _ p q (a1 i p hi) (a3 j q hj) e
    have hi := (List.getElem?_eq_some_iff.mp hi).1
    rewrite [List.length_append] at h
    omega
  · have h := hD.1 _ _ p q (a2 i p hi) (a3 j q hj) e
    have hi := (List.getElem?_eq_some_iff.mp hi).1
    rewrite [List.length_append] at h
    omega
set_option maxHeartbeats 4000000 in
set_option maxRecDepth 100000 in
theorem whole_J {p : Program} {e : Env} {s : State} {m : MethodId} {below : List Frame} {meth : Method} {c : Code} (l : Launch) (hflags : l.flags = flags0) {b L : Nat} {xs : Nat → Int32} (hL : L ≤ 3072) (C0 : lw_At p s m meth c b L xs) {J : gS → gS → Prop} (hJL : Laws J) (hJ0 : J xS0 mS0) : W p l e room_1 s m #[Value.ref b] below meth c s.heap [] 0 0 (lw_Z below #[Value.ref b] s) (entryFrame m ([Value.ref b] : List Value).toArray 7) := by
  obtain ⟨hx, hb, hr, hml, hown, hts, hX, hbl, hlocks, hgv⟩ := id C0
  have hown : s.vm.findClass RL = some m.cls := hown
  have hf : ∀ w ∈ stF, w.before #[Value.ref b] s = true := flat_of_before _ hgv
  have htg : ∀ w ∈ gT, w.before #[Value.ref b] s = true := fun w h => hts w (gT_sub h)
  have hAO : va_AOA .int s := hts _ st_wo.1
  have hAS : va_AO "java/lang/String" s := va_AO.of (hts _ st_wo.2)
  obtain ⟨D, cI, cB, cZ, cQ, cS, cJ0, hK1, hK2, -⟩ := st_K htg (hts _ st_wo.1) (hts _ st_wo.2)
  obtain ⟨aK, aV, hSA⟩ := st_S hts hf
  obtain ⟨hTA, hXN, hNc⟩ := st_T hts hf
  have htr : l.stackTraces = false := by
    unfold Launch.stackTraces
    rw [hflags]
    decide
  obtain ⟨A, hAe⟩ : ∃ A : Nat → Prop, A = fun q => s.heap.size ≤ q := ⟨_, rfl⟩
  have hA : ∀ q : Nat, s.heap.size ≤ q → A q := fun q h => by rw [hAe]; exact h
  have hS : va_S A s.heap s.heap [] := va_S.rf
  have hP : va_P D vwCl [] s.heap := fun k q h => by simp at h
  have hD : va_D A [] := ⟨fun i j p q h => by simp at h, fun k q h => by simp at h⟩
  have hl := lv_entry ([.ref b]) (n := 7) (Nat.le_of_ble_eq_true rfl)
  rw [lg_entry_eq]
  generalize (lg_sl ([.ref b]) ++ List.replicate (7 - (lg_sl ([.ref b])).length) Slot.unset).toArray = ls at hl ⊢
  have hl : lv_has ls 7 [(0, .ref b)] := hl
  refine va_new (ci := 11) (fs := [.null, .null, .null, .null, .null, .null, .null, .null, .int 0, .int 0]) (C := RX11) (T := TX11) (N := 10) hx hb htg x_in11 tyX11 tyX11_ok hown (htg _ st_wl.1) (htg _ c_is11.1) (htg _ c_is11.2) hK1 hP hD hS hA rfl c_df11 (Nat.le_of_ble_eq_true rfl) (Nat.le_of_ble_eq_true rfl) dL_law_0 (fun h0 H hP hD hS => ?_)
  refine W.widen (k := 1) (n := 10) (Nat.le_of_ble_eq_true rfl) (Nat.le_of_ble_eq_true rfl) ?_
  refine lv_dup hx hb dL_law_3 rfl ?_
  have hP : va_P D vwCl ([] ++ [(h0, (.inr (11, [.null, .null, .null, .null, .null, .null, .null, .null, .int 0, .int 0]) : va_E))]) H := hP
  have hPc : va_P D vwCl [(h0, (.inr (11, [.null, .null, .null, .null, .null, .null, .null, .null, .int 0, .int 0]) : va_E))] H := hP
  have hDc : va_D A [(h0, (.inr (11, [.null, .null, .null, .null, .null, .null, .null, .null, .int 0, .int 0]) : va_E))] := hD
  have hFc := c_free (wr := []) (wc := [(h0, (.inr (11, [.null, .null, .null, .null, .null, .null, .null, .null, .int 0, .int 0]) : va_E))]) hD hS hA
  refine va_callv (va_runI (As := []) (rest := [.ref h0]) ⟨hx, hb, hml, hown, htg⟩ (kc_11_0 l D cI cB cZ cQ h0 H.size) (cwI 0 htg (gT_in (fun w h => (List.mem_cons.mp h).elim (fun e => e ▸ c_cw11.1) id)) rfl rfl rfl (htg _ c_is11.2) (htg _ st_wl.2.2.1) (htg _ c_cw11.2.1) rfl c_cw11.2.2 ⟨(Nat.le_of_ble_eq_true rfl), (Nat.le_of_ble_eq_true rfl)⟩) ⟨fun a U g mk q => by obtain ⟨q0, q1, qP, qK, qD, qN, qO⟩ := q; exact ⟨q0, q1, qP, va_K.moved (u := U) (U := U.calling g mk a) (Vm.Alike.refl U.vm) qK, qD, xNest_warm (State.WarmedH.refl U) qN, aoa_moved (u := U) (U := U.calling g mk a) (Vm.Alike.refl U.vm) qO⟩, fun U hU hW => ⟨rfl, by rw [hU], by rw [hU]; exact hPc, va_K.moved hW.alike hK1, hDc.weaken (fun _ _ _ _ => trivial), xNest_warm hW hXN, aoa_moved hW.alike hAO⟩⟩ rfl rfl hl.1 rfl (lv_room (Nat.le_of_ble_eq_true rfl)) dL_law_4 ⟨(Nat.le_of_ble_eq_true rfl), (Nat.le_of_ble_eq_true rfl)⟩) hS (fun q _ h => hFc q h) hFc (fun g t H1 locs ht hvm hw hB hz1 hk1 hS => ?_)
  obtain ⟨hu1, hP1, -, hD1⟩ := hB
  rewrite [ht] at hP1
  obtain ⟨hP, hD⟩ := c_join (wr := []) (w1 := xb cI cB cZ cQ g 0 88) hP hD hk1 hFc hP1 hD1
  generalize H1 = H at hP hS ⊢
  obtain ⟨B1, hB1⟩ : ∃ z : va_W, z = xb cI cB cZ cQ g 0 88 := ⟨_, rfl⟩
  have hP : va_P D vwCl B1 H := by rw [hB1]; exact hP
  have hD : va_D A B1 := by rw [hB1]; exact hD
  refine lv_astore_n hx hb dL_law_7 rfl hl (by decide) rfl (fun ls hl => ?_)
  refine W.widen (k := 88) (n := 8060) (Nat.le_of_ble_eq_true rfl) (Nat.le_of_ble_eq_true rfl) ?_
  refine va_new (ci := 12) (fs := [.null, .null, .null, .null, .int 0, .null, .null, .null, .null, .null, .null, .null, .null, .null, .null, .null, .null, .null, .null, .null, .int 0, .int 0, .int 0, .int 0, .int 0, .int 0, .int 0, .int 0, .int 0, .int 0, .int 0, .int 0, .null, .null, .null, .null, .null, .int 0, .int 0, .int 0, .int 0, .int 0, .null, .null, .int 0, .int 0, .null, .null, .null, .null, .null, .null, .null, .null, .int 0, .null, .int 0, .int 0, .int 0, .int 0, .null, .null, .null, .null, .null, .null]) (C := RX12) (T := TX12) (N := 66) hx hb htg m_in tyX12 tyX12_ok hown (htg _ st_wl.2.1) (htg _ st_w12.1) (htg _ st_w12.2) hK2 hP hD hS hA rfl st_df12 (Nat.le_of_ble_eq_true rfl) (Nat.le_of_ble_eq_true rfl) dL_law_8 (fun h9 H hP hD hS => ?_)
  refine W.widen (k := 89) (n := 8126) (Nat.le_of_ble_eq_true rfl) (Nat.le_of_ble_eq_true rfl) ?_
  refine lv_dup hx hb dL_law_11 rfl ?_
  have hPc : va_P D vwCl [(h9, (.inr (12, [.null, .null, .null, .null, .int 0, .null, .null, .null, .null, .null, .null, .null, .null, .null, .null, .null, .null, .null, .null, .null, .int 0, .int 0, .int 0, .int 0, .int 0, .int 0, .int 0, .int 0, .int 0, .int 0, .int 0, .int 0, .null, .null, .null, .null, .null, .int 0, .int 0, .int 0, .int 0, .int 0, .null, .null, .int 0, .int 0, .null, .null, .null, .null, .null, .null, .null, .null, .int 0, .null, .int 0, .int 0, .int 0, .int 0, .null, .null, .null, .null, .null, .null]) : va_E))] H := c_right hP
  have hDc : va_D A [(h9, (.inr (12, [.null, .null, .null, .null, .int 0, .null, .null, .null, .null, .null, .null, .null, .null, .null, .null, .null, .null, .null, .null, .null, .int 0, .int 0, .int 0, .int 0, .int 0, .int 0, .int 0, .int 0, .int 0, .int 0, .int 0, .int 0, .null, .null, .null, .null, .null, .int 0, .int 0, .int 0, .int 0, .int 0, .null, .null, .int 0, .int 0, .null, .null, .null, .null, .null, .null, .null, .null, .int 0, .null, .int 0, .int 0, .int 0, .int 0, .null, .null, .null, .null, .null, .null]) : va_E))] := c_rightD hD
  have hFc := c_free (wr := B1) (wc := [(h9, (.inr (12, [.null, .null, .null, .null, .int 0, .null, .null, .null, .null, .null, .null, .null, .null, .null, .null, .null, .null, .null, .null, .null, .int 0, .int 0, .int 0, .int 0, .int 0, .int 0, .int 0, .int 0, .int 0, .int 0, .int 0, .int 0, .null, .null, .null, .null, .null, .int 0, .int 0, .int 0, .int 0, .int 0, .null, .null, .int 0, .int 0, .null, .null, .null, .null, .null, .null, .null, .null, .int 0, .null, .int 0, .int 0, .int 0, .int 0, .null, .null, .null, .null, .null, .null]) : va_E))]) hD hS hA
  have hSS : ∀ U : State, U.heap = H → s.WarmedH U.vm → sAll aK aV (va_A [(h9, (.inr (12, [.null, .null, .null, .null, .int 0, .null, .null, .null, .null, .null, .null, .null, .null, .null, .null, .null, .null, .null, .null, .null, .int 0, .int 0, .int 0, .int 0, .int 0, .int 0, .int 0, .int 0, .int 0, .int 0, .int 0, .int 0, .null, .null, .null, .null, .null, .int 0, .int 0, .int 0, .int 0, .int 0, .null, .null, .int 0, .int 0, .null, .null, .null, .null, .null, .null, .null, .null, .int 0, .null, .int 0, .int 0, .int 0, .int 0, .null, .null, .null, .null, .null, .null]) : va_E))] H.size) U U.heap := fun U hU hW => sAll.on hW hSA (fun q h1 h2 => by rw [hU]; exact hS.2.1 q h1 (by rw [hAe]; exact h2)) (fun q h => by have := hFc q h; rw [hAe] at this; exact this)
  refine va_callv (va_runI (As := []) (rest := [.ref h9]) ⟨hx, hb, hml, hown, htg⟩ (kc_12 l D cI cS aK aV h9 H.size) (cwI 0 htg (gT_in (fun w h => (List.mem_cons.mp h).elim (fun e => e ▸ st_c12.1) id)) rfl rfl rfl (htg _ st_w12.2) (htg _ st_wl.2.2.2) (htg _ st_c12.2.1) rfl st_c12.2.2 ⟨(Nat.le_of_ble_eq_true rfl), (Nat.le_of_ble_eq_true rfl)⟩) ⟨fun a U g mk q => by obtain ⟨q0, q1, qP, qK, qD, qN, qO⟩ := q; exact ⟨q0, q1, qP, va_K.moved (u := U) (U := U.calling g mk a) (Vm.Alike.refl U.vm) qK, qD, sAll.on (State.WarmedH.refl U) qN (fun _ _ _ => rfl) (fun _ h => h), va_AO.moved (u := U) (U := U.calling g mk a) (Vm.Alike.refl U.vm) qO⟩, fun U hU hW => ⟨rfl, by rw [hU], by rw [hU]; exact hPc, va_K.moved hW.alike hK2, hDc.weaken (fun _ _ _ _ => trivial), hSS U hU hW, va_AO.moved hW.alike hAS⟩⟩ rfl rfl hl.1 rfl (lv_room (Nat.le_of_ble_eq_true rfl)) dL_law_12 ⟨(Nat.le_of_ble_eq_true rfl), (Nat.le_of_ble_eq_true rfl)⟩) hS (fun q _ h => hFc q h) hFc (fun g2 t H1 locs ht hvm hw hB hz1 hk1 hS => ?_)
  obtain ⟨hu2, hP1, -, hD1⟩ := hB
  rewrite [ht] at hP1
  obtain ⟨hP, hD⟩ := c_join (wr := B1) (w1 := gw (mcell g2 cI cS (msa aK)) mord mS0) hP hD hk1 hFc hP1 hD1
  generalize H1 = H at hP hS ⊢
  refine lv_astore_n hx hb dL_law_15 rfl hl (by decide) rfl (fun ls hl => ?_)
  refine lv_iconst hx hb dL_law_16 rfl ?_
  obtain ⟨B2, hB2⟩ : ∃ z : va_W, z = gw (mcell g2 cI cS (msa aK)) mord mS0 := ⟨_, rfl⟩
  rewrite [← hB2] at hP hD
  refine W.widen (k := 129) (n := 17154) (Nat.le_of_ble_eq_true rfl) (Nat.le_of_ble_eq_true rfl) ?_
  refine va_newa (atype := .long) (N' := 1) (a0 := (1, .inr (.inl (fun _ => 0)))) hx hb (htg _ st_wa.2.2.2) rfl hK1 hP hD hS hA (fun cA => rfl) (by decide) rfl (by decide) (Nat.le_of_ble_eq_true rfl) (Nat.le_of_ble_eq_true rfl) dL_law_17 (fun aO cJ H hK3 hP hD hS => ?_)
  refine lv_astore_n hx hb dL_law_19 rfl hl (by decide) rfl (fun ls hl => ?_)
  refine lv_iconst hx hb dL_law_20 rfl ?_
  refine lv_istore hx hb dL_law_21 hl (by decide) rfl (fun ls hl => ?_)
  have hK3 : va_K D vwCl [(cJ, .long)] s := hK3.sub (tys' := [(cJ, .long)]) [4] rfl
  have hap := st_apart hD
  have hgX : va_P D vwCl (gw (xcell g cI cB cZ cQ) xord xS0) H := by rw [← xb_gw, ← hB1]; exact c_left (c_left hP)
  have hgM : va_P D vwCl (gw (mcell g2 cI cS (msa aK)) mord mS0) H := by rw [← hB2]; exact c_right (c_left hP)
  have hgO : va_P D vwCl [(aO, .inl (cJ, 1, .inr (.inl (fun _ => 0))))] H := c_right hP
  have hDX : va_D A (gw (xcell g cI cB cZ cQ) xord xS0) := by rw [← xb_gw, ← hB1]; exact st_leftD (st_leftD hD)
  have hDM : va_D A (gw (mcell g2 cI cS (msa aK)) mord mS0) := by rw [← hB2]; exact c_rightD (st_leftD hD)
  have hDO : va_D A [(aO, (.inl (cJ, 1, .inr (.inl (fun _ => 0))) : va_E))] := c_rightD hD
  rewrite [hB1, hB2, xb_gw] at hap
  have OX : gO (xcell g cI cB cZ cQ) xord g := st_gO (fun S S' j h => by unfold xcell; rw [h]) (fun S j => rfl) hDX
  have OM : gO (mcell g2 cI cS (msa aK)) mord g2 := st_gO (fun S S' j h => by unfold mcell; rw [h]) (fun S j => rfl) hDM
  have hs : Lsp g g2 aO b s.heap.size := by
    refine ⟨fun k hk => ?_, fun k hk => ?_, ?_, hbl⟩
    · obtain ⟨i, hi⟩ := List.mem_iff_getElem?.mp hk
      have h1 := hDX.2 i _ (gw_get hi rfl)
      rewrite [hAe] at h1
      refine ⟨h1, hap.2.1 i 0 _ _ (gw_get hi rfl) rfl, fun j hj => ?_⟩
      obtain ⟨i2, hi2⟩ := List.mem_iff_getElem?.mp hj
      exact hap.1 i i2 _ _ (gw_get hi rfl) (gw_get hi2 rfl)
    · obtain ⟨i, hi⟩ := List.mem_iff_getElem?.mp hk
      have h1 := hDM.2 i _ (gw_get hi rfl)
      rewrite [hAe] at h1
      exact ⟨h1, hap.2.2 i 0 _ _ (gw_get hi rfl) rfl⟩
    · have h1 := hDO.2 0 _ rfl
      rewrite [hAe] at h1
      exact h1
  have hS : va_S (fun q => s.heap.size ≤ q) s.heap H locs := by
    have h := hS
    rewrite [hAe] at h
    exact h
  have C : LCx p l s m #[Value.ref b] meth c D g g2 cI cB cZ cQ cS cJ aK aV aO b L xs (fun A U H => sAll aK aV A U H ∧ (∀ w ∈ xNest, va_Nw w U) ∧ tAll A U H) (sAll aK aV) := by
    refine ⟨⟨⟨hx, hb, hml, hown, htg⟩, hK1, hr, hlocks, fun A B s U H hW h hq hAB => ⟨sAll.on hW h.1 hq hAB, xNest_warm hW h.2.1, tAll.on hW h.2.2 hq hAB⟩, ?_⟩, ⟨⟨hx, hb, hml, hown, htg⟩, hK2, hr, hlocks, fun A B s U H hW h hq hAB => sAll.on hW h hq hAB, ?_⟩, hK3, hNc, hs, ⟨⟨⟨OX, fun A U H h => h.2.1⟩, fun A U H h => h.1⟩, fun A U H h => h.2.2, htr⟩, ⟨OM, fun A U H h => h⟩, hX⟩
    · rw [hs.allX]
      exact ⟨hSA, hXN, hTA⟩
    · rw [hs.allM]
      exact hSA
  have X : LX D g g2 cI cB cZ cQ cS cJ aK aO b L xs xS0 mS0 (fun _ => 0) s H locs := by
    refine ⟨⟨hgX, by rw [hs.allX]; exact hS⟩, ⟨hgM, by rw [hs.allM]; exact hS⟩, hgO, hX.kept (hS.2.1 b hbl (Nat.not_le.mpr hbl))⟩
  have hl : lv_has ls 7 (Llv b (g 0) (g2 99) aO (nI (6 * 0))) := by
    rw [hu1, hu2]
    exact hl
  exact L_loop C hJL hL 512 0 (by omega) (by omega) H locs ls _ _ xS0 mS0 (fun _ => 0) hJ0 X hl (Nat.le_of_ble_eq_true rfl) (Nat.le_of_ble_eq_true rfl)
end

/-! part 30.ajay -/
section
/-! THE MATHEMATICS. J: how the class's state and the reference's lie side by side -/
theorem sU_ap (S : gS) (a b : Nat) (x : Int32) (i j : Nat) : sU S a b x i j = if i = a ∧ j = b then x else S i j := by
  unfold sU upd
  by_cases h : i = a
  · subst h
    by_cases h2 : j = b
    · simp [h2]
    · simp [h2]
  · simp [h]
noncomputable def xSt (b : Nat) (S : gS) : Nat → Nat → Int32 := fun c g => S (b + c) g
noncomputable def mSt (S : gS) : Nat → Nat → Int32 := fun c g => if c = 0 then S 99 (37 + g) else S (31 + c) g
noncomputable def xAc (b : Nat) (S : gS) (a : Nat) : Nat → Nat → Int32 := fun c g => if c = 0 then S b (26 * a + g) else S b (26 * a + 2 + 4 * g + (c - 1))
noncomputable def mAc (b : Nat) (S : gS) (a : Nat) : Nat → Nat → Int32 := fun c g => if c = 0 then S b (26 * a + g) else S b (26 * a + 2 + 6 * (c - 1) + g)
/-- what HOURS and ACTS change: u of the class, v of the reference; n0 grottoes, n1 guilds -/
def jSt (n0 n1 : Nat) (u v : Nat → Nat → Int32) : Prop :=
  (∃ h : Nat, h ≤ 999 ∧ u 0 0 = nI h ∧ v 0 0 = nI h) ∧ u 0 1 = v 0 1 ∧
  (∀ g, g < n1 → u 1 g = v 1 g ∧ u 2 g = v 2 g ∧ u 3 g = v 3 g ∧ u 4 g = v 4 g) ∧
  (∀ g, g < n1 → (0 ≤ v 1 g ∧ v 1 g ≤ 99) ∧ (0 ≤ v 2 g ∧ v 2 g ≤ 999) ∧ (0 ≤ v 3 g ∧ v 3 g ≤ 999) ∧ (v 4 g = -1 ∨ ∃ k : Nat, k < n0 ∧ v 4 g = nI k)) ∧
  (∀ g g', g < n1 → g' < n1 → v 4 g = v 4 g' → v 4 g ≠ -1 → g = g')
def jBook (n0 n1 : Nat) (bs : Nat) (SX : gS) (mst : Nat → Nat → Int32) (ma ms : Int32) (past sg si sn stt : Nat) (SM : gS) : Prop :=
  jSt n0 n1 (xSt (bs + 1) SX) mst ∧
  (∃ a : Nat, a ≤ 40 ∧ SX (bs + 6) 1 = nI a ∧ ma = nI a ∧ ∀ i, i < a → jSt n0 n1 (xAc (bs + 7) SX i) (mAc past SM i)) ∧
  (∃ q : Nat, q ≤ 8 ∧ SX (bs + 8) 3 = nI q ∧ ms = nI q ∧ ∀ i, i < q → (∃ g : Nat, g < n1 ∧ SX (bs + 9) i = nI g ∧ SM sg i = nI g) ∧ (∃ h : Nat, h ≤ 20 ∧ SX (bs + 10) i = nI h ∧ SM si i = nI h) ∧ (∃ x : Nat, x ≤ 99 ∧ SX (bs + 11) i = nI x ∧ SM sn i = nI x)) ∧
  (∀ i, i < 3 → SX (bs + 12) i = SM stt i)
/-! rules: codes of the class, signs of the reference -/
noncomputable def sgn (c : Int32) : Int32 :=
  if c ≤ 9999 then c else if c = 10010 then -28 else if c = 10011 then -27 else if c = 10012 then -26 else if c = 10013 then -24 else if c = 10014 then -25 else if c = 10015 then -20 else if c = 10016 then -21 else if c = 10017 then -22 else if c = 10018 then -23 else 9999 - c
noncomputable def rDep (c : Nat → Int32) : Nat → Nat
  | 0 => 0
  | i + 1 => if c i < 10010 then rDep c i + 1 else if c i = 10010 then rDep c i else rDep c i - 1
def rOK (c : Nat → Int32) (n : Nat) : Prop :=
  (∀ i, i < n → ((0 ≤ c i ∧ c i ≤ 10006) ∧ rDep c i < 31) ∨ (c i = 10010 ∧ 1 ≤ rDep c i) ∨ ((10011 ≤ c i ∧ c i ≤ 10018) ∧ 2 ≤ rDep c i)) ∧ (n = 0 ∨ 1 ≤ rDep c n)
def jRule (r sg : Nat) (told : Int32) (SX SM : gS) : Prop :=
  ∃ n : Nat, n ≤ 700 ∧ SX r 3 = nI n ∧ told = nI n ∧ (∀ i, i < n → SM sg i = sgn (SX (r + 1) i)) ∧ rOK (SX (r + 1)) n
def jTown (n0 n1 T : Nat) (SX SM : gS) : Prop :=
  (SX T 0 = nI n0 ∧ SM 5 0 = nI n0 ∧ n0 ≤ 8) ∧ (SX T 5 = nI n1 ∧ SM 5 1 = nI n1 ∧ n1 ≤ 6) ∧
  (∃ w : Nat, w ≤ 8 ∧ SX T 10 = nI w ∧ SM 5 3 = nI w ∧ ∀ i, i < w → ∃ x : Nat, x ≤ 9 ∧ SX (T + 9) i = nI x ∧ SM 14 i = nI x) ∧
  (∃ b : Nat, b ≤ 99 ∧ SX T 12 = nI b ∧ SM 5 2 = if b = 0 then 70 else nI b) ∧
  (∀ k, k < n0 → (∃ x : Nat, 1 ≤ x ∧ x ≤ 12 ∧ SX (T + 1) k = nI x ∧ SM 7 k = nI x) ∧ (∃ x : Nat, x ≤ 11 ∧ SX (T + 2) k = nI x ∧ SM 8 k = nI x) ∧ (∃ x : Nat, x ≤ 20 ∧ SX (T + 3) k = nI x ∧ SM 9 k = nI x) ∧ (∃ x : Nat, x ≤ 1 ∧ SX (T + 4) k = nI x ∧ SM 6 k = nI x)) ∧
  (∀ g, g < n1 → ∃ x : Nat, x ≤ 9 ∧ SX (T + 5) g = nI x ∧ SM 18 g = nI x) ∧
  jRule (T + 10) 15 (SM 5 4) SX SM ∧ jRule (T + 13) 16 (SM 5 5) SX SM
def jTape (SX SM : gS) : Prop :=
  ∃ n : Nat, n ≤ 700 ∧ SX 2 1 = nI n ∧ SM 99 20 = nI n ∧ ∀ i, i < n → ∃ x : Nat, x < 256 ∧ (SX 3 i &&& 255) = nI x ∧ SM 19 i = nI x
def jMisc (SX SM : gS) : Prop :=
  SX 1 3 = SM 99 29 ∧ SM 99 41 = -1 ∧ (SX 0 7 = SX 1 1 ∧ (SX 0 7 = 0 ∨ SX 0 7 = 1)) ∧ (SX 14 2 = 0 ∧ SX 17 2 = 1 ∧ SX 82 2 = 0 ∧ SX 85 2 = 1)
def jNow (n0 n1 : Nat) (SX SM : gS) : Prop := jBook n0 n1 20 SX (mSt SM) (SM 99 39) (SM 99 40) 36 48 49 50 17 SM
def jImg (n0 n1 : Nat) (SX SM : gS) : Prop := jBook n0 n1 33 SX (mAc 60 SM 0) (SM 99 58) (SM 99 59) 61 62 63 64 65 SM
def JJ (SX SM : gS) : Prop :=
  ∃ n0 n1 : Nat, jTown n0 n1 (xtw SX) SX SM ∧ jNow n0 n1 SX SM ∧ ((SX 0 8 = 0 ∧ SM 99 57 = 0) ∨ (SX 0 8 = 1 ∧ SM 99 57 = 1 ∧ jImg n0 n1 SX SM)) ∧ jTape SX SM ∧ jMisc SX SM
theorem xtw_cases {S : gS} : xtw S = 72 ∨ xtw S = 4 := by
  unfold xtw
  by_cases h : S 0 7 = 0
  · exact Or.inl (if_pos h)
  · exact Or.inr (if_neg h)
/-- a fresh object and a fresh reference -/
theorem JJ_0 : JJ xS0 mS0 := by
  refine ⟨0, 0, ?_, ?_, Or.inl ⟨rfl, rfl⟩, ?_, ?_⟩
  · have h : xtw xS0 = 72 := rfl
    rw [h]
    exact ⟨⟨rfl, rfl, by omega⟩, ⟨rfl, rfl, by omega⟩, ⟨0, by omega, rfl, rfl, fun i h => by omega⟩, ⟨0, by omega, rfl, rfl⟩, fun k h => by omega, fun g h => by omega, ⟨0, by omega, rfl, rfl, fun i h => by omega, fun i h => by omega, Or.inl rfl⟩, ⟨0, by omega, rfl, rfl, fun i h => by omega, fun i h => by omega, Or.inl rfl⟩⟩
  · exact ⟨⟨⟨0, by omega, rfl, rfl⟩, rfl, fun g h => by omega, fun g h => by omega, fun g g' h => by omega⟩, ⟨0, by omega, rfl, rfl, fun i h => by omega⟩, ⟨0, by omega, rfl, rfl, fun i h => by omega⟩, fun i h => by
      rcases (show i = 0 ∨ i = 1 ∨ i = 2 by omega) with rfl | rfl | rfl <;> rfl⟩
  · exact ⟨0, by omega, rfl, rfl, fun i h => by omega⟩
  · exact ⟨rfl, rfl, ⟨rfl, Or.inl rfl⟩, rfl, rfl, rfl, rfl⟩
/-! what a question may change: the scratch of both sides -/
noncomputable def xScr (i j : Nat) : Bool := i == 51 || (46 ≤ i && i ≤ 50) || (52 ≤ i && i ≤ 71) || i == 16 || i == 19 || i == 84 || i == 87 || (i == 0 && j == 9)
noncomputable def mScr (i j : Nat) : Bool := i == 42 || i == 43 || i == 46 || i == 47 || i == 51 || i == 52 || i == 53 || i == 55 || (i == 99 && (j == 4 || j == 44 || j == 45 || j == 54 || j == 56))
def xSame (S S' : gS) : Prop := ∀ i j, xScr i j = false → S' i j = S i j
def mSame (S S' : gS) : Prop := ∀ i j, mScr i j = false → S' i j = S i j
theorem xSame.rf {S : gS} : xSame S S := fun _ _ _ => rfl
theorem mSame.rf {S : gS} : mSame S S := fun _ _ _ => rfl
theorem xSame.tr {S S' S'' : gS} (h : xSame S S') (h' : xSame S' S'') : xSame S S'' := fun i j k => (h' i j k).trans (h i j k)
theorem mSame.tr {S S' S'' : gS} (h : mSame S S') (h' : mSame S' S'') : mSame S S'' := fun i j k => (h' i j k).trans (h i j k)
theorem xSame.up {S S' : gS} {a b : Nat} {x : Int32} (h : xSame S S') (hs : xScr a b = true) : xSame S (sU S' a b x) := by
  intro i j k
  rw [sU_ap]
  by_cases h2 : i = a ∧ j = b
  · rw [h2.1, h2.2, hs] at k
    cases k
  · rw [if_neg h2]
    exact h i j k
theorem mSame.up {S S' : gS} {a b : Nat} {x : Int32} (h : mSame S S') (hs : mScr a b = true) : mSame S (sU S' a b x) := by
  intro i j k
  rw [sU_ap]
  by_cases h2 : i = a ∧ j = b
  · rw [h2.1, h2.2, hs] at k
    cases k
  · rw [if_neg h2]
    exact h i j k
theorem jRule.on {r sg : Nat} {told told' : Int32} {SX SM SX' SM' : gS} (h : jRule r sg told SX SM) (e1 : SX' r 3 = SX r 3) (e2 : SX' (r + 1) = SX (r + 1)) (e3 : told' = told) (e4 : SM' sg = SM sg) : jRule r sg told' SX' SM' := by
  obtain ⟨n, h1, h2, h3, h4, h5⟩ := h
  refine ⟨n, h1, by rw [e1]; exact h2, by rw [e3]; exact h3, fun i hi => ?_, by rw [e2]; exact h5⟩
  rw [e2, e4]
  exact h4 i hi
theorem jTown.on {n0 n1 T : Nat} {SX SM SX' SM' : gS} (h : jTown n0 n1 T SX SM) (hT : T = 72 ∨ T = 4) (x : xSame SX SX') (m : mSame SM SM') : jTown n0 n1 T SX' SM' := by
  obtain ⟨⟨a1, a2, a3⟩, ⟨b1, b2, b3⟩, ⟨w, w1, w2, w3, w4⟩, ⟨b, c1, c2, c3⟩, d, g, r1, r2⟩ := h
  have m5 : ∀ j, SM' 5 j = SM 5 j := fun j => m 5 j rfl
  have hx : ∀ i j, i ≤ 14 → i ≠ 12 → SX' (T + i) j = SX (T + i) j := by
    intro i j h1 h2
    refine x _ _ ?_
    rcases hT with rfl | rfl
    · rcases (show i = 0 ∨ i = 1 ∨ i = 2 ∨ i = 3 ∨ i = 4 ∨ i = 5 ∨ i = 6 ∨ i = 7 ∨ i = 8 ∨ i = 9 ∨ i = 10 ∨ i = 11 ∨ i = 13 ∨ i = 14 by omega) with rfl | rfl | rfl | rfl | rfl | rfl | rfl | rfl | rfl | rfl | rfl | rfl | rfl | rfl <;> rfl
    · rcases (show i = 0 ∨ i = 1 ∨ i = 2 ∨ i = 3 ∨ i = 4 ∨ i = 5 ∨ i = 6 ∨ i = 7 ∨ i = 8 ∨ i = 9 ∨ i = 10 ∨ i = 11 ∨ i = 13 ∨ i = 14 by omega) with rfl | rfl | rfl | rfl | rfl | rfl | rfl | rfl | rfl | rfl | rfl | rfl | rfl | rfl <;> rfl
  have hx0 : ∀ j, SX' T j = SX T j := fun j => hx 0 j (by omega) (by omega)
  refine ⟨⟨by rw [hx0]; exact a1, by rw [m5]; exact a2, a3⟩, ⟨by rw [hx0]; exact b1, by rw [m5]; exact b2, b3⟩, ⟨w, w1, by rw [hx0]; exact w2, by rw [m5]; exact w3, fun i hi => ?_⟩, ⟨b, c1, by rw [hx0]; exact c2, by rw [m5]; exact c3⟩, fun k hk => ?_, fun q hq => ?_, ?_, ?_⟩
  · rw [hx 9 i (by omega) (by omega), m 14 i rfl]
    exact w4 i hi
  · rw [hx 1 k (by omega) (by omega), hx 2 k (by omega) (by omega), hx 3 k (by omega) (by omega), hx 4 k (by omega) (by omega), m 7 k rfl, m 8 k rfl, m 9 k rfl, m 6 k rfl]
    exact d k hk
  · rw [hx 5 q (by omega) (by omega), m 18 q rfl]
    exact g q hq
  · exact r1.on (hx 10 3 (by omega) (by omega)) (funext fun j => hx 11 j (by omega) (by omega)) (m5 4) (funext fun j => m 15 j rfl)
  · exact r2.on (hx 13 3 (by omega) (by omega)) (funext fun j => hx 14 j (by omega) (by omega)) (m5 5) (funext fun j => m 16 j rfl)
theorem jSt.on {n0 n1 : Nat} {u v u' v' : Nat → Nat → Int32} (h : jSt n0 n1 u v) (hu : ∀ c g, (c = 0 → g ≤ 1) → c ≤ 4 → u' c g = u c g) (hv : ∀ c g, (c = 0 → g ≤ 1) → c ≤ 4 → v' c g = v c g) : jSt n0 n1 u' v' := by
  obtain ⟨s1, s2, s3, s4, s5⟩ := h
  have u9 : ∀ c g, 1 ≤ c → c ≤ 4 → u' c g = u c g := fun c g h1 h2 => hu c g (fun h => by omega) h2
  have v9 : ∀ c g, 1 ≤ c → c ≤ 4 → v' c g = v c g := fun c g h1 h2 => hv c g (fun h => by omega) h2
  refine ⟨?_, ?_, fun g hg => ?_, fun g hg => ?_, fun g g' h1 h2 => ?_⟩
  · rw [hu 0 0 (fun _ => by omega) (by omega), hv 0 0 (fun _ => by omega) (by omega)]
    exact s1
  · rw [hu 0 1 (fun _ => by omega) (by omega), hv 0 1 (fun _ => by omega) (by omega)]
    exact s2
  · rw [u9 1 g (by omega) (by omega), u9 2 g (by omega) (by omega), u9 3 g (by omega) (by omega), u9 4 g (by omega) (by omega), v9 1 g (by omega) (by omega), v9 2 g (by omega) (by omega), v9 3 g (by omega) (by omega), v9 4 g (by omega) (by omega)]
    exact s3 g hg
  · rw [v9 1 g (by omega) (by omega), v9 2 g (by omega) (by omega), v9 3 g (by omega) (by omega), v9 4 g (by omega) (by omega)]
    exact s4 g hg
  · rw [v9 4 g (by omega) (by omega), v9 4 g' (by omega) (by omega)]
    exact s5 g g' h1 h2
theorem jBook.on {n0 n1 bs past sg si sn stt : Nat} {mst mst' : Nat → Nat → Int32} {ma ms ma' ms' : Int32} {SX SM SX' SM' : gS} (h : jBook n0 n1 bs SX mst ma ms past sg si sn stt SM) (x : ∀ i, 1 ≤ i → i ≤ 12 → SX' (bs + i) = SX (bs + i)) (e1 : ∀ c g, (c = 0 → g ≤ 1) → c ≤ 4 → mst' c g = mst c g) (e2 : ma' = ma) (e3 : ms' = ms) (e4 : SM' past = SM past) (e5 : SM' sg = SM sg) (e6 : SM' si = SM si) (e7 : SM' sn = SM sn) (e8 : SM' stt = SM stt) : jBook n0 n1 bs SX' mst' ma' ms' past sg si sn stt SM' := by
  obtain ⟨s, ⟨a, a1, a2, a3, a4⟩, ⟨q, q1, q2, q3, q4⟩, t⟩ := h
  subst e2 e3
  refine ⟨s.on (fun c g _ hc => ?_) e1, ⟨a, a1, by rw [x 6 (by omega) (by omega)]; exact a2, a3, fun i hi => ?_⟩, ⟨q, q1, by rw [x 8 (by omega) (by omega)]; exact q2, q3, fun i hi => ?_⟩, fun i hi => ?_⟩
  · show SX' (bs + 1 + c) g = SX (bs + 1 + c) g
    rw [show bs + 1 + c = bs + (1 + c) by omega, x (1 + c) (by omega) (by omega)]
  · have e9 : xAc (bs + 7) SX' i = xAc (bs + 7) SX i := by
      funext c g
      unfold xAc
      rw [x 7 (by omega) (by omega)]
    have e0 : mAc past SM' i = mAc past SM i := by
      funext c g
      unfold mAc
      rw [e4]
    rw [e9, e0]
    exact a4 i hi
  · rw [x 9 (by omega) (by omega), x 10 (by omega) (by omega), x 11 (by omega) (by omega), e5, e6, e7]
    exact q4 i hi
  · rw [x 12 (by omega) (by omega), e8]
    exact t i hi
theorem mSt_on {S S' : gS} (m : mSame S S') : ∀ c g, (c = 0 → g ≤ 1) → c ≤ 4 → mSt S' c g = mSt S c g := by
  intro c g h1 h2
  unfold mSt
  rcases (show c = 0 ∨ c = 1 ∨ c = 2 ∨ c = 3 ∨ c = 4 by omega) with rfl | rfl | rfl | rfl | rfl
  · rcases (show g = 0 ∨ g = 1 by have := h1 rfl; omega) with rfl | rfl
    · exact m 99 37 rfl
    · exact m 99 38 rfl
  · exact m 32 g rfl
  · exact m 33 g rfl
  · exact m 34 g rfl
  · exact m 35 g rfl
theorem mAc_on {b a : Nat} {S S' : gS} (h : S' b = S b) : ∀ c g, (c = 0 → g ≤ 1) → c ≤ 4 → mAc b S' a c g = mAc b S a c g := by
  intro c g _ _
  unfold mAc
  rw [h]
theorem JJ.same {SX SM SX' SM' : gS} (h : JJ SX SM) (x : xSame SX SX') (m : mSame SM SM') : JJ SX' SM' := by
  obtain ⟨n0, n1, h1, h2, h3, h4, h5⟩ := h
  have ht : xtw SX' = xtw SX := by
    unfold xtw
    rw [x 0 7 rfl]
  have fx : ∀ i, (∀ j, xScr i j = false) → SX' i = SX i := fun i hi => funext fun j => x i j (hi j)
  have fm : ∀ i, (∀ j, mScr i j = false) → SM' i = SM i := fun i hi => funext fun j => m i j (hi j)
  have b1 : ∀ i, 1 ≤ i → i ≤ 12 → SX' (20 + i) = SX (20 + i) := fun i h1 h2 => by
    rcases (show i = 1 ∨ i = 2 ∨ i = 3 ∨ i = 4 ∨ i = 5 ∨ i = 6 ∨ i = 7 ∨ i = 8 ∨ i = 9 ∨ i = 10 ∨ i = 11 ∨ i = 12 by omega) with rfl | rfl | rfl | rfl | rfl | rfl | rfl | rfl | rfl | rfl | rfl | rfl <;> exact fx _ (fun _ => rfl)
  have b2 : ∀ i, 1 ≤ i → i ≤ 12 → SX' (33 + i) = SX (33 + i) := fun i h1 h2 => by
    rcases (show i = 1 ∨ i = 2 ∨ i = 3 ∨ i = 4 ∨ i = 5 ∨ i = 6 ∨ i = 7 ∨ i = 8 ∨ i = 9 ∨ i = 10 ∨ i = 11 ∨ i = 12 by omega) with rfl | rfl | rfl | rfl | rfl | rfl | rfl | rfl | rfl | rfl | rfl | rfl <;> exact fx _ (fun _ => rfl)
  refine ⟨n0, n1, ?_, ?_, ?_, ?_, ?_⟩
  · rw [ht]
    exact h1.on xtw_cases x m
  · exact jBook.on h2 b1 (mSt_on m) (m 99 39 rfl) (m 99 40 rfl) (fm _ (fun _ => rfl)) (fm _ (fun _ => rfl)) (fm _ (fun _ => rfl)) (fm _ (fun _ => rfl)) (fm _ (fun _ => rfl))
  · rw [x 0 8 rfl, m 99 57 rfl]
    rcases h3 with h3 | ⟨h3, h4, h5⟩
    · exact Or.inl h3
    · exact Or.inr ⟨h3, h4, jBook.on h5 b2 (mAc_on (fm 60 (fun _ => rfl))) (m 99 58 rfl) (m 99 59 rfl) (fm _ (fun _ => rfl)) (fm _ (fun _ => rfl)) (fm _ (fun _ => rfl)) (fm _ (fun _ => rfl)) (fm _ (fun _ => rfl))⟩
  · obtain ⟨n, k1, k2, k3, k4⟩ := h4
    refine ⟨n, k1, by rw [x 2 1 rfl]; exact k2, by rw [m 99 20 rfl]; exact k3, fun i hi => ?_⟩
    rw [x 3 i rfl, m 19 i rfl]
    exact k4 i hi
  · unfold jMisc at h5 ⊢
    rw [x 1 3 rfl, m 99 29 rfl, m 99 41 rfl, x 0 7 rfl, x 1 1 rfl, x 14 2 rfl, x 17 2 rfl, x 82 2 rfl, x 85 2 rfl]
    exact h5
end

/-! part 31.asmall -/
section
/-! SMALL METHODS of both sides, as maps -/
theorem chk_t {α : Type} {b : Bool} {x : Option α} (h : b = true) : chk b x = x := by subst h; rfl
theorem bnd_t {α β : Type} {x : Option α} {a : α} {f : α → Option β} (h : x = some a) : bnd x f = f a := by subst h; rfl
theorem bnx_t {α : Type} {x : Option (Nat × α × gS)} {a : Nat × α × gS} {f : Nat × α × gS → Option tR} (h : x = some a) (h0 : a.1 = 0) : bnx x f = f a := by subst h; exact if_pos h0
theorem bnx_x {α : Type} {x : Option (Nat × α × gS)} {a : Nat × α × gS} {f : Nat × α × gS → Option tR} (h : x = some a) (h0 : a.1 ≠ 0) : bnx x f = some (a.1, 0, a.2.2) := by subst h; exact if_neg h0
theorem inb_t {k n : Nat} (h : k < n) (hn : n < 2 ^ 31) : inb (nI k) n = true := decide_eq_true (vp_in_nI h hn)
theorem inb_f1 {x : Int32} {n : Nat} (h : x < 0) : inb x n = false := decide_eq_false (fun q => q (Or.inl h))
theorem inb_f2 {x : Int32} {n : Nat} (hn : n < 2 ^ 31) (h : nI n ≤ x) : inb x n = false := by
  refine decide_eq_false (fun q => ?_)
  obtain ⟨j, hj, rfl⟩ := vp_in_of q hn
  exact nI_ge hj hn h
theorem inb_of {x : Int32} {n : Nat} (h : inb x n = true) (hn : n < 2 ^ 31) : ∃ j : Nat, j < n ∧ x = nI j := vp_in_of (inb_vp h) hn
theorem inb_iff {x : Int32} {n : Nat} : inb x n = true ↔ 0 ≤ x.toInt ∧ x.toInt < n := by
  rw [← vp_in_iff]
  exact ⟨inb_vp, fun h => decide_eq_true h⟩
theorem nz_t {n : Nat} (h0 : 0 < n) (h : n < 2 ^ 31) : nz (nI n) = true := decide_eq_true (nI_ne0 h0 h)
noncomputable def iv (b : Bool) : Int32 := if b = true then 1 else 0
theorem iv_0 {b : Bool} : iv b = 0 ↔ b = false := by cases b <;> simp [iv]
theorem zb_iv {b : Bool} : zb (iv b) = true := by cases b <;> rfl
theorem x_isGuild {N T n : Nat} {S : gS} {x : Int32} (h : S T 5 = nI n) (hn : n < 2 ^ 31) : fX9_isGuild N T x S = some (iv (inb x n), S) := by
  unfold fX9_isGuild fX9_isGuild_b0
  rcases pk_ix x hn with h1 | h1 | ⟨j, hj, rfl⟩
  · rw [if_pos h1, inb_f1 h1]
    rfl
  · rw [inb_f2 hn h1]
    by_cases h2 : x < 0
    · rw [if_pos h2]
      rfl
    · rw [if_neg h2]
      unfold fX9_isGuild_b4
      rw [h, if_pos h1]
      rfl
  · rw [inb_t hj hn, if_neg (nI_pos (by omega))]
    unfold fX9_isGuild_b4
    rw [h, if_neg (nI_ge hj hn)]
    rfl
theorem x_isGrotto {N T n : Nat} {S : gS} {x : Int32} (h : S T 0 = nI n) (hn : n < 2 ^ 31) : fX9_isGrotto N T x S = some (iv (inb x n), S) := by
  unfold fX9_isGrotto fX9_isGrotto_b0
  rcases pk_ix x hn with h1 | h1 | ⟨j, hj, rfl⟩
  · rw [if_pos h1, inb_f1 h1]
    rfl
  · rw [inb_f2 hn h1]
    by_cases h2 : x < 0
    · rw [if_pos h2]
      rfl
    · rw [if_neg h2]
      unfold fX9_isGrotto_b4
      rw [h, if_pos h1]
      rfl
  · rw [inb_t hj hn, if_neg (nI_pos (by omega))]
    unfold fX9_isGrotto_b4
    rw [h, if_neg (nI_ge hj hn)]
    rfl
noncomputable def wth (x a b : Int32) : Bool := decide (a ≤ x) && decide (x ≤ b)
theorem nlt_le {a b : Int32} : ¬ a < b ↔ b ≤ a := Int32.not_lt
theorem x_isWithin {N : Nat} {S : gS} {x a b : Int32} : fX11_isWithin N x a b S = some (iv (wth x a b), S) := by
  unfold fX11_isWithin fX11_isWithin_b0 wth
  by_cases h1 : x < a
  · rw [if_pos h1, decide_eq_false (p := a ≤ x) (fun h => nlt_le.mpr h h1)]
    rfl
  · rw [if_neg h1, decide_eq_true (nlt_le.mp h1)]
    unfold fX11_isWithin_b5
    by_cases h2 : b < x
    · rw [if_pos h2, decide_eq_false (p := x ≤ b) (fun h => nlt_le.mpr h h2)]
      rfl
    · rw [if_neg h2, decide_eq_true (nlt_le.mp h2)]
      rfl
theorem cmp_lt {x y : Int64} : lg_cmp x y < 0 ↔ x < y := by
  unfold lg_cmp
  by_cases h1 : x > y
  · rw [if_pos h1]
    exact ⟨fun h => absurd h (by decide), fun h => absurd h1 (Int64.not_lt.mpr (Int64.le_of_lt h))⟩
  · rw [if_neg h1]
    by_cases h2 : x = y
    · rw [if_pos h2]
      exact ⟨fun h => absurd h (by decide), fun h => absurd h (by rw [h2]; exact Int64.lt_irrefl)⟩
    · rw [if_neg h2]
      exact ⟨fun _ => Int64.lt_of_le_of_ne (Int64.not_lt.mp h1) h2, fun _ => by decide⟩
theorem cmp_gt {x y : Int64} : 0 < lg_cmp x y ↔ y < x := by
  unfold lg_cmp
  by_cases h1 : x > y
  · rw [if_pos h1]
    exact ⟨fun _ => h1, fun _ => by decide⟩
  · rw [if_neg h1]
    by_cases h2 : x = y
    · rw [if_pos h2]
      exact ⟨fun h => absurd h (by decide), fun h => absurd h h1⟩
    · rw [if_neg h2]
      exact ⟨fun h => absurd h (by decide), fun h => absurd h h1⟩
theorem i64_lt {a b : Int32} : a.toInt64 < b.toInt64 ↔ a < b := by
  rw [Int64.lt_iff_toInt_lt, Int32.lt_iff_toInt_lt, Int32.toInt_toInt64, Int32.toInt_toInt64]
theorem m_isIn {N : Nat} {S : gS} {x a b : Int32} : fX12_isIn N x.toInt64 a.toInt64 b.toInt64 S = some (iv (wth x a b), S) := by
  unfold fX12_isIn fX12_isIn_b0 wth
  by_cases h1 : x < a
  · rw [if_pos (cmp_lt.mpr (i64_lt.mpr h1)), decide_eq_false (p := a ≤ x) (fun h => nlt_le.mpr h h1)]
    rfl
  · rw [if_neg (fun h => h1 (i64_lt.mp (cmp_lt.mp h))), decide_eq_true (nlt_le.mp h1)]
    unfold fX12_isIn_b6
    by_cases h2 : b < x
    · rw [if_pos (cmp_gt.mpr (i64_lt.mpr h2)), decide_eq_false (p := x ≤ b) (fun h => nlt_le.mpr h h2)]
      rfl
    · rw [if_neg (fun h => h2 (i64_lt.mp (cmp_gt.mp h))), decide_eq_true (nlt_le.mp h2)]
      rfl
theorem m_isIn0 {N : Nat} {S : gS} {x b : Int32} : fX12_isIn N x.toInt64 0 b.toInt64 S = some (iv (wth x 0 b), S) := m_isIn (a := 0)
theorem wth_inb {x : Int32} {n : Nat} (hn : n < 2 ^ 30) : wth x 0 (nI n - 1) = inb x n := by
  have e : (nI n - 1).toInt = (n : Int) - 1 := pk_sub_toInt (a := n) (b := 1) hn (by decide)
  have h : wth x 0 (nI n - 1) = true ↔ inb x n = true := by
    rw [inb_iff]
    unfold wth
    rw [Bool.and_eq_true, decide_eq_true_iff, decide_eq_true_iff, Int32.le_iff_toInt_le, Int32.le_iff_toInt_le, e]
    have e0 : (0 : Int32).toInt = 0 := rfl
    rw [e0]
    omega
  cases h1 : wth x 0 (nI n - 1) with
  | true => exact (h.mp h1).symm
  | false =>
    cases h2 : inb x n with
    | true => rw [h.mpr h2] at h1; cases h1
    | false => rfl
theorem m_isGuild {N n : Nat} {S : gS} {x : Int32} (h : S 5 1 = nI n) (hn : n < 2 ^ 30) : fX12_isGuild N x S = some (iv (inb x n), S) := by
  unfold fX12_isGuild fX12_isGuild_b0
  rw [h, bnd_t m_isIn0, wth_inb hn]
  exact chk_t zb_iv
theorem m_isGrotto {N n : Nat} {S : gS} {x : Int32} (h : S 5 0 = nI n) (hn : n < 2 ^ 30) : fX12_isGrotto N x S = some (iv (inb x n), S) := by
  unfold fX12_isGrotto fX12_isGrotto_b0
  rw [h, bnd_t m_isIn0, wth_inb hn]
  exact chk_t zb_iv
theorem x_needGuild {N n : Nat} {S : gS} {x : Int32} (h : S (xtw S) 5 = nI n) (hn : n < 2 ^ 31) : fX11_needGuild N x S = some (if inb x n = true then 0 else 1, 0, S) := by
  unfold fX11_needGuild fX11_needGuild_b0
  dsimp only [lt]
  rw [bnd_t (x_isGuild h hn)]
  cases inb x n <;> rfl
theorem x_needGrotto {N n : Nat} {S : gS} {x : Int32} (h : S (xtw S) 0 = nI n) (hn : n < 2 ^ 31) : fX11_needGrotto N x S = some (if inb x n = true then 0 else 1, 0, S) := by
  unfold fX11_needGrotto fX11_needGrotto_b0
  dsimp only [lt]
  rw [bnd_t (x_isGrotto h hn)]
  cases inb x n <;> rfl
theorem x_needWhat {N : Nat} {S : gS} {x a : Int32} : fX11_needWhat N x a S = some (if wth x 0 a = true then 0 else 1, 0, S) := by
  unfold fX11_needWhat fX11_needWhat_b0
  rw [bnd_t x_isWithin]
  cases wth x 0 a <;> rfl
theorem x_needWithin {N : Nat} {S : gS} {x a b : Int32} : fX11_needWithin N x a b S = some (if wth x a b = true then 0 else 2, 0, S) := by
  unfold fX11_needWithin fX11_needWithin_b0
  rw [bnd_t x_isWithin]
  cases wth x a b <;> rfl
/-! bits -/
noncomputable def bt (x k : Int32) : Bool := decide (¬ ((x >>> (k &&& 31)) &&& 1 : Int32) = 0)
theorem and1 (x : Int32) : (x &&& 1) = 0 ∨ (x &&& 1) = 1 := by
  obtain ⟨j, hj, e⟩ := vp_in_of (pk_andIn x (m := 1) 1 rfl (by decide)) (by decide)
  rw [e]
  rcases (show j = 0 ∨ j = 1 by omega) with rfl | rfl
  · exact Or.inl rfl
  · exact Or.inr rfl
theorem x_isOneOf {N : Nat} {S : gS} {x k : Int32} : fX11_isOneOf N x k S = some (iv (bt x k), S) := by
  unfold fX11_isOneOf fX11_isOneOf_b0 bt
  by_cases h : ((x >>> (k &&& 31)) &&& 1 : Int32) = 0
  · rw [if_pos h, decide_eq_false (fun q => q h)]
    rfl
  · rw [if_neg h, decide_eq_true h]
    rfl
theorem m_isOf {N : Nat} {S : gS} {x k : Int32} : fX12_isOf N x k S = some (iv (bt x k), S) := by
  unfold fX12_isOf fX12_isOf_b0 bt
  rcases and1 (x >>> (k &&& 31)) with h | h
  · rw [h, decide_eq_false (fun q => q rfl)]
    rfl
  · rw [h, decide_eq_true (by decide)]
    rfl
/-! WET, THE BOUND, what drips -/
noncomputable def wetS (n : Nat) (row : Nat → Int32) (h : Nat) : Int32 := if n = 0 then 5 else row (h % n)
theorem x_wetOf {N T n h : Nat} {S : gS} (hw : S T 10 = nI n) (hn : n ≤ 8) (hh : h < 2 ^ 31) : fX9_wetOf N T (nI h) S = some (wetS n (S (T + 9)) h, S) := by
  unfold fX9_wetOf fX9_wetOf_b0 wetS
  by_cases h0 : n = 0
  · subst h0
    rw [hw]
    rfl
  · have h1 : ¬ nI n < 1 := nI_nlt (a := n) (b := 1) (by omega) (by omega)
    rw [hw, if_neg h1, if_neg h0]
    unfold fX9_wetOf_b8
    rw [if_pos (nI_pos' hh)]
    unfold fX9_wetOf_b16
    have hm : h % n < n := Nat.mod_lt _ (by omega)
    rw [hw, pk_rem hh (by omega) (by omega), chk_t (nz_t (by omega) (by omega)), chk_t (inb_t (by omega) (by decide)), nI_clamp (by omega)]
    rfl
theorem m_wetOf {N n h : Nat} {S : gS} (hw : S 5 3 = nI n) (hn : n ≤ 8) (hh : h < 2 ^ 31) (h37 : S 99 37 = nI h) (h41 : S 99 41 = -1) : fX12_wetOf N S = some (wetS n (S 14) h, S) := by
  unfold fX12_wetOf fX12_wetOf_b0 wetS
  rw [if_pos h41]
  unfold fX12_wetOf_b15
  by_cases h0 : n = 0
  · subst h0
    rw [hw]
    rfl
  · rw [hw, if_neg (nI_ne0 (by omega) (by omega)), if_neg h0]
    unfold fX12_wetOf_b28
    have hm : h % n < n := Nat.mod_lt _ (by omega)
    rw [hw, h37, pk_rem hh (by omega) (by omega), chk_t (nz_t (by omega) (by omega)), chk_t (inb_t (by omega) (by decide)), nI_clamp (by omega)]
    rfl
/-- WET is told ahead (drought, years) -/
theorem m_wetOf2 {N : Nat} {S : gS} (h41 : ¬ S 99 41 = -1) : fX12_wetOf N S = some (S 99 41, S) := by
  unfold fX12_wetOf fX12_wetOf_b0
  rw [if_neg h41]
  rfl
noncomputable def bndS (b : Nat) : Int32 := if b = 0 then 70 else nI b
theorem x_mostSin {N T b : Nat} {S : gS} (h : S T 12 = nI b) (hb : b < 2 ^ 31) : fX9_mostSin N T S = some (bndS b, S) := by
  unfold fX9_mostSin fX9_mostSin_b0 bndS
  have h1 : fX9_isBoundTold N T S = some (if b = 0 then 0 else 1, S) := by
    unfold fX9_isBoundTold fX9_isBoundTold_b0
    by_cases h0 : b = 0
    · subst h0
      rw [h]
      rfl
    · rw [h, if_neg (nI_ne0 (by omega) hb), if_neg h0]
      rfl
  rw [bnd_t h1]
  by_cases h0 : b = 0
  · rw [if_pos h0, if_pos h0]
    rfl
  · rw [if_neg h0, if_neg h0]
    show fX9_mostSin_b7 N T S = _
    unfold fX9_mostSin_b7
    rw [h]
    rfl
end

/-! part 32.acount -/
section
/-! THE FIRST CALLS: fault, forget, count -/
theorem stp_ok {co : Nat → Int32} {ok : Nat → Prop} {SX SM SX' SM' : gS} {v : Int32} {FX : Nat → Option tR} {FM : Nat → Option (Int32 × gS)} (N M : Nat) (hJ : JJ SX' SM') (hco : co 0 = 0) (hok : ok 0) (h1 : FX N = some (0, v, SX')) (h2 : FM M = some (v, SM')) (hc : SM' 99 4 = 0) : StpT JJ co ok FX FM :=
  ⟨N, (0, v, SX'), M, (v, SM'), h1, h2, hok, by rw [hco]; exact hc, fun _ => rfl, hJ⟩
theorem stp_no {co : Nat → Int32} {ok : Nat → Prop} {SX' SM' : gS} {v w : Int32} {FX : Nat → Option tR} {FM : Nat → Option (Int32 × gS)} (N M t : Nat) (hJ : JJ SX' SM') (ht : t ≠ 0) (hok : ok t) (h1 : FX N = some (t, v, SX')) (h2 : FM M = some (w, SM')) (hc : SM' 99 4 = co t) : StpT JJ co ok FX FM :=
  ⟨N, (t, v, SX'), M, (w, SM'), h1, h2, hok, hc, fun h => absurd h ht, hJ⟩
/-- the reference's code is put, all else stays -/
theorem code_same (S : gS) (x : Int32) : mSame S (sU S 99 4 x) := mSame.rf.up rfl
theorem code_at (S : gS) (x : Int32) : sU S 99 4 x 99 4 = x := by rw [sU_ap, if_pos ⟨rfl, rfl⟩]
theorem st_fault : Lw_fault JJ := by
  intro SX SM hJ
  have hJ1 := hJ.same xSame.rf (code_same SM 0)
  refine ⟨0, (SX 1 3, SX), 0, (sU SM 99 4 0 99 29, sU SM 99 4 0), rfl, rfl, ?_, hJ1⟩
  obtain ⟨n0, n1, -, -, -, -, h⟩ := hJ1
  exact h.1
/-! what a call that acts may change -/
def oSame (P : Nat → Nat → Bool) (S S' : gS) : Prop := ∀ i j, P i j = false → S' i j = S i j
theorem oSame.rf {P : Nat → Nat → Bool} {S : gS} : oSame P S S := fun _ _ _ => rfl
theorem oSame.tr {P : Nat → Nat → Bool} {S S' S'' : gS} (h : oSame P S S') (h' : oSame P S' S'') : oSame P S S'' := fun i j k => (h' i j k).trans (h i j k)
theorem oSame.up {P : Nat → Nat → Bool} {S S' : gS} {a b : Nat} {x : Int32} (h : oSame P S S') (hs : P a b = true) : oSame P S (sU S' a b x) := by
  intro i j k
  rw [sU_ap]
  by_cases h2 : i = a ∧ j = b
  · rw [h2.1, h2.2, hs] at k
    cases k
  · rw [if_neg h2]
    exact h i j k
noncomputable def xAct (i j : Nat) : Bool := xScr i j || (21 ≤ i && i ≤ 45) || (i == 0 && j == 8)
noncomputable def mAct (i j : Nat) : Bool := mScr i j || i == 17 || (32 ≤ i && i ≤ 36) || (48 ≤ i && i ≤ 50) || (60 ≤ i && i ≤ 65) || (i == 99 && ((37 ≤ j && j ≤ 40) || (57 ≤ j && j ≤ 59)))
theorem xSame.act {S S' : gS} (h : xSame S S') : oSame xAct S S' := fun i j k => h i j (by
  unfold xAct at k
  rw [Bool.or_eq_false_iff, Bool.or_eq_false_iff] at k
  exact k.1.1)
theorem mSame.act {S S' : gS} (h : mSame S S') : oSame mAct S S' := fun i j k => h i j (by
  unfold mAct at k
  rw [Bool.or_eq_false_iff, Bool.or_eq_false_iff, Bool.or_eq_false_iff, Bool.or_eq_false_iff, Bool.or_eq_false_iff] at k
  exact k.1.1.1.1.1)
theorem jTown.on2 {n0 n1 T : Nat} {SX SM SX' SM' : gS} (h : jTown n0 n1 T SX SM) (hx : ∀ i j, i ≤ 14 → i ≠ 12 → SX' (T + i) j = SX (T + i) j) (m5 : ∀ j, SM' 5 j = SM 5 j) (m6 : ∀ j, SM' 6 j = SM 6 j) (m7 : ∀ j, SM' 7 j = SM 7 j) (m8 : ∀ j, SM' 8 j = SM 8 j) (m9 : ∀ j, SM' 9 j = SM 9 j) (m14 : ∀ j, SM' 14 j = SM 14 j) (m15 : ∀ j, SM' 15 j = SM 15 j) (m16 : ∀ j, SM' 16 j = SM 16 j) (m18 : ∀ j, SM' 18 j = SM 18 j) : jTown n0 n1 T SX' SM' := by
  obtain ⟨⟨a1, a2, a3⟩, ⟨b1, b2, b3⟩, ⟨w, w1, w2, w3, w4⟩, ⟨b, c1, c2, c3⟩, d, g, r1, r2⟩ := h
  have hx0 : ∀ j, SX' T j = SX T j := fun j => hx 0 j (by omega) (by omega)
  refine ⟨⟨by rw [hx0]; exact a1, by rw [m5]; exact a2, a3⟩, ⟨by rw [hx0]; exact b1, by rw [m5]; exact b2, b3⟩, ⟨w, w1, by rw [hx0]; exact w2, by rw [m5]; exact w3, fun i hi => ?_⟩, ⟨b, c1, by rw [hx0]; exact c2, by rw [m5]; exact c3⟩, fun k hk => ?_, fun q hq => ?_, ?_, ?_⟩
  · rw [hx 9 i (by omega) (by omega), m14]
    exact w4 i hi
  · rw [hx 1 k (by omega) (by omega), hx 2 k (by omega) (by omega), hx 3 k (by omega) (by omega), hx 4 k (by omega) (by omega), m7, m8, m9, m6]
    exact d k hk
  · rw [hx 5 q (by omega) (by omega), m18]
    exact g q hq
  · exact r1.on (hx 10 3 (by omega) (by omega)) (funext fun j => hx 11 j (by omega) (by omega)) (m5 4) (funext fun j => m15 j)
  · exact r2.on (hx 13 3 (by omega) (by omega)) (funext fun j => hx 14 j (by omega) (by omega)) (m5 5) (funext fun j => m16 j)
def jPic (n0 n1 : Nat) (SX SM : gS) : Prop := (SX 0 8 = 0 ∧ SM 99 57 = 0) ∨ (SX 0 8 = 1 ∧ SM 99 57 = 1 ∧ jImg n0 n1 SX SM)
/-- a call that acts: the town, the tape and the rest stay; what is so now and the image are to be shown -/
theorem JJ.act {SX SM SX' SM' : gS} (h : JJ SX SM) (x : oSame xAct SX SX') (m : oSame mAct SM SM') (k : ∀ n0 n1, jTown n0 n1 (xtw SX) SX SM → jNow n0 n1 SX SM → jPic n0 n1 SX SM → jNow n0 n1 SX' SM' ∧ jPic n0 n1 SX' SM') : JJ SX' SM' := by
  obtain ⟨n0, n1, h1, h2, h3, h4, h5⟩ := h
  obtain ⟨k1, k2⟩ := k n0 n1 h1 h2 h3
  refine ⟨n0, n1, ?_, k1, k2, ?_, ?_⟩
  · have ht : xtw SX' = xtw SX := by
      unfold xtw
      rw [x 0 7 rfl]
    rw [ht]
    refine h1.on2 (fun i j h1 h2 => x _ _ ?_) (fun j => m 5 j rfl) (fun j => m 6 j rfl) (fun j => m 7 j rfl) (fun j => m 8 j rfl) (fun j => m 9 j rfl) (fun j => m 14 j rfl) (fun j => m 15 j rfl) (fun j => m 16 j rfl) (fun j => m 18 j rfl)
    rcases xtw_cases (S := SX) with hT | hT
    · rw [hT]
      rcases (show i = 0 ∨ i = 1 ∨ i = 2 ∨ i = 3 ∨ i = 4 ∨ i = 5 ∨ i = 6 ∨ i = 7 ∨ i = 8 ∨ i = 9 ∨ i = 10 ∨ i = 11 ∨ i = 13 ∨ i = 14 by omega) with rfl | rfl | rfl | rfl | rfl | rfl | rfl | rfl | rfl | rfl | rfl | rfl | rfl | rfl <;> rfl
    · rw [hT]
      rcases (show i = 0 ∨ i = 1 ∨ i = 2 ∨ i = 3 ∨ i = 4 ∨ i = 5 ∨ i = 6 ∨ i = 7 ∨ i = 8 ∨ i = 9 ∨ i = 10 ∨ i = 11 ∨ i = 13 ∨ i = 14 by omega) with rfl | rfl | rfl | rfl | rfl | rfl | rfl | rfl | rfl | rfl | rfl | rfl | rfl | rfl <;> rfl
  · obtain ⟨n, k1, k2, k3, k4⟩ := h4
    refine ⟨n, k1, by rw [x 2 1 rfl]; exact k2, by rw [m 99 20 rfl]; exact k3, fun i hi => ?_⟩
    rw [x 3 i rfl, m 19 i rfl]
    exact k4 i hi
  · unfold jMisc at h5 ⊢
    rw [x 1 3 rfl, m 99 29 rfl, m 99 41 rfl, x 0 7 rfl, x 1 1 rfl, x 14 2 rfl, x 17 2 rfl, x 82 2 rfl, x 85 2 rfl]
    exact h5
/-- the image stays where its cells do -/
theorem jPic.on {n0 n1 : Nat} {SX SM SX' SM' : gS} (h : jPic n0 n1 SX SM) (x0 : SX' 0 8 = SX 0 8) (x : ∀ i j, 34 ≤ i → i ≤ 45 → SX' i j = SX i j) (m : ∀ i j, 60 ≤ i → i ≤ 65 → SM' i j = SM i j) (m7 : SM' 99 57 = SM 99 57) (m8 : SM' 99 58 = SM 99 58) (m9 : SM' 99 59 = SM 99 59) : jPic n0 n1 SX' SM' := by
  have fm : ∀ i, 60 ≤ i → i ≤ 65 → SM' i = SM i := fun i h1 h2 => funext fun j => m i j h1 h2
  unfold jPic
  rw [x0, m7]
  rcases h with h | ⟨h1, h2, h3⟩
  · exact Or.inl h
  · refine Or.inr ⟨h1, h2, jBook.on h3 (fun i h1 h2 => funext fun j => x _ _ (by omega) (by omega)) (mAc_on (fm 60 (by omega) (by omega))) m8 m9 (fm 61 (by omega) (by omega)) (fm 62 (by omega) (by omega)) (fm 63 (by omega) (by omega)) (fm 64 (by omega) (by omega)) (fm 65 (by omega) (by omega))⟩
theorem st_forget : Lw_forget JJ := by
  intro SX SM hJ
  have hJ1 := hJ.same xSame.rf (code_same SM 0)
  refine ⟨0, (0, sU SX 28 3 0), 0, (0, sU (sU SM 99 4 0) 99 40 0), rfl, rfl, rfl, ?_⟩
  generalize sU SM 99 4 0 = S1 at hJ1 ⊢
  show JJ (sU SX 28 3 0) (sU S1 99 40 0)
  refine hJ1.act (oSame.rf.up rfl) (oSame.rf.up rfl) (fun n0 n1 hT hN hI => ⟨?_, hI.on ?_ (fun i j h1 h2 => ?_) (fun i j h1 h2 => ?_) ?_ ?_ ?_⟩)
  · obtain ⟨s, ⟨a, a1, a2, a3, a4⟩, q, t⟩ := hN
    refine ⟨s.on (fun c g _ hc => ?_) (fun c g h1 hc => ?_), ⟨a, a1, a2, a3, fun i hi => (a4 i hi).on (fun c g _ _ => rfl) (fun c g _ _ => rfl)⟩, ⟨0, by omega, ?_, ?_, fun i h => by omega⟩, fun i hi => ?_⟩
    · unfold xSt
      rw [sU_ap, if_neg (by omega)]
    · unfold mSt
      by_cases h0 : c = 0
      · rw [if_pos h0, if_pos h0, sU_ap, if_neg (by have := h1 h0; omega)]
      · rw [if_neg h0, if_neg h0, sU_ap, if_neg (by omega)]
    · show sU SX 28 3 0 28 3 = nI 0
      rw [sU_ap, if_pos ⟨rfl, rfl⟩]
      rfl
    · rw [sU_ap, if_pos ⟨rfl, rfl⟩]
      rfl
    · show sU SX 28 3 0 32 i = sU S1 99 40 0 17 i
      rw [sU_ap, sU_ap, if_neg (by omega), if_neg (by omega)]
      exact t i hi
  · rw [sU_ap, if_neg (by omega)]
  · rw [sU_ap, if_neg (by omega)]
  · rw [sU_ap, if_neg (by omega)]
  · rw [sU_ap, if_neg (by omega)]
  · rw [sU_ap, if_neg (by omega)]
  · rw [sU_ap, if_neg (by omega)]
noncomputable def sumR (row : Nat → Int32) : Nat → Nat → Int32 → Int32
  | 0, _, acc => acc
  | m + 1, k, acc => sumR row m (k + 1) (acc + row k)
theorem sumR_eq {r r' : Nat → Int32} : ∀ (m k : Nat) (acc : Int32), (∀ i, k ≤ i → i < k + m → r i = r' i) → sumR r m k acc = sumR r' m k acc := by
  intro m
  induction m with
  | zero => intro k acc h; rfl
  | succ m ih =>
    intro k acc h
    show sumR r m (k + 1) (acc + r k) = sumR r' m (k + 1) (acc + r' k)
    rw [h k (Nat.le_refl _) (by omega)]
    exact ih (k + 1) _ (fun i h1 h2 => h i (by omega) (by omega))
theorem x_purses_h {N n k0 k1 : Nat} {S : gS} (hn : S k1 5 = nI n) (h6 : n ≤ 6) : ∀ (m k : Nat) (acc : Int32) (fuel : Nat), k + m = n → m < fuel → fX7_purses_h4 N fuel k0 k1 acc (nI k) S = some (sumR (S (k0 + 2)) m k acc, S) := by
  intro m
  induction m with
  | zero =>
    intro k acc fuel h1 h2
    obtain ⟨f, rfl⟩ : ∃ f, fuel = f + 1 := ⟨fuel - 1, by omega⟩
    show fX7_purses_b4 N _ k0 k1 acc (nI k) S = _
    unfold fX7_purses_b4
    rw [hn, if_pos (nI_le (by omega) (by omega))]
    rfl
  | succ m ih =>
    intro k acc fuel h1 h2
    obtain ⟨f, rfl⟩ : ∃ f, fuel = f + 1 := ⟨fuel - 1, by omega⟩
    show fX7_purses_b4 N _ k0 k1 acc (nI k) S = _
    unfold fX7_purses_b4
    rw [hn, if_neg (nI_ge (by omega) (by omega))]
    unfold fX7_purses_b12
    rw [chk_t (inb_t (by omega) (by decide)), nI_clamp (by omega), nI_1]
    exact ih (k + 1) _ f (by omega) (by omega)
end

/-! part 33.aloops -/
section
/-! loops over the GUILDS that only look -/
noncomputable def hoR (row : Nat → Int32) (x : Int32) : Nat → Nat → Int32
  | 0, _ => -1
  | m + 1, k => if row k = x then nI k else hoR row x m (k + 1)
theorem hoR_eq {r r' : Nat → Int32} {x : Int32} : ∀ (m k : Nat), (∀ i, k ≤ i → i < k + m → r i = r' i) → hoR r x m k = hoR r' x m k := by
  intro m
  induction m with
  | zero => intro k h; rfl
  | succ m ih =>
    intro k h
    show (if r k = x then nI k else hoR r x m (k + 1)) = if r' k = x then nI k else hoR r' x m (k + 1)
    rw [h k (Nat.le_refl _) (by omega), ih (k + 1) (fun i h1 h2 => h i (by omega) (by omega))]
noncomputable def hbR (row : Nat → Int32) : Nat → Nat → Int32 → Int32
  | 0, _, acc => acc
  | m + 1, k, acc => hbR row m (k + 1) (if row k = -1 then acc else acc ||| ((1 : Int32) <<< (row k &&& 31)))
theorem hbR_eq {r r' : Nat → Int32} : ∀ (m k : Nat) (acc : Int32), (∀ i, k ≤ i → i < k + m → r i = r' i) → hbR r m k acc = hbR r' m k acc := by
  intro m
  induction m with
  | zero => intro k acc h; rfl
  | succ m ih =>
    intro k acc h
    show hbR r m (k + 1) _ = hbR r' m (k + 1) _
    rw [h k (Nat.le_refl _) (by omega)]
    exact ih (k + 1) _ (fun i h1 h2 => h i (by omega) (by omega))
section
variable {N n k0 k1 : Nat} {S : gS}
theorem x_sins_h (hn : S k1 5 = nI n) (h6 : n ≤ 6) : ∀ (m k : Nat) (acc : Int32) (fuel : Nat), k + m = n → m < fuel → fX7_sins_h4 N fuel k0 k1 acc (nI k) S = some (sumR (S (k0 + 1)) m k acc, S) := by
  intro m
  induction m with
  | zero =>
    intro k acc fuel h1 h2
    obtain ⟨f, rfl⟩ : ∃ f, fuel = f + 1 := ⟨fuel - 1, by omega⟩
    show fX7_sins_b4 N _ k0 k1 acc (nI k) S = _
    unfold fX7_sins_b4
    rw [hn, if_pos (nI_le (by omega) (by omega))]
    rfl
  | succ m ih =>
    intro k acc fuel h1 h2
    obtain ⟨f, rfl⟩ : ∃ f, fuel = f + 1 := ⟨fuel - 1, by omega⟩
    show fX7_sins_b4 N _ k0 k1 acc (nI k) S = _
    unfold fX7_sins_b4
    rw [hn, if_neg (nI_ge (by omega) (by omega))]
    unfold fX7_sins_b12
    rw [chk_t (inb_t (by omega) (by decide)), nI_clamp (by omega), nI_1]
    exact ih (k + 1) _ f (by omega) (by omega)
theorem m_sumOf_h (hn : S 5 1 = nI n) (h6 : n ≤ 6) (hk : mN k1 = 6) : ∀ (m k : Nat) (acc : Int32) (fuel : Nat), k + m = n → m < fuel → fX12_sumOf_h4 N fuel k1 acc (nI k) S = some (sumR (S k1) m k acc, S) := by
  intro m
  induction m with
  | zero =>
    intro k acc fuel h1 h2
    obtain ⟨f, rfl⟩ : ∃ f, fuel = f + 1 := ⟨fuel - 1, by omega⟩
    show fX12_sumOf_b4 N _ k1 acc (nI k) S = _
    unfold fX12_sumOf_b4
    rw [hn, if_pos (nI_le (by omega) (by omega))]
    rfl
  | succ m ih =>
    intro k acc fuel h1 h2
    obtain ⟨f, rfl⟩ : ∃ f, fuel = f + 1 := ⟨fuel - 1, by omega⟩
    show fX12_sumOf_b4 N _ k1 acc (nI k) S = _
    unfold fX12_sumOf_b4
    rw [hn, if_neg (nI_ge (by omega) (by omega))]
    unfold fX12_sumOf_b14
    rw [hk, chk_t (inb_t (by omega) (by decide)), nI_clamp (by omega), nI_1]
    exact ih (k + 1) _ f (by omega) (by omega)
theorem x_holderOf_h {x : Int32} (hn : S k1 5 = nI n) (h6 : n ≤ 6) : ∀ (m k : Nat) (fuel : Nat), k + m = n → m < fuel → fX7_holderOf_h2 N fuel k0 k1 x (nI k) S = some (hoR (S (k0 + 4)) x m k, S) := by
  intro m
  induction m with
  | zero =>
    intro k fuel h1 h2
    obtain ⟨f, rfl⟩ : ∃ f, fuel = f + 1 := ⟨fuel - 1, by omega⟩
    show fX7_holderOf_b2 N _ k0 k1 x (nI k) S = _
    unfold fX7_holderOf_b2
    rw [hn, if_pos (nI_le (by omega) (by omega))]
    rfl
  | succ m ih =>
    intro k fuel h1 h2
    obtain ⟨f, rfl⟩ : ∃ f, fuel = f + 1 := ⟨fuel - 1, by omega⟩
    show fX7_holderOf_b2 N _ k0 k1 x (nI k) S = _
    unfold fX7_holderOf_b2
    rw [hn, if_neg (nI_ge (by omega) (by omega))]
    unfold fX7_holderOf_b10
    rw [chk_t (inb_t (by omega) (by decide)), nI_clamp (by omega)]
    show _ = some ((if S (k0 + 4) k = x then nI k else hoR (S (k0 + 4)) x m (k + 1)), S)
    by_cases h : S (k0 + 4) k = x
    · rw [if_pos h, if_pos h]
      rfl
    · rw [if_neg h, if_neg h]
      unfold fX7_holderOf_b22
      rw [nI_1]
      exact ih (k + 1) f (by omega) (by omega)
theorem m_hirerOf_h {x : Int32} (hn : S 5 1 = nI n) (h6 : n ≤ 6) : ∀ (m k : Nat) (fuel : Nat), k + m = n → m < fuel → fX12_hirerOf_h2 N fuel x (nI k) S = some (hoR (S 35) x m k, S) := by
  intro m
  induction m with
  | zero =>
    intro k fuel h1 h2
    obtain ⟨f, rfl⟩ : ∃ f, fuel = f + 1 := ⟨fuel - 1, by omega⟩
    show fX12_hirerOf_b2 N _ x (nI k) S = _
    unfold fX12_hirerOf_b2
    rw [hn, if_pos (nI_le (by omega) (by omega))]
    rfl
  | succ m ih =>
    intro k fuel h1 h2
    obtain ⟨f, rfl⟩ : ∃ f, fuel = f + 1 := ⟨fuel - 1, by omega⟩
    show fX12_hirerOf_b2 N _ x (nI k) S = _
    unfold fX12_hirerOf_b2
    rw [hn, if_neg (nI_ge (by omega) (by omega))]
    unfold fX12_hirerOf_b12
    rw [chk_t (inb_t (by omega) (by decide)), nI_clamp (by omega)]
    show _ = some ((if S 35 k = x then nI k else hoR (S 35) x m (k + 1)), S)
    by_cases h : S 35 k = x
    · rw [if_pos h, if_pos h]
      rfl
    · rw [if_neg h, if_neg h]
      unfold fX12_hirerOf_b24
      rw [nI_1]
      exact ih (k + 1) f (by omega) (by omega)
theorem x_hiredBits_h (hn : S k1 5 = nI n) (h6 : n ≤ 6) : ∀ (m k : Nat) (acc : Int32) (fuel : Nat), k + m = n → m < fuel → fX7_hiredBits_h4 N fuel k0 k1 acc (nI k) S = some (hbR (S (k0 + 4)) m k acc, S) := by
  intro m
  induction m with
  | zero =>
    intro k acc fuel h1 h2
    obtain ⟨f, rfl⟩ : ∃ f, fuel = f + 1 := ⟨fuel - 1, by omega⟩
    show fX7_hiredBits_b4 N _ k0 k1 acc (nI k) S = _
    unfold fX7_hiredBits_b4
    rw [hn, if_pos (nI_le (by omega) (by omega))]
    rfl
  | succ m ih =>
    intro k acc fuel h1 h2
    obtain ⟨f, rfl⟩ : ∃ f, fuel = f + 1 := ⟨fuel - 1, by omega⟩
    show fX7_hiredBits_b4 N _ k0 k1 acc (nI k) S = _
    unfold fX7_hiredBits_b4
    rw [hn, if_neg (nI_ge (by omega) (by omega))]
    unfold fX7_hiredBits_b12
    rw [chk_t (inb_t (by omega) (by decide)), nI_clamp (by omega)]
    show _ = some (hbR (S (k0 + 4)) m (k + 1) (if S (k0 + 4) k = -1 then acc else _), S)
    by_cases h : S (k0 + 4) k = -1
    · rw [if_pos h, if_pos h]
      unfold fX7_hiredBits_b33
      rw [nI_1]
      exact ih (k + 1) _ f (by omega) (by omega)
    · rw [if_neg h, if_neg h]
      unfold fX7_hiredBits_b22
      rw [chk_t (inb_t (by omega) (by decide)), nI_clamp (by omega)]
      unfold fX7_hiredBits_b33
      rw [nI_1]
      exact ih (k + 1) _ f (by omega) (by omega)
theorem m_hiredNow_h (hn : S 5 1 = nI n) (h6 : n ≤ 6) : ∀ (m k : Nat) (acc : Int32) (fuel : Nat), k + m = n → m < fuel → fX12_hiredNow_h4 N fuel acc (nI k) S = some (hbR (S 35) m k acc, S) := by
  intro m
  induction m with
  | zero =>
    intro k acc fuel h1 h2
    obtain ⟨f, rfl⟩ : ∃ f, fuel = f + 1 := ⟨fuel - 1, by omega⟩
    show fX12_hiredNow_b4 N _ acc (nI k) S = _
    unfold fX12_hiredNow_b4
    rw [hn, if_pos (nI_le (by omega) (by omega))]
    rfl
  | succ m ih =>
    intro k acc fuel h1 h2
    obtain ⟨f, rfl⟩ : ∃ f, fuel = f + 1 := ⟨fuel - 1, by omega⟩
    show fX12_hiredNow_b4 N _ acc (nI k) S = _
    unfold fX12_hiredNow_b4
    rw [hn, if_neg (nI_ge (by omega) (by omega))]
    unfold fX12_hiredNow_b14
    rw [chk_t (inb_t (by omega) (by decide)), nI_clamp (by omega)]
    show _ = some (hbR (S 35) m (k + 1) (if S 35 k = -1 then acc else _), S)
    by_cases h : S 35 k = -1
    · rw [if_pos h, if_pos h]
      unfold fX12_hiredNow_b25 fX12_hiredNow_b37
      rw [nI_1, Int32.or_zero]
      exact ih (k + 1) _ f (by omega) (by omega)
    · rw [if_neg h, if_neg h]
      unfold fX12_hiredNow_b29
      rw [chk_t (inb_t (by omega) (by decide)), nI_clamp (by omega)]
      unfold fX12_hiredNow_b37
      rw [nI_1]
      exact ih (k + 1) _ f (by omega) (by omega)
theorem x_sins (hn : S k1 5 = nI n) (h6 : n ≤ 6) (hN : 6 < N) : fX7_sins N k0 k1 S = some (sumR (S (k0 + 1)) n 0 0, S) := x_sins_h hn h6 n 0 0 N (by omega) (by omega)
theorem x_purses (hn : S k1 5 = nI n) (h6 : n ≤ 6) (hN : 6 < N) : fX7_purses N k0 k1 S = some (sumR (S (k0 + 2)) n 0 0, S) := x_purses_h hn h6 n 0 0 N (by omega) (by omega)
theorem x_hiredBits (hn : S k1 5 = nI n) (h6 : n ≤ 6) (hN : 6 < N) : fX7_hiredBits N k0 k1 S = some (hbR (S (k0 + 4)) n 0 0, S) := x_hiredBits_h hn h6 n 0 0 N (by omega) (by omega)
theorem x_holderOf {x : Int32} (hn : S k1 5 = nI n) (h6 : n ≤ 6) (hN : 6 < N) : fX7_holderOf N k0 k1 x S = some (hoR (S (k0 + 4)) x n 0, S) := x_holderOf_h hn h6 n 0 N (by omega) (by omega)
theorem m_sumOf (hn : S 5 1 = nI n) (h6 : n ≤ 6) (hk : mN k1 = 6) (hN : 6 < N) : fX12_sumOf N k1 S = some (sumR (S k1) n 0 0, S) := m_sumOf_h hn h6 hk n 0 0 N (by omega) (by omega)
theorem m_hiredNow (hn : S 5 1 = nI n) (h6 : n ≤ 6) (hN : 6 < N) : fX12_hiredNow N S = some (hbR (S 35) n 0 0, S) := m_hiredNow_h hn h6 n 0 0 N (by omega) (by omega)
theorem m_hirerOf {x : Int32} (hn : S 5 1 = nI n) (h6 : n ≤ 6) (hN : 6 < N) : fX12_hirerOf N x S = some (hoR (S 35) x n 0, S) := m_hirerOf_h hn h6 n 0 N (by omega) (by omega)
end
end

/-! part 34.acount -/
section
/-! count -/
theorem wetS_eq {n h : Nat} {r r' : Nat → Int32} (e : ∀ i, i < n → r i = r' i) : wetS n r h = wetS n r' h := by
  unfold wetS
  by_cases h0 : n = 0
  · rw [if_pos h0, if_pos h0]
  · rw [if_neg h0, if_neg h0, e _ (Nat.mod_lt _ (by omega))]
theorem st_count : Lw_count JJ := by
  intro SX SM x1 hJ
  have hJ1 := hJ.same xSame.rf (code_same SM 0)
  have c0 := code_at SM 0
  obtain ⟨S1, hS1⟩ : ∃ z, z = sU SM 99 4 0 := ⟨_, rfl⟩
  rw [← hS1] at hJ1 c0
  obtain ⟨n0, n1, hT, hN, hI, hP, hM⟩ := id hJ1
  obtain ⟨⟨a1, a2, a3⟩, ⟨b1, b2, b3⟩, ⟨w, w1, w2, w3, w4⟩, ⟨b, d1, d2, d3⟩, hg, hgr, r1, r2⟩ := hT
  obtain ⟨⟨⟨h, e1, e2, e3⟩, e4, e5, e6, e7⟩, ⟨a, f1, f2, f3, f4⟩, ⟨q, g1, g2, g3, g4⟩, t⟩ := hN
  obtain ⟨n, p1, p2, p3, p4⟩ := hP
  have e2 : SX 21 0 = nI h := e2
  have e3 : S1 99 37 = nI h := e3
  have e4 : SX 21 1 = S1 99 38 := e4
  have key : ∀ v, fX11_count 1000 x1 SX = some (0, v, SX) → fX12_count 1000 x1 SM = some (v, S1) → StpT JJ lcA okA (fun N => fX11_count N x1 SX) (fun M => fX12_count M x1 SM) := fun v h1 h2 => stp_ok (SX := SX) (SM := SM) 1000 1000 hJ1 rfl (Or.inl rfl) h1 h2 c0
  by_cases h0 : x1 = 0
  · subst h0
    refine key (nI n0) ?_ ?_
    · show fX11_count_b84 1000 SX = _
      unfold fX11_count_b84
      dsimp only [lt]
      rw [a1]
    · show fX12_count_b80 1000 0 (sU SM 99 4 0) = _
      rw [← hS1]
      unfold fX12_count_b80
      show some (S1 5 0, S1) = _
      rw [a2]
  by_cases h1 : x1 = 1
  · subst h1
    refine key (nI n1) ?_ ?_
    · show fX11_count_b92 1000 SX = _
      unfold fX11_count_b92
      dsimp only [lt]
      rw [b1]
    · show fX12_count_b80 1000 1 (sU SM 99 4 0) = _
      rw [← hS1]
      unfold fX12_count_b80
      show some (S1 5 1, S1) = _
      rw [b2]
  by_cases h2 : x1 = 2
  · subst h2
    refine key (nI h) ?_ ?_
    · show fX11_count_b100 1000 SX = _
      unfold fX11_count_b100
      rw [e2]
    · show fX12_count_b87 1000 (sU SM 99 4 0) = _
      rw [← hS1]
      unfold fX12_count_b87
      rw [e3]
  by_cases h3 : x1 = 3
  · subst h3
    refine key (wetS w (SX (xtw SX + 9)) h) ?_ ?_
    · show fX11_count_b105 1000 SX = _
      unfold fX11_count_b105
      dsimp only [lt]
      rw [e2, bnd_t (x_wetOf w2 w1 (by omega))]
    · show fX12_count_b92 1000 (sU SM 99 4 0) = _
      rw [← hS1]
      unfold fX12_count_b92
      rw [bnd_t (m_wetOf w3 w1 (by omega) e3 hM.2.1), wetS_eq (r := S1 14) (r' := SX (xtw SX + 9)) (fun i hi => by obtain ⟨x, -, k1, k2⟩ := w4 i hi; rw [k1, k2])]
  by_cases h4 : x1 = 4
  · subst h4
    refine key (bndS b) ?_ ?_
    · show fX11_count_b117 1000 SX = _
      unfold fX11_count_b117
      dsimp only [lt]
      rw [bnd_t (x_mostSin d2 (by omega))]
    · show fX12_count_b97 1000 (sU SM 99 4 0) = _
      rw [← hS1]
      unfold fX12_count_b97
      rw [d3]
      rfl
  by_cases h5 : x1 = 5
  · subst h5
    refine key (hbR (SX (21 + 4)) n1 0 0) ?_ ?_
    · show fX11_count_b125 1000 SX = _
      unfold fX11_count_b125
      dsimp only [lt]
      rw [bnd_t (x_hiredBits b1 b3 (by omega))]
    · show fX12_count_b104 1000 (sU SM 99 4 0) = _
      rw [← hS1]
      unfold fX12_count_b104
      rw [bnd_t (m_hiredNow b2 b3 (by omega)), hbR_eq (r := S1 35) (r' := SX (21 + 4)) n1 0 0 (fun i _ hi => ((e5 i (by omega)).2.2.2).symm)]
  by_cases h6 : x1 = 6
  · subst h6
    refine key (SX 21 1) ?_ ?_
    · show fX11_count_b134 1000 SX = _
      rfl
    · show fX12_count_b109 1000 (sU SM 99 4 0) = _
      rw [← hS1]
      unfold fX12_count_b109
      rw [e4]
  by_cases h7 : x1 = 7
  · subst h7
    refine key (sumR (SX (21 + 2)) n1 0 0) ?_ ?_
    · show fX11_count_b139 1000 SX = _
      unfold fX11_count_b139
      dsimp only [lt]
      rw [bnd_t (x_purses b1 b3 (by omega))]
    · show fX12_count_b114 1000 (sU SM 99 4 0) = _
      rw [← hS1]
      unfold fX12_count_b114
      rw [bnd_t (m_sumOf b2 b3 rfl (by omega)), sumR_eq (r := S1 33) (r' := SX (21 + 2)) n1 0 0 (fun i _ hi => ((e5 i (by omega)).2.1).symm)]
  by_cases h8 : x1 = 8
  · subst h8
    refine key (sumR (SX (21 + 1)) n1 0 0) ?_ ?_
    · show fX11_count_b148 1000 SX = _
      unfold fX11_count_b148
      dsimp only [lt]
      rw [bnd_t (x_sins b1 b3 (by omega))]
    · show fX12_count_b123 1000 (sU SM 99 4 0) = _
      rw [← hS1]
      unfold fX12_count_b123
      rw [bnd_t (m_sumOf b2 b3 rfl (by omega)), sumR_eq (r := S1 32) (r' := SX (21 + 1)) n1 0 0 (fun i _ hi => ((e5 i (by omega)).1).symm)]
  by_cases h9 : x1 = 9
  · subst h9
    refine key (nI a) ?_ ?_
    · show fX11_count_b157 1000 SX = _
      unfold fX11_count_b157
      rw [show SX 26 1 = nI a from f2]
    · show fX12_count_b132 1000 (sU SM 99 4 0) = _
      rw [← hS1]
      unfold fX12_count_b132
      rw [f3]
  by_cases h10 : x1 = 10
  · subst h10
    refine key (nI q) ?_ ?_
    · show fX11_count_b168 1000 SX = _
      unfold fX11_count_b168
      rw [show SX 28 3 = nI q from g2]
    · show fX12_count_b137 1000 (sU SM 99 4 0) = _
      rw [← hS1]
      unfold fX12_count_b137
      rw [g3]
  by_cases h11 : x1 = 11
  · subst h11
    refine key (nI n) ?_ ?_
    · show fX11_count_b179 1000 SX = _
      unfold fX11_count_b179
      rw [p2]
    · show fX12_count_b142 1000 (sU SM 99 4 0) = _
      rw [← hS1]
      unfold fX12_count_b142
      rw [p3]
  by_cases h12 : x1 = 12
  · subst h12
    refine key (SX 32 0) ?_ ?_
    · show fX11_count_b190 1000 SX = _
      rfl
    · show fX12_count_b147 1000 12 (sU SM 99 4 0) = _
      rw [← hS1]
      unfold fX12_count_b147
      show some (S1 17 0, S1) = _
      rw [← t 0 (by omega)]
  by_cases h13 : x1 = 13
  · subst h13
    refine key (SX 32 1) ?_ ?_
    · show fX11_count_b200 1000 SX = _
      rfl
    · show fX12_count_b147 1000 13 (sU SM 99 4 0) = _
      rw [← hS1]
      unfold fX12_count_b147
      show some (S1 17 1, S1) = _
      rw [← t 1 (by omega)]
  by_cases h14 : x1 = 14
  · subst h14
    refine key (SX 32 2) ?_ ?_
    · show fX11_count_b210 1000 SX = _
      rfl
    · show fX12_count_b147 1000 14 (sU SM 99 4 0) = _
      rw [← hS1]
      unfold fX12_count_b147
      show some (S1 17 2, S1) = _
      rw [← t 2 (by omega)]
  refine stp_no (t := 1) (v := 0) (w := 0) (SX' := SX) (SM' := sU S1 99 4 1) 1000 1000 (hJ1.same xSame.rf (code_same S1 1)) (by decide) (Or.inr rfl) ?_ ?_ (code_at S1 1)
  · show fX11_count_b0 1000 x1 SX = _
    unfold fX11_count_b0
    rw [if_neg h0, if_neg h1, if_neg h2, if_neg h3, if_neg h4, if_neg h5, if_neg h6, if_neg h7, if_neg h8, if_neg h9, if_neg h10, if_neg h11, if_neg h12, if_neg h13, if_neg h14]
    rfl
  · show fX12_count_b0 1000 x1 SM = _
    unfold fX12_count_b0
    dsimp only [lt]
    rw [← hS1]
    rw [if_neg h0, if_neg h1, if_neg h2, if_neg h3, if_neg h4, if_neg h5, if_neg h6, if_neg h7, if_neg h8, if_neg h9, if_neg h10, if_neg h11, if_neg h12, if_neg h13, if_neg h14]
    rfl
end

/-! part 35.apack -/
section
/-! the reference's pack and unpack -/
/-- the row nd holds from a on what is so now in S -/
def pkd (nd a : Nat) (S S' : gS) : Prop :=
  S' nd a = S 99 37 ∧ S' nd (a + 1) = S 99 38 ∧ ∀ g, g < 6 → S' nd (a + 2 + g) = S 32 g ∧ S' nd (a + 8 + g) = S 33 g ∧ S' nd (a + 14 + g) = S 34 g ∧ S' nd (a + 20 + g) = S 35 g
theorem ix2 (a k : Nat) : (nI a + 2) + nI k = nI (a + 2 + k) := by rw [show (2 : Int32) = nI 2 from rfl, nI_add, nI_add]
theorem ix8 (a k : Nat) : ((nI a + 2) + 6) + nI k = nI (a + 8 + k) := by rw [show (2 : Int32) = nI 2 from rfl, show (6 : Int32) = nI 6 from rfl, nI_add, nI_add, nI_add]
theorem ix14 (a k : Nat) : ((nI a + 2) + 12) + nI k = nI (a + 14 + k) := by rw [show (2 : Int32) = nI 2 from rfl, show (12 : Int32) = nI 12 from rfl, nI_add, nI_add, nI_add]
theorem ix20 (a k : Nat) : ((nI a + 2) + 18) + nI k = nI (a + 20 + k) := by rw [show (2 : Int32) = nI 2 from rfl, show (18 : Int32) = nI 18 from rfl, nI_add, nI_add, nI_add]
theorem sU_s {S : gS} {a b : Nat} {x : Int32} : sU S a b x a b = x := by rw [sU_ap, if_pos ⟨rfl, rfl⟩]
theorem sU_n {S : gS} {a b i j : Nat} {x : Int32} (h : ¬ (i = a ∧ j = b)) : sU S a b x i j = S i j := by rw [sU_ap, if_neg h]
theorem m_pack_h {N nd a : Nat} (hnd : nd ≠ 32 ∧ nd ≠ 33 ∧ nd ≠ 34 ∧ nd ≠ 35) (h26 : a + 26 ≤ mN nd) (hm : mN nd < 2 ^ 31) : ∀ (m k fuel : Nat) (S : gS), k + m = 6 → m < fuel →
    ∃ S', fX12_pack_h18 N fuel nd (nI a) (nI k) S = some (0, S') ∧ (∀ i j, ¬ (i = nd ∧ a + 2 ≤ j ∧ j < a + 26) → S' i j = S i j) ∧
      (∀ g, k ≤ g → g < 6 → S' nd (a + 2 + g) = S 32 g ∧ S' nd (a + 8 + g) = S 33 g ∧ S' nd (a + 14 + g) = S 34 g ∧ S' nd (a + 20 + g) = S 35 g) ∧
      (∀ g, g < k → S' nd (a + 2 + g) = S nd (a + 2 + g) ∧ S' nd (a + 8 + g) = S nd (a + 8 + g) ∧ S' nd (a + 14 + g) = S nd (a + 14 + g) ∧ S' nd (a + 20 + g) = S nd (a + 20 + g)) := by
  intro m
  induction m with
  | zero =>
    intro k fuel S h1 h2
    obtain ⟨f, rfl⟩ : ∃ f, fuel = f + 1 := ⟨fuel - 1, by omega⟩
    have hk : k = 6 := by omega
    subst hk
    exact ⟨S, rfl, fun i j _ => rfl, fun g h3 h4 => by omega, fun g _ => ⟨rfl, rfl, rfl, rfl⟩⟩
  | succ m ih =>
    intro k fuel S h1 h2
    obtain ⟨f, rfl⟩ : ∃ f, fuel = f + 1 := ⟨fuel - 1, by omega⟩
    obtain ⟨S', e1, e2, e3, e4⟩ := ih (k + 1) f (sU (sU (sU (sU S nd (a + 2 + k) (S 32 k)) nd (a + 8 + k) (S 33 k)) nd (a + 14 + k) (S 34 k)) nd (a + 20 + k) (S 35 k)) (by omega) (by omega)
    have r32 : ∀ i j, i ≠ nd → sU (sU (sU (sU S nd (a + 2 + k) (S 32 k)) nd (a + 8 + k) (S 33 k)) nd (a + 14 + k) (S 34 k)) nd (a + 20 + k) (S 35 k) i j = S i j := fun i j h => by
      rw [sU_n (by omega), sU_n (by omega), sU_n (by omega), sU_n (by omega)]
    refine ⟨S', ?_, fun i j h => ?_, fun g h3 h4 => ?_, fun g h3 => ?_⟩
    · show fX12_pack_b18 N (fX12_pack_h18 N f) nd (nI a) (nI k) S = _
      unfold fX12_pack_b18
      rw [show (6 : Int32) = nI 6 from rfl, if_neg (nI_ge (by omega) (by omega))]
      unfold fX12_pack_b24
      dsimp only [lt]
      rw [ix2, ix8, ix14, ix20, nI_clamp (n := k) (by omega), nI_clamp (n := a + 2 + k) (by omega), nI_clamp (n := a + 8 + k) (by omega), nI_clamp (n := a + 14 + k) (by omega), nI_clamp (n := a + 20 + k) (by omega), nI_1]
      rw [chk_t (inb_t (by omega) (by omega)), chk_t (inb_t (by omega) hm), chk_t (inb_t (by omega) (by omega)), chk_t (inb_t (by omega) hm), chk_t (inb_t (by omega) (by omega)), chk_t (inb_t (by omega) hm), chk_t (inb_t (by omega) (by omega)), chk_t (inb_t (by omega) hm)]
      rw [sU_n (i := 33) (by omega), sU_n (i := 34) (by omega), sU_n (i := 34) (by omega), sU_n (i := 35) (by omega), sU_n (i := 35) (by omega), sU_n (i := 35) (by omega)]
      exact e1
    · rw [e2 i j h, sU_n (by omega), sU_n (by omega), sU_n (by omega), sU_n (by omega)]
    · by_cases hg : g = k
      · subst hg
        obtain ⟨q1, q2, q3, q4⟩ := e4 g (by omega)
        rw [q1, q2, q3, q4]
        refine ⟨?_, ?_, ?_, sU_s⟩
        · rw [sU_n (by omega), sU_n (by omega), sU_n (by omega), sU_s]
        · rw [sU_n (by omega), sU_n (by omega), sU_s]
        · rw [sU_n (by omega), sU_s]
      · obtain ⟨q1, q2, q3, q4⟩ := e3 g (by omega) h4
        rw [q1, q2, q3, q4, r32 32 g (by omega), r32 33 g (by omega), r32 34 g (by omega), r32 35 g (by omega)]
        exact ⟨rfl, rfl, rfl, rfl⟩
    · obtain ⟨q1, q2, q3, q4⟩ := e4 g (by omega)
      rw [q1, q2, q3, q4]
      refine ⟨?_, ?_, ?_, ?_⟩
      · rw [sU_n (by omega), sU_n (by omega), sU_n (by omega), sU_n (by omega)]
      · rw [sU_n (by omega), sU_n (by omega), sU_n (by omega), sU_n (by omega)]
      · rw [sU_n (by omega), sU_n (by omega), sU_n (by omega), sU_n (by omega)]
      · rw [sU_n (by omega), sU_n (by omega), sU_n (by omega), sU_n (by omega)]
theorem m_pack {N nd a : Nat} {S : gS} (hnd : nd ≠ 32 ∧ nd ≠ 33 ∧ nd ≠ 34 ∧ nd ≠ 35 ∧ nd ≠ 99) (h26 : a + 26 ≤ mN nd) (hm : mN nd < 2 ^ 31) (hN : 6 < N) : ∃ S', fX12_pack N nd (nI a) S = some (0, S') ∧ (∀ i j, ¬ (i = nd ∧ a ≤ j ∧ j < a + 26) → S' i j = S i j) ∧ pkd nd a S S' := by
  obtain ⟨S', e1, e2, e3, -⟩ := m_pack_h (N := N) (a := a) ⟨hnd.1, hnd.2.1, hnd.2.2.1, hnd.2.2.2.1⟩ h26 hm 6 0 N (sU (sU S nd a (S 99 37)) nd (a + 1) (S 99 38)) (by omega) hN
  refine ⟨S', ?_, fun i j h => ?_, ?_, ?_, fun g hg => ?_⟩
  · unfold fX12_pack fX12_pack_b0
    dsimp only [lt]
    rw [nI_1, nI_clamp (n := a) (by omega), nI_clamp (n := a + 1) (by omega), chk_t (inb_t (by omega) hm), chk_t (inb_t (by omega) hm), sU_n (i := 99) (by omega)]
    exact e1
  · rw [e2 i j (by omega), sU_n (by omega), sU_n (by omega)]
  · rw [e2 nd a (by omega), sU_n (by omega), sU_s]
  · rw [e2 nd (a + 1) (by omega), sU_s]
  · obtain ⟨q1, q2, q3, q4⟩ := e3 g (by omega) hg
    rw [q1, q2, q3, q4, sU_n (by omega), sU_n (by omega), sU_n (by omega), sU_n (by omega), sU_n (by omega), sU_n (by omega), sU_n (by omega), sU_n (by omega)]
    exact ⟨rfl, rfl, rfl, rfl⟩
theorem m_unpack_h {N nd a : Nat} (hnd : nd ≠ 32 ∧ nd ≠ 33 ∧ nd ≠ 34 ∧ nd ≠ 35) (h26 : a + 26 ≤ mN nd) (hm : mN nd < 2 ^ 31) : ∀ (m k fuel : Nat) (S : gS), k + m = 6 → m < fuel →
    ∃ S', fX12_unpack_h18 N fuel nd (nI a) (nI k) S = some (0, S') ∧ (∀ i j, ¬ (32 ≤ i ∧ i ≤ 35 ∧ k ≤ j ∧ j < 6) → S' i j = S i j) ∧
      (∀ g, k ≤ g → g < 6 → S' 32 g = S nd (a + 2 + g) ∧ S' 33 g = S nd (a + 8 + g) ∧ S' 34 g = S nd (a + 14 + g) ∧ S' 35 g = S nd (a + 20 + g)) := by
  intro m
  induction m with
  | zero =>
    intro k fuel S h1 h2
    obtain ⟨f, rfl⟩ : ∃ f, fuel = f + 1 := ⟨fuel - 1, by omega⟩
    have hk : k = 6 := by omega
    subst hk
    exact ⟨S, rfl, fun i j _ => rfl, fun g h3 h4 => by omega⟩
  | succ m ih =>
    intro k fuel S h1 h2
    obtain ⟨f, rfl⟩ : ∃ f, fuel = f + 1 := ⟨fuel - 1, by omega⟩
    obtain ⟨S', e1, e2, e3⟩ := ih (k + 1) f (sU (sU (sU (sU S 32 k (S nd (a + 2 + k))) 33 k (S nd (a + 8 + k))) 34 k (S nd (a + 14 + k))) 35 k (S nd (a + 20 + k))) (by omega) (by omega)
    refine ⟨S', ?_, fun i j h => ?_, fun g h3 h4 => ?_⟩
    · show fX12_unpack_b18 N (fX12_unpack_h18 N f) nd (nI a) (nI k) S = _
      unfold fX12_unpack_b18
      rw [show (6 : Int32) = nI 6 from rfl, if_neg (nI_ge (by omega) (by omega))]
      unfold fX12_unpack_b24
      dsimp only [lt]
      rw [ix2, ix8, ix14, ix20, nI_clamp (n := k) (by omega), nI_clamp (n := a + 2 + k) (by omega), nI_clamp (n := a + 8 + k) (by omega), nI_clamp (n := a + 14 + k) (by omega), nI_clamp (n := a + 20 + k) (by omega), nI_1]
      rw [chk_t (inb_t (by omega) hm), chk_t (inb_t (by omega) (by omega)), chk_t (inb_t (by omega) hm), chk_t (inb_t (by omega) (by omega)), chk_t (inb_t (by omega) hm), chk_t (inb_t (by omega) (by omega)), chk_t (inb_t (by omega) hm), chk_t (inb_t (by omega) (by omega))]
      rw [sU_n (i := nd) (j := a + 8 + k) (by omega), sU_n (i := nd) (j := a + 14 + k) (by omega), sU_n (i := nd) (j := a + 14 + k) (by omega), sU_n (i := nd) (j := a + 20 + k) (by omega), sU_n (i := nd) (j := a + 20 + k) (by omega), sU_n (i := nd) (j := a + 20 + k) (by omega)]
      exact e1
    · rw [e2 i j (by omega), sU_n (by omega), sU_n (by omega), sU_n (by omega), sU_n (by omega)]
    · by_cases hg : g = k
      · subst hg
        rw [e2 32 g (by omega), e2 33 g (by omega), e2 34 g (by omega), e2 35 g (by omega)]
        refine ⟨?_, ?_, ?_, sU_s⟩
        · rw [sU_n (by omega), sU_n (by omega), sU_n (by omega), sU_s]
        · rw [sU_n (by omega), sU_n (by omega), sU_s]
        · rw [sU_n (by omega), sU_s]
      · obtain ⟨q1, q2, q3, q4⟩ := e3 g (by omega) h4
        rw [q1, q2, q3, q4]
        refine ⟨?_, ?_, ?_, ?_⟩
        · rw [sU_n (by omega), sU_n (by omega), sU_n (by omega), sU_n (by omega)]
        · rw [sU_n (by omega), sU_n (by omega), sU_n (by omega), sU_n (by omega)]
        · rw [sU_n (by omega), sU_n (by omega), sU_n (by omega), sU_n (by omega)]
        · rw [sU_n (by omega), sU_n (by omega), sU_n (by omega), sU_n (by omega)]
theorem m_unpack {N nd a : Nat} {S : gS} (hnd : nd ≠ 32 ∧ nd ≠ 33 ∧ nd ≠ 34 ∧ nd ≠ 35 ∧ nd ≠ 99) (h26 : a + 26 ≤ mN nd) (hm : mN nd < 2 ^ 31) (hN : 6 < N) : ∃ S', fX12_unpack N nd (nI a) S = some (0, S') ∧ (∀ i j, ¬ (32 ≤ i ∧ i ≤ 35 ∧ j < 6) → ¬ (i = 99 ∧ (j = 37 ∨ j = 38)) → S' i j = S i j) ∧ pkd nd a S' S := by
  obtain ⟨S', e1, e2, e3⟩ := m_unpack_h (N := N) (a := a) ⟨hnd.1, hnd.2.1, hnd.2.2.1, hnd.2.2.2.1⟩ h26 hm 6 0 N (sU (sU S 99 37 (S nd a)) 99 38 (S nd (a + 1))) (by omega) hN
  refine ⟨S', ?_, fun i j h1 h2 => ?_, ?_, ?_, fun g hg => ?_⟩
  · unfold fX12_unpack fX12_unpack_b0
    dsimp only [lt]
    rw [nI_1, nI_clamp (n := a) (by omega), nI_clamp (n := a + 1) (by omega), chk_t (inb_t (by omega) hm), chk_t (inb_t (by omega) hm), sU_n (i := nd) (by omega)]
    exact e1
  · rw [e2 i j (by omega), sU_n (by omega), sU_n (by omega)]
  · rw [e2 99 37 (by omega), sU_n (by omega), sU_s]
  · rw [e2 99 38 (by omega), sU_s]
  · obtain ⟨q1, q2, q3, q4⟩ := e3 g (by omega) hg
    rw [q1, q2, q3, q4, sU_n (by omega), sU_n (by omega), sU_n (by omega), sU_n (by omega), sU_n (by omega), sU_n (by omega), sU_n (by omega), sU_n (by omega)]
    exact ⟨rfl, rfl, rfl, rfl⟩
end

/-! part 36.adrips -/
section
/-! bits (some rows begun from the kit's family of bits, under other names), and what drips -/
noncomputable def bb (x : Int32) (i : Nat) : Bool := x.toBitVec.getLsbD i
theorem bb_ext {x y : Int32} (h : ∀ i, i < 32 → bb x i = bb y i) : x = y := Int32.toBitVec_inj.mp (BitVec.eq_of_getLsbD_eq (fun i hi => h i hi))
theorem bb_or (x y : Int32) (i : Nat) : bb (x ||| y) i = (bb x i || bb y i) := by unfold bb; rw [Int32.toBitVec_or, BitVec.getLsbD_or]
theorem bb_and (x y : Int32) (i : Nat) : bb (x &&& y) i = (bb x i && bb y i) := by unfold bb; rw [Int32.toBitVec_and, BitVec.getLsbD_and]
theorem bb_xor (x y : Int32) (i : Nat) : bb (x ^^^ y) i = (bb x i ^^ bb y i) := by unfold bb; rw [Int32.toBitVec_xor, BitVec.getLsbD_xor]
theorem bb_sl : ∀ n, n < 32 → ((nI n &&& 31).toBitVec.smod 32).toNat = n := by decide +kernel
theorem bb_one : ∀ i, i < 32 → bb 1 i = decide (i = 0) := by decide +kernel
theorem bb_m1 : ∀ i, i < 32 → bb (-1) i = true := by decide +kernel
theorem bb_0 (i : Nat) : bb 0 i = false := by
  unfold bb
  exact BitVec.getLsbD_zero
theorem bb_pow : ∀ n, n < 32 → ∀ i, i < 32 → bb ((1 : Int32) <<< (nI n &&& 31)) i = decide (i = n) := by decide +kernel
theorem bb_sshr (n : Nat) (hn : n < 32) (x : Int32) {i : Nat} (hi : i < 32) : bb (x >>> (nI n &&& 31)) i = if n + i < 32 then bb x (n + i) else bb x 31 := by
  unfold bb
  rw [Int32.toBitVec_shiftRight]
  show (x.toBitVec.sshiftRight ((nI n &&& 31).toBitVec.smod 32).toNat).getLsbD i = _
  rw [bb_sl n hn, BitVec.getLsbD_sshiftRight, BitVec.msb_eq_getLsbD_last]
  simp [hi]
theorem bt_bb {x : Int32} {k : Nat} (hk : k < 32) : bt x (nI k) = bb x k := by
  have h0 : bb ((x >>> (nI k &&& 31)) &&& 1) 0 = bb x k := by
    rw [bb_and, bb_one 0 (by decide), bb_sshr k hk x (by decide), if_pos (by omega)]
    simp
  unfold bt
  rcases and1 (x >>> (nI k &&& 31)) with h | h
  · rw [h] at h0 ⊢
    rw [← h0, bb_0, decide_eq_false (fun q => q rfl)]
  · rw [h] at h0 ⊢
    rw [← h0, decide_eq_true (by decide)]
    rfl
theorem pow_nd {dr : Int32} {k : Nat} (hk : k < 32) : ((1 : Int32) <<< (nI k &&& 31)) &&& (dr ^^^ (-1)) = if bt dr (nI k) = true then 0 else (1 : Int32) <<< (nI k &&& 31) := by
  rw [bt_bb hk]
  refine bb_ext (fun i hi => ?_)
  rw [bb_and, bb_xor, bb_m1 i hi, bb_pow k hk i hi]
  by_cases h : i = k
  · subst h
    cases hb : bb dr i with
    | true => rw [if_pos rfl, bb_0]; simp
    | false => rw [if_neg (by decide), bb_pow i hk i hi]; simp
  · rw [decide_eq_false h, Bool.false_and]
    cases hb : bb dr k with
    | true => rw [if_pos rfl, bb_0]
    | false => rw [if_neg (by decide), bb_pow k hk i hi, decide_eq_false h]
theorem or_and_d (a b c : Int32) : (a ||| b) &&& c = (a &&& c) ||| (b &&& c) := by
  refine bb_ext (fun i hi => ?_)
  rw [bb_and, bb_or, bb_or, bb_and, bb_and, Bool.and_or_distrib_right]
/-- the bits of those with c -/
noncomputable def drB (c : Nat → Bool) : Nat → Nat → Int32 → Int32
  | 0, _, acc => acc
  | m + 1, k, acc => drB c m (k + 1) (if c k = true then acc ||| ((1 : Int32) <<< (nI k &&& 31)) else acc)
theorem drB_eq {c c' : Nat → Bool} : ∀ (m k : Nat) (acc : Int32), (∀ i, k ≤ i → i < k + m → c i = c' i) → drB c m k acc = drB c' m k acc := by
  intro m
  induction m with
  | zero => intro k acc h; rfl
  | succ m ih =>
    intro k acc h
    show drB c m (k + 1) _ = drB c' m (k + 1) _
    rw [h k (Nat.le_refl _) (by omega)]
    exact ih (k + 1) _ (fun i h1 h2 => h i (by omega) (by omega))
theorem drB_no {c : Nat → Bool} : ∀ (m k : Nat) (acc : Int32), (∀ i, k ≤ i → i < k + m → c i = false) → drB c m k acc = acc := by
  intro m
  induction m with
  | zero => intro k acc h; rfl
  | succ m ih =>
    intro k acc h
    show drB c m (k + 1) (if c k = true then _ else acc) = acc
    rw [h k (Nat.le_refl _) (by omega), if_neg (by decide)]
    exact ih (k + 1) _ (fun i h1 h2 => h i (by omega) (by omega))
theorem drB_nd {c : Nat → Bool} {dr : Int32} : ∀ (m k : Nat) (acc : Int32), k + m ≤ 32 → drB c m k acc &&& (dr ^^^ (-1)) = drB (fun i => !bt dr (nI i) && c i) m k (acc &&& (dr ^^^ (-1))) := by
  intro m
  induction m with
  | zero => intro k acc h; rfl
  | succ m ih =>
    intro k acc h
    show drB c m (k + 1) _ &&& _ = drB _ m (k + 1) _
    rw [ih (k + 1) _ (by omega)]
    congr 1
    show ((if c k = true then acc ||| ((1 : Int32) <<< (nI k &&& 31)) else acc) &&& (dr ^^^ (-1))) = if (!bt dr (nI k) && c k) = true then (acc &&& (dr ^^^ (-1))) ||| ((1 : Int32) <<< (nI k &&& 31)) else acc &&& (dr ^^^ (-1))
    by_cases hc : c k = true
    · rw [if_pos hc, or_and_d, pow_nd (by omega)]
      by_cases hb : bt dr (nI k) = true
      · rw [if_pos hb, Int32.or_zero, if_neg (by rw [hb]; simp)]
      · rw [if_neg hb, if_pos (by rw [hc]; simpa using hb)]
    · rw [if_neg hc, if_neg (by simp [hc])]
noncomputable def cmS (ph dr h : Int32) : Bool := decide ((h + ph) - (h + ph) / dr * dr = 0)
theorem x_comesRound {N T n k d : Nat} {S : gS} {h : Int32} (h0 : S T 0 = nI n) (hn : n ≤ 8) (hk : k < n) (hd : S (T + 1) k = nI d) (hd1 : 1 ≤ d) (hd2 : d ≤ 12) : fX9_comesRound N T (nI k) h S = some (iv (cmS (S (T + 2) k) (S (T + 1) k) h), S) := by
  unfold fX9_comesRound fX9_comesRound_b0
  rw [bnd_t (x_isGrotto h0 (by omega)), inb_t hk (by omega)]
  show fX9_comesRound_b8 N T (nI k) h S = _
  unfold fX9_comesRound_b8
  rw [chk_t (inb_t (by omega) (by decide)), nI_clamp (by omega), hd, if_neg (show ¬ nI d < 1 from nI_nlt (a := d) (b := 1) hd1 (by omega))]
  unfold fX9_comesRound_b18
  rw [chk_t (inb_t (by omega) (by decide)), chk_t (inb_t (by omega) (by decide)), nI_clamp (by omega), hd, chk_t (nz_t (by omega) (by omega))]
  unfold cmS
  by_cases h1 : (h + S (T + 2) k) - (h + S (T + 2) k) / nI d * nI d = 0
  · rw [if_pos h1, decide_eq_true h1]
    rfl
  · rw [if_neg h1, decide_eq_false h1]
    rfl
noncomputable def drS (ph dr h w : Int32) (b : Bool) : Bool := decide (¬ w = 0) && (!b && cmS ph dr h)
theorem x_drips {N T n k d : Nat} {S : gS} {h w dr : Int32} (h0 : S T 0 = nI n) (hn : n ≤ 8) (hk : k < n) (hd : S (T + 1) k = nI d) (hd1 : 1 ≤ d) (hd2 : d ≤ 12) : fX9_drips N T (nI k) h w dr S = some (iv (drS (S (T + 2) k) (S (T + 1) k) h w (bt dr (nI k))), S) := by
  unfold fX9_drips fX9_drips_b0 drS
  by_cases hw : w = 0
  · rw [if_pos hw, decide_eq_false (fun q => q hw)]
    rfl
  · rw [if_neg hw, decide_eq_true hw]
    unfold fX9_drips_b4
    rw [bnd_t x_isOneOf]
    cases hb : bt dr (nI k) with
    | true => rfl
    | false =>
      show fX9_drips_b13 N T (nI k) h S = _
      unfold fX9_drips_b13
      rw [bnd_t (x_comesRound h0 hn hk hd hd1 hd2)]
      cases cmS (S (T + 2) k) (S (T + 1) k) h <;> rfl
theorem m_comesAt {N n k d : Nat} {S : gS} {h : Int32} (hn : n ≤ 8) (hk : k < n) (hd : S 7 k = nI d) (hd1 : 1 ≤ d) (hd2 : d ≤ 12) : fX12_comesAt N (nI k) h S = some (iv (cmS (S 8 k) (S 7 k) h), S) := by
  unfold fX12_comesAt fX12_comesAt_b0
  rw [chk_t (inb_t (by omega) (by decide)), chk_t (inb_t (by omega) (by decide)), nI_clamp (by omega), hd, chk_t (nz_t (by omega) (by omega))]
  unfold cmS
  by_cases h1 : (h + S 8 k) - (h + S 8 k) / nI d * nI d = 0
  · rw [if_pos h1, decide_eq_true h1]
    rfl
  · rw [if_neg h1, decide_eq_false h1]
    rfl
theorem m_drip_h {N n : Nat} {S : gS} {v : Int32} (h0 : S 5 0 = nI n) (hn : n ≤ 8) (hd : ∀ k, k < n → ∃ d : Nat, 1 ≤ d ∧ d ≤ 12 ∧ S 7 k = nI d) (hv : fX12_wetOf N S = some (v, S)) (hp : ¬ v ≤ 0) : ∀ (m k : Nat) (acc : Int32) (fuel : Nat), k + m = n → m < fuel → fX12_drippingNow_h4 N fuel acc (nI k) S = some (drB (fun i => cmS (S 8 i) (S 7 i) (S 99 37)) m k acc &&& (S 99 38 ^^^ (-1)), S) := by
  intro m
  induction m with
  | zero =>
    intro k acc fuel h1 h2
    obtain ⟨f, rfl⟩ : ∃ f, fuel = f + 1 := ⟨fuel - 1, by omega⟩
    show fX12_drippingNow_b4 N _ acc (nI k) S = _
    unfold fX12_drippingNow_b4
    rw [h0, if_pos (nI_le (by omega) (by omega))]
    rfl
  | succ m ih =>
    intro k acc fuel h1 h2
    obtain ⟨f, rfl⟩ : ∃ f, fuel = f + 1 := ⟨fuel - 1, by omega⟩
    obtain ⟨d, d1, d2, d3⟩ := hd k (by omega)
    show fX12_drippingNow_b4 N (fX12_drippingNow_h4 N f) acc (nI k) S = _
    unfold fX12_drippingNow_b4
    rw [h0, if_neg (nI_ge (by omega) (by omega))]
    unfold fX12_drippingNow_b14
    rw [bnd_t hv]
    show (if v ≤ 0 then _ else _) = _
    rw [if_neg hp]
    unfold fX12_drippingNow_b21
    rw [bnd_t (m_comesAt hn (by omega) d3 d1 d2)]
    show _ = some (drB (fun i => cmS (S 8 i) (S 7 i) (S 99 37)) m (k + 1) (if cmS (S 8 k) (S 7 k) (S 99 37) = true then acc ||| ((1 : Int32) <<< (nI k &&& 31)) else acc) &&& _, S)
    by_cases hc : cmS (S 8 k) (S 7 k) (S 99 37) = true
    · rw [if_pos hc, hc]
      show fX12_drippingNow_b34 N (fX12_drippingNow_h4 N f) (nI k) acc S = _
      unfold fX12_drippingNow_b34 fX12_drippingNow_b41
      rw [nI_1]
      exact ih (k + 1) _ f (by omega) (by omega)
    · rw [if_neg hc, Bool.not_eq_true _ |>.mp hc]
      show fX12_drippingNow_b40 N (fX12_drippingNow_h4 N f) (nI k) acc S = _
      unfold fX12_drippingNow_b40 fX12_drippingNow_b41
      rw [nI_1, Int32.or_zero]
      exact ih (k + 1) _ f (by omega) (by omega)
/-- what drips in the HOUR that is told: as bits -/
theorem m_drippingNow {N n : Nat} {S : gS} {v : Int32} (h0 : S 5 0 = nI n) (hn : n ≤ 8) (hd : ∀ k, k < n → ∃ d : Nat, 1 ≤ d ∧ d ≤ 12 ∧ S 7 k = nI d) (hv : fX12_wetOf N S = some (v, S)) (hv0 : 0 ≤ v) (hN : 8 < N) : fX12_drippingNow N S = some (drB (fun i => drS (S 8 i) (S 7 i) (S 99 37) v (bt (S 99 38) (nI i))) n 0 0, S) := by
  unfold fX12_drippingNow fX12_drippingNow_b0
  by_cases hp : v ≤ 0
  · have hz : v = 0 := Int32.le_antisymm hp hv0
    rw [drB_no n 0 0 (fun i _ _ => by unfold drS; rw [decide_eq_false (fun q => q hz)]; rfl)]
    obtain ⟨f, rfl⟩ : ∃ f, N = f + 1 := ⟨N - 1, by omega⟩
    show fX12_drippingNow_b4 (f + 1) _ 0 0 S = _
    unfold fX12_drippingNow_b4
    by_cases hn0 : n = 0
    · subst hn0
      rw [h0, if_pos (show nI 0 ≤ 0 by decide)]
      unfold fX12_drippingNow_b49
      rw [Int32.zero_and]
    · rw [h0, if_neg (nI_nle (by omega) (by omega))]
      unfold fX12_drippingNow_b14
      rw [bnd_t hv]
      show (if v ≤ 0 then _ else _) = _
      rw [if_pos hp]
      unfold fX12_drippingNow_b49
      rw [Int32.zero_and]
  · have h := m_drip_h (N := N) h0 hn hd hv hp n 0 0 N (by omega) (by omega)
    rw [drB_nd n 0 0 (by omega), Int32.zero_and] at h
    rw [show (0 : Int32) = nI 0 from rfl] at h ⊢
    rw [h]
    congr 2
    refine drB_eq n 0 _ (fun i _ _ => ?_)
    unfold drS
    have hv9 : ¬ v = 0 := fun q => hp (by rw [q]; decide)
    rw [decide_eq_true hv9]
    rfl
end

/-! part 37.adripq -/
section
/-! questions of what drips: the frame of a question, dripping -/
noncomputable def mMov (i j : Nat) : Bool := (mScr i j && i != 46) || (32 ≤ i && i ≤ 35 && j < 6) || (i == 99 && (j == 37 || j == 38))
theorem mMov_f {i j : Nat} (h : mScr i j = false) (h1 : ¬ (32 ≤ i ∧ i ≤ 35 ∧ j < 6)) (h2 : ¬ (i = 99 ∧ (j = 37 ∨ j = 38))) : mMov i j = false := by
  unfold mMov
  rw [h, Bool.false_and, Bool.false_or]
  have e1 : (decide (32 ≤ i) && decide (i ≤ 35) && decide (j < 6)) = false := by
    cases h3 : (decide (32 ≤ i) && decide (i ≤ 35) && decide (j < 6)) with
    | false => rfl
    | true =>
      rw [Bool.and_eq_true, Bool.and_eq_true, decide_eq_true_iff, decide_eq_true_iff, decide_eq_true_iff] at h3
      exact absurd ⟨h3.1.1, h3.1.2, h3.2⟩ h1
  rw [e1, Bool.false_or]
  cases h3 : (i == 99 && (j == 37 || j == 38)) with
  | false => rfl
  | true =>
    rw [Bool.and_eq_true, Bool.or_eq_true, beq_iff_eq, beq_iff_eq, beq_iff_eq] at h3
    exact absurd h3 h2
/-- a question: packed, gone on, unpacked: all is as it was but the scratch -/
theorem m_back {S0 S1 S2 S3 : gS} (p : pkd 46 0 S0 S1) (s01 : ∀ i j, ¬ (i = 46 ∧ 0 ≤ j ∧ j < 0 + 26) → S1 i j = S0 i j) (s12 : oSame mMov S1 S2) (s23 : ∀ i j, ¬ (32 ≤ i ∧ i ≤ 35 ∧ j < 6) → ¬ (i = 99 ∧ (j = 37 ∨ j = 38)) → S3 i j = S2 i j) (p3 : pkd 46 0 S3 S2) : mSame S0 S3 := by
  have e46 : ∀ j, S2 46 j = S1 46 j := fun j => s12 46 j rfl
  intro i j h
  by_cases h1 : 32 ≤ i ∧ i ≤ 35 ∧ j < 6
  · obtain ⟨q1, q2, q3, q4⟩ := p.2.2 j h1.2.2
    obtain ⟨r1, r2, r3, r4⟩ := p3.2.2 j h1.2.2
    rcases (show i = 32 ∨ i = 33 ∨ i = 34 ∨ i = 35 by omega) with rfl | rfl | rfl | rfl
    · rw [← r1, e46, q1]
    · rw [← r2, e46, q2]
    · rw [← r3, e46, q3]
    · rw [← r4, e46, q4]
  · by_cases h2 : i = 99 ∧ (j = 37 ∨ j = 38)
    · obtain ⟨rfl, rfl | rfl⟩ := h2
      · rw [← p3.1, e46, p.1]
      · rw [← p3.2.1, e46, p.2.1]
    · rw [s23 i j h1 h2, s12 i j (mMov_f h h1 h2), s01 i j (fun q => by rw [q.1] at h; cases h)]
theorem ahead_ix {h c : Nat} (hc : 1 ≤ c) : (nI h + nI c) - 1 = nI (h + c - 1) := by
  rw [nI_add, show h + c = (h + c - 1) + 1 by omega, nI_pred]
  rfl
section
variable {N T n0 w h k c : Nat} {S : gS}
theorem x_dripsAhead (hT : xtw S = T) (h0 : S T 0 = nI n0) (hn : n0 ≤ 8) (hk : k < n0) (hd : ∀ k, k < n0 → ∃ d : Nat, 1 ≤ d ∧ d ≤ 12 ∧ S (T + 1) k = nI d) (hw : S T 10 = nI w) (hw8 : w ≤ 8) (hh : S 21 0 = nI h) (hc : 1 ≤ c) (hb : h + c < 2 ^ 31) :
    fX11_dripsAhead N (nI k) (nI c) S = some (iv (drS (S (T + 2) k) (S (T + 1) k) (nI (h + c - 1)) (wetS w (S (T + 9)) (h + c - 1)) (bt (S 21 1) (nI k))), S) := by
  obtain ⟨d, d1, d2, d3⟩ := hd k hk
  unfold fX11_dripsAhead fX11_dripsAhead_b0
  dsimp only [lt]
  rw [hT, hh, ahead_ix hc, bnd_t (x_wetOf hw hw8 (by omega))]
  dsimp only
  rw [bnd_t (x_drips h0 hn hk d3 d1 d2)]
  exact chk_t zb_iv
theorem x_dripBits_h (hT : xtw S = T) (h0 : S T 0 = nI n0) (hn : n0 ≤ 8) (hd : ∀ k, k < n0 → ∃ d : Nat, 1 ≤ d ∧ d ≤ 12 ∧ S (T + 1) k = nI d) (hw : S T 10 = nI w) (hw8 : w ≤ 8) (hh : S 21 0 = nI h) (hc : 1 ≤ c) (hb : h + c < 2 ^ 31) : ∀ (m k : Nat) (acc : Int32) (fuel : Nat), k + m = n0 → m < fuel →
    fX11_dripBits_h4 N fuel (nI c) acc (nI k) S = some (drB (fun k => drS (S (T + 2) k) (S (T + 1) k) (nI (h + c - 1)) (wetS w (S (T + 9)) (h + c - 1)) (bt (S 21 1) (nI k))) m k acc, S) := by
  intro m
  induction m with
  | zero =>
    intro k acc fuel h1 h2
    obtain ⟨f, rfl⟩ : ∃ f, fuel = f + 1 := ⟨fuel - 1, by omega⟩
    show fX11_dripBits_b4 N _ (nI c) acc (nI k) S = _
    unfold fX11_dripBits_b4
    dsimp only [lt]
    rw [hT, h0, if_pos (nI_le (by omega) (by omega))]
    rfl
  | succ m ih =>
    intro k acc fuel h1 h2
    obtain ⟨f, rfl⟩ : ∃ f, fuel = f + 1 := ⟨fuel - 1, by omega⟩
    show fX11_dripBits_b4 N (fX11_dripBits_h4 N f) (nI c) acc (nI k) S = _
    unfold fX11_dripBits_b4
    dsimp only [lt]
    rw [hT, h0, if_neg (nI_ge (by omega) (by omega))]
    unfold fX11_dripBits_b15
    rw [bnd_t (x_dripsAhead hT h0 hn (by omega) hd hw hw8 hh hc hb)]
    show _ = some (drB (fun k => drS (S (T + 2) k) (S (T + 1) k) (nI (h + c - 1)) (wetS w (S (T + 9)) (h + c - 1)) (bt (S 21 1) (nI k))) m (k + 1) (if drS (S (T + 2) k) (S (T + 1) k) (nI (h + c - 1)) (wetS w (S (T + 9)) (h + c - 1)) (bt (S 21 1) (nI k)) = true then acc ||| ((1 : Int32) <<< (nI k &&& 31)) else acc), S)
    by_cases hx : drS (S (T + 2) k) (S (T + 1) k) (nI (h + c - 1)) (wetS w (S (T + 9)) (h + c - 1)) (bt (S 21 1) (nI k)) = true
    · rw [if_pos hx, hx]
      show fX11_dripBits_b24 N (fX11_dripBits_h4 N f) (nI c) acc (nI k) S = _
      unfold fX11_dripBits_b24 fX11_dripBits_b30
      rw [nI_1]
      exact ih (k + 1) _ f (by omega) (by omega)
    · rw [if_neg hx, Bool.not_eq_true _ |>.mp hx]
      show fX11_dripBits_b30 N (fX11_dripBits_h4 N f) (nI c) acc (nI k) S = _
      unfold fX11_dripBits_b30
      rw [nI_1]
      exact ih (k + 1) _ f (by omega) (by omega)
end
/-- what drips in HOUR h, by the class's rows -/
noncomputable def bX (n0 w : Nat) (SX : gS) (h : Nat) : Int32 := drB (fun k => drS (SX (xtw SX + 2) k) (SX (xtw SX + 1) k) (nI h) (wetS w (SX (xtw SX + 9)) h) (bt (SX 21 1) (nI k))) n0 0 0
/-- what both sides know of the town for this -/
def jDr (n0 w h : Nat) (SX SM : gS) : Prop :=
  (SX (xtw SX) 0 = nI n0 ∧ SM 5 0 = nI n0 ∧ n0 ≤ 8) ∧ (w ≤ 8 ∧ SX (xtw SX) 10 = nI w ∧ SM 5 3 = nI w ∧ ∀ i, i < w → ∃ x : Nat, x ≤ 9 ∧ SX (xtw SX + 9) i = nI x ∧ SM 14 i = nI x) ∧
  (∀ k, k < n0 → ∃ d : Nat, 1 ≤ d ∧ d ≤ 12 ∧ SX (xtw SX + 1) k = nI d ∧ SM 7 k = nI d) ∧ (∀ k, k < n0 → SX (xtw SX + 2) k = SM 8 k) ∧ SX 21 1 = SM 99 38 ∧ (h ≤ 999 ∧ SX 21 0 = nI h ∧ SM 99 37 = nI h) ∧ SM 99 41 = -1
theorem JJ.dr {SX SM : gS} (hJ : JJ SX SM) : ∃ n0 n1 w h : Nat, jTown n0 n1 (xtw SX) SX SM ∧ jNow n0 n1 SX SM ∧ jDr n0 w h SX SM := by
  obtain ⟨n0, n1, hT, hN, hI, hP, hM⟩ := hJ
  have hT' := hT
  have hN' := hN
  obtain ⟨⟨a1, a2, a3⟩, ⟨b1, b2, b3⟩, ⟨w, w1, w2, w3, w4⟩, ⟨b, d1, d2, d3⟩, hg, hgr, r1, r2⟩ := hT
  obtain ⟨⟨⟨h, e1, e2, e3⟩, e4, e5, e6, e7⟩, -⟩ := hN
  refine ⟨n0, n1, w, h, hT', hN', ⟨a1, a2, a3⟩, ⟨w1, w2, w3, w4⟩, fun k hk => ?_, fun k hk => ?_, e4, ⟨e1, e2, e3⟩, hM.2.1⟩
  · exact (hg k hk).1
  · obtain ⟨x, -, x1, x2⟩ := (hg k hk).2.1
    rw [x1, x2]
theorem x_dripBits {N n0 w h c : Nat} {SX SM : gS} (D : jDr n0 w h SX SM) (hc : 1 ≤ c) (hb : c ≤ 100) (hN : 8 < N) : fX11_dripBits N (nI c) SX = some (bX n0 w SX (h + c - 1), SX) := by
  obtain ⟨⟨a1, a2, a3⟩, ⟨w1, w2, w3, w4⟩, hd, hp, -, ⟨e1, e2, e3⟩, -⟩ := D
  exact x_dripBits_h rfl a1 a3 (fun k hk => by obtain ⟨d, q1, q2, q3, -⟩ := hd k hk; exact ⟨d, q1, q2, q3⟩) w2 w1 e2 hc (by omega) n0 0 0 N (by omega) (by omega)
theorem wetS_pos {w h : Nat} {r : Nat → Int32} (hr : ∀ i, i < w → ∃ x : Nat, x ≤ 9 ∧ r i = nI x) : 0 ≤ wetS w r h := by
  unfold wetS
  by_cases h0 : w = 0
  · rw [if_pos h0]
    decide
  · rw [if_neg h0]
    obtain ⟨x, x1, x2⟩ := hr (h % w) (Nat.mod_lt _ (by omega))
    rw [x2]
    exact nI_pos' (by omega)
noncomputable def mHr (i j : Nat) : Bool := i == 99 && j == 37
/-- the reference's answer, the HOUR being h' -/
theorem m_dripAt {N n0 w h h' : Nat} {SX SM S : gS} (D : jDr n0 w h SX SM) (s : oSame mHr SM S) (hh : S 99 37 = nI h') (hb : h' < 2 ^ 31) (hN : 8 < N) : fX12_drippingNow N S = some (bX n0 w SX h', S) := by
  obtain ⟨⟨a1, a2, a3⟩, ⟨w1, w2, w3, w4⟩, hd, hp, e4, ⟨e1, e2, e3⟩, e9⟩ := D
  have hv : fX12_wetOf N S = some (wetS w (S 14) h', S) := m_wetOf (by rw [s 5 3 rfl]; exact w3) w1 hb hh (by rw [s 99 41 rfl]; exact e9)
  have ew : wetS w (S 14) h' = wetS w (SX (xtw SX + 9)) h' := wetS_eq (fun i hi => by
    obtain ⟨x, -, x1, x2⟩ := w4 i hi
    rw [s 14 i rfl, x1, x2])
  rw [m_drippingNow (n := n0) (by rw [s 5 0 rfl]; exact a2) a3 (fun k hk => by obtain ⟨d, q1, q2, -, q3⟩ := hd k hk; exact ⟨d, q1, q2, by rw [s 7 k rfl]; exact q3⟩) hv (by
    rw [ew]
    exact wetS_pos (fun i hi => by obtain ⟨x, x0, x1, -⟩ := w4 i hi; exact ⟨x, x0, x1⟩)) hN]
  congr 2
  unfold bX
  refine drB_eq n0 0 0 (fun k _ hk => ?_)
  obtain ⟨d, -, -, q3, q4⟩ := hd k (by omega)
  show drS (S 8 k) (S 7 k) (S 99 37) _ (bt (S 99 38) (nI k)) = _
  rw [s 8 k rfl, s 7 k rfl, s 99 38 rfl, hh, ew, hp k (by omega), q3, q4, e4]
/-- a question begins: the reference packs -/
theorem jDr.on {n0 w h : Nat} {SX SM S1 : gS} (D : jDr n0 w h SX SM) (s01 : ∀ i j, ¬ (i = 46 ∧ 0 ≤ j ∧ j < 0 + 26) → S1 i j = SM i j) : jDr n0 w h SX S1 := by
  obtain ⟨⟨a1, a2, a3⟩, ⟨w1, w2, w3, w4⟩, hd, hp, e4, ⟨e1, e2, e3⟩, e9⟩ := D
  refine ⟨⟨a1, by rw [s01 5 0 (by omega)]; exact a2, a3⟩, ⟨w1, w2, by rw [s01 5 3 (by omega)]; exact w3, fun i hi => by rw [s01 14 i (by omega)]; exact w4 i hi⟩, fun k hk => by rw [s01 7 k (by omega)]; exact hd k hk, fun k hk => by rw [s01 8 k (by omega)]; exact hp k hk, by rw [s01 99 38 (by omega)]; exact e4, ⟨e1, e2, by rw [s01 99 37 (by omega)]; exact e3⟩, by rw [s01 99 41 (by omega)]; exact e9⟩
theorem mHr.mov {S S' : gS} (h : oSame mHr S S') : oSame mMov S S' := fun i j k => h i j (by
  unfold mMov at k
  unfold mHr
  rw [Bool.or_eq_false_iff] at k
  have k2 := k.2
  cases h1 : (i == 99) with
  | false => rfl
  | true =>
    rw [h1, Bool.true_and, Bool.or_eq_false_iff] at k2
    rw [Bool.true_and]
    exact k2.1)
theorem wth_of {x : Int32} {a b : Nat} (ha : a < 2 ^ 31) (hb : b < 2 ^ 31) (h : wth x (nI a) (nI b) = true) : ∃ c : Nat, a ≤ c ∧ c ≤ b ∧ x = nI c := by
  unfold wth at h
  rw [Bool.and_eq_true, decide_eq_true_iff, decide_eq_true_iff] at h
  · have h0 : ¬ x < 0 := fun q => by
      have := nI_pos' ha
      rw [Int32.lt_iff_toInt_lt] at q
      have h1 := h.1
      rw [Int32.le_iff_toInt_le] at h1 this
      have e0 : (0 : Int32).toInt = 0 := rfl
      omega
    obtain ⟨c, hc, rfl⟩ := nI_of2 (x := x) (M := nI b) (n := b) (nI_toInt hb) h0 h.2
    exact ⟨c, (nI_leI ha (by omega)).mp h.1, hc, rfl⟩
theorem in_1_60 {N : Nat} {S : gS} {x : Int32} : fX12_isIn N x.toInt64 1 60 S = some (iv (wth x 1 60), S) := m_isIn (a := 1) (b := 60)
theorem in_0_60 {N : Nat} {S : gS} {x : Int32} : fX12_isIn N x.toInt64 0 60 S = some (iv (wth x 0 60), S) := m_isIn (a := 0) (b := 60)
theorem in_1_20 {N : Nat} {S : gS} {x : Int32} : fX12_isIn N x.toInt64 1 20 S = some (iv (wth x 1 20), S) := m_isIn (a := 1) (b := 20)
theorem in_0_20 {N : Nat} {S : gS} {x : Int32} : fX12_isIn N x.toInt64 0 20 S = some (iv (wth x 0 20), S) := m_isIn (a := 0) (b := 20)
theorem in_0_99 {N : Nat} {S : gS} {x : Int32} : fX12_isIn N x.toInt64 0 99 S = some (iv (wth x 0 99), S) := m_isIn (a := 0) (b := 99)
theorem in_1_100 {N : Nat} {S : gS} {x : Int32} : fX12_isIn N x.toInt64 1 100 S = some (iv (wth x 1 100), S) := m_isIn (a := 1) (b := 100)
theorem in_1_5 {N : Nat} {S : gS} {x : Int32} : fX12_isIn N x.toInt64 1 5 S = some (iv (wth x 1 5), S) := m_isIn (a := 1) (b := 5)
theorem in_0_10 {N : Nat} {S : gS} {x : Int32} : fX12_isIn N x.toInt64 0 10 S = some (iv (wth x 0 10), S) := m_isIn (a := 0) (b := 10)
theorem in_0_2 {N : Nat} {S : gS} {x : Int32} : fX12_isIn N x.toInt64 0 2 S = some (iv (wth x 0 2), S) := m_isIn (a := 0) (b := 2)
theorem in_0_3 {N : Nat} {S : gS} {x : Int32} : fX12_isIn N x.toInt64 0 3 S = some (iv (wth x 0 3), S) := m_isIn (a := 0) (b := 3)
theorem ahead_ix2 {h c : Nat} (hc : 1 ≤ c) : nI h + (nI c - 1) = nI (h + c - 1) := by
  rw [show c = (c - 1) + 1 by omega, nI_pred, nI_add]
  rfl
theorem two_ne : (2 : Nat) ≠ 0 := by decide
theorem one_ne : (1 : Nat) ≠ 0 := by decide
theorem st_dripping : Lw_dripping JJ := by
  intro SX SM x1 hJ
  have hJ1 := hJ.same xSame.rf (code_same SM 0)
  have c0 := code_at SM 0
  obtain ⟨S1, hS1⟩ : ∃ z, z = sU SM 99 4 0 := ⟨_, rfl⟩
  rw [← hS1] at hJ1 c0
  obtain ⟨n0, n1, w, h, hT, hN, D⟩ := hJ1.dr
  have hF : ∀ M, fX12_dripping M x1 SM = if iv (wth x1 1 60) = 0 then fX12_dripping_b17 M S1 else fX12_dripping_b23 M x1 S1 := by
    intro M
    unfold fX12_dripping fX12_dripping_b0
    dsimp only [lt]
    rw [← hS1, bnd_t in_1_60]
  cases hx : wth x1 1 60 with
  | false =>
    refine stp_no (t := 2) (v := 0) (w := 0) (SX' := SX) (SM' := sU S1 99 4 1) 1000 1000 (hJ1.same xSame.rf (code_same S1 1)) (by decide) (Or.inr rfl) ?_ ?_ (code_at S1 1)
    · show fX11_dripping_b0 1000 x1 SX = _
      unfold fX11_dripping_b0
      rw [bnx_x x_needWithin (by rw [hx]; exact two_ne), hx]
      rfl
    · show fX12_dripping 1000 x1 SM = _
      rw [hF, hx]
      rfl
  | true =>
    obtain ⟨c, c1, c2, rfl⟩ := wth_of (a := 1) (b := 60) (by decide) (by decide) hx
    obtain ⟨S2, p1, p2, p3⟩ := m_pack (N := 1000) (nd := 46) (a := 0) (S := S1) (by decide) (by decide) (by decide) (by decide)
    have D2 := D.on p2
    have e37 : S2 99 37 = nI h := D2.2.2.2.2.2.1.2.2
    obtain ⟨S4, u1, u2, u3⟩ := m_unpack (N := 1000) (nd := 46) (a := 0) (S := sU S2 99 37 (nI (h + c - 1))) (by decide) (by decide) (by decide) (by decide)
    have hm : mSame S1 S4 := m_back p3 p2 (mHr.mov (oSame.rf.up rfl)) u2 u3
    refine stp_ok (SX := SX) (SM := SM) (SX' := SX) (SM' := S4) (v := bX n0 w SX (h + c - 1)) 1000 1000 (hJ1.same xSame.rf hm) rfl (Or.inl rfl) ?_ ?_ ?_
    · show fX11_dripping_b0 1000 (nI c) SX = _
      unfold fX11_dripping_b0
      rw [bnx_t x_needWithin (by rw [hx]; rfl), bnd_t (x_dripBits D c1 (by omega) (by decide))]
    · show fX12_dripping 1000 (nI c) SM = _
      rw [hF, hx]
      show fX12_dripping_b23 1000 (nI c) S1 = _
      unfold fX12_dripping_b23
      have p1 : fX12_pack 1000 46 0 S1 = some (0, S2) := p1
      have u1 : fX12_unpack 1000 46 0 (sU S2 99 37 (nI (h + c - 1))) = some (0, S4) := u1
      have hh := D.2.2.2.2.2.1.1
      rw [bnd_t p1]
      dsimp only [lt]
      rw [e37, ahead_ix2 c1, bnd_t (m_dripAt (h' := h + c - 1) D2 (oSame.rf.up rfl) sU_s (by omega) (by decide)), bnd_t u1]
    · rw [u2 99 4 (by omega) (by omega), sU_n (by omega), p2 99 4 (by omega)]
      exact c0
end

/-! part 38.ahush -/
section
/-! hush, often, grotto -/
theorem q_begin {n0 w h : Nat} {SX S1 : gS} (D : jDr n0 w h SX S1) (c0 : S1 99 4 = 0) : ∃ S2, fX12_pack 1000 46 0 S1 = some (0, S2) ∧ jDr n0 w h SX S2 ∧ ∀ S, oSame mHr S2 S → ∃ S4, fX12_unpack 1000 46 0 S = some (0, S4) ∧ mSame S1 S4 ∧ S4 99 4 = 0 := by
  obtain ⟨S2, p1, p2, p3⟩ := m_pack (N := 1000) (nd := 46) (a := 0) (S := S1) (by decide) (by decide) (by decide) (by decide)
  refine ⟨S2, p1, D.on p2, fun S s => ?_⟩
  obtain ⟨S4, u1, u2, u3⟩ := m_unpack (N := 1000) (nd := 46) (a := 0) (S := S) (by decide) (by decide) (by decide) (by decide)
  refine ⟨S4, u1, m_back p3 p2 (mHr.mov s) u2 u3, ?_⟩
  rw [u2 99 4 (by omega) (by omega), s 99 4 rfl, p2 99 4 (by omega)]
  exact c0
noncomputable def huR (b : Nat → Int32) : Nat → Nat → Int32 → Int32 → Int32
  | 0, _, _, lo => lo
  | m + 1, k, row, lo => huR b m (k + 1) (if b k = 0 then row + 1 else 0) (if lo < (if b k = 0 then row + 1 else 0) then (if b k = 0 then row + 1 else 0) else lo)
theorem x_hush_h {n0 w h n : Nat} {SX SM : gS} (D : jDr n0 w h SX SM) (hn : n ≤ 60) : ∀ (m k : Nat) (row lo : Int32) (fuel : Nat), k + m = n → m < fuel → fX11_hush_h14 1000 fuel (nI n) lo row (nI (k + 1)) SX = some (0, huR (fun i => bX n0 w SX (h + i)) m k row lo, SX) := by
  intro m
  induction m with
  | zero =>
    intro k row lo fuel h1 h2
    obtain ⟨f, rfl⟩ : ∃ f, fuel = f + 1 := ⟨fuel - 1, by omega⟩
    show fX11_hush_b14 1000 _ (nI n) lo row (nI (k + 1)) SX = _
    unfold fX11_hush_b14
    rw [if_pos (nI_lt (by omega) (by omega))]
    rfl
  | succ m ih =>
    intro k row lo fuel h1 h2
    obtain ⟨f, rfl⟩ : ∃ f, fuel = f + 1 := ⟨fuel - 1, by omega⟩
    show fX11_hush_b14 1000 (fX11_hush_h14 1000 f) (nI n) lo row (nI (k + 1)) SX = _
    unfold fX11_hush_b14
    rw [if_neg (nI_nlt (by omega) (by omega))]
    unfold fX11_hush_b20
    rw [bnd_t (x_dripBits D (by omega) (by omega) (by decide))]
    show (if bX n0 w SX (h + k) = 0 then _ else _) = _
    show _ = some (0, huR (fun i => bX n0 w SX (h + i)) m (k + 1) (if bX n0 w SX (h + k) = 0 then row + 1 else 0) (if lo < (if bX n0 w SX (h + k) = 0 then row + 1 else 0) then (if bX n0 w SX (h + k) = 0 then row + 1 else 0) else lo), SX)
    by_cases hb : bX n0 w SX (h + k) = 0
    · rw [if_pos hb, if_pos hb]
      unfold fX11_hush_b29 fX11_hush_b36
      rw [nI_1]
      exact ih (k + 1) _ _ f (by omega) (by omega)
    · rw [if_neg hb, if_neg hb]
      unfold fX11_hush_b35 fX11_hush_b36
      rw [nI_1]
      exact ih (k + 1) _ _ f (by omega) (by omega)
theorem m_hush_h {n0 w h n : Nat} {SX S1 S2 : gS} (D : jDr n0 w h SX S2) (hn : n ≤ 60) (E : ∀ S, oSame mHr S2 S → ∃ S4, fX12_unpack 1000 46 0 S = some (0, S4) ∧ mSame S1 S4 ∧ S4 99 4 = 0) : ∀ (m k : Nat) (row lo : Int32) (fuel : Nat) (S : gS), k + m = n → m < fuel → oSame mHr S2 S → S 99 37 = nI (h + k) →
    ∃ S4, fX12_hush_h39 1000 fuel (nI n) row lo (nI k) S = some (huR (fun i => bX n0 w SX (h + i)) m k row lo, S4) ∧ mSame S1 S4 ∧ S4 99 4 = 0 := by
  have h9 := D.2.2.2.2.2.1.1
  intro m
  induction m with
  | zero =>
    intro k row lo fuel S h1 h2 s hh
    obtain ⟨f, rfl⟩ : ∃ f, fuel = f + 1 := ⟨fuel - 1, by omega⟩
    obtain ⟨S4, u1, u2, u3⟩ := E S s
    refine ⟨S4, ?_, u2, u3⟩
    show fX12_hush_b39 1000 _ (nI n) row lo (nI k) S = _
    unfold fX12_hush_b39
    rw [if_pos (nI_le (by omega) (by omega))]
    unfold fX12_hush_b82
    rw [bnd_t u1]
    rfl
  | succ m ih =>
    intro k row lo fuel S h1 h2 s hh
    obtain ⟨f, rfl⟩ : ∃ f, fuel = f + 1 := ⟨fuel - 1, by omega⟩
    obtain ⟨S4, u1, u2, u3⟩ := ih (k + 1) (if bX n0 w SX (h + k) = 0 then row + 1 else 0) (if lo < (if bX n0 w SX (h + k) = 0 then row + 1 else 0) then (if bX n0 w SX (h + k) = 0 then row + 1 else 0) else lo) f (sU S 99 37 (nI (h + k) + 1)) (by omega) (by omega) (s.up rfl) (by rw [sU_s, nI_1]; rfl)
    refine ⟨S4, ?_, u2, u3⟩
    show fX12_hush_b39 1000 (fX12_hush_h39 1000 f) (nI n) row lo (nI k) S = some (huR (fun i => bX n0 w SX (h + i)) m (k + 1) _ _, S4)
    unfold fX12_hush_b39
    rw [if_neg (nI_ge (by omega) (by omega))]
    unfold fX12_hush_b45
    rw [bnd_t (m_dripAt D s hh (by omega) (by decide))]
    show (if bX n0 w SX (h + k) = 0 then _ else _) = _
    rw [← u1]
    by_cases hb : bX n0 w SX (h + k) = 0
    · rw [if_pos hb, if_pos hb]
      unfold fX12_hush_b52 fX12_hush_b59
      dsimp only [lt]
      rw [hh, nI_1 k]
    · rw [if_neg hb, if_neg hb]
      unfold fX12_hush_b58 fX12_hush_b59
      dsimp only [lt]
      rw [hh, nI_1 k]
theorem st_hush : Lw_hush JJ := by
  intro SX SM x1 hJ
  have hJ1 := hJ.same xSame.rf (code_same SM 0)
  have c0 := code_at SM 0
  obtain ⟨S1, hS1⟩ : ∃ z, z = sU SM 99 4 0 := ⟨_, rfl⟩
  rw [← hS1] at hJ1 c0
  obtain ⟨n0, n1, w, h, hT, hN, D⟩ := hJ1.dr
  have hF : ∀ M, fX12_hush M x1 SM = if iv (wth x1 1 60) = 0 then fX12_hush_b17 M S1 else fX12_hush_b23 M x1 S1 := by
    intro M
    unfold fX12_hush fX12_hush_b0
    dsimp only [lt]
    rw [← hS1, bnd_t in_1_60]
  cases hx : wth x1 1 60 with
  | false =>
    refine stp_no (t := 2) (v := 0) (w := 0) (SX' := SX) (SM' := sU S1 99 4 1) 1000 1000 (hJ1.same xSame.rf (code_same S1 1)) (by decide) (Or.inr rfl) ?_ ?_ (code_at S1 1)
    · show fX11_hush_b0 1000 x1 SX = _
      unfold fX11_hush_b0
      rw [bnx_x x_needWithin (by rw [hx]; exact two_ne), hx]
      rfl
    · show fX12_hush 1000 x1 SM = _
      rw [hF, hx]
      rfl
  | true =>
    obtain ⟨c, c1, c2, rfl⟩ := wth_of (a := 1) (b := 60) (by decide) (by decide) hx
    obtain ⟨S2, p1, D2, E⟩ := q_begin D c0
    obtain ⟨S4, u1, u2, u3⟩ := m_hush_h (n := c) D2 c2 E c 0 0 0 1000 S2 (by omega) (by omega) oSame.rf D2.2.2.2.2.2.1.2.2
    refine stp_ok (SX := SX) (SM := SM) (SX' := SX) (SM' := S4) (v := huR (fun i => bX n0 w SX (h + i)) c 0 0 0) 1000 1000 (hJ1.same xSame.rf u2) rfl (Or.inl rfl) ?_ ?_ u3
    · show fX11_hush_b0 1000 (nI c) SX = _
      unfold fX11_hush_b0
      rw [bnx_t x_needWithin (by rw [hx]; rfl)]
      exact x_hush_h D c2 c 0 0 0 1000 (by omega) (by omega)
    · show fX12_hush 1000 (nI c) SM = _
      rw [hF, hx]
      show fX12_hush_b23 1000 (nI c) S1 = _
      unfold fX12_hush_b23
      rw [bnd_t p1]
      exact u1
/-! bits of what drips, one by one -/
theorem bb_drB {c : Nat → Bool} {i : Nat} (hi : i < 32) : ∀ (m k : Nat) (acc : Int32), k + m ≤ 32 → bb (drB c m k acc) i = (bb acc i || (decide (k ≤ i) && decide (i < k + m) && c i)) := by
  intro m
  induction m with
  | zero =>
    intro k acc h
    show bb acc i = _
    have : (decide (k ≤ i) && decide (i < k + 0)) = false := by
      cases h1 : decide (k ≤ i) with
      | false => rfl
      | true =>
        rw [decide_eq_true_iff] at h1
        rw [Bool.true_and, decide_eq_false (by omega)]
    rw [this, Bool.false_and, Bool.or_false]
  | succ m ih =>
    intro k acc h
    show bb (drB c m (k + 1) _) i = _
    rw [ih (k + 1) _ (by omega)]
    by_cases hk : i = k
    · subst hk
      rw [decide_eq_false (p := i + 1 ≤ i) (by omega), decide_eq_true (p := i ≤ i) (by omega), decide_eq_true (p := i < i + (m + 1)) (by omega)]
      by_cases hc : c i = true
      · rw [if_pos hc, bb_or, bb_pow i hi i hi, hc, decide_eq_true (p := i = i) rfl]
        simp
      · rw [if_neg hc, Bool.not_eq_true _ |>.mp hc]
        simp
    · have e1 : decide (k + 1 ≤ i) = decide (k ≤ i) := decide_eq_decide.mpr (by omega)
      have e2 : decide (i < k + 1 + m) = decide (i < k + (m + 1)) := decide_eq_decide.mpr (by omega)
      rw [e1, e2]
      by_cases hc : c k = true
      · rw [if_pos hc, bb_or, bb_pow k (by omega) i hi, decide_eq_false hk, Bool.or_false]
      · rw [if_neg hc]
theorem bt_bX {n0 w h k : Nat} {SX : gS} (hn : n0 ≤ 8) (hk : k < n0) : bt (bX n0 w SX h) (nI k) = drS (SX (xtw SX + 2) k) (SX (xtw SX + 1) k) (nI h) (wetS w (SX (xtw SX + 9)) h) (bt (SX 21 1) (nI k)) := by
  rw [bt_bb (by omega)]
  unfold bX
  rw [bb_drB (by omega) n0 0 0 (by omega), bb_0, decide_eq_true (p := 0 ≤ k) (by omega), decide_eq_true (p := k < 0 + n0) (by omega)]
  simp
theorem shr1_iv {x k : Int32} : ((x >>> (k &&& 31)) &&& 1 : Int32) = iv (bt x k) := by
  unfold bt iv
  rcases and1 (x >>> (k &&& 31)) with h | h
  · rw [h]
    rfl
  · rw [h]
    rfl
theorem x_ahead {N n0 w h c k : Nat} {SX SM : gS} (D : jDr n0 w h SX SM) (hk : k < n0) (hc : 1 ≤ c) (hb : c ≤ 100) : fX11_dripsAhead N (nI k) (nI c) SX = some (iv (bt (bX n0 w SX (h + c - 1)) (nI k)), SX) := by
  obtain ⟨⟨a1, a2, a3⟩, ⟨w1, w2, w3, w4⟩, hd, hp, -, ⟨e1, e2, e3⟩, -⟩ := D
  rw [bt_bX a3 hk]
  exact x_dripsAhead rfl a1 a3 hk (fun k hk => by obtain ⟨d, q1, q2, q3, -⟩ := hd k hk; exact ⟨d, q1, q2, q3⟩) w2 w1 e2 hc (by omega)
end

/-! part 39.aoften -/
section
/-! often, grotto -/
noncomputable def ofR (c : Nat → Bool) : Nat → Nat → Int32 → Int32
  | 0, _, acc => acc
  | m + 1, k, acc => ofR c m (k + 1) (acc + iv (c k))
theorem x_often_h {n0 w h n k0 : Nat} {SX SM : gS} (D : jDr n0 w h SX SM) (hk : k0 < n0) (hn : n ≤ 60) : ∀ (m k : Nat) (acc : Int32) (fuel : Nat), k + m = n → m < fuel → fX11_often_h17 1000 fuel (nI k0) (nI n) acc (nI (k + 1)) SX = some (0, ofR (fun i => bt (bX n0 w SX (h + i)) (nI k0)) m k acc, SX) := by
  intro m
  induction m with
  | zero =>
    intro k acc fuel h1 h2
    obtain ⟨f, rfl⟩ : ∃ f, fuel = f + 1 := ⟨fuel - 1, by omega⟩
    show fX11_often_b17 1000 _ (nI k0) (nI n) acc (nI (k + 1)) SX = _
    unfold fX11_often_b17
    rw [if_pos (nI_lt (by omega) (by omega))]
    rfl
  | succ m ih =>
    intro k acc fuel h1 h2
    obtain ⟨f, rfl⟩ : ∃ f, fuel = f + 1 := ⟨fuel - 1, by omega⟩
    show fX11_often_b17 1000 (fX11_often_h17 1000 f) (nI k0) (nI n) acc (nI (k + 1)) SX = _
    unfold fX11_often_b17
    rw [if_neg (nI_nlt (by omega) (by omega))]
    unfold fX11_often_b23
    rw [bnd_t (x_ahead D hk (by omega) (by omega))]
    show (if iv (bt (bX n0 w SX (h + k)) (nI k0)) = 0 then _ else _) = some (0, ofR (fun i => bt (bX n0 w SX (h + i)) (nI k0)) m (k + 1) (acc + iv (bt (bX n0 w SX (h + k)) (nI k0))), SX)
    cases hb : bt (bX n0 w SX (h + k)) (nI k0) with
    | false =>
      show fX11_often_b36 1000 (fX11_often_h17 1000 f) (nI k0) (nI n) acc (nI (k + 1)) SX = _
      unfold fX11_often_b36
      rw [nI_1, show acc + iv false = acc from Int32.add_zero acc]
      exact ih (k + 1) _ f (by omega) (by omega)
    | true =>
      show fX11_often_b33 1000 (fX11_often_h17 1000 f) (nI k0) (nI n) acc (nI (k + 1)) SX = _
      unfold fX11_often_b33 fX11_often_b36
      rw [nI_1 (k + 1)]
      exact ih (k + 1) _ f (by omega) (by omega)
theorem m_often_h {n0 w h n k0 : Nat} {SX S1 S2 : gS} (D : jDr n0 w h SX S2) (hn : n ≤ 60) (E : ∀ S, oSame mHr S2 S → ∃ S4, fX12_unpack 1000 46 0 S = some (0, S4) ∧ mSame S1 S4 ∧ S4 99 4 = 0) : ∀ (m k : Nat) (acc : Int32) (fuel : Nat) (S : gS), k + m = n → m < fuel → oSame mHr S2 S → S 99 37 = nI (h + k) →
    ∃ S4, fX12_often_h51 1000 fuel (nI k0) (nI n) acc (nI k) S = some (ofR (fun i => bt (bX n0 w SX (h + i)) (nI k0)) m k acc, S4) ∧ mSame S1 S4 ∧ S4 99 4 = 0 := by
  have h9 := D.2.2.2.2.2.1.1
  intro m
  induction m with
  | zero =>
    intro k acc fuel S h1 h2 s hh
    obtain ⟨f, rfl⟩ : ∃ f, fuel = f + 1 := ⟨fuel - 1, by omega⟩
    obtain ⟨S4, u1, u2, u3⟩ := E S s
    refine ⟨S4, ?_, u2, u3⟩
    show fX12_often_b51 1000 _ (nI k0) (nI n) acc (nI k) S = _
    unfold fX12_often_b51
    rw [if_pos (nI_le (by omega) (by omega))]
    unfold fX12_often_b84
    rw [bnd_t u1]
    rfl
  | succ m ih =>
    intro k acc fuel S h1 h2 s hh
    obtain ⟨f, rfl⟩ : ∃ f, fuel = f + 1 := ⟨fuel - 1, by omega⟩
    obtain ⟨S4, u1, u2, u3⟩ := ih (k + 1) (acc + iv (bt (bX n0 w SX (h + k)) (nI k0))) f (sU S 99 37 (nI (h + k) + 1)) (by omega) (by omega) (s.up rfl) (by rw [sU_s, nI_1]; rfl)
    refine ⟨S4, ?_, u2, u3⟩
    show fX12_often_b51 1000 (fX12_often_h51 1000 f) (nI k0) (nI n) acc (nI k) S = some (ofR (fun i => bt (bX n0 w SX (h + i)) (nI k0)) m (k + 1) _, S4)
    unfold fX12_often_b51
    rw [if_neg (nI_ge (by omega) (by omega))]
    unfold fX12_often_b57
    rw [bnd_t (m_dripAt D s hh (by omega) (by decide))]
    dsimp only [lt]
    rw [hh, shr1_iv, nI_1 k]
    exact u1
theorem st_often : Lw_often JJ := by
  intro SX SM x1 x2 hJ
  have hJ1 := hJ.same xSame.rf (code_same SM 0)
  have c0 := code_at SM 0
  obtain ⟨S1, hS1⟩ : ∃ z, z = sU SM 99 4 0 := ⟨_, rfl⟩
  rw [← hS1] at hJ1 c0
  obtain ⟨n0, n1, w, h, hT, hN, D⟩ := hJ1.dr
  obtain ⟨a1, a2, a3⟩ := D.1
  have hF : ∀ M, fX12_often M x1 x2 SM = if iv (inb x1 n0) = 0 then fX12_often_b13 M S1 else fX12_often_b19 M x1 x2 S1 := by
    intro M
    unfold fX12_often fX12_often_b0
    dsimp only [lt]
    rw [← hS1, bnd_t (m_isGrotto a2 (by omega))]
  have hG : ∀ M, fX12_often_b19 M x1 x2 S1 = if iv (wth x2 0 60) = 0 then fX12_often_b31 M S1 else fX12_often_b37 M x1 x2 S1 := by
    intro M
    unfold fX12_often_b19
    rw [bnd_t in_0_60]
  cases hk : inb x1 n0 with
  | false =>
    refine stp_no (t := 1) (v := 0) (w := 0) (SX' := SX) (SM' := sU S1 99 4 1) 1000 1000 (hJ1.same xSame.rf (code_same S1 1)) (by decide) (Or.inr (Or.inl rfl)) ?_ ?_ (code_at S1 1)
    · show fX11_often_b0 1000 x1 x2 SX = _
      unfold fX11_often_b0
      rw [bnx_x (x_needGrotto a1 (by omega)) (by rw [hk]; exact one_ne), hk]
      rfl
    · show fX12_often 1000 x1 x2 SM = _
      rw [hF, hk]
      rfl
  | true =>
    obtain ⟨k0, hk0, rfl⟩ := inb_of hk (by omega)
    cases hx : wth x2 0 60 with
    | false =>
      refine stp_no (t := 2) (v := 0) (w := 0) (SX' := SX) (SM' := sU S1 99 4 2) 1000 1000 (hJ1.same xSame.rf (code_same S1 2)) (by decide) (Or.inr (Or.inr rfl)) ?_ ?_ (code_at S1 2)
      · show fX11_often_b0 1000 (nI k0) x2 SX = _
        unfold fX11_often_b0
        rw [bnx_t (x_needGrotto a1 (by omega)) (by rw [hk]; rfl)]
        dsimp only
        rw [bnx_x x_needWithin (by rw [hx]; exact two_ne), hx]
        rfl
      · show fX12_often 1000 (nI k0) x2 SM = _
        rw [hF, hk]
        show fX12_often_b19 1000 (nI k0) x2 S1 = _
        rw [hG, hx]
        rfl
    | true =>
      obtain ⟨c, c1, c2, rfl⟩ := wth_of (a := 0) (b := 60) (by decide) (by decide) hx
      obtain ⟨S2, p1, D2, E⟩ := q_begin D c0
      obtain ⟨S4, u1, u2, u3⟩ := m_often_h (n := c) (k0 := k0) D2 c2 E c 0 0 1000 S2 (by omega) (by omega) oSame.rf D2.2.2.2.2.2.1.2.2
      refine stp_ok (SX := SX) (SM := SM) (SX' := SX) (SM' := S4) (v := ofR (fun i => bt (bX n0 w SX (h + i)) (nI k0)) c 0 0) 1000 1000 (hJ1.same xSame.rf u2) rfl (Or.inl rfl) ?_ ?_ u3
      · show fX11_often_b0 1000 (nI k0) (nI c) SX = _
        unfold fX11_often_b0
        rw [bnx_t (x_needGrotto a1 (by omega)) (by rw [hk]; rfl)]
        dsimp only
        rw [bnx_t x_needWithin (by rw [hx]; rfl)]
        exact x_often_h D hk0 c2 c 0 0 1000 (by omega) (by omega)
      · show fX12_often 1000 (nI k0) (nI c) SM = _
        rw [hF, hk]
        show fX12_often_b19 1000 (nI k0) (nI c) S1 = _
        rw [hG, hx]
        show fX12_often_b37 1000 (nI k0) (nI c) S1 = _
        unfold fX12_often_b37
        rw [bnd_t p1]
        exact u1
/-! the next drip -/
noncomputable def ndR (c : Nat → Bool) : Nat → Nat → Int32
  | 0, _ => -1
  | m + 1, k => if c k = true then nI (k + 1) else ndR c m (k + 1)
theorem x_next_h {n0 w h k0 : Nat} {SX SM : gS} (D : jDr n0 w h SX SM) (hk : k0 < n0) : ∀ (m k : Nat) (fuel : Nat), k + m = 60 → m < fuel → fX11_nextDrip_h2 1000 fuel (nI k0) (nI (k + 1)) SX = some (ndR (fun i => bt (bX n0 w SX (h + i)) (nI k0)) m k, SX) := by
  intro m
  induction m with
  | zero =>
    intro k fuel h1 h2
    obtain ⟨f, rfl⟩ : ∃ f, fuel = f + 1 := ⟨fuel - 1, by omega⟩
    have hk6 : k = 60 := by omega
    subst hk6
    rfl
  | succ m ih =>
    intro k fuel h1 h2
    obtain ⟨f, rfl⟩ : ∃ f, fuel = f + 1 := ⟨fuel - 1, by omega⟩
    show fX11_nextDrip_b2 1000 (fX11_nextDrip_h2 1000 f) (nI k0) (nI (k + 1)) SX = _
    unfold fX11_nextDrip_b2
    rw [if_neg (show ¬ 60 < nI (k + 1) from nI_nlt (a := 60) (by omega) (by omega))]
    unfold fX11_nextDrip_b8
    rw [bnd_t (x_ahead D hk (by omega) (by omega))]
    show (if iv (bt (bX n0 w SX (h + k)) (nI k0)) = 0 then _ else _) = some (if bt (bX n0 w SX (h + k)) (nI k0) = true then nI (k + 1) else ndR _ m (k + 1), SX)
    by_cases hb : bt (bX n0 w SX (h + k)) (nI k0) = true
    · rw [if_pos hb, hb]
      rfl
    · rw [if_neg hb, Bool.not_eq_true _ |>.mp hb]
      show fX11_nextDrip_b19 1000 (fX11_nextDrip_h2 1000 f) (nI k0) (nI (k + 1)) SX = _
      unfold fX11_nextDrip_b19
      rw [nI_1 (k + 1)]
      exact ih (k + 1) f (by omega) (by omega)
theorem m_next_h {n0 w h k0 : Nat} {SX S1 S2 : gS} (D : jDr n0 w h SX S2) (E : ∀ S, oSame mHr S2 S → ∃ S4, fX12_unpack 1000 46 0 S = some (0, S4) ∧ mSame S1 S4 ∧ S4 99 4 = 0) : ∀ (m k : Nat) (fuel : Nat) (S : gS), k + m = 60 → m + 1 < fuel → oSame mHr S2 S → S 99 37 = nI (h + k) →
    ∃ S4, fX12_nextDrip_h13 1000 fuel (nI k0) (-1) (nI (k + 1)) S = some (ndR (fun i => bt (bX n0 w SX (h + i)) (nI k0)) m k, S4) ∧ mSame S1 S4 ∧ S4 99 4 = 0 := by
  have h9 := D.2.2.2.2.2.1.1
  intro m
  induction m with
  | zero =>
    intro k fuel S h1 h2 s hh
    obtain ⟨f, rfl⟩ : ∃ f, fuel = f + 1 := ⟨fuel - 1, by omega⟩
    obtain ⟨S4, u1, u2, u3⟩ := E S s
    refine ⟨S4, ?_, u2, u3⟩
    have hk6 : k = 60 := by omega
    subst hk6
    show fX12_nextDrip_b53 1000 (-1) S = _
    unfold fX12_nextDrip_b53
    rw [bnd_t u1]
    rfl
  | succ m ih =>
    intro k fuel S h1 h2 s hh
    obtain ⟨f, rfl⟩ : ∃ f, fuel = f + 1 := ⟨fuel - 1, by omega⟩
    have hst : fX12_nextDrip_h13 1000 (f + 1) (nI k0) (-1) (nI (k + 1)) S = if iv (bt (bX n0 w SX (h + k)) (nI k0)) = 0 then fX12_nextDrip_b37 1000 (fX12_nextDrip_h13 1000 f) (nI k0) (-1) (nI (k + 1)) S else fX12_nextDrip_b35 1000 (fX12_nextDrip_h13 1000 f) (nI k0) (nI (k + 1)) S := by
      show fX12_nextDrip_b13 1000 (fX12_nextDrip_h13 1000 f) (nI k0) (-1) (nI (k + 1)) S = _
      unfold fX12_nextDrip_b13
      rw [if_neg (show ¬ 60 < nI (k + 1) from nI_nlt (a := 60) (by omega) (by omega))]
      unfold fX12_nextDrip_b19
      rw [if_pos rfl]
      unfold fX12_nextDrip_b24
      rw [bnd_t (m_dripAt D s hh (by omega) (by decide))]
      dsimp only
      rw [bnd_t m_isOf]
    by_cases hb : bt (bX n0 w SX (h + k)) (nI k0) = true
    · obtain ⟨S4, u1, u2, u3⟩ := E (sU S 99 37 (nI (h + k) + 1)) (s.up rfl)
      refine ⟨S4, ?_, u2, u3⟩
      rw [hst, hb]
      show fX12_nextDrip_b35 1000 (fX12_nextDrip_h13 1000 f) (nI k0) (nI (k + 1)) S = some (if bt (bX n0 w SX (h + k)) (nI k0) = true then nI (k + 1) else ndR _ m (k + 1), S4)
      rw [if_pos hb]
      unfold fX12_nextDrip_b35 fX12_nextDrip_b37
      dsimp only [lt]
      rw [hh]
      obtain ⟨f', rfl⟩ : ∃ f', f = f' + 1 := ⟨f - 1, by omega⟩
      show fX12_nextDrip_b13 1000 (fX12_nextDrip_h13 1000 f') (nI k0) (nI (k + 1)) (nI (k + 1) + 1) _ = _
      unfold fX12_nextDrip_b13
      have hne : ¬ nI (k + 1) = -1 := fun q => by
        have h7 : (nI (k + 1)).toInt = (-1 : Int32).toInt := by rw [q]
        rw [nI_toInt (by omega)] at h7
        have h8 : (-1 : Int32).toInt = -1 := by decide
        omega
      have hend : fX12_nextDrip_b53 1000 (nI (k + 1)) (sU S 99 37 (nI (h + k) + 1)) = some (nI (k + 1), S4) := by
        unfold fX12_nextDrip_b53
        rw [bnd_t u1]
      by_cases hq : 60 < nI (k + 1) + 1
      · rw [if_pos hq]
        exact hend
      · rw [if_neg hq]
        unfold fX12_nextDrip_b19
        rw [if_neg hne]
        exact hend
    · obtain ⟨S4, u1, u2, u3⟩ := ih (k + 1) f (sU S 99 37 (nI (h + k) + 1)) (by omega) (by omega) (s.up rfl) (by rw [sU_s, nI_1]; rfl)
      refine ⟨S4, ?_, u2, u3⟩
      rw [hst, Bool.not_eq_true _ |>.mp hb]
      show fX12_nextDrip_b37 1000 (fX12_nextDrip_h13 1000 f) (nI k0) (-1) (nI (k + 1)) S = some (if bt (bX n0 w SX (h + k)) (nI k0) = true then nI (k + 1) else ndR _ m (k + 1), S4)
      rw [if_neg hb]
      unfold fX12_nextDrip_b37
      dsimp only [lt]
      rw [hh, nI_1 (k + 1)]
      exact u1
end

/-! part 40.agrotto -/
section
/-! grotto -/
theorem st_grotto : Lw_grotto JJ := by
  intro SX SM x1 x2 hJ
  have hJ1 := hJ.same xSame.rf (code_same SM 0)
  have c0 := code_at SM 0
  obtain ⟨S1, hS1⟩ : ∃ z, z = sU SM 99 4 0 := ⟨_, rfl⟩
  rw [← hS1] at hJ1 c0
  obtain ⟨n0, n1, w, h, hT, hN, D⟩ := hJ1.dr
  obtain ⟨a1, a2, a3⟩ := D.1
  obtain ⟨-, ⟨b1, b2, b3⟩, -, -, hg, -⟩ := hT
  obtain ⟨⟨-, e4, e5, -⟩, -⟩ := hN
  have e4 : SX 21 1 = S1 99 38 := e4
  have hF : ∀ M, fX12_grotto M x1 x2 SM = if iv (inb x1 n0) = 0 then fX12_grotto_b13 M S1 else fX12_grotto_b19 M x1 x2 S1 := by
    intro M
    unfold fX12_grotto fX12_grotto_b0
    dsimp only [lt]
    rw [← hS1, bnd_t (m_isGrotto a2 (by omega))]
  cases hk : inb x1 n0 with
  | false =>
    refine stp_no (t := 1) (v := 0) (w := 0) (SX' := SX) (SM' := sU S1 99 4 1) 1000 1000 (hJ1.same xSame.rf (code_same S1 1)) (by decide) (Or.inr rfl) ?_ ?_ (code_at S1 1)
    · show fX11_grotto_b0 1000 x1 x2 SX = _
      unfold fX11_grotto_b0
      rw [bnx_x (x_needGrotto a1 (by omega)) (by rw [hk]; exact one_ne), hk]
      rfl
    · show fX12_grotto 1000 x1 x2 SM = _
      rw [hF, hk]
      rfl
  | true =>
    obtain ⟨k0, hk0, rfl⟩ := inb_of hk (by omega)
    obtain ⟨⟨xd, xd1, xd2, xd3, xd4⟩, ⟨xp, xp1, xp2, xp3⟩, ⟨xc, xc1, xc2, xc3⟩, ⟨xh, xh1, xh2, xh3⟩⟩ := hg k0 hk0
    have hX : fX11_grotto 1000 (nI k0) x2 SX = if x2 = 0 then fX11_grotto_b48 1000 (nI k0) SX else if x2 = 1 then fX11_grotto_b58 1000 (nI k0) SX else if x2 = 2 then fX11_grotto_b68 1000 (nI k0) SX else if x2 = 3 then fX11_grotto_b78 1000 (nI k0) SX else if x2 = 4 then fX11_grotto_b96 1000 (nI k0) SX else if x2 = 5 then fX11_grotto_b116 1000 (nI k0) SX else if x2 = 6 then fX11_grotto_b132 1000 (nI k0) SX else fX11_grotto_b138 1000 SX := by
      unfold fX11_grotto fX11_grotto_b0
      rw [bnx_t (x_needGrotto a1 (by omega)) (by rw [hk]; rfl)]
    have hM : fX12_grotto 1000 (nI k0) x2 SM = fX12_grotto_b19 1000 (nI k0) x2 S1 := by
      rw [hF, hk]
      rfl
    have key : ∀ v, fX11_grotto 1000 (nI k0) x2 SX = some (0, v, SX) → fX12_grotto_b19 1000 (nI k0) x2 S1 = some (v, S1) → StpT JJ lcA okA (fun N => fX11_grotto N (nI k0) x2 SX) (fun M => fX12_grotto M (nI k0) x2 SM) := fun v h1 h2 => stp_ok (SX := SX) (SM := SM) 1000 1000 hJ1 rfl (Or.inl rfl) h1 (hM.trans h2) c0
    by_cases h0 : x2 = 0
    · subst h0
      refine key (nI xd) ?_ ?_
      · rw [hX]
        show fX11_grotto_b48 1000 (nI k0) SX = _
        unfold fX11_grotto_b48
        dsimp only [lt]
        rw [chk_t (inb_t (by omega) (by decide)), nI_clamp (by omega), xd3]
      · show fX12_grotto_b64 1000 (nI k0) S1 = _
        unfold fX12_grotto_b64
        rw [chk_t (inb_t (by omega) (by decide)), nI_clamp (by omega), xd4]
    by_cases h1 : x2 = 1
    · subst h1
      refine key (nI xp) ?_ ?_
      · rw [hX]
        show fX11_grotto_b58 1000 (nI k0) SX = _
        unfold fX11_grotto_b58
        dsimp only [lt]
        rw [chk_t (inb_t (by omega) (by decide)), nI_clamp (by omega), xp2]
      · show fX12_grotto_b71 1000 (nI k0) S1 = _
        unfold fX12_grotto_b71
        rw [chk_t (inb_t (by omega) (by decide)), nI_clamp (by omega), xp3]
    by_cases h2 : x2 = 2
    · subst h2
      refine key (nI xc) ?_ ?_
      · rw [hX]
        show fX11_grotto_b68 1000 (nI k0) SX = _
        unfold fX11_grotto_b68
        dsimp only [lt]
        rw [chk_t (inb_t (by omega) (by decide)), nI_clamp (by omega), xc2]
      · show fX12_grotto_b78 1000 (nI k0) S1 = _
        unfold fX12_grotto_b78
        rw [chk_t (inb_t (by omega) (by decide)), nI_clamp (by omega), xc3]
    by_cases h3 : x2 = 3
    · subst h3
      refine key (nI xh) ?_ ?_
      · rw [hX]
        show fX11_grotto_b78 1000 (nI k0) SX = _
        unfold fX11_grotto_b78
        dsimp only [lt]
        rw [chk_t (inb_t (by omega) (by decide)), nI_clamp (by omega), xh2]
        rcases (show xh = 0 ∨ xh = 1 by omega) with rfl | rfl
        · rfl
        · rfl
      · show fX12_grotto_b85 1000 (nI k0) S1 = _
        unfold fX12_grotto_b85
        rw [chk_t (inb_t (by omega) (by decide)), nI_clamp (by omega), xh3]
    by_cases h4 : x2 = 4
    · subst h4
      refine key (iv (bt (SX 21 1) (nI k0))) ?_ ?_
      · rw [hX]
        show fX11_grotto_b96 1000 (nI k0) SX = _
        unfold fX11_grotto_b96
        have hd : fX7_isDrained 1000 21 (nI k0) SX = some (iv (bt (SX 21 1) (nI k0)), SX) := by
          unfold fX7_isDrained fX7_isDrained_b0
          rw [bnd_t x_isOneOf]
          exact chk_t zb_iv
        rw [bnd_t hd]
        cases bt (SX 21 1) (nI k0) <;> rfl
      · show fX12_grotto_b92 1000 (nI k0) S1 = _
        unfold fX12_grotto_b92
        rw [shr1_iv, e4]
    by_cases h5 : x2 = 5
    · subst h5
      refine key (hoR (SX (21 + 4)) (nI k0) n1 0) ?_ ?_
      · rw [hX]
        show fX11_grotto_b116 1000 (nI k0) SX = _
        unfold fX11_grotto_b116
        dsimp only [lt]
        rw [bnd_t (x_holderOf b1 b3 (by omega))]
      · show fX12_grotto_b101 1000 (nI k0) S1 = _
        unfold fX12_grotto_b101
        rw [bnd_t (m_hirerOf b2 b3 (by omega)), hoR_eq (r := S1 35) (r' := SX (21 + 4)) n1 0 (fun i _ hi => ((e5 i (by omega)).2.2.2).symm)]
    by_cases h6 : x2 = 6
    · subst h6
      obtain ⟨S2, p1, D2, E⟩ := q_begin D c0
      obtain ⟨S4, u1, u2, u3⟩ := m_next_h (k0 := k0) D2 E 60 0 1000 S2 (by omega) (by omega) oSame.rf D2.2.2.2.2.2.1.2.2
      refine stp_ok (SX := SX) (SM := SM) (SX' := SX) (SM' := S4) (v := ndR (fun i => bt (bX n0 w SX (h + i)) (nI k0)) 60 0) 1000 1000 (hJ1.same xSame.rf u2) rfl (Or.inl rfl) ?_ ?_ u3
      · show fX11_grotto 1000 (nI k0) 6 SX = _
        rw [hX]
        show fX11_grotto_b132 1000 (nI k0) SX = _
        unfold fX11_grotto_b132
        rw [bnd_t (show fX11_nextDrip 1000 (nI k0) SX = some (ndR (fun i => bt (bX n0 w SX (h + i)) (nI k0)) 60 0, SX) from x_next_h D hk0 60 0 1000 (by omega) (by omega))]
      · show fX12_grotto 1000 (nI k0) 6 SM = _
        rw [hM]
        show fX12_grotto_b107 1000 (nI k0) S1 = _
        unfold fX12_grotto_b107
        have hq : fX12_nextDrip 1000 (nI k0) S1 = some (ndR (fun i => bt (bX n0 w SX (h + i)) (nI k0)) 60 0, S4) := by
          unfold fX12_nextDrip fX12_nextDrip_b0
          rw [bnd_t p1]
          exact u1
        rw [bnd_t hq]
    refine stp_no (t := 1) (v := 0) (w := 0) (SX' := SX) (SM' := sU S1 99 4 1) 1000 1000 (hJ1.same xSame.rf (code_same S1 1)) (by decide) (Or.inr rfl) ?_ ?_ (code_at S1 1)
    · show fX11_grotto 1000 (nI k0) x2 SX = _
      rw [hX, if_neg h0, if_neg h1, if_neg h2, if_neg h3, if_neg h4, if_neg h5, if_neg h6]
      rfl
    · show fX12_grotto 1000 (nI k0) x2 SM = _
      rw [hM]
      unfold fX12_grotto_b19
      rw [if_neg h0, if_neg h1, if_neg h2, if_neg h3, if_neg h4, if_neg h5, if_neg h6]
      rfl
end

/-! part 41.arule -/
section
/-! RULES: a pure picture of their worth -/
noncomputable def opS (v : Nat) (a b : Int32) : Int32 :=
  if v = 10011 then (if a = 0 then (if b = 0 then 0 else 1) else 1) else if v = 10012 then (if a = 0 then 0 else if b = 0 then 0 else 1) else if v = 10013 then (if b ≤ a then 0 else 1) else if v = 10014 then (if a = b then 1 else 0) else if v = 10015 then a + b else if v = 10016 then a - b else if v = 10017 then a * b else (if b = 0 then 0 else a / b)
theorem x_join {N v : Nat} {S : gS} {a b : Int32} (h1 : 10011 ≤ v) (h2 : v ≤ 10018) : fX4_join N (nI v) a b S = some (opS v a b, S) := by
  unfold fX4_join
  rcases (show v = 10011 ∨ v = 10012 ∨ v = 10013 ∨ v = 10014 ∨ v = 10015 ∨ v = 10016 ∨ v = 10017 ∨ v = 10018 by omega) with rfl | rfl | rfl | rfl | rfl | rfl | rfl | rfl
  · show fX4_join_b44 N a b S = some ((if a = 0 then (if b = 0 then 0 else 1) else 1), S)
    unfold fX4_join_b44 fX4_join_b48
    by_cases ha : a = 0
    · rw [if_pos ha, if_pos ha]
      by_cases hb : b = 0
      · rw [if_pos hb, if_pos hb]; rfl
      · rw [if_neg hb, if_neg hb]; rfl
    · rw [if_neg ha, if_neg ha]; rfl
  · show fX4_join_b58 N a b S = some ((if a = 0 then 0 else if b = 0 then 0 else 1), S)
    unfold fX4_join_b58 fX4_join_b62
    by_cases ha : a = 0
    · rw [if_pos ha, if_pos ha]; rfl
    · rw [if_neg ha, if_neg ha]
      by_cases hb : b = 0
      · rw [if_pos hb, if_pos hb]; rfl
      · rw [if_neg hb, if_neg hb]; rfl
  · show fX4_join_b72 N a b S = some ((if b ≤ a then 0 else 1), S)
    unfold fX4_join_b72
    by_cases ha : b ≤ a
    · rw [if_pos ha, if_pos ha]; rfl
    · rw [if_neg ha, if_neg ha]; rfl
  · show fX4_join_b83 N a b S = some ((if a = b then 1 else 0), S)
    unfold fX4_join_b83
    by_cases ha : a = b
    · rw [if_pos ha, if_pos ha]; rfl
    · rw [if_neg ha, if_neg ha]; rfl
  · rfl
  · rfl
  · rfl
  · show fX4_join_b106 N a b S = some ((if b = 0 then 0 else a / b), S)
    unfold fX4_join_b106
    by_cases hb : b = 0
    · rw [if_pos hb, if_pos hb]; rfl
    · rw [if_neg hb, if_neg hb]
      unfold fX4_join_b114
      rw [chk_t (show nz b = true from decide_eq_true hb)]
      rfl
theorem m_reckon {N v : Nat} {S : gS} {a b : Int32} (h1 : 10011 ≤ v) (h2 : v ≤ 10018) : fX12_reckon N (sgn (nI v)) a b S = some (opS v a b, S) := by
  unfold fX12_reckon
  rcases (show v = 10011 ∨ v = 10012 ∨ v = 10013 ∨ v = 10014 ∨ v = 10015 ∨ v = 10016 ∨ v = 10017 ∨ v = 10018 by omega) with rfl | rfl | rfl | rfl | rfl | rfl | rfl | rfl
  · show fX12_reckon_b104 N a b S = some ((if a = 0 then (if b = 0 then 0 else 1) else 1), S)
    unfold fX12_reckon_b104 fX12_reckon_b108
    by_cases ha : a = 0
    · rw [if_pos ha, if_pos ha]
      by_cases hb : b = 0
      · rw [if_pos hb, if_pos hb]; rfl
      · rw [if_neg hb, if_neg hb]; rfl
    · rw [if_neg ha, if_neg ha]; rfl
  · show fX12_reckon_b90 N a b S = some ((if a = 0 then 0 else if b = 0 then 0 else 1), S)
    unfold fX12_reckon_b90 fX12_reckon_b94
    by_cases ha : a = 0
    · rw [if_pos ha, if_pos ha]; rfl
    · rw [if_neg ha, if_neg ha]
      by_cases hb : b = 0
      · rw [if_pos hb, if_pos hb]; rfl
      · rw [if_neg hb, if_neg hb]; rfl
  · show fX12_reckon_b68 N a b S = some ((if b ≤ a then 0 else 1), S)
    unfold fX12_reckon_b68
    by_cases ha : b ≤ a
    · rw [if_pos ha, if_pos ha]; rfl
    · rw [if_neg ha, if_neg ha]; rfl
  · show fX12_reckon_b79 N a b S = some ((if a = b then 1 else 0), S)
    unfold fX12_reckon_b79
    by_cases ha : a = b
    · rw [if_pos ha, if_pos ha]; rfl
    · rw [if_neg ha, if_neg ha]; rfl
  · rfl
  · rfl
  · rfl
  · show fX12_reckon_b56 N a b S = some ((if b = 0 then 0 else a / b), S)
    unfold fX12_reckon_b56
    by_cases hb : b = 0
    · rw [if_pos hb, if_pos hb]; rfl
    · rw [if_neg hb, if_neg hb]
      unfold fX12_reckon_b64
      rw [chk_t (show nz b = true from decide_eq_true hb)]
      rfl
/-! the row of what is held, code by code -/
noncomputable def rStep (c : Nat → Int32) (a : Nat → Int32) (d : Nat) (row : Nat → Int32) (i : Nat) : Nat → Int32 :=
  if c i < 10010 then upd row d (if c i ≤ 9999 then c i else a ((c i).toNatClampNeg - 10000)) else if c i = 10010 then upd row (d - 1) (if row (d - 1) = 0 then 1 else 0) else upd row (d - 2) (opS (c i).toNatClampNeg (row (d - 2)) (row (d - 1)))
noncomputable def rRow (c : Nat → Int32) (a : Nat → Int32) (row : Nat → Int32) : Nat → Nat → Int32
  | 0 => row
  | i + 1 => rStep c a (rDep c i) (rRow c a row i) i
/-- the rows of two sides agree as far as they are held -/
theorem rRow_eq {c a : Nat → Int32} {r r' : Nat → Int32} {n : Nat} (ok : ∀ i, i < n → ((0 ≤ c i ∧ c i ≤ 10006) ∧ rDep c i < 31) ∨ (c i = 10010 ∧ 1 ≤ rDep c i) ∨ ((10011 ≤ c i ∧ c i ≤ 10018) ∧ 2 ≤ rDep c i)) : ∀ i, i ≤ n → ∀ j, j < rDep c i → rRow c a r i j = rRow c a r' i j := by
  intro i
  induction i with
  | zero => intro _ j hj; exact absurd hj (Nat.not_lt_zero _)
  | succ i ih =>
    intro hi j hj
    have IH := ih (by omega)
    show rStep c a (rDep c i) (rRow c a r i) i j = rStep c a (rDep c i) (rRow c a r' i) i j
    have hj : j < (if c i < 10010 then rDep c i + 1 else if c i = 10010 then rDep c i else rDep c i - 1) := hj
    unfold rStep
    rcases ok i (by omega) with ⟨⟨h1, h2⟩, h3⟩ | ⟨h1, h2⟩ | ⟨⟨h1, h2⟩, h3⟩
    · have hl : c i < 10010 := by
        rw [Int32.lt_iff_toInt_lt]
        rw [Int32.le_iff_toInt_le] at h2
        have e1 : (10006 : Int32).toInt = 10006 := rfl
        have e2 : (10010 : Int32).toInt = 10010 := rfl
        omega
      rw [if_pos hl] at hj ⊢
      rw [if_pos hl]
      unfold upd
      by_cases hd : j = rDep c i
      · rw [if_pos hd, if_pos hd]
      · rw [if_neg hd, if_neg hd]
        exact IH j (by omega)
    · have hl : ¬ c i < 10010 := by rw [h1]; decide
      rw [if_neg hl, if_pos h1] at hj ⊢
      rw [if_neg hl, if_pos h1]
      unfold upd
      by_cases hd : j = rDep c i - 1
      · rw [if_pos hd, if_pos hd, IH (rDep c i - 1) (by omega)]
      · rw [if_neg hd, if_neg hd]
        exact IH j (by omega)
    · have e1 : (10011 : Int32).toInt = 10011 := rfl
      have e2 : (10010 : Int32).toInt = 10010 := rfl
      have hl : ¬ c i < 10010 := by
        rw [Int32.lt_iff_toInt_lt]
        rw [Int32.le_iff_toInt_le] at h1
        omega
      have hn : ¬ c i = 10010 := fun q => by
        rw [q] at h1
        exact absurd h1 (by decide)
      rw [if_neg hl, if_neg hn] at hj ⊢
      rw [if_neg hl, if_neg hn]
      unfold upd
      by_cases hd : j = rDep c i - 2
      · rw [if_pos hd, if_pos hd, IH (rDep c i - 2) (by omega), IH (rDep c i - 1) (by omega)]
      · rw [if_neg hd, if_neg hd]
        exact IH j (by omega)
theorem rDep_lt {c : Nat → Int32} {n : Nat} (ok : ∀ i, i < n → ((0 ≤ c i ∧ c i ≤ 10006) ∧ rDep c i < 31) ∨ (c i = 10010 ∧ 1 ≤ rDep c i) ∨ ((10011 ≤ c i ∧ c i ≤ 10018) ∧ 2 ≤ rDep c i)) : ∀ i, i ≤ n → rDep c i ≤ 31 := by
  intro i
  induction i with
  | zero => intro _; exact Nat.zero_le _
  | succ i ih =>
    intro hi
    have IH := ih (by omega)
    show (if c i < 10010 then rDep c i + 1 else if c i = 10010 then rDep c i else rDep c i - 1) ≤ 31
    rcases ok i (by omega) with ⟨⟨h1, h2⟩, h3⟩ | ⟨h1, h2⟩ | ⟨⟨h1, h2⟩, h3⟩
    · by_cases hl : c i < 10010
      · rw [if_pos hl]
        omega
      · rw [if_neg hl]
        by_cases hn : c i = 10010
        · rw [if_pos hn]; omega
        · rw [if_neg hn]; omega
    · rw [if_neg (by rw [h1]; decide), if_pos h1]
      exact IH
    · by_cases hl : c i < 10010
      · exfalso
        have e1 : (10011 : Int32).toInt = 10011 := rfl
        have e2 : (10010 : Int32).toInt = 10010 := rfl
        rw [Int32.lt_iff_toInt_lt] at hl
        rw [Int32.le_iff_toInt_le] at h1
        omega
      · rw [if_neg hl]
        by_cases hn : c i = 10010
        · rw [if_pos hn]; omega
        · rw [if_neg hn]; omega
/-- a node's row put anew -/
noncomputable def sN (S : gS) (a : Nat) (r : Nat → Int32) : gS := fun i => if i = a then r else S i
theorem sN_up (S : gS) (a b : Nat) (r : Nat → Int32) (x : Int32) : sU (sN S a r) a b x = sN S a (upd r b x) := by
  funext i
  unfold sU sN
  by_cases h : i = a
  · subst h
    rw [if_pos rfl, if_pos rfl]
    simp
  · rw [if_neg h, if_neg h, if_neg h]
theorem sN_self (S : gS) (a : Nat) : sN S a (S a) = S := by
  funext i
  unfold sN
  by_cases h : i = a
  · rw [if_pos h, h]
  · rw [if_neg h]
theorem sN_s {S : gS} {a : Nat} {r : Nat → Int32} : sN S a r a = r := if_pos rfl
theorem sN_n {S : gS} {a i : Nat} {r : Nat → Int32} (h : i ≠ a) : sN S a r i = S i := if_neg h
end

/-! part 42.arules -/
section
/-! a rule's worth on both sides -/
noncomputable def env (Z : Nat → Nat → Int32) (k : Nat) (si pu we ho gr : Int32) : Nat → Int32 := fun i => if i = 0 then si else if i = 1 then pu else if i = 2 then Z 1 k else if i = 3 then Z 3 k else if i = 4 then we else if i = 5 then ho else gr
noncomputable def rV (c : Nat → Int32) (n : Nat) (a : Nat → Int32) : Int32 := rRow c a (fun _ => 0) n 0
theorem x_valueOf {N T k i : Nat} {S : gS} (hk : k < 8) (h4 : S 51 4 = nI k) (hi : i ≤ 6) : fX10_valueOf N T (nI (10000 + i)) S = some (env (fun a => S (T + a)) k (S 51 1) (S 51 2) (S 51 6) (S 51 5) (S 51 0) i, S) := by
  unfold fX10_valueOf fX10_valueOf_b0
  rw [h4, if_neg (nI_pos (by omega))]
  unfold fX10_valueOf_b7
  rw [h4, if_neg (show ¬ (8 : Int32) ≤ nI k from nI_ge (b := 8) hk (by decide))]
  unfold fX10_valueOf_b16 fX10_valueOf_b21
  rcases (show i = 0 ∨ i = 1 ∨ i = 2 ∨ i = 3 ∨ i = 4 ∨ i = 5 ∨ i = 6 by omega) with rfl | rfl | rfl | rfl | rfl | rfl | rfl
  · rfl
  · rfl
  · show fX10_valueOf_b74 N T S = _
    unfold fX10_valueOf_b74
    rw [h4, chk_t (inb_t hk (by decide)), nI_clamp (by omega)]
    rfl
  · show fX10_valueOf_b92 N T S = _
    unfold fX10_valueOf_b92
    rw [h4, chk_t (inb_t hk (by decide)), nI_clamp (by omega)]
    rfl
  · rfl
  · rfl
  · rfl
theorem i32_nat {x : Int32} {m : Nat} (hm : m < 2 ^ 31) (h0 : 0 ≤ x) (h1 : x ≤ nI m) : ∃ v : Nat, v ≤ m ∧ x = nI v := nI_of2 (nI_toInt hm) (Int32.not_lt.mpr h0) h1
theorem i32_nat2 {x : Int32} {l m : Nat} (hl : l < 2 ^ 31) (hm : m < 2 ^ 31) (h0 : nI l ≤ x) (h1 : x ≤ nI m) : ∃ v : Nat, l ≤ v ∧ v ≤ m ∧ x = nI v := by
  obtain ⟨v, hv, rfl⟩ := i32_nat hm (Int32.le_trans (nI_pos' hl) h0) h1
  exact ⟨v, (nI_leI hl (by omega)).mp h0, hv, rfl⟩
section
variable {c a r : Nat → Int32} {i v : Nat}
theorem rD1 (h : c i = nI v) (hv : v < 10010) : rDep c (i + 1) = rDep c i + 1 := by
  show (if c i < 10010 then rDep c i + 1 else _) = _
  rw [h, if_pos (show nI v < 10010 from nI_lt (b := 10010) hv (by decide))]
theorem rD2 (h : c i = 10010) : rDep c (i + 1) = rDep c i := by
  show (if c i < 10010 then rDep c i + 1 else if c i = 10010 then rDep c i else rDep c i - 1) = _
  rw [h, if_neg (by decide), if_pos rfl]
theorem rD3 (h : c i = nI v) (h1 : 10011 ≤ v) (h2 : v ≤ 10018) : rDep c (i + 1) = rDep c i - 1 := by
  show (if c i < 10010 then rDep c i + 1 else if c i = 10010 then rDep c i else rDep c i - 1) = _
  rw [h, if_neg (show ¬ nI v < 10010 from nI_nlt (b := 10010) (by omega) (by omega)), if_neg (fun q => by have := (nI_eq (b := 10010) (by omega) (by omega)).mp q; omega)]
theorem rR1 (h : c i = nI v) (hv : v ≤ 9999) : rRow c a r (i + 1) = upd (rRow c a r i) (rDep c i) (nI v) := by
  show rStep c a (rDep c i) (rRow c a r i) i = _
  unfold rStep
  rw [h, if_pos (show nI v < 10010 from nI_lt (b := 10010) (by omega) (by decide)), if_pos (show nI v ≤ 9999 from nI_le (b := 9999) hv (by decide))]
theorem rR1b (h : c i = nI (10000 + v)) (hv : v ≤ 6) : rRow c a r (i + 1) = upd (rRow c a r i) (rDep c i) (a v) := by
  show rStep c a (rDep c i) (rRow c a r i) i = _
  unfold rStep
  rw [h, if_pos (show nI (10000 + v) < 10010 from nI_lt (b := 10010) (by omega) (by decide)), if_neg (show ¬ nI (10000 + v) ≤ 9999 from nI_ge (a := 9999) (by omega) (by omega)), nI_clamp (by omega), show 10000 + v - 10000 = v by omega]
theorem rR2 (h : c i = 10010) : rRow c a r (i + 1) = upd (rRow c a r i) (rDep c i - 1) (if rRow c a r i (rDep c i - 1) = 0 then 1 else 0) := by
  show rStep c a (rDep c i) (rRow c a r i) i = _
  unfold rStep
  rw [h, if_neg (by decide), if_pos rfl]
theorem rR3 (h : c i = nI v) (h1 : 10011 ≤ v) (h2 : v ≤ 10018) : rRow c a r (i + 1) = upd (rRow c a r i) (rDep c i - 2) (opS v (rRow c a r i (rDep c i - 2)) (rRow c a r i (rDep c i - 1))) := by
  show rStep c a (rDep c i) (rRow c a r i) i = _
  unfold rStep
  rw [h, if_neg (show ¬ nI v < 10010 from nI_nlt (b := 10010) (by omega) (by omega)), if_neg (fun q => by have := (nI_eq (b := 10010) (by omega) (by omega)).mp q; omega), nI_clamp (by omega)]
end
/-- what a code is, by numbers -/
theorem rCase {c : Nat → Int32} {n i : Nat} (ok : rOK c n) (hi : i < n) : (∃ v : Nat, v ≤ 9999 ∧ c i = nI v ∧ rDep c i < 31) ∨ (∃ v : Nat, v ≤ 6 ∧ c i = nI (10000 + v) ∧ rDep c i < 31) ∨ (c i = 10010 ∧ 1 ≤ rDep c i ∧ rDep c i ≤ 31) ∨ ∃ v : Nat, 10011 ≤ v ∧ v ≤ 10018 ∧ c i = nI v ∧ 2 ≤ rDep c i ∧ rDep c i ≤ 31 := by
  have hd := rDep_lt ok.1 i (by omega)
  rcases ok.1 i hi with ⟨⟨h1, h2⟩, h3⟩ | ⟨h1, h2⟩ | ⟨⟨h1, h2⟩, h3⟩
  · obtain ⟨v, hv, e⟩ := i32_nat (m := 10006) (by decide) h1 h2
    by_cases h9 : v ≤ 9999
    · exact Or.inl ⟨v, h9, e, h3⟩
    · exact Or.inr (Or.inl ⟨v - 10000, by omega, by rw [show 10000 + (v - 10000) = v by omega]; exact e, h3⟩)
  · exact Or.inr (Or.inr (Or.inl ⟨h1, h2, hd⟩))
  · obtain ⟨v, hv, hv2, e⟩ := i32_nat2 (l := 10011) (m := 10018) (by decide) (by decide) h1 h2
    exact Or.inr (Or.inr (Or.inr ⟨v, hv, hv2, e, h3, hd⟩))
theorem nI_m1 {d : Nat} (h : 1 ≤ d) : nI d - 1 = nI (d - 1) := by
  rw [show d = (d - 1) + 1 by omega, nI_pred]
  rfl
theorem nI_p1 {d : Nat} (h : 1 ≤ d) : nI d + (-1) = nI (d - 1) := by
  rw [show d = (d - 1) + 1 by omega, pk_m1]
  rfl
theorem x_worth_h {N T k0 n k : Nat} {S : gS} {a r : Nat → Int32} (hk : k < 8) (h4 : S 51 4 = nI k) (n1 : 51 ≠ k0 + 2) (n2 : T + 1 ≠ k0 + 2) (n3 : T + 3 ≠ k0 + 2) (hx : xN (k0 + 2) = 31) (hn : S k0 3 = nI n) (h7 : n ≤ 700) (ok : rOK (S (k0 + 1)) n) (ha : a = env (fun a => S (T + a)) k (S 51 1) (S 51 2) (S 51 6) (S 51 5) (S 51 0)) : ∀ (m i fuel : Nat), i + m = n → m < fuel →
    fX4_worth_h5 N fuel k0 T (nI (rDep (S (k0 + 1)) i)) (nI i) (sN S (k0 + 2) (rRow (S (k0 + 1)) a r i)) = some (if rDep (S (k0 + 1)) n = 0 then 0 else rRow (S (k0 + 1)) a r n 0, sN S (k0 + 2) (rRow (S (k0 + 1)) a r n)) := by
  intro m
  induction m with
  | zero =>
    intro i fuel h1 h2
    obtain ⟨f, rfl⟩ : ∃ f, fuel = f + 1 := ⟨fuel - 1, by omega⟩
    have : i = n := by omega
    subst this
    show fX4_worth_b5 N _ k0 T _ (nI i) _ = _
    unfold fX4_worth_b5
    rw [sN_n (show k0 ≠ k0 + 2 by omega), hn, if_pos (nI_le (Nat.le_refl _) (by omega))]
    unfold fX4_worth_b161
    have hd := rDep_lt ok.1 i (Nat.le_refl _)
    by_cases h0 : rDep (S (k0 + 1)) i = 0
    · rw [h0, if_pos rfl]
      rfl
    · rw [if_neg (nI_ne0 (by omega) (by omega)), if_neg h0]
      unfold fX4_worth_b169
      rw [sN_s]
      rfl
  | succ m ih =>
    intro i fuel h1 h2
    obtain ⟨f, rfl⟩ : ∃ f, fuel = f + 1 := ⟨fuel - 1, by omega⟩
    have IH := ih (i + 1) f (by omega) (by omega)
    show fX4_worth_b5 N (fX4_worth_h5 N f) k0 T _ (nI i) _ = _
    unfold fX4_worth_b5
    rw [sN_n (show k0 ≠ k0 + 2 by omega), hn, if_neg (nI_ge (by omega) (by omega))]
    unfold fX4_worth_b14
    rw [sN_n (show k0 + 1 ≠ k0 + 2 by omega), chk_t (inb_t (by omega) (by decide)), nI_clamp (by omega)]
    rcases rCase ok (show i < n by omega) with ⟨v, v1, e, d1⟩ | ⟨v, v1, e, d1⟩ | ⟨e, d1, d2⟩ | ⟨v, v1, v2, e, d1, d2⟩
    · rw [rD1 e (by omega), rR1 e v1] at IH
      rw [e, if_neg (show ¬ (10010 : Int32) ≤ nI v from nI_ge (b := 10010) (by omega) (by decide))]
      unfold fX4_worth_b31
      rw [if_neg (show ¬ (31 : Int32) ≤ nI (rDep (S (k0 + 1)) i) from nI_ge (b := 31) d1 (by decide))]
      unfold fX4_worth_b40
      rw [if_neg (show ¬ (9999 : Int32) < nI v from nI_nlt (a := 9999) v1 (by decide))]
      unfold fX4_worth_b53 fX4_worth_b65
      rw [hx, chk_t (inb_t (by omega) (by decide)), nI_clamp (by omega)]
      dsimp only [lt]
      unfold fX4_worth_b155
      rw [sN_up, nI_1, nI_1]
      exact IH
    · rw [rD1 e (by omega), rR1b e v1] at IH
      rw [e, if_neg (show ¬ (10010 : Int32) ≤ nI (10000 + v) from nI_ge (b := 10010) (by omega) (by decide))]
      unfold fX4_worth_b31
      rw [if_neg (show ¬ (31 : Int32) ≤ nI (rDep (S (k0 + 1)) i) from nI_ge (b := 31) d1 (by decide))]
      unfold fX4_worth_b40
      rw [if_pos (show (9999 : Int32) < nI (10000 + v) from nI_lt (a := 9999) (by omega) (by omega))]
      unfold fX4_worth_b58
      rw [bnd_t (x_valueOf (T := T) hk (by rw [sN_n n1]; exact h4) v1)]
      unfold fX4_worth_b65
      rw [hx, chk_t (inb_t (by omega) (by decide)), nI_clamp (by omega)]
      dsimp only [lt]
      unfold fX4_worth_b155
      rw [sN_up, nI_1, nI_1, sN_n n1]
      have e9 : env (fun a_1 => sN S (k0 + 2) (rRow (S (k0 + 1)) a r i) (T + a_1)) k (S 51 1) (S 51 2) (S 51 6) (S 51 5) (S 51 0) v = a v := by
        rw [ha]
        unfold env
        dsimp only
        rw [sN_n n2, sN_n n3]
      rw [e9]
      exact IH
    · rw [rD2 e, rR2 e] at IH
      rw [e, if_pos (by decide)]
      unfold fX4_worth_b72
      rw [if_pos rfl]
      unfold fX4_worth_b80
      rw [if_neg (show ¬ nI (rDep (S (k0 + 1)) i) < 1 from nI_nlt (b := 1) d1 (by omega))]
      unfold fX4_worth_b85
      rw [nI_m1 d1, chk_t (inb_t (by omega) (by decide)), nI_clamp (by omega), sN_s]
      by_cases h0 : rRow (S (k0 + 1)) a r i (rDep (S (k0 + 1)) i - 1) = 0
      · rw [if_pos h0] at IH ⊢
        unfold fX4_worth_b103 fX4_worth_b108
        rw [hx, chk_t (inb_t (by omega) (by decide)), nI_clamp (by omega)]
        dsimp only [lt]
        unfold fX4_worth_b155
        rw [sN_up, nI_1]
        exact IH
      · rw [if_neg h0] at IH ⊢
        unfold fX4_worth_b107 fX4_worth_b108
        rw [hx, chk_t (inb_t (by omega) (by decide)), nI_clamp (by omega)]
        dsimp only [lt]
        unfold fX4_worth_b155
        rw [sN_up, nI_1]
        exact IH
    · rw [rD3 e v1 v2, rR3 e v1 v2] at IH
      rw [e, if_pos (show (10010 : Int32) ≤ nI v from nI_le (a := 10010) (by omega) (by omega))]
      unfold fX4_worth_b72
      rw [if_neg (fun q => by have := (nI_eq (b := 10010) (by omega) (by omega)).mp q; omega)]
      unfold fX4_worth_b112
      rw [if_neg (show ¬ nI v ≤ 10010 from nI_ge (a := 10010) (by omega) (by omega))]
      unfold fX4_worth_b120
      rw [if_neg (show ¬ nI (rDep (S (k0 + 1)) i) < 2 from nI_nlt (b := 2) d1 (by omega))]
      unfold fX4_worth_b125
      rw [nI_p1 (by omega), nI_m1 (by omega), chk_t (inb_t (by omega) (by decide)), chk_t (inb_t (by omega) (by decide)), nI_clamp (by omega), nI_clamp (by omega), sN_s, bnd_t (x_join v1 v2), chk_t (inb_t (by omega) (by decide))]
      dsimp only [lt]
      unfold fX4_worth_b155
      rw [sN_up, nI_1, show rDep (S (k0 + 1)) i - 1 - 1 = rDep (S (k0 + 1)) i - 2 by omega]
      exact IH
theorem rV_any {c a r : Nat → Int32} {n : Nat} (ok : rOK c n) (h0 : n ≠ 0) : rDep c n ≠ 0 ∧ rRow c a r n 0 = rV c n a := by
  have h1 : 1 ≤ rDep c n := by
    rcases ok.2 with h | h
    · exact absurd h h0
    · exact h
  exact ⟨by omega, rRow_eq ok.1 n (Nat.le_refl _) 0 (by omega)⟩
theorem x_worth {N T k0 n k : Nat} {S : gS} (hk : k < 8) (h4 : S 51 4 = nI k) (n1 : 51 ≠ k0 + 2) (n2 : T + 1 ≠ k0 + 2) (n3 : T + 3 ≠ k0 + 2) (hx : xN (k0 + 2) = 31) (hn : S k0 3 = nI n) (h7 : n ≤ 700) (h0 : n ≠ 0) (ok : rOK (S (k0 + 1)) n) (hN : 700 < N) : ∃ r, fX4_worth N k0 T S = some (rV (S (k0 + 1)) n (env (fun a => S (T + a)) k (S 51 1) (S 51 2) (S 51 6) (S 51 5) (S 51 0)), sN S (k0 + 2) r) := by
  have h := x_worth_h (N := N) (r := S (k0 + 2)) hk h4 n1 n2 n3 hx hn h7 ok rfl n 0 N (by omega) (by omega)
  have e0 : sN S (k0 + 2) (rRow (S (k0 + 1)) (env (fun a => S (T + a)) k (S 51 1) (S 51 2) (S 51 6) (S 51 5) (S 51 0)) (S (k0 + 2)) 0) = S := sN_self S (k0 + 2)
  rw [e0] at h
  obtain ⟨q1, q2⟩ := rV_any (a := env (fun a => S (T + a)) k (S 51 1) (S 51 2) (S 51 6) (S 51 5) (S 51 0)) (r := S (k0 + 2)) ok h0
  rw [if_neg q1, q2] at h
  exact ⟨_, h⟩
theorem sgn_n {v : Nat} (hv : v ≤ 9999) : sgn (nI v) = nI v := by
  unfold sgn
  rw [if_pos (show nI v ≤ 9999 from nI_le (b := 9999) hv (by decide))]
theorem m_value_h {N nd n : Nat} {S : gS} {c r : Nat → Int32} (n1 : nd ≠ 43) (hx : mN nd = 1400) (h7 : n ≤ 700) (ok : rOK c n) (hc : ∀ i, i < n → S nd i = sgn (c i)) : ∀ (m i fuel : Nat), i + m = n → m < fuel →
    fX12_valueNow_h5 N fuel nd (nI n) (nI (rDep c i)) (nI i) (sN S 43 (rRow c (S 42) r i)) = some (rRow c (S 42) r n 0, sN S 43 (rRow c (S 42) r n)) := by
  intro m
  induction m with
  | zero =>
    intro i fuel h1 h2
    obtain ⟨f, rfl⟩ : ∃ f, fuel = f + 1 := ⟨fuel - 1, by omega⟩
    have : i = n := by omega
    subst this
    show fX12_valueNow_b5 N _ nd _ _ (nI i) _ = _
    unfold fX12_valueNow_b5
    rw [if_pos (nI_le (Nat.le_refl _) (by omega))]
    unfold fX12_valueNow_b125
    rw [sN_s]
  | succ m ih =>
    intro i fuel h1 h2
    obtain ⟨f, rfl⟩ : ∃ f, fuel = f + 1 := ⟨fuel - 1, by omega⟩
    have IH := ih (i + 1) f (by omega) (by omega)
    show fX12_valueNow_b5 N (fX12_valueNow_h5 N f) nd _ _ (nI i) _ = _
    unfold fX12_valueNow_b5
    rw [if_neg (nI_ge (by omega) (by omega))]
    unfold fX12_valueNow_b11
    rw [sN_n n1, hx, chk_t (inb_t (by omega) (by decide)), nI_clamp (by omega), hc i (by omega)]
    rcases rCase ok (show i < n by omega) with ⟨v, v1, e, d1⟩ | ⟨v, v1, e, d1⟩ | ⟨e, d1, d2⟩ | ⟨v, v1, v2, e, d1, d2⟩
    · rw [rD1 e (by omega), rR1 e v1] at IH
      rw [e, sgn_n v1, if_neg (show ¬ nI v ≤ -20 from fun q => by
        rw [Int32.le_iff_toInt_le, nI_toInt (by omega)] at q
        have e0 : (-20 : Int32).toInt = -20 := rfl
        omega)]
      unfold fX12_valueNow_b24
      rw [if_neg (nI_pos (by omega))]
      unfold fX12_valueNow_b34 fX12_valueNow_b48
      rw [chk_t (inb_t (by omega) (by decide)), nI_clamp (by omega)]
      dsimp only [lt]
      unfold fX12_valueNow_b119
      rw [sN_up, nI_1, nI_1]
      exact IH
    · rw [rD1 e (by omega), rR1b e v1] at IH
      rw [e]
      have hs : ¬ sgn (nI (10000 + v)) ≤ -20 ∧ sgn (nI (10000 + v)) < 0 ∧ (-1 : Int32) - sgn (nI (10000 + v)) = nI v := by
        rcases (show v = 0 ∨ v = 1 ∨ v = 2 ∨ v = 3 ∨ v = 4 ∨ v = 5 ∨ v = 6 by omega) with rfl | rfl | rfl | rfl | rfl | rfl | rfl <;> decide +kernel
      rw [if_neg hs.1]
      unfold fX12_valueNow_b24
      rw [if_pos hs.2.1]
      unfold fX12_valueNow_b39
      rw [hs.2.2, chk_t (inb_t (by omega) (by decide)), nI_clamp (n := v) (by omega), sN_n (show 42 ≠ 43 by decide)]
      unfold fX12_valueNow_b48
      rw [chk_t (inb_t (by omega) (by decide)), nI_clamp (by omega)]
      dsimp only [lt]
      unfold fX12_valueNow_b119
      rw [sN_up, nI_1, nI_1]
      exact IH
    · rw [rD2 e, rR2 e] at IH
      rw [e, show sgn 10010 = -28 from rfl, if_pos (by decide)]
      unfold fX12_valueNow_b55
      rw [if_pos rfl]
      unfold fX12_valueNow_b62
      rw [nI_m1 d1, chk_t (inb_t (by omega) (by decide)), nI_clamp (by omega), sN_s]
      by_cases h0 : rRow c (S 42) r i (rDep c i - 1) = 0
      · rw [if_pos h0] at IH ⊢
        unfold fX12_valueNow_b84 fX12_valueNow_b85
        rw [chk_t (inb_t (by omega) (by decide)), nI_clamp (by omega)]
        dsimp only [lt]
        unfold fX12_valueNow_b119
        rw [sN_up, nI_1]
        exact IH
      · rw [if_neg h0] at IH ⊢
        unfold fX12_valueNow_b80 fX12_valueNow_b85
        rw [chk_t (inb_t (by omega) (by decide)), nI_clamp (by omega)]
        dsimp only [lt]
        unfold fX12_valueNow_b119
        rw [sN_up, nI_1]
        exact IH
    · rw [rD3 e v1 v2, rR3 e v1 v2] at IH
      rw [e]
      have hs : sgn (nI v) ≤ -20 ∧ ¬ sgn (nI v) = -28 := by
        rcases (show v = 10011 ∨ v = 10012 ∨ v = 10013 ∨ v = 10014 ∨ v = 10015 ∨ v = 10016 ∨ v = 10017 ∨ v = 10018 by omega) with rfl | rfl | rfl | rfl | rfl | rfl | rfl | rfl <;> decide +kernel
      rw [if_pos hs.1]
      unfold fX12_valueNow_b55
      rw [if_neg hs.2]
      unfold fX12_valueNow_b89
      rw [nI_p1 (by omega), nI_m1 (by omega), chk_t (inb_t (by omega) (by decide)), chk_t (inb_t (by omega) (by decide)), nI_clamp (by omega), nI_clamp (by omega), sN_s, bnd_t (m_reckon v1 v2), chk_t (inb_t (by omega) (by decide))]
      dsimp only [lt]
      unfold fX12_valueNow_b119
      rw [sN_up, nI_1, show rDep c i - 1 - 1 = rDep c i - 2 by omega]
      exact IH
theorem m_valueNow {N nd n : Nat} {S : gS} {c : Nat → Int32} (n1 : nd ≠ 43) (hx : mN nd = 1400) (h7 : n ≤ 700) (h0 : n ≠ 0) (ok : rOK c n) (hc : ∀ i, i < n → S nd i = sgn (c i)) (hN : 700 < N) : ∃ r, fX12_valueNow N nd (nI n) S = some (rV c n (S 42), sN S 43 r) := by
  have h := m_value_h (N := N) (r := S 43) n1 hx h7 ok hc n 0 N (by omega) (by omega)
  have e0 : sN S 43 (rRow c (S 42) (S 43) 0) = S := sN_self S 43
  rw [e0] at h
  rw [(rV_any (a := S 42) (r := S 43) ok h0).2] at h
  exact ⟨_, h⟩
theorem rV_env {c : Nat → Int32} {n : Nat} {a a' : Nat → Int32} (ok : rOK c n) (h : ∀ i, i ≤ 6 → (∃ j, j < n ∧ c j = nI (10000 + i)) → a i = a' i) : rV c n a = rV c n a' := by
  have H : ∀ i, i ≤ n → rRow c a (fun _ => 0) i = rRow c a' (fun _ => 0) i := by
    intro i
    induction i with
    | zero => intro _; rfl
    | succ i ih =>
      intro hi
      have IH := ih (by omega)
      rcases rCase ok (show i < n by omega) with ⟨v, v1, e, d1⟩ | ⟨v, v1, e, d1⟩ | ⟨e, d1, d2⟩ | ⟨v, v1, v2, e, d1, d2⟩
      · rw [rR1 e v1, rR1 e v1, IH]
      · rw [rR1b e v1, rR1b e v1, IH, h v v1 ⟨i, by omega, e⟩]
      · rw [rR2 e, rR2 e, IH]
      · rw [rR3 e v1 v2, rR3 e v1 v2, IH]
  unfold rV
  rw [H n (Nat.le_refl _)]
theorem rV_env2 {c : Nat → Int32} {n : Nat} {a a' : Nat → Int32} (ok : rOK c n) (h : ∀ i, i ≤ 6 → a i = a' i) : rV c n a = rV c n a' := rV_env ok (fun i hi _ => h i hi)
end

/-! part 43.ahour -/
section
/-! AN HOUR: a pure picture, and both sides -/
def Gv {α : Type} (x : Option α) (P : α → Prop) : Prop := ∃ a, x = some a ∧ P a
theorem Gv.b {α β : Type} {x : Option α} {f : α → Option β} {P : β → Prop} (h : Gv x (fun a => Gv (f a) P)) : Gv (bnd x f) P := by
  obtain ⟨a, rfl, h2⟩ := h
  exact h2
theorem Gv.m {α : Type} {x : Option α} {P Q : α → Prop} (h : Gv x P) (k : ∀ a, P a → Q a) : Gv x Q := by
  obtain ⟨a, h1, h2⟩ := h
  exact ⟨a, h1, k a h2⟩
theorem Gv.s {α : Type} {a : α} {P : α → Prop} (h : P a) : Gv (some a) P := ⟨a, rfl, h⟩
/-- loops that count up to n -/
theorem loopG {A R : Type} (H : Nat → Nat → A → Option R) (I : Nat → A → Prop) (Q : R → Prop) (n : Nat) (he : ∀ f a, I n a → Gv (H (f + 1) n a) Q) (hs : ∀ f k a, k < n → I k a → Gv (H (f + 1) k a) Q ∨ ∃ a', I (k + 1) a' ∧ H (f + 1) k a = H f (k + 1) a') : ∀ (m k : Nat) (a : A) (fuel : Nat), k + m = n → I k a → m < fuel → Gv (H fuel k a) Q := by
  intro m
  induction m with
  | zero =>
    intro k a fuel h1 h2 h3
    obtain ⟨f, rfl⟩ : ∃ f, fuel = f + 1 := ⟨fuel - 1, by omega⟩
    have : k = n := by omega
    subst this
    exact he f a h2
  | succ m ih =>
    intro k a fuel h1 h2 h3
    obtain ⟨f, rfl⟩ : ∃ f, fuel = f + 1 := ⟨fuel - 1, by omega⟩
    rcases hs f k a (by omega) h2 with h | ⟨a', h4, h5⟩
    · exact h
    · rw [h5]
      exact ih (k + 1) a' f (by omega) h4 (by omega)
/-! the town as a picture: Z i is the row in the class's cell T + i -/
noncomputable def tn0 (Z : gS) : Nat := (Z 0 0).toNatClampNeg
noncomputable def tn1 (Z : gS) : Nat := (Z 0 5).toNatClampNeg
noncomputable def tnw (Z : gS) : Nat := (Z 0 10).toNatClampNeg
noncomputable def tnb (Z : gS) : Nat := (Z 0 12).toNatClampNeg
noncomputable def tnp (Z : gS) : Nat := (Z 10 3).toNatClampNeg
noncomputable def tnc (Z : gS) : Nat := (Z 13 3).toNatClampNeg
def tOK (Z : gS) : Prop :=
  (Z 0 0 = nI (tn0 Z) ∧ tn0 Z ≤ 8) ∧ (Z 0 5 = nI (tn1 Z) ∧ tn1 Z ≤ 6) ∧ (Z 0 10 = nI (tnw Z) ∧ tnw Z ≤ 8 ∧ ∀ i, i < tnw Z → ∃ x : Nat, x ≤ 9 ∧ Z 9 i = nI x) ∧ (Z 0 12 = nI (tnb Z) ∧ tnb Z ≤ 99) ∧
  (∀ k, k < tn0 Z → (∃ x : Nat, 1 ≤ x ∧ x ≤ 12 ∧ Z 1 k = nI x) ∧ (∃ x : Nat, x ≤ 11 ∧ Z 2 k = nI x) ∧ (∃ x : Nat, x ≤ 20 ∧ Z 3 k = nI x) ∧ (Z 4 k = 0 ∨ Z 4 k = 1)) ∧
  (∀ g, g < tn1 Z → ∃ x : Nat, x ≤ 9 ∧ Z 5 g = nI x) ∧ (Z 10 3 = nI (tnp Z) ∧ tnp Z ≤ 700 ∧ rOK (Z 11) (tnp Z)) ∧ (Z 13 3 = nI (tnc Z) ∧ tnc Z ≤ 700 ∧ rOK (Z 14) (tnc Z))
def tXz (T : Nat) (Z S : gS) : Prop := ∀ i j, i ≤ 14 → i ≠ 12 → S (T + i) j = Z i j
def tM (Z S : gS) : Prop :=
  S 5 0 = nI (tn0 Z) ∧ S 5 1 = nI (tn1 Z) ∧ S 5 2 = bndS (tnb Z) ∧ S 5 3 = nI (tnw Z) ∧ S 5 4 = nI (tnp Z) ∧ S 5 5 = nI (tnc Z) ∧ (∀ i, i < tnw Z → S 14 i = Z 9 i) ∧
  (∀ k, k < tn0 Z → S 7 k = Z 1 k ∧ S 8 k = Z 2 k ∧ S 9 k = Z 3 k ∧ S 6 k = Z 4 k) ∧ (∀ i, i < tnp Z → S 15 i = sgn (Z 11 i)) ∧ (∀ i, i < tnc Z → S 16 i = sgn (Z 14 i))
theorem tM.on {Z S S' : gS} (h : tM Z S) (e : ∀ i j, 5 ≤ i → i ≤ 16 → S' i j = S i j) : tM Z S' := by
  obtain ⟨h1, h2, h3, h4, h5, h6, h7, h8, h9, h10⟩ := h
  refine ⟨?_, ?_, ?_, ?_, ?_, ?_, fun i hi => ?_, fun k hk => ?_, fun i hi => ?_, fun i hi => ?_⟩
  · rw [e 5 0 (by omega) (by omega)]; exact h1
  · rw [e 5 1 (by omega) (by omega)]; exact h2
  · rw [e 5 2 (by omega) (by omega)]; exact h3
  · rw [e 5 3 (by omega) (by omega)]; exact h4
  · rw [e 5 4 (by omega) (by omega)]; exact h5
  · rw [e 5 5 (by omega) (by omega)]; exact h6
  · rw [e 14 i (by omega) (by omega)]; exact h7 i hi
  · rw [e 7 k (by omega) (by omega), e 8 k (by omega) (by omega), e 9 k (by omega) (by omega), e 6 k (by omega) (by omega)]; exact h8 k hk
  · rw [e 15 i (by omega) (by omega)]; exact h9 i hi
  · rw [e 16 i (by omega) (by omega)]; exact h10 i hi
noncomputable def bdZ (Z : gS) : Int32 := bndS (tnb Z)
noncomputable def wetZ (Z : gS) (h : Nat) : Int32 := wetS (tnw Z) (Z 9) h
noncomputable def drZ (Z : gS) (k : Nat) (ho we d : Int32) : Bool := drS (Z 2 k) (Z 1 k) ho we (bt d (nI k))
noncomputable def prS (v si : Int32) : Int32 := si - (if 0 < (if v < si then v else si) then (if v < si then v else si) else 0)
noncomputable def prZ (Z : gS) (k : Nat) (si pu we ho gr : Int32) : Int32 := prS (if tnp Z = 0 then 5 else rV (Z 11) (tnp Z) (env Z k si pu we ho gr)) si
noncomputable def c50 (v : Int32) : Int32 := if 0 < (if v < 50 then v else 50) then (if v < 50 then v else 50) else 0
noncomputable def coZ (Z : gS) (k : Nat) (si pu we ho gr : Int32) : Int32 := c50 (if tnc Z = 0 then Z 3 k else rV (Z 14) (tnc Z) (env Z k si pu we ho gr))
noncomputable def hp1 (e pu : Int32) : Int32 := if pu + 3 * e < 999 then pu + 3 * e else 999
noncomputable def hs1 (e si : Int32) : Int32 := if si + e < 99 then si + e else 99
noncomputable def sl1 (l : Int32) : Int32 := if l + 1 < 999 then l + 1 else 999
/-- SIN, PURSE, SILENCES, the GROTTO -/
abbrev qT : Type := Int32 × Int32 × Int32 × Int32
noncomputable def qk (q : qT) : Nat := q.2.2.2.toNatClampNeg
noncomputable def prD (Z : gS) (k : Nat) (si pu we ho gr : Int32) : Int32 := if Z 4 k = 0 then prZ Z k si pu we ho gr else prZ Z k (prZ Z k si pu we ho gr) pu we ho gr
noncomputable def sn1 (Z : gS) (e d we ho : Int32) (q : qT) : Int32 := if q.2.2.2 = -1 then q.1 else if drZ Z (qk q) ho we d = true then prD Z (qk q) q.1 q.2.1 we ho e else q.1
noncomputable def fS (e : Int32) (q : qT) : Int32 := hs1 e q.1
noncomputable def fP (e : Int32) (q : qT) : Int32 := hp1 e q.2.1
noncomputable def fC (Z : gS) (e we ho : Int32) (q : qT) : Int32 := coZ Z (qk q) (fS e q) (fP e q) we ho e
noncomputable def fH (Z : gS) (e we ho : Int32) (q : qT) : Int32 × Int32 := if q.2.2.2 = -1 then (fP e q, -1) else if fP e q < fC Z e we ho q then (fP e q, -1) else (fP e q - fC Z e we ho q, q.2.2.2)
noncomputable def fB (Z : gS) (e : Int32) (q : qT) : Bool := decide (¬ fS e q ≤ bdZ Z)
noncomputable def hFin (Z : gS) (e we ho : Int32) (q : qT) : Bool × qT := (fB Z e q, (fS e q, (if fB Z e q = true then (fH Z e we ho q).1 / 2 else (fH Z e we ho q).1), (if fB Z e q = true then sl1 q.2.2.1 else q.2.2.1), (fH Z e we ho q).2))
noncomputable def hG (Z : gS) (e d we ho : Int32) (q : qT) : Bool × qT := hFin Z e we ho (sn1 Z e d we ho q, q.2)
def qOK (n0 : Nat) (q : qT) : Prop := (0 ≤ q.1 ∧ q.1 ≤ 99) ∧ (0 ≤ q.2.1 ∧ q.2.1 ≤ 999) ∧ (0 ≤ q.2.2.1 ∧ q.2.2.1 ≤ 999) ∧ (q.2.2.2 = -1 ∨ ∃ k : Nat, k < n0 ∧ q.2.2.2 = nI k)
theorem i32_99 {x : Int32} (h : 0 ≤ x ∧ x ≤ 99) : ∃ v : Nat, v ≤ 99 ∧ x = nI v := i32_nat (m := 99) (by decide) h.1 h.2
theorem i32_999 {x : Int32} (h : 0 ≤ x ∧ x ≤ 999) : ∃ v : Nat, v ≤ 999 ∧ x = nI v := i32_nat (m := 999) (by decide) h.1 h.2
theorem of_99 {v : Nat} (h : v ≤ 99) : 0 ≤ nI v ∧ nI v ≤ 99 := ⟨nI_pos' (by omega), nI_le (b := 99) h (by decide)⟩
theorem of_999 {v : Nat} (h : v ≤ 999) : 0 ≤ nI v ∧ nI v ≤ 999 := ⟨nI_pos' (by omega), nI_le (b := 999) h (by decide)⟩
theorem hs1_n {e x : Nat} (he : e ≤ 9) (hx : x ≤ 99) : hs1 (nI e) (nI x) = nI (min 99 (x + e)) := by
  unfold hs1
  rw [nI_add]
  by_cases h : x + e < 99
  · rw [if_pos (show nI (x + e) < 99 from nI_lt (b := 99) h (by decide)), show min 99 (x + e) = x + e by omega]
  · rw [if_neg (show ¬ nI (x + e) < 99 from nI_nlt (b := 99) (by omega) (by omega)), show min 99 (x + e) = 99 by omega]
    rfl
theorem hp1_n {e x : Nat} (he : e ≤ 9) (hx : x ≤ 999) : hp1 (nI e) (nI x) = nI (min 999 (x + 3 * e)) := by
  unfold hp1
  rw [show (3 : Int32) = nI 3 from rfl, pk_mul, nI_add]
  by_cases h : x + 3 * e < 999
  · rw [if_pos (show nI (x + 3 * e) < 999 from nI_lt (b := 999) h (by decide)), show min 999 (x + 3 * e) = x + 3 * e by omega]
  · rw [if_neg (show ¬ nI (x + 3 * e) < 999 from nI_nlt (b := 999) (by omega) (by omega)), show min 999 (x + 3 * e) = 999 by omega]
    rfl
theorem sl1_n {x : Nat} (hx : x ≤ 999) : sl1 (nI x) = nI (min 999 (x + 1)) := by
  unfold sl1
  rw [nI_1]
  by_cases h : x + 1 < 999
  · rw [if_pos (show nI (x + 1) < 999 from nI_lt (b := 999) h (by decide)), show min 999 (x + 1) = x + 1 by omega]
  · rw [if_neg (show ¬ nI (x + 1) < 999 from nI_nlt (b := 999) (by omega) (by omega)), show min 999 (x + 1) = 999 by omega]
    rfl
theorem prS_n {v : Int32} {x : Nat} (hx : x ≤ 99) : ∃ y : Nat, y ≤ x ∧ prS v (nI x) = nI y := by
  unfold prS
  have key : ∀ u : Int32, u ≤ nI x → ∃ y : Nat, y ≤ x ∧ nI x - (if 0 < u then u else 0) = nI y := by
    intro u hu
    by_cases h : 0 < u
    · obtain ⟨z, hz, rfl⟩ := i32_nat (x := u) (m := x) (by omega) (Int32.le_of_lt h) hu
      exact ⟨x - z, by omega, by rw [if_pos h, pk_sub hz]⟩
    · exact ⟨x, Nat.le_refl _, by rw [if_neg h, Int32.sub_zero]⟩
  refine key _ ?_
  by_cases h : v < nI x
  · rw [if_pos h]
    exact Int32.le_of_lt h
  · rw [if_neg h]
    exact Int32.le_refl _
theorem c50_n (v : Int32) : ∃ y : Nat, y ≤ 50 ∧ c50 v = nI y := by
  unfold c50
  have key : ∀ u : Int32, u ≤ 50 → ∃ y : Nat, y ≤ 50 ∧ (if 0 < u then u else 0) = nI y := by
    intro u hu
    by_cases h : 0 < u
    · obtain ⟨z, hz, rfl⟩ := i32_nat (x := u) (m := 50) (by decide) (Int32.le_of_lt h) hu
      exact ⟨z, hz, by rw [if_pos h]⟩
    · exact ⟨0, by omega, by rw [if_neg h]; rfl⟩
  refine key _ ?_
  by_cases h : v < 50
  · rw [if_pos h]
    exact Int32.le_of_lt h
  · rw [if_neg h]
    exact Int32.le_refl _
theorem prZ_ok {Z : gS} {k : Nat} {si pu we ho gr : Int32} (h : 0 ≤ si ∧ si ≤ 99) : 0 ≤ prZ Z k si pu we ho gr ∧ prZ Z k si pu we ho gr ≤ 99 := by
  obtain ⟨x, hx, rfl⟩ := i32_99 h
  obtain ⟨y, hy, e⟩ := prS_n (v := if tnp Z = 0 then 5 else rV (Z 11) (tnp Z) (env Z k (nI x) pu we ho gr)) hx
  unfold prZ
  rw [e]
  exact of_99 (by omega)
theorem sn1_ok {Z : gS} {e d we ho : Int32} {q : qT} (h : 0 ≤ q.1 ∧ q.1 ≤ 99) : 0 ≤ sn1 Z e d we ho q ∧ sn1 Z e d we ho q ≤ 99 := by
  unfold sn1
  by_cases h1 : q.2.2.2 = -1
  · rw [if_pos h1]; exact h
  · rw [if_neg h1]
    by_cases h2 : drZ Z (qk q) ho we d = true
    · rw [if_pos h2]
      unfold prD
      by_cases h3 : Z 4 (qk q) = 0
      · rw [if_pos h3]; exact prZ_ok h
      · rw [if_neg h3]; exact prZ_ok (prZ_ok h)
    · rw [if_neg h2]; exact h
theorem hFin_ok {Z : gS} {n0 : Nat} {e we ho : Int32} {q : qT} (h : qOK n0 q) (he : ∃ x : Nat, x ≤ 9 ∧ e = nI x) : qOK n0 (hFin Z e we ho q).2 := by
  obtain ⟨h1, h2, h3, h4⟩ := h
  obtain ⟨x, hx, rfl⟩ := he
  obtain ⟨a, ha, ea⟩ := i32_99 h1
  obtain ⟨b, hb, eb⟩ := i32_999 h2
  obtain ⟨c, hc, ec⟩ := i32_999 h3
  have hP : fP (nI x) q = nI (min 999 (b + 3 * x)) := by unfold fP; rw [eb, hp1_n hx hb]
  have hS : fS (nI x) q = nI (min 99 (a + x)) := by unfold fS; rw [ea, hs1_n hx ha]
  have hH : (∃ p : Nat, p ≤ 999 ∧ (fH Z (nI x) we ho q).1 = nI p) ∧ ((fH Z (nI x) we ho q).2 = -1 ∨ (fH Z (nI x) we ho q).2 = q.2.2.2) := by
    unfold fH
    by_cases h5 : q.2.2.2 = -1
    · rw [if_pos h5]
      exact ⟨⟨_, by omega, hP⟩, Or.inl rfl⟩
    · rw [if_neg h5]
      by_cases h6 : fP (nI x) q < fC Z (nI x) we ho q
      · rw [if_pos h6]
        exact ⟨⟨_, by omega, hP⟩, Or.inl rfl⟩
      · rw [if_neg h6]
        refine ⟨?_, Or.inr rfl⟩
        obtain ⟨y, hy, e1⟩ : ∃ y : Nat, y ≤ 50 ∧ fC Z (nI x) we ho q = nI y := c50_n _
        rw [hP, e1] at h6 ⊢
        have h7 : y ≤ min 999 (b + 3 * x) := by
          have := mt (nI_ltI (a := min 999 (b + 3 * x)) (b := y) (by omega) (by omega)).mpr h6
          omega
        exact ⟨min 999 (b + 3 * x) - y, by omega, pk_sub h7⟩
  obtain ⟨⟨p, hp, ep⟩, hh⟩ := hH
  refine ⟨?_, ?_, ?_, ?_⟩
  · show 0 ≤ fS (nI x) q ∧ fS (nI x) q ≤ 99
    rw [hS]
    exact of_99 (by omega)
  · show 0 ≤ (if fB Z (nI x) q = true then (fH Z (nI x) we ho q).1 / 2 else (fH Z (nI x) we ho q).1) ∧ (if fB Z (nI x) q = true then (fH Z (nI x) we ho q).1 / 2 else (fH Z (nI x) we ho q).1) ≤ 999
    rw [ep, show (2 : Int32) = nI 2 from rfl, pk_div (by omega) (by decide) (by decide)]
    by_cases hb : fB Z (nI x) q = true
    · rw [if_pos hb]; exact of_999 (by omega)
    · rw [if_neg hb]; exact of_999 (by omega)
  · show 0 ≤ (if fB Z (nI x) q = true then sl1 q.2.2.1 else q.2.2.1) ∧ (if fB Z (nI x) q = true then sl1 q.2.2.1 else q.2.2.1) ≤ 999
    rw [ec, sl1_n hc]
    by_cases hb : fB Z (nI x) q = true
    · rw [if_pos hb]; exact of_999 (by omega)
    · rw [if_neg hb]; exact of_999 (by omega)
  · show (fH Z (nI x) we ho q).2 = -1 ∨ ∃ k : Nat, k < n0 ∧ (fH Z (nI x) we ho q).2 = nI k
    rcases hh with hh | hh
    · exact Or.inl hh
    · rw [hh]; exact h4
theorem fH_hired {Z : gS} {e we ho : Int32} {q : qT} : (fH Z e we ho q).2 = -1 ∨ (fH Z e we ho q).2 = q.2.2.2 := by
  unfold fH
  by_cases h5 : q.2.2.2 = -1
  · rw [if_pos h5]; exact Or.inl rfl
  · rw [if_neg h5]
    by_cases h6 : fP e q < fC Z e we ho q
    · rw [if_pos h6]; exact Or.inl rfl
    · rw [if_neg h6]; exact Or.inr rfl
theorem hG_ok {Z : gS} {n0 : Nat} {e d we ho : Int32} {q : qT} (h : qOK n0 q) (he : ∃ x : Nat, x ≤ 9 ∧ e = nI x) : qOK n0 (hG Z e d we ho q).2 := hFin_ok ⟨sn1_ok h.1, h.2⟩ he
theorem hG_hired {Z : gS} {e d we ho : Int32} {q : qT} : (hG Z e d we ho q).2.2.2.2 = -1 ∨ (hG Z e d we ho q).2.2.2.2 = q.2.2.2 := fH_hired (q := (sn1 Z e d we ho q, q.2))
end

/-! part 44.axhour -/
section
/-! the class's HOUR of one GUILD -/
theorem env_eq {Y Z : gS} {k : Nat} {si pu we ho gr : Int32} (h1 : Y 1 k = Z 1 k) (h3 : Y 3 k = Z 3 k) : env Y k si pu we ho gr = env Z k si pu we ho gr := by
  unfold env
  rw [h1, h3]
theorem x_isTold {N k0 n : Nat} {S : gS} (hn : S k0 3 = nI n) (h7 : n ≤ 700) : fX4_isTold N k0 S = some (if n = 0 then 0 else 1, S) := by
  unfold fX4_isTold fX4_isTold_b0
  by_cases h0 : n = 0
  · subst h0
    rw [hn, if_pos (show nI 0 ≤ 0 by decide)]
    rfl
  · rw [hn, if_neg (nI_nle (by omega) (by omega)), if_neg h0]
    rfl
section
variable {N T k : Nat} {Z S : gS}
theorem x_pray (hT : T = 72 ∨ T = 4) (Zk : tOK Z) (hx : tXz T Z S) (hk : k < tn0 Z) (h4 : S 51 4 = nI k) (hN : 700 < N) : ∃ r, fX10_pray N T S = some (0, sU (sN S (T + 12) r) 51 1 (prZ Z k (S 51 1) (S 51 2) (S 51 6) (S 51 5) (S 51 0))) := by
  obtain ⟨⟨-, z0⟩, -, -, -, -, -, ⟨p1, p2, p3⟩, -⟩ := Zk
  have hp : S (T + 10) 3 = nI (tnp Z) := by rw [hx 10 3 (by omega) (by omega)]; exact p1
  have hc : S (T + 10 + 1) = Z 11 := funext fun j => hx 11 j (by omega) (by omega)
  unfold fX10_pray fX10_pray_b0
  rw [bnd_t (x_isTold hp p2)]
  by_cases h0 : tnp Z = 0
  · refine ⟨S (T + 12), ?_⟩
    rw [if_pos h0]
    show fX10_pray_b22 N S = _
    unfold fX10_pray_b22 fX10_pray_b23
    dsimp only [lt]
    rw [sN_self]
    unfold prZ prS
    rw [if_pos h0]
  · obtain ⟨r, hr⟩ := x_worth (N := N) (T := T) (k0 := T + 10) (k := k) (by omega) h4 (by omega) (by omega) (by omega) (by rcases hT with rfl | rfl <;> rfl) hp p2 h0 (by rw [hc]; exact p3) hN
    rw [hc, env_eq (Z := Z) (hx 1 k (by omega) (by omega)) (hx 3 k (by omega) (by omega))] at hr
    refine ⟨r, ?_⟩
    rw [if_neg h0]
    show fX10_pray_b10 N T S = _
    unfold fX10_pray_b10
    rw [bnd_t hr]
    show some (0, sU (sN S (T + 10 + 2) r) 51 1 (prS (rV (Z 11) (tnp Z) (env Z k (S 51 1) (S 51 2) (S 51 6) (S 51 5) (S 51 0))) (sN S (T + 10 + 2) r 51 1))) = _
    rw [sN_n (show 51 ≠ T + 10 + 2 by omega)]
    unfold prZ
    rw [if_neg h0]
theorem x_cost (hT : T = 72 ∨ T = 4) (Zk : tOK Z) (hx : tXz T Z S) (hk : k < tn0 Z) (h4 : S 51 4 = nI k) (hN : 700 < N) : ∃ r, fX10_cost N T S = some (coZ Z k (S 51 1) (S 51 2) (S 51 6) (S 51 5) (S 51 0), sN S (T + 15) r) := by
  obtain ⟨⟨z00, z0⟩, -, -, -, -, -, -, ⟨p1, p2, p3⟩⟩ := Zk
  have hp : S (T + 13) 3 = nI (tnc Z) := by rw [hx 13 3 (by omega) (by omega)]; exact p1
  have hc : S (T + 13 + 1) = Z 14 := funext fun j => hx 14 j (by omega) (by omega)
  have h00 : S T 0 = nI (tn0 Z) := (hx 0 0 (by omega) (by omega)).trans z00
  unfold fX10_cost fX10_cost_b0
  rw [h4, bnd_t (x_isGrotto h00 (by omega)), inb_t hk (by omega)]
  show ∃ r, fX10_cost_b13 N T S = _
  unfold fX10_cost_b13
  rw [bnd_t (x_isTold hp p2)]
  by_cases h0 : tnc Z = 0
  · refine ⟨S (T + 15), ?_⟩
    rw [if_pos h0]
    show fX10_cost_b35 N T S = _
    unfold fX10_cost_b35
    rw [h4, chk_t (inb_t (by omega) (by decide)), nI_clamp (by omega), hx 3 k (by omega) (by omega)]
    unfold fX10_cost_b44
    rw [sN_self]
    unfold coZ c50
    rw [if_pos h0]
  · obtain ⟨r, hr⟩ := x_worth (N := N) (T := T) (k0 := T + 13) (k := k) (by omega) h4 (by omega) (by omega) (by omega) (by rcases hT with rfl | rfl <;> rfl) hp p2 h0 (by rw [hc]; exact p3) hN
    rw [hc, env_eq (Z := Z) (hx 1 k (by omega) (by omega)) (hx 3 k (by omega) (by omega))] at hr
    refine ⟨r, ?_⟩
    rw [if_neg h0]
    show fX10_cost_b23 N T S = _
    unfold fX10_cost_b23
    rw [bnd_t hr]
    unfold fX10_cost_b44 coZ c50
    rw [if_neg h0]
theorem x_cost0 (Zk : tOK Z) (hx : tXz T Z S) (h4 : S 51 4 = -1) : fX10_cost N T S = some (0, S) := by
  obtain ⟨⟨z00, z0⟩, -⟩ := Zk
  have h00 : S T 0 = nI (tn0 Z) := (hx 0 0 (by omega) (by omega)).trans z00
  unfold fX10_cost fX10_cost_b0
  rw [h4, bnd_t (x_isGrotto h00 (by omega)), inb_f1 (by decide)]
  rfl
def wkA (S : gS) (e d ho : Int32) (q : qT) : Prop := S 51 0 = e ∧ S 51 1 = q.1 ∧ S 51 2 = q.2.1 ∧ S 51 3 = q.2.2.1 ∧ S 51 4 = q.2.2.2 ∧ S 51 5 = ho ∧ S 51 7 = d
noncomputable def xWk (i _j : Nat) : Bool := i == 51 || i == 16 || i == 19 || i == 84 || i == 87
theorem oSame.upN {P : Nat → Nat → Bool} {S S' : gS} {a : Nat} {r : Nat → Int32} (h : oSame P S S') (hs : ∀ j, P a j = true) : oSame P S (sN S' a r) := by
  intro i j k
  by_cases h2 : i = a
  · rw [h2, hs] at k
    cases k
  · rw [sN_n h2]
    exact h i j k
theorem tXz.on {S' : gS} (hT : T = 72 ∨ T = 4) (hx : tXz T Z S) (s : oSame xWk S S') : tXz T Z S' := by
  intro i j h1 h2
  rw [s (T + i) j ?_]
  · exact hx i j h1 h2
  · unfold xWk
    rcases hT with rfl | rfl
    · rcases (show i = 0 ∨ i = 1 ∨ i = 2 ∨ i = 3 ∨ i = 4 ∨ i = 5 ∨ i = 6 ∨ i = 7 ∨ i = 8 ∨ i = 9 ∨ i = 10 ∨ i = 11 ∨ i = 13 ∨ i = 14 by omega) with rfl | rfl | rfl | rfl | rfl | rfl | rfl | rfl | rfl | rfl | rfl | rfl | rfl | rfl <;> rfl
    · rcases (show i = 0 ∨ i = 1 ∨ i = 2 ∨ i = 3 ∨ i = 4 ∨ i = 5 ∨ i = 6 ∨ i = 7 ∨ i = 8 ∨ i = 9 ∨ i = 10 ∨ i = 11 ∨ i = 13 ∨ i = 14 by omega) with rfl | rfl | rfl | rfl | rfl | rfl | rfl | rfl | rfl | rfl | rfl | rfl | rfl | rfl <;> rfl
theorem x_ph132 (Zk : tOK Z) (hx : tXz T Z S) : fX10_passHour_b132 N T S = some (iv (decide (¬ S 51 1 ≤ bdZ Z)), if S 51 1 ≤ bdZ Z then sU S 51 5 (S 51 5 + 1) else sU (sU (sU S 51 2 (S 51 2 / 2)) 51 3 (sl1 (S 51 3))) 51 5 (S 51 5 + 1)) := by
  obtain ⟨-, -, -, ⟨z12, zb⟩, -⟩ := Zk
  have hb : S T 12 = nI (tnb Z) := (hx 0 12 (by omega) (by omega)).trans z12
  unfold fX10_passHour_b132
  rw [bnd_t (x_mostSin hb (by omega))]
  show (if S 51 1 ≤ bdZ Z then _ else _) = _
  by_cases h : S 51 1 ≤ bdZ Z
  · rw [if_pos h, if_pos h, decide_eq_false (fun q => q h)]
    rfl
  · rw [if_neg h, if_neg h, decide_eq_true h]
    show fX10_passHour_b155 N 1 S = _
    unfold fX10_passHour_b155
    dsimp only [lt]
    rw [sU_n (i := 51) (j := 3) (by omega)]
    show fX10_passHour_b181 N 1 (sU (sU S 51 2 (S 51 2 / 2)) 51 3 (sl1 (S 51 3))) = _
    unfold fX10_passHour_b181
    dsimp only [lt]
    rw [sU_n (i := 51) (j := 5) (by omega), sU_n (i := 51) (j := 5) (by omega)]
    rfl
end
section
variable {N T : Nat} {Z S : gS} {e d ho we : Int32} {q : qT}
/-- behind the paying -/
theorem x_phEnd {S3 : gS} (hT : T = 72 ∨ T = 4) (Zk : tOK Z) (hx : tXz T Z S) (s : oSame xWk S S3) (w0 : S3 51 0 = e) (w1 : S3 51 1 = fS e q) (w2 : S3 51 2 = (fH Z e we ho q).1) (w3 : S3 51 3 = q.2.2.1) (w4 : S3 51 4 = (fH Z e we ho q).2) (w5 : S3 51 5 = ho) (w7 : S3 51 7 = d) : ∃ S', fX10_passHour_b132 N T S3 = some (iv (hFin Z e we ho q).1, S') ∧ wkA S' e d (ho + 1) (hFin Z e we ho q).2 ∧ oSame xWk S S' := by
  refine ⟨(if fS e q ≤ bdZ Z then sU S3 51 5 (ho + 1) else sU (sU (sU S3 51 2 ((fH Z e we ho q).1 / 2)) 51 3 (sl1 q.2.2.1)) 51 5 (ho + 1)), ?_, ?_⟩
  · rw [x_ph132 Zk (hx.on hT s), w1, w2, w3, w5]
    rfl
  · unfold hFin fB
    by_cases h : fS e q ≤ bdZ Z
    · rw [if_pos h, decide_eq_false (fun q => q h)]
      refine ⟨⟨?_, ?_, ?_, ?_, ?_, ?_, ?_⟩, s.up rfl⟩
      · rw [sU_n (by omega)]; exact w0
      · rw [sU_n (by omega)]; exact w1
      · rw [sU_n (by omega)]; exact w2
      · rw [sU_n (by omega)]; exact w3
      · rw [sU_n (by omega)]; exact w4
      · rw [sU_s]
      · rw [sU_n (by omega)]; exact w7
    · rw [if_neg h, decide_eq_true h]
      refine ⟨⟨?_, ?_, ?_, ?_, ?_, ?_, ?_⟩, ((s.up rfl).up rfl).up rfl⟩
      · rw [sU_n (by omega), sU_n (by omega), sU_n (by omega)]; exact w0
      · rw [sU_n (by omega), sU_n (by omega), sU_n (by omega)]; exact w1
      · rw [sU_n (by omega), sU_n (by omega), sU_s]; rfl
      · rw [sU_n (by omega), sU_s]; rfl
      · rw [sU_n (by omega), sU_n (by omega), sU_n (by omega)]; exact w4
      · rw [sU_s]
      · rw [sU_n (by omega), sU_n (by omega), sU_n (by omega)]; exact w7
theorem x_ph61 (hT : T = 72 ∨ T = 4) (Zk : tOK Z) (hx : tXz T Z S) (hq : qOK (tn0 Z) q) (he : ∃ x : Nat, x ≤ 9 ∧ e = nI x) (h6 : S 51 6 = we) (W : wkA S e d ho q) (hN : 700 < N) : ∃ S', fX10_passHour_b61 N T S = some (iv (hFin Z e we ho q).1, S') ∧ wkA S' e d (ho + 1) (hFin Z e we ho q).2 ∧ oSame xWk S S' := by
  obtain ⟨w0, w1, w2, w3, w4, w5, w7⟩ := W
  have l0 : ∀ x, sU S 51 2 x 51 0 = e := fun x => by rw [sU_n (by omega)]; exact w0
  have l1 : ∀ x, sU S 51 2 x 51 1 = q.1 := fun x => by rw [sU_n (by omega)]; exact w1
  obtain ⟨S2, hS2⟩ : ∃ z, z = sU (sU S 51 2 (fP e q)) 51 1 (fS e q) := ⟨_, rfl⟩
  have hb : fX10_passHour_b61 N T S = bnd (fX10_cost N T S2) (fun q1 => if (q1.2 51 2) < q1.1 then fX10_passHour_b127 N T q1.2 else fX10_passHour_b114 N T q1.1 q1.2) := by
    unfold fX10_passHour_b61
    dsimp only [lt]
    rw [w0, w2, l1, l0, hS2]
    rfl
  have s2 : oSame xWk S S2 := by rw [hS2]; exact (oSame.rf.up rfl).up rfl
  have v0 : S2 51 0 = e := by rw [hS2, sU_n (by omega), sU_n (by omega)]; exact w0
  have v1 : S2 51 1 = fS e q := by rw [hS2, sU_s]
  have v2 : S2 51 2 = fP e q := by rw [hS2, sU_n (by omega), sU_s]
  have v3 : S2 51 3 = q.2.2.1 := by rw [hS2, sU_n (by omega), sU_n (by omega)]; exact w3
  have v4 : S2 51 4 = q.2.2.2 := by rw [hS2, sU_n (by omega), sU_n (by omega)]; exact w4
  have v5 : S2 51 5 = ho := by rw [hS2, sU_n (by omega), sU_n (by omega)]; exact w5
  have v6 : S2 51 6 = we := by rw [hS2, sU_n (by omega), sU_n (by omega)]; exact h6
  have v7 : S2 51 7 = d := by rw [hS2, sU_n (by omega), sU_n (by omega)]; exact w7
  rw [hb]
  clear hb hS2
  have hP : ¬ fP e q < 0 := by
    obtain ⟨x, hx, rfl⟩ := he
    obtain ⟨b, hb, eb⟩ := i32_999 hq.2.1
    unfold fP
    rw [eb, hp1_n hx hb]
    exact nI_pos (by omega)
  rcases hq.2.2.2 with h | ⟨k, hk, h⟩
  · rw [bnd_t (x_cost0 Zk (hx.on hT s2) (by rw [v4]; exact h))]
    show ∃ S', (if S2 51 2 < 0 then _ else _) = _ ∧ _
    rw [v2, if_neg hP]
    unfold fX10_passHour_b114
    dsimp only [lt]
    rw [v2, Int32.sub_zero]
    have f : fH Z e we ho q = (fP e q, -1) := by unfold fH; rw [if_pos h]
    refine x_phEnd hT Zk hx (s2.up rfl) ?_ ?_ ?_ ?_ ?_ ?_ ?_
    · rw [sU_n (by omega)]; exact v0
    · rw [sU_n (by omega)]; exact v1
    · rw [sU_s, f]
    · rw [sU_n (by omega)]; exact v3
    · rw [sU_n (by omega), f, v4]; exact h
    · rw [sU_n (by omega)]; exact v5
    · rw [sU_n (by omega)]; exact v7
  · obtain ⟨r, hr⟩ := x_cost hT Zk (hx.on hT s2) hk (by rw [v4]; exact h) hN
    have n51 : 51 ≠ T + 15 := by omega
    have s3 : oSame xWk S (sN S2 (T + 15) r) := s2.upN (fun j => by rcases hT with rfl | rfl <;> rfl)
    have hne : ¬ q.2.2.2 = -1 := by
      rw [h]
      intro q9
      have := nI_pos (n := k) (by have := Zk.1.2; omega)
      rw [q9] at this
      exact this (by decide)
    have hkk : qk q = k := by
      unfold qk
      rw [h, nI_clamp (by have := Zk.1.2; omega)]
    have hC : coZ Z k (S2 51 1) (S2 51 2) (S2 51 6) (S2 51 5) (S2 51 0) = fC Z e we ho q := by
      unfold fC
      rw [hkk, v0, v1, v2, v5, v6]
    rw [hC] at hr
    rw [bnd_t hr]
    show ∃ S', (if sN S2 (T + 15) r 51 2 < fC Z e we ho q then _ else _) = _ ∧ _
    rw [sN_n n51, v2]
    by_cases hl : fP e q < fC Z e we ho q
    · rw [if_pos hl]
      unfold fX10_passHour_b127
      dsimp only [lt]
      have f : fH Z e we ho q = (fP e q, -1) := by unfold fH; rw [if_neg hne, if_pos hl]
      refine x_phEnd hT Zk hx (s3.up rfl) ?_ ?_ ?_ ?_ ?_ ?_ ?_
      · rw [sU_n (by omega), sN_n n51]; exact v0
      · rw [sU_n (by omega), sN_n n51]; exact v1
      · rw [sU_n (by omega), sN_n n51, f]; exact v2
      · rw [sU_n (by omega), sN_n n51]; exact v3
      · rw [sU_s, f]
      · rw [sU_n (by omega), sN_n n51]; exact v5
      · rw [sU_n (by omega), sN_n n51]; exact v7
    · rw [if_neg hl]
      unfold fX10_passHour_b114
      dsimp only [lt]
      rw [sN_n n51, v2]
      have f : fH Z e we ho q = (fP e q - fC Z e we ho q, q.2.2.2) := by unfold fH; rw [if_neg hne, if_neg hl]
      refine x_phEnd hT Zk hx (s3.up rfl) ?_ ?_ ?_ ?_ ?_ ?_ ?_
      · rw [sU_n (by omega), sN_n n51]; exact v0
      · rw [sU_n (by omega), sN_n n51]; exact v1
      · rw [sU_s, f]
      · rw [sU_n (by omega), sN_n n51]; exact v3
      · rw [sU_n (by omega), sN_n n51, f]; exact v4
      · rw [sU_n (by omega), sN_n n51]; exact v5
      · rw [sU_n (by omega), sN_n n51]; exact v7
theorem x_pray2 {k : Nat} {s : Int32} (hT : T = 72 ∨ T = 4) (Zk : tOK Z) (hx : tXz T Z S) (hk : k < tn0 Z) (h4 : q.2.2.2 = nI k) (h6 : S 51 6 = we) (W : wkA S e d ho (s, q.2)) (hN : 700 < N) : ∃ S', fX10_pray N T S = some (0, S') ∧ wkA S' e d ho (prZ Z k s q.2.1 we ho e, q.2) ∧ S' 51 6 = we ∧ oSame xWk S S' := by
  obtain ⟨w0, w1, w2, w3, w4, w5, w7⟩ := W
  obtain ⟨r, hr⟩ := x_pray hT Zk hx hk (w4.trans h4) hN
  have n51 : 51 ≠ T + 12 := by omega
  refine ⟨_, hr, ⟨?_, ?_, ?_, ?_, ?_, ?_, ?_⟩, ?_, (oSame.rf.upN (fun j => by rcases hT with rfl | rfl <;> rfl)).up rfl⟩
  · rw [sU_n (by omega), sN_n n51]; exact w0
  · rw [sU_s, w0, w1, w2, w5, h6]
  · rw [sU_n (by omega), sN_n n51]; exact w2
  · rw [sU_n (by omega), sN_n n51]; exact w3
  · rw [sU_n (by omega), sN_n n51]; exact w4
  · rw [sU_n (by omega), sN_n n51]; exact w5
  · rw [sU_n (by omega), sN_n n51]; exact w7
  · rw [sU_n (by omega), sN_n n51]; exact h6
theorem nI_nem {k : Nat} (h : k < 2 ^ 31) : ¬ nI k = -1 := fun q => by
  have := nI_pos h
  rw [q] at this
  exact this (by decide)
theorem x_passHour (hT : T = 72 ∨ T = 4) (Zk : tOK Z) (hx : tXz T Z S) (hq : qOK (tn0 Z) q) (he : ∃ x : Nat, x ≤ 9 ∧ e = nI x) (W : wkA S e d ho q) (hN : 700 < N) : ∃ S', fX10_passHour N T we S = some (iv (hG Z e d we ho q).1, S') ∧ wkA S' e d (ho + 1) (hG Z e d we ho q).2 ∧ oSame xWk S S' := by
  have z8 := Zk.1.2
  obtain ⟨S1, hS1⟩ : ∃ z, z = sU S 51 6 we := ⟨_, rfl⟩
  have s1 : oSame xWk S S1 := by rw [hS1]; exact oSame.rf.up rfl
  have W1 : wkA S1 e d ho q := by
    obtain ⟨w0, w1, w2, w3, w4, w5, w7⟩ := W
    rw [hS1]
    refine ⟨?_, ?_, ?_, ?_, ?_, ?_, ?_⟩ <;> rw [sU_n (by omega)] <;> assumption
  have h6 : S1 51 6 = we := by rw [hS1, sU_s]
  have hx1 := hx.on hT s1
  have h00 : S1 T 0 = nI (tn0 Z) := (hx1 0 0 (by omega) (by omega)).trans Zk.1.1
  unfold fX10_passHour fX10_passHour_b0
  dsimp only [lt]
  rw [← hS1, bnd_t (x_isGrotto h00 (by omega)), W1.2.2.2.2.1]
  clear hS1
  unfold hG
  have key : ∀ S2 s, oSame xWk S S2 → wkA S2 e d ho (s, q.2) → S2 51 6 = we → (0 ≤ s ∧ s ≤ 99) → s = sn1 Z e d we ho q → ∃ S', fX10_passHour_b61 N T S2 = some (iv (hFin Z e we ho (sn1 Z e d we ho q, q.2)).1, S') ∧ wkA S' e d (ho + 1) (hFin Z e we ho (sn1 Z e d we ho q, q.2)).2 ∧ oSame xWk S S' := by
    intro S2 s s2 W2 h6 hs es
    subst es
    obtain ⟨S', f1, f2, f3⟩ := x_ph61 (N := N) hT Zk (hx.on hT s2) (q := (sn1 Z e d we ho q, q.2)) ⟨hs, hq.2⟩ he h6 W2 hN
    exact ⟨S', f1, f2, s2.tr f3⟩
  rcases hq.2.2.2 with h | ⟨k, hk, h⟩
  · rw [h, inb_f1 (by decide)]
    exact key S1 q.1 s1 W1 h6 hq.1 (by unfold sn1; rw [if_pos h])
  · have hkk : qk q = k := by
      unfold qk
      rw [h, nI_clamp (by omega)]
    have hne : ¬ q.2.2.2 = -1 := by rw [h]; exact nI_nem (by omega)
    rw [h, inb_t hk (by omega)]
    show ∃ S', fX10_passHour_b16 N T S1 = _ ∧ _
    unfold fX10_passHour_b16
    obtain ⟨⟨x, xa, xb, xc⟩, -, -, h4⟩ := Zk.2.2.2.2.1 k hk
    rw [W1.2.2.2.2.1, h, W1.2.2.2.2.2.1, W1.2.2.2.2.2.2, h6, bnd_t (x_drips h00 z8 hk (by rw [hx1 1 k (by omega) (by omega)]; exact xc) xa xb), hx1 2 k (by omega) (by omega), hx1 1 k (by omega) (by omega)]
    show ∃ S', (if iv (drZ Z k ho we d) = 0 then _ else _) = _ ∧ _
    cases hd : drZ Z k ho we d with
    | false =>
      exact key S1 q.1 s1 W1 h6 hq.1 (by unfold sn1; rw [if_neg hne, hkk, hd]; rfl)
    | true =>
      show ∃ S', fX10_passHour_b39 N T S1 = _ ∧ _
      unfold fX10_passHour_b39
      obtain ⟨S2, f1, f2, f3, f4⟩ := x_pray2 (N := N) hT Zk hx1 hk h h6 (s := q.1) W1 hN
      rw [bnd_t f1]
      show ∃ S', chk (inb (S2 51 4) 8) (if S2 (T + 4) (S2 51 4).toNatClampNeg = 0 then _ else _) = _ ∧ _
      have hx2 := hx1.on hT f4
      rw [f2.2.2.2.2.1]
      show ∃ S', chk (inb q.2.2.2 8) (if S2 (T + 4) q.2.2.2.toNatClampNeg = 0 then _ else _) = _ ∧ _
      rw [h, chk_t (inb_t (by omega) (by decide)), nI_clamp (by omega), hx2 4 k (by omega) (by omega)]
      rcases h4 with h4 | h4
      · rw [if_pos h4]
        exact key S2 _ (s1.tr f4) f2 f3 (prZ_ok hq.1) (by unfold sn1 prD; rw [if_neg hne, hkk, hd, if_pos rfl, if_pos h4])
      · have h4' : ¬ Z 4 k = 0 := by rw [h4]; decide
        rw [if_neg h4']
        unfold fX10_passHour_b56
        obtain ⟨S3, g1, g2, g3, g4⟩ := x_pray2 (N := N) hT Zk hx2 hk h f3 f2 hN
        rw [bnd_t g1]
        exact key S3 _ ((s1.tr f4).tr g4) g2 g3 (prZ_ok (prZ_ok hq.1)) (by unfold sn1 prD; rw [if_neg hne, hkk, hd, if_pos rfl, if_neg h4'])
end
end

/-! part 45.amhour -/
section
/-! the reference's HOUR -/
noncomputable def mRu (i _j : Nat) : Bool := i == 42 || i == 43
def hOK (n0 : Nat) (q : qT) : Prop := q.2.2.2 = -1 ∨ ∃ k : Nat, k < n0 ∧ q.2.2.2 = nI k
def mW (Z S : gS) (we : Int32) (h : Nat) : Prop := (S 99 41 = we ∧ ¬ we = -1) ∨ (S 99 41 = -1 ∧ we = wetZ Z h)
theorem m_wetW {N h : Nat} {Z S : gS} {we : Int32} (Zk : tOK Z) (hM : tM Z S) (hh : S 99 37 = nI h) (hb : h < 2 ^ 31) (hw : mW Z S we h) : fX12_wetOf N S = some (we, S) := by
  rcases hw with ⟨h1, h2⟩ | ⟨h1, h2⟩
  · rw [m_wetOf2 (by rw [h1]; exact h2), h1]
  · rw [m_wetOf hM.2.2.2.1 Zk.2.2.1.2.1 hb hh h1, h2]
    unfold wetZ
    rw [wetS_eq (r := S 14) (r' := Z 9) (fun i hi => hM.2.2.2.2.2.2.1 i hi)]
theorem mRu_f {i j : Nat} (h : i ≠ 42) (h' : i ≠ 43) : mRu i j = false := by
  unfold mRu
  rw [beq_false_of_ne h, beq_false_of_ne h']
  rfl
section
variable {N g k h : Nat} {Z S : gS} {we : Int32}
theorem m_ruleOf {nd n : Nat} {c : Nat → Int32} (Zk : tOK Z) (hM : tM Z S) (hg : g < 6) (hk : k < tn0 Z) (h35 : S 35 g = nI k) (hh : S 99 37 = nI h) (hb : h < 2 ^ 31) (hw : mW Z S we h) (hnd : nd = 15 ∨ nd = 16) (h7 : n ≤ 700) (h0 : n ≠ 0) (ok : rOK c n) (hc : ∀ i, i < n → S nd i = sgn (c i)) (hN : 700 < N) : ∃ S', fX12_ruleOf N nd (nI n) (nI g) S = some (rV c n (env Z k (S 32 g) (S 33 g) we (S 99 37) (S 18 g)), S') ∧ oSame mRu S S' := by
  have z8 := Zk.1.2
  have hgc : (nI g).toNatClampNeg = g := nI_clamp (by omega)
  have hkc : (nI k).toNatClampNeg = k := nI_clamp (by omega)
  have hin : inb (nI g) 6 = true := inb_t hg (by decide)
  have hik : inb (nI k) 16 = true := inb_t (by omega) (by decide)
  obtain ⟨S1, e1⟩ : ∃ z, z = sU S 42 0 (S 32 g) := ⟨_, rfl⟩
  have s1 : ∀ i j, i ≠ 42 → S1 i j = S i j := fun i j hi => by rw [e1, sU_n (by omega)]
  obtain ⟨S2, e2⟩ : ∃ z, z = sU S1 42 1 (S 33 g) := ⟨_, rfl⟩
  have s2 : ∀ i j, i ≠ 42 → S2 i j = S i j := fun i j hi => by rw [e2, sU_n (by omega), s1 i j hi]
  obtain ⟨S3, e3⟩ : ∃ z, z = sU S2 42 2 (S 7 k) := ⟨_, rfl⟩
  have s3 : ∀ i j, i ≠ 42 → S3 i j = S i j := fun i j hi => by rw [e3, sU_n (by omega), s2 i j hi]
  obtain ⟨S4, e4⟩ : ∃ z, z = sU S3 42 3 (S 9 k) := ⟨_, rfl⟩
  have s4 : ∀ i j, i ≠ 42 → S4 i j = S i j := fun i j hi => by rw [e4, sU_n (by omega), s3 i j hi]
  obtain ⟨S6, e6⟩ : ∃ z, z = sU S4 42 4 we := ⟨_, rfl⟩
  have s6 : ∀ i j, i ≠ 42 → S6 i j = S i j := fun i j hi => by rw [e6, sU_n (by omega), s4 i j hi]
  obtain ⟨S7, e7⟩ : ∃ z, z = sU S6 42 5 (S 99 37) := ⟨_, rfl⟩
  have s7 : ∀ i j, i ≠ 42 → S7 i j = S i j := fun i j hi => by rw [e7, sU_n (by omega), s6 i j hi]
  obtain ⟨S8, e8⟩ : ∃ z, z = sU S7 42 6 (S 18 g) := ⟨_, rfl⟩
  have s8 : ∀ i j, i ≠ 42 → S8 i j = S i j := fun i j hi => by rw [e8, sU_n (by omega), s7 i j hi]
  have hW4 : fX12_wetOf N S4 = some (we, S4) := m_wetW Zk (hM.on (fun i j h1 h2 => s4 i j (by omega))) (by rw [s4 99 37 (by omega)]; exact hh) hb (by
    unfold mW
    rw [s4 99 41 (by omega)]
    exact hw)
  obtain ⟨r, hr⟩ := m_valueNow (N := N) (S := S8) (nd := nd) (by omega) (by rcases hnd with rfl | rfl <;> rfl) h7 h0 ok (fun i hi => by rw [s8 nd i (by omega)]; exact hc i hi) hN
  refine ⟨sN S8 43 r, ?_, ?_⟩
  · unfold fX12_ruleOf fX12_ruleOf_b0
    dsimp only [lt]
    rw [hgc, chk_t hin, ← e1, chk_t hin, s1 33 g (by omega), ← e2, chk_t hin, s2 35 g (by omega), h35, hkc, chk_t hik, s2 7 k (by omega), ← e3, chk_t hin, s3 35 g (by omega), h35, hkc, chk_t hik, s3 9 k (by omega), ← e4, bnd_t hW4]
    dsimp only
    rw [← e6, s6 99 37 (by omega), ← e7, chk_t hin, s7 18 g (by omega), ← e8, bnd_t hr]
    dsimp only
    refine congrArg (fun z => some (z, sN S8 43 r)) (rV_env2 ok (fun i hi => ?_))
    have a6 : S8 42 6 = S 18 g := by rw [e8, sU_s]
    have a5 : S8 42 5 = S 99 37 := by rw [e8, sU_n (by omega), e7, sU_s]
    have a4 : S8 42 4 = we := by rw [e8, sU_n (by omega), e7, sU_n (by omega), e6, sU_s]
    have a3 : S8 42 3 = S 9 k := by rw [e8, sU_n (by omega), e7, sU_n (by omega), e6, sU_n (by omega), e4, sU_s]
    have a2 : S8 42 2 = S 7 k := by rw [e8, sU_n (by omega), e7, sU_n (by omega), e6, sU_n (by omega), e4, sU_n (by omega), e3, sU_s]
    have a1 : S8 42 1 = S 33 g := by rw [e8, sU_n (by omega), e7, sU_n (by omega), e6, sU_n (by omega), e4, sU_n (by omega), e3, sU_n (by omega), e2, sU_s]
    have a0 : S8 42 0 = S 32 g := by rw [e8, sU_n (by omega), e7, sU_n (by omega), e6, sU_n (by omega), e4, sU_n (by omega), e3, sU_n (by omega), e2, sU_n (by omega), e1, sU_s]
    obtain ⟨m1, m2, m3, m4⟩ := hM.2.2.2.2.2.2.2.1 k hk
    rcases (show i = 0 ∨ i = 1 ∨ i = 2 ∨ i = 3 ∨ i = 4 ∨ i = 5 ∨ i = 6 by omega) with rfl | rfl | rfl | rfl | rfl | rfl | rfl
    · exact a0
    · exact a1
    · exact a2.trans m1
    · exact a3.trans m3
    · exact a4
    · exact a5
    · exact a6
  · intro i j hij
    have h2 : i ≠ 42 := fun q => by rw [q] at hij; cases hij
    have h3 : i ≠ 43 := fun q => by rw [q] at hij; cases hij
    rw [sN_n h3, s8 i j h2]
theorem m_pray (Zk : tOK Z) (hM : tM Z S) (hg : g < 6) (hk : k < tn0 Z) (h35 : S 35 g = nI k) (hh : S 99 37 = nI h) (hb : h < 2 ^ 31) (hw : mW Z S we h) (hN : 700 < N) : ∃ S', fX12_pray N (nI g) S = some (0, sU S' 32 g (prZ Z k (S 32 g) (S 33 g) we (S 99 37) (S 18 g))) ∧ oSame mRu S S' := by
  have hgc : (nI g).toNatClampNeg = g := nI_clamp (by omega)
  have hin : inb (nI g) 6 = true := inb_t hg (by decide)
  obtain ⟨-, -, -, -, -, -, ⟨p1, p2, p3⟩, -⟩ := id Zk
  have h54 := hM.2.2.2.2.1
  unfold fX12_pray fX12_pray_b0
  rw [h54]
  have key : ∀ v S', oSame mRu S S' → fX12_pray_b28 N (nI g) v S' = some (0, sU S' 32 g (prS v (S 32 g))) := by
    intro v S' s
    unfold fX12_pray_b28
    rw [chk_t hin, chk_t hin, chk_t hin, hgc, s 32 g rfl]
    rfl
  by_cases h0 : tnp Z = 0
  · refine ⟨S, ?_, oSame.rf⟩
    rw [h0, if_pos (show nI 0 = 0 from rfl)]
    unfold fX12_pray_b9 prZ
    rw [key 5 S oSame.rf, if_pos h0]
  · obtain ⟨S', r1, r2⟩ := m_ruleOf (N := N) (nd := 15) (n := tnp Z) (c := Z 11) Zk hM hg hk h35 hh hb hw (Or.inl rfl) p2 h0 p3 hM.2.2.2.2.2.2.2.2.1 hN
    refine ⟨S', ?_, r2⟩
    rw [if_neg (nI_ne0 (by omega) (by omega))]
    unfold fX12_pray_b13 prZ
    rw [h54, bnd_t r1, key _ S' r2, if_neg h0]
theorem m_costsOf (Zk : tOK Z) (hM : tM Z S) (hg : g < 6) (hk : k < tn0 Z) (h35 : S 35 g = nI k) (hh : S 99 37 = nI h) (hb : h < 2 ^ 31) (hw : mW Z S we h) (hN : 700 < N) : ∃ S', fX12_costsOf N (nI g) S = some (coZ Z k (S 32 g) (S 33 g) we (S 99 37) (S 18 g), S') ∧ oSame mRu S S' := by
  have z8 := Zk.1.2
  have hgc : (nI g).toNatClampNeg = g := nI_clamp (by omega)
  have hin : inb (nI g) 6 = true := inb_t hg (by decide)
  obtain ⟨-, -, -, -, -, -, -, ⟨p1, p2, p3⟩⟩ := id Zk
  have h55 := hM.2.2.2.2.2.1
  unfold fX12_costsOf fX12_costsOf_b0
  rw [h55]
  by_cases h0 : tnc Z = 0
  · refine ⟨S, ?_, oSame.rf⟩
    rw [h0, if_pos (show nI 0 = 0 from rfl)]
    unfold fX12_costsOf_b9 coZ
    rw [chk_t hin, hgc, h35, chk_t (inb_t (by omega) (by decide)), nI_clamp (by omega), (hM.2.2.2.2.2.2.2.1 k hk).2.2.1, if_pos h0]
    rfl
  · obtain ⟨S', r1, r2⟩ := m_ruleOf (N := N) (nd := 16) (n := tnc Z) (c := Z 14) Zk hM hg hk h35 hh hb hw (Or.inr rfl) p2 h0 p3 hM.2.2.2.2.2.2.2.2.2 hN
    refine ⟨S', ?_, r2⟩
    rw [if_neg (nI_ne0 (by omega) (by omega))]
    unfold fX12_costsOf_b23 coZ
    rw [h55, bnd_t r1, if_neg h0]
    rfl
theorem m_158 {S3 : gS} {r : Int32 → gS → Option (Int32 × gS)} (hM2 : S3 5 2 = bdZ Z) (hg : g < 6) : fX12_anHour_b158 N r (nI g) S3 = r (nI (g + 1)) (if S3 32 g ≤ bdZ Z then S3 else sU (sU (sU S3 33 g (S3 33 g / 2)) 34 g (sl1 (S3 34 g))) 99 45 (S3 99 45 ||| ((1 : Int32) <<< (nI g &&& 31)))) := by
  have hgc : (nI g).toNatClampNeg = g := nI_clamp (by omega)
  have hin : inb (nI g) 6 = true := inb_t hg (by decide)
  unfold fX12_anHour_b158
  rw [chk_t hin, hgc, hM2]
  by_cases h : S3 32 g ≤ bdZ Z
  · rw [if_neg (Int32.not_lt.mpr h), if_pos h]
    unfold fX12_anHour_b173 fX12_anHour_b218
    rw [nI_1]
  · rw [if_pos (Int32.not_le.mp h), if_neg h]
    unfold fX12_anHour_b176
    dsimp only [lt]
    rw [hgc, chk_t hin, chk_t hin, chk_t hin, chk_t hin, sU_n (i := 34) (by omega), sU_n (i := 99) (by omega), sU_n (i := 99) (by omega)]
    unfold fX12_anHour_b218
    rw [nI_1]
    rfl
/-- one GUILD of the second loop -/
theorem m_92 {q : qT} {e : Int32} {r : Int32 → gS → Option (Int32 × gS)} (Zk : tOK Z) (hM : tM Z S) (hg : g < 6) (hq : hOK (tn0 Z) q) (h18 : S 18 g = e) (hh : S 99 37 = nI h) (hb : h < 2 ^ 31) (hw : mW Z S we h) (r1 : S 32 g = q.1) (r2 : S 33 g = q.2.1) (r3 : S 34 g = q.2.2.1) (r4 : S 35 g = q.2.2.2) (hN : 700 < N) :
    ∃ S', fX12_anHour_b92 N r (nI g) S = r (nI (g + 1)) S' ∧ S' 32 g = (hFin Z e we (nI h) q).2.1 ∧ S' 33 g = (hFin Z e we (nI h) q).2.2.1 ∧ S' 34 g = (hFin Z e we (nI h) q).2.2.2.1 ∧ S' 35 g = (hFin Z e we (nI h) q).2.2.2.2 ∧ S' 99 45 = (if (hFin Z e we (nI h) q).1 = true then S 99 45 ||| ((1 : Int32) <<< (nI g &&& 31)) else S 99 45) ∧ (∀ i j, i ≠ 42 → i ≠ 43 → ¬ (32 ≤ i ∧ i ≤ 35 ∧ j = g) → ¬ (i = 99 ∧ j = 45) → S' i j = S i j) := by
  have z8 := Zk.1.2
  have hgc : (nI g).toNatClampNeg = g := nI_clamp (by omega)
  have hin : inb (nI g) 6 = true := inb_t hg (by decide)
  obtain ⟨S2, e2⟩ : ∃ z, z = sU (sU S 33 g (fP e q)) 32 g (fS e q) := ⟨_, rfl⟩
  have s2 : ∀ i j, ¬ (i = 32 ∧ j = g) → ¬ (i = 33 ∧ j = g) → S2 i j = S i j := fun i j h1 h2 => by rw [e2, sU_n h1, sU_n h2]
  have v1 : S2 32 g = fS e q := by rw [e2, sU_s]
  have v2 : S2 33 g = fP e q := by rw [e2, sU_n (by omega), sU_s]
  have hb9 : fX12_anHour_b92 N r (nI g) S = if q.2.2.2 = -1 then fX12_anHour_b158 N r (nI g) S2 else fX12_anHour_b153 N r (nI g) S2 := by
    unfold fX12_anHour_b92
    dsimp only [lt]
    rw [hgc, chk_t hin, chk_t hin, chk_t hin, chk_t hin, chk_t hin, chk_t hin, chk_t hin, h18, r2, sU_n (i := 32) (by omega), sU_n (i := 18) (by omega), r1, h18]
    show (if sU (sU S 33 g (fP e q)) 32 g (fS e q) 35 g = -1 then fX12_anHour_b158 N r (nI g) (sU (sU S 33 g (fP e q)) 32 g (fS e q)) else fX12_anHour_b153 N r (nI g) (sU (sU S 33 g (fP e q)) 32 g (fS e q))) = _
    rw [← e2, s2 35 g (by omega) (by omega), r4]
  rw [hb9]
  clear hb9 e2
  have hM2 : tM Z S2 := hM.on (fun i j h1 h2 => s2 i j (by omega) (by omega))
  -- the end, from what the paying left
  have fin : ∀ S3, S3 5 2 = bdZ Z → S3 32 g = fS e q → S3 33 g = (fH Z e we (nI h) q).1 → S3 34 g = q.2.2.1 → S3 35 g = (fH Z e we (nI h) q).2 → (∀ i j, i ≠ 42 → i ≠ 43 → ¬ (32 ≤ i ∧ i ≤ 35 ∧ j = g) → S3 i j = S i j) →
      ∃ S', fX12_anHour_b158 N r (nI g) S3 = r (nI (g + 1)) S' ∧ S' 32 g = (hFin Z e we (nI h) q).2.1 ∧ S' 33 g = (hFin Z e we (nI h) q).2.2.1 ∧ S' 34 g = (hFin Z e we (nI h) q).2.2.2.1 ∧ S' 35 g = (hFin Z e we (nI h) q).2.2.2.2 ∧ S' 99 45 = (if (hFin Z e we (nI h) q).1 = true then S 99 45 ||| ((1 : Int32) <<< (nI g &&& 31)) else S 99 45) ∧ (∀ i j, i ≠ 42 → i ≠ 43 → ¬ (32 ≤ i ∧ i ≤ 35 ∧ j = g) → ¬ (i = 99 ∧ j = 45) → S' i j = S i j) := by
    intro S3 a5 a1 a2 a3 a4 as
    refine ⟨_, m_158 a5 hg, ?_⟩
    rw [a1, a2, a3, as 99 45 (by omega) (by omega) (by omega)]
    unfold hFin fB
    by_cases hs : fS e q ≤ bdZ Z
    · rw [if_pos hs, decide_eq_false (fun q => q hs)]
      exact ⟨a1, a2, a3, a4, as 99 45 (by omega) (by omega) (by omega), fun i j h1 h2 h3 _ => as i j h1 h2 h3⟩
    · rw [if_neg hs, decide_eq_true hs]
      refine ⟨?_, ?_, ?_, ?_, ?_, fun i j h1 h2 h3 h4 => ?_⟩
      · rw [sU_n (by omega), sU_n (by omega), sU_n (by omega)]; exact a1
      · rw [sU_n (by omega), sU_n (by omega), sU_s]; rfl
      · rw [sU_n (by omega), sU_s]; rfl
      · rw [sU_n (by omega), sU_n (by omega), sU_n (by omega)]; exact a4
      · rw [sU_s]; rfl
      · rw [sU_n (by omega), sU_n (by omega), sU_n (by omega)]; exact as i j h1 h2 h3
  rcases hq with h9 | ⟨k, hk, h9⟩
  · rw [if_pos h9]
    have f : fH Z e we (nI h) q = (fP e q, -1) := by unfold fH; rw [if_pos h9]
    exact fin S2 hM2.2.2.1 v1 (by rw [f]; exact v2) (by rw [s2 34 g (by omega) (by omega)]; exact r3) (by rw [f, s2 35 g (by omega) (by omega), r4]; exact h9) (fun i j h1 h2 h3 => s2 i j (by omega) (by omega))
  · have hne : ¬ q.2.2.2 = -1 := by rw [h9]; exact nI_nem (by omega)
    have hkk : qk q = k := by
      unfold qk
      rw [h9, nI_clamp (by omega)]
    rw [if_neg hne]
    obtain ⟨S3, c1, c2⟩ := m_costsOf (N := N) Zk hM2 hg hk (by rw [s2 35 g (by omega) (by omega), r4]; exact h9) (by rw [s2 99 37 (by omega) (by omega)]; exact hh) hb (by
      unfold mW
      rw [s2 99 41 (by omega) (by omega)]
      exact hw) hN
    rw [v1, v2, s2 99 37 (by omega) (by omega), s2 18 g (by omega) (by omega), hh, h18, ← hkk] at c1
    have c1 : fX12_costsOf N (nI g) S2 = some (fC Z e we (nI h) q, S3) := c1
    unfold fX12_anHour_b153 fX12_pay fX12_pay_b0
    rw [bnd_t c1]
    dsimp only
    rw [chk_t hin, hgc]
    show ∃ S', bnd (if S3 33 g < fC Z e we (nI h) q then fX12_pay_b29 N (nI g) S3 else fX12_pay_b16 N (nI g) (fC Z e we (nI h) q) S3) (fun q1 => fX12_anHour_b158 N r (nI g) q1.2) = _ ∧ _
    rw [c2 33 g rfl, v2]
    by_cases hl : fP e q < fC Z e we (nI h) q
    · rw [if_pos hl]
      unfold fX12_pay_b29
      rw [chk_t hin, hgc]
      show ∃ S', fX12_anHour_b158 N r (nI g) (sU S3 35 g (-1)) = _ ∧ _
      have f : fH Z e we (nI h) q = (fP e q, -1) := by unfold fH; rw [if_neg hne, if_pos hl]
      refine fin _ ?_ ?_ ?_ ?_ ?_ (fun i j h1 h2 h3 => ?_)
      · rw [sU_n (by omega), c2 5 2 rfl]; exact hM2.2.2.1
      · rw [sU_n (by omega), c2 32 g rfl]; exact v1
      · rw [sU_n (by omega), c2 33 g rfl, f]; exact v2
      · rw [sU_n (by omega), c2 34 g rfl, s2 34 g (by omega) (by omega)]; exact r3
      · rw [sU_s, f]
      · rw [sU_n (by omega), c2 i j (mRu_f h1 h2), s2 i j (by omega) (by omega)]
    · rw [if_neg hl]
      unfold fX12_pay_b16
      rw [chk_t hin, chk_t hin, hgc, c2 33 g rfl, v2]
      show ∃ S', fX12_anHour_b158 N r (nI g) (sU S3 33 g (fP e q - fC Z e we (nI h) q)) = _ ∧ _
      have f : fH Z e we (nI h) q = (fP e q - fC Z e we (nI h) q, q.2.2.2) := by unfold fH; rw [if_neg hne, if_neg hl]
      refine fin _ ?_ ?_ ?_ ?_ ?_ (fun i j h1 h2 h3 => ?_)
      · rw [sU_n (by omega), c2 5 2 rfl]; exact hM2.2.2.1
      · rw [sU_n (by omega), c2 32 g rfl]; exact v1
      · rw [sU_s, f]
      · rw [sU_n (by omega), c2 34 g rfl, s2 34 g (by omega) (by omega)]; exact r3
      · rw [sU_n (by omega), c2 35 g rfl, s2 35 g (by omega) (by omega), f]; exact r4
      · rw [sU_n (by omega), c2 i j (mRu_f h1 h2), s2 i j (by omega) (by omega)]
end
def rowsM (n : Nat) (S : gS) (qs : Nat → qT) : Prop := ∀ g, g < n → S 32 g = (qs g).1 ∧ S 33 g = (qs g).2.1 ∧ S 34 g = (qs g).2.2.1 ∧ S 35 g = (qs g).2.2.2
noncomputable def mHo (i j : Nat) : Bool := i == 42 || i == 43 || (32 ≤ i && i ≤ 35 && j < 6) || (i == 99 && (j == 37 || j == 44 || j == 45))
theorem mHo_f {i j : Nat} (h : mHo i j = false) : i ≠ 42 ∧ i ≠ 43 ∧ ¬ (32 ≤ i ∧ i ≤ 35 ∧ j < 6) ∧ ¬ (i = 99 ∧ (j = 37 ∨ j = 44 ∨ j = 45)) := by
  unfold mHo at h
  simp only [Bool.or_eq_false_iff, Bool.and_eq_false_iff, beq_eq_false_iff_ne, decide_eq_false_iff_not] at h
  omega
theorem drB_snoc {c : Nat → Bool} : ∀ (m k : Nat) (acc : Int32), drB c (m + 1) k acc = if c (k + m) = true then drB c m k acc ||| ((1 : Int32) <<< (nI (k + m) &&& 31)) else drB c m k acc := by
  intro m
  induction m with
  | zero => intro k acc; rfl
  | succ m ih =>
    intro k acc
    show drB c (m + 1) (k + 1) _ = _
    rw [ih (k + 1) _, show k + 1 + m = k + (m + 1) by omega]
    rfl
section
variable {N h : Nat} {Z : gS} {we : Int32} {e : Nat → Int32} {qs : Nat → qT}
/-- the second loop -/
theorem m_h82 (Zk : tOK Z) (qo : ∀ g, g < tn1 Z → hOK (tn0 Z) (qs g)) (hb : h < 2 ^ 30) (hN : 700 < N) {S0 : gS} (hM : tM Z S0) (he : ∀ g, g < tn1 Z → S0 18 g = e g) (hh : S0 99 37 = nI h) (hw : mW Z S0 we h) (R : rowsM (tn1 Z) S0 qs) (h45 : S0 99 45 = 0) :
    Gv (fX12_anHour_h82 N N 0 S0) (fun r => r.1 = 0 ∧ rowsM (tn1 Z) r.2 (fun g => (hFin Z (e g) we (nI h) (qs g)).2) ∧ r.2 99 37 = nI (h + 1) ∧ r.2 99 45 = drB (fun g => (hFin Z (e g) we (nI h) (qs g)).1) (tn1 Z) 0 0 ∧ oSame mHo S0 r.2) := by
  have z6 := Zk.2.1.2
  refine loopG (fun f g S => fX12_anHour_h82 N f (nI g) S) (fun g S => (∀ i j, i ≠ 42 → i ≠ 43 → ¬ (32 ≤ i ∧ i ≤ 35 ∧ j < 6) → ¬ (i = 99 ∧ j = 45) → S i j = S0 i j) ∧ S 99 45 = drB (fun g => (hFin Z (e g) we (nI h) (qs g)).1) g 0 0 ∧ rowsM (tn1 Z) S (fun g' => if g' < g then (hFin Z (e g') we (nI h) (qs g')).2 else qs g')) _ (tn1 Z) ?_ ?_ (tn1 Z) 0 S0 N (by omega) ⟨fun _ _ _ _ _ _ => rfl, h45, fun g hg => by dsimp only; rw [if_neg (by omega)]; exact R g hg⟩ (by omega)
  · rintro f S ⟨i1, i2, i3⟩
    show Gv (fX12_anHour_b82 N _ (nI (tn1 Z)) S) _
    unfold fX12_anHour_b82
    rw [i1 5 1 (by omega) (by omega) (by omega) (by omega), hM.2.1, if_pos (nI_le (Nat.le_refl _) (by omega))]
    refine ⟨(0, sU S 99 37 (nI (h + 1))), ?_, rfl, fun g hg => ?_, (sU_s : sU S 99 37 (nI (h + 1)) 99 37 = _), ?_, fun i j hij => ?_⟩
    · unfold fX12_anHour_b224
      dsimp only [lt]
      rw [i1 99 37 (by omega) (by omega) (by omega) (by omega), hh, nI_1]
    · dsimp only
      have := i3 g hg
      dsimp only at this
      rw [if_pos hg] at this
      rw [sU_n (by omega), sU_n (by omega), sU_n (by omega), sU_n (by omega)]
      exact this
    · dsimp only
      rw [sU_n (by omega)]
      exact i2
    · obtain ⟨a1, a2, a3, a4⟩ := mHo_f hij
      dsimp only
      rw [sU_n (by omega)]
      exact i1 i j a1 a2 a3 (by omega)
  · rintro f g S hg ⟨i1, i2, i3⟩
    refine Or.inr ?_
    obtain ⟨r1, r2, r3, r4⟩ := i3 g hg
    dsimp only at r1 r2 r3 r4
    rw [if_neg (Nat.lt_irrefl g)] at r1 r2 r3 r4
    obtain ⟨S', b1, b2, b3, b4, b5, b6, b7⟩ := m_92 (N := N) (e := e g) (q := qs g) (r := fX12_anHour_h82 N f) Zk (hM.on (fun i j h1 h2 => i1 i j (by omega) (by omega) (by omega) (by omega))) (show g < 6 by omega) (qo g hg) (by rw [i1 18 g (by omega) (by omega) (by omega) (by omega)]; exact he g hg) (by rw [i1 99 37 (by omega) (by omega) (by omega) (by omega)]; exact hh) (by omega) (by
      unfold mW
      rw [i1 99 41 (by omega) (by omega) (by omega) (by omega)]
      exact hw) r1 r2 r3 r4 hN
    refine ⟨S', ⟨fun i j h1 h2 h3 h4 => ?_, ?_, fun g' hg' => ?_⟩, ?_⟩
    · rw [b7 i j h1 h2 (by omega) h4]
      exact i1 i j h1 h2 h3 h4
    · rw [b6, i2, drB_snoc, Nat.zero_add]
    · by_cases hgg : g' = g
      · subst hgg
        dsimp only
        rw [if_pos (Nat.lt_succ_self _)]
        exact ⟨b2, b3, b4, b5⟩
      · rw [b7 32 g' (by omega) (by omega) (by omega) (by omega), b7 33 g' (by omega) (by omega) (by omega) (by omega), b7 34 g' (by omega) (by omega) (by omega) (by omega), b7 35 g' (by omega) (by omega) (by omega) (by omega)]
        have := i3 g' hg'
        dsimp only at this ⊢
        by_cases hl : g' < g
        · rw [if_pos hl] at this
          rw [if_pos (by omega)]
          exact this
        · rw [if_neg hl] at this
          rw [if_neg (by omega)]
          exact this
    · show fX12_anHour_b82 N (fX12_anHour_h82 N f) (nI g) S = _
      unfold fX12_anHour_b82
      rw [i1 5 1 (by omega) (by omega) (by omega) (by omega), hM.2.1, if_neg (nI_ge hg (by omega))]
      exact b1
end
end

/-! part 46.amhour -/
section
theorem hoR_cases {r : Nat → Int32} {x : Int32} : ∀ (m k : Nat), (hoR r x m k = -1 ∧ ∀ i, k ≤ i → i < k + m → r i ≠ x) ∨ ∃ g, k ≤ g ∧ g < k + m ∧ r g = x ∧ hoR r x m k = nI g := by
  intro m
  induction m with
  | zero => intro k; exact Or.inl ⟨rfl, fun i h1 h2 => by omega⟩
  | succ m ih =>
    intro k
    by_cases h : r k = x
    · exact Or.inr ⟨k, Nat.le_refl _, by omega, h, if_pos h⟩
    · have e : hoR r x (m + 1) k = hoR r x m (k + 1) := if_neg h
      rw [e]
      rcases ih (k + 1) with ⟨h1, h2⟩ | ⟨g, h1, h2, h3, h4⟩
      · refine Or.inl ⟨h1, fun i a b => ?_⟩
        by_cases hi : i = k
        · subst hi; exact h
        · exact h2 i (by omega) (by omega)
      · exact Or.inr ⟨g, by omega, by omega, h3, h4⟩
section
variable {N g k h f : Nat} {Z S : gS} {we : Int32}
theorem m_pr48 {r : Int32 → gS → Option (Int32 × gS)} (Zk : tOK Z) (hM : tM Z S) (hg : g < 6) (hk : k < tn0 Z) (h35 : S 35 g = nI k) (hh : S 99 37 = nI h) (hb : h < 2 ^ 31) (hw : mW Z S we h) (hN : 700 < N) : ∃ S', fX12_anHour_h48 N r (f + 3) (nI k) (nI g) 0 S = r (nI (k + 1)) S' ∧ S' 32 g = prD Z k (S 32 g) (S 33 g) we (S 99 37) (S 18 g) ∧ (∀ i j, i ≠ 42 → i ≠ 43 → ¬ (i = 32 ∧ j = g) → S' i j = S i j) := by
  have z8 := Zk.1.2
  have hng : ¬ nI g = -1 := nI_nem (by omega)
  have hkc : (nI k).toNatClampNeg = k := nI_clamp (by omega)
  have hik : inb (nI k) 16 = true := inb_t (by omega) (by decide)
  obtain ⟨-, -, -, h4⟩ := Zk.2.2.2.2.1 k hk
  have m4 := (hM.2.2.2.2.2.2.2.1 k hk).2.2.2
  obtain ⟨S1, p1, p2⟩ := m_pray (N := N) Zk hM hg hk h35 hh hb hw hN
  have q1 : ∀ i j, i ≠ 42 → i ≠ 43 → ¬ (i = 32 ∧ j = g) → sU S1 32 g (prZ Z k (S 32 g) (S 33 g) we (S 99 37) (S 18 g)) i j = S i j := fun i j a1 a2 a3 => by rw [sU_n a3, p2 i j (mRu_f a1 a2)]
  have st0 : ∀ F, fX12_anHour_b48 N r F (nI k) (nI g) 0 S = F (nI k) (nI g) 1 (sU S1 32 g (prZ Z k (S 32 g) (S 33 g) we (S 99 37) (S 18 g))) := by
    intro F
    unfold fX12_anHour_b48
    rw [if_neg hng]
    unfold fX12_anHour_b53
    rw [chk_t hik, hkc, m4, if_neg (by rcases h4 with h4 | h4 <;> rw [h4] <;> decide)]
    unfold fX12_anHour_b63
    rw [bnd_t p1]
    rfl
  show ∃ S', fX12_anHour_b48 N r (fX12_anHour_h48 N r (f + 2)) (nI k) (nI g) 0 S = _ ∧ _
  rw [st0]
  show ∃ S', fX12_anHour_b48 N r (fX12_anHour_h48 N r (f + 1)) (nI k) (nI g) 1 _ = _ ∧ _
  generalize hS2 : sU S1 32 g (prZ Z k (S 32 g) (S 33 g) we (S 99 37) (S 18 g)) = S2 at q1
  have v2 : S2 32 g = prZ Z k (S 32 g) (S 33 g) we (S 99 37) (S 18 g) := by rw [← hS2, sU_s]
  unfold fX12_anHour_b48
  rw [if_neg hng]
  unfold fX12_anHour_b53
  rw [chk_t hik, hkc, q1 6 k (by omega) (by omega) (by omega), m4]
  rcases h4 with h4 | h4
  · rw [if_pos (by rw [h4]; decide)]
    refine ⟨S2, ?_, ?_, q1⟩
    · unfold fX12_anHour_b74
      rw [nI_1]
    · unfold prD
      rw [if_pos h4]
      exact v2
  · have h4' : ¬ Z 4 k = 0 := by rw [h4]; decide
    rw [if_neg (by rw [h4]; decide)]
    unfold fX12_anHour_b63
    obtain ⟨S3, p3, p4⟩ := m_pray (N := N) (S := S2) (we := we) (h := h) Zk (hM.on (fun i j a1 a2 => q1 i j (by omega) (by omega) (by omega))) hg hk (by rw [q1 35 g (by omega) (by omega) (by omega)]; exact h35) (by rw [q1 99 37 (by omega) (by omega) (by omega)]; exact hh) hb (by
      unfold mW
      rw [q1 99 41 (by omega) (by omega) (by omega)]
      exact hw) hN
    rw [bnd_t p3]
    show ∃ S', fX12_anHour_b48 N r (fX12_anHour_h48 N r f) (nI k) (nI g) 2 (sU S3 32 g (prZ Z k (S2 32 g) (S2 33 g) we (S2 99 37) (S2 18 g))) = _ ∧ _
    have q3 : ∀ x i j, i ≠ 42 → i ≠ 43 → ¬ (i = 32 ∧ j = g) → sU S3 32 g x i j = S i j := fun x i j a1 a2 a3 => by rw [sU_n a3, p4 i j (mRu_f a1 a2), q1 i j a1 a2 a3]
    unfold fX12_anHour_b48
    rw [if_neg hng]
    unfold fX12_anHour_b53
    rw [chk_t hik, hkc, q3 _ 6 k (by omega) (by omega) (by omega), m4, if_pos (by rw [h4]; decide)]
    refine ⟨_, ?_, ?_, q3 (prD Z k (S 32 g) (S 33 g) we (S 99 37) (S 18 g))⟩
    · unfold fX12_anHour_b74 prD
      rw [nI_1, if_neg h4', v2, q1 33 g (by omega) (by omega) (by omega), q1 99 37 (by omega) (by omega) (by omega), q1 18 g (by omega) (by omega) (by omega)]
    · rw [sU_s]
end
section
variable {N h : Nat} {Z : gS} {we d : Int32} {e : Nat → Int32} {qs : Nat → qT}
theorem m_anHour {S : gS} (Zk : tOK Z) (qo : ∀ g, g < tn1 Z → hOK (tn0 Z) (qs g)) (uq : ∀ g g', g < tn1 Z → g' < tn1 Z → (qs g).2.2.2 = (qs g').2.2.2 → (qs g).2.2.2 ≠ -1 → g = g') (hb : h < 2 ^ 30) (hN : 700 < N) (hM : tM Z S) (he : ∀ g, g < tn1 Z → S 18 g = e g) (hh : S 99 37 = nI h) (hd : S 99 38 = d) (hw : mW Z S we h) (hw0 : 0 ≤ we) (R : rowsM (tn1 Z) S qs) :
    ∃ S', fX12_anHour N S = some (0, S') ∧ rowsM (tn1 Z) S' (fun g => (hG Z (e g) d we (nI h) (qs g)).2) ∧ S' 99 37 = nI (h + 1) ∧ S' 99 45 = drB (fun g => (hG Z (e g) d we (nI h) (qs g)).1) (tn1 Z) 0 0 ∧ oSame mHo S S' := by
  have z8 := Zk.1.2
  have z6 := Zk.2.1.2
  have hB : fX12_drippingNow N S = some (drB (fun k => drZ Z k (nI h) we d) (tn0 Z) 0 0, S) := by
    rw [m_drippingNow (n := tn0 Z) hM.1 z8 (fun k hk => by
      obtain ⟨⟨x, x1, x2, x3⟩, -⟩ := Zk.2.2.2.2.1 k hk
      exact ⟨x, x1, x2, (hM.2.2.2.2.2.2.2.1 k hk).1.trans x3⟩) (m_wetW Zk hM hh (by omega) hw) hw0 (by omega)]
    refine congrArg (fun z => some (z, S)) (drB_eq _ _ _ (fun k _ hk => ?_))
    obtain ⟨m1, m2, -, -⟩ := hM.2.2.2.2.2.2.2.1 k (by omega)
    unfold drZ
    rw [m1, m2, hh, hd]
  have hbt : ∀ k, k < tn0 Z → bt (drB (fun k => drZ Z k (nI h) we d) (tn0 Z) 0 0) (nI k) = drZ Z k (nI h) we d := by
    intro k hk
    rw [bt_bb (by omega), bb_drB (by omega) (tn0 Z) 0 0 (by omega), bb_0, decide_eq_true (p := 0 ≤ k) (by omega), decide_eq_true (p := k < 0 + tn0 Z) (by omega)]
    simp
  obtain ⟨S0, hS0⟩ : ∃ z, z = sU (sU S 99 44 (drB (fun k => drZ Z k (nI h) we d) (tn0 Z) 0 0)) 99 45 0 := ⟨_, rfl⟩
  have s0 : ∀ i j, ¬ (i = 99 ∧ (j = 44 ∨ j = 45)) → S0 i j = S i j := fun i j hij => by rw [hS0, sU_n (by omega), sU_n (by omega)]
  have h44 : S0 99 44 = drB (fun k => drZ Z k (nI h) we d) (tn0 Z) 0 0 := by rw [hS0, sU_n (by omega), sU_s]
  have h45 : S0 99 45 = 0 := by rw [hS0, sU_s]
  have main : Gv (fX12_anHour_h15 N N 0 S0) (fun r => r.1 = 0 ∧ rowsM (tn1 Z) r.2 (fun g => (hG Z (e g) d we (nI h) (qs g)).2) ∧ r.2 99 37 = nI (h + 1) ∧ r.2 99 45 = drB (fun g => (hG Z (e g) d we (nI h) (qs g)).1) (tn1 Z) 0 0 ∧ oSame mHo S r.2) := by
    refine loopG (fun f k S => fX12_anHour_h15 N f (nI k) S) (fun k S' => (∀ i j, i ≠ 42 → i ≠ 43 → ¬ (i = 32 ∧ j < 6) → S' i j = S0 i j) ∧ ∀ g, g < tn1 Z → S' 32 g = if qk (qs g) < k then sn1 Z (e g) d we (nI h) (qs g) else (qs g).1) _ (tn0 Z) ?_ ?_ (tn0 Z) 0 S0 N (by omega) ⟨fun _ _ _ _ _ => rfl, fun g hg => by rw [if_neg (by omega), s0 32 g (by omega)]; exact (R g hg).1⟩ (by omega)
    · rintro f S1 ⟨i1, i2⟩
      show Gv (fX12_anHour_b15 N _ (nI (tn0 Z)) S1) _
      unfold fX12_anHour_b15
      rw [i1 5 0 (by omega) (by omega) (by omega), s0 5 0 (by omega), hM.1, if_pos (nI_le (Nat.le_refl _) (by omega))]
      unfold fX12_anHour_b80
      have i3 : ∀ i j, i ≠ 42 → i ≠ 43 → ¬ (i = 32 ∧ j < 6) → ¬ (i = 99 ∧ (j = 44 ∨ j = 45)) → S1 i j = S i j := fun i j a1 a2 a3 a4 => (i1 i j a1 a2 a3).trans (s0 i j a4)
      refine Gv.m (m_h82 (e := e) (we := we) (h := h) (qs := fun g => (sn1 Z (e g) d we (nI h) (qs g), (qs g).2)) Zk (fun g hg => qo g hg) hb hN (hM.on (fun i j a1 a2 => i3 i j (by omega) (by omega) (by omega) (by omega))) (fun g hg => by rw [i3 18 g (by omega) (by omega) (by omega) (by omega)]; exact he g hg) (by rw [i3 99 37 (by omega) (by omega) (by omega) (by omega)]; exact hh) (by
        unfold mW
        rw [i3 99 41 (by omega) (by omega) (by omega) (by omega)]
        exact hw) (fun g hg => ?_) (by rw [i1 99 45 (by omega) (by omega) (by omega)]; exact h45)) ?_
      · obtain ⟨r1, r2, r3, r4⟩ := R g hg
        have hl : qk (qs g) < tn0 Z ∨ (qs g).2.2.2 = -1 := by
          rcases qo g hg with h9 | ⟨k, hk, h9⟩
          · exact Or.inr h9
          · refine Or.inl ?_
            unfold qk
            rw [h9, nI_clamp (by omega)]
            exact hk
        refine ⟨?_, by rw [i3 33 g (by omega) (by omega) (by omega) (by omega)]; exact r2, by rw [i3 34 g (by omega) (by omega) (by omega) (by omega)]; exact r3, by rw [i3 35 g (by omega) (by omega) (by omega) (by omega)]; exact r4⟩
        rw [i2 g hg]
        by_cases h8 : qk (qs g) < tn0 Z
        · rw [if_pos h8]
        · rw [if_neg h8]
          have h9 : (qs g).2.2.2 = -1 := hl.resolve_left h8
          show (qs g).1 = sn1 Z (e g) d we (nI h) (qs g)
          unfold sn1
          rw [if_pos h9]
      · rintro r ⟨a1, a2, a3, a4, a5⟩
        refine ⟨a1, a2, a3, a4, fun i j hij => ?_⟩
        obtain ⟨b1, b2, b3, b4⟩ := mHo_f hij
        rw [a5 i j hij]
        exact i3 i j b1 b2 (by omega) (by omega)
    · rintro f k S1 hk ⟨i1, i2⟩
      refine Or.inr ?_
      have i3 : ∀ i j, i ≠ 42 → i ≠ 43 → ¬ (i = 32 ∧ j < 6) → ¬ (i = 99 ∧ (j = 44 ∨ j = 45)) → S1 i j = S i j := fun i j a1 a2 a3 a4 => (i1 i j a1 a2 a3).trans (s0 i j a4)
      have hF : fX12_anHour_h15 N (f + 1) (nI k) S1 = if iv (drZ Z k (nI h) we d) = 0 then fX12_anHour_b44 N (fX12_anHour_h15 N f) (nI k) S1 else fX12_anHour_b36 N (fX12_anHour_h15 N f) (nI k) S1 := by
        show fX12_anHour_b15 N (fX12_anHour_h15 N f) (nI k) S1 = _
        unfold fX12_anHour_b15
        rw [i1 5 0 (by omega) (by omega) (by omega), s0 5 0 (by omega), hM.1, if_neg (nI_ge hk (by omega))]
        unfold fX12_anHour_b25
        rw [i1 99 44 (by omega) (by omega) (by omega), h44, bnd_t m_isOf, hbt k hk]
      obtain ⟨N3, hN3⟩ : ∃ z, N = z + 3 := ⟨N - 3, by omega⟩
      have skip : fX12_anHour_b45 N (fX12_anHour_h15 N f) (nI k) (-1) S1 = fX12_anHour_h15 N f (nI (k + 1)) S1 := by
        unfold fX12_anHour_b45
        have : ∀ M, fX12_anHour_h48 N (fX12_anHour_h15 N f) (M + 1) (nI k) (-1) 0 S1 = fX12_anHour_h15 N f (nI (k + 1)) S1 := by
          intro M
          show fX12_anHour_b48 N (fX12_anHour_h15 N f) _ (nI k) (-1) 0 S1 = _
          unfold fX12_anHour_b48
          rw [if_pos rfl]
          unfold fX12_anHour_b74
          rw [nI_1]
        have h9 := this (N - 1)
        rw [show N - 1 + 1 = N by omega] at h9
        exact h9
      have keepI : ∀ (hno : ∀ g, g < tn1 Z → qk (qs g) = k → sn1 Z (e g) d we (nI h) (qs g) = (qs g).1), (∀ i j, i ≠ 42 → i ≠ 43 → ¬ (i = 32 ∧ j < 6) → S1 i j = S0 i j) ∧ ∀ g, g < tn1 Z → S1 32 g = if qk (qs g) < k + 1 then sn1 Z (e g) d we (nI h) (qs g) else (qs g).1 := by
        intro hno
        refine ⟨i1, fun g hg => ?_⟩
        rw [i2 g hg]
        by_cases h8 : qk (qs g) < k
        · rw [if_pos h8, if_pos (by omega)]
        · rw [if_neg h8]
          by_cases h7 : qk (qs g) = k
          · rw [if_pos (by omega), hno g hg h7]
          · rw [if_neg (by omega)]
      cases hdr : drZ Z k (nI h) we d with
      | false =>
        refine ⟨S1, keepI (fun g hg hqk => ?_), ?_⟩
        · unfold sn1
          by_cases h9 : (qs g).2.2.2 = -1
          · rw [if_pos h9]
          · rw [if_neg h9, hqk, hdr]
            rfl
        · show fX12_anHour_h15 N (f + 1) (nI k) S1 = _
          rw [hF, hdr]
          exact skip
      | true =>
        have hF2 : fX12_anHour_h15 N (f + 1) (nI k) S1 = fX12_anHour_b45 N (fX12_anHour_h15 N f) (nI k) (hoR (S1 35) (nI k) (tn1 Z) 0) S1 := by
          rw [hF, hdr]
          show fX12_anHour_b36 N (fX12_anHour_h15 N f) (nI k) S1 = _
          unfold fX12_anHour_b36
          rw [bnd_t (m_hirerOf (by rw [i3 5 1 (by omega) (by omega) (by omega) (by omega)]; exact hM.2.1) z6 (by omega))]
        have r35 : ∀ g, g < tn1 Z → S1 35 g = (qs g).2.2.2 := fun g hg => by
          rw [i3 35 g (by omega) (by omega) (by omega) (by omega)]
          exact (R g hg).2.2.2
        have hq3 : ∀ g, g < tn1 Z → qk (qs g) = k → (qs g).2.2.2 = -1 ∨ (qs g).2.2.2 = nI k := by
          intro g hg hqk
          rcases qo g hg with h9 | ⟨k', hk', h9⟩
          · exact Or.inl h9
          · unfold qk at hqk
            rw [h9, nI_clamp (by omega)] at hqk
            exact Or.inr (by rw [h9, hqk])
        rcases hoR_cases (r := S1 35) (x := nI k) (tn1 Z) 0 with ⟨o1, o2⟩ | ⟨g0, -, g1, o2, o1⟩
        · refine ⟨S1, keepI (fun g hg hqk => ?_), ?_⟩
          · unfold sn1
            rcases hq3 g hg hqk with h9 | h9
            · rw [if_pos h9]
            · exact absurd ((r35 g hg).trans h9) (o2 g (by omega) (by omega))
          · show fX12_anHour_h15 N (f + 1) (nI k) S1 = _
            rw [hF2, o1]
            exact skip
        · have hg0 : g0 < tn1 Z := by omega
          have hk0 : (qs g0).2.2.2 = nI k := (r35 g0 hg0).symm.trans o2
          have hkk : qk (qs g0) = k := by
            unfold qk
            rw [hk0, nI_clamp (by omega)]
          obtain ⟨S2, t1, t2, t3⟩ := m_pr48 (N := N) (f := N3) (g := g0) (k := k) (h := h) (we := we) (S := S1) (r := fX12_anHour_h15 N f) Zk (hM.on (fun i j a1 a2 => i3 i j (by omega) (by omega) (by omega) (by omega))) (by omega) hk o2 (by rw [i3 99 37 (by omega) (by omega) (by omega) (by omega)]; exact hh) (by omega) (by
            unfold mW
            rw [i3 99 41 (by omega) (by omega) (by omega) (by omega)]
            exact hw) hN
          refine ⟨S2, ⟨fun i j a1 a2 a3 => (t3 i j a1 a2 (by omega)).trans (i1 i j a1 a2 a3), fun g hg => ?_⟩, ?_⟩
          · by_cases hgg : g = g0
            · subst hgg
              rw [t2, if_pos (by omega), i2 g hg, if_neg (by omega), i3 33 g (by omega) (by omega) (by omega) (by omega), (R g hg).2.1, i3 99 37 (by omega) (by omega) (by omega) (by omega), hh, i3 18 g (by omega) (by omega) (by omega) (by omega), he g hg]
              unfold sn1
              rw [if_neg (by rw [hk0]; exact nI_nem (by omega)), hkk, hdr, if_pos rfl]
            · rw [t3 32 g (by omega) (by omega) (by omega), i2 g hg]
              by_cases h8 : qk (qs g) < k
              · rw [if_pos h8, if_pos (by omega)]
              · rw [if_neg h8]
                by_cases h7 : qk (qs g) = k
                · rw [if_pos (by omega)]
                  unfold sn1
                  rcases hq3 g hg h7 with h9 | h9
                  · rw [if_pos h9]
                  · exact absurd (uq g g0 hg hg0 (h9.trans hk0.symm) (by rw [h9]; exact nI_nem (by omega))) hgg
                · rw [if_neg (by omega)]
          · show fX12_anHour_h15 N (f + 1) (nI k) S1 = _
            rw [hF2, o1]
            unfold fX12_anHour_b45
            rw [← hN3] at t1
            exact t1
  obtain ⟨⟨v, S'⟩, r1, r2, r3⟩ := main
  dsimp only at r2 r3
  subst r2
  refine ⟨S', ?_, r3⟩
  unfold fX12_anHour fX12_anHour_b0
  rw [bnd_t hB]
  dsimp only [lt]
  rw [← hS0]
  exact r1
end
end

/-! part 47.asit -/
section
/-! what is so now, as a picture; ways of GUILDS through HOURS -/
noncomputable def trj (Z : gS) (e d : Int32) (wf : Nat → Int32) (h : Nat) (q : qT) : Nat → qT
  | 0 => q
  | n + 1 => (hG Z e d (wf (h + n)) (nI (h + n)) (trj Z e d wf h q n)).2
noncomputable def trB (Z : gS) (e d : Int32) (wf : Nat → Int32) (h : Nat) (q : qT) (n : Nat) : Bool := (hG Z e d (wf (h + n)) (nI (h + n)) (trj Z e d wf h q n)).1
def eOK (e : Int32) : Prop := ∃ x : Nat, x ≤ 9 ∧ e = nI x
theorem trj_ok {Z : gS} {e d : Int32} {wf : Nat → Int32} {h n0 : Nat} {q : qT} (hq : qOK n0 q) (he : eOK e) : ∀ n, qOK n0 (trj Z e d wf h q n) := by
  intro n
  induction n with
  | zero => exact hq
  | succ n ih => exact hG_ok ih he
theorem trj_hired {Z : gS} {e d : Int32} {wf : Nat → Int32} {h : Nat} {q : qT} : ∀ n, (trj Z e d wf h q n).2.2.2 = -1 ∨ (trj Z e d wf h q n).2.2.2 = q.2.2.2 := by
  intro n
  induction n with
  | zero => exact Or.inr rfl
  | succ n ih =>
    rcases hG_hired (Z := Z) (e := e) (d := d) (we := wf (h + n)) (ho := nI (h + n)) (q := trj Z e d wf h q n) with h1 | h1
    · exact Or.inl h1
    · rcases ih with h2 | h2
      · exact Or.inl (h1.trans h2)
      · exact Or.inr (h1.trans h2)
def qsOK (Z : gS) (e : Nat → Int32) (qs : Nat → qT) : Prop := (∀ g, g < tn1 Z → qOK (tn0 Z) (qs g)) ∧ (∀ g g', g < tn1 Z → g' < tn1 Z → (qs g).2.2.2 = (qs g').2.2.2 → (qs g).2.2.2 ≠ -1 → g = g') ∧ ∀ g, g < tn1 Z → eOK (e g)
def mSit (Z S : gS) (h : Nat) (d : Int32) (e : Nat → Int32) (qs : Nat → qT) : Prop := tM Z S ∧ (∀ g, g < tn1 Z → S 18 g = e g) ∧ S 99 37 = nI h ∧ S 99 38 = d ∧ rowsM (tn1 Z) S qs
noncomputable def nxt (Z : gS) (h : Nat) (d we : Int32) (e : Nat → Int32) (qs : Nat → qT) : Nat → qT := fun g => (hG Z (e g) d we (nI h) (qs g)).2
theorem qsOK.nx {Z : gS} {h : Nat} {d we : Int32} {e : Nat → Int32} {qs : Nat → qT} (K : qsOK Z e qs) : qsOK Z e (nxt Z h d we e qs) := by
  obtain ⟨k1, k2, k3⟩ := K
  refine ⟨fun g hg => hG_ok (k1 g hg) (k3 g hg), fun g g' hg hg' h1 h2 => ?_, k3⟩
  rcases hG_hired (Z := Z) (e := e g) (d := d) (we := we) (ho := nI h) (q := qs g) with a | a
  · exact absurd a h2
  · rcases hG_hired (Z := Z) (e := e g') (d := d) (we := we) (ho := nI h) (q := qs g') with b | b
    · exact absurd (h1.trans b) h2
    · exact k2 g g' hg hg' (a.symm.trans (h1.trans b)) (fun q => h2 (a.trans q))
theorem qsOK.tr {Z : gS} {h : Nat} {d : Int32} {wf : Nat → Int32} {e : Nat → Int32} {qs : Nat → qT} (K : qsOK Z e qs) (n : Nat) : qsOK Z e (fun g => trj Z (e g) d wf h (qs g) n) := by
  induction n with
  | zero => exact K
  | succ n ih => exact ih.nx (h := h + n) (d := d) (we := wf (h + n))
def qsH (Z : gS) (qs : Nat → qT) : Prop := (∀ g, g < tn1 Z → hOK (tn0 Z) (qs g)) ∧ ∀ g g', g < tn1 Z → g' < tn1 Z → (qs g).2.2.2 = (qs g').2.2.2 → (qs g).2.2.2 ≠ -1 → g = g'
theorem qsOK.h {Z : gS} {e : Nat → Int32} {qs : Nat → qT} (K : qsOK Z e qs) : qsH Z qs := ⟨fun g hg => (K.1 g hg).2.2.2, K.2.1⟩
theorem qsH.nx {Z : gS} {h : Nat} {d we : Int32} {e : Nat → Int32} {qs : Nat → qT} (K : qsH Z qs) : qsH Z (nxt Z h d we e qs) := by
  obtain ⟨k1, k2⟩ := K
  refine ⟨fun g hg => ?_, fun g g' hg hg' h1 h2 => ?_⟩
  · rcases hG_hired (Z := Z) (e := e g) (d := d) (we := we) (ho := nI h) (q := qs g) with a | a
    · exact Or.inl a
    · unfold hOK
      rw [show (nxt Z h d we e qs g).2.2.2 = (qs g).2.2.2 from a]
      exact k1 g hg
  · rcases hG_hired (Z := Z) (e := e g) (d := d) (we := we) (ho := nI h) (q := qs g) with a | a
    · exact absurd a h2
    · rcases hG_hired (Z := Z) (e := e g') (d := d) (we := we) (ho := nI h) (q := qs g') with b | b
      · exact absurd (h1.trans b) h2
      · exact k2 g g' hg hg' (a.symm.trans (h1.trans b)) (fun q => h2 (a.trans q))
theorem qsH.tr {Z : gS} {h : Nat} {d : Int32} {wf : Nat → Int32} {e : Nat → Int32} {qs : Nat → qT} (K : qsH Z qs) (n : Nat) : qsH Z (fun g => trj Z (e g) d wf h (qs g) n) := by
  induction n with
  | zero => exact K
  | succ n ih => exact ih.nx (h := h + n) (d := d) (we := wf (h + n)) (e := e)
theorem wetZ_pos {Z : gS} {h : Nat} (Zk : tOK Z) : 0 ≤ wetZ Z h := wetS_pos Zk.2.2.1.2.2
theorem mHo.sit0 {Z S S' : gS} {e : Nat → Int32} (s : oSame mHo S S') (hM : tM Z S) (he : ∀ g, g < tn1 Z → S 18 g = e g) : tM Z S' ∧ (∀ g, g < tn1 Z → S' 18 g = e g) ∧ S' 99 38 = S 99 38 ∧ S' 99 41 = S 99 41 := by
  refine ⟨hM.on (fun i j h1 h2 => s i j ?_), fun g hg => by rw [s 18 g rfl]; exact he g hg, s 99 38 rfl, s 99 41 rfl⟩
  rcases (show i = 5 ∨ i = 6 ∨ i = 7 ∨ i = 8 ∨ i = 9 ∨ i = 10 ∨ i = 11 ∨ i = 12 ∨ i = 13 ∨ i = 14 ∨ i = 15 ∨ i = 16 by omega) with rfl | rfl | rfl | rfl | rfl | rfl | rfl | rfl | rfl | rfl | rfl | rfl <;> rfl
section
variable {N h : Nat} {Z S : gS} {d we : Int32} {e : Nat → Int32} {qs : Nat → qT}
theorem m_step (Zk : tOK Z) (K : qsH Z qs) (hb : h < 2 ^ 30) (hN : 700 < N) (M : mSit Z S h d e qs) (hw : mW Z S we h) (hw0 : 0 ≤ we) : ∃ S', fX12_anHour N S = some (0, S') ∧ mSit Z S' (h + 1) d e (nxt Z h d we e qs) ∧ S' 99 45 = drB (fun g => (hG Z (e g) d we (nI h) (qs g)).1) (tn1 Z) 0 0 ∧ oSame mHo S S' := by
  obtain ⟨m1, m2, m3, m4, m5⟩ := M
  obtain ⟨S', r1, r2, r3, r4, r5⟩ := m_anHour (N := N) Zk K.1 K.2 hb hN m1 m2 m3 m4 hw hw0 m5
  obtain ⟨a1, a2, a3, a4⟩ := mHo.sit0 r5 m1 m2
  exact ⟨S', r1, ⟨a1, a2, r3, a3.trans m4, r2⟩, r4, r5⟩
theorem m_step1 (Zk : tOK Z) (K : qsH Z qs) (hb : h < 2 ^ 30) (hN : 700 < N) (M : mSit Z S h d e qs) (h41 : S 99 41 = -1) : ∃ S', fX12_anHour N S = some (0, S') ∧ mSit Z S' (h + 1) d e (nxt Z h d (wetZ Z h) e qs) ∧ S' 99 45 = drB (fun g => (hG Z (e g) d (wetZ Z h) (nI h) (qs g)).1) (tn1 Z) 0 0 ∧ oSame mHo S S' := m_step Zk K hb hN M (Or.inr ⟨h41, rfl⟩) (wetZ_pos Zk)
theorem m_goOn {n : Nat} (Zk : tOK Z) (K : qsH Z qs) (hb : h + n < 2 ^ 30) (hN : 700 < N) (hn : n < 700) (M : mSit Z S h d e qs) (h41 : S 99 41 = -1) : ∃ S', fX12_goOn N (nI n) S = some (0, S') ∧ mSit Z S' (h + n) d e (fun g => trj Z (e g) d (wetZ Z) h (qs g) n) ∧ oSame mHo S S' := by
  have main : Gv (fX12_goOn_h2 N N (nI n) 0 S) (fun r => r.1 = 0 ∧ mSit Z r.2 (h + n) d e (fun g => trj Z (e g) d (wetZ Z) h (qs g) n) ∧ oSame mHo S r.2) := by
    refine loopG (fun f k S => fX12_goOn_h2 N f (nI n) (nI k) S) (fun k S' => mSit Z S' (h + k) d e (fun g => trj Z (e g) d (wetZ Z) h (qs g) k) ∧ oSame mHo S S') _ n ?_ ?_ n 0 S N (by omega) ⟨M, oSame.rf⟩ (by omega)
    · rintro f S1 ⟨i1, i2⟩
      show Gv (fX12_goOn_b2 N _ (nI n) (nI n) S1) _
      unfold fX12_goOn_b2
      rw [if_pos (nI_le (Nat.le_refl _) (by omega))]
      exact ⟨(0, S1), rfl, rfl, i1, i2⟩
    · rintro f k S1 hk ⟨i1, i2⟩
      refine Or.inr ?_
      obtain ⟨S2, r1, r2, -, r4⟩ := m_step1 (N := N) Zk (K.tr (wf := wetZ Z) (h := h) (d := d) (e := e) k) (by omega) hN i1 (by rw [i2 99 41 rfl]; exact h41)
      refine ⟨S2, ⟨r2, i2.tr r4⟩, ?_⟩
      show fX12_goOn_b2 N (fX12_goOn_h2 N f) (nI n) (nI k) S1 = _
      unfold fX12_goOn_b2
      rw [if_neg (nI_ge hk (by omega))]
      unfold fX12_goOn_b7
      rw [bnd_t r1, nI_1]
  obtain ⟨⟨v, S'⟩, r1, r2, r3⟩ := main
  dsimp only at r2 r3
  subst r2
  exact ⟨S', r1, r3⟩
end
/-! the class's side -/
def cSit (nd : Nat) (Z S : gS) (h : Nat) (d : Int32) (qs : Nat → qT) : Prop := tXz (xtw S) Z S ∧ S nd 0 = nI h ∧ S nd 1 = d ∧ ∀ g, g < tn1 Z → S (nd + 1) g = (qs g).1 ∧ S (nd + 2) g = (qs g).2.1 ∧ S (nd + 3) g = (qs g).2.2.1 ∧ S (nd + 4) g = (qs g).2.2.2
theorem xWk_f {i j : Nat} (h : i ≠ 51 ∧ i ≠ 16 ∧ i ≠ 19 ∧ i ≠ 84 ∧ i ≠ 87) : xWk i j = false := by
  unfold xWk
  rw [beq_false_of_ne h.1, beq_false_of_ne h.2.1, beq_false_of_ne h.2.2.1, beq_false_of_ne h.2.2.2.1, beq_false_of_ne h.2.2.2.2]
  rfl
theorem xWk.tw {S S' : gS} (s : oSame xWk S S') : xtw S' = xtw S := by
  unfold xtw
  rw [s 0 7 rfl]
theorem xWk.same {S S' : gS} (s : oSame xWk S S') : xSame S S' := by
  intro i j h
  refine s i j (xWk_f ?_)
  refine ⟨?_, ?_, ?_, ?_, ?_⟩ <;> intro q <;> rw [q] at h <;> cases h
theorem cSit.on {nd : Nat} {Z S S' : gS} {h : Nat} {d : Int32} {qs : Nat → qT} (hnd : nd = 21 ∨ nd = 46) (C : cSit nd Z S h d qs) (s : oSame xWk S S') : cSit nd Z S' h d qs := by
  obtain ⟨c1, c2, c3, c4⟩ := C
  have hs : ∀ i j, nd ≤ i → i ≤ nd + 4 → S' i j = S i j := fun i j h1 h2 => s i j (xWk_f (by omega))
  refine ⟨by rw [xWk.tw s]; exact c1.on xtw_cases s, by rw [hs nd 0 (by omega) (by omega)]; exact c2, by rw [hs nd 1 (by omega) (by omega)]; exact c3, fun g hg => ?_⟩
  rw [hs (nd + 1) g (by omega) (by omega), hs (nd + 2) g (by omega) (by omega), hs (nd + 3) g (by omega) (by omega), hs (nd + 4) g (by omega) (by omega)]
  exact c4 g hg
section
variable {N nd h g : Nat} {Z S : gS} {d : Int32} {qs : Nat → qT}
theorem x_begin6 (hnd : nd = 21 ∨ nd = 46) (Zk : tOK Z) (C : cSit nd Z S h d qs) (hg : g < tn1 Z) (hb : h < 2 ^ 31) : ∃ S', fX10_begin N (xtw S) nd (nI g) S = some (0, S') ∧ wkA S' (Z 5 g) d (nI h) (qs g) ∧ oSame xWk S S' ∧ S' 51 6 = wetZ Z h := by
  obtain ⟨c1, c2, c3, c4⟩ := C
  obtain ⟨g1, g2, g3, g4⟩ := c4 g hg
  have z6 := Zk.2.1.2
  have hT := xtw_cases (S := S)
  generalize hTT : xtw S = T at c1 hT ⊢
  have hgc : (nI g).toNatClampNeg = g := nI_clamp (by omega)
  have hin : inb (nI g) 6 = true := inb_t (by omega) (by decide)
  have t5 : S T 5 = nI (tn1 Z) := (c1 0 5 (by omega) (by omega)).trans Zk.2.1.1
  obtain ⟨S1, e1⟩ : ∃ z, z = sU S 51 0 (Z 5 g) := ⟨_, rfl⟩
  have s1 : ∀ i j, i ≠ 51 → S1 i j = S i j := fun i j hi => by rw [e1, sU_n (by omega)]
  obtain ⟨S2, e2⟩ : ∃ z, z = sU S1 51 1 (qs g).1 := ⟨_, rfl⟩
  have s2 : ∀ i j, i ≠ 51 → S2 i j = S i j := fun i j hi => by rw [e2, sU_n (by omega), s1 i j hi]
  obtain ⟨S3, e3⟩ : ∃ z, z = sU S2 51 2 (qs g).2.1 := ⟨_, rfl⟩
  have s3 : ∀ i j, i ≠ 51 → S3 i j = S i j := fun i j hi => by rw [e3, sU_n (by omega), s2 i j hi]
  obtain ⟨S4, e4⟩ : ∃ z, z = sU S3 51 3 (qs g).2.2.1 := ⟨_, rfl⟩
  have s4 : ∀ i j, i ≠ 51 → S4 i j = S i j := fun i j hi => by rw [e4, sU_n (by omega), s3 i j hi]
  obtain ⟨S5, e5⟩ : ∃ z, z = sU S4 51 4 (qs g).2.2.2 := ⟨_, rfl⟩
  have s5 : ∀ i j, i ≠ 51 → S5 i j = S i j := fun i j hi => by rw [e5, sU_n (by omega), s4 i j hi]
  obtain ⟨S6, e6⟩ : ∃ z, z = sU S5 51 5 (nI h) := ⟨_, rfl⟩
  have s6 : ∀ i j, i ≠ 51 → S6 i j = S i j := fun i j hi => by rw [e6, sU_n (by omega), s5 i j hi]
  have h65 : S6 51 5 = nI h := by rw [e6, sU_s]
  have hw : fX9_wetOf N T (nI h) S6 = some (wetS (tnw Z) (S6 (T + 9)) h, S6) := x_wetOf (by rw [s6 T 10 (by omega)]; exact (c1 0 10 (by omega) (by omega)).trans Zk.2.2.1.1) Zk.2.2.1.2.1 hb
  refine ⟨sU (sU S6 51 6 (wetS (tnw Z) (S6 (T + 9)) h)) 51 7 d, ?_, ⟨?_, ?_, ?_, ?_, ?_, ?_, sU_s⟩, fun i j hij => ?_, ?_⟩
  · unfold fX10_begin fX10_begin_b0
    rw [bnd_t (x_isGuild t5 (by omega)), inb_t hg (by omega)]
    show fX10_begin_b9 N T nd (nI g) S = _
    unfold fX10_begin_b9
    dsimp only [lt]
    rw [hgc, chk_t hin, c1 5 g (by omega) (by omega), ← e1, chk_t hin, s1 (nd + 1) g (by omega), g1, ← e2, chk_t hin, s2 (nd + 2) g (by omega), g2, ← e3, chk_t hin, s3 (nd + 3) g (by omega), g3, ← e4, chk_t hin, s4 (nd + 4) g (by omega), g4, ← e5, s5 nd 0 (by omega), c2, ← e6, h65, bnd_t hw]
    dsimp only
    rw [sU_n (i := nd) (by omega), s6 nd 1 (by omega), c3]
  · rw [sU_n (by omega), sU_n (by omega), e6, sU_n (by omega), e5, sU_n (by omega), e4, sU_n (by omega), e3, sU_n (by omega), e2, sU_n (by omega), e1, sU_s]
  · rw [sU_n (by omega), sU_n (by omega), e6, sU_n (by omega), e5, sU_n (by omega), e4, sU_n (by omega), e3, sU_n (by omega), e2, sU_s]
  · rw [sU_n (by omega), sU_n (by omega), e6, sU_n (by omega), e5, sU_n (by omega), e4, sU_n (by omega), e3, sU_s]
  · rw [sU_n (by omega), sU_n (by omega), e6, sU_n (by omega), e5, sU_n (by omega), e4, sU_s]
  · rw [sU_n (by omega), sU_n (by omega), e6, sU_n (by omega), e5, sU_s]
  · rw [sU_n (by omega), sU_n (by omega), e6, sU_s]
  · have h51 : i ≠ 51 := fun q => by rw [q] at hij; cases hij
    rw [sU_n (by omega), sU_n (by omega), s6 i j h51]
  · rw [sU_n (by omega), sU_s]
    unfold wetZ
    rw [show S6 (T + 9) = Z 9 from funext fun j => (s6 (T + 9) j (by omega)).trans (c1 9 j (by omega) (by omega))]
theorem x_begin (hnd : nd = 21 ∨ nd = 46) (Zk : tOK Z) (C : cSit nd Z S h d qs) (hg : g < tn1 Z) (hb : h < 2 ^ 31) : ∃ S', fX10_begin N (xtw S) nd (nI g) S = some (0, S') ∧ wkA S' (Z 5 g) d (nI h) (qs g) ∧ oSame xWk S S' := by
  obtain ⟨S', a, b, c, -⟩ := x_begin6 (N := N) hnd Zk C hg hb
  exact ⟨S', a, b, c⟩
end
section
variable {N h T : Nat} {Z S : gS} {d e : Int32} {q : qT}
theorem x_wetZ (Zk : tOK Z) (hx : tXz T Z S) (hb : h < 2 ^ 31) : fX9_wetOf N T (nI h) S = some (wetZ Z h, S) := by
  rw [x_wetOf (S := S) (T := T) (n := tnw Z) ((hx 0 10 (by omega) (by omega)).trans Zk.2.2.1.1) Zk.2.2.1.2.1 hb]
  unfold wetZ
  rw [show S (T + 9) = Z 9 from funext fun j => hx 9 j (by omega) (by omega)]
theorem x_passHours {n : Nat} (hT : T = 72 ∨ T = 4) (Zk : tOK Z) (hx : tXz T Z S) (hq : qOK (tn0 Z) q) (he : eOK e) (W : wkA S e d (nI h) q) (hb : h + n < 2 ^ 30) (hn : n < 700) (hN : 700 < N) : ∃ S', fX10_passHours N T (nI n) S = some (0, S') ∧ wkA S' e d (nI (h + n)) (trj Z e d (wetZ Z) h q n) ∧ oSame xWk S S' := by
  have main : Gv (fX10_passHours_h2 N N T (nI n) 0 S) (fun r => r.1 = 0 ∧ wkA r.2 e d (nI (h + n)) (trj Z e d (wetZ Z) h q n) ∧ oSame xWk S r.2) := by
    refine loopG (fun f k S => fX10_passHours_h2 N f T (nI n) (nI k) S) (fun k S' => wkA S' e d (nI (h + k)) (trj Z e d (wetZ Z) h q k) ∧ oSame xWk S S') _ n ?_ ?_ n 0 S N (by omega) ⟨W, oSame.rf⟩ (by omega)
    · rintro f S1 ⟨i1, i2⟩
      show Gv (fX10_passHours_b2 N _ T (nI n) (nI n) S1) _
      unfold fX10_passHours_b2
      rw [if_pos (nI_le (Nat.le_refl _) (by omega))]
      exact ⟨(0, S1), rfl, rfl, i1, i2⟩
    · rintro f k S1 hk ⟨i1, i2⟩
      refine Or.inr ?_
      obtain ⟨S2, r1, r2, r3⟩ := x_passHour (N := N) (we := wetZ Z (h + k)) hT Zk (hx.on hT i2) (trj_ok hq he k) he i1 hN
      refine ⟨S2, ⟨?_, i2.tr r3⟩, ?_⟩
      · rw [nI_1] at r2
        exact r2
      · show fX10_passHours_b2 N (fX10_passHours_h2 N f) T (nI n) (nI k) S1 = _
        unfold fX10_passHours_b2
        rw [if_neg (nI_ge hk (by omega))]
        unfold fX10_passHours_b7
        rw [i1.2.2.2.2.2.1, bnd_t (x_wetZ Zk (hx.on hT i2) (by omega))]
        dsimp only
        rw [bnd_t r1, nI_1]
  obtain ⟨⟨v, S'⟩, r1, r2, r3⟩ := main
  dsimp only at r2 r3
  subst r2
  exact ⟨S', r1, r3⟩
end
end

/-! part 48.aquest -/
section
/-! questions: their frame on both sides -/
theorem JJ.sit {SX SM : gS} (hJ : JJ SX SM) : ∃ (Z : gS) (h : Nat) (qs : Nat → qT), tOK Z ∧ h ≤ 999 ∧ cSit 21 Z SX h (SX 21 1) qs ∧ mSit Z SM h (SX 21 1) (Z 5) qs ∧ qsOK Z (Z 5) qs ∧ SM 99 41 = -1 ∧ ∀ n0 n1, jTown n0 n1 (xtw SX) SX SM → n0 = tn0 Z ∧ n1 = tn1 Z := by
  obtain ⟨n0, n1, hT, hN, hI, hP, hM⟩ := hJ
  obtain ⟨⟨a1, a2, a3⟩, ⟨b1, b2, b3⟩, ⟨w, w1, w2, w3, w4⟩, ⟨b, d1, d2, d3⟩, hg, hgr, ⟨np, p1, p2, p3, p4, p5⟩, ⟨nc, c1, c2, c3, c4, c5⟩⟩ := hT
  obtain ⟨⟨⟨h, e1, e2, e3⟩, e4, e5, e6, e7⟩, -⟩ := hN
  obtain ⟨Z, hZ⟩ : ∃ z : gS, z = fun i j => SX (xtw SX + i) j := ⟨_, rfl⟩
  have z : ∀ i j, Z i j = SX (xtw SX + i) j := fun i j => by rw [hZ]
  have t0 : tn0 Z = n0 := by unfold tn0; rw [z 0 0, show SX (xtw SX + 0) 0 = nI n0 from a1, nI_clamp (by omega)]
  have t1 : tn1 Z = n1 := by unfold tn1; rw [z 0 5, show SX (xtw SX + 0) 5 = nI n1 from b1, nI_clamp (by omega)]
  have tw : tnw Z = w := by unfold tnw; rw [z 0 10, show SX (xtw SX + 0) 10 = nI w from w2, nI_clamp (by omega)]
  have tb : tnb Z = b := by unfold tnb; rw [z 0 12, show SX (xtw SX + 0) 12 = nI b from d2, nI_clamp (by omega)]
  have tp : tnp Z = np := by unfold tnp; rw [z 10 3, p2, nI_clamp (by omega)]
  have tc : tnc Z = nc := by unfold tnc; rw [z 13 3, c2, nI_clamp (by omega)]
  have z11 : Z 11 = SX (xtw SX + 10 + 1) := funext fun j => z 11 j
  have z14 : Z 14 = SX (xtw SX + 13 + 1) := funext fun j => z 14 j
  refine ⟨Z, h, fun g => (SM 32 g, SM 33 g, SM 34 g, SM 35 g), ?_, e1, ?_, ?_, ?_, hM.2.1, fun m0 m1 hT' => ?_⟩
  · refine ⟨⟨?_, ?_⟩, ⟨?_, ?_⟩, ⟨?_, ?_, ?_⟩, ⟨?_, ?_⟩, ?_, ?_, ⟨?_, ?_, ?_⟩, ?_, ?_, ?_⟩
    · rw [t0, z 0 0]; exact a1
    · rw [t0]; exact a3
    · rw [t1, z 0 5]; exact b1
    · rw [t1]; exact b3
    · rw [tw, z 0 10]; exact w2
    · rw [tw]; exact w1
    · intro i hi
      rw [tw] at hi
      obtain ⟨x, x1, x2, -⟩ := w4 i hi
      exact ⟨x, x1, by rw [z 9 i]; exact x2⟩
    · rw [tb, z 0 12]; exact d2
    · rw [tb]; exact d1
    · intro k hk
      rw [t0] at hk
      obtain ⟨⟨x, x1, x2, x3, -⟩, ⟨y, y1, y2, -⟩, ⟨u, u1, u2, -⟩, ⟨v, v1, v2, -⟩⟩ := hg k hk
      refine ⟨⟨x, x1, x2, by rw [z 1 k]; exact x3⟩, ⟨y, y1, by rw [z 2 k]; exact y2⟩, ⟨u, u1, by rw [z 3 k]; exact u2⟩, ?_⟩
      rw [z 4 k, v2]
      rcases (show v = 0 ∨ v = 1 by omega) with rfl | rfl
      · exact Or.inl rfl
      · exact Or.inr rfl
    · intro g hg
      rw [t1] at hg
      obtain ⟨x, x1, x2, -⟩ := hgr g hg
      exact ⟨x, x1, by rw [z 5 g]; exact x2⟩
    · rw [tp, z 10 3]; exact p2
    · rw [tp]; exact p1
    · rw [tp, z11]; exact p5
    · rw [tc, z 13 3]; exact c2
    · rw [tc]; exact c1
    · rw [tc, z14]; exact c5
  · refine ⟨fun i j _ _ => (z i j).symm, e2, rfl, fun g hg => ?_⟩
    rw [t1] at hg
    exact e5 g hg
  · refine ⟨⟨?_, ?_, ?_, ?_, ?_, ?_, fun i hi => ?_, fun k hk => ?_, fun i hi => ?_, fun i hi => ?_⟩, fun g hg => ?_, e3, e4.symm, fun g hg => ⟨rfl, rfl, rfl, rfl⟩⟩
    · rw [t0]; exact a2
    · rw [t1]; exact b2
    · rw [tb]; exact d3
    · rw [tw]; exact w3
    · rw [tp]; exact p3
    · rw [tc]; exact c3
    · rw [tw] at hi
      obtain ⟨x, x1, x2, x3⟩ := w4 i hi
      rw [z 9 i, x2, x3]
    · rw [t0] at hk
      obtain ⟨⟨x, x1, x2, x3, x4⟩, ⟨y, y1, y2, y3⟩, ⟨u, u1, u2, u3⟩, ⟨v, v1, v2, v3⟩⟩ := hg k hk
      rw [z 1 k, z 2 k, z 3 k, z 4 k, x3, x4, y2, y3, u2, u3, v2, v3]
      exact ⟨rfl, rfl, rfl, rfl⟩
    · rw [tp] at hi
      rw [z11]
      exact p4 i hi
    · rw [tc] at hi
      rw [z14]
      exact c4 i hi
    · rw [t1] at hg
      obtain ⟨x, x1, x2, x3⟩ := hgr g hg
      rw [z 5 g, x2, x3]
  · refine ⟨fun g hg => ?_, fun g g' hg hg' => ?_, fun g hg => ?_⟩
    · rw [t1] at hg
      rw [t0]
      exact e6 g hg
    · rw [t1] at hg hg'
      exact e7 g g' hg hg'
    · rw [t1] at hg
      obtain ⟨x, x1, x2, x3⟩ := hgr g hg
      exact ⟨x, x1, by rw [z 5 g]; exact x2⟩
  · obtain ⟨⟨a1', -, a3'⟩, ⟨b1', -, b3'⟩, -⟩ := hT'
    rw [t0, t1]
    exact ⟨(nI_eq (by omega) (by omega)).mp (a1'.symm.trans a1), (nI_eq (by omega) (by omega)).mp (b1'.symm.trans b1)⟩
/-! the reference's row of what is so: packed and unpacked -/
noncomputable def mPk (i j : Nat) : Bool := (32 ≤ i && i ≤ 35 && j < 6) || (i == 99 && (j == 37 || j == 38))
theorem mPk_t {i j : Nat} : mPk i j = true ↔ (32 ≤ i ∧ i ≤ 35 ∧ j < 6) ∨ (i = 99 ∧ (j = 37 ∨ j = 38)) := by
  unfold mPk
  simp only [Bool.or_eq_true, Bool.and_eq_true, beq_iff_eq, decide_eq_true_iff, and_assoc]
theorem q_pk {N nd : Nat} {S1 : gS} (hnd : nd = 46 ∨ nd = 51) (hN : 700 < N) : ∃ S2, fX12_pack N nd 0 S1 = some (0, S2) ∧ (∀ i j, i ≠ nd → S2 i j = S1 i j) ∧ ∀ S, (∀ j, S nd j = S2 nd j) → ∃ S4, fX12_unpack N nd 0 S = some (0, S4) ∧ ∀ i j, S4 i j = if mPk i j = true then S1 i j else S i j := by
  have hm : mN nd = 26 := by rcases hnd with rfl | rfl <;> rfl
  obtain ⟨S2, p1, p2, p3⟩ := m_pack (N := N) (nd := nd) (a := 0) (S := S1) (by omega) (by omega) (by omega) (by omega)
  refine ⟨S2, p1, fun i j h => p2 i j (by omega), fun S hS => ?_⟩
  obtain ⟨S4, u1, u2, u3⟩ := m_unpack (N := N) (nd := nd) (a := 0) (S := S) (by omega) (by omega) (by omega) (by omega)
  refine ⟨S4, u1, fun i j => ?_⟩
  by_cases h : mPk i j = true
  · rw [if_pos h]
    rcases mPk_t.mp h with ⟨h1, h2, h3⟩ | ⟨rfl, rfl | rfl⟩
    · obtain ⟨q1, q2, q3, q4⟩ := p3.2.2 j h3
      obtain ⟨r1, r2, r3, r4⟩ := u3.2.2 j h3
      rcases (show i = 32 ∨ i = 33 ∨ i = 34 ∨ i = 35 by omega) with rfl | rfl | rfl | rfl
      · rw [← r1, hS, q1]
      · rw [← r2, hS, q2]
      · rw [← r3, hS, q3]
      · rw [← r4, hS, q4]
    · rw [← u3.1, hS, p3.1]
    · rw [← u3.2.1, hS, p3.2.1]
  · rw [if_neg h]
    have h' := mt mPk_t.mpr h
    exact u2 i j (fun q => h' (Or.inl q)) (fun q => h' (Or.inr q))
noncomputable def mQ (i j : Nat) : Bool := mScr i j || mPk i j
theorem mQ_back {S1 S S4 : gS} (s : oSame mQ S1 S) (u : ∀ i j, S4 i j = if mPk i j = true then S1 i j else S i j) : mSame S1 S4 := by
  intro i j h
  rw [u i j]
  by_cases h1 : mPk i j = true
  · rw [if_pos h1]
  · rw [if_neg h1]
    refine s i j ?_
    unfold mQ
    rw [h, Bool.not_eq_true _ |>.mp h1]
    rfl
theorem oSame.q {S S' : gS} (s : oSame mHo S S') : oSame mQ S S' := by
  intro i j h
  refine s i j ?_
  cases hh : mHo i j with
  | false => rfl
  | true =>
    exfalso
    unfold mQ at h
    rw [Bool.or_eq_false_iff] at h
    have h2 := fun q => (Bool.not_eq_true _ |>.mpr h.2) (mPk_t.mpr q)
    have h1 := h.1
    unfold mHo at hh
    simp only [Bool.or_eq_true, Bool.and_eq_true, beq_iff_eq, decide_eq_true_iff] at hh
    rcases hh with ((rfl | rfl) | h3) | ⟨rfl, (rfl | rfl) | rfl⟩
    · cases h1
    · cases h1
    · exact h2 (Or.inl ⟨h3.1.1, h3.1.2, h3.2⟩)
    · exact h2 (Or.inr ⟨rfl, Or.inl rfl⟩)
    · cases h1
    · cases h1
theorem mSame.q {S S' : gS} (s : mSame S S') : oSame mQ S S' := fun i j h => s i j (by
  unfold mQ at h
  rw [Bool.or_eq_false_iff] at h
  exact h.1)
theorem mSit.on {Z S S' : gS} {h : Nat} {d : Int32} {e : Nat → Int32} {qs : Nat → qT} (M : mSit Z S h d e qs) (s : mSame S S') : mSit Z S' h d e qs := by
  obtain ⟨m1, m2, m3, m4, m5⟩ := M
  refine ⟨m1.on (fun i j h1 h2 => s i j ?_), fun g hg => by rw [s 18 g rfl]; exact m2 g hg, by rw [s 99 37 rfl]; exact m3, by rw [s 99 38 rfl]; exact m4, fun g hg => ?_⟩
  · rcases (show i = 5 ∨ i = 6 ∨ i = 7 ∨ i = 8 ∨ i = 9 ∨ i = 10 ∨ i = 11 ∨ i = 12 ∨ i = 13 ∨ i = 14 ∨ i = 15 ∨ i = 16 by omega) with rfl | rfl | rfl | rfl | rfl | rfl | rfl | rfl | rfl | rfl | rfl | rfl <;> rfl
  · rw [s 32 g rfl, s 33 g rfl, s 34 g rfl, s 35 g rfl]
    exact m5 g hg
theorem cSit.sm {Z S S' : gS} {h : Nat} {d : Int32} {qs : Nat → qT} (C : cSit 21 Z S h d qs) (s : xSame S S') : cSit 21 Z S' h d qs := by
  obtain ⟨c1, c2, c3, c4⟩ := C
  have hT : xtw S' = xtw S := by
    unfold xtw
    rw [s 0 7 rfl]
  refine ⟨?_, by rw [s 21 0 rfl]; exact c2, by rw [s 21 1 rfl]; exact c3, fun g hg => ?_⟩
  · rw [hT]
    intro i j h1 h2
    rw [s (xtw S + i) j ?_]
    · exact c1 i j h1 h2
    · rcases xtw_cases (S := S) with hT | hT
      · rw [hT]
        rcases (show i = 0 ∨ i = 1 ∨ i = 2 ∨ i = 3 ∨ i = 4 ∨ i = 5 ∨ i = 6 ∨ i = 7 ∨ i = 8 ∨ i = 9 ∨ i = 10 ∨ i = 11 ∨ i = 13 ∨ i = 14 by omega) with rfl | rfl | rfl | rfl | rfl | rfl | rfl | rfl | rfl | rfl | rfl | rfl | rfl | rfl <;> rfl
      · rw [hT]
        rcases (show i = 0 ∨ i = 1 ∨ i = 2 ∨ i = 3 ∨ i = 4 ∨ i = 5 ∨ i = 6 ∨ i = 7 ∨ i = 8 ∨ i = 9 ∨ i = 10 ∨ i = 11 ∨ i = 13 ∨ i = 14 by omega) with rfl | rfl | rfl | rfl | rfl | rfl | rfl | rfl | rfl | rfl | rfl | rfl | rfl | rfl <;> rfl
  · show S' 22 g = _ ∧ S' 23 g = _ ∧ S' 24 g = _ ∧ S' 25 g = _
    rw [s 22 g rfl, s 23 g rfl, s 24 g rfl, s 25 g rfl]
    exact c4 g hg
/-! answers -/
theorem stFl {co : Nat → Int32} {ok : Nat → Prop} {SX SM : gS} {FX : Nat → Option tR} {FM : Nat → Option (Int32 × gS)} (N M t : Nat) (hJ : JJ SX SM) (ht : t ≠ 0) (hok : ok t) (h1 : FX N = some (t, 0, SX)) (h2 : FM M = some (0, sU (sU SM 99 4 0) 99 4 (co t))) : StpT JJ co ok FX FM :=
  stp_no (v := 0) (w := 0) N M t (hJ.same xSame.rf ((code_same SM 0).tr (code_same _ (co t)))) ht hok h1 h2 (code_at _ _)
theorem stSu {co : Nat → Int32} {ok : Nat → Prop} {SX SM : gS} {FX : Nat → Option tR} {FM : Nat → Option (Int32 × gS)} (N M : Nat) (v : Int32) (hJ : JJ SX SM) (hco : co 0 = 0) (hok : ok 0) (h1 : Gv (FX N) (fun r => r.1 = 0 ∧ r.2.1 = v ∧ xSame SX r.2.2)) (h2 : Gv (FM M) (fun r => r.1 = v ∧ mSame (sU SM 99 4 0) r.2 ∧ r.2 99 4 = 0)) : StpT JJ co ok FX FM := by
  obtain ⟨⟨t, w, SX'⟩, a1, a2, a3, a4⟩ := h1
  obtain ⟨⟨u, SM'⟩, b1, b2, b3, b4⟩ := h2
  dsimp only at a2 a3 a4 b2 b3 b4
  subst a2 a3 b2
  exact stp_ok (SX := SX) (SM := SM) N M (hJ.same a4 ((code_same SM 0).tr b3)) hco hok a1 b1 b4
section
variable {N n : Nat} {S : gS} {x a b : Int32} {f : Nat × Int32 × gS → Option tR}
theorem ngT (h : S (xtw S) 5 = nI n) (hn : n < 2 ^ 31) (hi : inb x n = true) : bnx (fX11_needGuild N x S) f = f (0, 0, S) := by
  rw [bnx_t (x_needGuild h hn) (by rw [hi]; rfl), hi]
  rfl
theorem ngF (h : S (xtw S) 5 = nI n) (hn : n < 2 ^ 31) (hi : inb x n = false) : bnx (fX11_needGuild N x S) f = some (1, 0, S) := by
  rw [bnx_x (x_needGuild h hn) (by rw [hi]; exact one_ne), hi]
  rfl
theorem nkT (h : S (xtw S) 0 = nI n) (hn : n < 2 ^ 31) (hi : inb x n = true) : bnx (fX11_needGrotto N x S) f = f (0, 0, S) := by
  rw [bnx_t (x_needGrotto h hn) (by rw [hi]; rfl), hi]
  rfl
theorem nkF (h : S (xtw S) 0 = nI n) (hn : n < 2 ^ 31) (hi : inb x n = false) : bnx (fX11_needGrotto N x S) f = some (1, 0, S) := by
  rw [bnx_x (x_needGrotto h hn) (by rw [hi]; exact one_ne), hi]
  rfl
theorem nwT (hi : wth x 0 a = true) : bnx (fX11_needWhat N x a S) f = f (0, 0, S) := by
  rw [bnx_t x_needWhat (by rw [hi]; rfl), hi]
  rfl
theorem nwF (hi : wth x 0 a = false) : bnx (fX11_needWhat N x a S) f = some (1, 0, S) := by
  rw [bnx_x x_needWhat (by rw [hi]; exact one_ne), hi]
  rfl
theorem niT (hi : wth x a b = true) : bnx (fX11_needWithin N x a b S) f = f (0, 0, S) := by
  rw [bnx_t x_needWithin (by rw [hi]; rfl), hi]
  rfl
theorem niF (hi : wth x a b = false) : bnx (fX11_needWithin N x a b S) f = some (2, 0, S) := by
  rw [bnx_x x_needWithin (by rw [hi]; exact two_ne), hi]
  rfl
end
/-- the reference's test of a choice of two -/
theorem w01F {x : Int32} (h : wth x 0 1 = false) : x < 0 ∨ (¬ x < 0 ∧ ¬ x ≤ 1) := by
  unfold wth at h
  rw [Bool.and_eq_false_iff, decide_eq_false_iff_not, decide_eq_false_iff_not] at h
  by_cases h0 : x < 0
  · exact Or.inl h0
  · rcases h with h | h
    · exact absurd (Int32.not_lt.mp h0) h
    · exact Or.inr ⟨h0, h⟩
theorem w01T {x : Int32} (h : wth x 0 1 = true) : ¬ x < 0 ∧ x ≤ 1 ∧ (x = 0 ∨ x = 1) := by
  obtain ⟨c, c1, c2, rfl⟩ := wth_of (a := 0) (b := 1) (by decide) (by decide) h
  rcases (show c = 0 ∨ c = 1 by omega) with rfl | rfl
  · exact ⟨by decide, by decide, Or.inl rfl⟩
  · exact ⟨by decide, by decide, Or.inr rfl⟩
end

/-! part 49.athen -/
section
/-! guild, then, first, dismissed -/
theorem pre {SX SM : gS} (hJ : JJ SX SM) : ∃ (S1 Z : gS) (h : Nat) (qs : Nat → qT), S1 = sU SM 99 4 0 ∧ S1 99 4 = 0 ∧ JJ SX S1 ∧ tOK Z ∧ h ≤ 999 ∧ cSit 21 Z SX h (SX 21 1) qs ∧ mSit Z S1 h (SX 21 1) (Z 5) qs ∧ qsOK Z (Z 5) qs ∧ S1 99 41 = -1 ∧ SX (xtw SX) 0 = nI (tn0 Z) ∧ SX (xtw SX) 5 = nI (tn1 Z) := by
  have hJ1 := hJ.same xSame.rf (code_same SM 0)
  obtain ⟨Z, h, qs, Zk, h9, C, M, K, w41, -⟩ := hJ1.sit
  exact ⟨_, Z, h, qs, rfl, code_at SM 0, hJ1, Zk, h9, C, M, K, w41, (C.1 0 0 (by omega) (by omega)).trans Zk.1.1, (C.1 0 5 (by omega) (by omega)).trans Zk.2.1.1⟩
theorem stSr {co : Nat → Int32} {ok : Nat → Prop} {SX SM : gS} {FX : Nat → Option tR} {FM : Nat → Option (Int32 × gS)} (N M : Nat) (A : Int32 → Prop) (uA : ∀ v v', A v → A v' → v = v') (hJ : JJ SX SM) (hco : co 0 = 0) (hok : ok 0) (h1 : Gv (FX N) (fun r => r.1 = 0 ∧ A r.2.1 ∧ xSame SX r.2.2)) (h2 : Gv (FM M) (fun r => A r.1 ∧ mSame (sU SM 99 4 0) r.2 ∧ r.2 99 4 = 0)) : StpT JJ co ok FX FM := by
  obtain ⟨⟨t, w, SX'⟩, a1, a2, a3, a4⟩ := h1
  refine stSu N M w hJ hco hok ⟨_, a1, a2, rfl, a4⟩ (h2.m (fun r hr => ⟨uA _ _ hr.1 a3, hr.2⟩))
def ansF (c : Nat → Bool) (n : Nat) (v : Int32) : Prop := (∃ k, k < n ∧ c k = true ∧ (∀ i, i < k → c i = false) ∧ v = nI (k + 1)) ∨ ((∀ i, i < n → c i = false) ∧ v = -1)
theorem ansF.u {c : Nat → Bool} {n : Nat} : ∀ v v', ansF c n v → ansF c n v' → v = v' := by
  rintro v v' (⟨k, a1, a2, a3, a4⟩ | ⟨a1, a2⟩) (⟨k', b1, b2, b3, b4⟩ | ⟨b1, b2⟩)
  · have : k = k' := by
      rcases Nat.lt_trichotomy k k' with h | h | h
      · rw [b3 k h] at a2; cases a2
      · exact h
      · rw [a3 k' h] at b2; cases b2
    rw [a4, b4, this]
  · rw [b1 k a1] at a2; cases a2
  · rw [a1 k' b1] at b2; cases b2
  · rw [a2, b2]
/-- the reference packs; what follows may go on and is put back -/
theorem q_go {Z S1 : gS} {h : Nat} {d : Int32} {e : Nat → Int32} {qs : Nat → qT} (M : mSit Z S1 h d e qs) (w41 : S1 99 41 = -1) (c0 : S1 99 4 = 0) : ∃ S2, fX12_pack 5000 46 0 S1 = some (0, S2) ∧ mSit Z S2 h d e qs ∧ S2 99 41 = -1 ∧ mSame S1 S2 ∧ S2 99 4 = 0 ∧ (∀ S, (∀ j, S 46 j = S2 46 j) → oSame mQ S1 S → ∃ S4, fX12_unpack 5000 46 0 S = some (0, S4) ∧ mSame S1 S4 ∧ S4 99 4 = S 99 4 ∧ ∀ i j, S4 i j = if mPk i j = true then S1 i j else S i j) ∧ (∀ S, oSame mHo S2 S → ∃ S4, fX12_unpack 5000 46 0 S = some (0, S4) ∧ mSame S1 S4 ∧ S4 99 4 = 0) := by
  obtain ⟨S2, k1, k2, k3⟩ := q_pk (N := 5000) (S1 := S1) (nd := 46) (Or.inl rfl) (by decide)
  have s2 : mSame S1 S2 := fun i j hij => k2 i j (fun q => by rw [q] at hij; cases hij)
  have A : ∀ S, (∀ j, S 46 j = S2 46 j) → oSame mQ S1 S → ∃ S4, fX12_unpack 5000 46 0 S = some (0, S4) ∧ mSame S1 S4 ∧ S4 99 4 = S 99 4 ∧ ∀ i j, S4 i j = if mPk i j = true then S1 i j else S i j := by
    intro S h46 s
    obtain ⟨S4, u1, u2⟩ := k3 S h46
    exact ⟨S4, u1, mQ_back s u2, by rw [u2 99 4]; rfl, u2⟩
  refine ⟨S2, k1, M.on s2, by rw [k2 99 41 (by omega)]; exact w41, s2, by rw [k2 99 4 (by omega)]; exact c0, A, fun S s => ?_⟩
  obtain ⟨S4, u1, u2, u3, -⟩ := A S (fun j => s 46 j rfl) (s2.q.tr s.q)
  exact ⟨S4, u1, u2, by rw [u3, s 99 4 rfl, k2 99 4 (by omega)]; exact c0⟩
theorem st_then : Lw_then JJ := by
  intro SX SM x1 x2 x3 hJ
  obtain ⟨S1, Z, h, qs, hS1, c0, hJ1, Zk, h9, C, M, K, w41, x0, x5⟩ := pre hJ
  have z6 := Zk.2.1.2
  have hF : fX12_then 5000 x1 x2 x3 SM = if iv (inb x1 (tn1 Z)) = 0 then fX12_then_b25 5000 S1 else fX12_then_b13 5000 x1 x2 x3 S1 := by
    unfold fX12_then fX12_then_b0
    dsimp only [lt]
    rw [← hS1, bnd_t (m_isGuild M.1.2.1 (by omega))]
  have hG : fX12_then_b13 5000 x1 x2 x3 S1 = if iv (wth x3 0 3) = 0 then fX12_then_b25 5000 S1 else fX12_then_b31 5000 x1 x2 x3 S1 := by
    unfold fX12_then_b13
    rw [bnd_t in_0_3]
  have hH : fX12_then_b31 5000 x1 x2 x3 S1 = if iv (wth x2 0 60) = 0 then fX12_then_b43 5000 S1 else fX12_then_b49 5000 x1 x2 x3 S1 := by
    unfold fX12_then_b31
    rw [bnd_t in_0_60]
  cases h1 : inb x1 (tn1 Z) with
  | false =>
    refine stFl 5000 5000 1 hJ one_ne (Or.inr (Or.inl rfl)) (ngF x5 (by omega) h1) ?_
    show fX12_then 5000 x1 x2 x3 SM = _
    rw [hF, h1, ← hS1]
    rfl
  | true =>
  cases h3 : wth x3 0 3 with
  | false =>
    refine stFl 5000 5000 1 hJ one_ne (Or.inr (Or.inl rfl)) ((ngT x5 (by omega) h1).trans (nwF h3)) ?_
    show fX12_then 5000 x1 x2 x3 SM = _
    rw [hF, h1, ← hS1]
    show fX12_then_b13 5000 x1 x2 x3 S1 = _
    rw [hG, h3]
    rfl
  | true =>
  cases h2 : wth x2 0 60 with
  | false =>
    refine stFl 5000 5000 2 hJ two_ne (Or.inr (Or.inr rfl)) (((ngT x5 (by omega) h1).trans (nwT h3)).trans (niF h2)) ?_
    show fX12_then 5000 x1 x2 x3 SM = _
    rw [hF, h1, ← hS1]
    show fX12_then_b13 5000 x1 x2 x3 S1 = _
    rw [hG, h3]
    show fX12_then_b31 5000 x1 x2 x3 S1 = _
    rw [hH, h2]
    rfl
  | true =>
  obtain ⟨g, hg, rfl⟩ := inb_of h1 (by omega)
  obtain ⟨c, -, c2, rfl⟩ := wth_of (a := 0) (b := 60) (by decide) (by decide) h2
  obtain ⟨y, -, y2, rfl⟩ := wth_of (a := 0) (b := 3) (by decide) (by decide) h3
  obtain ⟨X1, b1, b2, b3⟩ := x_begin (N := 5000) (Or.inl rfl) Zk C hg (by omega)
  obtain ⟨X2, p1, p2, p3⟩ := x_passHours (N := 5000) (n := c) xtw_cases Zk (C.1.on xtw_cases b3) (K.1 g hg) (K.2.2 g hg) b2 (by omega) (by omega) (by decide)
  obtain ⟨S2, k1, k2, k3, -, -, -, k4⟩ := q_go M w41 c0
  obtain ⟨S3, r1, r2, r3⟩ := m_goOn (N := 5000) (n := c) Zk K.h (by omega) (by decide) (by omega) k2 k3
  obtain ⟨S4, u1, u2, u3⟩ := k4 S3 r3
  obtain ⟨w1, w2, w3, w4⟩ := r2.2.2.2.2 g hg
  have hgc : (nI g).toNatClampNeg = g := nI_clamp (by omega)
  have hin : inb (nI g) 6 = true := inb_t (by omega) (by decide)
  have hX : fX11_then 5000 (nI g) (nI c) (nI y) SX = if nI y = 0 then fX11_then_b76 5000 X2 else if nI y = 1 then fX11_then_b84 5000 X2 else if nI y = 2 then fX11_then_b92 5000 X2 else fX11_then_b100 5000 X2 := by
    refine ((ngT x5 (by omega) h1).trans (nwT h3)).trans ((niT h2).trans ?_)
    dsimp only [lt]
    rw [bnd_t b1]
    dsimp only
    rw [xWk.tw b3, bnd_t p1]
  have hM : fX12_then 5000 (nI g) (nI c) (nI y) SM = if nI y = 0 then fX12_then_b67 5000 (nI g) S3 else fX12_then_b76 5000 (nI g) (nI y) S3 := by
    rw [hF, h1]
    show fX12_then_b13 5000 (nI g) (nI c) (nI y) S1 = _
    rw [hG, h3]
    show fX12_then_b31 5000 (nI g) (nI c) (nI y) S1 = _
    rw [hH, h2]
    show fX12_then_b49 5000 (nI g) (nI c) (nI y) S1 = _
    unfold fX12_then_b49
    rw [bnd_t k1]
    dsimp only
    rw [bnd_t r1]
  have fin : ∀ v, fX12_then_b110 5000 v S3 = some (v, S4) := fun v => by
    unfold fX12_then_b110
    rw [bnd_t u1]
  have hx := xWk.same (b3.tr p3)
  rcases (show y = 0 ∨ y = 1 ∨ y = 2 ∨ y = 3 by omega) with rfl | rfl | rfl | rfl
  · refine stSu 5000 5000 (trj Z (Z 5 g) (SX 21 1) (wetZ Z) h (qs g) c).1 hJ rfl (Or.inl rfl) ⟨(0, X2 51 1, X2), hX, rfl, p2.2.1, hx⟩ ⟨(_, S4), hM.trans ?_, w1, by rw [← hS1]; exact u2, u3⟩
    show fX12_then_b67 5000 (nI g) S3 = _
    unfold fX12_then_b67
    rw [chk_t hin, hgc, fin]
  · refine stSu 5000 5000 (trj Z (Z 5 g) (SX 21 1) (wetZ Z) h (qs g) c).2.1 hJ rfl (Or.inl rfl) ⟨(0, X2 51 2, X2), hX, rfl, p2.2.2.1, hx⟩ ⟨(_, S4), hM.trans ?_, w2, by rw [← hS1]; exact u2, u3⟩
    show fX12_then_b81 5000 (nI g) S3 = _
    unfold fX12_then_b81
    rw [chk_t hin, hgc, fin]
  · refine stSu 5000 5000 (trj Z (Z 5 g) (SX 21 1) (wetZ Z) h (qs g) c).2.2.1 hJ rfl (Or.inl rfl) ⟨(0, X2 51 3, X2), hX, rfl, p2.2.2.2.1, hx⟩ ⟨(_, S4), hM.trans ?_, w3, by rw [← hS1]; exact u2, u3⟩
    show fX12_then_b95 5000 (nI g) S3 = _
    unfold fX12_then_b95
    rw [chk_t hin, hgc, fin]
  · refine stSu 5000 5000 (trj Z (Z 5 g) (SX 21 1) (wetZ Z) h (qs g) c).2.2.2 hJ rfl (Or.inl rfl) ⟨(0, X2 51 4, X2), hX, rfl, p2.2.2.2.2.1, hx⟩ ⟨(_, S4), hM.trans ?_, w4, by rw [← hS1]; exact u2, u3⟩
    show fX12_then_b104 5000 (nI g) S3 = _
    unfold fX12_then_b104
    rw [chk_t hin, hgc, fin]
theorem st_guild : Lw_guild JJ := by
  intro SX SM x1 x2 hJ
  obtain ⟨S1, Z, h, qs, hS1, c0, hJ1, Zk, h9, C, M, K, w41, x0, x5⟩ := pre hJ
  have z6 := Zk.2.1.2
  have hF : fX12_guild 5000 x1 x2 SM = if iv (inb x1 (tn1 Z)) = 0 then fX12_guild_b13 5000 S1 else fX12_guild_b19 5000 x1 x2 S1 := by
    unfold fX12_guild fX12_guild_b0
    dsimp only [lt]
    rw [← hS1, bnd_t (m_isGuild M.1.2.1 (by omega))]
  cases h1 : inb x1 (tn1 Z) with
  | false =>
    refine stFl 5000 5000 1 hJ one_ne (Or.inr rfl) (ngF x5 (by omega) h1) ?_
    show fX12_guild 5000 x1 x2 SM = _
    rw [hF, h1, ← hS1]
    rfl
  | true =>
  obtain ⟨g, hg, rfl⟩ := inb_of h1 (by omega)
  have hgc : (nI g).toNatClampNeg = g := nI_clamp (by omega)
  have hin : inb (nI g) 6 = true := inb_t (by omega) (by decide)
  have hX : fX11_guild 5000 (nI g) x2 SX = if x2 = 0 then fX11_guild_b52 5000 (nI g) SX else if x2 = 1 then fX11_guild_b62 5000 (nI g) SX else if x2 = 2 then fX11_guild_b69 5000 (nI g) SX else if x2 = 3 then fX11_guild_b76 5000 (nI g) SX else if x2 = 4 then fX11_guild_b83 5000 (nI g) SX else if x2 = 5 then fX11_guild_b90 5000 (nI g) SX else fX11_guild_b96 5000 SX := ngT x5 (by omega) h1
  have hM : fX12_guild 5000 (nI g) x2 SM = fX12_guild_b19 5000 (nI g) x2 S1 := by
    rw [hF, h1]
    rfl
  obtain ⟨c1, c2, c3, c4⟩ := C.2.2.2 g hg
  obtain ⟨m1, m2, m3, m4⟩ := M.2.2.2.2 g hg
  have m18 := M.2.1 g hg
  have key : ∀ v, fX11_guild 5000 (nI g) x2 SX = some (0, v, SX) → fX12_guild_b19 5000 (nI g) x2 S1 = some (v, S1) → StpT JJ lcA okA (fun N => fX11_guild N (nI g) x2 SX) (fun M => fX12_guild M (nI g) x2 SM) := fun v a b => stSu 5000 5000 v hJ rfl (Or.inl rfl) ⟨_, a, rfl, rfl, xSame.rf⟩ ⟨_, hM.trans b, rfl, by rw [← hS1]; exact mSame.rf, c0⟩
  by_cases h0 : x2 = 0
  · subst h0
    refine key (Z 5 g) ?_ ?_
    · rw [hX]
      show fX11_guild_b52 5000 (nI g) SX = _
      unfold fX11_guild_b52
      dsimp only [lt]
      rw [chk_t hin, hgc, C.1 5 g (by omega) (by omega)]
    · show fX12_guild_b60 5000 (nI g) S1 = _
      unfold fX12_guild_b60
      rw [chk_t hin, hgc, m18]
  by_cases h01 : x2 = 1
  · subst h01
    refine key (qs g).1 ?_ ?_
    · rw [hX]
      show fX11_guild_b62 5000 (nI g) SX = _
      unfold fX11_guild_b62
      rw [chk_t hin, hgc, show SX 22 g = _ from c1]
    · show fX12_guild_b67 5000 (nI g) S1 = _
      unfold fX12_guild_b67
      rw [chk_t hin, hgc, m1]
  by_cases h02 : x2 = 2
  · subst h02
    refine key (qs g).2.1 ?_ ?_
    · rw [hX]
      show fX11_guild_b69 5000 (nI g) SX = _
      unfold fX11_guild_b69
      rw [chk_t hin, hgc, show SX 23 g = _ from c2]
    · show fX12_guild_b74 5000 (nI g) S1 = _
      unfold fX12_guild_b74
      rw [chk_t hin, hgc, m2]
  by_cases h03 : x2 = 3
  · subst h03
    refine key (qs g).2.2.1 ?_ ?_
    · rw [hX]
      show fX11_guild_b76 5000 (nI g) SX = _
      unfold fX11_guild_b76
      rw [chk_t hin, hgc, show SX 24 g = _ from c3]
    · show fX12_guild_b81 5000 (nI g) S1 = _
      unfold fX12_guild_b81
      rw [chk_t hin, hgc, m3]
  by_cases h04 : x2 = 4
  · subst h04
    refine key (qs g).2.2.2 ?_ ?_
    · rw [hX]
      show fX11_guild_b83 5000 (nI g) SX = _
      unfold fX11_guild_b83
      rw [chk_t hin, hgc, show SX 25 g = _ from c4]
    · show fX12_guild_b88 5000 (nI g) S1 = _
      unfold fX12_guild_b88
      rw [chk_t hin, hgc, m4]
  by_cases h05 : x2 = 5
  · subst h05
    obtain ⟨X1, b1, b2, b3, b6⟩ := x_begin6 (N := 5000) (Or.inl rfl) Zk C hg (by omega)
    have hX5 : fX11_guild 5000 (nI g) 5 SX = bnd (fX10_cost 5000 (xtw SX) X1) (fun q2 => some (0, q2.1, q2.2)) := by
      rw [hX]
      show fX11_guild_b90 5000 (nI g) SX = _
      unfold fX11_guild_b90 fX11_costNow fX11_costNow_b0
      dsimp only [lt]
      rw [bnd_t b1]
      dsimp only
      rw [xWk.tw b3]
      cases fX10_cost 5000 (xtw SX) X1 <;> rfl
    have hM5 : fX12_guild 5000 (nI g) 5 SM = if (qs g).2.2.2 = -1 then fX12_guild_b105 5000 S1 else fX12_guild_b109 5000 (nI g) S1 := by
      rw [hM]
      show fX12_guild_b95 5000 (nI g) S1 = _
      unfold fX12_guild_b95
      rw [chk_t hin, hgc, m4]
    rcases (K.1 g hg).2.2.2 with hh | ⟨k, hk, hh⟩
    · refine stSu 5000 5000 0 hJ rfl (Or.inl rfl) ⟨(0, 0, X1), ?_, rfl, rfl, xWk.same b3⟩ ⟨(0, S1), ?_, rfl, by rw [← hS1]; exact mSame.rf, c0⟩
      · show fX11_guild 5000 (nI g) 5 SX = _
        rw [hX5, bnd_t (x_cost0 Zk (C.1.on xtw_cases b3) (by rw [b2.2.2.2.2.1]; exact hh))]
      · show fX12_guild 5000 (nI g) 5 SM = _
        rw [hM5, if_pos hh]
        rfl
    · have z8 := Zk.1.2
      obtain ⟨r, hr⟩ := x_cost (N := 5000) xtw_cases Zk (C.1.on xtw_cases b3) hk (by rw [b2.2.2.2.2.1]; exact hh) (by decide)
      obtain ⟨S2, r1, r2⟩ := m_costsOf (N := 5000) (g := g) Zk M.1 (by omega) hk (by rw [m4]; exact hh) M.2.2.1 (by omega) (Or.inr ⟨w41, rfl⟩) (by decide)
      obtain ⟨v0, v1, v2, v3, v4, v5, v7⟩ := b2
      rw [v0, v1, v2, v5, b6] at hr
      rw [m1, m2, M.2.2.1, m18] at r1
      have s15 : oSame xWk SX (sN X1 (xtw SX + 15) r) := b3.upN (fun j => by rcases xtw_cases (S := SX) with q | q <;> rw [q] <;> rfl)
      refine stSu 5000 5000 (coZ Z k (qs g).1 (qs g).2.1 (wetZ Z h) (nI h) (Z 5 g)) hJ rfl (Or.inl rfl) ⟨(0, coZ Z k (qs g).1 (qs g).2.1 (wetZ Z h) (nI h) (Z 5 g), sN X1 (xtw SX + 15) r), ?_, rfl, rfl, xWk.same s15⟩ ⟨(coZ Z k (qs g).1 (qs g).2.1 (wetZ Z h) (nI h) (Z 5 g), S2), ?_, rfl, ?_, ?_⟩
      · show fX11_guild 5000 (nI g) 5 SX = _
        rw [hX5, bnd_t hr]
      · show fX12_guild 5000 (nI g) 5 SM = _
        rw [hM5, if_neg (by rw [hh]; exact nI_nem (by omega))]
        unfold fX12_guild_b109
        rw [bnd_t r1]
        rfl
      · rw [← hS1]
        intro i j hij
        exact r2 i j (mRu_f (fun q => by rw [q] at hij; cases hij) (fun q => by rw [q] at hij; cases hij))
      · dsimp only
        rw [r2 99 4 rfl]
        exact c0
  refine stFl 5000 5000 1 hJ one_ne (Or.inr rfl) ?_ ?_
  · show fX11_guild 5000 (nI g) x2 SX = _
    rw [hX, if_neg h0, if_neg h01, if_neg h02, if_neg h03, if_neg h04, if_neg h05]
    rfl
  · show fX12_guild 5000 (nI g) x2 SM = _
    rw [hM]
    unfold fX12_guild_b19
    rw [if_neg h0, if_neg h01, if_neg h02, if_neg h03, if_neg h04, if_neg h05, ← hS1]
    rfl
end

/-! part 50.afirst -/
section
/-! first, dismissed -/
theorem silent_bt {c : Nat → Bool} {n g : Nat} (hn : n ≤ 6) (hg : g < n) : bt (drB c n 0 0) (nI g) = c g := by
  rw [bt_bb (by omega), bb_drB (by omega) n 0 0 (by omega), bb_0, decide_eq_true (p := 0 ≤ g) (by omega), decide_eq_true (p := g < 0 + n) (by omega)]
  simp
theorem x_first_h {Z SX S : gS} {h g : Nat} {d : Int32} {q : qT} (Zk : tOK Z) (hx : tXz (xtw SX) Z SX) (h9 : h ≤ 999) (hq : qOK (tn0 Z) q) (he : eOK (Z 5 g)) (W : wkA S (Z 5 g) d (nI h) q) (s : oSame xWk SX S) : Gv (fX11_first_h26 5000 5000 1 S) (fun r => r.1 = 0 ∧ ansF (trB Z (Z 5 g) d (wetZ Z) h q) 60 r.2.1 ∧ xSame SX r.2.2) := by
  refine loopG (fun f k S => fX11_first_h26 5000 f (nI (k + 1)) S) (fun k S' => wkA S' (Z 5 g) d (nI (h + k)) (trj Z (Z 5 g) d (wetZ Z) h q k) ∧ oSame xWk SX S' ∧ ∀ i, i < k → trB Z (Z 5 g) d (wetZ Z) h q i = false) _ 60 ?_ ?_ 60 0 S 5000 (by omega) ⟨W, s, fun i hi => by omega⟩ (by omega)
  · rintro f S1 ⟨i1, i2, i3⟩
    exact ⟨(0, -1, S1), rfl, rfl, Or.inr ⟨i3, rfl⟩, xWk.same i2⟩
  · rintro f k S1 hk ⟨i1, i2, i3⟩
    have hT : tXz (xtw SX) Z S1 := hx.on xtw_cases i2
    obtain ⟨S2, r1, r2, r3⟩ := x_passHour (N := 5000) (we := wetZ Z (h + k)) xtw_cases Zk hT (trj_ok hq he k) he i1 (by decide)
    have hF : fX11_first_h26 5000 (f + 1) (nI (k + 1)) S1 = if iv (trB Z (Z 5 g) d (wetZ Z) h q k) = 0 then fX11_first_b62 5000 (fX11_first_h26 5000 f) (nI (k + 1)) S2 else fX11_first_b60 5000 (nI (k + 1)) S2 := by
      show fX11_first_b26 5000 (fX11_first_h26 5000 f) (nI (k + 1)) S1 = _
      unfold fX11_first_b26
      rw [if_neg (show ¬ (60 : Int32) < nI (k + 1) from nI_nlt (a := 60) (by omega) (by decide))]
      unfold fX11_first_b32
      dsimp only [lt]
      rw [xWk.tw i2, i1.2.2.2.2.2.1, bnd_t (x_wetZ Zk hT (by omega))]
      dsimp only
      rw [bnd_t r1]
      rfl
    cases hb : trB Z (Z 5 g) d (wetZ Z) h q k with
    | false =>
      refine Or.inr ⟨S2, ⟨?_, i2.tr r3, fun i hi => ?_⟩, ?_⟩
      · rw [nI_1] at r2
        exact r2
      · by_cases hik : i = k
        · rw [hik]; exact hb
        · exact i3 i (by omega)
      · show fX11_first_h26 5000 (f + 1) (nI (k + 1)) S1 = _
        rw [hF, hb]
        show fX11_first_b62 5000 (fX11_first_h26 5000 f) (nI (k + 1)) S2 = _
        unfold fX11_first_b62
        rw [nI_1]
    | true =>
      refine Or.inl ⟨(0, nI (k + 1), S2), ?_, rfl, Or.inl ⟨k, hk, hb, i3, rfl⟩, xWk.same (i2.tr r3)⟩
      show fX11_first_h26 5000 (f + 1) (nI (k + 1)) S1 = _
      rw [hF, hb]
      rfl
theorem m_first_h {Z S1 S2 : gS} {h g : Nat} {d : Int32} {e : Nat → Int32} {qs : Nat → qT} (Zk : tOK Z) (K : qsOK Z e qs) (hg : g < tn1 Z) (h9 : h ≤ 999) (M : mSit Z S2 h d e qs) (w41 : S2 99 41 = -1) (E : ∀ S, oSame mHo S2 S → ∃ S4, fX12_unpack 5000 46 0 S = some (0, S4) ∧ mSame S1 S4 ∧ S4 99 4 = 0) : Gv (fX12_first_h32 5000 5000 (nI g) (-1) 1 S2) (fun r => ansF (trB Z (e g) d (wetZ Z) h (qs g)) 60 r.1 ∧ mSame S1 r.2 ∧ r.2 99 4 = 0) := by
  have z6 := Zk.2.1.2
  have out : ∀ S v, oSame mHo S2 S → ansF (trB Z (e g) d (wetZ Z) h (qs g)) 60 v → Gv (fX12_first_b66 5000 v S) (fun r => ansF (trB Z (e g) d (wetZ Z) h (qs g)) 60 r.1 ∧ mSame S1 r.2 ∧ r.2 99 4 = 0) := by
    intro S v s hv
    obtain ⟨S4, u1, u2, u3⟩ := E S s
    refine ⟨(v, S4), ?_, hv, u2, u3⟩
    unfold fX12_first_b66
    rw [bnd_t u1]
  refine loopG (A := Int32 × gS) (fun f k a => fX12_first_h32 5000 f (nI g) a.1 (nI (k + 1)) a.2) (fun k a => oSame mHo S2 a.2 ∧ ((a.1 = -1 ∧ mSit Z a.2 (h + k) d e (fun g => trj Z (e g) d (wetZ Z) h (qs g) k) ∧ ∀ i, i < k → trB Z (e g) d (wetZ Z) h (qs g) i = false) ∨ (¬ a.1 = -1 ∧ ansF (trB Z (e g) d (wetZ Z) h (qs g)) 60 a.1))) _ 60 ?_ ?_ 60 0 (-1, S2) 5000 (by omega) ⟨oSame.rf, Or.inl ⟨rfl, M, fun i hi => by omega⟩⟩ (by omega)
  · rintro f ⟨v, S⟩ ⟨i1, i2⟩
    show Gv (fX12_first_b32 5000 _ (nI g) v (nI 61) S) _
    unfold fX12_first_b32
    rw [if_pos (show (60 : Int32) < nI 61 by decide)]
    refine out S v i1 ?_
    rcases i2 with ⟨h1, h2, h3⟩ | ⟨h1, h2⟩
    · exact Or.inr ⟨h3, h1⟩
    · exact h2
  · rintro f k ⟨v, S⟩ hk ⟨i0, i2⟩
    have i1 : oSame mHo S2 S := i0
    have h60 : ¬ (60 : Int32) < nI (k + 1) := nI_nlt (a := 60) (by omega) (by decide)
    rcases i2 with ⟨h1, h2, h3⟩ | ⟨h1, h2⟩
    · dsimp only at h1 h2
      subst h1
      obtain ⟨S3, r1, r2, r3, r4⟩ := m_step1 (N := 5000) Zk (K.h.tr (wf := wetZ Z) (h := h) (d := d) (e := e) k) (by omega) (by decide) h2 (by rw [i1 99 41 rfl]; exact w41)
      have hF : fX12_first_h32 5000 (f + 1) (nI g) (-1) (nI (k + 1)) S = if iv (trB Z (e g) d (wetZ Z) h (qs g) k) = 0 then fX12_first_b60 5000 (fX12_first_h32 5000 f) (nI g) (-1) (nI (k + 1)) S3 else fX12_first_b58 5000 (fX12_first_h32 5000 f) (nI g) (nI (k + 1)) S3 := by
        show fX12_first_b32 5000 (fX12_first_h32 5000 f) (nI g) (-1) (nI (k + 1)) S = _
        unfold fX12_first_b32
        rw [if_neg h60]
        unfold fX12_first_b38
        rw [if_pos rfl]
        unfold fX12_first_b43
        rw [bnd_t r1]
        dsimp only
        rw [bnd_t m_isOf, r3, silent_bt z6 hg]
        rfl
      cases hb : trB Z (e g) d (wetZ Z) h (qs g) k with
      | false =>
        refine Or.inr ⟨(-1, S3), ⟨i1.tr r4, Or.inl ⟨rfl, r2, fun i hi => ?_⟩⟩, ?_⟩
        · by_cases hik : i = k
          · rw [hik]; exact hb
          · exact h3 i (by omega)
        · show fX12_first_h32 5000 (f + 1) (nI g) (-1) (nI (k + 1)) S = _
          rw [hF, hb]
          show fX12_first_b60 5000 (fX12_first_h32 5000 f) (nI g) (-1) (nI (k + 1)) S3 = _
          unfold fX12_first_b60
          rw [nI_1]
      | true =>
        refine Or.inr ⟨(nI (k + 1), S3), ⟨i1.tr r4, Or.inr ⟨nI_nem (by omega), Or.inl ⟨k, hk, hb, h3, rfl⟩⟩⟩, ?_⟩
        show fX12_first_h32 5000 (f + 1) (nI g) (-1) (nI (k + 1)) S = _
        rw [hF, hb]
        show fX12_first_b58 5000 (fX12_first_h32 5000 f) (nI g) (nI (k + 1)) S3 = _
        unfold fX12_first_b58 fX12_first_b60
        rw [nI_1]
    · refine Or.inl ?_
      show Gv (fX12_first_b32 5000 _ (nI g) v (nI (k + 1)) S) _
      unfold fX12_first_b32
      rw [if_neg h60]
      unfold fX12_first_b38
      rw [if_neg h1]
      exact out S v i1 h2
theorem st_first : Lw_first JJ := by
  intro SX SM x1 hJ
  obtain ⟨S1, Z, h, qs, hS1, c0, hJ1, Zk, h9, C, M, K, w41, x0, x5⟩ := pre hJ
  have z6 := Zk.2.1.2
  have hF : fX12_first 5000 x1 SM = if iv (inb x1 (tn1 Z)) = 0 then fX12_first_b13 5000 S1 else fX12_first_b19 5000 x1 S1 := by
    unfold fX12_first fX12_first_b0
    dsimp only [lt]
    rw [← hS1, bnd_t (m_isGuild M.1.2.1 (by omega))]
  cases h1 : inb x1 (tn1 Z) with
  | false =>
    refine stFl 5000 5000 1 hJ one_ne (Or.inr rfl) (ngF x5 (by omega) h1) ?_
    show fX12_first 5000 x1 SM = _
    rw [hF, h1, ← hS1]
    rfl
  | true =>
  obtain ⟨g, hg, rfl⟩ := inb_of h1 (by omega)
  obtain ⟨X1, b1, b2, b3⟩ := x_begin (N := 5000) (Or.inl rfl) Zk C hg (by omega)
  obtain ⟨S2, k1, k2, k3, -, -, -, k4⟩ := q_go M w41 c0
  refine stSr 5000 5000 (ansF (trB Z (Z 5 g) (SX 21 1) (wetZ Z) h (qs g)) 60) ansF.u hJ rfl (Or.inl rfl) ?_ ?_
  · have e : fX11_first 5000 (nI g) SX = fX11_first_h26 5000 5000 1 X1 := by
      refine (ngT x5 (by omega) h1).trans ?_
      dsimp only [lt]
      rw [bnd_t b1]
    show Gv (fX11_first 5000 (nI g) SX) _
    rw [e]
    exact x_first_h Zk C.1 h9 (K.1 g hg) (K.2.2 g hg) b2 b3
  · have e : fX12_first 5000 (nI g) SM = fX12_first_h32 5000 5000 (nI g) (-1) 1 S2 := by
      rw [hF, h1]
      show fX12_first_b19 5000 (nI g) S1 = _
      unfold fX12_first_b19
      rw [bnd_t k1]
    show Gv (fX12_first 5000 (nI g) SM) _
    rw [e, ← hS1]
    exact m_first_h Zk K hg h9 k2 k3 k4
/-! dismissed -/
noncomputable def gone (Z : gS) (e d : Int32) (h : Nat) (q : qT) (i : Nat) : Bool := decide ((trj Z e d (wetZ Z) h q (i + 1)).2.2.2 = -1)
theorem x_dismissed_h {Z SX S : gS} {h g : Nat} {d : Int32} {q : qT} (Zk : tOK Z) (hx : tXz (xtw SX) Z SX) (h9 : h ≤ 999) (hq : qOK (tn0 Z) q) (he : eOK (Z 5 g)) (W : wkA S (Z 5 g) d (nI h) q) (s : oSame xWk SX S) : Gv (fX11_dismissed_h44 5000 5000 1 S) (fun r => r.1 = 0 ∧ ansF (gone Z (Z 5 g) d h q) 60 r.2.1 ∧ xSame SX r.2.2) := by
  refine loopG (fun f k S => fX11_dismissed_h44 5000 f (nI (k + 1)) S) (fun k S' => wkA S' (Z 5 g) d (nI (h + k)) (trj Z (Z 5 g) d (wetZ Z) h q k) ∧ oSame xWk SX S' ∧ ∀ i, i < k → gone Z (Z 5 g) d h q i = false) _ 60 ?_ ?_ 60 0 S 5000 (by omega) ⟨W, s, fun i hi => by omega⟩ (by omega)
  · rintro f S1 ⟨i1, i2, i3⟩
    exact ⟨(0, -1, S1), rfl, rfl, Or.inr ⟨i3, rfl⟩, xWk.same i2⟩
  · rintro f k S1 hk ⟨i1, i2, i3⟩
    have hT : tXz (xtw SX) Z S1 := hx.on xtw_cases i2
    obtain ⟨S2, r1, r2, r3⟩ := x_passHours (N := 5000) (n := 1) xtw_cases Zk hT (trj_ok hq he k) he i1 (by omega) (by omega) (by decide)
    have r1 : fX10_passHours 5000 (xtw SX) 1 S1 = some (0, S2) := r1
    have r2 : wkA S2 (Z 5 g) d (nI (h + (k + 1))) (trj Z (Z 5 g) d (wetZ Z) h q (k + 1)) := r2
    have hF : fX11_dismissed_h44 5000 (f + 1) (nI (k + 1)) S1 = if (trj Z (Z 5 g) d (wetZ Z) h q (k + 1)).2.2.2 = -1 then fX11_dismissed_b73 5000 (nI (k + 1)) S2 else fX11_dismissed_b75 5000 (fX11_dismissed_h44 5000 f) (nI (k + 1)) S2 := by
      show fX11_dismissed_b44 5000 (fX11_dismissed_h44 5000 f) (nI (k + 1)) S1 = _
      unfold fX11_dismissed_b44
      rw [if_neg (show ¬ (60 : Int32) < nI (k + 1) from nI_nlt (a := 60) (by omega) (by decide))]
      unfold fX11_dismissed_b50
      dsimp only [lt]
      rw [xWk.tw i2, bnd_t r1]
      simp only [r2.2.2.2.2.1]
    by_cases hb : (trj Z (Z 5 g) d (wetZ Z) h q (k + 1)).2.2.2 = -1
    · refine Or.inl ⟨(0, nI (k + 1), S2), ?_, rfl, Or.inl ⟨k, hk, decide_eq_true hb, i3, rfl⟩, xWk.same (i2.tr r3)⟩
      show fX11_dismissed_h44 5000 (f + 1) (nI (k + 1)) S1 = _
      rw [hF, if_pos hb]
      rfl
    · refine Or.inr ⟨S2, ⟨r2, i2.tr r3, fun i hi => ?_⟩, ?_⟩
      · by_cases hik : i = k
        · rw [hik]; exact decide_eq_false hb
        · exact i3 i (by omega)
      · show fX11_dismissed_h44 5000 (f + 1) (nI (k + 1)) S1 = _
        rw [hF, if_neg hb]
        unfold fX11_dismissed_b75
        rw [nI_1]
theorem m_dismissed_h {Z S1 S2 : gS} {h g : Nat} {d : Int32} {e : Nat → Int32} {qs : Nat → qT} (Zk : tOK Z) (K : qsOK Z e qs) (hg : g < tn1 Z) (h9 : h ≤ 999) (hne : ¬ (qs g).2.2.2 = -1) (M : mSit Z S2 h d e qs) (w41 : S2 99 41 = -1) (E : ∀ S, oSame mHo S2 S → ∃ S4, fX12_unpack 5000 46 0 S = some (0, S4) ∧ mSame S1 S4 ∧ S4 99 4 = 0) : Gv (fX12_dismissed_h32 5000 5000 (nI g) (-1) 1 S2) (fun r => ansF (gone Z (e g) d h (qs g)) 60 r.1 ∧ mSame S1 r.2 ∧ r.2 99 4 = 0) := by
  have z6 := Zk.2.1.2
  have hgc : (nI g).toNatClampNeg = g := nI_clamp (by omega)
  have hin : inb (nI g) 6 = true := inb_t (by omega) (by decide)
  have out : ∀ S v, oSame mHo S2 S → ansF (gone Z (e g) d h (qs g)) 60 v → Gv (fX12_dismissed_b75 5000 v S) (fun r => ansF (gone Z (e g) d h (qs g)) 60 r.1 ∧ mSame S1 r.2 ∧ r.2 99 4 = 0) := by
    intro S v s hv
    obtain ⟨S4, u1, u2, u3⟩ := E S s
    refine ⟨(v, S4), ?_, hv, u2, u3⟩
    unfold fX12_dismissed_b75
    rw [bnd_t u1]
  refine loopG (A := Int32 × gS) (fun f k a => fX12_dismissed_h32 5000 f (nI g) a.1 (nI (k + 1)) a.2) (fun k a => oSame mHo S2 a.2 ∧ ((a.1 = -1 ∧ mSit Z a.2 (h + k) d e (fun g => trj Z (e g) d (wetZ Z) h (qs g) k) ∧ (¬ (trj Z (e g) d (wetZ Z) h (qs g) k).2.2.2 = -1) ∧ ∀ i, i < k → gone Z (e g) d h (qs g) i = false) ∨ (¬ a.1 = -1 ∧ ansF (gone Z (e g) d h (qs g)) 60 a.1))) _ 60 ?_ ?_ 60 0 (-1, S2) 5000 (by omega) ⟨oSame.rf, Or.inl ⟨rfl, M, hne, fun i hi => by omega⟩⟩ (by omega)
  · rintro f ⟨v, S⟩ ⟨i1, i2⟩
    show Gv (fX12_dismissed_b32 5000 _ (nI g) v (nI 61) S) _
    unfold fX12_dismissed_b32
    rw [if_pos (show (60 : Int32) < nI 61 by decide)]
    refine out S v i1 ?_
    rcases i2 with ⟨h1, h2, h4, h3⟩ | ⟨h1, h2⟩
    · exact Or.inr ⟨h3, h1⟩
    · exact h2
  · rintro f k ⟨v, S⟩ hk ⟨i0, i2⟩
    have i1 : oSame mHo S2 S := i0
    have h60 : ¬ (60 : Int32) < nI (k + 1) := nI_nlt (a := 60) (by omega) (by decide)
    rcases i2 with ⟨h1, h2, h4, h3⟩ | ⟨h1, h2⟩
    · dsimp only at h1 h2
      subst h1
      obtain ⟨S3, r1, r2, r3, r4⟩ := m_step1 (N := 5000) Zk (K.h.tr (wf := wetZ Z) (h := h) (d := d) (e := e) k) (by omega) (by decide) h2 (by rw [i1 99 41 rfl]; exact w41)
      have e35 : S3 35 g = (trj Z (e g) d (wetZ Z) h (qs g) (k + 1)).2.2.2 := (r2.2.2.2.2 g hg).2.2.2
      have hF : fX12_dismissed_h32 5000 (f + 1) (nI g) (-1) (nI (k + 1)) S = if (trj Z (e g) d (wetZ Z) h (qs g) (k + 1)).2.2.2 = -1 then fX12_dismissed_b67 5000 (fX12_dismissed_h32 5000 f) (nI g) (nI (k + 1)) S3 else fX12_dismissed_b69 5000 (fX12_dismissed_h32 5000 f) (nI g) (-1) (nI (k + 1)) S3 := by
        show fX12_dismissed_b32 5000 (fX12_dismissed_h32 5000 f) (nI g) (-1) (nI (k + 1)) S = _
        unfold fX12_dismissed_b32
        rw [if_neg h60]
        unfold fX12_dismissed_b38
        rw [if_pos rfl]
        unfold fX12_dismissed_b43
        rw [chk_t hin, hgc, (h2.2.2.2.2 g hg).2.2.2, if_neg h4]
        unfold fX12_dismissed_b53
        rw [bnd_t r1]
        dsimp only
        rw [chk_t hin, hgc]
        simp only [e35]
      by_cases hb : (trj Z (e g) d (wetZ Z) h (qs g) (k + 1)).2.2.2 = -1
      · refine Or.inr ⟨(nI (k + 1), S3), ⟨i1.tr r4, Or.inr ⟨nI_nem (by omega), Or.inl ⟨k, hk, decide_eq_true hb, h3, rfl⟩⟩⟩, ?_⟩
        show fX12_dismissed_h32 5000 (f + 1) (nI g) (-1) (nI (k + 1)) S = _
        rw [hF, if_pos hb]
        unfold fX12_dismissed_b67 fX12_dismissed_b69
        rw [nI_1]
      · refine Or.inr ⟨(-1, S3), ⟨i1.tr r4, Or.inl ⟨rfl, r2, hb, fun i hi => ?_⟩⟩, ?_⟩
        · by_cases hik : i = k
          · rw [hik]; exact decide_eq_false hb
          · exact h3 i (by omega)
        · show fX12_dismissed_h32 5000 (f + 1) (nI g) (-1) (nI (k + 1)) S = _
          rw [hF, if_neg hb]
          unfold fX12_dismissed_b69
          rw [nI_1]
    · refine Or.inl ?_
      show Gv (fX12_dismissed_b32 5000 _ (nI g) v (nI (k + 1)) S) _
      unfold fX12_dismissed_b32
      rw [if_neg h60]
      unfold fX12_dismissed_b38
      rw [if_neg h1]
      exact out S v i1 h2
theorem st_dismissed : Lw_dismissed JJ := by
  intro SX SM x1 hJ
  obtain ⟨S1, Z, h, qs, hS1, c0, hJ1, Zk, h9, C, M, K, w41, x0, x5⟩ := pre hJ
  have z6 := Zk.2.1.2
  have hF : fX12_dismissed 5000 x1 SM = if iv (inb x1 (tn1 Z)) = 0 then fX12_dismissed_b13 5000 S1 else fX12_dismissed_b19 5000 x1 S1 := by
    unfold fX12_dismissed fX12_dismissed_b0
    dsimp only [lt]
    rw [← hS1, bnd_t (m_isGuild M.1.2.1 (by omega))]
  cases h1 : inb x1 (tn1 Z) with
  | false =>
    refine stFl 5000 5000 1 hJ one_ne (Or.inr rfl) (ngF x5 (by omega) h1) ?_
    show fX12_dismissed 5000 x1 SM = _
    rw [hF, h1, ← hS1]
    rfl
  | true =>
  obtain ⟨g, hg, rfl⟩ := inb_of h1 (by omega)
  have hgc : (nI g).toNatClampNeg = g := nI_clamp (by omega)
  have hin : inb (nI g) 6 = true := inb_t (by omega) (by decide)
  obtain ⟨X1, b1, b2, b3⟩ := x_begin (N := 5000) (Or.inl rfl) Zk C hg (by omega)
  obtain ⟨S2, k1, k2, k3, -, -, -, k4⟩ := q_go M w41 c0
  have c4 : SX 25 g = (qs g).2.2.2 := (C.2.2.2 g hg).2.2.2
  have hX : fX11_dismissed 5000 (nI g) SX = if (qs g).2.2.2 = -1 then fX11_dismissed_b21 5000 SX else fX11_dismissed_b23 5000 (nI g) SX := by
    refine (ngT x5 (by omega) h1).trans ?_
    dsimp only
    rw [chk_t hin, hgc]
    simp only [c4]
  have hM : fX12_dismissed 5000 (nI g) SM = fX12_dismissed_h32 5000 5000 (nI g) (-1) 1 S2 := by
    rw [hF, h1]
    show fX12_dismissed_b19 5000 (nI g) S1 = _
    unfold fX12_dismissed_b19
    rw [bnd_t k1]
  by_cases hn : (qs g).2.2.2 = -1
  · obtain ⟨S4, u1, u2, u3⟩ := k4 S2 oSame.rf
    refine stSu 5000 5000 (-1) hJ rfl (Or.inl rfl) ⟨(0, -1, SX), ?_, rfl, rfl, xSame.rf⟩ ⟨(-1, S4), ?_, rfl, by rw [← hS1]; exact u2, u3⟩
    · show fX11_dismissed 5000 (nI g) SX = _
      rw [hX, if_pos hn]
      rfl
    · show fX12_dismissed 5000 (nI g) SM = _
      rw [hM]
      show fX12_dismissed_b32 5000 (fX12_dismissed_h32 5000 4999) (nI g) (-1) 1 S2 = _
      unfold fX12_dismissed_b32
      rw [if_neg (by decide)]
      unfold fX12_dismissed_b38
      rw [if_pos rfl]
      unfold fX12_dismissed_b43
      rw [chk_t hin, hgc, (k2.2.2.2.2 g hg).2.2.2, if_pos hn]
      unfold fX12_dismissed_b75
      rw [bnd_t u1]
  · refine stSr 5000 5000 (ansF (gone Z (Z 5 g) (SX 21 1) h (qs g)) 60) ansF.u hJ rfl (Or.inl rfl) ?_ ?_
    · have e : fX11_dismissed 5000 (nI g) SX = fX11_dismissed_h44 5000 5000 1 X1 := by
        rw [hX, if_neg hn]
        unfold fX11_dismissed_b23
        dsimp only [lt]
        rw [bnd_t b1]
      show Gv (fX11_dismissed 5000 (nI g) SX) _
      rw [e]
      exact x_dismissed_h Zk C.1 h9 (K.1 g hg) (K.2.2 g hg) b2 b3
    · show Gv (fX12_dismissed 5000 (nI g) SM) _
      rw [hM, ← hS1]
      exact m_dismissed_h Zk K hg h9 hn k2 k3 k4
end

/-! part 51.amost -/
section
/-! most, confessing -/
noncomputable def gtN (v : Nat → Int32) : Nat → Nat
  | 0 => 0
  | g + 1 => if g = 0 then 0 else if v g ≤ v (gtN v g) then gtN v g else g
noncomputable def gtR (v : Nat → Int32) (n : Nat) : Int32 := if n = 0 then -1 else nI (gtN v n)
theorem gtN_lt {v : Nat → Int32} : ∀ n, 0 < n → gtN v n < n := by
  intro n
  induction n with
  | zero => intro h; omega
  | succ n ih =>
    intro _
    show (if n = 0 then 0 else if v n ≤ v (gtN v n) then gtN v n else n) < n + 1
    by_cases h0 : n = 0
    · rw [if_pos h0]; omega
    · rw [if_neg h0]
      have := ih (by omega)
      by_cases h1 : v n ≤ v (gtN v n)
      · rw [if_pos h1]; omega
      · rw [if_neg h1]; omega
theorem gtN_eq {v v' : Nat → Int32} : ∀ n, (∀ i, i < n → v i = v' i) → gtN v n = gtN v' n := by
  intro n
  induction n with
  | zero => intro _; rfl
  | succ n ih =>
    intro h
    have e := ih (fun i hi => h i (by omega))
    show (if n = 0 then 0 else if v n ≤ v (gtN v n) then gtN v n else n) = (if n = 0 then 0 else if v' n ≤ v' (gtN v' n) then gtN v' n else n)
    by_cases h0 : n = 0
    · rw [if_pos h0, if_pos h0]
    · have hl := gtN_lt (v := v') n (by omega)
      rw [if_neg h0, if_neg h0, e, h n (by omega), h (gtN v' n) (by omega)]
theorem gtR_eq {v v' : Nat → Int32} {n : Nat} (h : ∀ i, i < n → v i = v' i) : gtR v n = gtR v' n := by
  unfold gtR
  rw [gtN_eq n h]
theorem m_greatest {N n k1 : Nat} {S : gS} (hn : S 5 1 = nI n) (h6 : n ≤ 6) (hk : mN k1 = 6) (hN : 700 < N) : fX12_greatest N k1 S = some (gtR (S k1) n, S) := by
  have main : Gv (fX12_greatest_h4 N N k1 (-1) 0 S) (fun r => r = (gtR (S k1) n, S)) := by
    refine loopG (A := Int32) (fun f g x => fX12_greatest_h4 N f k1 x (nI g) S) (fun g x => x = gtR (S k1) g) _ n ?_ ?_ n 0 (-1) N (by omega) rfl (by omega)
    · rintro f x rfl
      show Gv (fX12_greatest_b4 N _ k1 _ (nI n) S) _
      unfold fX12_greatest_b4
      rw [hn, if_pos (nI_le (Nat.le_refl _) (by omega))]
      exact ⟨_, rfl, rfl⟩
    · rintro f g x hg rfl
      refine Or.inr ⟨gtR (S k1) (g + 1), rfl, ?_⟩
      show fX12_greatest_b4 N (fX12_greatest_h4 N f) k1 _ (nI g) S = _
      unfold fX12_greatest_b4
      rw [hn, if_neg (nI_ge hg (by omega))]
      unfold fX12_greatest_b14 gtR
      by_cases h0 : g = 0
      · subst h0
        rw [if_pos rfl, if_pos rfl]
        unfold fX12_greatest_b28 fX12_greatest_b30
        rfl
      · have hl := gtN_lt (v := S k1) g (by omega)
        rw [if_neg h0, if_neg (nI_nem (by omega)), if_neg (Nat.succ_ne_zero g)]
        unfold fX12_greatest_b19
        rw [hk, chk_t (inb_t (by omega) (by decide)), chk_t (inb_t (by omega) (by decide)), nI_clamp (n := g) (by omega), nI_clamp (n := gtN (S k1) g) (by omega)]
        show _ = fX12_greatest_h4 N f k1 (nI (if g = 0 then 0 else if S k1 g ≤ S k1 (gtN (S k1) g) then gtN (S k1) g else g)) (nI (g + 1)) S
        rw [if_neg h0]
        by_cases h1 : S k1 g ≤ S k1 (gtN (S k1) g)
        · rw [if_pos h1, if_pos h1]
          unfold fX12_greatest_b30
          rw [nI_1]
        · rw [if_neg h1, if_neg h1]
          unfold fX12_greatest_b28 fX12_greatest_b30
          rw [nI_1]
  obtain ⟨r, r1, rfl⟩ := main
  exact r1
noncomputable def muV (x2 : Int32) (q : qT) : Int32 := if x2 = 0 then q.2.1 else q.1
theorem x_most_h {Z SX : gS} {h c : Nat} {d x2 : Int32} {qs : Nat → qT} (Zk : tOK Z) (C : cSit 21 Z SX h d qs) (K : qsOK Z (Z 5) qs) (h9 : h ≤ 999) (hc : c ≤ 60) : Gv (fX11_most_h20 5000 5000 (nI c) x2 (-1) (-1) 0 SX) (fun r => r.1 = 0 ∧ r.2.1 = gtR (fun g => muV x2 (trj Z (Z 5 g) d (wetZ Z) h (qs g) c)) (tn1 Z) ∧ xSame SX r.2.2) := by
  have z6 := Zk.2.1.2
  obtain ⟨v, hv⟩ : ∃ z : Nat → Int32, z = fun g => muV x2 (trj Z (Z 5 g) d (wetZ Z) h (qs g) c) := ⟨_, rfl⟩
  rw [← hv]
  have hv0 : ∀ g, g < tn1 Z → ¬ v g ≤ -1 := by
    intro g hg hh
    have hq := trj_ok (Z := Z) (d := d) (wf := wetZ Z) (h := h) (K.1 g hg) (K.2.2 g hg) c
    have h0 : 0 ≤ v g := by
      rw [hv]
      show 0 ≤ muV x2 _
      unfold muV
      by_cases hx : x2 = 0
      · rw [if_pos hx]; exact hq.2.1.1
      · rw [if_neg hx]; exact hq.1.1
    exact absurd (Int32.le_trans h0 hh) (by decide)
  refine loopG (A := Int32 × Int32 × gS) (fun f g a => fX11_most_h20 5000 f (nI c) x2 a.1 a.2.1 (nI g) a.2.2) (fun g a => a.1 = gtR v g ∧ a.2.1 = (if g = 0 then -1 else v (gtN v g)) ∧ oSame xWk SX a.2.2) _ (tn1 Z) ?_ ?_ (tn1 Z) 0 (-1, -1, SX) 5000 (by omega) ⟨rfl, rfl, oSame.rf⟩ (by omega)
  · rintro f ⟨x, y, S⟩ ⟨i1, i2, i3⟩
    dsimp only at i1 i2 i3
    refine ⟨(0, x, S), ?_, rfl, i1, xWk.same i3⟩
    show fX11_most_b20 5000 _ (nI c) x2 x y (nI (tn1 Z)) S = _
    unfold fX11_most_b20
    dsimp only [lt]
    have C' := C.on (Or.inl rfl) i3
    rw [show S (xtw S) 5 = nI (tn1 Z) from (C'.1 0 5 (by omega) (by omega)).trans Zk.2.1.1, if_pos (nI_le (Nat.le_refl _) (by omega))]
    rfl
  · rintro f g ⟨x, y, S⟩ hg ⟨i1, i2, i3⟩
    dsimp only at i1 i2 i3
    have C' := C.on (Or.inl rfl) i3
    obtain ⟨X1, b1, b2, b3⟩ := x_begin (N := 5000) (Or.inl rfl) Zk C' hg (by omega)
    obtain ⟨X2, p1, p2, p3⟩ := x_passHours (N := 5000) (n := c) xtw_cases Zk (C'.1.on xtw_cases b3) (K.1 g hg) (K.2.2 g hg) b2 (by omega) (by omega) (by decide)
    have hF : fX11_most_h20 5000 (f + 1) (nI c) x2 x y (nI g) S = fX11_most_b85 5000 (fX11_most_h20 5000 f) (nI c) x2 x y (nI g) (v g) X2 := by
      show fX11_most_b20 5000 (fX11_most_h20 5000 f) (nI c) x2 x y (nI g) S = _
      unfold fX11_most_b20
      dsimp only [lt]
      rw [show S (xtw S) 5 = nI (tn1 Z) from (C'.1 0 5 (by omega) (by omega)).trans Zk.2.1.1, if_neg (nI_ge hg (by omega))]
      unfold fX11_most_b32
      dsimp only [lt]
      rw [bnd_t b1]
      dsimp only
      rw [xWk.tw b3, bnd_t p1]
      dsimp only
      rw [hv]
      show _ = fX11_most_b85 5000 (fX11_most_h20 5000 f) (nI c) x2 x y (nI g) (muV x2 _) X2
      unfold muV
      by_cases hx : x2 = 0
      · rw [if_pos hx, if_pos hx]
        unfold fX11_most_b68
        rw [p2.2.2.1]
      · rw [if_neg hx, if_neg hx]
        unfold fX11_most_b78
        rw [p2.2.1]
    refine Or.inr ?_
    have s2 := (i3.tr b3).tr p3
    by_cases h0 : g = 0
    · subst h0
      refine ⟨(nI 0, v 0, X2), ⟨rfl, rfl, s2⟩, ?_⟩
      show fX11_most_h20 5000 (f + 1) (nI c) x2 x y (nI 0) S = _
      rw [hF, i2, if_pos rfl]
      unfold fX11_most_b85
      rw [if_neg (hv0 0 hg)]
      rfl
    · have e1 : gtN v (g + 1) = if v g ≤ v (gtN v g) then gtN v g else g := if_neg h0
      have e2 : gtR v g = nI (gtN v g) := if_neg h0
      rw [if_neg h0] at i2
      by_cases h1 : v g ≤ v (gtN v g)
      · rw [if_pos h1] at e1
        refine ⟨(x, y, X2), ⟨?_, ?_, s2⟩, ?_⟩
        · show x = gtR v (g + 1)
          unfold gtR
          rw [if_neg (Nat.succ_ne_zero g), e1, i1, e2]
        · show y = if g + 1 = 0 then -1 else v (gtN v (g + 1))
          rw [if_neg (Nat.succ_ne_zero g), e1, i2]
        · show fX11_most_h20 5000 (f + 1) (nI c) x2 x y (nI g) S = _
          rw [hF]
          unfold fX11_most_b85
          rw [i2, if_pos h1]
          unfold fX11_most_b101
          rw [nI_1]
      · rw [if_neg h1] at e1
        refine ⟨(nI g, v g, X2), ⟨?_, ?_, s2⟩, ?_⟩
        · show nI g = gtR v (g + 1)
          unfold gtR
          rw [if_neg (Nat.succ_ne_zero g), e1]
        · show v g = if g + 1 = 0 then -1 else v (gtN v (g + 1))
          rw [if_neg (Nat.succ_ne_zero g), e1]
        · show fX11_most_h20 5000 (f + 1) (nI c) x2 x y (nI g) S = _
          rw [hF]
          unfold fX11_most_b85
          rw [i2, if_neg h1]
          unfold fX11_most_b94 fX11_most_b101
          rw [nI_1]
theorem st_most : Lw_most JJ := by
  intro SX SM x1 x2 hJ
  obtain ⟨S1, Z, h, qs, hS1, c0, hJ1, Zk, h9, C, M, K, w41, x0, x5⟩ := pre hJ
  have z6 := Zk.2.1.2
  have hF : fX12_most 5000 x1 x2 SM = if x2 < 0 then fX12_most_b14 5000 S1 else fX12_most_b9 5000 x1 x2 S1 := by
    unfold fX12_most fX12_most_b0
    dsimp only [lt]
    rw [← hS1]
  have hH : fX12_most_b20 5000 x1 x2 S1 = if iv (wth x1 0 60) = 0 then fX12_most_b32 5000 S1 else fX12_most_b38 5000 x1 x2 S1 := by
    unfold fX12_most_b20
    rw [bnd_t in_0_60]
  cases h3 : wth x2 0 1 with
  | false =>
    refine stFl 5000 5000 1 hJ one_ne (Or.inr (Or.inl rfl)) (nwF h3) ?_
    show fX12_most 5000 x1 x2 SM = _
    rw [hF, ← hS1]
    rcases w01F h3 with q | ⟨q1, q2⟩
    · rw [if_pos q]
      rfl
    · rw [if_neg q1]
      unfold fX12_most_b9
      rw [if_neg q2]
      rfl
  | true =>
  obtain ⟨y1, y2, -⟩ := w01T h3
  have hG : fX12_most 5000 x1 x2 SM = fX12_most_b20 5000 x1 x2 S1 := by
    rw [hF, if_neg y1]
    unfold fX12_most_b9
    rw [if_pos y2]
  cases h2 : wth x1 0 60 with
  | false =>
    refine stFl 5000 5000 2 hJ two_ne (Or.inr (Or.inr rfl)) ((nwT h3).trans (niF h2)) ?_
    show fX12_most 5000 x1 x2 SM = _
    rw [hG, hH, h2, ← hS1]
    rfl
  | true =>
  obtain ⟨c, -, c2, rfl⟩ := wth_of (a := 0) (b := 60) (by decide) (by decide) h2
  obtain ⟨S2, k1, k2, k3, -, -, -, k4⟩ := q_go M w41 c0
  obtain ⟨S3, r1, r2, r3⟩ := m_goOn (N := 5000) (n := c) Zk K.h (by omega) (by decide) (by omega) k2 k3
  obtain ⟨S4, u1, u2, u3⟩ := k4 S3 r3
  refine stSu 5000 5000 (gtR (fun g => muV x2 (trj Z (Z 5 g) (SX 21 1) (wetZ Z) h (qs g) c)) (tn1 Z)) hJ rfl (Or.inl rfl) ?_ ⟨(gtR (fun g => muV x2 (trj Z (Z 5 g) (SX 21 1) (wetZ Z) h (qs g) c)) (tn1 Z), S4), ?_, rfl, by rw [← hS1]; exact u2, u3⟩
  · have e : fX11_most 5000 (nI c) x2 SX = fX11_most_h20 5000 5000 (nI c) x2 (-1) (-1) 0 SX := (nwT h3).trans (niT h2)
    show Gv (fX11_most 5000 (nI c) x2 SX) _
    rw [e]
    exact x_most_h Zk C K h9 c2
  · show fX12_most 5000 (nI c) x2 SM = _
    rw [hG, hH, h2]
    show fX12_most_b38 5000 (nI c) x2 S1 = _
    unfold fX12_most_b38
    rw [bnd_t k1]
    dsimp only
    rw [bnd_t r1]
    dsimp only
    by_cases hx : x2 = 0
    · rw [if_pos hx]
      unfold fX12_most_b57 fX12_most_b68
      rw [bnd_t (m_greatest (n := tn1 Z) r2.1.2.1 z6 rfl (by decide))]
      dsimp only
      rw [bnd_t u1, gtR_eq (v := S3 33) (v' := fun g => muV x2 (trj Z (Z 5 g) (SX 21 1) (wetZ Z) h (qs g) c)) (fun i hi => by
        show _ = muV x2 _
        unfold muV
        rw [if_pos hx]
        exact (r2.2.2.2.2 i hi).2.1)]
    · rw [if_neg hx]
      unfold fX12_most_b64 fX12_most_b68
      rw [bnd_t (m_greatest (n := tn1 Z) r2.1.2.1 z6 rfl (by decide))]
      dsimp only
      rw [bnd_t u1, gtR_eq (v := S3 32) (v' := fun g => muV x2 (trj Z (Z 5 g) (SX 21 1) (wetZ Z) h (qs g) c)) (fun i hi => by
        show _ = muV x2 _
        unfold muV
        rw [if_neg hx]
        exact (r2.2.2.2.2 i hi).1)]
/-! one GUILD's row put anew -/
noncomputable def upq (qs : Nat → qT) (g : Nat) (q : qT) : Nat → qT := fun g' => if g' = g then q else qs g'
theorem upq_s {qs : Nat → qT} {g : Nat} {q : qT} : upq qs g q g = q := if_pos rfl
theorem upq_n {qs : Nat → qT} {g g' : Nat} {q : qT} (h : g' ≠ g) : upq qs g q g' = qs g' := if_neg h
theorem mSit.up {Z S S' : gS} {h g : Nat} {d : Int32} {e : Nat → Int32} {qs : Nat → qT} {q : qT} (M : mSit Z S h d e qs) (s : ∀ i j, ¬ (32 ≤ i ∧ i ≤ 35 ∧ j = g) → S' i j = S i j) (r1 : S' 32 g = q.1) (r2 : S' 33 g = q.2.1) (r3 : S' 34 g = q.2.2.1) (r4 : S' 35 g = q.2.2.2) : mSit Z S' h d e (upq qs g q) := by
  obtain ⟨m1, m2, m3, m4, m5⟩ := M
  refine ⟨m1.on (fun i j h1 h2 => s i j (by omega)), fun g' hg => by rw [s 18 g' (by omega)]; exact m2 g' hg, by rw [s 99 37 (by omega)]; exact m3, by rw [s 99 38 (by omega)]; exact m4, fun g' hg => ?_⟩
  by_cases hh : g' = g
  · subst hh
    rw [upq_s]
    exact ⟨r1, r2, r3, r4⟩
  · rw [upq_n hh, s 32 g' (by omega), s 33 g' (by omega), s 34 g' (by omega), s 35 g' (by omega)]
    exact m5 g' hg
theorem qsOK.up {Z : gS} {g : Nat} {e : Nat → Int32} {qs : Nat → qT} {q : qT} (K : qsOK Z e qs) (hq : qOK (tn0 Z) q) (hu : q.2.2.2 = -1 ∨ ∀ g', g' < tn1 Z → g' ≠ g → (qs g').2.2.2 ≠ q.2.2.2) : qsOK Z e (upq qs g q) := by
  obtain ⟨k1, k2, k3⟩ := K
  refine ⟨fun g' hg' => ?_, fun a b ha hb h1 h2 => ?_, k3⟩
  · by_cases hh : g' = g
    · rw [hh, upq_s]; exact hq
    · rw [upq_n hh]; exact k1 g' hg'
  · by_cases h3 : a = g
    · by_cases h4 : b = g
      · rw [h3, h4]
      · rw [h3, upq_s] at h1 h2
        rw [upq_n h4] at h1
        rcases hu with hu | hu
        · exact absurd hu h2
        · exact absurd h1.symm (hu b hb h4)
    · by_cases h4 : b = g
      · rw [h4, upq_s, upq_n h3] at h1
        rw [upq_n h3] at h2
        rcases hu with hu | hu
        · exact absurd (h1.trans hu) h2
        · exact absurd h1 (hu a ha h3)
      · rw [upq_n h3, upq_n h4] at h1
        rw [upq_n h3] at h2
        exact k2 a b ha hb h1 h2
/-! confessing -/
noncomputable def cfq (q : qT) : qT := (q.1 / 2, q.2.1 - 50, q.2.2)
theorem cfq_ok {n0 : Nat} {q : qT} (h : qOK n0 q) (h5 : ¬ q.2.1 < 50) : qOK n0 (cfq q) := by
  obtain ⟨a, b, c⟩ := h
  obtain ⟨x, hx, ex⟩ := i32_99 a
  obtain ⟨y, hy, ey⟩ := i32_999 b
  refine ⟨?_, ?_, c⟩
  · show 0 ≤ q.1 / 2 ∧ q.1 / 2 ≤ 99
    rw [ex, show (2 : Int32) = nI 2 from rfl, pk_div (by omega) (by decide) (by decide)]
    exact of_99 (by omega)
  · show 0 ≤ q.2.1 - 50 ∧ q.2.1 - 50 ≤ 999
    rw [ey] at h5 ⊢
    have h6 : 50 ≤ y := by
      have := mt (nI_ltI (a := y) (b := 50) (by omega) (by omega)).mpr h5
      omega
    rw [show (50 : Int32) = nI 50 from rfl, pk_sub h6]
    exact of_999 (by omega)
theorem cfq_up {Z : gS} {g : Nat} {e : Nat → Int32} {qs : Nat → qT} (K : qsOK Z e qs) (hg : g < tn1 Z) (h5 : ¬ (qs g).2.1 < 50) : qsOK Z e (upq qs g (cfq (qs g))) := by
  refine K.up (cfq_ok (K.1 g hg) h5) ?_
  by_cases hn : (qs g).2.2.2 = -1
  · exact Or.inl hn
  · exact Or.inr (fun g' hg' hne hh => hne (K.2.1 g' g hg' hg hh (fun q => hn (hh.symm.trans q))))
theorem m_canConfess {N g : Nat} {Z S : gS} {h : Nat} {d : Int32} {e : Nat → Int32} {qs : Nat → qT} (Zk : tOK Z) (M : mSit Z S h d e qs) (hg : g < tn1 Z) : fX12_canConfess N (nI g) S = some (iv (decide (¬ (qs g).2.1 < 50)), S) := by
  have z6 := Zk.2.1.2
  unfold fX12_canConfess fX12_canConfess_b0
  rw [chk_t (inb_t (by omega) (by decide)), nI_clamp (by omega), (M.2.2.2.2 g hg).2.1]
  by_cases h5 : (qs g).2.1 < 50
  · rw [if_pos h5, decide_eq_false (fun q => q h5)]
    rfl
  · rw [if_neg h5, decide_eq_true h5]
    rfl
theorem m_doConfess {N g : Nat} {Z S : gS} {h : Nat} {d : Int32} {e : Nat → Int32} {qs : Nat → qT} (Zk : tOK Z) (M : mSit Z S h d e qs) (hg : g < tn1 Z) : ∃ S', fX12_doConfess N (nI g) S = some (0, S') ∧ mSit Z S' h d e (upq qs g (cfq (qs g))) ∧ ∀ i j, ¬ ((i = 32 ∨ i = 33) ∧ j = g) → S' i j = S i j := by
  have z6 := Zk.2.1.2
  obtain ⟨m1, m2, m3, m4⟩ := M.2.2.2.2 g hg
  have s : ∀ i j, ¬ ((i = 32 ∨ i = 33) ∧ j = g) → sU (sU S 33 g ((qs g).2.1 - 50)) 32 g ((qs g).1 / 2) i j = S i j := fun i j hij => by rw [sU_n (by omega), sU_n (by omega)]
  refine ⟨sU (sU S 33 g ((qs g).2.1 - 50)) 32 g ((qs g).1 / 2), ?_, M.up (fun i j hij => s i j (by omega)) ?_ ?_ ?_ ?_, s⟩
  · unfold fX12_doConfess fX12_doConfess_b0
    dsimp only [lt]
    rw [nI_clamp (by omega), chk_t (inb_t (by omega) (by decide)), chk_t (inb_t (by omega) (by decide)), chk_t (inb_t (by omega) (by decide)), chk_t (inb_t (by omega) (by decide)), sU_n (i := 32) (by omega), m1, m2]
  · rw [sU_s]; rfl
  · rw [sU_n (by omega), sU_s]; rfl
  · rw [s 34 g (by omega)]; exact m3
  · rw [s 35 g (by omega)]; exact m4
theorem x_repent {N : Nat} {S : gS} {e d ho : Int32} {q : qT} (W : wkA S e d ho q) : ∃ S', fX10_repent N S = some (0, S') ∧ wkA S' e d ho (cfq q) ∧ oSame xWk S S' := by
  obtain ⟨w0, w1, w2, w3, w4, w5, w7⟩ := W
  refine ⟨sU (sU S 51 2 (q.2.1 - 50)) 51 1 (q.1 / 2), ?_, ⟨?_, ?_, ?_, ?_, ?_, ?_, ?_⟩, (oSame.rf.up rfl).up rfl⟩
  · unfold fX10_repent fX10_repent_b0
    dsimp only [lt]
    rw [sU_n (i := 51) (j := 1) (by omega), w1, w2]
  · rw [sU_n (by omega), sU_n (by omega)]; exact w0
  · rw [sU_s]; rfl
  · rw [sU_n (by omega), sU_s]; rfl
  · rw [sU_n (by omega), sU_n (by omega)]; exact w3
  · rw [sU_n (by omega), sU_n (by omega)]; exact w4
  · rw [sU_n (by omega), sU_n (by omega)]; exact w5
  · rw [sU_n (by omega), sU_n (by omega)]; exact w7
theorem mHo_of {S S' : gS} {g : Nat} (hg : g < 6) (s : ∀ i j, ¬ (32 ≤ i ∧ i ≤ 35 ∧ j = g) → S' i j = S i j) : oSame mHo S S' := by
  intro i j hij
  obtain ⟨-, -, h3, -⟩ := mHo_f hij
  exact s i j (by omega)
theorem st_confessing : Lw_confessing JJ := by
  intro SX SM x1 x2 hJ
  obtain ⟨S1, Z, h, qs, hS1, c0, hJ1, Zk, h9, C, M, K, w41, x0, x5⟩ := pre hJ
  have z6 := Zk.2.1.2
  have hF : fX12_confessing 5000 x1 x2 SM = if iv (inb x1 (tn1 Z)) = 0 then fX12_confessing_b13 5000 S1 else fX12_confessing_b19 5000 x1 x2 S1 := by
    unfold fX12_confessing fX12_confessing_b0
    dsimp only [lt]
    rw [← hS1, bnd_t (m_isGuild M.1.2.1 (by omega))]
  have hH : fX12_confessing_b19 5000 x1 x2 S1 = if iv (wth x2 0 60) = 0 then fX12_confessing_b31 5000 S1 else fX12_confessing_b37 5000 x1 x2 S1 := by
    unfold fX12_confessing_b19
    rw [bnd_t in_0_60]
  cases h1 : inb x1 (tn1 Z) with
  | false =>
    refine stFl 5000 5000 1 hJ one_ne (Or.inr (Or.inl rfl)) (ngF x5 (by omega) h1) ?_
    show fX12_confessing 5000 x1 x2 SM = _
    rw [hF, h1, ← hS1]
    rfl
  | true =>
  cases h2 : wth x2 0 60 with
  | false =>
    refine stFl 5000 5000 2 hJ two_ne (Or.inr (Or.inr rfl)) ((ngT x5 (by omega) h1).trans (niF h2)) ?_
    show fX12_confessing 5000 x1 x2 SM = _
    rw [hF, h1, ← hS1]
    show fX12_confessing_b19 5000 x1 x2 S1 = _
    rw [hH, h2]
    rfl
  | true =>
  obtain ⟨g, hg, rfl⟩ := inb_of h1 (by omega)
  obtain ⟨c, -, c2, rfl⟩ := wth_of (a := 0) (b := 60) (by decide) (by decide) h2
  have hgc : (nI g).toNatClampNeg = g := nI_clamp (by omega)
  have hin : inb (nI g) 6 = true := inb_t (by omega) (by decide)
  have hX : fX11_confessing 5000 (nI g) (nI c) SX = if 50 ≤ (qs g).2.1 then fX11_confessing_b31 5000 (nI g) (nI c) SX else fX11_confessing_b29 5000 SX := by
    refine (ngT x5 (by omega) h1).trans ((niT h2).trans ?_)
    dsimp only
    rw [chk_t hin, hgc]
    simp only [show SX 23 g = (qs g).2.1 from (C.2.2.2 g hg).2.1]
  have hM : fX12_confessing 5000 (nI g) (nI c) SM = if iv (decide (¬ (qs g).2.1 < 50)) = 0 then fX12_confessing_b45 5000 S1 else fX12_confessing_b47 5000 (nI g) (nI c) S1 := by
    rw [hF, h1]
    show fX12_confessing_b19 5000 (nI g) (nI c) S1 = _
    rw [hH, h2]
    show fX12_confessing_b37 5000 (nI g) (nI c) S1 = _
    unfold fX12_confessing_b37
    rw [bnd_t (m_canConfess Zk M hg)]
  by_cases h5 : (qs g).2.1 < 50
  · refine stSu 5000 5000 0 hJ rfl (Or.inl rfl) ⟨(0, 0, SX), ?_, rfl, rfl, xSame.rf⟩ ⟨(0, S1), ?_, rfl, by rw [← hS1]; exact mSame.rf, c0⟩
    · show fX11_confessing 5000 (nI g) (nI c) SX = _
      rw [hX, if_neg (Int32.not_le.mpr h5)]
      rfl
    · show fX12_confessing 5000 (nI g) (nI c) SM = _
      rw [hM, decide_eq_false (fun q => q h5)]
      rfl
  · obtain ⟨X1, b1, b2, b3⟩ := x_begin (N := 5000) (Or.inl rfl) Zk C hg (by omega)
    obtain ⟨X2, p1, p2, p3⟩ := x_passHours (N := 5000) (n := c) xtw_cases Zk (C.1.on xtw_cases b3) (K.1 g hg) (K.2.2 g hg) b2 (by omega) (by omega) (by decide)
    have C2 := C.on (Or.inl rfl) (b3.tr p3)
    obtain ⟨X3, d1, d2, d3⟩ := x_begin (N := 5000) (Or.inl rfl) Zk C2 hg (by omega)
    obtain ⟨X4, e1, e2, e3⟩ := x_repent (N := 5000) d2
    obtain ⟨X5, f1, f2, f3⟩ := x_passHours (N := 5000) (n := c) xtw_cases Zk (C2.1.on xtw_cases (d3.tr e3)) (cfq_ok (K.1 g hg) h5) (K.2.2 g hg) e2 (by omega) (by omega) (by decide)
    obtain ⟨S2, k1, k2, k3, k5, k7, k6, k4⟩ := q_go M w41 c0
    obtain ⟨S3, r1, r2, r3⟩ := m_goOn (N := 5000) (n := c) Zk K.h (by omega) (by decide) (by omega) k2 k3
    obtain ⟨S4, u1, u2, u3, u4⟩ := k6 S3 (fun j => r3 46 j rfl) (k5.q.tr r3.q)
    obtain ⟨S5, v1, v2, v3⟩ := m_doConfess (N := 5000) Zk (M.on u2) hg
    have v4 : oSame mHo S4 S5 := mHo_of (g := g) (by omega) (fun i j hij => v3 i j (by omega))
    obtain ⟨S6, w1, w2, w3⟩ := m_goOn (N := 5000) (n := c) Zk (cfq_up K hg h5).h (by omega) (by decide) (by omega) v2 (by rw [v4 99 41 rfl, u2 99 41 rfl]; exact w41)
    obtain ⟨S7, y1, y2, y3, y4⟩ := k6 S6 (fun j => by
      rw [w3 46 j rfl, v4 46 j rfl, u4 46 j]
      exact r3 46 j rfl) (u2.q.tr (v4.q.tr w3.q))
    refine stSu 5000 5000 ((trj Z (Z 5 g) (SX 21 1) (wetZ Z) h (qs g) c).1 - (trj Z (Z 5 g) (SX 21 1) (wetZ Z) h (cfq (qs g)) c).1) hJ rfl (Or.inl rfl) ⟨(0, ((trj Z (Z 5 g) (SX 21 1) (wetZ Z) h (qs g) c).1 - (trj Z (Z 5 g) (SX 21 1) (wetZ Z) h (cfq (qs g)) c).1), X5), ?_, rfl, rfl, xWk.same (((((b3.tr p3).tr d3).tr e3).tr f3))⟩ ⟨(((trj Z (Z 5 g) (SX 21 1) (wetZ Z) h (qs g) c).1 - (trj Z (Z 5 g) (SX 21 1) (wetZ Z) h (cfq (qs g)) c).1), S7), ?_, rfl, by rw [← hS1]; exact y2, ?_⟩
    · show fX11_confessing 5000 (nI g) (nI c) SX = _
      rw [hX, if_pos (Int32.not_lt.mp h5)]
      unfold fX11_confessing_b31
      dsimp only [lt]
      rw [bnd_t b1]
      dsimp only
      rw [xWk.tw b3, bnd_t p1]
      dsimp only
      rw [xWk.tw (b3.tr p3)] at d1
      rw [xWk.tw (b3.tr p3), bnd_t d1]
      dsimp only
      rw [bnd_t e1]
      dsimp only
      rw [xWk.tw (b3.tr p3)] at f1
      rw [xWk.tw (((b3.tr p3).tr d3).tr e3), bnd_t f1]
      dsimp only
      rw [p2.2.1, f2.2.1]
    · show fX12_confessing 5000 (nI g) (nI c) SM = _
      rw [hM, decide_eq_true h5]
      show fX12_confessing_b47 5000 (nI g) (nI c) S1 = _
      unfold fX12_confessing_b47
      rw [bnd_t k1]
      dsimp only
      rw [bnd_t r1]
      dsimp only
      rw [chk_t hin, bnd_t u1]
      dsimp only
      rw [bnd_t v1]
      dsimp only
      rw [bnd_t w1]
      dsimp only
      rw [chk_t hin, bnd_t y1, hgc, (r2.2.2.2.2 g hg).1, (w2.2.2.2.2 g hg).1]
      dsimp only
      rw [upq_s]
    · dsimp only
      rw [y3, w3 99 4 rfl, v4 99 4 rfl, u3, r3 99 4 rfl]
      exact k7
end

/-! part 52.atohire -/
section
/-! toHire -/
noncomputable def elH (qs : Nat → qT) (n1 g k : Nat) : Bool := decide (hoR (fun g => (qs g).2.2.2) (nI k) n1 0 = -1 ∨ hoR (fun g => (qs g).2.2.2) (nI k) n1 0 = nI g)
noncomputable def vaH (Z : gS) (d : Int32) (h c g : Nat) (q : qT) (k : Nat) : Int32 := (trj Z (Z 5 g) d (wetZ Z) h (q.1, q.2.1, q.2.2.1, nI k) c).1
noncomputable def thR (el : Nat → Bool) (va : Nat → Int32) : Nat → Int32 × Int32
  | 0 => (-1, -1)
  | k + 1 => if el k = true then (if (thR el va k).1 = -1 then (nI k, va k) else if (thR el va k).2 ≤ va k then thR el va k else (nI k, va k)) else thR el va k
theorem elH_q {Z : gS} {e : Nat → Int32} {qs : Nat → qT} {g k : Nat} (Zk : tOK Z) (K : qsOK Z e qs) (hg : g < tn1 Z) (hk : k < tn0 Z) (he : elH qs (tn1 Z) g k = true) : qOK (tn0 Z) ((qs g).1, (qs g).2.1, (qs g).2.2.1, nI k) ∧ ∀ g', g' < tn1 Z → g' ≠ g → (qs g').2.2.2 ≠ nI k := by
  have z6 := Zk.2.1.2
  have z8 := Zk.1.2
  obtain ⟨a, b, c, -⟩ := K.1 g hg
  refine ⟨⟨a, b, c, Or.inr ⟨k, hk, rfl⟩⟩, fun g' hg' hne hh => ?_⟩
  unfold elH at he
  rw [decide_eq_true_iff] at he
  rcases hoR_cases (r := fun g => (qs g).2.2.2) (x := nI k) (tn1 Z) 0 with ⟨o1, o2⟩ | ⟨g0, -, g1, o2, o1⟩
  · exact o2 g' (by omega) (by omega) hh
  · have e1 : g0 = g' := K.2.1 g0 g' (by omega) hg' (o2.trans hh.symm) (by
      rw [o2]
      exact nI_nem (by omega))
    rw [o1] at he
    rcases he with he | he
    · exact nI_nem (by omega) he
    · have := (nI_eq (by omega) (by omega)).mp he
      omega
theorem x_toHire_h {Z SX : gS} {h c g : Nat} {d x3 : Int32} {qs : Nat → qT} (Zk : tOK Z) (C : cSit 21 Z SX h d qs) (K : qsOK Z (Z 5) qs) (hg : g < tn1 Z) (h9 : h ≤ 999) (hc : c ≤ 60) : Gv (fX11_toHire_h26 5000 5000 (nI g) (nI c) x3 (-1) (-1) 0 SX) (fun r => r.1 = 0 ∧ r.2.1 = (if x3 = 0 then (thR (elH qs (tn1 Z) g) (vaH Z d h c g (qs g)) (tn0 Z)).1 else (thR (elH qs (tn1 Z) g) (vaH Z d h c g (qs g)) (tn0 Z)).2) ∧ xSame SX r.2.2) := by
  have z6 := Zk.2.1.2
  have z8 := Zk.1.2
  refine loopG (A := gS) (fun f k S => fX11_toHire_h26 5000 f (nI g) (nI c) x3 (thR (elH qs (tn1 Z) g) (vaH Z d h c g (qs g)) k).1 (thR (elH qs (tn1 Z) g) (vaH Z d h c g (qs g)) k).2 (nI k) S) (fun k S => oSame xWk SX S) _ (tn0 Z) ?_ ?_ (tn0 Z) 0 SX 5000 (by omega) oSame.rf (by omega)
  · intro f S i1
    refine ⟨(0, (if x3 = 0 then (thR (elH qs (tn1 Z) g) (vaH Z d h c g (qs g)) (tn0 Z)).1 else (thR (elH qs (tn1 Z) g) (vaH Z d h c g (qs g)) (tn0 Z)).2), S), ?_, rfl, rfl, xWk.same i1⟩
    show fX11_toHire_b26 5000 _ (nI g) (nI c) x3 _ _ (nI (tn0 Z)) S = _
    unfold fX11_toHire_b26
    dsimp only [lt]
    have C' := C.on (Or.inl rfl) i1
    rw [show S (xtw S) 0 = nI (tn0 Z) from (C'.1 0 0 (by omega) (by omega)).trans Zk.1.1, if_pos (nI_le (Nat.le_refl _) (by omega))]
    unfold fX11_toHire_b145
    by_cases hx : x3 = 0
    · rw [if_pos hx, if_pos hx]; rfl
    · rw [if_neg hx, if_neg hx]; rfl
  · intro f k S hk i1
    refine Or.inr ?_
    have C' := C.on (Or.inl rfl) i1
    obtain ⟨o, ho⟩ : ∃ z, z = hoR (fun g => (qs g).2.2.2) (nI k) (tn1 Z) 0 := ⟨_, rfl⟩
    obtain ⟨b, hb⟩ : ∃ z, z = (thR (elH qs (tn1 Z) g) (vaH Z d h c g (qs g)) k).1 := ⟨_, rfl⟩
    obtain ⟨s, hs⟩ : ∃ z, z = (thR (elH qs (tn1 Z) g) (vaH Z d h c g (qs g)) k).2 := ⟨_, rfl⟩
    have hF : fX11_toHire_h26 5000 (f + 1) (nI g) (nI c) x3 b s (nI k) S = if o = -1 then fX11_toHire_b68 5000 (fX11_toHire_h26 5000 f) (nI g) (nI c) x3 b s (nI k) S else if o = nI g then fX11_toHire_b68 5000 (fX11_toHire_h26 5000 f) (nI g) (nI c) x3 b s (nI k) S else fX11_toHire_b139 5000 (fX11_toHire_h26 5000 f) (nI g) (nI c) x3 b s (nI k) S := by
      show fX11_toHire_b26 5000 (fX11_toHire_h26 5000 f) (nI g) (nI c) x3 b s (nI k) S = _
      unfold fX11_toHire_b26
      dsimp only [lt]
      rw [show S (xtw S) 0 = nI (tn0 Z) from (C'.1 0 0 (by omega) (by omega)).trans Zk.1.1, if_neg (nI_ge hk (by omega))]
      unfold fX11_toHire_b38
      dsimp only [lt]
      rw [bnd_t (x_holderOf (N := 5000) (n := tn1 Z) (show S (xtw S) 5 = nI (tn1 Z) from (C'.1 0 5 (by omega) (by omega)).trans Zk.2.1.1) z6 (by decide)), hoR_eq (r := S (21 + 4)) (r' := fun g => (qs g).2.2.2) (tn1 Z) 0 (fun i _ hi => (C'.2.2.2 i (by omega)).2.2.2), ← ho]
      rfl
    cases hel : elH qs (tn1 Z) g k with
    | false =>
      refine ⟨S, i1, ?_⟩
      have he : ¬ (o = -1 ∨ o = nI g) := by
        unfold elH at hel
        rw [decide_eq_false_iff_not, ← ho] at hel
        exact hel
      have eT : thR (elH qs (tn1 Z) g) (vaH Z d h c g (qs g)) (k + 1) = thR (elH qs (tn1 Z) g) (vaH Z d h c g (qs g)) k := if_neg (by rw [hel]; decide)
      show fX11_toHire_h26 5000 (f + 1) (nI g) (nI c) x3 _ _ (nI k) S = fX11_toHire_h26 5000 f (nI g) (nI c) x3 _ _ (nI (k + 1)) S
      rw [eT, ← hb, ← hs, hF, if_neg (fun q => he (Or.inl q)), if_neg (fun q => he (Or.inr q))]
      unfold fX11_toHire_b139
      rw [nI_1]
    | true =>
      have he : o = -1 ∨ o = nI g := by
        unfold elH at hel
        rw [decide_eq_true_iff, ← ho] at hel
        exact hel
      obtain ⟨hq, -⟩ := elH_q Zk K hg hk hel
      obtain ⟨X1, b1, b2, b3⟩ := x_begin (N := 5000) (Or.inl rfl) Zk C' hg (by omega)
      have b4 : oSame xWk S (sU X1 51 4 (nI k)) := b3.up rfl
      have b5 : wkA (sU X1 51 4 (nI k)) (Z 5 g) d (nI h) ((qs g).1, (qs g).2.1, (qs g).2.2.1, nI k) := by
        obtain ⟨w0, w1, w2, w3, w4, w5, w7⟩ := b2
        refine ⟨?_, ?_, ?_, ?_, sU_s, ?_, ?_⟩ <;> rw [sU_n (by omega)] <;> assumption
      obtain ⟨X2, p1, p2, p3⟩ := x_passHours (N := 5000) (n := c) xtw_cases Zk (C'.1.on xtw_cases b4) hq (K.2.2 g hg) b5 (by omega) (by omega) (by decide)
      have hF2 : fX11_toHire_h26 5000 (f + 1) (nI g) (nI c) x3 b s (nI k) S = if b = -1 then fX11_toHire_b126 5000 (fX11_toHire_h26 5000 f) (nI g) (nI c) x3 (nI k) X2 else fX11_toHire_b114 5000 (fX11_toHire_h26 5000 f) (nI g) (nI c) x3 b s (nI k) X2 := by
        rw [hF]
        have e68 : fX11_toHire_b68 5000 (fX11_toHire_h26 5000 f) (nI g) (nI c) x3 b s (nI k) S = if b = -1 then fX11_toHire_b126 5000 (fX11_toHire_h26 5000 f) (nI g) (nI c) x3 (nI k) X2 else fX11_toHire_b114 5000 (fX11_toHire_h26 5000 f) (nI g) (nI c) x3 b s (nI k) X2 := by
          unfold fX11_toHire_b68
          dsimp only [lt]
          rw [bnd_t b1]
          dsimp only
          rw [xWk.tw b4, bnd_t p1]
        by_cases h1 : o = -1
        · rw [if_pos h1, e68]
        · rw [if_neg h1, if_pos (he.resolve_left h1), e68]
      have e51 : X2 51 1 = vaH Z d h c g (qs g) k := p2.2.1
      refine ⟨X2, (i1.tr b4).tr p3, ?_⟩
      show fX11_toHire_h26 5000 (f + 1) (nI g) (nI c) x3 _ _ (nI k) S = fX11_toHire_h26 5000 f (nI g) (nI c) x3 _ _ (nI (k + 1)) X2
      have eT : thR (elH qs (tn1 Z) g) (vaH Z d h c g (qs g)) (k + 1) = if (thR (elH qs (tn1 Z) g) (vaH Z d h c g (qs g)) k).1 = -1 then (nI k, vaH Z d h c g (qs g) k) else if (thR (elH qs (tn1 Z) g) (vaH Z d h c g (qs g)) k).2 ≤ vaH Z d h c g (qs g) k then thR (elH qs (tn1 Z) g) (vaH Z d h c g (qs g)) k else (nI k, vaH Z d h c g (qs g) k) := if_pos hel
      rw [← hb, ← hs] at eT
      rw [← hb, ← hs, hF2]
      by_cases h1 : b = -1
      · rw [if_pos h1] at eT ⊢
        rw [eT]
        unfold fX11_toHire_b126 fX11_toHire_b139
        rw [nI_1, e51]
      · rw [if_neg h1] at eT ⊢
        unfold fX11_toHire_b114
        rw [e51]
        by_cases h2 : s ≤ vaH Z d h c g (qs g) k
        · rw [if_pos h2] at eT ⊢
          rw [eT, ← hb, ← hs]
          unfold fX11_toHire_b139
          rw [nI_1]
        · rw [if_neg h2] at eT ⊢
          rw [eT]
          unfold fX11_toHire_b126 fX11_toHire_b139
          rw [nI_1, e51]
theorem i32_lt1000 {x : Int32} (h : x ≤ 99) : x < 1000 := by
  rw [Int32.lt_iff_toInt_lt]
  rw [Int32.le_iff_toInt_le] at h
  have e1 : (99 : Int32).toInt = 99 := rfl
  have e2 : (1000 : Int32).toInt = 1000 := rfl
  omega
theorem m_toHire_h {Z S1 S2 : gS} {h c g : Nat} {d x3 : Int32} {qs : Nat → qT} (Zk : tOK Z) (K : qsOK Z (Z 5) qs) (hg : g < tn1 Z) (h9 : h ≤ 999) (hc : c ≤ 60) (M : mSit Z S1 h d (Z 5) qs) (w41 : S1 99 41 = -1) (c0 : S2 99 4 = 0) (s12 : mSame S1 S2) (E : ∀ S, (∀ j, S 46 j = S2 46 j) → oSame mQ S1 S → ∃ S4, fX12_unpack 5000 46 0 S = some (0, S4) ∧ mSame S1 S4 ∧ S4 99 4 = S 99 4 ∧ ∀ i j, S4 i j = if mPk i j = true then S1 i j else S i j) : Gv (fX12_toHire_h66 5000 5000 (nI g) (nI c) x3 (-1) 1000 0 S2) (fun r => r.1 = (if x3 = 0 then (thR (elH qs (tn1 Z) g) (vaH Z d h c g (qs g)) (tn0 Z)).1 else (thR (elH qs (tn1 Z) g) (vaH Z d h c g (qs g)) (tn0 Z)).2) ∧ mSame S1 r.2 ∧ r.2 99 4 = 0) := by
  have z6 := Zk.2.1.2
  have z8 := Zk.1.2
  have hgc : (nI g).toNatClampNeg = g := nI_clamp (by omega)
  have hin : inb (nI g) 6 = true := inb_t (by omega) (by decide)
  obtain ⟨th, hth⟩ : ∃ z, z = thR (elH qs (tn1 Z) g) (vaH Z d h c g (qs g)) := ⟨_, rfl⟩
  have thm : ∀ k, k ≤ tn0 Z → (th k).1 = -1 → (th k).2 = -1 := by
    intro k
    rw [hth]
    induction k with
    | zero => intro _ _; rfl
    | succ k ih =>
      intro hk hk1
      have eT : thR (elH qs (tn1 Z) g) (vaH Z d h c g (qs g)) (k + 1) = if elH qs (tn1 Z) g k = true then (if (thR (elH qs (tn1 Z) g) (vaH Z d h c g (qs g)) k).1 = -1 then (nI k, vaH Z d h c g (qs g) k) else if (thR (elH qs (tn1 Z) g) (vaH Z d h c g (qs g)) k).2 ≤ vaH Z d h c g (qs g) k then thR (elH qs (tn1 Z) g) (vaH Z d h c g (qs g)) k else (nI k, vaH Z d h c g (qs g) k)) else thR (elH qs (tn1 Z) g) (vaH Z d h c g (qs g)) k := rfl
      by_cases he : elH qs (tn1 Z) g k = true
      · rw [if_pos he] at eT
        by_cases h1 : (thR (elH qs (tn1 Z) g) (vaH Z d h c g (qs g)) k).1 = -1
        · rw [if_pos h1] at eT
          rw [eT] at hk1
          exact absurd hk1 (nI_nem (by omega))
        · rw [if_neg h1] at eT
          by_cases h2 : (thR (elH qs (tn1 Z) g) (vaH Z d h c g (qs g)) k).2 ≤ vaH Z d h c g (qs g) k
          · rw [if_pos h2] at eT
            rw [eT] at hk1
            exact absurd hk1 h1
          · rw [if_neg h2] at eT
            rw [eT] at hk1
            exact absurd hk1 (nI_nem (by omega))
      · rw [if_neg he] at eT
        rw [eT] at hk1 ⊢
        exact ih (by omega) hk1
  rw [← hth]
  have th0 : th 0 = (-1, -1) := by
    rw [hth]
    rfl
  suffices L : Gv (fX12_toHire_h66 5000 5000 (nI g) (nI c) x3 (th 0).1 (if (th 0).1 = -1 then 1000 else (th 0).2) 0 S2) (fun r => r.1 = (if x3 = 0 then (th (tn0 Z)).1 else (th (tn0 Z)).2) ∧ mSame S1 r.2 ∧ r.2 99 4 = 0) by
    rw [th0] at L
    exact L
  refine loopG (A := gS) (fun f k S => fX12_toHire_h66 5000 f (nI g) (nI c) x3 (th k).1 (if (th k).1 = -1 then 1000 else (th k).2) (nI k) S) (fun k S => mSame S1 S ∧ S 99 4 = 0 ∧ ∀ j, S 46 j = S2 46 j) _ (tn0 Z) ?_ ?_ (tn0 Z) 0 S2 5000 (by omega) ⟨s12, c0, fun _ => rfl⟩ (by omega)
  · rintro f S ⟨i1, i2, i3⟩
    have M' := M.on i1
    refine ⟨((if x3 = 0 then (th (tn0 Z)).1 else (th (tn0 Z)).2), S), ?_, rfl, i1, i2⟩
    show fX12_toHire_b66 5000 _ (nI g) (nI c) x3 _ _ (nI (tn0 Z)) S = _
    unfold fX12_toHire_b66
    rw [M'.1.1, if_pos (nI_le (Nat.le_refl _) (by omega))]
    unfold fX12_toHire_b154
    by_cases hx : x3 = 0
    · rw [if_pos hx, if_pos hx]; rfl
    · rw [if_neg hx, if_neg hx]
      unfold fX12_toHire_b158
      by_cases h1 : (th (tn0 Z)).1 = -1
      · rw [if_pos h1, thm _ (Nat.le_refl _) h1]
        unfold fX12_toHire_b164
        rw [h1]
        rfl
      · rw [if_neg h1, if_neg h1]
        rfl
  · rintro f k S hk ⟨i1, i2, i3⟩
    have M' := M.on i1
    refine Or.inr ?_
    obtain ⟨o, ho⟩ : ∃ z, z = hoR (fun g => (qs g).2.2.2) (nI k) (tn1 Z) 0 := ⟨_, rfl⟩
    have hF : ∀ b s, fX12_toHire_h66 5000 (f + 1) (nI g) (nI c) x3 b s (nI k) S = if o = -1 then fX12_toHire_b100 5000 (fX12_toHire_h66 5000 f) (nI g) (nI c) x3 b s (nI k) S else if o = nI g then fX12_toHire_b100 5000 (fX12_toHire_h66 5000 f) (nI g) (nI c) x3 b s (nI k) S else fX12_toHire_b97 5000 (fX12_toHire_h66 5000 f) (nI g) (nI c) x3 b s (nI k) S := by
      intro b s
      show fX12_toHire_b66 5000 (fX12_toHire_h66 5000 f) (nI g) (nI c) x3 b s (nI k) S = _
      unfold fX12_toHire_b66
      rw [M'.1.1, if_neg (nI_ge hk (by omega))]
      unfold fX12_toHire_b77
      rw [bnd_t (m_hirerOf (N := 5000) (n := tn1 Z) M'.1.2.1 z6 (by decide)), hoR_eq (r := S 35) (r' := fun g => (qs g).2.2.2) (tn1 Z) 0 (fun i _ hi => (M'.2.2.2.2 i (by omega)).2.2.2), ← ho]
      rfl
    have eT : th (k + 1) = if elH qs (tn1 Z) g k = true then (if (th k).1 = -1 then (nI k, vaH Z d h c g (qs g) k) else if (th k).2 ≤ vaH Z d h c g (qs g) k then th k else (nI k, vaH Z d h c g (qs g) k)) else th k := by
      rw [hth]
      rfl
    cases hel : elH qs (tn1 Z) g k with
    | false =>
      refine ⟨S, ⟨i1, i2, i3⟩, ?_⟩
      have he : ¬ (o = -1 ∨ o = nI g) := by
        unfold elH at hel
        rw [decide_eq_false_iff_not, ← ho] at hel
        exact hel
      rw [hel, if_neg (by decide)] at eT
      show fX12_toHire_h66 5000 (f + 1) (nI g) (nI c) x3 _ _ (nI k) S = fX12_toHire_h66 5000 f (nI g) (nI c) x3 _ _ (nI (k + 1)) S
      rw [eT, hF, if_neg (fun q => he (Or.inl q)), if_neg (fun q => he (Or.inr q))]
      unfold fX12_toHire_b97 fX12_toHire_b148
      rw [nI_1]
    | true =>
      have he : o = -1 ∨ o = nI g := by
        unfold elH at hel
        rw [decide_eq_true_iff, ← ho] at hel
        exact hel
      rw [hel, if_pos rfl] at eT
      obtain ⟨hq, hu⟩ := elH_q Zk K hg hk hel
      obtain ⟨m1, m2, m3, m4⟩ := M'.2.2.2.2 g hg
      have M2 : mSit Z (sU S 35 g (nI k)) h d (Z 5) (upq qs g ((qs g).1, (qs g).2.1, (qs g).2.2.1, nI k)) := M'.up (fun i j hij => sU_n (by omega)) (by rw [sU_n (by omega)]; exact m1) (by rw [sU_n (by omega)]; exact m2) (by rw [sU_n (by omega)]; exact m3) sU_s
      have s35 : oSame mHo S (sU S 35 g (nI k)) := mHo_of (g := g) (by omega) (fun i j hij => sU_n (by omega))
      obtain ⟨S3, r1, r2, r3⟩ := m_goOn (N := 5000) (n := c) Zk (K.up hq (Or.inr hu)).h (by omega) (by decide) (by omega) M2 (by rw [s35 99 41 rfl, i1 99 41 rfl]; exact w41)
      obtain ⟨S4, u1, u2, u3, u4⟩ := E S3 (fun j => by rw [r3 46 j rfl, s35 46 j rfl]; exact i3 j) (i1.q.tr (s35.q.tr r3.q))
      have e32 : S3 32 g = vaH Z d h c g (qs g) k := by
        have := (r2.2.2.2.2 g hg).1
        rw [this]
        dsimp only
        rw [upq_s]
        rfl
      have hF2 : ∀ b s, fX12_toHire_h66 5000 (f + 1) (nI g) (nI c) x3 b s (nI k) S = if vaH Z d h c g (qs g) k < s then fX12_toHire_b140 5000 (fX12_toHire_h66 5000 f) (nI g) (nI c) x3 (nI k) (vaH Z d h c g (qs g) k) S4 else fX12_toHire_b137 5000 (fX12_toHire_h66 5000 f) (nI g) (nI c) x3 b s (nI k) S4 := by
        intro b s
        have e100 : fX12_toHire_b100 5000 (fX12_toHire_h66 5000 f) (nI g) (nI c) x3 b s (nI k) S = if vaH Z d h c g (qs g) k < s then fX12_toHire_b140 5000 (fX12_toHire_h66 5000 f) (nI g) (nI c) x3 (nI k) (vaH Z d h c g (qs g) k) S4 else fX12_toHire_b137 5000 (fX12_toHire_h66 5000 f) (nI g) (nI c) x3 b s (nI k) S4 := by
          unfold fX12_toHire_b100
          dsimp only [lt]
          rw [chk_t hin, hgc, bnd_t r1]
          dsimp only
          rw [chk_t hin, bnd_t u1]
          simp only [e32]
        rw [hF]
        by_cases h1 : o = -1
        · rw [if_pos h1, e100]
        · rw [if_neg h1, if_pos (he.resolve_left h1), e100]
      refine ⟨S4, ⟨u2, ?_, fun j => ?_⟩, ?_⟩
      · rw [u3, r3 99 4 rfl, s35 99 4 rfl]; exact i2
      · rw [u4 46 j]
        show S3 46 j = S2 46 j
        rw [r3 46 j rfl, s35 46 j rfl]; exact i3 j
      · show fX12_toHire_h66 5000 (f + 1) (nI g) (nI c) x3 _ _ (nI k) S = fX12_toHire_h66 5000 f (nI g) (nI c) x3 _ _ (nI (k + 1)) S4
        have hv : vaH Z d h c g (qs g) k < 1000 := i32_lt1000 (trj_ok (Z := Z) (d := d) (wf := wetZ Z) (h := h) hq (K.2.2 g hg) c).1.2
        rw [hF2]
        by_cases h1 : (th k).1 = -1
        · rw [if_pos h1] at eT ⊢
          rw [if_pos hv, eT, if_neg (nI_nem (by omega))]
          unfold fX12_toHire_b140 fX12_toHire_b148
          rw [nI_1]
        · rw [if_neg h1] at eT ⊢
          by_cases h2 : (th k).2 ≤ vaH Z d h c g (qs g) k
          · rw [if_pos h2] at eT
            rw [if_neg (Int32.not_lt.mpr h2), eT, if_neg h1]
            unfold fX12_toHire_b137 fX12_toHire_b148
            rw [nI_1]
          · rw [if_neg h2] at eT
            rw [if_pos (Int32.not_le.mp h2), eT, if_neg (nI_nem (by omega))]
            unfold fX12_toHire_b140 fX12_toHire_b148
            rw [nI_1]
theorem st_toHire : Lw_toHire JJ := by
  intro SX SM x1 x2 x3 hJ
  obtain ⟨S1, Z, h, qs, hS1, c0, hJ1, Zk, h9, C, M, K, w41, x0, x5⟩ := pre hJ
  have z6 := Zk.2.1.2
  have hF : fX12_toHire 5000 x1 x2 x3 SM = if iv (inb x1 (tn1 Z)) = 0 then fX12_toHire_b22 5000 S1 else fX12_toHire_b13 5000 x1 x2 x3 S1 := by
    unfold fX12_toHire fX12_toHire_b0
    dsimp only [lt]
    rw [← hS1, bnd_t (m_isGuild M.1.2.1 (by omega))]
  have hH : fX12_toHire_b28 5000 x1 x2 x3 S1 = if iv (wth x2 1 60) = 0 then fX12_toHire_b40 5000 S1 else fX12_toHire_b46 5000 x1 x2 x3 S1 := by
    unfold fX12_toHire_b28
    rw [bnd_t in_1_60]
  cases h1 : inb x1 (tn1 Z) with
  | false =>
    refine stFl 5000 5000 1 hJ one_ne (Or.inr (Or.inl rfl)) (ngF x5 (by omega) h1) ?_
    show fX12_toHire 5000 x1 x2 x3 SM = _
    rw [hF, h1, ← hS1]
    rfl
  | true =>
  cases h3 : wth x3 0 1 with
  | false =>
    refine stFl 5000 5000 1 hJ one_ne (Or.inr (Or.inl rfl)) ((ngT x5 (by omega) h1).trans (nwF h3)) ?_
    show fX12_toHire 5000 x1 x2 x3 SM = _
    rw [hF, h1, ← hS1]
    show fX12_toHire_b13 5000 x1 x2 x3 S1 = _
    unfold fX12_toHire_b13
    rcases w01F h3 with q | ⟨q1, q2⟩
    · rw [if_pos q]
      rfl
    · rw [if_neg q1]
      unfold fX12_toHire_b17
      rw [if_neg q2]
      rfl
  | true =>
  obtain ⟨y1, y2, -⟩ := w01T h3
  have hG : fX12_toHire 5000 x1 x2 x3 SM = fX12_toHire_b28 5000 x1 x2 x3 S1 := by
    rw [hF, h1]
    show fX12_toHire_b13 5000 x1 x2 x3 S1 = _
    unfold fX12_toHire_b13
    rw [if_neg y1]
    unfold fX12_toHire_b17
    rw [if_pos y2]
  cases h2 : wth x2 1 60 with
  | false =>
    refine stFl 5000 5000 2 hJ two_ne (Or.inr (Or.inr rfl)) (((ngT x5 (by omega) h1).trans (nwT h3)).trans (niF h2)) ?_
    show fX12_toHire 5000 x1 x2 x3 SM = _
    rw [hG, hH, h2, ← hS1]
    rfl
  | true =>
  obtain ⟨g, hg, rfl⟩ := inb_of h1 (by omega)
  obtain ⟨c, -, c2, rfl⟩ := wth_of (a := 1) (b := 60) (by decide) (by decide) h2
  obtain ⟨S2, k1, k2, k3, k5, k7, k6, k4⟩ := q_go M w41 c0
  refine stSu 5000 5000 (if x3 = 0 then (thR (elH qs (tn1 Z) g) (vaH Z (SX 21 1) h c g (qs g)) (tn0 Z)).1 else (thR (elH qs (tn1 Z) g) (vaH Z (SX 21 1) h c g (qs g)) (tn0 Z)).2) hJ rfl (Or.inl rfl) ?_ ?_
  · have e : fX11_toHire 5000 (nI g) (nI c) x3 SX = fX11_toHire_h26 5000 5000 (nI g) (nI c) x3 (-1) (-1) 0 SX := ((ngT x5 (by omega) h1).trans (nwT h3)).trans (niT h2)
    show Gv (fX11_toHire 5000 (nI g) (nI c) x3 SX) _
    rw [e]
    exact x_toHire_h Zk C K hg h9 c2
  · have e : fX12_toHire 5000 (nI g) (nI c) x3 SM = fX12_toHire_h66 5000 5000 (nI g) (nI c) x3 (-1) 1000 0 S2 := by
      rw [hG, hH, h2]
      show fX12_toHire_b46 5000 (nI g) (nI c) x3 S1 = _
      unfold fX12_toHire_b46
      rw [bnd_t k1]
    show Gv (fX12_toHire 5000 (nI g) (nI c) x3 SM) _
    rw [e, ← hS1]
    exact m_toHire_h Zk K hg h9 c2 M w41 k7 k5 k6
end

/-! part 53.aacts -/
section
/-! ACTS: what both sides keep -/
noncomputable def xNw (i j : Nat) : Bool := xScr i j || (21 ≤ i && i ≤ 25)
theorem jSt_of {Z SX SM : gS} {h : Nat} {d : Int32} {e : Nat → Int32} {qs : Nat → qT} (C : cSit 21 Z SX h d qs) (M : mSit Z SM h d e qs) (K : qsOK Z e qs) (h9 : h ≤ 999) : jSt (tn0 Z) (tn1 Z) (xSt 21 SX) (mSt SM) := by
  obtain ⟨c1, c2, c3, c4⟩ := C
  obtain ⟨m1, m2, m3, m4, m5⟩ := M
  refine ⟨⟨h, h9, c2, m3⟩, c3.trans m4.symm, fun g hg => ?_, fun g hg => ?_, fun g g' hg hg' => ?_⟩
  · obtain ⟨a1, a2, a3, a4⟩ := c4 g hg
    obtain ⟨b1, b2, b3, b4⟩ := m5 g hg
    exact ⟨a1.trans b1.symm, a2.trans b2.symm, a3.trans b3.symm, a4.trans b4.symm⟩
  · obtain ⟨b1, b2, b3, b4⟩ := m5 g hg
    show (0 ≤ SM 32 g ∧ SM 32 g ≤ 99) ∧ (0 ≤ SM 33 g ∧ SM 33 g ≤ 999) ∧ (0 ≤ SM 34 g ∧ SM 34 g ≤ 999) ∧ (SM 35 g = -1 ∨ ∃ k : Nat, k < tn0 Z ∧ SM 35 g = nI k)
    rw [b1, b2, b3, b4]
    exact K.1 g hg
  · show SM 35 g = SM 35 g' → SM 35 g ≠ -1 → g = g'
    rw [(m5 g hg).2.2.2, (m5 g' hg').2.2.2]
    exact K.2.1 g g' hg hg'
theorem xNw.act {S S' : gS} (s : oSame xNw S S') : oSame xAct S S' := fun i j h => s i j (by
  unfold xAct at h
  rw [Bool.or_eq_false_iff, Bool.or_eq_false_iff] at h
  unfold xNw
  rw [h.1.1, Bool.false_or]
  have h2 := h.1.2
  simp only [Bool.and_eq_false_iff, decide_eq_false_iff_not] at h2 ⊢
  omega)
theorem mQ.act {S S' : gS} (s : oSame mQ S S') : oSame mAct S S' := fun i j h => s i j (by
  unfold mAct at h
  simp only [Bool.or_eq_false_iff] at h
  obtain ⟨⟨⟨⟨⟨h1, h2⟩, h3⟩, h4⟩, h5⟩, h6⟩ := h
  unfold mQ
  rw [h1, Bool.false_or]
  cases hp : mPk i j with
  | false => rfl
  | true =>
    exfalso
    rcases mPk_t.mp hp with ⟨q1, q2, q3⟩ | ⟨rfl, rfl | rfl⟩
    · simp only [Bool.and_eq_false_iff, decide_eq_false_iff_not] at h3
      omega
    · cases h6
    · cases h6)
/-- what is so now is put anew on both sides -/
theorem JJ.now {SX SM SX' SM' Z : gS} {h : Nat} {d : Int32} {qs : Nat → qT} (hJ : JJ SX SM) (x : oSame xNw SX SX') (m : oSame mQ SM SM') (Zk : tOK Z) (C : cSit 21 Z SX' h d qs) (M : mSit Z SM' h d (Z 5) qs) (K : qsOK Z (Z 5) qs) (h9 : h ≤ 999) : JJ SX' SM' := by
  refine hJ.act (xNw.act x) (mQ.act m) (fun n0 n1 hT hN hI => ?_)
  have tw : xtw SX' = xtw SX := by
    unfold xtw
    rw [x 0 7 rfl]
  have e0 : SX (xtw SX) 0 = nI (tn0 Z) := by
    have := (C.1 0 0 (by omega) (by omega)).trans Zk.1.1
    rw [tw] at this
    rw [← this]
    rcases xtw_cases (S := SX) with q | q <;> rw [q] <;> exact (x _ 0 rfl).symm
  have e5 : SX (xtw SX) 5 = nI (tn1 Z) := by
    have := (C.1 0 5 (by omega) (by omega)).trans Zk.2.1.1
    rw [tw] at this
    rw [← this]
    rcases xtw_cases (S := SX) with q | q <;> rw [q] <;> exact (x _ 5 rfl).symm
  obtain ⟨⟨a1, -, a3⟩, ⟨b1, -, b3⟩, -⟩ := hT
  have q0 : n0 = tn0 Z := (nI_eq (by omega) (by have := Zk.1.2; omega)).mp (a1.symm.trans e0)
  have q1 : n1 = tn1 Z := (nI_eq (by omega) (by have := Zk.2.1.2; omega)).mp (b1.symm.trans e5)
  subst q0 q1
  have fm : ∀ i, (∀ j, mQ i j = false) → SM' i = SM i := fun i hi => funext fun j => m i j (hi j)
  refine ⟨?_, hI.on (x 0 8 rfl) (fun i j h1 h2 => x i j ?_) (fun i j h1 h2 => m i j ?_) (m 99 57 rfl) (m 99 58 rfl) (m 99 59 rfl)⟩
  · obtain ⟨-, ⟨a, f1, f2, f3, f4⟩, ⟨q, g1, g2, g3, g4⟩, t⟩ := hN
    have x7 : SX' (20 + 7) = SX (20 + 7) := funext fun j => x 27 j rfl
    have m36 : SM' 36 = SM 36 := fm 36 (fun _ => rfl)
    refine ⟨jSt_of C M K h9, ⟨a, f1, by rw [x (20 + 6) 1 rfl]; exact f2, by rw [m 99 39 rfl]; exact f3, fun i hi => ?_⟩, ⟨q, g1, by rw [x (20 + 8) 3 rfl]; exact g2, by rw [m 99 40 rfl]; exact g3, fun i hi => ?_⟩, fun i hi => ?_⟩
    · refine (f4 i hi).on (fun c g _ _ => ?_) (fun c g _ _ => ?_)
      · unfold xAc
        rw [x7]
      · unfold mAc
        rw [m36]
    · rw [x (20 + 9) i rfl, x (20 + 10) i rfl, x (20 + 11) i rfl, m 48 i rfl, m 49 i rfl, m 50 i rfl]
      exact g4 i hi
    · rw [x (20 + 12) i rfl, m 17 i rfl]
      exact t i hi
  · rcases (show i = 34 ∨ i = 35 ∨ i = 36 ∨ i = 37 ∨ i = 38 ∨ i = 39 ∨ i = 40 ∨ i = 41 ∨ i = 42 ∨ i = 43 ∨ i = 44 ∨ i = 45 by omega) with rfl | rfl | rfl | rfl | rfl | rfl | rfl | rfl | rfl | rfl | rfl | rfl <;> rfl
  · rcases (show i = 60 ∨ i = 61 ∨ i = 62 ∨ i = 63 ∨ i = 64 ∨ i = 65 by omega) with rfl | rfl | rfl | rfl | rfl | rfl <;> rfl
/-! the class writes a row -/
theorem ix4 (a k : Nat) : (nI a + 2) + 4 * nI k = nI (a + 2 + 4 * k) := by rw [show (2 : Int32) = nI 2 from rfl, show (4 : Int32) = nI 4 from rfl, pk_mul, nI_add, nI_add]
theorem ixp (a : Nat) : nI a + 1 = nI (a + 1) ∧ nI a + 2 = nI (a + 2) ∧ nI a + 3 = nI (a + 3) := ⟨nI_add a 1, nI_add a 2, nI_add a 3⟩
/-- the row nd holds from a on what the state st holds in S -/
def xPk (st nd a : Nat) (S S' : gS) : Prop := S' nd a = S st 0 ∧ S' nd (a + 1) = S st 1 ∧ ∀ g, g < 6 → S' nd (a + 2 + 4 * g) = S (st + 1) g ∧ S' nd (a + 2 + 4 * g + 1) = S (st + 2) g ∧ S' nd (a + 2 + 4 * g + 2) = S (st + 3) g ∧ S' nd (a + 2 + 4 * g + 3) = S (st + 4) g
theorem x_write {N st nd a : Nat} {S : gS} (hst : st + 4 < nd) (hm : xN nd = 1040) (h26 : a + 26 ≤ 1040) (hN : 700 < N) : ∃ S', fX7_write N st nd (nI a) S = some (0, S') ∧ (∀ i j, ¬ (i = nd ∧ a ≤ j ∧ j < a + 26) → S' i j = S i j) ∧ xPk st nd a S S' := by
  obtain ⟨S0, e0⟩ : ∃ z, z = sU (sU S nd a (S st 0)) nd (a + 1) (S st 1) := ⟨_, rfl⟩
  have main : Gv (fX7_write_h32 N N st nd (nI a) 0 S0) (fun r => r.1 = 0 ∧ (∀ i j, ¬ (i = nd ∧ a ≤ j ∧ j < a + 26) → r.2 i j = S i j) ∧ xPk st nd a S r.2) := by
    refine loopG (A := gS) (fun f g S => fX7_write_h32 N f st nd (nI a) (nI g) S) (fun g S' => (∀ i j, ¬ (i = nd ∧ a ≤ j ∧ j < a + 26) → S' i j = S i j) ∧ S' nd a = S st 0 ∧ S' nd (a + 1) = S st 1 ∧ ∀ g', g' < g → S' nd (a + 2 + 4 * g') = S (st + 1) g' ∧ S' nd (a + 2 + 4 * g' + 1) = S (st + 2) g' ∧ S' nd (a + 2 + 4 * g' + 2) = S (st + 3) g' ∧ S' nd (a + 2 + 4 * g' + 3) = S (st + 4) g') _ 6 ?_ ?_ 6 0 S0 N (by omega) ⟨fun i j hij => by rw [e0, sU_n (by omega), sU_n (by omega)], by rw [e0, sU_n (by omega), sU_s], by rw [e0, sU_s], fun g' hg' => by omega⟩ (by omega)
    · rintro f S1 ⟨i1, i2, i3, i4⟩
      exact ⟨(0, S1), rfl, rfl, i1, i2, i3, i4⟩
    · rintro f g S1 hg ⟨i1, i2, i3, i4⟩
      refine Or.inr ?_
      have hgc : (nI g).toNatClampNeg = g := nI_clamp (by omega)
      have hin : inb (nI g) 6 = true := inb_t hg (by decide)
      obtain ⟨x1, x2, x3⟩ := ixp (a + 2 + 4 * g)
      obtain ⟨A1, f1⟩ : ∃ z, z = sU S1 nd (a + 2 + 4 * g) (S (st + 1) g) := ⟨_, rfl⟩
      obtain ⟨A2, f2⟩ : ∃ z, z = sU A1 nd (a + 2 + 4 * g + 1) (S (st + 2) g) := ⟨_, rfl⟩
      obtain ⟨A3, f3⟩ : ∃ z, z = sU A2 nd (a + 2 + 4 * g + 2) (S (st + 3) g) := ⟨_, rfl⟩
      obtain ⟨A4, f4⟩ : ∃ z, z = sU A3 nd (a + 2 + 4 * g + 3) (S (st + 4) g) := ⟨_, rfl⟩
      have s4 : ∀ i j, ¬ (i = nd ∧ a + 2 + 4 * g ≤ j ∧ j ≤ a + 2 + 4 * g + 3) → A4 i j = S1 i j := fun i j hij => by rw [f4, sU_n (by omega), f3, sU_n (by omega), f2, sU_n (by omega), f1, sU_n (by omega)]
      refine ⟨A4, ⟨fun i j hij => by rw [s4 i j (by omega)]; exact i1 i j hij, by rw [s4 nd a (by omega)]; exact i2, by rw [s4 nd (a + 1) (by omega)]; exact i3, fun g' hg' => ?_⟩, ?_⟩
      · by_cases hh : g' = g
        · subst hh
          refine ⟨?_, ?_, ?_, ?_⟩
          · rw [f4, sU_n (by omega), f3, sU_n (by omega), f2, sU_n (by omega), f1, sU_s]
          · rw [f4, sU_n (by omega), f3, sU_n (by omega), f2, sU_s]
          · rw [f4, sU_n (by omega), f3, sU_s]
          · rw [f4, sU_s]
        · rw [s4 nd (a + 2 + 4 * g') (by omega), s4 nd (a + 2 + 4 * g' + 1) (by omega), s4 nd (a + 2 + 4 * g' + 2) (by omega), s4 nd (a + 2 + 4 * g' + 3) (by omega)]
          exact i4 g' (by omega)
      · show fX7_write_b32 N (fX7_write_h32 N f) st nd (nI a) (nI g) S1 = _
        unfold fX7_write_b32
        rw [if_neg (show ¬ (6 : Int32) ≤ nI g from nI_ge (b := 6) hg (by decide))]
        unfold fX7_write_b38
        dsimp only [lt]
        rw [ix4, x1, x2, x3, hgc, hm, nI_clamp (n := a + 2 + 4 * g) (by omega), nI_clamp (n := a + 2 + 4 * g + 1) (by omega), nI_clamp (n := a + 2 + 4 * g + 2) (by omega), nI_clamp (n := a + 2 + 4 * g + 3) (by omega)]
        rw [chk_t hin, chk_t (inb_t (k := a + 2 + 4 * g) (by omega) (by decide)), i1 (st + 1) g (by omega), ← f1, chk_t hin, chk_t (inb_t (k := a + 2 + 4 * g + 1) (by omega) (by decide)), show A1 (st + 2) g = S (st + 2) g by rw [f1, sU_n (by omega)]; exact i1 _ _ (by omega), ← f2, chk_t hin, chk_t (inb_t (k := a + 2 + 4 * g + 2) (by omega) (by decide)), show A2 (st + 3) g = S (st + 3) g by rw [f2, sU_n (by omega), f1, sU_n (by omega)]; exact i1 _ _ (by omega), ← f3, chk_t hin, chk_t (inb_t (k := a + 2 + 4 * g + 3) (by omega) (by decide)), show A3 (st + 4) g = S (st + 4) g by rw [f3, sU_n (by omega), f2, sU_n (by omega), f1, sU_n (by omega)]; exact i1 _ _ (by omega), ← f4, nI_1]
  obtain ⟨⟨v, S'⟩, r1, r2, r3⟩ := main
  dsimp only at r2 r3
  subst r2
  refine ⟨S', ?_, r3⟩
  unfold fX7_write fX7_write_b0
  rw [if_neg (nI_pos (by omega))]
  unfold fX7_write_b4
  rw [show (26 : Int32) = nI 26 from rfl, nI_add, hm, if_pos (show nI (a + 26) ≤ Int32.ofNat 1040 from nI_le (b := 1040) (by omega) (by decide))]
  unfold fX7_write_b14
  dsimp only [lt]
  rw [hm, nI_1, nI_clamp (n := a) (by omega), nI_clamp (n := a + 1) (by omega), chk_t (inb_t (k := a) (by omega) (by decide)), chk_t (inb_t (k := a + 1) (by omega) (by decide)), sU_n (i := st) (by omega), ← e0]
  exact r1
theorem x_read {N st nd a : Nat} {S : gS} (hst : st + 4 < nd) (hm : xN nd = 1040) (h26 : a + 26 ≤ 1040) (hN : 700 < N) : ∃ S', fX7_read N st nd (nI a) S = some (0, S') ∧ (∀ i j, ¬ (i = st ∧ j ≤ 1) → ¬ (st + 1 ≤ i ∧ i ≤ st + 4 ∧ j < 6) → S' i j = S i j) ∧ xPk st nd a S' S := by
  obtain ⟨S0, e0⟩ : ∃ z, z = sU (sU S st 0 (S nd a)) st 1 (S nd (a + 1)) := ⟨_, rfl⟩
  have main : Gv (fX7_read_h32 N N st nd (nI a) 0 S0) (fun r => r.1 = 0 ∧ (∀ i j, ¬ (i = st ∧ j ≤ 1) → ¬ (st + 1 ≤ i ∧ i ≤ st + 4 ∧ j < 6) → r.2 i j = S i j) ∧ xPk st nd a r.2 S) := by
    refine loopG (A := gS) (fun f g S => fX7_read_h32 N f st nd (nI a) (nI g) S) (fun g S' => (∀ i j, ¬ (i = st ∧ j ≤ 1) → ¬ (st + 1 ≤ i ∧ i ≤ st + 4 ∧ j < 6) → S' i j = S i j) ∧ S nd a = S' st 0 ∧ S nd (a + 1) = S' st 1 ∧ ∀ g', g' < g → S nd (a + 2 + 4 * g') = S' (st + 1) g' ∧ S nd (a + 2 + 4 * g' + 1) = S' (st + 2) g' ∧ S nd (a + 2 + 4 * g' + 2) = S' (st + 3) g' ∧ S nd (a + 2 + 4 * g' + 3) = S' (st + 4) g') _ 6 ?_ ?_ 6 0 S0 N (by omega) ⟨fun i j h1 h2 => by rw [e0, sU_n (by omega), sU_n (by omega)], by rw [e0, sU_n (by omega), sU_s], by rw [e0, sU_s], fun g' hg' => by omega⟩ (by omega)
    · rintro f S1 ⟨i1, i2, i3, i4⟩
      exact ⟨(0, S1), rfl, rfl, i1, i2, i3, i4⟩
    · rintro f g S1 hg ⟨i1, i2, i3, i4⟩
      refine Or.inr ?_
      have hgc : (nI g).toNatClampNeg = g := nI_clamp (by omega)
      have hin : inb (nI g) 6 = true := inb_t hg (by decide)
      obtain ⟨x1, x2, x3⟩ := ixp (a + 2 + 4 * g)
      obtain ⟨A1, f1⟩ : ∃ z, z = sU S1 (st + 1) g (S nd (a + 2 + 4 * g)) := ⟨_, rfl⟩
      obtain ⟨A2, f2⟩ : ∃ z, z = sU A1 (st + 2) g (S nd (a + 2 + 4 * g + 1)) := ⟨_, rfl⟩
      obtain ⟨A3, f3⟩ : ∃ z, z = sU A2 (st + 3) g (S nd (a + 2 + 4 * g + 2)) := ⟨_, rfl⟩
      obtain ⟨A4, f4⟩ : ∃ z, z = sU A3 (st + 4) g (S nd (a + 2 + 4 * g + 3)) := ⟨_, rfl⟩
      have s4 : ∀ i j, ¬ (st + 1 ≤ i ∧ i ≤ st + 4 ∧ j = g) → A4 i j = S1 i j := fun i j hij => by rw [f4, sU_n (by omega), f3, sU_n (by omega), f2, sU_n (by omega), f1, sU_n (by omega)]
      refine ⟨A4, ⟨fun i j h1 h2 => by rw [s4 i j (by omega)]; exact i1 i j h1 h2, by rw [s4 st 0 (by omega)]; exact i2, by rw [s4 st 1 (by omega)]; exact i3, fun g' hg' => ?_⟩, ?_⟩
      · by_cases hh : g' = g
        · subst hh
          refine ⟨?_, ?_, ?_, ?_⟩
          · rw [f4, sU_n (by omega), f3, sU_n (by omega), f2, sU_n (by omega), f1, sU_s]
          · rw [f4, sU_n (by omega), f3, sU_n (by omega), f2, sU_s]
          · rw [f4, sU_n (by omega), f3, sU_s]
          · rw [f4, sU_s]
        · rw [s4 (st + 1) g' (by omega), s4 (st + 2) g' (by omega), s4 (st + 3) g' (by omega), s4 (st + 4) g' (by omega)]
          exact i4 g' (by omega)
      · show fX7_read_b32 N (fX7_read_h32 N f) st nd (nI a) (nI g) S1 = _
        unfold fX7_read_b32
        rw [if_neg (show ¬ (6 : Int32) ≤ nI g from nI_ge (b := 6) hg (by decide))]
        unfold fX7_read_b38
        dsimp only [lt]
        rw [ix4, x1, x2, x3, hgc, hm, nI_clamp (n := a + 2 + 4 * g) (by omega), nI_clamp (n := a + 2 + 4 * g + 1) (by omega), nI_clamp (n := a + 2 + 4 * g + 2) (by omega), nI_clamp (n := a + 2 + 4 * g + 3) (by omega)]
        rw [chk_t (inb_t (k := a + 2 + 4 * g) (by omega) (by decide)), chk_t hin, i1 nd (a + 2 + 4 * g) (by omega) (by omega), ← f1, chk_t (inb_t (k := a + 2 + 4 * g + 1) (by omega) (by decide)), chk_t hin, show A1 nd (a + 2 + 4 * g + 1) = S nd (a + 2 + 4 * g + 1) by rw [f1, sU_n (by omega)]; exact i1 _ _ (by omega) (by omega), ← f2, chk_t (inb_t (k := a + 2 + 4 * g + 2) (by omega) (by decide)), chk_t hin, show A2 nd (a + 2 + 4 * g + 2) = S nd (a + 2 + 4 * g + 2) by rw [f2, sU_n (by omega), f1, sU_n (by omega)]; exact i1 _ _ (by omega) (by omega), ← f3, chk_t (inb_t (k := a + 2 + 4 * g + 3) (by omega) (by decide)), chk_t hin, show A3 nd (a + 2 + 4 * g + 3) = S nd (a + 2 + 4 * g + 3) by rw [f3, sU_n (by omega), f2, sU_n (by omega), f1, sU_n (by omega)]; exact i1 _ _ (by omega) (by omega), ← f4, nI_1]
  obtain ⟨⟨v, S'⟩, r1, r2, r3⟩ := main
  dsimp only at r2 r3
  subst r2
  refine ⟨S', ?_, r3⟩
  unfold fX7_read fX7_read_b0
  rw [if_neg (nI_pos (by omega))]
  unfold fX7_read_b4
  rw [show (26 : Int32) = nI 26 from rfl, nI_add, hm, if_pos (show nI (a + 26) ≤ Int32.ofNat 1040 from nI_le (b := 1040) (by omega) (by decide))]
  unfold fX7_read_b14
  dsimp only [lt]
  rw [hm, nI_1, nI_clamp (n := a) (by omega), nI_clamp (n := a + 1) (by omega), chk_t (inb_t (k := a) (by omega) (by decide)), chk_t (inb_t (k := a + 1) (by omega) (by decide)), sU_n (i := nd) (by omega), ← e0]
  exact r1
end

/-! part 54.akeep -/
section
/-! keeping an ACT -/
theorem x_keep {N a : Nat} {S : gS} (ha : S 26 1 = nI a) (h40 : a ≤ 40) (hN : 700 < N) : ∃ S', fX1_keepAct N 20 S = some (0, S') ∧ (∀ i j, i ≠ 27 → ¬ (i = 26 ∧ j = 1) → S' i j = S i j) ∧ S' 26 1 = nI (min (a + 1) 40) ∧ xPk 21 27 (26 * min a 39) S S' ∧ ∀ j, j < 26 * min a 39 → S' 27 j = S 27 (if a = 40 then 26 + j else j) := by
  by_cases h4 : a = 40
  · subst h4
    obtain ⟨S2, e2⟩ : ∃ z, z = sC (sU S 26 1 39) 27 27 26 0 1014 := ⟨_, rfl⟩
    have s2 : ∀ i j, i ≠ 27 → ¬ (i = 26 ∧ j = 1) → S2 i j = S i j := fun i j h1 h2 => by
      rw [e2]
      show (if i = 27 then _ else sU S 26 1 39 i) j = _
      rw [if_neg h1, sU_n (by omega)]
    have s3 : ∀ j, j < 1014 → S2 27 j = S 27 (26 + j) := fun j hj => by
      rw [e2]
      show (if 27 = 27 then va_cpy (sU S 26 1 39 27) (sU S 26 1 39 27) 26 0 1014 else _) j = _
      rw [if_pos rfl, pk_cpy_in (by omega) (by omega), sU_n (by omega), Nat.sub_zero]
    have s4 : S2 26 1 = nI 39 := by
      rw [e2]
      show (if 26 = 27 then _ else sU S 26 1 39 26) 1 = _
      rw [if_neg (by decide), sU_s]
      rfl
    obtain ⟨S3, w1, w2, w3⟩ := x_write (N := N) (st := 21) (nd := 27) (a := 1014) (S := S2) (by decide) rfl (by decide) hN
    refine ⟨sU S3 26 1 (nI 40), ?_, fun i j h1 h2 => ?_, sU_s, ?_, fun j hj => ?_⟩
    · unfold fX1_keepAct fX1_keepAct_b0 fX0_add fX0_add_b0
      rw [show S (20 + 6) 1 = nI 40 from ha, if_neg (by decide)]
      unfold fX0_add_b9
      dsimp only [lt]
      rw [show sU S (20 + 6) 1 39 (20 + 6) 1 = 39 from sU_s, chk_t (by decide)]
      show bnd (fX0_add_b36 N 26 21 (sC (sU S 26 1 39) 27 27 26 0 1014)) _ = _
      rw [← e2]
      unfold fX0_add_b36
      rw [s4, show nI 39 * 26 = nI 1014 from rfl, bnd_t w1]
      dsimp only [lt]
      rw [w2 26 1 (by omega), s4]
      rfl
    · rw [sU_n (by omega), w2 i j (by omega), s2 i j h1 h2]
    · obtain ⟨p1, p2, p3⟩ := w3
      refine ⟨?_, ?_, fun g hg => ?_⟩
      · rw [sU_n (by omega)]
        show S3 27 1014 = S 21 0
        rw [p1, s2 21 0 (by omega) (by omega)]
      · rw [sU_n (by omega)]
        show S3 27 (1014 + 1) = S 21 1
        rw [p2, s2 21 1 (by omega) (by omega)]
      · obtain ⟨q1, q2, q3, q4⟩ := p3 g hg
        rw [sU_n (by omega), sU_n (by omega), sU_n (by omega), sU_n (by omega)]
        refine ⟨?_, ?_, ?_, ?_⟩
        · exact q1.trans (s2 22 g (by omega) (by omega))
        · exact q2.trans (s2 23 g (by omega) (by omega))
        · exact q3.trans (s2 24 g (by omega) (by omega))
        · exact q4.trans (s2 25 g (by omega) (by omega))
    · rw [if_pos rfl, sU_n (by omega), w2 27 j (by omega), s3 j (by omega)]
  · have hm : min a 39 = a := by omega
    rw [hm, show min (a + 1) 40 = a + 1 by omega]
    obtain ⟨S3, w1, w2, w3⟩ := x_write (N := N) (st := 21) (nd := 27) (a := 26 * a) (S := S) (by decide) rfl (by omega) hN
    refine ⟨sU S3 26 1 (nI (a + 1)), ?_, fun i j h1 h2 => ?_, sU_s, ?_, fun j hj => ?_⟩
    · unfold fX1_keepAct fX1_keepAct_b0 fX0_add fX0_add_b0
      rw [show S (20 + 6) 1 = nI a from ha, if_pos (show nI a < 40 from nI_lt (b := 40) (by omega) (by decide))]
      unfold fX0_add_b36
      rw [show S (20 + 6) 1 = nI a from ha, show (26 : Int32) = nI 26 from rfl, pk_mul, Nat.mul_comm a 26]
      show bnd (bnd (fX7_write N 21 27 (nI (26 * a)) S) _) _ = _
      rw [bnd_t w1]
      dsimp only [lt]
      rw [show S3 (20 + 6) 1 = nI a from (w2 26 1 (by omega)).trans ha, nI_1]
      rfl
    · rw [sU_n (by omega), w2 i j (by omega)]
    · obtain ⟨p1, p2, p3⟩ := w3
      refine ⟨by rw [sU_n (by omega)]; exact p1, by rw [sU_n (by omega)]; exact p2, fun g hg => ?_⟩
      rw [sU_n (by omega), sU_n (by omega), sU_n (by omega), sU_n (by omega)]
      exact p3 g hg
    · rw [if_neg h4, sU_n (by omega), w2 27 j (by omega)]
theorem m_keep52 {N a : Nat} {S : gS} (ha : S 99 39 = nI a) (h40 : a < 40) (hN : 700 < N) : ∃ S', fX12_keep_b52 N S = some (0, S') ∧ (∀ i j, ¬ (i = 36 ∧ 26 * a ≤ j ∧ j < 26 * a + 26) → ¬ (i = 99 ∧ j = 39) → S' i j = S i j) ∧ S' 99 39 = nI (a + 1) ∧ pkd 36 (26 * a) S S' := by
  obtain ⟨S2, p1, p2, p3⟩ := m_pack (N := N) (nd := 36) (a := 26 * a) (S := S) (by decide) (by show 26 * a + 26 ≤ 1040; omega) (by decide) (by omega)
  refine ⟨sU S2 99 39 (nI (a + 1)), ?_, fun i j h1 h2 => by rw [sU_n h2, p2 i j h1], sU_s, ?_, ?_, fun g hg => ?_⟩
  · unfold fX12_keep_b52
    rw [ha, show (26 : Int32) = nI 26 from rfl, pk_mul, bnd_t p1]
    dsimp only [lt]
    rw [p2 99 39 (by omega), ha, nI_1]
  · rw [sU_n (by omega)]; exact p3.1
  · rw [sU_n (by omega)]; exact p3.2.1
  · rw [sU_n (by omega), sU_n (by omega), sU_n (by omega), sU_n (by omega)]
    exact p3.2.2 g hg
theorem m_keep {N a : Nat} {S : gS} (ha : S 99 39 = nI a) (h40 : a ≤ 40) (hN : 1040 < N) : ∃ S', fX12_keep N S = some (0, S') ∧ (∀ i j, i ≠ 36 → ¬ (i = 99 ∧ j = 39) → S' i j = S i j) ∧ S' 99 39 = nI (min (a + 1) 40) ∧ pkd 36 (26 * min a 39) S S' ∧ ∀ j, j < 26 * min a 39 → S' 36 j = S 36 (if a = 40 then 26 + j else j) := by
  by_cases h4 : a = 40
  · subst h4
    have main : Gv (fX12_keep_h12 N N 26 S) (fun r => r.1 = 0 ∧ (∀ i j, i ≠ 36 → ¬ (i = 99 ∧ j = 39) → r.2 i j = S i j) ∧ r.2 99 39 = nI 40 ∧ pkd 36 1014 S r.2 ∧ ∀ j, j < 1014 → r.2 36 j = S 36 (26 + j)) := by
      refine loopG (A := gS) (fun f k S => fX12_keep_h12 N f (nI (26 + k)) S) (fun k S' => (∀ i j, i ≠ 36 → S' i j = S i j) ∧ (∀ j, j < k → S' 36 j = S 36 (26 + j)) ∧ ∀ j, k ≤ j → S' 36 j = S 36 j) _ 1014 ?_ ?_ 1014 0 S N (by omega) ⟨fun _ _ _ => rfl, fun j hj => by omega, fun _ _ => rfl⟩ (by omega)
      · rintro f S1 ⟨i1, i2, i3⟩
        show Gv (fX12_keep_b12 N _ (nI 1040) S1) _
        unfold fX12_keep_b12
        rw [if_pos (by decide)]
        unfold fX12_keep_b42
        dsimp only [lt]
        rw [i1 99 39 (by omega), ha, show nI 40 - 1 = nI 39 from rfl]
        obtain ⟨S3, w1, w2, w3, w4⟩ := m_keep52 (N := N) (a := 39) (S := sU S1 99 39 (nI 39)) sU_s (by omega) (by omega)
        refine ⟨(0, S3), w1, rfl, fun i j h1 h2 => ?_, w3, ⟨?_, ?_, fun g hg => ?_⟩, fun j hj => ?_⟩
        · dsimp only
          rw [w2 i j (by omega) h2, sU_n h2, i1 i j h1]
        · exact w4.1.trans (by rw [sU_n (by omega)]; exact i1 99 37 (by omega))
        · exact w4.2.1.trans (by rw [sU_n (by omega)]; exact i1 99 38 (by omega))
        · obtain ⟨q1, q2, q3, q4⟩ := w4.2.2 g hg
          refine ⟨q1.trans ?_, q2.trans ?_, q3.trans ?_, q4.trans ?_⟩
          · rw [sU_n (by omega)]; exact i1 32 g (by omega)
          · rw [sU_n (by omega)]; exact i1 33 g (by omega)
          · rw [sU_n (by omega)]; exact i1 34 g (by omega)
          · rw [sU_n (by omega)]; exact i1 35 g (by omega)
        · dsimp only
          rw [w2 36 j (by omega) (by omega), sU_n (by omega), i2 j hj]
      · rintro f k S1 hk ⟨i1, i2, i3⟩
        refine Or.inr ⟨sU S1 36 k (S 36 (26 + k)), ⟨fun i j h1 => by rw [sU_n (by omega)]; exact i1 i j h1, fun j hj => ?_, fun j hj => by rw [sU_n (by omega)]; exact i3 j (by omega)⟩, ?_⟩
        · by_cases hh : j = k
          · rw [hh, sU_s]
          · rw [sU_n (by omega)]; exact i2 j (by omega)
        · show fX12_keep_b12 N (fX12_keep_h12 N f) (nI (26 + k)) S1 = _
          unfold fX12_keep_b12
          rw [if_neg (show ¬ (1040 : Int32) ≤ nI (26 + k) from nI_ge (b := 1040) (by omega) (by decide))]
          unfold fX12_keep_b21
          have e26 : nI (26 + k) - 26 = nI k := by rw [show (26 : Int32) = nI 26 from rfl, pk_sub (by omega), show 26 + k - 26 = k by omega]
          dsimp only [lt]
          rw [e26, chk_t (inb_t (by omega) (by decide)), chk_t (inb_t (by omega) (by decide)), nI_clamp (n := k) (by omega), nI_clamp (n := 26 + k) (by omega), i3 (26 + k) (by omega), nI_1]
          rfl
    obtain ⟨⟨v, S'⟩, r1, r2, r3, r4, r5, r6⟩ := main
    dsimp only at r2 r3 r4 r5 r6
    subst r2
    refine ⟨S', ?_, r3, r4, r5, fun j hj => ?_⟩
    · unfold fX12_keep fX12_keep_b0
      rw [ha, if_pos (by decide)]
      exact r1
    · rw [if_pos rfl]
      exact r6 j hj
  · have hm : min a 39 = a := by omega
    rw [hm, show min (a + 1) 40 = a + 1 by omega]
    obtain ⟨S3, w1, w2, w3, w4⟩ := m_keep52 (N := N) (a := a) (S := S) ha (by omega) (by omega)
    refine ⟨S3, ?_, fun i j h1 h2 => w2 i j (by omega) h2, w3, w4, fun j hj => ?_⟩
    · unfold fX12_keep fX12_keep_b0
      rw [ha, if_neg (show ¬ nI a = 40 from fun q => h4 ((nI_eq (b := 40) (by omega) (by omega)).mp q))]
      exact w1
    · rw [if_neg h4]
      exact w2 36 j (by omega) (by omega)
theorem jSt.on6 {n0 n1 : Nat} {u v u' v' : Nat → Nat → Int32} (h : jSt n0 n1 u v) (h6 : n1 ≤ 6) (hu : ∀ c g, (c = 0 → g ≤ 1) → c ≤ 4 → g < 6 → u' c g = u c g) (hv : ∀ c g, (c = 0 → g ≤ 1) → c ≤ 4 → g < 6 → v' c g = v c g) : jSt n0 n1 u' v' := by
  obtain ⟨s1, s2, s3, s4, s5⟩ := h
  have u9 : ∀ c g, 1 ≤ c → c ≤ 4 → g < n1 → u' c g = u c g := fun c g h1 h2 h3 => hu c g (fun h => by omega) h2 (by omega)
  have v9 : ∀ c g, 1 ≤ c → c ≤ 4 → g < n1 → v' c g = v c g := fun c g h1 h2 h3 => hv c g (fun h => by omega) h2 (by omega)
  refine ⟨?_, ?_, fun g hg => ?_, fun g hg => ?_, fun g g' h1 h2 => ?_⟩
  · rw [hu 0 0 (fun _ => by omega) (by omega) (by omega), hv 0 0 (fun _ => by omega) (by omega) (by omega)]
    exact s1
  · rw [hu 0 1 (fun _ => by omega) (by omega) (by omega), hv 0 1 (fun _ => by omega) (by omega) (by omega)]
    exact s2
  · rw [u9 1 g (by omega) (by omega) hg, u9 2 g (by omega) (by omega) hg, u9 3 g (by omega) (by omega) hg, u9 4 g (by omega) (by omega) hg, v9 1 g (by omega) (by omega) hg, v9 2 g (by omega) (by omega) hg, v9 3 g (by omega) (by omega) hg, v9 4 g (by omega) (by omega) hg]
    exact s3 g hg
  · rw [v9 1 g (by omega) (by omega) hg, v9 2 g (by omega) (by omega) hg, v9 3 g (by omega) (by omega) hg, v9 4 g (by omega) (by omega) hg]
    exact s4 g hg
  · rw [v9 4 g (by omega) (by omega) h1, v9 4 g' (by omega) (by omega) h2]
    exact s5 g g' h1 h2
theorem JJ.keep {SX SM : gS} (hJ : JJ SX SM) : ∃ SX' SM', fX1_keepAct 5000 20 SX = some (0, SX') ∧ fX12_keep 5000 SM = some (0, SM') ∧ JJ SX' SM' ∧ (∀ i j, i ≠ 27 → ¬ (i = 26 ∧ j = 1) → SX' i j = SX i j) ∧ (∀ i j, i ≠ 36 → ¬ (i = 99 ∧ j = 39) → SM' i j = SM i j) := by
  obtain ⟨n0, n1, hT, hN, hI, hP, hM⟩ := id hJ
  obtain ⟨s, ⟨a, f1, f2, f3, f4⟩, q, t⟩ := hN
  obtain ⟨SX', x1, x2, x3, x4, x5⟩ := x_keep (N := 5000) (a := a) f2 f1 (by decide)
  obtain ⟨SM', m1, m2, m3, m4, m5⟩ := m_keep (N := 5000) (a := a) f3 f1 (by decide)
  refine ⟨SX', SM', x1, m1, ?_, x2, m2⟩
  refine hJ.act (fun i j hij => x2 i j (fun q => by rw [q] at hij; cases hij) (fun q => by rw [q.1] at hij; cases hij)) (fun i j hij => m2 i j (fun q => by rw [q] at hij; cases hij) (fun q => by rw [q.1, q.2] at hij; cases hij)) (fun n0 n1 hT hN hI => ?_)
  have h6 := hT.2.1.2.2
  obtain ⟨s, ⟨a', f1', f2', f3', f4'⟩, ⟨q, g1, g2, g3, g4⟩, t⟩ := hN
  have ea : a' = a := (nI_eq (by omega) (by omega)).mp (f2'.symm.trans f2)
  subst ea
  refine ⟨⟨s.on (fun c g _ hc => ?_) (fun c g h1 hc => ?_), ⟨min (a' + 1) 40, by omega, x3, m3, fun i hi => ?_⟩, ⟨q, g1, ?_, ?_, fun i hi => ?_⟩, fun i hi => ?_⟩, hI.on (x2 0 8 (by omega) (by omega)) (fun i j h1 h2 => x2 i j (by omega) (by omega)) (fun i j h1 h2 => m2 i j (by omega) (by omega)) (m2 99 57 (by omega) (by omega)) (m2 99 58 (by omega) (by omega)) (m2 99 59 (by omega) (by omega))⟩
  · show SX' (21 + c) g = SX (21 + c) g
    exact x2 _ _ (by omega) (by omega)
  · unfold mSt
    by_cases h0 : c = 0
    · rw [if_pos h0, if_pos h0, m2 _ _ (by omega) (by have := h1 h0; omega)]
    · rw [if_neg h0, if_neg h0, m2 _ _ (by omega) (by omega)]
  · by_cases hl : i < min a' 39
    · have key : ∀ j, j < 26 → SX' 27 (26 * i + j) = SX 27 (26 * (if a' = 40 then i + 1 else i) + j) ∧ SM' 36 (26 * i + j) = SM 36 (26 * (if a' = 40 then i + 1 else i) + j) := by
        intro j hj
        rw [x5 (26 * i + j) (by omega), m5 (26 * i + j) (by omega)]
        by_cases h4 : a' = 40
        · rw [if_pos h4, if_pos h4, show 26 + (26 * i + j) = 26 * (i + 1) + j by omega]
          exact ⟨rfl, rfl⟩
        · rw [if_neg h4, if_neg h4]
          exact ⟨rfl, rfl⟩
      refine (f4' (if a' = 40 then i + 1 else i) (by
        by_cases h4 : a' = 40
        · rw [if_pos h4]; omega
        · rw [if_neg h4]; omega)).on6 h6 (fun c g h1 hc hg => ?_) (fun c g h1 hc hg => ?_)
      · unfold xAc
        by_cases h0 : c = 0
        · rw [if_pos h0, if_pos h0]
          exact (key g (by have := h1 h0; omega)).1
        · rw [if_neg h0, if_neg h0]
          have := (key (2 + 4 * g + (c - 1)) (by omega)).1
          rw [show 26 * i + (2 + 4 * g + (c - 1)) = 26 * i + 2 + 4 * g + (c - 1) by omega] at this
          refine this.trans ?_
          congr 1
          omega
      · unfold mAc
        by_cases h0 : c = 0
        · rw [if_pos h0, if_pos h0]
          exact (key g (by have := h1 h0; omega)).2
        · rw [if_neg h0, if_neg h0]
          have := (key (2 + 6 * (c - 1) + g) (by omega)).2
          rw [show 26 * i + (2 + 6 * (c - 1) + g) = 26 * i + 2 + 6 * (c - 1) + g by omega] at this
          refine this.trans ?_
          congr 1
          omega
    · have ei : i = min a' 39 := by omega
      subst ei
      refine s.on6 h6 (fun c g h1 hc hg => ?_) (fun c g h1 hc hg => ?_)
      · unfold xAc xSt
        obtain ⟨p1, p2, p3⟩ := x4
        obtain ⟨q1, q2, q3, q4⟩ := p3 g hg
        rcases (show c = 0 ∨ c = 1 ∨ c = 2 ∨ c = 3 ∨ c = 4 by omega) with rfl | rfl | rfl | rfl | rfl
        · rcases (show g = 0 ∨ g = 1 by have := h1 rfl; omega) with rfl | rfl
          · exact p1
          · exact p2
        · exact q1
        · exact q2
        · exact q3
        · exact q4
      · unfold mAc mSt
        obtain ⟨p1, p2, p3⟩ := m4
        obtain ⟨q1, q2, q3, q4⟩ := p3 g hg
        rcases (show c = 0 ∨ c = 1 ∨ c = 2 ∨ c = 3 ∨ c = 4 by omega) with rfl | rfl | rfl | rfl | rfl
        · rcases (show g = 0 ∨ g = 1 by have := h1 rfl; omega) with rfl | rfl
          · exact p1
          · exact p2
        · exact q1
        · exact q2
        · exact q3
        · exact q4
  · rw [x2 (20 + 8) 3 (by omega) (by omega)]; exact g2
  · rw [m2 99 40 (by omega) (by omega)]; exact g3
  · rw [x2 (20 + 9) i (by omega) (by omega), x2 (20 + 10) i (by omega) (by omega), x2 (20 + 11) i (by omega) (by omega), m2 48 i (by omega) (by omega), m2 49 i (by omega) (by omega), m2 50 i (by omega) (by omega)]
    exact g4 i hi
  · rw [x2 (20 + 12) i (by omega) (by omega), m2 17 i (by omega) (by omega)]
    exact t i hi
/-! refused -/
theorem x_refuse {N k : Nat} {S : gS} (hk : k < 3) : fX1_refuse N 20 (nI k) S = some (-1, sU S 32 k (S 32 k + 1)) := by
  unfold fX1_refuse fX1_refuse_b0
  rw [if_neg (nI_pos (by omega))]
  unfold fX1_refuse_b4
  rw [if_neg (show ¬ (3 : Int32) ≤ nI k from nI_ge (b := 3) hk (by decide))]
  unfold fX1_refuse_b13
  rw [chk_t (inb_t hk (by decide)), chk_t (inb_t hk (by decide)), nI_clamp (by omega)]
  rfl
theorem m_refuse {N k : Nat} {S : gS} (hk : k < 3) : fX12_refuse N (nI k) S = some (-1, sU S 17 k (S 17 k + 1)) := by
  unfold fX12_refuse fX12_refuse_b0
  rw [chk_t (inb_t hk (by decide)), chk_t (inb_t hk (by decide)), nI_clamp (by omega)]
  rfl
theorem JJ.refuse {SX SM : gS} {k : Nat} (hJ : JJ SX SM) (hk : k < 3) : JJ (sU SX 32 k (SX 32 k + 1)) (sU SM 17 k (SM 17 k + 1)) := by
  have x2 : ∀ i j, i ≠ 32 → sU SX 32 k (SX 32 k + 1) i j = SX i j := fun i j h => sU_n (by omega)
  have m2 : ∀ i j, i ≠ 17 → sU SM 17 k (SM 17 k + 1) i j = SM i j := fun i j h => sU_n (by omega)
  refine hJ.act (fun i j hij => x2 i j (fun q => by rw [q] at hij; cases hij)) (fun i j hij => m2 i j (fun q => by rw [q] at hij; cases hij)) (fun n0 n1 hT hN hI => ⟨?_, hI.on (x2 0 8 (by omega)) (fun i j h1 h2 => x2 i j (by omega)) (fun i j h1 h2 => m2 i j (by omega)) (m2 99 57 (by omega)) (m2 99 58 (by omega)) (m2 99 59 (by omega))⟩)
  obtain ⟨s, ⟨a, f1, f2, f3, f4⟩, ⟨q, g1, g2, g3, g4⟩, t⟩ := hN
  refine ⟨s.on (fun c g _ hc => x2 _ _ (by omega)) (fun c g h1 hc => ?_), ⟨a, f1, ?_, ?_, fun i hi => ?_⟩, ⟨q, g1, ?_, ?_, fun i hi => ?_⟩, fun i hi => ?_⟩
  · unfold mSt
    by_cases h0 : c = 0
    · rw [if_pos h0, if_pos h0, m2 _ _ (by omega)]
    · rw [if_neg h0, if_neg h0, m2 _ _ (by omega)]
  · rw [x2 (20 + 6) 1 (by omega)]; exact f2
  · rw [m2 99 39 (by omega)]; exact f3
  · refine (f4 i hi).on (fun c g _ _ => ?_) (fun c g _ _ => ?_)
    · unfold xAc
      rw [show sU SX 32 k (SX 32 k + 1) (20 + 7) = SX (20 + 7) from funext fun j => x2 _ j (by omega)]
    · unfold mAc
      rw [show sU SM 17 k (SM 17 k + 1) 36 = SM 36 from funext fun j => m2 _ j (by omega)]
  · rw [x2 (20 + 8) 3 (by omega)]; exact g2
  · rw [m2 99 40 (by omega)]; exact g3
  · rw [x2 (20 + 9) i (by omega), x2 (20 + 10) i (by omega), x2 (20 + 11) i (by omega), m2 48 i (by omega), m2 49 i (by omega), m2 50 i (by omega)]
    exact g4 i hi
  · by_cases hh : i = k
    · subst hh
      rw [sU_s, sU_s]
      exact congrArg (· + 1) (t i hi)
    · rw [sU_n (by omega), sU_n (by omega)]
      exact t i hi
end

/-! part 55.aacts -/
section
/-! the ACTS -/
theorem cSit.kp {Z S S' : gS} {h : Nat} {d : Int32} {qs : Nat → qT} (C : cSit 21 Z S h d qs) (s : ∀ i j, i ≠ 27 → ¬ (i = 26 ∧ j = 1) → S' i j = S i j) : cSit 21 Z S' h d qs := by
  obtain ⟨c1, c2, c3, c4⟩ := C
  have hT : xtw S' = xtw S := by
    unfold xtw
    rw [s 0 7 (by omega) (by omega)]
  refine ⟨?_, by rw [s 21 0 (by omega) (by omega)]; exact c2, by rw [s 21 1 (by omega) (by omega)]; exact c3, fun g hg => ?_⟩
  · rw [hT]
    intro i j h1 h2
    have := xtw_cases (S := S)
    rw [s (xtw S + i) j (by omega) (by omega)]
    exact c1 i j h1 h2
  · rw [s (21 + 1) g (by omega) (by omega), s (21 + 2) g (by omega) (by omega), s (21 + 3) g (by omega) (by omega), s (21 + 4) g (by omega) (by omega)]
    exact c4 g hg
theorem mSit.kp {Z S S' : gS} {h : Nat} {d : Int32} {e : Nat → Int32} {qs : Nat → qT} (M : mSit Z S h d e qs) (s : ∀ i j, i ≠ 36 → ¬ (i = 99 ∧ j = 39) → S' i j = S i j) : mSit Z S' h d e qs := by
  obtain ⟨m1, m2, m3, m4, m5⟩ := M
  refine ⟨m1.on (fun i j h1 h2 => s i j (by omega) (by omega)), fun g hg => by rw [s 18 g (by omega) (by omega)]; exact m2 g hg, by rw [s 99 37 (by omega) (by omega)]; exact m3, by rw [s 99 38 (by omega) (by omega)]; exact m4, fun g hg => ?_⟩
  rw [s 32 g (by omega) (by omega), s 33 g (by omega) (by omega), s 34 g (by omega) (by omega), s 35 g (by omega) (by omega)]
  exact m5 g hg
theorem cSit.up {nd g h : Nat} {Z S S' : gS} {d : Int32} {qs : Nat → qT} {q : qT} (hnd : nd = 21 ∨ nd = 46) (C : cSit nd Z S h d qs) (s : ∀ i j, ¬ (nd + 1 ≤ i ∧ i ≤ nd + 4 ∧ j = g) → S' i j = S i j) (r1 : S' (nd + 1) g = q.1) (r2 : S' (nd + 2) g = q.2.1) (r3 : S' (nd + 3) g = q.2.2.1) (r4 : S' (nd + 4) g = q.2.2.2) : cSit nd Z S' h d (upq qs g q) := by
  obtain ⟨c1, c2, c3, c4⟩ := C
  have hT : xtw S' = xtw S := by
    unfold xtw
    rw [s 0 7 (by omega)]
  refine ⟨?_, by rw [s nd 0 (by omega)]; exact c2, by rw [s nd 1 (by omega)]; exact c3, fun g' hg => ?_⟩
  · rw [hT]
    intro i j h1 h2
    have := xtw_cases (S := S)
    rw [s (xtw S + i) j (by omega)]
    exact c1 i j h1 h2
  · by_cases hh : g' = g
    · subst hh
      rw [upq_s]
      exact ⟨r1, r2, r3, r4⟩
    · rw [upq_n hh, s (nd + 1) g' (by omega), s (nd + 2) g' (by omega), s (nd + 3) g' (by omega), s (nd + 4) g' (by omega)]
      exact c4 g' hg
theorem xNw_of {S S' : gS} (s : ∀ i j, ¬ (21 ≤ i ∧ i ≤ 25) → S' i j = S i j) : oSame xNw S S' := by
  intro i j h
  refine s i j (fun q => ?_)
  unfold xNw at h
  rw [Bool.or_eq_false_iff] at h
  have h2 := h.2
  simp only [Bool.and_eq_false_iff, decide_eq_false_iff_not] at h2
  omega
theorem mQ_of {S S' : gS} (s : ∀ i j, ¬ (32 ≤ i ∧ i ≤ 35 ∧ j < 6) → ¬ (i = 99 ∧ (j = 37 ∨ j = 38)) → S' i j = S i j) : oSame mQ S S' := by
  intro i j h
  unfold mQ at h
  rw [Bool.or_eq_false_iff] at h
  have h2 := mt mPk_t.mpr (Bool.not_eq_true _ |>.mpr h.2)
  exact s i j (fun q => h2 (Or.inl q)) (fun q => h2 (Or.inr q))
/-- the end of an ACT that puts one GUILD's row anew -/
theorem JJ.row {SX SM Z SX' SM' : gS} {h g : Nat} {d : Int32} {qs : Nat → qT} {q : qT} (hJ : JJ SX SM) (Zk : tOK Z) (h9 : h ≤ 999) (hg : g < tn1 Z) (C : cSit 21 Z SX h d qs) (M : mSit Z SM h d (Z 5) qs) (K : qsOK Z (Z 5) (upq qs g q)) (sx : ∀ i j, ¬ (22 ≤ i ∧ i ≤ 25 ∧ j = g) → SX' i j = SX i j) (sm : ∀ i j, ¬ (32 ≤ i ∧ i ≤ 35 ∧ j = g) → SM' i j = SM i j) (a1 : SX' 22 g = q.1) (a2 : SX' 23 g = q.2.1) (a3 : SX' 24 g = q.2.2.1) (a4 : SX' 25 g = q.2.2.2) (b1 : SM' 32 g = q.1) (b2 : SM' 33 g = q.2.1) (b3 : SM' 34 g = q.2.2.1) (b4 : SM' 35 g = q.2.2.2) : JJ SX' SM' := by
  have z6 := Zk.2.1.2
  exact hJ.now (xNw_of (fun i j hij => sx i j (by omega))) (mQ_of (fun i j h1 h2 => sm i j (by omega))) Zk (C.up (Or.inl rfl) sx a1 a2 a3 a4) (M.up sm b1 b2 b3 b4) K h9
theorem st_dismiss : Lw_dismiss JJ := by
  intro SX SM x1 hJ
  obtain ⟨S1, Z, h, qs, hS1, c0, hJ1, Zk, h9, C, M, K, w41, x0, x5⟩ := pre hJ
  have z6 := Zk.2.1.2
  have hF : fX12_dismiss 5000 x1 SM = if iv (inb x1 (tn1 Z)) = 0 then fX12_dismiss_b13 5000 S1 else fX12_dismiss_b19 5000 x1 S1 := by
    unfold fX12_dismiss fX12_dismiss_b0
    dsimp only [lt]
    rw [← hS1, bnd_t (m_isGuild M.1.2.1 (by omega))]
  cases h1 : inb x1 (tn1 Z) with
  | false =>
    refine stFl 5000 5000 1 hJ one_ne (Or.inr rfl) (ngF x5 (by omega) h1) ?_
    show fX12_dismiss 5000 x1 SM = _
    rw [hF, h1, ← hS1]
    rfl
  | true =>
  obtain ⟨g, hg, rfl⟩ := inb_of h1 (by omega)
  have hgc : (nI g).toNatClampNeg = g := nI_clamp (by omega)
  have hin : inb (nI g) 6 = true := inb_t (by omega) (by decide)
  have c4 : SX 25 g = (qs g).2.2.2 := (C.2.2.2 g hg).2.2.2
  have m4 : S1 35 g = (qs g).2.2.2 := (M.2.2.2.2 g hg).2.2.2
  have hX : fX11_dismiss 5000 (nI g) SX = if (qs g).2.2.2 = -1 then fX11_dismiss_b23 5000 SX else fX11_dismiss_b32 5000 (nI g) (qs g).2.2.2 SX := by
    refine (ngT x5 (by omega) h1).trans ?_
    dsimp only
    rw [chk_t hin, hgc]
    simp only [c4]
  have hM : fX12_dismiss 5000 (nI g) SM = if (qs g).2.2.2 = -1 then fX12_dismiss_b31 5000 S1 else fX12_dismiss_b37 5000 (nI g) (qs g).2.2.2 S1 := by
    rw [hF, h1]
    show fX12_dismiss_b19 5000 (nI g) S1 = _
    unfold fX12_dismiss_b19
    rw [chk_t hin, hgc, m4]
  by_cases hn : (qs g).2.2.2 = -1
  · refine stp_ok (SX := SX) (SM := SM) (v := -1) 5000 5000 (hJ1.refuse (k := 1) (by decide)) rfl (Or.inl rfl) ?_ ?_ ?_
    · show fX11_dismiss 5000 (nI g) SX = _
      rw [hX, if_pos hn]
      unfold fX11_dismiss_b23
      rw [bnd_t (show fX1_refuse 5000 20 1 SX = _ from x_refuse (k := 1) (by decide))]
    · show fX12_dismiss 5000 (nI g) SM = _
      rw [hM, if_pos hn]
      unfold fX12_dismiss_b31
      rw [bnd_t (show fX12_refuse 5000 1 S1 = _ from m_refuse (k := 1) (by decide))]
    · rw [sU_n (by omega)]; exact c0
  · obtain ⟨X2, M2, k1, k2, kJ, kx, km⟩ := hJ1.keep
    have C2 := C.kp kx
    have M3 := M.kp km
    obtain ⟨u1, u2, u3, u4⟩ := C2.2.2.2 g hg
    obtain ⟨v1, v2, v3, v4⟩ := M3.2.2.2.2 g hg
    have hq := K.1 g hg
    refine stp_ok (SX := SX) (SM := SM) (v := (qs g).2.2.2) 5000 5000 (kJ.row (q := ((qs g).1, (qs g).2.1, (qs g).2.2.1, -1)) Zk h9 hg C2 M3 (K.up ⟨hq.1, hq.2.1, hq.2.2.1, Or.inl rfl⟩ (Or.inl rfl)) (SX' := sU X2 25 g (-1)) (SM' := sU M2 35 g (-1)) (fun i j hij => sU_n (by omega)) (fun i j hij => sU_n (by omega)) ?_ ?_ ?_ sU_s ?_ ?_ ?_ sU_s) rfl (Or.inl rfl) ?_ ?_ ?_
    · rw [sU_n (by omega)]; exact u1
    · rw [sU_n (by omega)]; exact u2
    · rw [sU_n (by omega)]; exact u3
    · rw [sU_n (by omega)]; exact v1
    · rw [sU_n (by omega)]; exact v2
    · rw [sU_n (by omega)]; exact v3
    · show fX11_dismiss 5000 (nI g) SX = _
      rw [hX, if_neg hn]
      unfold fX11_dismiss_b32
      rw [bnd_t k1]
      dsimp only [lt]
      rw [chk_t hin, hgc]
    · show fX12_dismiss 5000 (nI g) SM = _
      rw [hM, if_neg hn]
      unfold fX12_dismiss_b37
      rw [bnd_t k2]
      dsimp only [lt]
      rw [chk_t hin, hgc]
    · rw [sU_n (by omega), km 99 4 (by omega) (by omega)]; exact c0
theorem st_confess : Lw_confess JJ := by
  intro SX SM x1 hJ
  obtain ⟨S1, Z, h, qs, hS1, c0, hJ1, Zk, h9, C, M, K, w41, x0, x5⟩ := pre hJ
  have z6 := Zk.2.1.2
  have hF : fX12_confess 5000 x1 SM = if iv (inb x1 (tn1 Z)) = 0 then fX12_confess_b13 5000 S1 else fX12_confess_b19 5000 x1 S1 := by
    unfold fX12_confess fX12_confess_b0
    dsimp only [lt]
    rw [← hS1, bnd_t (m_isGuild M.1.2.1 (by omega))]
  cases h1 : inb x1 (tn1 Z) with
  | false =>
    refine stFl 5000 5000 1 hJ one_ne (Or.inr rfl) (ngF x5 (by omega) h1) ?_
    show fX12_confess 5000 x1 SM = _
    rw [hF, h1, ← hS1]
    rfl
  | true =>
  obtain ⟨g, hg, rfl⟩ := inb_of h1 (by omega)
  have hgc : (nI g).toNatClampNeg = g := nI_clamp (by omega)
  have hin : inb (nI g) 6 = true := inb_t (by omega) (by decide)
  have c4 : SX 23 g = (qs g).2.1 := (C.2.2.2 g hg).2.1
  have hX : fX11_confess 5000 (nI g) SX = if 50 ≤ (qs g).2.1 then fX11_confess_b33 5000 (nI g) SX else fX11_confess_b24 5000 SX := by
    refine (ngT x5 (by omega) h1).trans ?_
    dsimp only
    rw [chk_t hin, hgc]
    simp only [c4]
  have hM : fX12_confess 5000 (nI g) SM = if iv (decide (¬ (qs g).2.1 < 50)) = 0 then fX12_confess_b27 5000 S1 else fX12_confess_b33 5000 (nI g) S1 := by
    rw [hF, h1]
    show fX12_confess_b19 5000 (nI g) S1 = _
    unfold fX12_confess_b19
    rw [bnd_t (m_canConfess Zk M hg)]
  by_cases hn : (qs g).2.1 < 50
  · refine stp_ok (SX := SX) (SM := SM) (v := -1) 5000 5000 (hJ1.refuse (k := 1) (by decide)) rfl (Or.inl rfl) ?_ ?_ ?_
    · show fX11_confess 5000 (nI g) SX = _
      rw [hX, if_neg (Int32.not_le.mpr hn)]
      unfold fX11_confess_b24
      rw [bnd_t (show fX1_refuse 5000 20 1 SX = _ from x_refuse (k := 1) (by decide))]
    · show fX12_confess 5000 (nI g) SM = _
      rw [hM, decide_eq_false (fun q => q hn)]
      show fX12_confess_b27 5000 S1 = _
      unfold fX12_confess_b27
      rw [bnd_t (show fX12_refuse 5000 1 S1 = _ from m_refuse (k := 1) (by decide))]
    · rw [sU_n (by omega)]; exact c0
  · obtain ⟨X2, M2, k1, k2, kJ, kx, km⟩ := hJ1.keep
    have C2 := C.kp kx
    have M3 := M.kp km
    obtain ⟨u1, u2, u3, u4⟩ := C2.2.2.2 g hg
    obtain ⟨v1, v2, v3, v4⟩ := M3.2.2.2.2 g hg
    obtain ⟨M4, d1, d2, d3⟩ := m_doConfess (N := 5000) Zk M3 hg
    obtain ⟨e1, e2, e3, e4⟩ := d2.2.2.2.2 g hg
    rw [upq_s] at e1 e2 e3 e4
    refine stp_ok (SX := SX) (SM := SM) (v := (qs g).1 / 2) 5000 5000 (kJ.row (q := cfq (qs g)) Zk h9 hg C2 M3 (cfq_up K hg hn) (SX' := sU (sU X2 23 g ((qs g).2.1 - 50)) 22 g ((qs g).1 / 2)) (SM' := M4) (fun i j hij => by rw [sU_n (by omega), sU_n (by omega)]) (fun i j hij => d3 i j (by omega)) ?_ ?_ ?_ ?_ e1 e2 e3 e4) rfl (Or.inl rfl) ?_ ?_ ?_
    · rw [sU_s]; rfl
    · rw [sU_n (by omega), sU_s]; rfl
    · rw [sU_n (by omega), sU_n (by omega)]; exact u3
    · rw [sU_n (by omega), sU_n (by omega)]; exact u4
    · show fX11_confess 5000 (nI g) SX = _
      rw [hX, if_pos (Int32.not_lt.mp hn)]
      unfold fX11_confess_b33
      rw [bnd_t k1]
      dsimp only [lt]
      rw [hgc, chk_t hin, chk_t hin, chk_t hin, chk_t hin, chk_t hin, show X2 23 g = (qs g).2.1 from u2, show sU X2 23 g ((qs g).2.1 - 50) 22 g = (qs g).1 by rw [sU_n (by omega)]; exact u1, sU_s]
    · show fX12_confess 5000 (nI g) SM = _
      rw [hM, decide_eq_true hn]
      show fX12_confess_b33 5000 (nI g) S1 = _
      unfold fX12_confess_b33
      rw [bnd_t k2]
      dsimp only
      rw [bnd_t d1]
      dsimp only
      rw [chk_t hin, hgc, e1]
      rfl
    · rw [d3 99 4 (by omega), km 99 4 (by omega) (by omega)]; exact c0
theorem st_give : Lw_give JJ := by
  intro SX SM x1 x2 hJ
  obtain ⟨S1, Z, h, qs, hS1, c0, hJ1, Zk, h9, C, M, K, w41, x0, x5⟩ := pre hJ
  have z6 := Zk.2.1.2
  have hF : fX12_give 5000 x1 x2 SM = if iv (inb x1 (tn1 Z)) = 0 then fX12_give_b13 5000 S1 else fX12_give_b19 5000 x1 x2 S1 := by
    unfold fX12_give fX12_give_b0
    dsimp only [lt]
    rw [← hS1, bnd_t (m_isGuild M.1.2.1 (by omega))]
  cases h1 : inb x1 (tn1 Z) with
  | false =>
    refine stFl 5000 5000 1 hJ one_ne (Or.inr rfl) (ngF x5 (by omega) h1) ?_
    show fX12_give 5000 x1 x2 SM = _
    rw [hF, h1, ← hS1]
    rfl
  | true =>
  obtain ⟨g, hg, rfl⟩ := inb_of h1 (by omega)
  have hgc : (nI g).toNatClampNeg = g := nI_clamp (by omega)
  have hin : inb (nI g) 6 = true := inb_t (by omega) (by decide)
  have hX : fX11_give 5000 (nI g) x2 SX = if iv (wth x2 1 100) = 0 then fX11_give_b15 5000 SX else fX11_give_b24 5000 (nI g) x2 SX := by
    refine (ngT x5 (by omega) h1).trans ?_
    dsimp only
    rw [bnd_t x_isWithin]
  have hM : fX12_give 5000 (nI g) x2 SM = if iv (wth x2 1 100) = 0 then fX12_give_b31 5000 S1 else fX12_give_b37 5000 (nI g) x2 S1 := by
    rw [hF, h1]
    show fX12_give_b19 5000 (nI g) x2 S1 = _
    unfold fX12_give_b19
    rw [bnd_t in_1_100]
  cases hn : wth x2 1 100 with
  | false =>
    refine stp_ok (SX := SX) (SM := SM) (v := -1) 5000 5000 (hJ1.refuse (k := 1) (by decide)) rfl (Or.inl rfl) ?_ ?_ ?_
    · show fX11_give 5000 (nI g) x2 SX = _
      rw [hX, hn]
      show fX11_give_b15 5000 SX = _
      unfold fX11_give_b15
      rw [bnd_t (show fX1_refuse 5000 20 1 SX = _ from x_refuse (k := 1) (by decide))]
    · show fX12_give 5000 (nI g) x2 SM = _
      rw [hM, hn]
      show fX12_give_b31 5000 S1 = _
      unfold fX12_give_b31
      rw [bnd_t (show fX12_refuse 5000 1 S1 = _ from m_refuse (k := 1) (by decide))]
    · rw [sU_n (by omega)]; exact c0
  | true =>
    obtain ⟨c, c1, c2, rfl⟩ := wth_of (a := 1) (b := 100) (by decide) (by decide) hn
    obtain ⟨X2, M2, k1, k2, kJ, kx, km⟩ := hJ1.keep
    have C2 := C.kp kx
    have M3 := M.kp km
    obtain ⟨u1, u2, u3, u4⟩ := C2.2.2.2 g hg
    obtain ⟨v1, v2, v3, v4⟩ := M3.2.2.2.2 g hg
    have hq := K.1 g hg
    obtain ⟨y, hy, ey⟩ := i32_999 hq.2.1
    obtain ⟨p, hp⟩ : ∃ z, z = (if (qs g).2.1 + nI c < 999 then (qs g).2.1 + nI c else 999) := ⟨_, rfl⟩
    have hp9 : 0 ≤ p ∧ p ≤ 999 := by
      rw [hp, ey, nI_add]
      by_cases hl : nI (y + c) < 999
      · rw [if_pos hl]
        exact ⟨nI_pos' (by omega), Int32.le_of_lt hl⟩
      · rw [if_neg hl]
        decide
    have hu : (qs g).2.2.2 = -1 ∨ ∀ g', g' < tn1 Z → g' ≠ g → (qs g').2.2.2 ≠ (qs g).2.2.2 := by
      by_cases hm : (qs g).2.2.2 = -1
      · exact Or.inl hm
      · exact Or.inr (fun g' hg' hne hh => hne (K.2.1 g' g hg' hg hh (fun q => hm (hh.symm.trans q))))
    refine stp_ok (SX := SX) (SM := SM) (v := p) 5000 5000 (kJ.row (q := ((qs g).1, p, (qs g).2.2)) Zk h9 hg C2 M3 (K.up ⟨hq.1, hp9, hq.2.2⟩ hu) (SX' := sU X2 23 g p) (SM' := sU M2 33 g p) (fun i j hij => sU_n (by omega)) (fun i j hij => sU_n (by omega)) ?_ sU_s ?_ ?_ ?_ sU_s ?_ ?_) rfl (Or.inl rfl) ?_ ?_ ?_
    · rw [sU_n (by omega)]; exact u1
    · rw [sU_n (by omega)]; exact u3
    · rw [sU_n (by omega)]; exact u4
    · rw [sU_n (by omega)]; exact v1
    · rw [sU_n (by omega)]; exact v3
    · rw [sU_n (by omega)]; exact v4
    · show fX11_give 5000 (nI g) (nI c) SX = _
      rw [hX, hn]
      show fX11_give_b24 5000 (nI g) (nI c) SX = _
      unfold fX11_give_b24
      rw [bnd_t k1]
      dsimp only
      have he : fX7_enrich 5000 21 (nI g) (nI c) X2 = some (0, sU X2 23 g p) := by
        unfold fX7_enrich fX7_enrich_b0
        rw [if_neg (nI_pos (by omega))]
        unfold fX7_enrich_b4
        rw [if_neg (show ¬ (6 : Int32) ≤ nI g from nI_ge (b := 6) (by omega) (by decide))]
        unfold fX7_enrich_b13
        rw [chk_t hin, chk_t hin, hgc, show X2 (21 + 2) g = (qs g).2.1 from u2, ← hp]
        rfl
      rw [bnd_t he]
      dsimp only
      rw [chk_t hin, hgc, sU_s]
    · show fX12_give 5000 (nI g) (nI c) SM = _
      rw [hM, hn]
      show fX12_give_b37 5000 (nI g) (nI c) S1 = _
      unfold fX12_give_b37
      rw [bnd_t k2]
      dsimp only [lt]
      rw [hgc, chk_t hin, chk_t hin, chk_t hin]
      simp only [v2]
      rw [← hp, sU_s]
    · rw [sU_n (by omega), km 99 4 (by omega) (by omega)]; exact c0
theorem st_hire : Lw_hire JJ := by
  intro SX SM x1 x2 hJ
  obtain ⟨S1, Z, h, qs, hS1, c0, hJ1, Zk, h9, C, M, K, w41, x0, x5⟩ := pre hJ
  have z6 := Zk.2.1.2
  have z8 := Zk.1.2
  have hF : fX12_hire 5000 x1 x2 SM = if iv (inb x1 (tn1 Z)) = 0 then fX12_hire_b21 5000 S1 else fX12_hire_b13 5000 x1 x2 S1 := by
    unfold fX12_hire fX12_hire_b0
    dsimp only [lt]
    rw [← hS1, bnd_t (m_isGuild M.1.2.1 (by omega))]
  have hG : fX12_hire_b13 5000 x1 x2 S1 = if iv (inb x2 (tn0 Z)) = 0 then fX12_hire_b21 5000 S1 else fX12_hire_b27 5000 x1 x2 S1 := by
    unfold fX12_hire_b13
    rw [bnd_t (m_isGrotto M.1.1 (by omega))]
  cases h1 : inb x1 (tn1 Z) with
  | false =>
    refine stFl 5000 5000 1 hJ one_ne (Or.inr rfl) (ngF x5 (by omega) h1) ?_
    show fX12_hire 5000 x1 x2 SM = _
    rw [hF, h1, ← hS1]
    rfl
  | true =>
  cases h2 : inb x2 (tn0 Z) with
  | false =>
    refine stFl 5000 5000 1 hJ one_ne (Or.inr rfl) ((ngT x5 (by omega) h1).trans (nkF x0 (by omega) h2)) ?_
    show fX12_hire 5000 x1 x2 SM = _
    rw [hF, h1, ← hS1]
    show fX12_hire_b13 5000 x1 x2 S1 = _
    rw [hG, h2]
    rfl
  | true =>
  obtain ⟨g, hg, rfl⟩ := inb_of h1 (by omega)
  obtain ⟨k, hk, rfl⟩ := inb_of h2 (by omega)
  have hgc : (nI g).toNatClampNeg = g := nI_clamp (by omega)
  have hin : inb (nI g) 6 = true := inb_t (by omega) (by decide)
  obtain ⟨o, ho⟩ : ∃ z, z = hoR (fun g => (qs g).2.2.2) (nI k) (tn1 Z) 0 := ⟨_, rfl⟩
  have hX : fX11_hire 5000 (nI g) (nI k) SX = if o = -1 then fX11_hire_b40 5000 (nI g) (nI k) SX else fX11_hire_b29 5000 SX := by
    refine (ngT x5 (by omega) h1).trans ((nkT x0 (by omega) h2).trans ?_)
    dsimp only [lt]
    rw [bnd_t (x_holderOf (N := 5000) (n := tn1 Z) x5 z6 (by decide)), hoR_eq (r := SX (21 + 4)) (r' := fun g => (qs g).2.2.2) (tn1 Z) 0 (fun i _ hi => (C.2.2.2 i (by omega)).2.2.2), ← ho]
  have hM : fX12_hire 5000 (nI g) (nI k) SM = if o = -1 then fX12_hire_b41 5000 (nI g) (nI k) S1 else fX12_hire_b36 5000 S1 := by
    rw [hF, h1]
    show fX12_hire_b13 5000 (nI g) (nI k) S1 = _
    rw [hG, h2]
    show fX12_hire_b27 5000 (nI g) (nI k) S1 = _
    unfold fX12_hire_b27
    rw [bnd_t (m_hirerOf (N := 5000) (n := tn1 Z) M.1.2.1 z6 (by decide)), hoR_eq (r := S1 35) (r' := fun g => (qs g).2.2.2) (tn1 Z) 0 (fun i _ hi => (M.2.2.2.2 i (by omega)).2.2.2), ← ho]
  by_cases hn : o = -1
  · obtain ⟨X2, M2, k1, k2, kJ, kx, km⟩ := hJ1.keep
    have C2 := C.kp kx
    have M3 := M.kp km
    obtain ⟨u1, u2, u3, u4⟩ := C2.2.2.2 g hg
    obtain ⟨v1, v2, v3, v4⟩ := M3.2.2.2.2 g hg
    obtain ⟨hq, hu⟩ := elH_q (k := k) Zk K hg hk (by unfold elH; rw [← ho]; exact decide_eq_true (Or.inl hn))
    refine stp_ok (SX := SX) (SM := SM) (v := 1) 5000 5000 (kJ.row (q := ((qs g).1, (qs g).2.1, (qs g).2.2.1, nI k)) Zk h9 hg C2 M3 (K.up hq (Or.inr hu)) (SX' := sU X2 25 g (nI k)) (SM' := sU M2 35 g (nI k)) (fun i j hij => sU_n (by omega)) (fun i j hij => sU_n (by omega)) ?_ ?_ ?_ sU_s ?_ ?_ ?_ sU_s) rfl (Or.inl rfl) ?_ ?_ ?_
    · rw [sU_n (by omega)]; exact u1
    · rw [sU_n (by omega)]; exact u2
    · rw [sU_n (by omega)]; exact u3
    · rw [sU_n (by omega)]; exact v1
    · rw [sU_n (by omega)]; exact v2
    · rw [sU_n (by omega)]; exact v3
    · show fX11_hire 5000 (nI g) (nI k) SX = _
      rw [hX, if_pos hn]
      unfold fX11_hire_b40
      rw [bnd_t k1]
      dsimp only [lt]
      rw [chk_t hin, hgc]
    · show fX12_hire 5000 (nI g) (nI k) SM = _
      rw [hM, if_pos hn]
      unfold fX12_hire_b41
      rw [bnd_t k2]
      dsimp only [lt]
      rw [chk_t hin, hgc]
    · rw [sU_n (by omega), km 99 4 (by omega) (by omega)]; exact c0
  · refine stp_ok (SX := SX) (SM := SM) (v := 0) 5000 5000 (hJ1.refuse (k := 1) (by decide)) rfl (Or.inl rfl) ?_ ?_ ?_
    · show fX11_hire 5000 (nI g) (nI k) SX = _
      rw [hX, if_neg hn]
      unfold fX11_hire_b29
      rw [bnd_t (show fX1_refuse 5000 20 1 SX = _ from x_refuse (k := 1) (by decide))]
    · show fX12_hire 5000 (nI g) (nI k) SM = _
      rw [hM, if_neg hn]
      rfl
    · rw [sU_n (by omega)]; exact c0
theorem st_drain : Lw_drain JJ := by
  intro SX SM x1 x2 hJ hx2
  obtain ⟨S1, Z, h, qs, hS1, c0, hJ1, Zk, h9, C, M, K, w41, x0, x5⟩ := pre hJ
  have z8 := Zk.1.2
  have hF : fX12_drain 5000 x1 x2 SM = if iv (inb x1 (tn0 Z)) = 0 then fX12_drain_b13 5000 S1 else fX12_drain_b19 5000 x1 x2 S1 := by
    unfold fX12_drain fX12_drain_b0
    dsimp only [lt]
    rw [← hS1, bnd_t (m_isGrotto M.1.1 (by omega))]
  cases h1 : inb x1 (tn0 Z) with
  | false =>
    refine stFl 5000 5000 1 hJ one_ne (Or.inr rfl) (nkF x0 (by omega) h1) ?_
    show fX12_drain 5000 x1 x2 SM = _
    rw [hF, h1, ← hS1]
    rfl
  | true =>
  obtain ⟨d, hd⟩ : ∃ z, z = SX 21 1 := ⟨_, rfl⟩
  rw [← hd] at C M
  have hX : fX11_drain 5000 x1 x2 SX = if iv (bt d x1) = x2 then fX11_drain_b20 5000 SX else fX11_drain_b31 5000 x1 SX := by
    refine (nkT x0 (by omega) h1).trans ?_
    dsimp only
    have e : fX7_isDrained 5000 21 x1 SX = some (iv (bt d x1), SX) := by
      unfold fX7_isDrained fX7_isDrained_b0
      rw [← hd, bnd_t x_isOneOf]
      exact chk_t zb_iv
    rw [bnd_t e]
  have hM : fX12_drain 5000 x1 x2 SM = if iv (bt d x1) = x2 then fX12_drain_b31 5000 S1 else fX12_drain_b36 5000 x1 S1 := by
    rw [hF, h1]
    show fX12_drain_b19 5000 x1 x2 S1 = _
    unfold fX12_drain_b19
    rw [M.2.2.2.1, bnd_t m_isOf]
  by_cases hn : iv (bt d x1) = x2
  · refine stp_ok (SX := SX) (SM := SM) (v := 0) 5000 5000 (hJ1.refuse (k := 1) (by decide)) rfl (Or.inl rfl) ?_ ?_ ?_
    · show fX11_drain 5000 x1 x2 SX = _
      rw [hX, if_pos hn]
      unfold fX11_drain_b20
      rw [bnd_t (show fX1_refuse 5000 20 1 SX = _ from x_refuse (k := 1) (by decide))]
    · show fX12_drain 5000 x1 x2 SM = _
      rw [hM, if_pos hn]
      rfl
    · rw [sU_n (by omega)]; exact c0
  · obtain ⟨X2, M2, k1, k2, kJ, kx, km⟩ := hJ1.keep
    obtain ⟨c1, c2, c3, c4⟩ := C.kp kx
    obtain ⟨m1, m2, m3, m4, m5⟩ := M.kp km
    obtain ⟨d', hd'⟩ : ∃ z, z = d ^^^ ((1 : Int32) <<< (x1 &&& 31)) := ⟨_, rfl⟩
    have sx : ∀ i j, ¬ (i = 21 ∧ j = 1) → sU X2 21 1 d' i j = X2 i j := fun i j hij => sU_n hij
    have sm : ∀ i j, ¬ (i = 99 ∧ j = 38) → sU M2 99 38 d' i j = M2 i j := fun i j hij => sU_n hij
    have hT : xtw (sU X2 21 1 d') = xtw X2 := by
      unfold xtw
      rw [sx 0 7 (by omega)]
    have C3 : cSit 21 Z (sU X2 21 1 d') h d' qs := by
      refine ⟨?_, by rw [sx 21 0 (by omega)]; exact c2, sU_s, fun g hg => ?_⟩
      · rw [hT]
        intro i j h1 h2
        have := xtw_cases (S := X2)
        rw [sx _ _ (by omega)]
        exact c1 i j h1 h2
      · rw [sx _ _ (by omega), sx _ _ (by omega), sx _ _ (by omega), sx _ _ (by omega)]
        exact c4 g hg
    have M4 : mSit Z (sU M2 99 38 d') h d' (Z 5) qs := ⟨m1.on (fun i j h1 h2 => sm i j (by omega)), fun g hg => by rw [sm 18 g (by omega)]; exact m2 g hg, by rw [sm 99 37 (by omega)]; exact m3, sU_s, fun g hg => by rw [sm 32 g (by omega), sm 33 g (by omega), sm 34 g (by omega), sm 35 g (by omega)]; exact m5 g hg⟩
    refine stp_ok (SX := SX) (SM := SM) (v := 1) 5000 5000 (kJ.now (SX' := sU X2 21 1 d') (SM' := sU M2 99 38 d') (xNw_of (fun i j hij => sx i j (by omega))) (mQ_of (fun i j h1 h2 => sm i j (by omega))) Zk C3 M4 K h9) rfl (Or.inl rfl) ?_ ?_ ?_
    · show fX11_drain 5000 x1 x2 SX = _
      rw [hX, if_neg hn]
      unfold fX11_drain_b31
      rw [bnd_t k1]
      show bnd (fX7_turn 5000 21 x1 X2) _ = _
      unfold fX7_turn fX7_turn_b0
      rw [c3, ← hd']
      rfl
    · show fX12_drain 5000 x1 x2 SM = _
      rw [hM, if_neg hn]
      unfold fX12_drain_b36
      rw [bnd_t k2]
      dsimp only [lt]
      rw [m4, ← hd']
    · rw [sm 99 4 (by omega), km 99 4 (by omega) (by omega)]; exact c0
end

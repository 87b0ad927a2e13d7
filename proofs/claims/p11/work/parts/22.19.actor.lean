/-! CONSTRUCTORS: from one fresh object to its block of the world -/
noncomputable def xS0 : gS := fun i => match i with
  | 1 => fun j => if j = 3 then (-1) else 0
  | 17 => fun j => if j = 2 then 1 else 0
  | 85 => fun j => if j = 2 then 1 else 0
  | 51 => fun j => if j = 4 then (-1) else 0
  | 62 => fun j => if j = 4 then (-1) else if j = 5 then 1 else 0
  | _ => fun _ => 0
/-- the cells of the nodes lo .. lo + n - 1, as a constructor leaves them -/
noncomputable def xb (cI cB cZ cQ : ClassId) (g : Nat → Nat) (lo n : Nat) : va_W := (List.range' lo n).map (xcell g cI cB cZ cQ xS0)
/-- addresses: below lo by h, from lo on by u -/
noncomputable def xj (h : Nat → Nat) (lo : Nat) (u : Nat → Nat) : Nat → Nat := fun i => if i < lo then h i else u i
noncomputable def rmc (d mc ms : Nat) : Room := { frames := d, cells := mc, slots := ms, locals := 40 * d + 13 }
def cP (D : va_G) (tys : List (ClassId × FieldType)) (av : List Value) (w0 : va_W) (sz : Nat) : Array Value → State → Prop :=
  va_Pc av (fun U => U.heap.size = sz ∧ va_P D vwCl w0 U.heap ∧ va_K D vwCl tys U ∧ va_D (fun _ => True) w0 ∧ (∀ w ∈ xNest, va_Nw w U) ∧ va_AOA .int U)
def cB (D : va_G) (tys : List (ClassId × FieldType)) (A : Nat → Prop) (b h0 : Nat) (ws : (Nat → Nat) → va_W) (u : Nat → Nat) (t : State) : Prop := u b = h0 ∧ va_P D vwCl (ws u) t.heap ∧ va_K D vwCl tys t ∧ va_D A (ws u)
def cM (l : Launch) (y : MethodName) (cy : ByteArray) (mL d mc ms : Nat) (D : va_G) (tys : List (ClassId × FieldType)) (av : List Value) (w0 : va_W) (b h0 : Nat) (ws : (Nat → Nat) → va_W) : Prop :=
  ∀ sz : Nat, Met l y (Cond.code y cy mL none :: gT) (rmc d mc ms) (cP D tys av w0 sz) (va_Qv (fun _ : Nat → Nat => True) (cB D tys (va_A w0 sz) b h0 ws) (va_A w0 sz)) mc ms (va_A w0 sz)
theorem xNest_warm {s U : State} (hW : s.WarmedH U.vm) (h : ∀ w ∈ xNest, va_Nw w s) : ∀ w ∈ xNest, va_Nw w U := by
  intro w hw
  have h1 := h w hw
  have h2 : (xNest.all (fun w => match w with
      | .fieldLinkNest .. => true
      | .methodLinkNest .. => true
      | _ => false)) = true := by decide +kernel
  have h3 := List.all_eq_true.mp h2 w hw
  cases w <;> first | exact va_Nw.warmF hW h1 | exact va_Nw.warmM hW h1 | exact absurd h3 (by simp)
theorem aoa_spec {t : FieldType} {u : State} (h : va_AOA t u) : ∃ comp c k, u.vm.findClass (FieldType.array t).toString = some comp ∧ (u.vm.classes.findIdx? fun (x : Class) => match x.kind with | .array component _ => component == comp | _ => false) = some c ∧ u.vm.classes[c]? = some k ∧ k.kind = .array comp (.array t) ∧ u.vm.findClass ("[" ++ (FieldType.array t).toString) = some c := by
  unfold va_AOA Cond.before at h
  simp only [Cond.holds, Cond.value, beq_iff_eq] at h
  cases hc : u.vm.findClass (FieldType.array t).toString with
  | none => simp [hc] at h
  | some comp =>
    simp only [hc, Option.bind_some, Option.bind_eq_some_iff, Option.map_eq_some_iff] at h
    obtain ⟨c, hi, k, hk, hb⟩ := h
    obtain ⟨hlt, hp, -⟩ := Array.findIdx?_eq_some_iff_getElem.mp hi
    have hkk : u.vm.classes[c] = k := (Array.getElem?_eq_some_iff.mp hk).2
    rewrite [hkk] at hp
    cases hkind : k.kind with
    | array component ty =>
      rewrite [hkind] at hb hp
      simp at hb hp
      exact ⟨comp, c, k, rfl, hi, hk, by rw [hkind, hp, hb.1], hb.2⟩
    | _ => rewrite [hkind] at hb; simp at hb
theorem aoa_moved {t : FieldType} {u U : State} (hvm : u.vm.Alike U.vm) (h : va_AOA t u) : va_AOA t U := by
  obtain ⟨comp, c, k, h1, h2, h3, h4, h5⟩ := aoa_spec h
  obtain ⟨k', hk', he⟩ := hvm.2.2 _ _ h3
  have hi : (U.vm.classes.findIdx? fun (x : Class) => match x.kind with | .array component _ => component == comp | _ => false) = some c := by
    have hbe : U.vm.bare = u.vm.bare := by first | exact hvm.bare_eq | exact hvm.bare_eq.symm
    refine (va_idx_bare U.vm comp).symm.trans ?_
    rw [hbe]
    exact (va_idx_bare u.vm comp).trans h2
  have hkind : k'.kind = .array comp (.array t) := by rw [he]; exact h4
  have f1 : U.vm.findClass (FieldType.array t).toString = some comp := by rw [hvm.findClass]; exact h1
  have f2 : U.vm.findClass ("[" ++ (FieldType.array t).toString) = some c := by rw [hvm.findClass]; exact h5
  unfold va_AOA Cond.before Cond.holds
  simp only [Cond.value]
  rw [f1, Option.bind_some]
  refine (congrArg (fun o : Option Nat => (o.bind (fun c => (U.vm.classes[c]?).map fun (k : Class) => match k.kind with | .array _ ty => decide (ty = FieldType.array t) && decide (U.vm.findClass ("[" ++ (FieldType.array t).toString) = some c) | _ => false) == some true)) hi).trans ?_
  simp [hk', hkind, f2]
section CTOR
variable {p : Program} {l : Launch} {e : Env} {R : Room} {s : State} {m : MethodId} {args : Array Value} {below : List Frame} {meth : Method} {c : Code} {H H0 : Heap} {locs : List Loc} {cs sl : Nat} {Q : State → Prop} {A : Nat → Prop}
variable {cc : ByteArray} {pc : Nat} {D : va_G} {tys : List (ClassId × FieldType)} {ls : Array Slot} {rest : List Value} {ws : va_W}
theorem c_one {ty : FieldType} {c1 c2 : ClassId} (hn : ∀ C, ty ≠ .object C) (h1 : va_RA s c1 ty) (h2 : va_RA s c2 ty) : c1 = c2 := by
  cases ty with
  | object C => exact absurd rfl (hn C)
  | _ => exact Option.some.inj (h1.symm.trans h2)
/-- a new row of a kind whose class is known -/
theorem c_newa (hexec : p.tables.exec = Jvm.exec) (hb : c.code = cc) {atype : ArrayType} (harr : (Cond.arrayClass (newarray.typeOf atype)).before args s = true) {ty : FieldType} (hty : newarray.typeOf atype = ty) (hno : ∀ C, ty ≠ .object C) (hK : va_K D vwCl tys s) {t0 : Nat} {cT : ClassId} (ht : tys[t0]? = some (cT, ty)) (hP : va_P D vwCl ws H) (hD : va_D A ws) (hS : va_S A H0 H locs) (hA : ∀ q, H0.size ≤ q → A q)
    {n : Int32} {N' : Nat} {a0 : vp_A} (ha : ∀ cA : ClassId, vp_cell cA a0 = arrV cA N' (fun _ => defaultValue ty)) (hn : ¬ n < 0) (hN : n.toNatClampNeg = N') (hbytes : N' * componentBytes ty ≤ 536870912) (hcells : cs + 1 ≤ R.cells) (hslots : sl + N' ≤ R.slots) (hdg : decode cc pc = .ok (.newarray atype, 2))
    (kk : ∀ (q : Nat) (H1 : Heap), va_P D vwCl (ws ++ [(q, .inl (cT, a0))]) H1 → va_D A (ws ++ [(q, .inl (cT, a0))]) → va_S A H0 H1 locs → W p l e R s m args below meth c H1 locs (cs + 1) (sl + N') Q (F0 m (pc + 2) ls (.ref q :: rest))) : W p l e R s m args below meth c H locs cs sl Q (F0 m pc ls (.int n :: rest)) := by
  refine va_newa hexec hb harr hty hK hP hD hS hA ha hn hN hbytes hcells hslots hdg (fun q cA H1 hK1 hP1 hD1 hS1 => ?_)
  have h1 := (hK.2 t0 _ ht).2
  have h2 := (hK1.2 tys.length (cA, ty) (by rw [List.getElem?_append_right (Nat.le_refl _)]; simp)).2
  have e1 : cA = cT := c_one hno h2 h1
  subst e1
  exact kk q H1 hP1 hD1 hS1
/-- new int[N][K] -/
theorem c_mna (hexec : p.tables.exec = Jvm.exec) (hb : c.code = cc) {own : String} {index : Nat} (hown : s.vm.findClass own = some m.cls) (hclink : (Cond.classLink own index "[[I").before args s = true) (hAO : va_AOA .int s) (harr : (Cond.arrayClass .int).before args s = true) (hK : va_K D vwCl tys s) {cI cQ : ClassId} (ht0 : tys[0]? = some (cI, .int)) (ht3 : tys[3]? = some (cQ, .array .int))
    (hP : va_P D vwCl ws H) (hD : va_D A ws) (hS : va_S A H0 H locs) (hA : ∀ q, H0.size ≤ q → A q) {n k : Int32} {N' K' : Nat} (hn : ¬ n < 0) (hk : ¬ k < 0) (hN : n.toNatClampNeg = N') (hM : k.toNatClampNeg = K') (hb1 : N' * 4 ≤ 536870912) (hb2 : K' * componentBytes .int ≤ 536870912) (hb3 : K' ≤ 536870912) (hcells : cs + (1 + N') ≤ R.cells) (hslots : sl + (N' + N' * K') ≤ R.slots) (hdg : decode cc pc = .ok (.multianewarray index 2, 4))
    (kk : ∀ (q : Nat) (r : Nat → Nat) (H1 : Heap), va_P D vwCl ((ws ++ [(q, .inl (cQ, N', .inr (.inr (.inr (.inr (fun i => if i < N' then some (r i) else none))))))]) ++ (List.range N').map (fun i => (r i, .inl (cI, K', .inl (fun _ => 0))))) H1 → va_D A ((ws ++ [(q, .inl (cQ, N', .inr (.inr (.inr (.inr (fun i => if i < N' then some (r i) else none))))))]) ++ (List.range N').map (fun i => (r i, .inl (cI, K', .inl (fun _ => 0))))) → va_S A H0 H1 locs →
      W p l e R s m args below meth c H1 locs (cs + 1 + N') (sl + N' + N' * K') Q (F0 m (pc + 4) ls (.ref q :: rest))) : W p l e R s m args below meth c H locs cs sl Q (F0 m pc ls (.int k :: .int n :: rest)) := by
  have hP0 : va_P D vwCl (ws ++ va_pl [] (fun _ => (.inr (0, []) : va_E))) H := by
    show va_P D vwCl (ws ++ []) H
    rw [List.append_nil]
    exact hP
  have hD0 : va_D A (ws ++ va_pl [] (fun _ => (.inr (0, []) : va_E))) := by
    show va_D A (ws ++ [])
    rw [List.append_nil]
    exact hD
  refine va_mna (ty := .int) (cy := cI) (z := (K', .inl (fun _ => 0))) hexec hb hown hclink hAO harr (hK.2 0 _ ht0).2 hK hP0 hD0 hS hA hn hk hN hM hb1 hb2 hb3 rfl rfl hcells hslots (fun c0 => ?_) hdg (fun q r cA H1 hinj hnL hK1 hP1 hD1 hS1 => ?_)
  · show ({ cls := c0, slots := Array.replicate K' (.int 0), vm := .none } : Cell) = arrV c0 K' (fun _ => .int 0)
    rw [arrV_new]
  · have e1 : cA = cQ := c_one (fun _ h => by cases h) ((hK1.2 tys.length (cA, .array .int) (by rw [List.getElem?_append_right (Nat.le_refl _)]; simp)).2) (hK.2 3 _ ht3).2
    subst e1
    have hrows : va_pl ([] ++ (List.range N').map r) (vr_up (fun _ => (.inr (0, []) : va_E)) ((List.range N').map r) (.inl (cI, K', .inl (fun _ => 0)))) = (List.range N').map (fun i => (r i, (.inl (cI, K', .inl (fun _ => 0)) : va_E))) := by
      rw [← vr_rows (fun _ _ h => by cases h)]
      show [] ++ ((List.range N').map r).map _ = _
      rw [List.nil_append, List.map_map]
      rfl
    rewrite [hrows] at hP1 hD1
    exact kk q r H1 hP1 hD1 hS1
end CTOR

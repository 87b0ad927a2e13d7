/-! what each call owes: class and reference answer alike, and stay alike (printed by wip/whole/mklawb.py) -/
def okA (t : Nat) : Prop := t = 0 ∨ t = 1
def okB (t : Nat) : Prop := t = 0 ∨ t = 2
def okC (t : Nat) : Prop := t = 0 ∨ t = 1 ∨ t = 2
def StpT (J : gS → gS → Prop) (co : Nat → Int32) (ok : Nat → Prop) (FX : Nat → Option tR) (FM : Nat → Option (Int32 × gS)) : Prop := ∃ (N : Nat) (ox : tR) (M : Nat) (om : Int32 × gS), FX N = some ox ∧ FM M = some om ∧ ok ox.1 ∧ om.2 99 4 = co ox.1 ∧ (ox.1 = 0 → ox.2.1 = om.1) ∧ J ox.2.2 om.2
def StpV (J : gS → gS → Prop) (FX FM : Nat → Option (Int32 × gS)) : Prop := ∃ (N : Nat) (ox : Int32 × gS) (M : Nat) (om : Int32 × gS), FX N = some ox ∧ FM M = some om ∧ ox.1 = om.1 ∧ J ox.2 om.2
def StpU (J : gS → gS → Prop) (co : Nat → Int32) (ok : Nat → Prop) (FX : Nat → Option tR) (FM : Nat → Option (Int32 × gS)) : Prop := ∃ (N : Nat) (ox : tR) (M : Nat) (om : Int32 × gS), FX N = some ox ∧ FM M = some om ∧ ok ox.1 ∧ om.2 99 4 = co ox.1 ∧ J ox.2.2 om.2
def Lw_feed (J : gS → gS → Prop) : Prop := ∀ (SX SM : gS) (x1 x2 x3 x4 x5 : Int32), J SX SM → StpV J (fun N => fX11_feed N x1 x2 x3 x4 x5 SX) (fun M => fX12_feed M x1 x2 x3 x4 x5 SM)
def Lw_port (J : gS → gS → Prop) : Prop := ∀ (SX SM : gS) (x1 : Int32), J SX SM → StpT J lcA okB (fun N => fX11_port N x1 SX) (fun M => fX12_port M x1 SM)
def Lw_fault (J : gS → gS → Prop) : Prop := ∀ (SX SM : gS), J SX SM → StpV J (fun N => fX11_fault N SX) (fun M => fX12_fault M SM)
def Lw_count (J : gS → gS → Prop) : Prop := ∀ (SX SM : gS) (x1 : Int32), J SX SM → StpT J lcA okA (fun N => fX11_count N x1 SX) (fun M => fX12_count M x1 SM)
def Lw_grotto (J : gS → gS → Prop) : Prop := ∀ (SX SM : gS) (x1 x2 : Int32), J SX SM → StpT J lcA okA (fun N => fX11_grotto N x1 x2 SX) (fun M => fX12_grotto M x1 x2 SM)
def Lw_guild (J : gS → gS → Prop) : Prop := ∀ (SX SM : gS) (x1 x2 : Int32), J SX SM → StpT J lcA okA (fun N => fX11_guild N x1 x2 SX) (fun M => fX12_guild M x1 x2 SM)
def Lw_hours (J : gS → gS → Prop) : Prop := ∀ (SX SM : gS) (x1 : Int32), J SX SM → StpV J (fun N => fX11_hours N x1 SX) (fun M => fX12_hours M x1 SM)
def Lw_hire (J : gS → gS → Prop) : Prop := ∀ (SX SM : gS) (x1 x2 : Int32), J SX SM → StpT J lcA okA (fun N => fX11_hire N x1 x2 SX) (fun M => fX12_hire M x1 x2 SM)
def Lw_dismiss (J : gS → gS → Prop) : Prop := ∀ (SX SM : gS) (x1 : Int32), J SX SM → StpT J lcA okA (fun N => fX11_dismiss N x1 SX) (fun M => fX12_dismiss M x1 SM)
def Lw_confess (J : gS → gS → Prop) : Prop := ∀ (SX SM : gS) (x1 : Int32), J SX SM → StpT J lcA okA (fun N => fX11_confess N x1 SX) (fun M => fX12_confess M x1 SM)
def Lw_drain (J : gS → gS → Prop) : Prop := ∀ (SX SM : gS) (x1 x2 : Int32), J SX SM → (x2 = 0 ∨ x2 = 1) → StpT J lcA okA (fun N => fX11_drain N x1 x2 SX) (fun M => fX12_drain M x1 x2 SM)
def Lw_give (J : gS → gS → Prop) : Prop := ∀ (SX SM : gS) (x1 x2 : Int32), J SX SM → StpT J lcA okA (fun N => fX11_give N x1 x2 SX) (fun M => fX12_give M x1 x2 SM)
def Lw_undo (J : gS → gS → Prop) : Prop := ∀ (SX SM : gS), J SX SM → StpV J (fun N => fX11_undo N SX) (fun M => fX12_undo M SM)
def Lw_then (J : gS → gS → Prop) : Prop := ∀ (SX SM : gS) (x1 x2 x3 : Int32), J SX SM → StpT J lcC okC (fun N => fX11_then N x1 x2 x3 SX) (fun M => fX12_then M x1 x2 x3 SM)
def Lw_dripping (J : gS → gS → Prop) : Prop := ∀ (SX SM : gS) (x1 : Int32), J SX SM → StpT J lcA okB (fun N => fX11_dripping N x1 SX) (fun M => fX12_dripping M x1 SM)
def Lw_first (J : gS → gS → Prop) : Prop := ∀ (SX SM : gS) (x1 : Int32), J SX SM → StpT J lcA okA (fun N => fX11_first N x1 SX) (fun M => fX12_first M x1 SM)
def Lw_dismissed (J : gS → gS → Prop) : Prop := ∀ (SX SM : gS) (x1 : Int32), J SX SM → StpT J lcA okA (fun N => fX11_dismissed N x1 SX) (fun M => fX12_dismissed M x1 SM)
def Lw_most (J : gS → gS → Prop) : Prop := ∀ (SX SM : gS) (x1 x2 : Int32), J SX SM → StpT J lcC okC (fun N => fX11_most N x1 x2 SX) (fun M => fX12_most M x1 x2 SM)
def Lw_hush (J : gS → gS → Prop) : Prop := ∀ (SX SM : gS) (x1 : Int32), J SX SM → StpT J lcA okB (fun N => fX11_hush N x1 SX) (fun M => fX12_hush M x1 SM)
def Lw_chorus (J : gS → gS → Prop) : Prop := ∀ (SX SM : gS) (x1 : Int32), J SX SM → StpT J lcA okB (fun N => fX11_chorus N x1 SX) (fun M => fX12_chorus M x1 SM)
def Lw_together (J : gS → gS → Prop) : Prop := ∀ (SX SM : gS) (x1 : Int32), J SX SM → StpT J lcA okB (fun N => fX11_together N x1 SX) (fun M => fX12_together M x1 SM)
def Lw_rhythm (J : gS → gS → Prop) : Prop := ∀ (SX SM : gS) (x1 : Int32), J SX SM → StpT J lcA okB (fun N => fX11_rhythm N x1 SX) (fun M => fX12_rhythm M x1 SM)
def Lw_often (J : gS → gS → Prop) : Prop := ∀ (SX SM : gS) (x1 x2 : Int32), J SX SM → StpT J lcC okC (fun N => fX11_often N x1 x2 SX) (fun M => fX12_often M x1 x2 SM)
def Lw_toHire (J : gS → gS → Prop) : Prop := ∀ (SX SM : gS) (x1 x2 x3 : Int32), J SX SM → StpT J lcC okC (fun N => fX11_toHire N x1 x2 x3 SX) (fun M => fX12_toHire M x1 x2 x3 SM)
def Lw_shared (J : gS → gS → Prop) : Prop := ∀ (SX SM : gS) (x1 : Int32), J SX SM → StpT J lcA okA (fun N => fX11_shared N x1 SX) (fun M => fX12_shared M x1 SM)
def Lw_has (J : gS → gS → Prop) : Prop := ∀ (SX SM : gS) (x1 : Int32), J SX SM → StpT J lcA okA (fun N => fX11_has N x1 SX) (fun M => fX12_has M x1 SM)
def Lw_toGive (J : gS → gS → Prop) : Prop := ∀ (SX SM : gS) (x1 x2 : Int32), J SX SM → StpT J lcC okC (fun N => fX11_toGive N x1 x2 SX) (fun M => fX12_toGive M x1 x2 SM)
def Lw_confessing (J : gS → gS → Prop) : Prop := ∀ (SX SM : gS) (x1 x2 : Int32), J SX SM → StpT J lcC okC (fun N => fX11_confessing N x1 x2 SX) (fun M => fX12_confessing M x1 x2 SM)
def Lw_see (J : gS → gS → Prop) : Prop := ∀ (SX SM : gS) (x1 x2 x3 : Int32), J SX SM → StpT J lcA okA (fun N => fX11_see N x1 x2 x3 SX) (fun M => fX12_see M x1 x2 x3 SM)
def Lw_greedy (J : gS → gS → Prop) : Prop := ∀ (SX SM : gS) (x1 : Int32), J SX SM → StpT J lcA okA (fun N => fX11_greedy N x1 SX) (fun M => fX12_greedy M x1 SM)
def Lw_look (J : gS → gS → Prop) : Prop := ∀ (SX SM : gS) (x1 : Int32), J SX SM → StpT J lcA okA (fun N => fX11_look N x1 SX) (fun M => fX12_look M x1 SM)
def Lw_forget (J : gS → gS → Prop) : Prop := ∀ (SX SM : gS), J SX SM → StpV J (fun N => fX11_forget N SX) (fun M => fX12_forget M SM)
def Lw_drought (J : gS → gS → Prop) : Prop := ∀ (SX SM : gS) (x1 x2 x3 : Int32), J SX SM → StpU J lcC okC (fun N => fX11_drought N x1 x2 x3 SX) (fun M => fX12_drought M x1 x2 x3 SM)
def Lw_game (J : gS → gS → Prop) : Prop := ∀ (SX SM : gS) (x1 x2 x3 : Int32), J SX SM → StpT J lcC okC (fun N => fX11_game N x1 x2 x3 SX) (fun M => fX12_game M x1 x2 x3 SM)
def Lw_years (J : gS → gS → Prop) : Prop := ∀ (SX SM : gS) (x1 x2 x3 : Int32), J SX SM → StpT J lcC okC (fun N => fX11_years N x1 x2 x3 SX) (fun M => fX12_years M x1 x2 x3 SM)
def Lw_image (J : gS → gS → Prop) : Prop := ∀ (SX SM : gS), J SX SM → StpV J (fun N => fX11_image N SX) (fun M => fX12_image M SM)
def Lw_restore (J : gS → gS → Prop) : Prop := ∀ (SX SM : gS), J SX SM → StpV J (fun N => fX11_restore N SX) (fun M => fX12_restore M SM)
def Laws (J : gS → gS → Prop) : Prop := Lw_feed J ∧ Lw_port J ∧ Lw_fault J ∧ Lw_count J ∧ Lw_grotto J ∧ Lw_guild J ∧ Lw_hours J ∧ Lw_hire J ∧ Lw_dismiss J ∧ Lw_confess J ∧ Lw_drain J ∧ Lw_give J ∧ Lw_undo J ∧ Lw_then J ∧ Lw_dripping J ∧ Lw_first J ∧ Lw_dismissed J ∧ Lw_most J ∧ Lw_hush J ∧ Lw_chorus J ∧ Lw_together J ∧ Lw_rhythm J ∧ Lw_often J ∧ Lw_toHire J ∧ Lw_shared J ∧ Lw_has J ∧ Lw_toGive J ∧ Lw_confessing J ∧ Lw_see J ∧ Lw_greedy J ∧ Lw_look J ∧ Lw_forget J ∧ Lw_drought J ∧ Lw_game J ∧ Lw_years J ∧ Lw_image J ∧ Lw_restore J
theorem lcA0 {t : Nat} (h : lcA t = 0) : t = 0 := by
  unfold lcA at h
  by_cases h0 : t = 0
  · exact h0
  · rewrite [if_neg h0] at h
    exact absurd h (by decide)
theorem lcC0 {t : Nat} (h : lcC t = 0) : t = 0 := by
  unfold lcC at h
  by_cases h0 : t = 0
  · exact h0
  · rewrite [if_neg h0] at h
    by_cases h1 : t = 1
    · rewrite [if_pos h1] at h
      exact absurd h (by decide)
    · rewrite [if_neg h1] at h
      exact absurd h (by decide)
theorem lrow0 {f : Nat → Int64} {o : tR} (h : o.1 = 0) : lrow f o (Int32.toNatClampNeg 0) = o.2.1.toInt64 := by
  unfold lrow
  rw [if_pos h]
  rfl
theorem lrowZ0 {f : Nat → Int64} {o : tR} (h : o.1 = 0) : lrowZ f o (Int32.toNatClampNeg 0) = if o.2.1 = 0 then 0 else 1 := by
  unfold lrowZ
  rw [if_pos h]
  rfl
theorem lg_cmp0 {x y : Int64} (h : x = y) : lg_cmp x y = 0 := by
  subst h
  unfold lg_cmp
  rw [if_neg Int64.lt_irrefl, if_pos rfl]
def LCx (p : Program) (l : Launch) (s : State) (m : MethodId) (args : Array Value) (meth : Method) (c : Code) (D : va_G) (g g2 : Nat → Nat) (cI cB cZ cQ cS cJ : ClassId) (aK aV : Nat → Nat) (aO b L : Nat) (xs : Nat → Int32) (Am Am2 : (Nat → Prop) → State → Heap → Prop) : Prop :=
  gC p s m args meth c cL_law 7 RL ret D (xtys cI cB cZ cQ) xord g Am ∧ gC p s m args meth c cL_law 7 RL ret D (mtys cI cS) mord g2 Am2 ∧ va_K D vwCl [(cJ, .long)] s ∧ va_Nc (tE 2) (tE 1) s ∧ Lsp g g2 aO b s.heap.size ∧ tO l g cI cB cZ cQ Am aK aV ∧ sO (mcell g2 cI cS (msa aK)) mord g2 Am2 aK aV ∧ va_X b L xs s s.heap
def Lin (i : Int32) (L : Nat) : Prop := vp_in i L ∧ vp_in (i + 1) L ∧ vp_in (i + 2) L ∧ vp_in (i + 3) L ∧ vp_in (i + 4) L ∧ vp_in (i + 5) L
noncomputable def Llv (b g0 g9 aO : Nat) (i : Int32) : List (Nat × Value) := [(4, .int i), (3, .ref aO), (2, .ref g9), (1, .ref g0), (0, .ref b)]

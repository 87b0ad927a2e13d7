/-! part 10.class -/
section
/-! THE CLASS: its world, its rows (printed by wip/whole/mkclass.py) -/
noncomputable def xkl : List Nat := [11, 3, 8, 21, 9, 20, 20, 20, 22, 20, 20, 20, 20, 20, 4, 20, 20, 4, 20, 20, 1, 7, 20, 20, 20, 20, 0, 20, 5, 20, 20, 20, 20, 1, 7, 20, 20, 20, 20, 0, 20, 5, 20, 20, 20, 20, 7, 20, 20, 20, 20, 10, 6, 23, 20, 20, 20, 20, 20, 20, 20, 20, 2, 23, 20, 20, 20, 20, 20, 20, 20, 20, 9, 20, 20, 20, 22, 20, 20, 20, 20, 20, 4, 20, 20, 4, 20, 20]
noncomputable def xnl : List Nat := [0, 0, 0, 700, 0, 8, 8, 8, 8, 6, 6, 6, 6, 8, 0, 700, 31, 0, 700, 31, 0, 0, 6, 6, 6, 6, 0, 1040, 0, 8, 8, 8, 3, 0, 0, 6, 6, 6, 6, 0, 1040, 0, 8, 8, 8, 3, 0, 6, 6, 6, 6, 0, 0, 7, 256, 256, 256, 256, 256, 256, 256, 6, 0, 6, 21, 21, 21, 21, 21, 21, 21, 21, 0, 8, 8, 8, 8, 6, 6, 6, 6, 8, 0, 700, 31, 0, 700, 31]
noncomputable def xk (k : Nat) : Nat := xkl.getD k 99
noncomputable def xN (k : Nat) : Nat := xnl.getD k 0
noncomputable def xord : List Nat := List.range 88
noncomputable def xtw (S : gS) : Nat := if S 0 7 = 0 then 72 else 4
noncomputable def xdr (S : gS) : Nat := if S 1 1 = 0 then 4 else 72
noncomputable def xfl (g : Nat → Nat) (c j : Nat) (f : Nat → Int32) : List Value := match c with
  | 0 => [.ref (g (j + 1)), .int (f 1)]
  | 1 => [.ref (g (j + 1)), .ref (g (j + 6)), .ref (g (j + 8)), .ref (g (j + 12))]
  | 2 => [.ref (g (j + 1)), .ref (g (j + 8)), .ref (g (j + 9)), .int (f 3), .int (f 4), .int (f 5)]
  | 3 => [.ref (g (j + 1)), .ref (g (if f 1 = 0 then 4 else 72)), .int (f 2), .int (f 3)]
  | 4 => [.ref (g (j + 1)), .ref (g (j + 2)), .int (f 2), .int (f 3)]
  | 5 => [.ref (g (j + 1)), .ref (g (j + 2)), .ref (g (j + 3)), .int (f 3)]
  | 6 => [.ref (g (j + 1)), .ref (g (j + 9)), .int (f 2), .int (f 3)]
  | 7 => [.int (f 0), .int (f 1), .ref (g (j + 1)), .ref (g (j + 2)), .ref (g (j + 3)), .ref (g (j + 4))]
  | 8 => [.ref (g (j + 1)), .int (f 1), .int (f 2), .int (f 3), .int (f 4), .int (f 5), .int (f 6)]
  | 9 => [.int (f 0), .ref (g (j + 1)), .ref (g (j + 2)), .ref (g (j + 3)), .ref (g (j + 4)), .int (f 5), .ref (g (j + 5)), .ref (g (j + 6)), .ref (g (j + 7)), .ref (g (j + 8)), .int (f 10), .ref (g (j + 9)), .int (f 12), .ref (g (j + 10)), .ref (g (j + 13))]
  | 10 => [.int (f 0), .int (f 1), .int (f 2), .int (f 3), .int (f 4), .int (f 5), .int (f 6), .int (f 7)]
  | 11 => [.ref (g (j + 1)), .ref (g (j + 20)), .ref (g (j + 33)), .ref (g (j + 46)), .ref (g (j + 51)), .ref (g (j + 52)), .ref (g (j + 62)), .ref (g (if f 7 = 0 then 72 else 4)), .int (f 8), .int (f 9)]
  | _ => []
noncomputable def xE (g : Nat → Nat) (cI cB cZ cQ : ClassId) (f : Nat → Int32) (j : Nat) : va_E :=
  if xk j = 20 then .inl (cI, xN j, .inl f) else if xk j = 21 then .inl (cB, xN j, .inl f) else if xk j = 22 then .inl (cZ, xN j, .inl f) else if xk j = 23 then .inl (cQ, xN j, .inr (.inr (.inr (.inr (fun i => if i < xN j then some (g (j + 1 + i)) else none))))) else .inr (xk j, xfl g (xk j) j f)
noncomputable def xcell (g : Nat → Nat) (cI cB cZ cQ : ClassId) (S : gS) (j : Nat) : Nat × va_E := (g j, xE g cI cB cZ cQ (S j) j)
abbrev xtys (cI cB cZ cQ : ClassId) : List (ClassId × FieldType) := [(cI, .int), (cB, .byte), (cZ, .boolean), (cQ, .array .int)]
noncomputable def xNest : List Cond := [Cond.methodLinkNest RX11 11 yX3_init "GrottoHours", Cond.methodLinkNest RX3 11 yX8_init "GrottoHours", Cond.fieldLinkNest RX11 73 "GrottoHours$Tape" "length" "I" "GrottoHours", Cond.fieldLinkNest RX3 43 "GrottoHours$Tape" "kind" "I" "GrottoHours", Cond.fieldLinkNest RX3 53 "GrottoHours$Tape" "start" "I" "GrottoHours", Cond.fieldLinkNest RX3 66 "GrottoHours$Tape" "number" "I" "GrottoHours", Cond.methodLinkNest RX3 20 yX9_init "GrottoHours", Cond.fieldLinkNest RX3 217 "GrottoHours$Rule" "knowsGreed" "Z" "GrottoHours", Cond.fieldLinkNest RX6 32 "GrottoHours$Town" "grottoes" "I" "GrottoHours", Cond.fieldLinkNest RX11 108 "GrottoHours$Town" "grottoes" "I" "GrottoHours", Cond.fieldLinkNest RX3 113 "GrottoHours$Town" "grottoes" "I" "GrottoHours", Cond.fieldLinkNest RX11 165 "GrottoHours$Town" "drip" "[I" "GrottoHours", Cond.fieldLinkNest RX3 116 "GrottoHours$Town" "drip" "[I" "GrottoHours", Cond.fieldLinkNest RX10 114 "GrottoHours$Town" "drip" "[I" "GrottoHours", Cond.fieldLinkNest RX11 168 "GrottoHours$Town" "phase" "[I" "GrottoHours", Cond.fieldLinkNest RX3 124 "GrottoHours$Town" "phase" "[I" "GrottoHours", Cond.fieldLinkNest RX6 52 "GrottoHours$Town" "price" "[I" "GrottoHours", Cond.fieldLinkNest RX11 171 "GrottoHours$Town" "price" "[I" "GrottoHours", Cond.fieldLinkNest RX10 108 "GrottoHours$Town" "price" "[I" "GrottoHours", Cond.fieldLinkNest RX3 127 "GrottoHours$Town" "price" "[I" "GrottoHours", Cond.fieldLinkNest RX10 76 "GrottoHours$Town" "hollow" "[Z" "GrottoHours", Cond.fieldLinkNest RX11 174 "GrottoHours$Town" "hollow" "[Z" "GrottoHours", Cond.fieldLinkNest RX3 130 "GrottoHours$Town" "hollow" "[Z" "GrottoHours", Cond.fieldLinkNest RX6 27 "GrottoHours$Town" "guilds" "I" "GrottoHours", Cond.fieldLinkNest RX7 31 "GrottoHours$Town" "guilds" "I" "GrottoHours", Cond.fieldLinkNest RX2 34 "GrottoHours$Town" "guilds" "I" "GrottoHours", Cond.fieldLinkNest RX11 111 "GrottoHours$Town" "guilds" "I" "GrottoHours", Cond.fieldLinkNest RX3 133 "GrottoHours$Town" "guilds" "I" "GrottoHours", Cond.fieldLinkNest RX10 42 "GrottoHours$Town" "greed" "[I" "GrottoHours", Cond.fieldLinkNest RX2 76 "GrottoHours$Town" "greed" "[I" "GrottoHours", Cond.fieldLinkNest RX11 194 "GrottoHours$Town" "greed" "[I" "GrottoHours", Cond.fieldLinkNest RX3 136 "GrottoHours$Town" "greed" "[I" "GrottoHours", Cond.fieldLinkNest RX7 36 "GrottoHours$Town" "sin" "[I" "GrottoHours", Cond.fieldLinkNest RX3 139 "GrottoHours$Town" "sin" "[I" "GrottoHours", Cond.fieldLinkNest RX7 37 "GrottoHours$Town" "purse" "[I" "GrottoHours", Cond.fieldLinkNest RX3 142 "GrottoHours$Town" "purse" "[I" "GrottoHours", Cond.fieldLinkNest RX7 38 "GrottoHours$Town" "hired" "[I" "GrottoHours", Cond.fieldLinkNest RX3 145 "GrottoHours$Town" "hired" "[I" "GrottoHours", Cond.fieldLinkNest RX3 161 "GrottoHours$Town" "wets" "I" "GrottoHours", Cond.fieldLinkNest RX3 164 "GrottoHours$Town" "wet" "[I" "GrottoHours", Cond.fieldLinkNest RX3 169 "GrottoHours$Town" "bound" "I" "GrottoHours", Cond.fieldLinkNest RX3 102 "GrottoHours$Town" "prays" "LGrottoHours$Rule;" "GrottoHours", Cond.fieldLinkNest RX10 117 "GrottoHours$Town" "prays" "LGrottoHours$Rule;" "GrottoHours", Cond.fieldLinkNest RX11 304 "GrottoHours$Town" "prays" "LGrottoHours$Rule;" "GrottoHours", Cond.fieldLinkNest RX10 94 "GrottoHours$Town" "costs" "LGrottoHours$Rule;" "GrottoHours", Cond.fieldLinkNest RX3 111 "GrottoHours$Town" "costs" "LGrottoHours$Rule;" "GrottoHours", Cond.fieldLinkNest RX11 313 "GrottoHours$Town" "costs" "LGrottoHours$Rule;" "GrottoHours", Cond.fieldLinkNest RX11 69 "GrottoHours$Reader" "tape" "LGrottoHours$Tape;" "GrottoHours", Cond.fieldLinkNest RX11 96 "GrottoHours$Reader" "draft" "LGrottoHours$Town;" "GrottoHours", Cond.fieldLinkNest RX11 102 "GrottoHours$Reader" "faultPlace" "I" "GrottoHours", Cond.methodLinkNest RX11 18 yX1_init "GrottoHours", Cond.methodLinkNest RX1 11 yX7_init "GrottoHours", Cond.fieldLinkNest RX10 55 "GrottoHours$State" "hour" "I" "GrottoHours", Cond.fieldLinkNest RX11 114 "GrottoHours$State" "hour" "I" "GrottoHours", Cond.fieldLinkNest RX10 60 "GrottoHours$State" "drained" "I" "GrottoHours", Cond.fieldLinkNest RX11 128 "GrottoHours$State" "drained" "I" "GrottoHours", Cond.fieldLinkNest RX10 45 "GrottoHours$State" "sin" "[I" "GrottoHours", Cond.fieldLinkNest RX11 197 "GrottoHours$State" "sin" "[I" "GrottoHours", Cond.fieldLinkNest RX10 49 "GrottoHours$State" "purse" "[I" "GrottoHours", Cond.fieldLinkNest RX6 77 "GrottoHours$State" "purse" "[I" "GrottoHours", Cond.fieldLinkNest RX11 200 "GrottoHours$State" "purse" "[I" "GrottoHours", Cond.fieldLinkNest RX10 51 "GrottoHours$State" "silences" "[I" "GrottoHours", Cond.fieldLinkNest RX11 203 "GrottoHours$State" "silences" "[I" "GrottoHours", Cond.fieldLinkNest RX10 53 "GrottoHours$State" "hired" "[I" "GrottoHours", Cond.fieldLinkNest RX11 206 "GrottoHours$State" "hired" "[I" "GrottoHours", Cond.methodLinkNest RX1 20 yX0_init "GrottoHours", Cond.fieldLinkNest RX1 40 "GrottoHours$Acts" "many" "I" "GrottoHours", Cond.fieldLinkNest RX11 141 "GrottoHours$Acts" "many" "I" "GrottoHours", Cond.methodLinkNest RX1 27 yX5_init "GrottoHours", Cond.fieldLinkNest RX1 44 "GrottoHours$Seen" "many" "I" "GrottoHours", Cond.fieldLinkNest RX11 150 "GrottoHours$Seen" "many" "I" "GrottoHours", Cond.fieldLinkNest RX2 39 "GrottoHours$Book" "state" "LGrottoHours$State;" "GrottoHours", Cond.fieldLinkNest RX11 105 "GrottoHours$Book" "state" "LGrottoHours$State;" "GrottoHours", Cond.fieldLinkNest RX11 137 "GrottoHours$Book" "acts" "LGrottoHours$Acts;" "GrottoHours", Cond.fieldLinkNest RX2 55 "GrottoHours$Book" "seen" "LGrottoHours$Seen;" "GrottoHours", Cond.fieldLinkNest RX11 146 "GrottoHours$Book" "seen" "LGrottoHours$Seen;" "GrottoHours", Cond.fieldLinkNest RX11 153 "GrottoHours$Book" "refused" "[I" "GrottoHours", Cond.methodLinkNest RX11 28 yX7_init "GrottoHours", Cond.methodLinkNest RX11 35 yX10_init "GrottoHours", Cond.fieldLinkNest RX2 79 "GrottoHours$Walk" "greed" "I" "GrottoHours", Cond.fieldLinkNest RX2 91 "GrottoHours$Walk" "sin" "I" "GrottoHours", Cond.fieldLinkNest RX11 250 "GrottoHours$Walk" "sin" "I" "GrottoHours", Cond.fieldLinkNest RX11 252 "GrottoHours$Walk" "purse" "I" "GrottoHours", Cond.fieldLinkNest RX11 254 "GrottoHours$Walk" "silences" "I" "GrottoHours", Cond.fieldLinkNest RX11 256 "GrottoHours$Walk" "hired" "I" "GrottoHours", Cond.fieldLinkNest RX2 94 "GrottoHours$Walk" "hour" "I" "GrottoHours", Cond.fieldLinkNest RX11 261 "GrottoHours$Walk" "hour" "I" "GrottoHours", Cond.methodLinkNest RX11 42 yX6_init "GrottoHours", Cond.fieldLinkNest RX11 301 "GrottoHours$Sharing" "row" "[I" "GrottoHours", Cond.fieldLinkNest RX11 297 "GrottoHours$Sharing" "many" "I" "GrottoHours", Cond.fieldLinkNest RX11 298 "GrottoHours$Sharing" "much" "I" "GrottoHours", Cond.methodLinkNest RX11 49 yX2_init "GrottoHours", Cond.fieldLinkNest RX11 331 "GrottoHours$Guess" "many" "I" "GrottoHours", Cond.fieldLinkNest RX11 332 "GrottoHours$Guess" "earliest" "I" "GrottoHours", Cond.fieldLinkNest RX11 335 "GrottoHours$Guess" "isSoWithout" "Z" "GrottoHours", Cond.methodLinkNest RX11 56 yX9_init "GrottoHours", Cond.methodLinkNest RX9 76 yX11_isOneOf "GrottoHours", Cond.methodLinkNest RX3 69 yX11_isWithin "GrottoHours", Cond.methodLinkNest RX7 39 yX11_isOneOf "GrottoHours", Cond.methodLinkNest RX6 73 yX11_isOneOf "GrottoHours"]
def xO (g : Nat → Nat) (cI cB cZ cQ : ClassId) (Am : (Nat → Prop) → State → Heap → Prop) : Prop := gO (xcell g cI cB cZ cQ) xord g ∧ ∀ (A : Nat → Prop) (U : State) (H : Heap), Am A U H → ∀ w ∈ xNest, va_Nw w U
theorem x_lt {k c : Nat} (h : xk k = c) (hc : c ≠ 99) : k < 88 := by
  rcases Nat.lt_or_ge k 88 with q | q
  · exact q
  · exfalso
    apply hc
    rw [← h]
    show (xkl[k]?).getD 99 = 99
    rw [List.getElem?_eq_none (show xkl.length ≤ k from q)]
    rfl
theorem x_pos {k c : Nat} (h : xk k = c) (hc : c ≠ 99) : xord[k]? = some k := by
  unfold xord
  rw [List.getElem?_range (x_lt h hc)]
theorem x_all {P : Nat → Prop} {c k : Nat} (hP : ∀ k : Fin 88, xk k.val = c → P k.val) (hc : c ≠ 99) (h : xk k = c) : P k := hP ⟨k, x_lt h hc⟩ h
theorem xtw_k {S : gS} {T : Nat} (h : T = xtw S) : xk T = 9 := by
  subst h
  unfold xtw
  split <;> decide
theorem xdr_k {S : gS} {T : Nat} (h : T = xdr S) : xk T = 9 := by
  subst h
  unfold xdr
  split <;> decide
theorem x_cI (g : Nat → Nat) (cI cB cZ cQ : ClassId) (S : gS) {k : Nat} (h : xk k = 20) : xcell g cI cB cZ cQ S k = (g k, .inl (cI, xN k, .inl (S k))) := by
  unfold xcell xE
  rw [if_pos h]
theorem x_cB (g : Nat → Nat) (cI cB cZ cQ : ClassId) (S : gS) {k : Nat} (h : xk k = 21) : xcell g cI cB cZ cQ S k = (g k, .inl (cB, xN k, .inl (S k))) := by
  unfold xcell xE
  rw [h]
  rfl
theorem x_cZ (g : Nat → Nat) (cI cB cZ cQ : ClassId) (S : gS) {k : Nat} (h : xk k = 22) : xcell g cI cB cZ cQ S k = (g k, .inl (cZ, xN k, .inl (S k))) := by
  unfold xcell xE
  rw [h]
  rfl
theorem x_cQ (g : Nat → Nat) (cI cB cZ cQ : ClassId) (S : gS) {k : Nat} (h : xk k = 23) : xcell g cI cB cZ cQ S k = (g k, .inl (cQ, xN k, .inr (.inr (.inr (.inr (fun i => if i < xN k then some (g (k + 1 + i)) else none)))))) := by
  unfold xcell xE
  rw [h]
  rfl
theorem x_c0 (g : Nat → Nat) (cI cB cZ cQ : ClassId) (S : gS) {k : Nat} (h : xk k = 0) : xcell g cI cB cZ cQ S k = (g k, .inr (0, xfl g 0 k (S k))) := by
  unfold xcell xE
  rw [h]
  rfl
set_option maxRecDepth 100000 in
theorem x_in0 : ∀ w ∈ u_ws RX0 TX0 2, w ∈ gT := gT_places [363, 365] (by decide +kernel) (by decide +kernel)
theorem x_c1 (g : Nat → Nat) (cI cB cZ cQ : ClassId) (S : gS) {k : Nat} (h : xk k = 1) : xcell g cI cB cZ cQ S k = (g k, .inr (1, xfl g 1 k (S k))) := by
  unfold xcell xE
  rw [h]
  rfl
set_option maxRecDepth 100000 in
theorem x_in1 : ∀ w ∈ u_ws RX1 TX1 4, w ∈ gT := gT_places [399, 401, 403, 405] (by decide +kernel) (by decide +kernel)
theorem x_c2 (g : Nat → Nat) (cI cB cZ cQ : ClassId) (S : gS) {k : Nat} (h : xk k = 2) : xcell g cI cB cZ cQ S k = (g k, .inr (2, xfl g 2 k (S k))) := by
  unfold xcell xE
  rw [h]
  rfl
set_option maxRecDepth 100000 in
theorem x_in2 : ∀ w ∈ u_ws RX2 TX2 6, w ∈ gT := gT_places [489, 491, 493, 495, 497, 499] (by decide +kernel) (by decide +kernel)
theorem x_c3 (g : Nat → Nat) (cI cB cZ cQ : ClassId) (S : gS) {k : Nat} (h : xk k = 3) : xcell g cI cB cZ cQ S k = (g k, .inr (3, xfl g 3 k (S k))) := by
  unfold xcell xE
  rw [h]
  rfl
set_option maxRecDepth 100000 in
theorem x_in3 : ∀ w ∈ u_ws RX3 TX3 4, w ∈ gT := gT_places [300, 302, 304, 306] (by decide +kernel) (by decide +kernel)
theorem x_c4 (g : Nat → Nat) (cI cB cZ cQ : ClassId) (S : gS) {k : Nat} (h : xk k = 4) : xcell g cI cB cZ cQ S k = (g k, .inr (4, xfl g 4 k (S k))) := by
  unfold xcell xE
  rw [h]
  rfl
set_option maxRecDepth 100000 in
theorem x_in4 : ∀ w ∈ u_ws RX4 TX4 4, w ∈ gT := gT_places [197, 199, 201, 203] (by decide +kernel) (by decide +kernel)
theorem x_c5 (g : Nat → Nat) (cI cB cZ cQ : ClassId) (S : gS) {k : Nat} (h : xk k = 5) : xcell g cI cB cZ cQ S k = (g k, .inr (5, xfl g 5 k (S k))) := by
  unfold xcell xE
  rw [h]
  rfl
set_option maxRecDepth 100000 in
theorem x_in5 : ∀ w ∈ u_ws RX5 TX5 4, w ∈ gT := gT_places [380, 382, 384, 386] (by decide +kernel) (by decide +kernel)
theorem x_c6 (g : Nat → Nat) (cI cB cZ cQ : ClassId) (S : gS) {k : Nat} (h : xk k = 6) : xcell g cI cB cZ cQ S k = (g k, .inr (6, xfl g 6 k (S k))) := by
  unfold xcell xE
  rw [h]
  rfl
set_option maxRecDepth 100000 in
theorem x_in6 : ∀ w ∈ u_ws RX6 TX6 4, w ∈ gT := gT_places [464, 466, 468, 470] (by decide +kernel) (by decide +kernel)
theorem x_c7 (g : Nat → Nat) (cI cB cZ cQ : ClassId) (S : gS) {k : Nat} (h : xk k = 7) : xcell g cI cB cZ cQ S k = (g k, .inr (7, xfl g 7 k (S k))) := by
  unfold xcell xE
  rw [h]
  rfl
set_option maxRecDepth 100000 in
theorem x_in7 : ∀ w ∈ u_ws RX7 TX7 6, w ∈ gT := gT_places [340, 342, 344, 346, 348, 350] (by decide +kernel) (by decide +kernel)
theorem x_c8 (g : Nat → Nat) (cI cB cZ cQ : ClassId) (S : gS) {k : Nat} (h : xk k = 8) : xcell g cI cB cZ cQ S k = (g k, .inr (8, xfl g 8 k (S k))) := by
  unfold xcell xE
  rw [h]
  rfl
set_option maxRecDepth 100000 in
theorem x_in8 : ∀ w ∈ u_ws RX8 TX8 7, w ∈ gT := gT_places [164, 166, 168, 170, 172, 174, 176] (by decide +kernel) (by decide +kernel)
theorem x_c9 (g : Nat → Nat) (cI cB cZ cQ : ClassId) (S : gS) {k : Nat} (h : xk k = 9) : xcell g cI cB cZ cQ S k = (g k, .inr (9, xfl g 9 k (S k))) := by
  unfold xcell xE
  rw [h]
  rfl
set_option maxRecDepth 100000 in
theorem x_in9 : ∀ w ∈ u_ws RX9 TX9 15, w ∈ gT := gT_places [262, 264, 266, 268, 270, 272, 274, 276, 278, 280, 282, 284, 286, 288, 290] (by decide +kernel) (by decide +kernel)
theorem x_c10 (g : Nat → Nat) (cI cB cZ cQ : ClassId) (S : gS) {k : Nat} (h : xk k = 10) : xcell g cI cB cZ cQ S k = (g k, .inr (10, xfl g 10 k (S k))) := by
  unfold xcell xE
  rw [h]
  rfl
set_option maxRecDepth 100000 in
theorem x_in10 : ∀ w ∈ u_ws RX10 TX10 8, w ∈ gT := gT_places [432, 434, 436, 438, 440, 442, 444, 446] (by decide +kernel) (by decide +kernel)
theorem x_c11 (g : Nat → Nat) (cI cB cZ cQ : ClassId) (S : gS) {k : Nat} (h : xk k = 11) : xcell g cI cB cZ cQ S k = (g k, .inr (11, xfl g 11 k (S k))) := by
  unfold xcell xE
  rw [h]
  rfl
set_option maxRecDepth 100000 in
theorem x_in11 : ∀ w ∈ u_ws RX11 TX11 10, w ∈ gT := gT_places [514, 516, 518, 520, 522, 524, 526, 528, 530, 532] (by decide +kernel) (by decide +kernel)
theorem xs_0_0 {k : Nat} (h : xk k = 0) : xk (k + 1) = 20 ∧ xN (k + 1) = 1040 := x_all (P := fun k => xk (k + 1) = 20 ∧ xN (k + 1) = 1040) (by decide) (by decide) h
theorem xs_1_0 {k : Nat} (h : xk k = 1) : xk (k + 1) = 7 := x_all (P := fun k => xk (k + 1) = 7) (by decide) (by decide) h
theorem xs_1_1 {k : Nat} (h : xk k = 1) : xk (k + 6) = 0 := x_all (P := fun k => xk (k + 6) = 0) (by decide) (by decide) h
theorem xs_1_2 {k : Nat} (h : xk k = 1) : xk (k + 8) = 5 := x_all (P := fun k => xk (k + 8) = 5) (by decide) (by decide) h
theorem xs_1_3 {k : Nat} (h : xk k = 1) : xk (k + 12) = 20 ∧ xN (k + 12) = 3 := x_all (P := fun k => xk (k + 12) = 20 ∧ xN (k + 12) = 3) (by decide) (by decide) h
theorem xs_2_0 {k : Nat} (h : xk k = 2) : xk (k + 1) = 23 ∧ xN (k + 1) = 6 := x_all (P := fun k => xk (k + 1) = 23 ∧ xN (k + 1) = 6) (by decide) (by decide) h
theorem xs_2_1 {k : Nat} (h : xk k = 2) : xk (k + 8) = 20 ∧ xN (k + 8) = 21 := x_all (P := fun k => xk (k + 8) = 20 ∧ xN (k + 8) = 21) (by decide) (by decide) h
theorem xs_2_2 {k : Nat} (h : xk k = 2) : xk (k + 9) = 20 ∧ xN (k + 9) = 21 := x_all (P := fun k => xk (k + 9) = 20 ∧ xN (k + 9) = 21) (by decide) (by decide) h
theorem xs_3_0 {k : Nat} (h : xk k = 3) : xk (k + 1) = 8 := x_all (P := fun k => xk (k + 1) = 8) (by decide) (by decide) h
theorem xs_4_0 {k : Nat} (h : xk k = 4) : xk (k + 1) = 20 ∧ xN (k + 1) = 700 := x_all (P := fun k => xk (k + 1) = 20 ∧ xN (k + 1) = 700) (by decide) (by decide) h
theorem xs_4_1 {k : Nat} (h : xk k = 4) : xk (k + 2) = 20 ∧ xN (k + 2) = 31 := x_all (P := fun k => xk (k + 2) = 20 ∧ xN (k + 2) = 31) (by decide) (by decide) h
theorem xs_5_0 {k : Nat} (h : xk k = 5) : xk (k + 1) = 20 ∧ xN (k + 1) = 8 := x_all (P := fun k => xk (k + 1) = 20 ∧ xN (k + 1) = 8) (by decide) (by decide) h
theorem xs_5_1 {k : Nat} (h : xk k = 5) : xk (k + 2) = 20 ∧ xN (k + 2) = 8 := x_all (P := fun k => xk (k + 2) = 20 ∧ xN (k + 2) = 8) (by decide) (by decide) h
theorem xs_5_2 {k : Nat} (h : xk k = 5) : xk (k + 3) = 20 ∧ xN (k + 3) = 8 := x_all (P := fun k => xk (k + 3) = 20 ∧ xN (k + 3) = 8) (by decide) (by decide) h
theorem xs_6_0 {k : Nat} (h : xk k = 6) : xk (k + 1) = 23 ∧ xN (k + 1) = 7 := x_all (P := fun k => xk (k + 1) = 23 ∧ xN (k + 1) = 7) (by decide) (by decide) h
theorem xs_6_1 {k : Nat} (h : xk k = 6) : xk (k + 9) = 20 ∧ xN (k + 9) = 6 := x_all (P := fun k => xk (k + 9) = 20 ∧ xN (k + 9) = 6) (by decide) (by decide) h
theorem xs_7_2 {k : Nat} (h : xk k = 7) : xk (k + 1) = 20 ∧ xN (k + 1) = 6 := x_all (P := fun k => xk (k + 1) = 20 ∧ xN (k + 1) = 6) (by decide) (by decide) h
theorem xs_7_3 {k : Nat} (h : xk k = 7) : xk (k + 2) = 20 ∧ xN (k + 2) = 6 := x_all (P := fun k => xk (k + 2) = 20 ∧ xN (k + 2) = 6) (by decide) (by decide) h
theorem xs_7_4 {k : Nat} (h : xk k = 7) : xk (k + 3) = 20 ∧ xN (k + 3) = 6 := x_all (P := fun k => xk (k + 3) = 20 ∧ xN (k + 3) = 6) (by decide) (by decide) h
theorem xs_7_5 {k : Nat} (h : xk k = 7) : xk (k + 4) = 20 ∧ xN (k + 4) = 6 := x_all (P := fun k => xk (k + 4) = 20 ∧ xN (k + 4) = 6) (by decide) (by decide) h
theorem xs_8_0 {k : Nat} (h : xk k = 8) : xk (k + 1) = 21 ∧ xN (k + 1) = 700 := x_all (P := fun k => xk (k + 1) = 21 ∧ xN (k + 1) = 700) (by decide) (by decide) h
theorem xs_9_1 {k : Nat} (h : xk k = 9) : xk (k + 1) = 20 ∧ xN (k + 1) = 8 := x_all (P := fun k => xk (k + 1) = 20 ∧ xN (k + 1) = 8) (by decide) (by decide) h
theorem xs_9_2 {k : Nat} (h : xk k = 9) : xk (k + 2) = 20 ∧ xN (k + 2) = 8 := x_all (P := fun k => xk (k + 2) = 20 ∧ xN (k + 2) = 8) (by decide) (by decide) h
theorem xs_9_3 {k : Nat} (h : xk k = 9) : xk (k + 3) = 20 ∧ xN (k + 3) = 8 := x_all (P := fun k => xk (k + 3) = 20 ∧ xN (k + 3) = 8) (by decide) (by decide) h
theorem xs_9_4 {k : Nat} (h : xk k = 9) : xk (k + 4) = 22 ∧ xN (k + 4) = 8 := x_all (P := fun k => xk (k + 4) = 22 ∧ xN (k + 4) = 8) (by decide) (by decide) h
theorem xs_9_6 {k : Nat} (h : xk k = 9) : xk (k + 5) = 20 ∧ xN (k + 5) = 6 := x_all (P := fun k => xk (k + 5) = 20 ∧ xN (k + 5) = 6) (by decide) (by decide) h
theorem xs_9_7 {k : Nat} (h : xk k = 9) : xk (k + 6) = 20 ∧ xN (k + 6) = 6 := x_all (P := fun k => xk (k + 6) = 20 ∧ xN (k + 6) = 6) (by decide) (by decide) h
theorem xs_9_8 {k : Nat} (h : xk k = 9) : xk (k + 7) = 20 ∧ xN (k + 7) = 6 := x_all (P := fun k => xk (k + 7) = 20 ∧ xN (k + 7) = 6) (by decide) (by decide) h
theorem xs_9_9 {k : Nat} (h : xk k = 9) : xk (k + 8) = 20 ∧ xN (k + 8) = 6 := x_all (P := fun k => xk (k + 8) = 20 ∧ xN (k + 8) = 6) (by decide) (by decide) h
theorem xs_9_11 {k : Nat} (h : xk k = 9) : xk (k + 9) = 20 ∧ xN (k + 9) = 8 := x_all (P := fun k => xk (k + 9) = 20 ∧ xN (k + 9) = 8) (by decide) (by decide) h
theorem xs_9_13 {k : Nat} (h : xk k = 9) : xk (k + 10) = 4 := x_all (P := fun k => xk (k + 10) = 4) (by decide) (by decide) h
theorem xs_9_14 {k : Nat} (h : xk k = 9) : xk (k + 13) = 4 := x_all (P := fun k => xk (k + 13) = 4) (by decide) (by decide) h
theorem xs_11_0 {k : Nat} (h : xk k = 11) : xk (k + 1) = 3 := x_all (P := fun k => xk (k + 1) = 3) (by decide) (by decide) h
theorem xs_11_1 {k : Nat} (h : xk k = 11) : xk (k + 20) = 1 := x_all (P := fun k => xk (k + 20) = 1) (by decide) (by decide) h
theorem xs_11_2 {k : Nat} (h : xk k = 11) : xk (k + 33) = 1 := x_all (P := fun k => xk (k + 33) = 1) (by decide) (by decide) h
theorem xs_11_3 {k : Nat} (h : xk k = 11) : xk (k + 46) = 7 := x_all (P := fun k => xk (k + 46) = 7) (by decide) (by decide) h
theorem xs_11_4 {k : Nat} (h : xk k = 11) : xk (k + 51) = 10 := x_all (P := fun k => xk (k + 51) = 10) (by decide) (by decide) h
theorem xs_11_5 {k : Nat} (h : xk k = 11) : xk (k + 52) = 6 := x_all (P := fun k => xk (k + 52) = 6) (by decide) (by decide) h
theorem xs_11_6 {k : Nat} (h : xk k = 11) : xk (k + 62) = 2 := x_all (P := fun k => xk (k + 62) = 2) (by decide) (by decide) h
theorem xs_rows {k i : Nat} (h : xk k = 23) (hi : i < xN k) : xk (k + 1 + i) = 20 := by
  have := x_all (P := fun k => ∀ i : Fin 7, i.val < xN k → xk (k + 1 + i.val) = 20) (by decide) (by decide) h
  have h7 : xN k ≤ 7 := x_all (P := fun k => xN k ≤ 7) (by decide) (by decide) h
  exact this ⟨i, by omega⟩ hi
theorem xq_53 {i : Int32} {T : Nat} (h : vp_in i 7) (e : T = 53 + 1 + Int32.toNatClampNeg i) : xk T = 20 ∧ xN T = 256 := by
  have hlt : i.toNatClampNeg < 7 := Nat.not_le.mp fun z => h (Or.inr z)
  subst e
  exact (show ∀ j : Fin 7, xk (53 + 1 + j.val) = 20 ∧ xN (53 + 1 + j.val) = 256 by decide) ⟨_, hlt⟩
theorem xq_63 {i : Int32} {T : Nat} (h : vp_in i 6) (e : T = 63 + 1 + Int32.toNatClampNeg i) : xk T = 20 ∧ xN T = 21 := by
  have hlt : i.toNatClampNeg < 6 := Nat.not_le.mp fun z => h (Or.inr z)
  subst e
  exact (show ∀ j : Fin 6, xk (63 + 1 + j.val) = 20 ∧ xN (63 + 1 + j.val) = 21 by decide) ⟨_, hlt⟩
section XROWS
variable {p : Program} {l : Launch} {e : Env} {R : Room} {s : State} {m : MethodId} {args : Array Value} {below : List Frame} {meth : Method} {c : Code} {H : Heap} {locs : List Loc} {cs sl : Nat} {Q : State → Prop} {Am : (Nat → Prop) → State → Heap → Prop} {cc : ByteArray} {nL pc : Nat} {ret : Option FieldType} {own : String} {D : va_G} {g : Nat → Nat} {cI cB cZ cQ : ClassId} {S S' : gS} {ls : Array Slot} {rest : List Value} {k : Nat}
theorem xl_X8_9 : Cond.fieldLink RX8 9 "GrottoHours$Tape" "bytes" "[B" ∈ gT := gT_c1 47 rfl rfl
theorem xg_X8_9 (C : gC p s m args meth c cc nL RX8 ret D (xtys cI cB cZ cQ) xord g Am) (O : xO g cI cB cZ cQ Am) (X : gX D (xcell g cI cB cZ cQ) xord g S s H locs) (hk : xk k = 8) {j : Nat} (hj : k + 1 = j) (hdg : decode cc pc = .ok (.getfield 9, 3)) (kk : W p l e R s m args below meth c H locs cs sl Q (F0 m (pc + 3) ls (.ref (g j) :: rest))) : W p l e R s m args below meth c H locs cs sl Q (F0 m pc ls (.ref (g k) :: rest)) := by
  subst hj
  exact g_get C X (q := k) (k := k) (x_pos hk (by decide)) (x_c8 g cI cB cZ cQ S hk) (ci := 8) rfl x_in8 0 (by decide) xl_X8_9 rfl hdg kk
theorem xl_X8_15 : Cond.fieldLink RX8 15 "GrottoHours$Tape" "length" "I" ∈ gT := gT_c1 48 rfl rfl
theorem xg_X8_15 (C : gC p s m args meth c cc nL RX8 ret D (xtys cI cB cZ cQ) xord g Am) (O : xO g cI cB cZ cQ Am) (X : gX D (xcell g cI cB cZ cQ) xord g S s H locs) (hk : xk k = 8) (hdg : decode cc pc = .ok (.getfield 15, 3)) (kk : W p l e R s m args below meth c H locs cs sl Q (F0 m (pc + 3) ls (.int (S k 1) :: rest))) : W p l e R s m args below meth c H locs cs sl Q (F0 m pc ls (.ref (g k) :: rest)) :=
  g_get C X (q := k) (k := k) (x_pos hk (by decide)) (x_c8 g cI cB cZ cQ S hk) (ci := 8) rfl x_in8 1 (by decide) xl_X8_15 rfl hdg kk
theorem xp_X8_15 (C : gC p s m args meth c cc nL RX8 ret D (xtys cI cB cZ cQ) xord g Am) (O : xO g cI cB cZ cQ Am) (X : gX D (xcell g cI cB cZ cQ) xord g S s H locs) (hk : xk k = 8) {x : Int32} (hS : S' = sU S k 1 x) (hdg : decode cc pc = .ok (.putfield 15, 3)) (kk : ∀ (H1 : Heap) (locs1 : List Loc), gX D (xcell g cI cB cZ cQ) xord g S' s H1 locs1 → W p l e R s m args below meth c H1 locs1 cs sl Q (F0 m (pc + 3) ls rest)) : W p l e R s m args below meth c H locs cs sl Q (F0 m pc ls (.int x :: .ref (g k) :: rest)) := by
  subst hS
  exact g_put C O.1 X (q := k) (k := k) (x_pos hk (by decide)) (x_c8 g cI cB cZ cQ S hk) (ci := 8) rfl x_in8 tyX8 tyX8_ok nmX8 1 (by decide) xl_X8_15 rfl rfl rfl (Nat.le_of_ble_eq_true rfl) (fun i h => sU_ne h) (by rw [x_c8 g cI cB cZ cQ _ hk, sU_eq]; rfl) hdg kk
theorem xl_X11_73 : Cond.fieldLinkNest RX11 73 "GrottoHours$Tape" "length" "I" "GrottoHours" ∈ xNest := List.mem_of_getElem? (i := 2) rfl
theorem xg_X11_73 (C : gC p s m args meth c cc nL RX11 ret D (xtys cI cB cZ cQ) xord g Am) (O : xO g cI cB cZ cQ Am) (X : gX D (xcell g cI cB cZ cQ) xord g S s H locs) (hk : xk k = 8) (hdg : decode cc pc = .ok (.getfield 73, 3)) (kk : W p l e R s m args below meth c H locs cs sl Q (F0 m (pc + 3) ls (.int (S k 1) :: rest))) : W p l e R s m args below meth c H locs cs sl Q (F0 m pc ls (.ref (g k) :: rest)) :=
  g_getN C X (q := k) (k := k) (x_pos hk (by decide)) (x_c8 g cI cB cZ cQ S hk) (ci := 8) rfl x_in8 1 (by decide) (O.2 _ _ _ C.2.2.2.2.2 _ xl_X11_73) rfl hdg kk
theorem xp_X11_73 (C : gC p s m args meth c cc nL RX11 ret D (xtys cI cB cZ cQ) xord g Am) (O : xO g cI cB cZ cQ Am) (X : gX D (xcell g cI cB cZ cQ) xord g S s H locs) (hk : xk k = 8) {x : Int32} (hS : S' = sU S k 1 x) (hdg : decode cc pc = .ok (.putfield 73, 3)) (kk : ∀ (H1 : Heap) (locs1 : List Loc), gX D (xcell g cI cB cZ cQ) xord g S' s H1 locs1 → W p l e R s m args below meth c H1 locs1 cs sl Q (F0 m (pc + 3) ls rest)) : W p l e R s m args below meth c H locs cs sl Q (F0 m pc ls (.int x :: .ref (g k) :: rest)) := by
  subst hS
  exact g_putN C O.1 X (q := k) (k := k) (x_pos hk (by decide)) (x_c8 g cI cB cZ cQ S hk) (ci := 8) rfl x_in8 tyX8 tyX8_ok nmX8 1 (by decide) (O.2 _ _ _ C.2.2.2.2.2 _ xl_X11_73) rfl rfl rfl (Nat.le_of_ble_eq_true rfl) (fun i h => sU_ne h) (by rw [x_c8 g cI cB cZ cQ _ hk, sU_eq]; rfl) hdg kk
theorem xl_X8_19 : Cond.fieldLink RX8 19 "GrottoHours$Tape" "end" "I" ∈ gT := gT_c1 50 rfl rfl
theorem xg_X8_19 (C : gC p s m args meth c cc nL RX8 ret D (xtys cI cB cZ cQ) xord g Am) (O : xO g cI cB cZ cQ Am) (X : gX D (xcell g cI cB cZ cQ) xord g S s H locs) (hk : xk k = 8) (hdg : decode cc pc = .ok (.getfield 19, 3)) (kk : W p l e R s m args below meth c H locs cs sl Q (F0 m (pc + 3) ls (.int (S k 2) :: rest))) : W p l e R s m args below meth c H locs cs sl Q (F0 m pc ls (.ref (g k) :: rest)) :=
  g_get C X (q := k) (k := k) (x_pos hk (by decide)) (x_c8 g cI cB cZ cQ S hk) (ci := 8) rfl x_in8 2 (by decide) xl_X8_19 rfl hdg kk
theorem xp_X8_19 (C : gC p s m args meth c cc nL RX8 ret D (xtys cI cB cZ cQ) xord g Am) (O : xO g cI cB cZ cQ Am) (X : gX D (xcell g cI cB cZ cQ) xord g S s H locs) (hk : xk k = 8) {x : Int32} (hS : S' = sU S k 2 x) (hdg : decode cc pc = .ok (.putfield 19, 3)) (kk : ∀ (H1 : Heap) (locs1 : List Loc), gX D (xcell g cI cB cZ cQ) xord g S' s H1 locs1 → W p l e R s m args below meth c H1 locs1 cs sl Q (F0 m (pc + 3) ls rest)) : W p l e R s m args below meth c H locs cs sl Q (F0 m pc ls (.int x :: .ref (g k) :: rest)) := by
  subst hS
  exact g_put C O.1 X (q := k) (k := k) (x_pos hk (by decide)) (x_c8 g cI cB cZ cQ S hk) (ci := 8) rfl x_in8 tyX8 tyX8_ok nmX8 2 (by decide) xl_X8_19 rfl rfl rfl (Nat.le_of_ble_eq_true rfl) (fun i h => sU_ne h) (by rw [x_c8 g cI cB cZ cQ _ hk, sU_eq]; rfl) hdg kk
theorem xl_X8_22 : Cond.fieldLink RX8 22 "GrottoHours$Tape" "place" "I" ∈ gT := gT_c1 51 rfl rfl
theorem xg_X8_22 (C : gC p s m args meth c cc nL RX8 ret D (xtys cI cB cZ cQ) xord g Am) (O : xO g cI cB cZ cQ Am) (X : gX D (xcell g cI cB cZ cQ) xord g S s H locs) (hk : xk k = 8) (hdg : decode cc pc = .ok (.getfield 22, 3)) (kk : W p l e R s m args below meth c H locs cs sl Q (F0 m (pc + 3) ls (.int (S k 3) :: rest))) : W p l e R s m args below meth c H locs cs sl Q (F0 m pc ls (.ref (g k) :: rest)) :=
  g_get C X (q := k) (k := k) (x_pos hk (by decide)) (x_c8 g cI cB cZ cQ S hk) (ci := 8) rfl x_in8 3 (by decide) xl_X8_22 rfl hdg kk
theorem xp_X8_22 (C : gC p s m args meth c cc nL RX8 ret D (xtys cI cB cZ cQ) xord g Am) (O : xO g cI cB cZ cQ Am) (X : gX D (xcell g cI cB cZ cQ) xord g S s H locs) (hk : xk k = 8) {x : Int32} (hS : S' = sU S k 3 x) (hdg : decode cc pc = .ok (.putfield 22, 3)) (kk : ∀ (H1 : Heap) (locs1 : List Loc), gX D (xcell g cI cB cZ cQ) xord g S' s H1 locs1 → W p l e R s m args below meth c H1 locs1 cs sl Q (F0 m (pc + 3) ls rest)) : W p l e R s m args below meth c H locs cs sl Q (F0 m pc ls (.int x :: .ref (g k) :: rest)) := by
  subst hS
  exact g_put C O.1 X (q := k) (k := k) (x_pos hk (by decide)) (x_c8 g cI cB cZ cQ S hk) (ci := 8) rfl x_in8 tyX8 tyX8_ok nmX8 3 (by decide) xl_X8_22 rfl rfl rfl (Nat.le_of_ble_eq_true rfl) (fun i h => sU_ne h) (by rw [x_c8 g cI cB cZ cQ _ hk, sU_eq]; rfl) hdg kk
theorem xl_X8_25 : Cond.fieldLink RX8 25 "GrottoHours$Tape" "kind" "I" ∈ gT := gT_c1 52 rfl rfl
theorem xg_X8_25 (C : gC p s m args meth c cc nL RX8 ret D (xtys cI cB cZ cQ) xord g Am) (O : xO g cI cB cZ cQ Am) (X : gX D (xcell g cI cB cZ cQ) xord g S s H locs) (hk : xk k = 8) (hdg : decode cc pc = .ok (.getfield 25, 3)) (kk : W p l e R s m args below meth c H locs cs sl Q (F0 m (pc + 3) ls (.int (S k 4) :: rest))) : W p l e R s m args below meth c H locs cs sl Q (F0 m pc ls (.ref (g k) :: rest)) :=
  g_get C X (q := k) (k := k) (x_pos hk (by decide)) (x_c8 g cI cB cZ cQ S hk) (ci := 8) rfl x_in8 4 (by decide) xl_X8_25 rfl hdg kk
theorem xp_X8_25 (C : gC p s m args meth c cc nL RX8 ret D (xtys cI cB cZ cQ) xord g Am) (O : xO g cI cB cZ cQ Am) (X : gX D (xcell g cI cB cZ cQ) xord g S s H locs) (hk : xk k = 8) {x : Int32} (hS : S' = sU S k 4 x) (hdg : decode cc pc = .ok (.putfield 25, 3)) (kk : ∀ (H1 : Heap) (locs1 : List Loc), gX D (xcell g cI cB cZ cQ) xord g S' s H1 locs1 → W p l e R s m args below meth c H1 locs1 cs sl Q (F0 m (pc + 3) ls rest)) : W p l e R s m args below meth c H locs cs sl Q (F0 m pc ls (.int x :: .ref (g k) :: rest)) := by
  subst hS
  exact g_put C O.1 X (q := k) (k := k) (x_pos hk (by decide)) (x_c8 g cI cB cZ cQ S hk) (ci := 8) rfl x_in8 tyX8 tyX8_ok nmX8 4 (by decide) xl_X8_25 rfl rfl rfl (Nat.le_of_ble_eq_true rfl) (fun i h => sU_ne h) (by rw [x_c8 g cI cB cZ cQ _ hk, sU_eq]; rfl) hdg kk
theorem xl_X3_43 : Cond.fieldLinkNest RX3 43 "GrottoHours$Tape" "kind" "I" "GrottoHours" ∈ xNest := List.mem_of_getElem? (i := 3) rfl
theorem xg_X3_43 (C : gC p s m args meth c cc nL RX3 ret D (xtys cI cB cZ cQ) xord g Am) (O : xO g cI cB cZ cQ Am) (X : gX D (xcell g cI cB cZ cQ) xord g S s H locs) (hk : xk k = 8) (hdg : decode cc pc = .ok (.getfield 43, 3)) (kk : W p l e R s m args below meth c H locs cs sl Q (F0 m (pc + 3) ls (.int (S k 4) :: rest))) : W p l e R s m args below meth c H locs cs sl Q (F0 m pc ls (.ref (g k) :: rest)) :=
  g_getN C X (q := k) (k := k) (x_pos hk (by decide)) (x_c8 g cI cB cZ cQ S hk) (ci := 8) rfl x_in8 4 (by decide) (O.2 _ _ _ C.2.2.2.2.2 _ xl_X3_43) rfl hdg kk
theorem xp_X3_43 (C : gC p s m args meth c cc nL RX3 ret D (xtys cI cB cZ cQ) xord g Am) (O : xO g cI cB cZ cQ Am) (X : gX D (xcell g cI cB cZ cQ) xord g S s H locs) (hk : xk k = 8) {x : Int32} (hS : S' = sU S k 4 x) (hdg : decode cc pc = .ok (.putfield 43, 3)) (kk : ∀ (H1 : Heap) (locs1 : List Loc), gX D (xcell g cI cB cZ cQ) xord g S' s H1 locs1 → W p l e R s m args below meth c H1 locs1 cs sl Q (F0 m (pc + 3) ls rest)) : W p l e R s m args below meth c H locs cs sl Q (F0 m pc ls (.int x :: .ref (g k) :: rest)) := by
  subst hS
  exact g_putN C O.1 X (q := k) (k := k) (x_pos hk (by decide)) (x_c8 g cI cB cZ cQ S hk) (ci := 8) rfl x_in8 tyX8 tyX8_ok nmX8 4 (by decide) (O.2 _ _ _ C.2.2.2.2.2 _ xl_X3_43) rfl rfl rfl (Nat.le_of_ble_eq_true rfl) (fun i h => sU_ne h) (by rw [x_c8 g cI cB cZ cQ _ hk, sU_eq]; rfl) hdg kk
theorem xl_X8_28 : Cond.fieldLink RX8 28 "GrottoHours$Tape" "start" "I" ∈ gT := gT_c1 54 rfl rfl
theorem xg_X8_28 (C : gC p s m args meth c cc nL RX8 ret D (xtys cI cB cZ cQ) xord g Am) (O : xO g cI cB cZ cQ Am) (X : gX D (xcell g cI cB cZ cQ) xord g S s H locs) (hk : xk k = 8) (hdg : decode cc pc = .ok (.getfield 28, 3)) (kk : W p l e R s m args below meth c H locs cs sl Q (F0 m (pc + 3) ls (.int (S k 5) :: rest))) : W p l e R s m args below meth c H locs cs sl Q (F0 m pc ls (.ref (g k) :: rest)) :=
  g_get C X (q := k) (k := k) (x_pos hk (by decide)) (x_c8 g cI cB cZ cQ S hk) (ci := 8) rfl x_in8 5 (by decide) xl_X8_28 rfl hdg kk
theorem xp_X8_28 (C : gC p s m args meth c cc nL RX8 ret D (xtys cI cB cZ cQ) xord g Am) (O : xO g cI cB cZ cQ Am) (X : gX D (xcell g cI cB cZ cQ) xord g S s H locs) (hk : xk k = 8) {x : Int32} (hS : S' = sU S k 5 x) (hdg : decode cc pc = .ok (.putfield 28, 3)) (kk : ∀ (H1 : Heap) (locs1 : List Loc), gX D (xcell g cI cB cZ cQ) xord g S' s H1 locs1 → W p l e R s m args below meth c H1 locs1 cs sl Q (F0 m (pc + 3) ls rest)) : W p l e R s m args below meth c H locs cs sl Q (F0 m pc ls (.int x :: .ref (g k) :: rest)) := by
  subst hS
  exact g_put C O.1 X (q := k) (k := k) (x_pos hk (by decide)) (x_c8 g cI cB cZ cQ S hk) (ci := 8) rfl x_in8 tyX8 tyX8_ok nmX8 5 (by decide) xl_X8_28 rfl rfl rfl (Nat.le_of_ble_eq_true rfl) (fun i h => sU_ne h) (by rw [x_c8 g cI cB cZ cQ _ hk, sU_eq]; rfl) hdg kk
theorem xl_X3_53 : Cond.fieldLinkNest RX3 53 "GrottoHours$Tape" "start" "I" "GrottoHours" ∈ xNest := List.mem_of_getElem? (i := 4) rfl
theorem xg_X3_53 (C : gC p s m args meth c cc nL RX3 ret D (xtys cI cB cZ cQ) xord g Am) (O : xO g cI cB cZ cQ Am) (X : gX D (xcell g cI cB cZ cQ) xord g S s H locs) (hk : xk k = 8) (hdg : decode cc pc = .ok (.getfield 53, 3)) (kk : W p l e R s m args below meth c H locs cs sl Q (F0 m (pc + 3) ls (.int (S k 5) :: rest))) : W p l e R s m args below meth c H locs cs sl Q (F0 m pc ls (.ref (g k) :: rest)) :=
  g_getN C X (q := k) (k := k) (x_pos hk (by decide)) (x_c8 g cI cB cZ cQ S hk) (ci := 8) rfl x_in8 5 (by decide) (O.2 _ _ _ C.2.2.2.2.2 _ xl_X3_53) rfl hdg kk
theorem xp_X3_53 (C : gC p s m args meth c cc nL RX3 ret D (xtys cI cB cZ cQ) xord g Am) (O : xO g cI cB cZ cQ Am) (X : gX D (xcell g cI cB cZ cQ) xord g S s H locs) (hk : xk k = 8) {x : Int32} (hS : S' = sU S k 5 x) (hdg : decode cc pc = .ok (.putfield 53, 3)) (kk : ∀ (H1 : Heap) (locs1 : List Loc), gX D (xcell g cI cB cZ cQ) xord g S' s H1 locs1 → W p l e R s m args below meth c H1 locs1 cs sl Q (F0 m (pc + 3) ls rest)) : W p l e R s m args below meth c H locs cs sl Q (F0 m pc ls (.int x :: .ref (g k) :: rest)) := by
  subst hS
  exact g_putN C O.1 X (q := k) (k := k) (x_pos hk (by decide)) (x_c8 g cI cB cZ cQ S hk) (ci := 8) rfl x_in8 tyX8 tyX8_ok nmX8 5 (by decide) (O.2 _ _ _ C.2.2.2.2.2 _ xl_X3_53) rfl rfl rfl (Nat.le_of_ble_eq_true rfl) (fun i h => sU_ne h) (by rw [x_c8 g cI cB cZ cQ _ hk, sU_eq]; rfl) hdg kk
theorem xl_X8_31 : Cond.fieldLink RX8 31 "GrottoHours$Tape" "number" "I" ∈ gT := gT_c1 56 rfl rfl
theorem xg_X8_31 (C : gC p s m args meth c cc nL RX8 ret D (xtys cI cB cZ cQ) xord g Am) (O : xO g cI cB cZ cQ Am) (X : gX D (xcell g cI cB cZ cQ) xord g S s H locs) (hk : xk k = 8) (hdg : decode cc pc = .ok (.getfield 31, 3)) (kk : W p l e R s m args below meth c H locs cs sl Q (F0 m (pc + 3) ls (.int (S k 6) :: rest))) : W p l e R s m args below meth c H locs cs sl Q (F0 m pc ls (.ref (g k) :: rest)) :=
  g_get C X (q := k) (k := k) (x_pos hk (by decide)) (x_c8 g cI cB cZ cQ S hk) (ci := 8) rfl x_in8 6 (by decide) xl_X8_31 rfl hdg kk
theorem xp_X8_31 (C : gC p s m args meth c cc nL RX8 ret D (xtys cI cB cZ cQ) xord g Am) (O : xO g cI cB cZ cQ Am) (X : gX D (xcell g cI cB cZ cQ) xord g S s H locs) (hk : xk k = 8) {x : Int32} (hS : S' = sU S k 6 x) (hdg : decode cc pc = .ok (.putfield 31, 3)) (kk : ∀ (H1 : Heap) (locs1 : List Loc), gX D (xcell g cI cB cZ cQ) xord g S' s H1 locs1 → W p l e R s m args below meth c H1 locs1 cs sl Q (F0 m (pc + 3) ls rest)) : W p l e R s m args below meth c H locs cs sl Q (F0 m pc ls (.int x :: .ref (g k) :: rest)) := by
  subst hS
  exact g_put C O.1 X (q := k) (k := k) (x_pos hk (by decide)) (x_c8 g cI cB cZ cQ S hk) (ci := 8) rfl x_in8 tyX8 tyX8_ok nmX8 6 (by decide) xl_X8_31 rfl rfl rfl (Nat.le_of_ble_eq_true rfl) (fun i h => sU_ne h) (by rw [x_c8 g cI cB cZ cQ _ hk, sU_eq]; rfl) hdg kk
theorem xl_X3_66 : Cond.fieldLinkNest RX3 66 "GrottoHours$Tape" "number" "I" "GrottoHours" ∈ xNest := List.mem_of_getElem? (i := 5) rfl
theorem xg_X3_66 (C : gC p s m args meth c cc nL RX3 ret D (xtys cI cB cZ cQ) xord g Am) (O : xO g cI cB cZ cQ Am) (X : gX D (xcell g cI cB cZ cQ) xord g S s H locs) (hk : xk k = 8) (hdg : decode cc pc = .ok (.getfield 66, 3)) (kk : W p l e R s m args below meth c H locs cs sl Q (F0 m (pc + 3) ls (.int (S k 6) :: rest))) : W p l e R s m args below meth c H locs cs sl Q (F0 m pc ls (.ref (g k) :: rest)) :=
  g_getN C X (q := k) (k := k) (x_pos hk (by decide)) (x_c8 g cI cB cZ cQ S hk) (ci := 8) rfl x_in8 6 (by decide) (O.2 _ _ _ C.2.2.2.2.2 _ xl_X3_66) rfl hdg kk
theorem xp_X3_66 (C : gC p s m args meth c cc nL RX3 ret D (xtys cI cB cZ cQ) xord g Am) (O : xO g cI cB cZ cQ Am) (X : gX D (xcell g cI cB cZ cQ) xord g S s H locs) (hk : xk k = 8) {x : Int32} (hS : S' = sU S k 6 x) (hdg : decode cc pc = .ok (.putfield 66, 3)) (kk : ∀ (H1 : Heap) (locs1 : List Loc), gX D (xcell g cI cB cZ cQ) xord g S' s H1 locs1 → W p l e R s m args below meth c H1 locs1 cs sl Q (F0 m (pc + 3) ls rest)) : W p l e R s m args below meth c H locs cs sl Q (F0 m pc ls (.int x :: .ref (g k) :: rest)) := by
  subst hS
  exact g_putN C O.1 X (q := k) (k := k) (x_pos hk (by decide)) (x_c8 g cI cB cZ cQ S hk) (ci := 8) rfl x_in8 tyX8 tyX8_ok nmX8 6 (by decide) (O.2 _ _ _ C.2.2.2.2.2 _ xl_X3_66) rfl rfl rfl (Nat.le_of_ble_eq_true rfl) (fun i h => sU_ne h) (by rw [x_c8 g cI cB cZ cQ _ hk, sU_eq]; rfl) hdg kk
theorem xl_X4_9 : Cond.fieldLink RX4 9 "GrottoHours$Rule" "codes" "[I" ∈ gT := gT_c1 86 rfl rfl
theorem xg_X4_9 (C : gC p s m args meth c cc nL RX4 ret D (xtys cI cB cZ cQ) xord g Am) (O : xO g cI cB cZ cQ Am) (X : gX D (xcell g cI cB cZ cQ) xord g S s H locs) (hk : xk k = 4) {j : Nat} (hj : k + 1 = j) (hdg : decode cc pc = .ok (.getfield 9, 3)) (kk : W p l e R s m args below meth c H locs cs sl Q (F0 m (pc + 3) ls (.ref (g j) :: rest))) : W p l e R s m args below meth c H locs cs sl Q (F0 m pc ls (.ref (g k) :: rest)) := by
  subst hj
  exact g_get C X (q := k) (k := k) (x_pos hk (by decide)) (x_c4 g cI cB cZ cQ S hk) (ci := 4) rfl x_in4 0 (by decide) xl_X4_9 rfl hdg kk
theorem xl_X4_15 : Cond.fieldLink RX4 15 "GrottoHours$Rule" "held" "[I" ∈ gT := gT_c1 87 rfl rfl
theorem xg_X4_15 (C : gC p s m args meth c cc nL RX4 ret D (xtys cI cB cZ cQ) xord g Am) (O : xO g cI cB cZ cQ Am) (X : gX D (xcell g cI cB cZ cQ) xord g S s H locs) (hk : xk k = 4) {j : Nat} (hj : k + 2 = j) (hdg : decode cc pc = .ok (.getfield 15, 3)) (kk : W p l e R s m args below meth c H locs cs sl Q (F0 m (pc + 3) ls (.ref (g j) :: rest))) : W p l e R s m args below meth c H locs cs sl Q (F0 m pc ls (.ref (g k) :: rest)) := by
  subst hj
  exact g_get C X (q := k) (k := k) (x_pos hk (by decide)) (x_c4 g cI cB cZ cQ S hk) (ci := 4) rfl x_in4 1 (by decide) xl_X4_15 rfl hdg kk
theorem xl_X4_22 : Cond.fieldLink RX4 22 "GrottoHours$Rule" "knowsGreed" "Z" ∈ gT := gT_c1 88 rfl rfl
theorem xg_X4_22 (C : gC p s m args meth c cc nL RX4 ret D (xtys cI cB cZ cQ) xord g Am) (O : xO g cI cB cZ cQ Am) (X : gX D (xcell g cI cB cZ cQ) xord g S s H locs) (hk : xk k = 4) (hdg : decode cc pc = .ok (.getfield 22, 3)) (kk : W p l e R s m args below meth c H locs cs sl Q (F0 m (pc + 3) ls (.int (S k 2) :: rest))) : W p l e R s m args below meth c H locs cs sl Q (F0 m pc ls (.ref (g k) :: rest)) :=
  g_get C X (q := k) (k := k) (x_pos hk (by decide)) (x_c4 g cI cB cZ cQ S hk) (ci := 4) rfl x_in4 2 (by decide) xl_X4_22 rfl hdg kk
theorem xl_X3_217 : Cond.fieldLinkNest RX3 217 "GrottoHours$Rule" "knowsGreed" "Z" "GrottoHours" ∈ xNest := List.mem_of_getElem? (i := 7) rfl
theorem xg_X3_217 (C : gC p s m args meth c cc nL RX3 ret D (xtys cI cB cZ cQ) xord g Am) (O : xO g cI cB cZ cQ Am) (X : gX D (xcell g cI cB cZ cQ) xord g S s H locs) (hk : xk k = 4) (hdg : decode cc pc = .ok (.getfield 217, 3)) (kk : W p l e R s m args below meth c H locs cs sl Q (F0 m (pc + 3) ls (.int (S k 2) :: rest))) : W p l e R s m args below meth c H locs cs sl Q (F0 m pc ls (.ref (g k) :: rest)) :=
  g_getN C X (q := k) (k := k) (x_pos hk (by decide)) (x_c4 g cI cB cZ cQ S hk) (ci := 4) rfl x_in4 2 (by decide) (O.2 _ _ _ C.2.2.2.2.2 _ xl_X3_217) rfl hdg kk
theorem xl_X4_18 : Cond.fieldLink RX4 18 "GrottoHours$Rule" "length" "I" ∈ gT := gT_c1 90 rfl rfl
theorem xg_X4_18 (C : gC p s m args meth c cc nL RX4 ret D (xtys cI cB cZ cQ) xord g Am) (O : xO g cI cB cZ cQ Am) (X : gX D (xcell g cI cB cZ cQ) xord g S s H locs) (hk : xk k = 4) (hdg : decode cc pc = .ok (.getfield 18, 3)) (kk : W p l e R s m args below meth c H locs cs sl Q (F0 m (pc + 3) ls (.int (S k 3) :: rest))) : W p l e R s m args below meth c H locs cs sl Q (F0 m pc ls (.ref (g k) :: rest)) :=
  g_get C X (q := k) (k := k) (x_pos hk (by decide)) (x_c4 g cI cB cZ cQ S hk) (ci := 4) rfl x_in4 3 (by decide) xl_X4_18 rfl hdg kk
theorem xp_X4_18 (C : gC p s m args meth c cc nL RX4 ret D (xtys cI cB cZ cQ) xord g Am) (O : xO g cI cB cZ cQ Am) (X : gX D (xcell g cI cB cZ cQ) xord g S s H locs) (hk : xk k = 4) {x : Int32} (hS : S' = sU S k 3 x) (hdg : decode cc pc = .ok (.putfield 18, 3)) (kk : ∀ (H1 : Heap) (locs1 : List Loc), gX D (xcell g cI cB cZ cQ) xord g S' s H1 locs1 → W p l e R s m args below meth c H1 locs1 cs sl Q (F0 m (pc + 3) ls rest)) : W p l e R s m args below meth c H locs cs sl Q (F0 m pc ls (.int x :: .ref (g k) :: rest)) := by
  subst hS
  exact g_put C O.1 X (q := k) (k := k) (x_pos hk (by decide)) (x_c4 g cI cB cZ cQ S hk) (ci := 4) rfl x_in4 tyX4 tyX4_ok nmX4 3 (by decide) xl_X4_18 rfl rfl rfl (Nat.le_of_ble_eq_true rfl) (fun i h => sU_ne h) (by rw [x_c4 g cI cB cZ cQ _ hk, sU_eq]; rfl) hdg kk
theorem xl_X9_9 : Cond.fieldLink RX9 9 "GrottoHours$Town" "grottoes" "I" ∈ gT := gT_c1 102 rfl rfl
theorem xg_X9_9 (C : gC p s m args meth c cc nL RX9 ret D (xtys cI cB cZ cQ) xord g Am) (O : xO g cI cB cZ cQ Am) (X : gX D (xcell g cI cB cZ cQ) xord g S s H locs) (hk : xk k = 9) (hdg : decode cc pc = .ok (.getfield 9, 3)) (kk : W p l e R s m args below meth c H locs cs sl Q (F0 m (pc + 3) ls (.int (S k 0) :: rest))) : W p l e R s m args below meth c H locs cs sl Q (F0 m pc ls (.ref (g k) :: rest)) :=
  g_get C X (q := k) (k := k) (x_pos hk (by decide)) (x_c9 g cI cB cZ cQ S hk) (ci := 9) rfl x_in9 0 (by decide) xl_X9_9 rfl hdg kk
theorem xp_X9_9 (C : gC p s m args meth c cc nL RX9 ret D (xtys cI cB cZ cQ) xord g Am) (O : xO g cI cB cZ cQ Am) (X : gX D (xcell g cI cB cZ cQ) xord g S s H locs) (hk : xk k = 9) {x : Int32} (hS : S' = sU S k 0 x) (hdg : decode cc pc = .ok (.putfield 9, 3)) (kk : ∀ (H1 : Heap) (locs1 : List Loc), gX D (xcell g cI cB cZ cQ) xord g S' s H1 locs1 → W p l e R s m args below meth c H1 locs1 cs sl Q (F0 m (pc + 3) ls rest)) : W p l e R s m args below meth c H locs cs sl Q (F0 m pc ls (.int x :: .ref (g k) :: rest)) := by
  subst hS
  exact g_put C O.1 X (q := k) (k := k) (x_pos hk (by decide)) (x_c9 g cI cB cZ cQ S hk) (ci := 9) rfl x_in9 tyX9 tyX9_ok nmX9 0 (by decide) xl_X9_9 rfl rfl rfl (Nat.le_of_ble_eq_true rfl) (fun i h => sU_ne h) (by rw [x_c9 g cI cB cZ cQ _ hk, sU_eq]; rfl) hdg kk
theorem xl_X6_32 : Cond.fieldLinkNest RX6 32 "GrottoHours$Town" "grottoes" "I" "GrottoHours" ∈ xNest := List.mem_of_getElem? (i := 8) rfl
theorem xg_X6_32 (C : gC p s m args meth c cc nL RX6 ret D (xtys cI cB cZ cQ) xord g Am) (O : xO g cI cB cZ cQ Am) (X : gX D (xcell g cI cB cZ cQ) xord g S s H locs) (hk : xk k = 9) (hdg : decode cc pc = .ok (.getfield 32, 3)) (kk : W p l e R s m args below meth c H locs cs sl Q (F0 m (pc + 3) ls (.int (S k 0) :: rest))) : W p l e R s m args below meth c H locs cs sl Q (F0 m pc ls (.ref (g k) :: rest)) :=
  g_getN C X (q := k) (k := k) (x_pos hk (by decide)) (x_c9 g cI cB cZ cQ S hk) (ci := 9) rfl x_in9 0 (by decide) (O.2 _ _ _ C.2.2.2.2.2 _ xl_X6_32) rfl hdg kk
theorem xp_X6_32 (C : gC p s m args meth c cc nL RX6 ret D (xtys cI cB cZ cQ) xord g Am) (O : xO g cI cB cZ cQ Am) (X : gX D (xcell g cI cB cZ cQ) xord g S s H locs) (hk : xk k = 9) {x : Int32} (hS : S' = sU S k 0 x) (hdg : decode cc pc = .ok (.putfield 32, 3)) (kk : ∀ (H1 : Heap) (locs1 : List Loc), gX D (xcell g cI cB cZ cQ) xord g S' s H1 locs1 → W p l e R s m args below meth c H1 locs1 cs sl Q (F0 m (pc + 3) ls rest)) : W p l e R s m args below meth c H locs cs sl Q (F0 m pc ls (.int x :: .ref (g k) :: rest)) := by
  subst hS
  exact g_putN C O.1 X (q := k) (k := k) (x_pos hk (by decide)) (x_c9 g cI cB cZ cQ S hk) (ci := 9) rfl x_in9 tyX9 tyX9_ok nmX9 0 (by decide) (O.2 _ _ _ C.2.2.2.2.2 _ xl_X6_32) rfl rfl rfl (Nat.le_of_ble_eq_true rfl) (fun i h => sU_ne h) (by rw [x_c9 g cI cB cZ cQ _ hk, sU_eq]; rfl) hdg kk
theorem xl_X11_108 : Cond.fieldLinkNest RX11 108 "GrottoHours$Town" "grottoes" "I" "GrottoHours" ∈ xNest := List.mem_of_getElem? (i := 9) rfl
theorem xg_X11_108 (C : gC p s m args meth c cc nL RX11 ret D (xtys cI cB cZ cQ) xord g Am) (O : xO g cI cB cZ cQ Am) (X : gX D (xcell g cI cB cZ cQ) xord g S s H locs) (hk : xk k = 9) (hdg : decode cc pc = .ok (.getfield 108, 3)) (kk : W p l e R s m args below meth c H locs cs sl Q (F0 m (pc + 3) ls (.int (S k 0) :: rest))) : W p l e R s m args below meth c H locs cs sl Q (F0 m pc ls (.ref (g k) :: rest)) :=
  g_getN C X (q := k) (k := k) (x_pos hk (by decide)) (x_c9 g cI cB cZ cQ S hk) (ci := 9) rfl x_in9 0 (by decide) (O.2 _ _ _ C.2.2.2.2.2 _ xl_X11_108) rfl hdg kk
theorem xp_X11_108 (C : gC p s m args meth c cc nL RX11 ret D (xtys cI cB cZ cQ) xord g Am) (O : xO g cI cB cZ cQ Am) (X : gX D (xcell g cI cB cZ cQ) xord g S s H locs) (hk : xk k = 9) {x : Int32} (hS : S' = sU S k 0 x) (hdg : decode cc pc = .ok (.putfield 108, 3)) (kk : ∀ (H1 : Heap) (locs1 : List Loc), gX D (xcell g cI cB cZ cQ) xord g S' s H1 locs1 → W p l e R s m args below meth c H1 locs1 cs sl Q (F0 m (pc + 3) ls rest)) : W p l e R s m args below meth c H locs cs sl Q (F0 m pc ls (.int x :: .ref (g k) :: rest)) := by
  subst hS
  exact g_putN C O.1 X (q := k) (k := k) (x_pos hk (by decide)) (x_c9 g cI cB cZ cQ S hk) (ci := 9) rfl x_in9 tyX9 tyX9_ok nmX9 0 (by decide) (O.2 _ _ _ C.2.2.2.2.2 _ xl_X11_108) rfl rfl rfl (Nat.le_of_ble_eq_true rfl) (fun i h => sU_ne h) (by rw [x_c9 g cI cB cZ cQ _ hk, sU_eq]; rfl) hdg kk
theorem xl_X3_113 : Cond.fieldLinkNest RX3 113 "GrottoHours$Town" "grottoes" "I" "GrottoHours" ∈ xNest := List.mem_of_getElem? (i := 10) rfl
theorem xg_X3_113 (C : gC p s m args meth c cc nL RX3 ret D (xtys cI cB cZ cQ) xord g Am) (O : xO g cI cB cZ cQ Am) (X : gX D (xcell g cI cB cZ cQ) xord g S s H locs) (hk : xk k = 9) (hdg : decode cc pc = .ok (.getfield 113, 3)) (kk : W p l e R s m args below meth c H locs cs sl Q (F0 m (pc + 3) ls (.int (S k 0) :: rest))) : W p l e R s m args below meth c H locs cs sl Q (F0 m pc ls (.ref (g k) :: rest)) :=
  g_getN C X (q := k) (k := k) (x_pos hk (by decide)) (x_c9 g cI cB cZ cQ S hk) (ci := 9) rfl x_in9 0 (by decide) (O.2 _ _ _ C.2.2.2.2.2 _ xl_X3_113) rfl hdg kk
theorem xp_X3_113 (C : gC p s m args meth c cc nL RX3 ret D (xtys cI cB cZ cQ) xord g Am) (O : xO g cI cB cZ cQ Am) (X : gX D (xcell g cI cB cZ cQ) xord g S s H locs) (hk : xk k = 9) {x : Int32} (hS : S' = sU S k 0 x) (hdg : decode cc pc = .ok (.putfield 113, 3)) (kk : ∀ (H1 : Heap) (locs1 : List Loc), gX D (xcell g cI cB cZ cQ) xord g S' s H1 locs1 → W p l e R s m args below meth c H1 locs1 cs sl Q (F0 m (pc + 3) ls rest)) : W p l e R s m args below meth c H locs cs sl Q (F0 m pc ls (.int x :: .ref (g k) :: rest)) := by
  subst hS
  exact g_putN C O.1 X (q := k) (k := k) (x_pos hk (by decide)) (x_c9 g cI cB cZ cQ S hk) (ci := 9) rfl x_in9 tyX9 tyX9_ok nmX9 0 (by decide) (O.2 _ _ _ C.2.2.2.2.2 _ xl_X3_113) rfl rfl rfl (Nat.le_of_ble_eq_true rfl) (fun i h => sU_ne h) (by rw [x_c9 g cI cB cZ cQ _ hk, sU_eq]; rfl) hdg kk
theorem xl_X9_15 : Cond.fieldLink RX9 15 "GrottoHours$Town" "drip" "[I" ∈ gT := gT_c1 106 rfl rfl
theorem xg_X9_15 (C : gC p s m args meth c cc nL RX9 ret D (xtys cI cB cZ cQ) xord g Am) (O : xO g cI cB cZ cQ Am) (X : gX D (xcell g cI cB cZ cQ) xord g S s H locs) (hk : xk k = 9) {j : Nat} (hj : k + 1 = j) (hdg : decode cc pc = .ok (.getfield 15, 3)) (kk : W p l e R s m args below meth c H locs cs sl Q (F0 m (pc + 3) ls (.ref (g j) :: rest))) : W p l e R s m args below meth c H locs cs sl Q (F0 m pc ls (.ref (g k) :: rest)) := by
  subst hj
  exact g_get C X (q := k) (k := k) (x_pos hk (by decide)) (x_c9 g cI cB cZ cQ S hk) (ci := 9) rfl x_in9 1 (by decide) xl_X9_15 rfl hdg kk
theorem xl_X11_165 : Cond.fieldLinkNest RX11 165 "GrottoHours$Town" "drip" "[I" "GrottoHours" ∈ xNest := List.mem_of_getElem? (i := 11) rfl
theorem xg_X11_165 (C : gC p s m args meth c cc nL RX11 ret D (xtys cI cB cZ cQ) xord g Am) (O : xO g cI cB cZ cQ Am) (X : gX D (xcell g cI cB cZ cQ) xord g S s H locs) (hk : xk k = 9) {j : Nat} (hj : k + 1 = j) (hdg : decode cc pc = .ok (.getfield 165, 3)) (kk : W p l e R s m args below meth c H locs cs sl Q (F0 m (pc + 3) ls (.ref (g j) :: rest))) : W p l e R s m args below meth c H locs cs sl Q (F0 m pc ls (.ref (g k) :: rest)) := by
  subst hj
  exact g_getN C X (q := k) (k := k) (x_pos hk (by decide)) (x_c9 g cI cB cZ cQ S hk) (ci := 9) rfl x_in9 1 (by decide) (O.2 _ _ _ C.2.2.2.2.2 _ xl_X11_165) rfl hdg kk
theorem xl_X3_116 : Cond.fieldLinkNest RX3 116 "GrottoHours$Town" "drip" "[I" "GrottoHours" ∈ xNest := List.mem_of_getElem? (i := 12) rfl
theorem xg_X3_116 (C : gC p s m args meth c cc nL RX3 ret D (xtys cI cB cZ cQ) xord g Am) (O : xO g cI cB cZ cQ Am) (X : gX D (xcell g cI cB cZ cQ) xord g S s H locs) (hk : xk k = 9) {j : Nat} (hj : k + 1 = j) (hdg : decode cc pc = .ok (.getfield 116, 3)) (kk : W p l e R s m args below meth c H locs cs sl Q (F0 m (pc + 3) ls (.ref (g j) :: rest))) : W p l e R s m args below meth c H locs cs sl Q (F0 m pc ls (.ref (g k) :: rest)) := by
  subst hj
  exact g_getN C X (q := k) (k := k) (x_pos hk (by decide)) (x_c9 g cI cB cZ cQ S hk) (ci := 9) rfl x_in9 1 (by decide) (O.2 _ _ _ C.2.2.2.2.2 _ xl_X3_116) rfl hdg kk
theorem xl_X10_114 : Cond.fieldLinkNest RX10 114 "GrottoHours$Town" "drip" "[I" "GrottoHours" ∈ xNest := List.mem_of_getElem? (i := 13) rfl
theorem xg_X10_114 (C : gC p s m args meth c cc nL RX10 ret D (xtys cI cB cZ cQ) xord g Am) (O : xO g cI cB cZ cQ Am) (X : gX D (xcell g cI cB cZ cQ) xord g S s H locs) (hk : xk k = 9) {j : Nat} (hj : k + 1 = j) (hdg : decode cc pc = .ok (.getfield 114, 3)) (kk : W p l e R s m args below meth c H locs cs sl Q (F0 m (pc + 3) ls (.ref (g j) :: rest))) : W p l e R s m args below meth c H locs cs sl Q (F0 m pc ls (.ref (g k) :: rest)) := by
  subst hj
  exact g_getN C X (q := k) (k := k) (x_pos hk (by decide)) (x_c9 g cI cB cZ cQ S hk) (ci := 9) rfl x_in9 1 (by decide) (O.2 _ _ _ C.2.2.2.2.2 _ xl_X10_114) rfl hdg kk
theorem xl_X9_19 : Cond.fieldLink RX9 19 "GrottoHours$Town" "phase" "[I" ∈ gT := gT_c1 110 rfl rfl
theorem xg_X9_19 (C : gC p s m args meth c cc nL RX9 ret D (xtys cI cB cZ cQ) xord g Am) (O : xO g cI cB cZ cQ Am) (X : gX D (xcell g cI cB cZ cQ) xord g S s H locs) (hk : xk k = 9) {j : Nat} (hj : k + 2 = j) (hdg : decode cc pc = .ok (.getfield 19, 3)) (kk : W p l e R s m args below meth c H locs cs sl Q (F0 m (pc + 3) ls (.ref (g j) :: rest))) : W p l e R s m args below meth c H locs cs sl Q (F0 m pc ls (.ref (g k) :: rest)) := by
  subst hj
  exact g_get C X (q := k) (k := k) (x_pos hk (by decide)) (x_c9 g cI cB cZ cQ S hk) (ci := 9) rfl x_in9 2 (by decide) xl_X9_19 rfl hdg kk
theorem xl_X11_168 : Cond.fieldLinkNest RX11 168 "GrottoHours$Town" "phase" "[I" "GrottoHours" ∈ xNest := List.mem_of_getElem? (i := 14) rfl
theorem xg_X11_168 (C : gC p s m args meth c cc nL RX11 ret D (xtys cI cB cZ cQ) xord g Am) (O : xO g cI cB cZ cQ Am) (X : gX D (xcell g cI cB cZ cQ) xord g S s H locs) (hk : xk k = 9) {j : Nat} (hj : k + 2 = j) (hdg : decode cc pc = .ok (.getfield 168, 3)) (kk : W p l e R s m args below meth c H locs cs sl Q (F0 m (pc + 3) ls (.ref (g j) :: rest))) : W p l e R s m args below meth c H locs cs sl Q (F0 m pc ls (.ref (g k) :: rest)) := by
  subst hj
  exact g_getN C X (q := k) (k := k) (x_pos hk (by decide)) (x_c9 g cI cB cZ cQ S hk) (ci := 9) rfl x_in9 2 (by decide) (O.2 _ _ _ C.2.2.2.2.2 _ xl_X11_168) rfl hdg kk
theorem xl_X3_124 : Cond.fieldLinkNest RX3 124 "GrottoHours$Town" "phase" "[I" "GrottoHours" ∈ xNest := List.mem_of_getElem? (i := 15) rfl
theorem xg_X3_124 (C : gC p s m args meth c cc nL RX3 ret D (xtys cI cB cZ cQ) xord g Am) (O : xO g cI cB cZ cQ Am) (X : gX D (xcell g cI cB cZ cQ) xord g S s H locs) (hk : xk k = 9) {j : Nat} (hj : k + 2 = j) (hdg : decode cc pc = .ok (.getfield 124, 3)) (kk : W p l e R s m args below meth c H locs cs sl Q (F0 m (pc + 3) ls (.ref (g j) :: rest))) : W p l e R s m args below meth c H locs cs sl Q (F0 m pc ls (.ref (g k) :: rest)) := by
  subst hj
  exact g_getN C X (q := k) (k := k) (x_pos hk (by decide)) (x_c9 g cI cB cZ cQ S hk) (ci := 9) rfl x_in9 2 (by decide) (O.2 _ _ _ C.2.2.2.2.2 _ xl_X3_124) rfl hdg kk
theorem xl_X9_22 : Cond.fieldLink RX9 22 "GrottoHours$Town" "price" "[I" ∈ gT := gT_c1 113 rfl rfl
theorem xg_X9_22 (C : gC p s m args meth c cc nL RX9 ret D (xtys cI cB cZ cQ) xord g Am) (O : xO g cI cB cZ cQ Am) (X : gX D (xcell g cI cB cZ cQ) xord g S s H locs) (hk : xk k = 9) {j : Nat} (hj : k + 3 = j) (hdg : decode cc pc = .ok (.getfield 22, 3)) (kk : W p l e R s m args below meth c H locs cs sl Q (F0 m (pc + 3) ls (.ref (g j) :: rest))) : W p l e R s m args below meth c H locs cs sl Q (F0 m pc ls (.ref (g k) :: rest)) := by
  subst hj
  exact g_get C X (q := k) (k := k) (x_pos hk (by decide)) (x_c9 g cI cB cZ cQ S hk) (ci := 9) rfl x_in9 3 (by decide) xl_X9_22 rfl hdg kk
theorem xl_X6_52 : Cond.fieldLinkNest RX6 52 "GrottoHours$Town" "price" "[I" "GrottoHours" ∈ xNest := List.mem_of_getElem? (i := 16) rfl
theorem xg_X6_52 (C : gC p s m args meth c cc nL RX6 ret D (xtys cI cB cZ cQ) xord g Am) (O : xO g cI cB cZ cQ Am) (X : gX D (xcell g cI cB cZ cQ) xord g S s H locs) (hk : xk k = 9) {j : Nat} (hj : k + 3 = j) (hdg : decode cc pc = .ok (.getfield 52, 3)) (kk : W p l e R s m args below meth c H locs cs sl Q (F0 m (pc + 3) ls (.ref (g j) :: rest))) : W p l e R s m args below meth c H locs cs sl Q (F0 m pc ls (.ref (g k) :: rest)) := by
  subst hj
  exact g_getN C X (q := k) (k := k) (x_pos hk (by decide)) (x_c9 g cI cB cZ cQ S hk) (ci := 9) rfl x_in9 3 (by decide) (O.2 _ _ _ C.2.2.2.2.2 _ xl_X6_52) rfl hdg kk
theorem xl_X11_171 : Cond.fieldLinkNest RX11 171 "GrottoHours$Town" "price" "[I" "GrottoHours" ∈ xNest := List.mem_of_getElem? (i := 17) rfl
theorem xg_X11_171 (C : gC p s m args meth c cc nL RX11 ret D (xtys cI cB cZ cQ) xord g Am) (O : xO g cI cB cZ cQ Am) (X : gX D (xcell g cI cB cZ cQ) xord g S s H locs) (hk : xk k = 9) {j : Nat} (hj : k + 3 = j) (hdg : decode cc pc = .ok (.getfield 171, 3)) (kk : W p l e R s m args below meth c H locs cs sl Q (F0 m (pc + 3) ls (.ref (g j) :: rest))) : W p l e R s m args below meth c H locs cs sl Q (F0 m pc ls (.ref (g k) :: rest)) := by
  subst hj
  exact g_getN C X (q := k) (k := k) (x_pos hk (by decide)) (x_c9 g cI cB cZ cQ S hk) (ci := 9) rfl x_in9 3 (by decide) (O.2 _ _ _ C.2.2.2.2.2 _ xl_X11_171) rfl hdg kk
theorem xl_X10_108 : Cond.fieldLinkNest RX10 108 "GrottoHours$Town" "price" "[I" "GrottoHours" ∈ xNest := List.mem_of_getElem? (i := 18) rfl
theorem xg_X10_108 (C : gC p s m args meth c cc nL RX10 ret D (xtys cI cB cZ cQ) xord g Am) (O : xO g cI cB cZ cQ Am) (X : gX D (xcell g cI cB cZ cQ) xord g S s H locs) (hk : xk k = 9) {j : Nat} (hj : k + 3 = j) (hdg : decode cc pc = .ok (.getfield 108, 3)) (kk : W p l e R s m args below meth c H locs cs sl Q (F0 m (pc + 3) ls (.ref (g j) :: rest))) : W p l e R s m args below meth c H locs cs sl Q (F0 m pc ls (.ref (g k) :: rest)) := by
  subst hj
  exact g_getN C X (q := k) (k := k) (x_pos hk (by decide)) (x_c9 g cI cB cZ cQ S hk) (ci := 9) rfl x_in9 3 (by decide) (O.2 _ _ _ C.2.2.2.2.2 _ xl_X10_108) rfl hdg kk
theorem xl_X3_127 : Cond.fieldLinkNest RX3 127 "GrottoHours$Town" "price" "[I" "GrottoHours" ∈ xNest := List.mem_of_getElem? (i := 19) rfl
theorem xg_X3_127 (C : gC p s m args meth c cc nL RX3 ret D (xtys cI cB cZ cQ) xord g Am) (O : xO g cI cB cZ cQ Am) (X : gX D (xcell g cI cB cZ cQ) xord g S s H locs) (hk : xk k = 9) {j : Nat} (hj : k + 3 = j) (hdg : decode cc pc = .ok (.getfield 127, 3)) (kk : W p l e R s m args below meth c H locs cs sl Q (F0 m (pc + 3) ls (.ref (g j) :: rest))) : W p l e R s m args below meth c H locs cs sl Q (F0 m pc ls (.ref (g k) :: rest)) := by
  subst hj
  exact g_getN C X (q := k) (k := k) (x_pos hk (by decide)) (x_c9 g cI cB cZ cQ S hk) (ci := 9) rfl x_in9 3 (by decide) (O.2 _ _ _ C.2.2.2.2.2 _ xl_X3_127) rfl hdg kk
theorem xl_X9_25 : Cond.fieldLink RX9 25 "GrottoHours$Town" "hollow" "[Z" ∈ gT := gT_c1 118 rfl rfl
theorem xg_X9_25 (C : gC p s m args meth c cc nL RX9 ret D (xtys cI cB cZ cQ) xord g Am) (O : xO g cI cB cZ cQ Am) (X : gX D (xcell g cI cB cZ cQ) xord g S s H locs) (hk : xk k = 9) {j : Nat} (hj : k + 4 = j) (hdg : decode cc pc = .ok (.getfield 25, 3)) (kk : W p l e R s m args below meth c H locs cs sl Q (F0 m (pc + 3) ls (.ref (g j) :: rest))) : W p l e R s m args below meth c H locs cs sl Q (F0 m pc ls (.ref (g k) :: rest)) := by
  subst hj
  exact g_get C X (q := k) (k := k) (x_pos hk (by decide)) (x_c9 g cI cB cZ cQ S hk) (ci := 9) rfl x_in9 4 (by decide) xl_X9_25 rfl hdg kk
theorem xl_X10_76 : Cond.fieldLinkNest RX10 76 "GrottoHours$Town" "hollow" "[Z" "GrottoHours" ∈ xNest := List.mem_of_getElem? (i := 20) rfl
theorem xg_X10_76 (C : gC p s m args meth c cc nL RX10 ret D (xtys cI cB cZ cQ) xord g Am) (O : xO g cI cB cZ cQ Am) (X : gX D (xcell g cI cB cZ cQ) xord g S s H locs) (hk : xk k = 9) {j : Nat} (hj : k + 4 = j) (hdg : decode cc pc = .ok (.getfield 76, 3)) (kk : W p l e R s m args below meth c H locs cs sl Q (F0 m (pc + 3) ls (.ref (g j) :: rest))) : W p l e R s m args below meth c H locs cs sl Q (F0 m pc ls (.ref (g k) :: rest)) := by
  subst hj
  exact g_getN C X (q := k) (k := k) (x_pos hk (by decide)) (x_c9 g cI cB cZ cQ S hk) (ci := 9) rfl x_in9 4 (by decide) (O.2 _ _ _ C.2.2.2.2.2 _ xl_X10_76) rfl hdg kk
theorem xl_X11_174 : Cond.fieldLinkNest RX11 174 "GrottoHours$Town" "hollow" "[Z" "GrottoHours" ∈ xNest := List.mem_of_getElem? (i := 21) rfl
theorem xg_X11_174 (C : gC p s m args meth c cc nL RX11 ret D (xtys cI cB cZ cQ) xord g Am) (O : xO g cI cB cZ cQ Am) (X : gX D (xcell g cI cB cZ cQ) xord g S s H locs) (hk : xk k = 9) {j : Nat} (hj : k + 4 = j) (hdg : decode cc pc = .ok (.getfield 174, 3)) (kk : W p l e R s m args below meth c H locs cs sl Q (F0 m (pc + 3) ls (.ref (g j) :: rest))) : W p l e R s m args below meth c H locs cs sl Q (F0 m pc ls (.ref (g k) :: rest)) := by
  subst hj
  exact g_getN C X (q := k) (k := k) (x_pos hk (by decide)) (x_c9 g cI cB cZ cQ S hk) (ci := 9) rfl x_in9 4 (by decide) (O.2 _ _ _ C.2.2.2.2.2 _ xl_X11_174) rfl hdg kk
theorem xl_X3_130 : Cond.fieldLinkNest RX3 130 "GrottoHours$Town" "hollow" "[Z" "GrottoHours" ∈ xNest := List.mem_of_getElem? (i := 22) rfl
theorem xg_X3_130 (C : gC p s m args meth c cc nL RX3 ret D (xtys cI cB cZ cQ) xord g Am) (O : xO g cI cB cZ cQ Am) (X : gX D (xcell g cI cB cZ cQ) xord g S s H locs) (hk : xk k = 9) {j : Nat} (hj : k + 4 = j) (hdg : decode cc pc = .ok (.getfield 130, 3)) (kk : W p l e R s m args below meth c H locs cs sl Q (F0 m (pc + 3) ls (.ref (g j) :: rest))) : W p l e R s m args below meth c H locs cs sl Q (F0 m pc ls (.ref (g k) :: rest)) := by
  subst hj
  exact g_getN C X (q := k) (k := k) (x_pos hk (by decide)) (x_c9 g cI cB cZ cQ S hk) (ci := 9) rfl x_in9 4 (by decide) (O.2 _ _ _ C.2.2.2.2.2 _ xl_X3_130) rfl hdg kk
theorem xl_X9_29 : Cond.fieldLink RX9 29 "GrottoHours$Town" "guilds" "I" ∈ gT := gT_c1 122 rfl rfl
theorem xg_X9_29 (C : gC p s m args meth c cc nL RX9 ret D (xtys cI cB cZ cQ) xord g Am) (O : xO g cI cB cZ cQ Am) (X : gX D (xcell g cI cB cZ cQ) xord g S s H locs) (hk : xk k = 9) (hdg : decode cc pc = .ok (.getfield 29, 3)) (kk : W p l e R s m args below meth c H locs cs sl Q (F0 m (pc + 3) ls (.int (S k 5) :: rest))) : W p l e R s m args below meth c H locs cs sl Q (F0 m pc ls (.ref (g k) :: rest)) :=
  g_get C X (q := k) (k := k) (x_pos hk (by decide)) (x_c9 g cI cB cZ cQ S hk) (ci := 9) rfl x_in9 5 (by decide) xl_X9_29 rfl hdg kk
theorem xp_X9_29 (C : gC p s m args meth c cc nL RX9 ret D (xtys cI cB cZ cQ) xord g Am) (O : xO g cI cB cZ cQ Am) (X : gX D (xcell g cI cB cZ cQ) xord g S s H locs) (hk : xk k = 9) {x : Int32} (hS : S' = sU S k 5 x) (hdg : decode cc pc = .ok (.putfield 29, 3)) (kk : ∀ (H1 : Heap) (locs1 : List Loc), gX D (xcell g cI cB cZ cQ) xord g S' s H1 locs1 → W p l e R s m args below meth c H1 locs1 cs sl Q (F0 m (pc + 3) ls rest)) : W p l e R s m args below meth c H locs cs sl Q (F0 m pc ls (.int x :: .ref (g k) :: rest)) := by
  subst hS
  exact g_put C O.1 X (q := k) (k := k) (x_pos hk (by decide)) (x_c9 g cI cB cZ cQ S hk) (ci := 9) rfl x_in9 tyX9 tyX9_ok nmX9 5 (by decide) xl_X9_29 rfl rfl rfl (Nat.le_of_ble_eq_true rfl) (fun i h => sU_ne h) (by rw [x_c9 g cI cB cZ cQ _ hk, sU_eq]; rfl) hdg kk
theorem xl_X6_27 : Cond.fieldLinkNest RX6 27 "GrottoHours$Town" "guilds" "I" "GrottoHours" ∈ xNest := List.mem_of_getElem? (i := 23) rfl
theorem xg_X6_27 (C : gC p s m args meth c cc nL RX6 ret D (xtys cI cB cZ cQ) xord g Am) (O : xO g cI cB cZ cQ Am) (X : gX D (xcell g cI cB cZ cQ) xord g S s H locs) (hk : xk k = 9) (hdg : decode cc pc = .ok (.getfield 27, 3)) (kk : W p l e R s m args below meth c H locs cs sl Q (F0 m (pc + 3) ls (.int (S k 5) :: rest))) : W p l e R s m args below meth c H locs cs sl Q (F0 m pc ls (.ref (g k) :: rest)) :=
  g_getN C X (q := k) (k := k) (x_pos hk (by decide)) (x_c9 g cI cB cZ cQ S hk) (ci := 9) rfl x_in9 5 (by decide) (O.2 _ _ _ C.2.2.2.2.2 _ xl_X6_27) rfl hdg kk
theorem xp_X6_27 (C : gC p s m args meth c cc nL RX6 ret D (xtys cI cB cZ cQ) xord g Am) (O : xO g cI cB cZ cQ Am) (X : gX D (xcell g cI cB cZ cQ) xord g S s H locs) (hk : xk k = 9) {x : Int32} (hS : S' = sU S k 5 x) (hdg : decode cc pc = .ok (.putfield 27, 3)) (kk : ∀ (H1 : Heap) (locs1 : List Loc), gX D (xcell g cI cB cZ cQ) xord g S' s H1 locs1 → W p l e R s m args below meth c H1 locs1 cs sl Q (F0 m (pc + 3) ls rest)) : W p l e R s m args below meth c H locs cs sl Q (F0 m pc ls (.int x :: .ref (g k) :: rest)) := by
  subst hS
  exact g_putN C O.1 X (q := k) (k := k) (x_pos hk (by decide)) (x_c9 g cI cB cZ cQ S hk) (ci := 9) rfl x_in9 tyX9 tyX9_ok nmX9 5 (by decide) (O.2 _ _ _ C.2.2.2.2.2 _ xl_X6_27) rfl rfl rfl (Nat.le_of_ble_eq_true rfl) (fun i h => sU_ne h) (by rw [x_c9 g cI cB cZ cQ _ hk, sU_eq]; rfl) hdg kk
theorem xl_X7_31 : Cond.fieldLinkNest RX7 31 "GrottoHours$Town" "guilds" "I" "GrottoHours" ∈ xNest := List.mem_of_getElem? (i := 24) rfl
theorem xg_X7_31 (C : gC p s m args meth c cc nL RX7 ret D (xtys cI cB cZ cQ) xord g Am) (O : xO g cI cB cZ cQ Am) (X : gX D (xcell g cI cB cZ cQ) xord g S s H locs) (hk : xk k = 9) (hdg : decode cc pc = .ok (.getfield 31, 3)) (kk : W p l e R s m args below meth c H locs cs sl Q (F0 m (pc + 3) ls (.int (S k 5) :: rest))) : W p l e R s m args below meth c H locs cs sl Q (F0 m pc ls (.ref (g k) :: rest)) :=
  g_getN C X (q := k) (k := k) (x_pos hk (by decide)) (x_c9 g cI cB cZ cQ S hk) (ci := 9) rfl x_in9 5 (by decide) (O.2 _ _ _ C.2.2.2.2.2 _ xl_X7_31) rfl hdg kk
theorem xp_X7_31 (C : gC p s m args meth c cc nL RX7 ret D (xtys cI cB cZ cQ) xord g Am) (O : xO g cI cB cZ cQ Am) (X : gX D (xcell g cI cB cZ cQ) xord g S s H locs) (hk : xk k = 9) {x : Int32} (hS : S' = sU S k 5 x) (hdg : decode cc pc = .ok (.putfield 31, 3)) (kk : ∀ (H1 : Heap) (locs1 : List Loc), gX D (xcell g cI cB cZ cQ) xord g S' s H1 locs1 → W p l e R s m args below meth c H1 locs1 cs sl Q (F0 m (pc + 3) ls rest)) : W p l e R s m args below meth c H locs cs sl Q (F0 m pc ls (.int x :: .ref (g k) :: rest)) := by
  subst hS
  exact g_putN C O.1 X (q := k) (k := k) (x_pos hk (by decide)) (x_c9 g cI cB cZ cQ S hk) (ci := 9) rfl x_in9 tyX9 tyX9_ok nmX9 5 (by decide) (O.2 _ _ _ C.2.2.2.2.2 _ xl_X7_31) rfl rfl rfl (Nat.le_of_ble_eq_true rfl) (fun i h => sU_ne h) (by rw [x_c9 g cI cB cZ cQ _ hk, sU_eq]; rfl) hdg kk
theorem xl_X2_34 : Cond.fieldLinkNest RX2 34 "GrottoHours$Town" "guilds" "I" "GrottoHours" ∈ xNest := List.mem_of_getElem? (i := 25) rfl
theorem xg_X2_34 (C : gC p s m args meth c cc nL RX2 ret D (xtys cI cB cZ cQ) xord g Am) (O : xO g cI cB cZ cQ Am) (X : gX D (xcell g cI cB cZ cQ) xord g S s H locs) (hk : xk k = 9) (hdg : decode cc pc = .ok (.getfield 34, 3)) (kk : W p l e R s m args below meth c H locs cs sl Q (F0 m (pc + 3) ls (.int (S k 5) :: rest))) : W p l e R s m args below meth c H locs cs sl Q (F0 m pc ls (.ref (g k) :: rest)) :=
  g_getN C X (q := k) (k := k) (x_pos hk (by decide)) (x_c9 g cI cB cZ cQ S hk) (ci := 9) rfl x_in9 5 (by decide) (O.2 _ _ _ C.2.2.2.2.2 _ xl_X2_34) rfl hdg kk
theorem xp_X2_34 (C : gC p s m args meth c cc nL RX2 ret D (xtys cI cB cZ cQ) xord g Am) (O : xO g cI cB cZ cQ Am) (X : gX D (xcell g cI cB cZ cQ) xord g S s H locs) (hk : xk k = 9) {x : Int32} (hS : S' = sU S k 5 x) (hdg : decode cc pc = .ok (.putfield 34, 3)) (kk : ∀ (H1 : Heap) (locs1 : List Loc), gX D (xcell g cI cB cZ cQ) xord g S' s H1 locs1 → W p l e R s m args below meth c H1 locs1 cs sl Q (F0 m (pc + 3) ls rest)) : W p l e R s m args below meth c H locs cs sl Q (F0 m pc ls (.int x :: .ref (g k) :: rest)) := by
  subst hS
  exact g_putN C O.1 X (q := k) (k := k) (x_pos hk (by decide)) (x_c9 g cI cB cZ cQ S hk) (ci := 9) rfl x_in9 tyX9 tyX9_ok nmX9 5 (by decide) (O.2 _ _ _ C.2.2.2.2.2 _ xl_X2_34) rfl rfl rfl (Nat.le_of_ble_eq_true rfl) (fun i h => sU_ne h) (by rw [x_c9 g cI cB cZ cQ _ hk, sU_eq]; rfl) hdg kk
theorem xl_X11_111 : Cond.fieldLinkNest RX11 111 "GrottoHours$Town" "guilds" "I" "GrottoHours" ∈ xNest := List.mem_of_getElem? (i := 26) rfl
theorem xg_X11_111 (C : gC p s m args meth c cc nL RX11 ret D (xtys cI cB cZ cQ) xord g Am) (O : xO g cI cB cZ cQ Am) (X : gX D (xcell g cI cB cZ cQ) xord g S s H locs) (hk : xk k = 9) (hdg : decode cc pc = .ok (.getfield 111, 3)) (kk : W p l e R s m args below meth c H locs cs sl Q (F0 m (pc + 3) ls (.int (S k 5) :: rest))) : W p l e R s m args below meth c H locs cs sl Q (F0 m pc ls (.ref (g k) :: rest)) :=
  g_getN C X (q := k) (k := k) (x_pos hk (by decide)) (x_c9 g cI cB cZ cQ S hk) (ci := 9) rfl x_in9 5 (by decide) (O.2 _ _ _ C.2.2.2.2.2 _ xl_X11_111) rfl hdg kk
theorem xp_X11_111 (C : gC p s m args meth c cc nL RX11 ret D (xtys cI cB cZ cQ) xord g Am) (O : xO g cI cB cZ cQ Am) (X : gX D (xcell g cI cB cZ cQ) xord g S s H locs) (hk : xk k = 9) {x : Int32} (hS : S' = sU S k 5 x) (hdg : decode cc pc = .ok (.putfield 111, 3)) (kk : ∀ (H1 : Heap) (locs1 : List Loc), gX D (xcell g cI cB cZ cQ) xord g S' s H1 locs1 → W p l e R s m args below meth c H1 locs1 cs sl Q (F0 m (pc + 3) ls rest)) : W p l e R s m args below meth c H locs cs sl Q (F0 m pc ls (.int x :: .ref (g k) :: rest)) := by
  subst hS
  exact g_putN C O.1 X (q := k) (k := k) (x_pos hk (by decide)) (x_c9 g cI cB cZ cQ S hk) (ci := 9) rfl x_in9 tyX9 tyX9_ok nmX9 5 (by decide) (O.2 _ _ _ C.2.2.2.2.2 _ xl_X11_111) rfl rfl rfl (Nat.le_of_ble_eq_true rfl) (fun i h => sU_ne h) (by rw [x_c9 g cI cB cZ cQ _ hk, sU_eq]; rfl) hdg kk
theorem xl_X3_133 : Cond.fieldLinkNest RX3 133 "GrottoHours$Town" "guilds" "I" "GrottoHours" ∈ xNest := List.mem_of_getElem? (i := 27) rfl
theorem xg_X3_133 (C : gC p s m args meth c cc nL RX3 ret D (xtys cI cB cZ cQ) xord g Am) (O : xO g cI cB cZ cQ Am) (X : gX D (xcell g cI cB cZ cQ) xord g S s H locs) (hk : xk k = 9) (hdg : decode cc pc = .ok (.getfield 133, 3)) (kk : W p l e R s m args below meth c H locs cs sl Q (F0 m (pc + 3) ls (.int (S k 5) :: rest))) : W p l e R s m args below meth c H locs cs sl Q (F0 m pc ls (.ref (g k) :: rest)) :=
  g_getN C X (q := k) (k := k) (x_pos hk (by decide)) (x_c9 g cI cB cZ cQ S hk) (ci := 9) rfl x_in9 5 (by decide) (O.2 _ _ _ C.2.2.2.2.2 _ xl_X3_133) rfl hdg kk
theorem xp_X3_133 (C : gC p s m args meth c cc nL RX3 ret D (xtys cI cB cZ cQ) xord g Am) (O : xO g cI cB cZ cQ Am) (X : gX D (xcell g cI cB cZ cQ) xord g S s H locs) (hk : xk k = 9) {x : Int32} (hS : S' = sU S k 5 x) (hdg : decode cc pc = .ok (.putfield 133, 3)) (kk : ∀ (H1 : Heap) (locs1 : List Loc), gX D (xcell g cI cB cZ cQ) xord g S' s H1 locs1 → W p l e R s m args below meth c H1 locs1 cs sl Q (F0 m (pc + 3) ls rest)) : W p l e R s m args below meth c H locs cs sl Q (F0 m pc ls (.int x :: .ref (g k) :: rest)) := by
  subst hS
  exact g_putN C O.1 X (q := k) (k := k) (x_pos hk (by decide)) (x_c9 g cI cB cZ cQ S hk) (ci := 9) rfl x_in9 tyX9 tyX9_ok nmX9 5 (by decide) (O.2 _ _ _ C.2.2.2.2.2 _ xl_X3_133) rfl rfl rfl (Nat.le_of_ble_eq_true rfl) (fun i h => sU_ne h) (by rw [x_c9 g cI cB cZ cQ _ hk, sU_eq]; rfl) hdg kk
theorem xl_X9_32 : Cond.fieldLink RX9 32 "GrottoHours$Town" "greed" "[I" ∈ gT := gT_c1 128 rfl rfl
theorem xg_X9_32 (C : gC p s m args meth c cc nL RX9 ret D (xtys cI cB cZ cQ) xord g Am) (O : xO g cI cB cZ cQ Am) (X : gX D (xcell g cI cB cZ cQ) xord g S s H locs) (hk : xk k = 9) {j : Nat} (hj : k + 5 = j) (hdg : decode cc pc = .ok (.getfield 32, 3)) (kk : W p l e R s m args below meth c H locs cs sl Q (F0 m (pc + 3) ls (.ref (g j) :: rest))) : W p l e R s m args below meth c H locs cs sl Q (F0 m pc ls (.ref (g k) :: rest)) := by
  subst hj
  exact g_get C X (q := k) (k := k) (x_pos hk (by decide)) (x_c9 g cI cB cZ cQ S hk) (ci := 9) rfl x_in9 6 (by decide) xl_X9_32 rfl hdg kk
theorem xl_X10_42 : Cond.fieldLinkNest RX10 42 "GrottoHours$Town" "greed" "[I" "GrottoHours" ∈ xNest := List.mem_of_getElem? (i := 28) rfl
theorem xg_X10_42 (C : gC p s m args meth c cc nL RX10 ret D (xtys cI cB cZ cQ) xord g Am) (O : xO g cI cB cZ cQ Am) (X : gX D (xcell g cI cB cZ cQ) xord g S s H locs) (hk : xk k = 9) {j : Nat} (hj : k + 5 = j) (hdg : decode cc pc = .ok (.getfield 42, 3)) (kk : W p l e R s m args below meth c H locs cs sl Q (F0 m (pc + 3) ls (.ref (g j) :: rest))) : W p l e R s m args below meth c H locs cs sl Q (F0 m pc ls (.ref (g k) :: rest)) := by
  subst hj
  exact g_getN C X (q := k) (k := k) (x_pos hk (by decide)) (x_c9 g cI cB cZ cQ S hk) (ci := 9) rfl x_in9 6 (by decide) (O.2 _ _ _ C.2.2.2.2.2 _ xl_X10_42) rfl hdg kk
theorem xl_X2_76 : Cond.fieldLinkNest RX2 76 "GrottoHours$Town" "greed" "[I" "GrottoHours" ∈ xNest := List.mem_of_getElem? (i := 29) rfl
theorem xg_X2_76 (C : gC p s m args meth c cc nL RX2 ret D (xtys cI cB cZ cQ) xord g Am) (O : xO g cI cB cZ cQ Am) (X : gX D (xcell g cI cB cZ cQ) xord g S s H locs) (hk : xk k = 9) {j : Nat} (hj : k + 5 = j) (hdg : decode cc pc = .ok (.getfield 76, 3)) (kk : W p l e R s m args below meth c H locs cs sl Q (F0 m (pc + 3) ls (.ref (g j) :: rest))) : W p l e R s m args below meth c H locs cs sl Q (F0 m pc ls (.ref (g k) :: rest)) := by
  subst hj
  exact g_getN C X (q := k) (k := k) (x_pos hk (by decide)) (x_c9 g cI cB cZ cQ S hk) (ci := 9) rfl x_in9 6 (by decide) (O.2 _ _ _ C.2.2.2.2.2 _ xl_X2_76) rfl hdg kk
theorem xl_X11_194 : Cond.fieldLinkNest RX11 194 "GrottoHours$Town" "greed" "[I" "GrottoHours" ∈ xNest := List.mem_of_getElem? (i := 30) rfl
theorem xg_X11_194 (C : gC p s m args meth c cc nL RX11 ret D (xtys cI cB cZ cQ) xord g Am) (O : xO g cI cB cZ cQ Am) (X : gX D (xcell g cI cB cZ cQ) xord g S s H locs) (hk : xk k = 9) {j : Nat} (hj : k + 5 = j) (hdg : decode cc pc = .ok (.getfield 194, 3)) (kk : W p l e R s m args below meth c H locs cs sl Q (F0 m (pc + 3) ls (.ref (g j) :: rest))) : W p l e R s m args below meth c H locs cs sl Q (F0 m pc ls (.ref (g k) :: rest)) := by
  subst hj
  exact g_getN C X (q := k) (k := k) (x_pos hk (by decide)) (x_c9 g cI cB cZ cQ S hk) (ci := 9) rfl x_in9 6 (by decide) (O.2 _ _ _ C.2.2.2.2.2 _ xl_X11_194) rfl hdg kk
theorem xl_X3_136 : Cond.fieldLinkNest RX3 136 "GrottoHours$Town" "greed" "[I" "GrottoHours" ∈ xNest := List.mem_of_getElem? (i := 31) rfl
theorem xg_X3_136 (C : gC p s m args meth c cc nL RX3 ret D (xtys cI cB cZ cQ) xord g Am) (O : xO g cI cB cZ cQ Am) (X : gX D (xcell g cI cB cZ cQ) xord g S s H locs) (hk : xk k = 9) {j : Nat} (hj : k + 5 = j) (hdg : decode cc pc = .ok (.getfield 136, 3)) (kk : W p l e R s m args below meth c H locs cs sl Q (F0 m (pc + 3) ls (.ref (g j) :: rest))) : W p l e R s m args below meth c H locs cs sl Q (F0 m pc ls (.ref (g k) :: rest)) := by
  subst hj
  exact g_getN C X (q := k) (k := k) (x_pos hk (by decide)) (x_c9 g cI cB cZ cQ S hk) (ci := 9) rfl x_in9 6 (by decide) (O.2 _ _ _ C.2.2.2.2.2 _ xl_X3_136) rfl hdg kk
theorem xl_X9_35 : Cond.fieldLink RX9 35 "GrottoHours$Town" "sin" "[I" ∈ gT := gT_c1 133 rfl rfl
theorem xg_X9_35 (C : gC p s m args meth c cc nL RX9 ret D (xtys cI cB cZ cQ) xord g Am) (O : xO g cI cB cZ cQ Am) (X : gX D (xcell g cI cB cZ cQ) xord g S s H locs) (hk : xk k = 9) {j : Nat} (hj : k + 6 = j) (hdg : decode cc pc = .ok (.getfield 35, 3)) (kk : W p l e R s m args below meth c H locs cs sl Q (F0 m (pc + 3) ls (.ref (g j) :: rest))) : W p l e R s m args below meth c H locs cs sl Q (F0 m pc ls (.ref (g k) :: rest)) := by
  subst hj
  exact g_get C X (q := k) (k := k) (x_pos hk (by decide)) (x_c9 g cI cB cZ cQ S hk) (ci := 9) rfl x_in9 7 (by decide) xl_X9_35 rfl hdg kk
theorem xl_X7_36 : Cond.fieldLinkNest RX7 36 "GrottoHours$Town" "sin" "[I" "GrottoHours" ∈ xNest := List.mem_of_getElem? (i := 32) rfl
theorem xg_X7_36 (C : gC p s m args meth c cc nL RX7 ret D (xtys cI cB cZ cQ) xord g Am) (O : xO g cI cB cZ cQ Am) (X : gX D (xcell g cI cB cZ cQ) xord g S s H locs) (hk : xk k = 9) {j : Nat} (hj : k + 6 = j) (hdg : decode cc pc = .ok (.getfield 36, 3)) (kk : W p l e R s m args below meth c H locs cs sl Q (F0 m (pc + 3) ls (.ref (g j) :: rest))) : W p l e R s m args below meth c H locs cs sl Q (F0 m pc ls (.ref (g k) :: rest)) := by
  subst hj
  exact g_getN C X (q := k) (k := k) (x_pos hk (by decide)) (x_c9 g cI cB cZ cQ S hk) (ci := 9) rfl x_in9 7 (by decide) (O.2 _ _ _ C.2.2.2.2.2 _ xl_X7_36) rfl hdg kk
theorem xl_X3_139 : Cond.fieldLinkNest RX3 139 "GrottoHours$Town" "sin" "[I" "GrottoHours" ∈ xNest := List.mem_of_getElem? (i := 33) rfl
theorem xg_X3_139 (C : gC p s m args meth c cc nL RX3 ret D (xtys cI cB cZ cQ) xord g Am) (O : xO g cI cB cZ cQ Am) (X : gX D (xcell g cI cB cZ cQ) xord g S s H locs) (hk : xk k = 9) {j : Nat} (hj : k + 6 = j) (hdg : decode cc pc = .ok (.getfield 139, 3)) (kk : W p l e R s m args below meth c H locs cs sl Q (F0 m (pc + 3) ls (.ref (g j) :: rest))) : W p l e R s m args below meth c H locs cs sl Q (F0 m pc ls (.ref (g k) :: rest)) := by
  subst hj
  exact g_getN C X (q := k) (k := k) (x_pos hk (by decide)) (x_c9 g cI cB cZ cQ S hk) (ci := 9) rfl x_in9 7 (by decide) (O.2 _ _ _ C.2.2.2.2.2 _ xl_X3_139) rfl hdg kk
theorem xl_X9_38 : Cond.fieldLink RX9 38 "GrottoHours$Town" "purse" "[I" ∈ gT := gT_c1 136 rfl rfl
theorem xg_X9_38 (C : gC p s m args meth c cc nL RX9 ret D (xtys cI cB cZ cQ) xord g Am) (O : xO g cI cB cZ cQ Am) (X : gX D (xcell g cI cB cZ cQ) xord g S s H locs) (hk : xk k = 9) {j : Nat} (hj : k + 7 = j) (hdg : decode cc pc = .ok (.getfield 38, 3)) (kk : W p l e R s m args below meth c H locs cs sl Q (F0 m (pc + 3) ls (.ref (g j) :: rest))) : W p l e R s m args below meth c H locs cs sl Q (F0 m pc ls (.ref (g k) :: rest)) := by
  subst hj
  exact g_get C X (q := k) (k := k) (x_pos hk (by decide)) (x_c9 g cI cB cZ cQ S hk) (ci := 9) rfl x_in9 8 (by decide) xl_X9_38 rfl hdg kk
theorem xl_X7_37 : Cond.fieldLinkNest RX7 37 "GrottoHours$Town" "purse" "[I" "GrottoHours" ∈ xNest := List.mem_of_getElem? (i := 34) rfl
theorem xg_X7_37 (C : gC p s m args meth c cc nL RX7 ret D (xtys cI cB cZ cQ) xord g Am) (O : xO g cI cB cZ cQ Am) (X : gX D (xcell g cI cB cZ cQ) xord g S s H locs) (hk : xk k = 9) {j : Nat} (hj : k + 7 = j) (hdg : decode cc pc = .ok (.getfield 37, 3)) (kk : W p l e R s m args below meth c H locs cs sl Q (F0 m (pc + 3) ls (.ref (g j) :: rest))) : W p l e R s m args below meth c H locs cs sl Q (F0 m pc ls (.ref (g k) :: rest)) := by
  subst hj
  exact g_getN C X (q := k) (k := k) (x_pos hk (by decide)) (x_c9 g cI cB cZ cQ S hk) (ci := 9) rfl x_in9 8 (by decide) (O.2 _ _ _ C.2.2.2.2.2 _ xl_X7_37) rfl hdg kk
theorem xl_X3_142 : Cond.fieldLinkNest RX3 142 "GrottoHours$Town" "purse" "[I" "GrottoHours" ∈ xNest := List.mem_of_getElem? (i := 35) rfl
theorem xg_X3_142 (C : gC p s m args meth c cc nL RX3 ret D (xtys cI cB cZ cQ) xord g Am) (O : xO g cI cB cZ cQ Am) (X : gX D (xcell g cI cB cZ cQ) xord g S s H locs) (hk : xk k = 9) {j : Nat} (hj : k + 7 = j) (hdg : decode cc pc = .ok (.getfield 142, 3)) (kk : W p l e R s m args below meth c H locs cs sl Q (F0 m (pc + 3) ls (.ref (g j) :: rest))) : W p l e R s m args below meth c H locs cs sl Q (F0 m pc ls (.ref (g k) :: rest)) := by
  subst hj
  exact g_getN C X (q := k) (k := k) (x_pos hk (by decide)) (x_c9 g cI cB cZ cQ S hk) (ci := 9) rfl x_in9 8 (by decide) (O.2 _ _ _ C.2.2.2.2.2 _ xl_X3_142) rfl hdg kk
theorem xl_X9_41 : Cond.fieldLink RX9 41 "GrottoHours$Town" "hired" "[I" ∈ gT := gT_c1 139 rfl rfl
theorem xg_X9_41 (C : gC p s m args meth c cc nL RX9 ret D (xtys cI cB cZ cQ) xord g Am) (O : xO g cI cB cZ cQ Am) (X : gX D (xcell g cI cB cZ cQ) xord g S s H locs) (hk : xk k = 9) {j : Nat} (hj : k + 8 = j) (hdg : decode cc pc = .ok (.getfield 41, 3)) (kk : W p l e R s m args below meth c H locs cs sl Q (F0 m (pc + 3) ls (.ref (g j) :: rest))) : W p l e R s m args below meth c H locs cs sl Q (F0 m pc ls (.ref (g k) :: rest)) := by
  subst hj
  exact g_get C X (q := k) (k := k) (x_pos hk (by decide)) (x_c9 g cI cB cZ cQ S hk) (ci := 9) rfl x_in9 9 (by decide) xl_X9_41 rfl hdg kk
theorem xl_X7_38 : Cond.fieldLinkNest RX7 38 "GrottoHours$Town" "hired" "[I" "GrottoHours" ∈ xNest := List.mem_of_getElem? (i := 36) rfl
theorem xg_X7_38 (C : gC p s m args meth c cc nL RX7 ret D (xtys cI cB cZ cQ) xord g Am) (O : xO g cI cB cZ cQ Am) (X : gX D (xcell g cI cB cZ cQ) xord g S s H locs) (hk : xk k = 9) {j : Nat} (hj : k + 8 = j) (hdg : decode cc pc = .ok (.getfield 38, 3)) (kk : W p l e R s m args below meth c H locs cs sl Q (F0 m (pc + 3) ls (.ref (g j) :: rest))) : W p l e R s m args below meth c H locs cs sl Q (F0 m pc ls (.ref (g k) :: rest)) := by
  subst hj
  exact g_getN C X (q := k) (k := k) (x_pos hk (by decide)) (x_c9 g cI cB cZ cQ S hk) (ci := 9) rfl x_in9 9 (by decide) (O.2 _ _ _ C.2.2.2.2.2 _ xl_X7_38) rfl hdg kk
theorem xl_X3_145 : Cond.fieldLinkNest RX3 145 "GrottoHours$Town" "hired" "[I" "GrottoHours" ∈ xNest := List.mem_of_getElem? (i := 37) rfl
theorem xg_X3_145 (C : gC p s m args meth c cc nL RX3 ret D (xtys cI cB cZ cQ) xord g Am) (O : xO g cI cB cZ cQ Am) (X : gX D (xcell g cI cB cZ cQ) xord g S s H locs) (hk : xk k = 9) {j : Nat} (hj : k + 8 = j) (hdg : decode cc pc = .ok (.getfield 145, 3)) (kk : W p l e R s m args below meth c H locs cs sl Q (F0 m (pc + 3) ls (.ref (g j) :: rest))) : W p l e R s m args below meth c H locs cs sl Q (F0 m pc ls (.ref (g k) :: rest)) := by
  subst hj
  exact g_getN C X (q := k) (k := k) (x_pos hk (by decide)) (x_c9 g cI cB cZ cQ S hk) (ci := 9) rfl x_in9 9 (by decide) (O.2 _ _ _ C.2.2.2.2.2 _ xl_X3_145) rfl hdg kk
theorem xl_X9_44 : Cond.fieldLink RX9 44 "GrottoHours$Town" "wets" "I" ∈ gT := gT_c1 142 rfl rfl
theorem xg_X9_44 (C : gC p s m args meth c cc nL RX9 ret D (xtys cI cB cZ cQ) xord g Am) (O : xO g cI cB cZ cQ Am) (X : gX D (xcell g cI cB cZ cQ) xord g S s H locs) (hk : xk k = 9) (hdg : decode cc pc = .ok (.getfield 44, 3)) (kk : W p l e R s m args below meth c H locs cs sl Q (F0 m (pc + 3) ls (.int (S k 10) :: rest))) : W p l e R s m args below meth c H locs cs sl Q (F0 m pc ls (.ref (g k) :: rest)) :=
  g_get C X (q := k) (k := k) (x_pos hk (by decide)) (x_c9 g cI cB cZ cQ S hk) (ci := 9) rfl x_in9 10 (by decide) xl_X9_44 rfl hdg kk
theorem xp_X9_44 (C : gC p s m args meth c cc nL RX9 ret D (xtys cI cB cZ cQ) xord g Am) (O : xO g cI cB cZ cQ Am) (X : gX D (xcell g cI cB cZ cQ) xord g S s H locs) (hk : xk k = 9) {x : Int32} (hS : S' = sU S k 10 x) (hdg : decode cc pc = .ok (.putfield 44, 3)) (kk : ∀ (H1 : Heap) (locs1 : List Loc), gX D (xcell g cI cB cZ cQ) xord g S' s H1 locs1 → W p l e R s m args below meth c H1 locs1 cs sl Q (F0 m (pc + 3) ls rest)) : W p l e R s m args below meth c H locs cs sl Q (F0 m pc ls (.int x :: .ref (g k) :: rest)) := by
  subst hS
  exact g_put C O.1 X (q := k) (k := k) (x_pos hk (by decide)) (x_c9 g cI cB cZ cQ S hk) (ci := 9) rfl x_in9 tyX9 tyX9_ok nmX9 10 (by decide) xl_X9_44 rfl rfl rfl (Nat.le_of_ble_eq_true rfl) (fun i h => sU_ne h) (by rw [x_c9 g cI cB cZ cQ _ hk, sU_eq]; rfl) hdg kk
theorem xl_X3_161 : Cond.fieldLinkNest RX3 161 "GrottoHours$Town" "wets" "I" "GrottoHours" ∈ xNest := List.mem_of_getElem? (i := 38) rfl
theorem xg_X3_161 (C : gC p s m args meth c cc nL RX3 ret D (xtys cI cB cZ cQ) xord g Am) (O : xO g cI cB cZ cQ Am) (X : gX D (xcell g cI cB cZ cQ) xord g S s H locs) (hk : xk k = 9) (hdg : decode cc pc = .ok (.getfield 161, 3)) (kk : W p l e R s m args below meth c H locs cs sl Q (F0 m (pc + 3) ls (.int (S k 10) :: rest))) : W p l e R s m args below meth c H locs cs sl Q (F0 m pc ls (.ref (g k) :: rest)) :=
  g_getN C X (q := k) (k := k) (x_pos hk (by decide)) (x_c9 g cI cB cZ cQ S hk) (ci := 9) rfl x_in9 10 (by decide) (O.2 _ _ _ C.2.2.2.2.2 _ xl_X3_161) rfl hdg kk
theorem xp_X3_161 (C : gC p s m args meth c cc nL RX3 ret D (xtys cI cB cZ cQ) xord g Am) (O : xO g cI cB cZ cQ Am) (X : gX D (xcell g cI cB cZ cQ) xord g S s H locs) (hk : xk k = 9) {x : Int32} (hS : S' = sU S k 10 x) (hdg : decode cc pc = .ok (.putfield 161, 3)) (kk : ∀ (H1 : Heap) (locs1 : List Loc), gX D (xcell g cI cB cZ cQ) xord g S' s H1 locs1 → W p l e R s m args below meth c H1 locs1 cs sl Q (F0 m (pc + 3) ls rest)) : W p l e R s m args below meth c H locs cs sl Q (F0 m pc ls (.int x :: .ref (g k) :: rest)) := by
  subst hS
  exact g_putN C O.1 X (q := k) (k := k) (x_pos hk (by decide)) (x_c9 g cI cB cZ cQ S hk) (ci := 9) rfl x_in9 tyX9 tyX9_ok nmX9 10 (by decide) (O.2 _ _ _ C.2.2.2.2.2 _ xl_X3_161) rfl rfl rfl (Nat.le_of_ble_eq_true rfl) (fun i h => sU_ne h) (by rw [x_c9 g cI cB cZ cQ _ hk, sU_eq]; rfl) hdg kk
theorem xl_X9_47 : Cond.fieldLink RX9 47 "GrottoHours$Town" "wet" "[I" ∈ gT := gT_c1 144 rfl rfl
theorem xg_X9_47 (C : gC p s m args meth c cc nL RX9 ret D (xtys cI cB cZ cQ) xord g Am) (O : xO g cI cB cZ cQ Am) (X : gX D (xcell g cI cB cZ cQ) xord g S s H locs) (hk : xk k = 9) {j : Nat} (hj : k + 9 = j) (hdg : decode cc pc = .ok (.getfield 47, 3)) (kk : W p l e R s m args below meth c H locs cs sl Q (F0 m (pc + 3) ls (.ref (g j) :: rest))) : W p l e R s m args below meth c H locs cs sl Q (F0 m pc ls (.ref (g k) :: rest)) := by
  subst hj
  exact g_get C X (q := k) (k := k) (x_pos hk (by decide)) (x_c9 g cI cB cZ cQ S hk) (ci := 9) rfl x_in9 11 (by decide) xl_X9_47 rfl hdg kk
theorem xl_X3_164 : Cond.fieldLinkNest RX3 164 "GrottoHours$Town" "wet" "[I" "GrottoHours" ∈ xNest := List.mem_of_getElem? (i := 39) rfl
theorem xg_X3_164 (C : gC p s m args meth c cc nL RX3 ret D (xtys cI cB cZ cQ) xord g Am) (O : xO g cI cB cZ cQ Am) (X : gX D (xcell g cI cB cZ cQ) xord g S s H locs) (hk : xk k = 9) {j : Nat} (hj : k + 9 = j) (hdg : decode cc pc = .ok (.getfield 164, 3)) (kk : W p l e R s m args below meth c H locs cs sl Q (F0 m (pc + 3) ls (.ref (g j) :: rest))) : W p l e R s m args below meth c H locs cs sl Q (F0 m pc ls (.ref (g k) :: rest)) := by
  subst hj
  exact g_getN C X (q := k) (k := k) (x_pos hk (by decide)) (x_c9 g cI cB cZ cQ S hk) (ci := 9) rfl x_in9 11 (by decide) (O.2 _ _ _ C.2.2.2.2.2 _ xl_X3_164) rfl hdg kk
theorem xl_X9_50 : Cond.fieldLink RX9 50 "GrottoHours$Town" "bound" "I" ∈ gT := gT_c1 146 rfl rfl
theorem xg_X9_50 (C : gC p s m args meth c cc nL RX9 ret D (xtys cI cB cZ cQ) xord g Am) (O : xO g cI cB cZ cQ Am) (X : gX D (xcell g cI cB cZ cQ) xord g S s H locs) (hk : xk k = 9) (hdg : decode cc pc = .ok (.getfield 50, 3)) (kk : W p l e R s m args below meth c H locs cs sl Q (F0 m (pc + 3) ls (.int (S k 12) :: rest))) : W p l e R s m args below meth c H locs cs sl Q (F0 m pc ls (.ref (g k) :: rest)) :=
  g_get C X (q := k) (k := k) (x_pos hk (by decide)) (x_c9 g cI cB cZ cQ S hk) (ci := 9) rfl x_in9 12 (by decide) xl_X9_50 rfl hdg kk
theorem xp_X9_50 (C : gC p s m args meth c cc nL RX9 ret D (xtys cI cB cZ cQ) xord g Am) (O : xO g cI cB cZ cQ Am) (X : gX D (xcell g cI cB cZ cQ) xord g S s H locs) (hk : xk k = 9) {x : Int32} (hS : S' = sU S k 12 x) (hdg : decode cc pc = .ok (.putfield 50, 3)) (kk : ∀ (H1 : Heap) (locs1 : List Loc), gX D (xcell g cI cB cZ cQ) xord g S' s H1 locs1 → W p l e R s m args below meth c H1 locs1 cs sl Q (F0 m (pc + 3) ls rest)) : W p l e R s m args below meth c H locs cs sl Q (F0 m pc ls (.int x :: .ref (g k) :: rest)) := by
  subst hS
  exact g_put C O.1 X (q := k) (k := k) (x_pos hk (by decide)) (x_c9 g cI cB cZ cQ S hk) (ci := 9) rfl x_in9 tyX9 tyX9_ok nmX9 12 (by decide) xl_X9_50 rfl rfl rfl (Nat.le_of_ble_eq_true rfl) (fun i h => sU_ne h) (by rw [x_c9 g cI cB cZ cQ _ hk, sU_eq]; rfl) hdg kk
theorem xl_X3_169 : Cond.fieldLinkNest RX3 169 "GrottoHours$Town" "bound" "I" "GrottoHours" ∈ xNest := List.mem_of_getElem? (i := 40) rfl
theorem xg_X3_169 (C : gC p s m args meth c cc nL RX3 ret D (xtys cI cB cZ cQ) xord g Am) (O : xO g cI cB cZ cQ Am) (X : gX D (xcell g cI cB cZ cQ) xord g S s H locs) (hk : xk k = 9) (hdg : decode cc pc = .ok (.getfield 169, 3)) (kk : W p l e R s m args below meth c H locs cs sl Q (F0 m (pc + 3) ls (.int (S k 12) :: rest))) : W p l e R s m args below meth c H locs cs sl Q (F0 m pc ls (.ref (g k) :: rest)) :=
  g_getN C X (q := k) (k := k) (x_pos hk (by decide)) (x_c9 g cI cB cZ cQ S hk) (ci := 9) rfl x_in9 12 (by decide) (O.2 _ _ _ C.2.2.2.2.2 _ xl_X3_169) rfl hdg kk
theorem xp_X3_169 (C : gC p s m args meth c cc nL RX3 ret D (xtys cI cB cZ cQ) xord g Am) (O : xO g cI cB cZ cQ Am) (X : gX D (xcell g cI cB cZ cQ) xord g S s H locs) (hk : xk k = 9) {x : Int32} (hS : S' = sU S k 12 x) (hdg : decode cc pc = .ok (.putfield 169, 3)) (kk : ∀ (H1 : Heap) (locs1 : List Loc), gX D (xcell g cI cB cZ cQ) xord g S' s H1 locs1 → W p l e R s m args below meth c H1 locs1 cs sl Q (F0 m (pc + 3) ls rest)) : W p l e R s m args below meth c H locs cs sl Q (F0 m pc ls (.int x :: .ref (g k) :: rest)) := by
  subst hS
  exact g_putN C O.1 X (q := k) (k := k) (x_pos hk (by decide)) (x_c9 g cI cB cZ cQ S hk) (ci := 9) rfl x_in9 tyX9 tyX9_ok nmX9 12 (by decide) (O.2 _ _ _ C.2.2.2.2.2 _ xl_X3_169) rfl rfl rfl (Nat.le_of_ble_eq_true rfl) (fun i h => sU_ne h) (by rw [x_c9 g cI cB cZ cQ _ hk, sU_eq]; rfl) hdg kk
theorem xl_X9_58 : Cond.fieldLink RX9 58 "GrottoHours$Town" "prays" "LGrottoHours$Rule;" ∈ gT := gT_c1 148 rfl rfl
theorem xg_X9_58 (C : gC p s m args meth c cc nL RX9 ret D (xtys cI cB cZ cQ) xord g Am) (O : xO g cI cB cZ cQ Am) (X : gX D (xcell g cI cB cZ cQ) xord g S s H locs) (hk : xk k = 9) {j : Nat} (hj : k + 10 = j) (hdg : decode cc pc = .ok (.getfield 58, 3)) (kk : W p l e R s m args below meth c H locs cs sl Q (F0 m (pc + 3) ls (.ref (g j) :: rest))) : W p l e R s m args below meth c H locs cs sl Q (F0 m pc ls (.ref (g k) :: rest)) := by
  subst hj
  exact g_get C X (q := k) (k := k) (x_pos hk (by decide)) (x_c9 g cI cB cZ cQ S hk) (ci := 9) rfl x_in9 13 (by decide) xl_X9_58 rfl hdg kk
theorem xl_X3_102 : Cond.fieldLinkNest RX3 102 "GrottoHours$Town" "prays" "LGrottoHours$Rule;" "GrottoHours" ∈ xNest := List.mem_of_getElem? (i := 41) rfl
theorem xg_X3_102 (C : gC p s m args meth c cc nL RX3 ret D (xtys cI cB cZ cQ) xord g Am) (O : xO g cI cB cZ cQ Am) (X : gX D (xcell g cI cB cZ cQ) xord g S s H locs) (hk : xk k = 9) {j : Nat} (hj : k + 10 = j) (hdg : decode cc pc = .ok (.getfield 102, 3)) (kk : W p l e R s m args below meth c H locs cs sl Q (F0 m (pc + 3) ls (.ref (g j) :: rest))) : W p l e R s m args below meth c H locs cs sl Q (F0 m pc ls (.ref (g k) :: rest)) := by
  subst hj
  exact g_getN C X (q := k) (k := k) (x_pos hk (by decide)) (x_c9 g cI cB cZ cQ S hk) (ci := 9) rfl x_in9 13 (by decide) (O.2 _ _ _ C.2.2.2.2.2 _ xl_X3_102) rfl hdg kk
theorem xl_X10_117 : Cond.fieldLinkNest RX10 117 "GrottoHours$Town" "prays" "LGrottoHours$Rule;" "GrottoHours" ∈ xNest := List.mem_of_getElem? (i := 42) rfl
theorem xg_X10_117 (C : gC p s m args meth c cc nL RX10 ret D (xtys cI cB cZ cQ) xord g Am) (O : xO g cI cB cZ cQ Am) (X : gX D (xcell g cI cB cZ cQ) xord g S s H locs) (hk : xk k = 9) {j : Nat} (hj : k + 10 = j) (hdg : decode cc pc = .ok (.getfield 117, 3)) (kk : W p l e R s m args below meth c H locs cs sl Q (F0 m (pc + 3) ls (.ref (g j) :: rest))) : W p l e R s m args below meth c H locs cs sl Q (F0 m pc ls (.ref (g k) :: rest)) := by
  subst hj
  exact g_getN C X (q := k) (k := k) (x_pos hk (by decide)) (x_c9 g cI cB cZ cQ S hk) (ci := 9) rfl x_in9 13 (by decide) (O.2 _ _ _ C.2.2.2.2.2 _ xl_X10_117) rfl hdg kk
theorem xl_X11_304 : Cond.fieldLinkNest RX11 304 "GrottoHours$Town" "prays" "LGrottoHours$Rule;" "GrottoHours" ∈ xNest := List.mem_of_getElem? (i := 43) rfl
theorem xg_X11_304 (C : gC p s m args meth c cc nL RX11 ret D (xtys cI cB cZ cQ) xord g Am) (O : xO g cI cB cZ cQ Am) (X : gX D (xcell g cI cB cZ cQ) xord g S s H locs) (hk : xk k = 9) {j : Nat} (hj : k + 10 = j) (hdg : decode cc pc = .ok (.getfield 304, 3)) (kk : W p l e R s m args below meth c H locs cs sl Q (F0 m (pc + 3) ls (.ref (g j) :: rest))) : W p l e R s m args below meth c H locs cs sl Q (F0 m pc ls (.ref (g k) :: rest)) := by
  subst hj
  exact g_getN C X (q := k) (k := k) (x_pos hk (by decide)) (x_c9 g cI cB cZ cQ S hk) (ci := 9) rfl x_in9 13 (by decide) (O.2 _ _ _ C.2.2.2.2.2 _ xl_X11_304) rfl hdg kk
theorem xl_X9_62 : Cond.fieldLink RX9 62 "GrottoHours$Town" "costs" "LGrottoHours$Rule;" ∈ gT := gT_c1 152 rfl rfl
theorem xg_X9_62 (C : gC p s m args meth c cc nL RX9 ret D (xtys cI cB cZ cQ) xord g Am) (O : xO g cI cB cZ cQ Am) (X : gX D (xcell g cI cB cZ cQ) xord g S s H locs) (hk : xk k = 9) {j : Nat} (hj : k + 13 = j) (hdg : decode cc pc = .ok (.getfield 62, 3)) (kk : W p l e R s m args below meth c H locs cs sl Q (F0 m (pc + 3) ls (.ref (g j) :: rest))) : W p l e R s m args below meth c H locs cs sl Q (F0 m pc ls (.ref (g k) :: rest)) := by
  subst hj
  exact g_get C X (q := k) (k := k) (x_pos hk (by decide)) (x_c9 g cI cB cZ cQ S hk) (ci := 9) rfl x_in9 14 (by decide) xl_X9_62 rfl hdg kk
theorem xl_X10_94 : Cond.fieldLinkNest RX10 94 "GrottoHours$Town" "costs" "LGrottoHours$Rule;" "GrottoHours" ∈ xNest := List.mem_of_getElem? (i := 44) rfl
theorem xg_X10_94 (C : gC p s m args meth c cc nL RX10 ret D (xtys cI cB cZ cQ) xord g Am) (O : xO g cI cB cZ cQ Am) (X : gX D (xcell g cI cB cZ cQ) xord g S s H locs) (hk : xk k = 9) {j : Nat} (hj : k + 13 = j) (hdg : decode cc pc = .ok (.getfield 94, 3)) (kk : W p l e R s m args below meth c H locs cs sl Q (F0 m (pc + 3) ls (.ref (g j) :: rest))) : W p l e R s m args below meth c H locs cs sl Q (F0 m pc ls (.ref (g k) :: rest)) := by
  subst hj
  exact g_getN C X (q := k) (k := k) (x_pos hk (by decide)) (x_c9 g cI cB cZ cQ S hk) (ci := 9) rfl x_in9 14 (by decide) (O.2 _ _ _ C.2.2.2.2.2 _ xl_X10_94) rfl hdg kk
theorem xl_X3_111 : Cond.fieldLinkNest RX3 111 "GrottoHours$Town" "costs" "LGrottoHours$Rule;" "GrottoHours" ∈ xNest := List.mem_of_getElem? (i := 45) rfl
theorem xg_X3_111 (C : gC p s m args meth c cc nL RX3 ret D (xtys cI cB cZ cQ) xord g Am) (O : xO g cI cB cZ cQ Am) (X : gX D (xcell g cI cB cZ cQ) xord g S s H locs) (hk : xk k = 9) {j : Nat} (hj : k + 13 = j) (hdg : decode cc pc = .ok (.getfield 111, 3)) (kk : W p l e R s m args below meth c H locs cs sl Q (F0 m (pc + 3) ls (.ref (g j) :: rest))) : W p l e R s m args below meth c H locs cs sl Q (F0 m pc ls (.ref (g k) :: rest)) := by
  subst hj
  exact g_getN C X (q := k) (k := k) (x_pos hk (by decide)) (x_c9 g cI cB cZ cQ S hk) (ci := 9) rfl x_in9 14 (by decide) (O.2 _ _ _ C.2.2.2.2.2 _ xl_X3_111) rfl hdg kk
theorem xl_X11_313 : Cond.fieldLinkNest RX11 313 "GrottoHours$Town" "costs" "LGrottoHours$Rule;" "GrottoHours" ∈ xNest := List.mem_of_getElem? (i := 46) rfl
theorem xg_X11_313 (C : gC p s m args meth c cc nL RX11 ret D (xtys cI cB cZ cQ) xord g Am) (O : xO g cI cB cZ cQ Am) (X : gX D (xcell g cI cB cZ cQ) xord g S s H locs) (hk : xk k = 9) {j : Nat} (hj : k + 13 = j) (hdg : decode cc pc = .ok (.getfield 313, 3)) (kk : W p l e R s m args below meth c H locs cs sl Q (F0 m (pc + 3) ls (.ref (g j) :: rest))) : W p l e R s m args below meth c H locs cs sl Q (F0 m pc ls (.ref (g k) :: rest)) := by
  subst hj
  exact g_getN C X (q := k) (k := k) (x_pos hk (by decide)) (x_c9 g cI cB cZ cQ S hk) (ci := 9) rfl x_in9 14 (by decide) (O.2 _ _ _ C.2.2.2.2.2 _ xl_X11_313) rfl hdg kk
theorem xl_X3_12 : Cond.fieldLink RX3 12 "GrottoHours$Reader" "tape" "LGrottoHours$Tape;" ∈ gT := gT_c1 187 rfl rfl
theorem xg_X3_12 (C : gC p s m args meth c cc nL RX3 ret D (xtys cI cB cZ cQ) xord g Am) (O : xO g cI cB cZ cQ Am) (X : gX D (xcell g cI cB cZ cQ) xord g S s H locs) (hk : xk k = 3) {j : Nat} (hj : k + 1 = j) (hdg : decode cc pc = .ok (.getfield 12, 3)) (kk : W p l e R s m args below meth c H locs cs sl Q (F0 m (pc + 3) ls (.ref (g j) :: rest))) : W p l e R s m args below meth c H locs cs sl Q (F0 m pc ls (.ref (g k) :: rest)) := by
  subst hj
  exact g_get C X (q := k) (k := k) (x_pos hk (by decide)) (x_c3 g cI cB cZ cQ S hk) (ci := 3) rfl x_in3 0 (by decide) xl_X3_12 rfl hdg kk
theorem xl_X11_69 : Cond.fieldLinkNest RX11 69 "GrottoHours$Reader" "tape" "LGrottoHours$Tape;" "GrottoHours" ∈ xNest := List.mem_of_getElem? (i := 47) rfl
theorem xg_X11_69 (C : gC p s m args meth c cc nL RX11 ret D (xtys cI cB cZ cQ) xord g Am) (O : xO g cI cB cZ cQ Am) (X : gX D (xcell g cI cB cZ cQ) xord g S s H locs) (hk : xk k = 3) {j : Nat} (hj : k + 1 = j) (hdg : decode cc pc = .ok (.getfield 69, 3)) (kk : W p l e R s m args below meth c H locs cs sl Q (F0 m (pc + 3) ls (.ref (g j) :: rest))) : W p l e R s m args below meth c H locs cs sl Q (F0 m pc ls (.ref (g k) :: rest)) := by
  subst hj
  exact g_getN C X (q := k) (k := k) (x_pos hk (by decide)) (x_c3 g cI cB cZ cQ S hk) (ci := 3) rfl x_in3 0 (by decide) (O.2 _ _ _ C.2.2.2.2.2 _ xl_X11_69) rfl hdg kk
theorem xl_X3_21 : Cond.fieldLink RX3 21 "GrottoHours$Reader" "draft" "LGrottoHours$Town;" ∈ gT := gT_c1 189 rfl rfl
theorem xg_X3_21 (C : gC p s m args meth c cc nL RX3 ret D (xtys cI cB cZ cQ) xord g Am) (O : xO g cI cB cZ cQ Am) (X : gX D (xcell g cI cB cZ cQ) xord g S s H locs) {T : Nat} (hT : T = xdr S) (hk : xk k = 3) (hdg : decode cc pc = .ok (.getfield 21, 3)) (kk : W p l e R s m args below meth c H locs cs sl Q (F0 m (pc + 3) ls (.ref (g T) :: rest))) : W p l e R s m args below meth c H locs cs sl Q (F0 m pc ls (.ref (g k) :: rest)) := by
  have hk0 : k = 1 := x_all (P := fun k => k = 1) (by decide) (by decide) hk
  subst hk0
  subst hT
  exact g_get C X (q := 1) (k := 1) rfl (x_c3 g cI cB cZ cQ S (k := 1) rfl) (ci := 3) rfl x_in3 1 (by decide) xl_X3_21 rfl hdg kk
theorem xp_X3_21 (C : gC p s m args meth c cc nL RX3 ret D (xtys cI cB cZ cQ) xord g Am) (O : xO g cI cB cZ cQ Am) (X : gX D (xcell g cI cB cZ cQ) xord g S s H locs) {T : Nat} (hT : xk T = 9) (hk : xk k = 3) (hS : S' = sU S 1 1 (if T = 4 then 0 else 1)) (hdg : decode cc pc = .ok (.putfield 21, 3)) (kk : ∀ (H1 : Heap) (locs1 : List Loc), gX D (xcell g cI cB cZ cQ) xord g S' s H1 locs1 → W p l e R s m args below meth c H1 locs1 cs sl Q (F0 m (pc + 3) ls rest)) : W p l e R s m args below meth c H locs cs sl Q (F0 m pc ls (.ref (g T) :: .ref (g k) :: rest)) := by
  have hk0 : k = 1 := x_all (P := fun k => k = 1) (by decide) (by decide) hk
  subst hk0
  subst hS
  have hT2 : T = 4 ∨ T = 72 := x_all (P := fun k => k = 4 ∨ k = 72) (by decide) (by decide) hT
  rcases hT2 with rfl | rfl
  · exact g_put C O.1 X (q := 1) (k := 1) rfl (x_c3 g cI cB cZ cQ S (k := 1) rfl) (ci := 3) rfl x_in3 tyX3 tyX3_ok nmX3 1 (by decide) xl_X3_21 rfl rfl rfl (Nat.le_of_ble_eq_true rfl) (fun i h => sU_ne h) rfl hdg kk
  · exact g_put C O.1 X (q := 1) (k := 1) rfl (x_c3 g cI cB cZ cQ S (k := 1) rfl) (ci := 3) rfl x_in3 tyX3 tyX3_ok nmX3 1 (by decide) xl_X3_21 rfl rfl rfl (Nat.le_of_ble_eq_true rfl) (fun i h => sU_ne h) rfl hdg kk
theorem xl_X11_96 : Cond.fieldLinkNest RX11 96 "GrottoHours$Reader" "draft" "LGrottoHours$Town;" "GrottoHours" ∈ xNest := List.mem_of_getElem? (i := 48) rfl
theorem xg_X11_96 (C : gC p s m args meth c cc nL RX11 ret D (xtys cI cB cZ cQ) xord g Am) (O : xO g cI cB cZ cQ Am) (X : gX D (xcell g cI cB cZ cQ) xord g S s H locs) {T : Nat} (hT : T = xdr S) (hk : xk k = 3) (hdg : decode cc pc = .ok (.getfield 96, 3)) (kk : W p l e R s m args below meth c H locs cs sl Q (F0 m (pc + 3) ls (.ref (g T) :: rest))) : W p l e R s m args below meth c H locs cs sl Q (F0 m pc ls (.ref (g k) :: rest)) := by
  have hk0 : k = 1 := x_all (P := fun k => k = 1) (by decide) (by decide) hk
  subst hk0
  subst hT
  exact g_getN C X (q := 1) (k := 1) rfl (x_c3 g cI cB cZ cQ S (k := 1) rfl) (ci := 3) rfl x_in3 1 (by decide) (O.2 _ _ _ C.2.2.2.2.2 _ xl_X11_96) rfl hdg kk
theorem xp_X11_96 (C : gC p s m args meth c cc nL RX11 ret D (xtys cI cB cZ cQ) xord g Am) (O : xO g cI cB cZ cQ Am) (X : gX D (xcell g cI cB cZ cQ) xord g S s H locs) {T : Nat} (hT : xk T = 9) (hk : xk k = 3) (hS : S' = sU S 1 1 (if T = 4 then 0 else 1)) (hdg : decode cc pc = .ok (.putfield 96, 3)) (kk : ∀ (H1 : Heap) (locs1 : List Loc), gX D (xcell g cI cB cZ cQ) xord g S' s H1 locs1 → W p l e R s m args below meth c H1 locs1 cs sl Q (F0 m (pc + 3) ls rest)) : W p l e R s m args below meth c H locs cs sl Q (F0 m pc ls (.ref (g T) :: .ref (g k) :: rest)) := by
  have hk0 : k = 1 := x_all (P := fun k => k = 1) (by decide) (by decide) hk
  subst hk0
  subst hS
  have hT2 : T = 4 ∨ T = 72 := x_all (P := fun k => k = 4 ∨ k = 72) (by decide) (by decide) hT
  rcases hT2 with rfl | rfl
  · exact g_putN C O.1 X (q := 1) (k := 1) rfl (x_c3 g cI cB cZ cQ S (k := 1) rfl) (ci := 3) rfl x_in3 tyX3 tyX3_ok nmX3 1 (by decide) (O.2 _ _ _ C.2.2.2.2.2 _ xl_X11_96) rfl rfl rfl (Nat.le_of_ble_eq_true rfl) (fun i h => sU_ne h) rfl hdg kk
  · exact g_putN C O.1 X (q := 1) (k := 1) rfl (x_c3 g cI cB cZ cQ S (k := 1) rfl) (ci := 3) rfl x_in3 tyX3 tyX3_ok nmX3 1 (by decide) (O.2 _ _ _ C.2.2.2.2.2 _ xl_X11_96) rfl rfl rfl (Nat.le_of_ble_eq_true rfl) (fun i h => sU_ne h) rfl hdg kk
theorem xl_X3_25 : Cond.fieldLink RX3 25 "GrottoHours$Reader" "faultKind" "I" ∈ gT := gT_c1 191 rfl rfl
theorem xg_X3_25 (C : gC p s m args meth c cc nL RX3 ret D (xtys cI cB cZ cQ) xord g Am) (O : xO g cI cB cZ cQ Am) (X : gX D (xcell g cI cB cZ cQ) xord g S s H locs) (hk : xk k = 3) (hdg : decode cc pc = .ok (.getfield 25, 3)) (kk : W p l e R s m args below meth c H locs cs sl Q (F0 m (pc + 3) ls (.int (S k 2) :: rest))) : W p l e R s m args below meth c H locs cs sl Q (F0 m pc ls (.ref (g k) :: rest)) :=
  g_get C X (q := k) (k := k) (x_pos hk (by decide)) (x_c3 g cI cB cZ cQ S hk) (ci := 3) rfl x_in3 2 (by decide) xl_X3_25 rfl hdg kk
theorem xp_X3_25 (C : gC p s m args meth c cc nL RX3 ret D (xtys cI cB cZ cQ) xord g Am) (O : xO g cI cB cZ cQ Am) (X : gX D (xcell g cI cB cZ cQ) xord g S s H locs) (hk : xk k = 3) {x : Int32} (hS : S' = sU S k 2 x) (hdg : decode cc pc = .ok (.putfield 25, 3)) (kk : ∀ (H1 : Heap) (locs1 : List Loc), gX D (xcell g cI cB cZ cQ) xord g S' s H1 locs1 → W p l e R s m args below meth c H1 locs1 cs sl Q (F0 m (pc + 3) ls rest)) : W p l e R s m args below meth c H locs cs sl Q (F0 m pc ls (.int x :: .ref (g k) :: rest)) := by
  subst hS
  exact g_put C O.1 X (q := k) (k := k) (x_pos hk (by decide)) (x_c3 g cI cB cZ cQ S hk) (ci := 3) rfl x_in3 tyX3 tyX3_ok nmX3 2 (by decide) xl_X3_25 rfl rfl rfl (Nat.le_of_ble_eq_true rfl) (fun i h => sU_ne h) (by rw [x_c3 g cI cB cZ cQ _ hk, sU_eq]; rfl) hdg kk
theorem xl_X3_29 : Cond.fieldLink RX3 29 "GrottoHours$Reader" "faultPlace" "I" ∈ gT := gT_c1 192 rfl rfl
theorem xg_X3_29 (C : gC p s m args meth c cc nL RX3 ret D (xtys cI cB cZ cQ) xord g Am) (O : xO g cI cB cZ cQ Am) (X : gX D (xcell g cI cB cZ cQ) xord g S s H locs) (hk : xk k = 3) (hdg : decode cc pc = .ok (.getfield 29, 3)) (kk : W p l e R s m args below meth c H locs cs sl Q (F0 m (pc + 3) ls (.int (S k 3) :: rest))) : W p l e R s m args below meth c H locs cs sl Q (F0 m pc ls (.ref (g k) :: rest)) :=
  g_get C X (q := k) (k := k) (x_pos hk (by decide)) (x_c3 g cI cB cZ cQ S hk) (ci := 3) rfl x_in3 3 (by decide) xl_X3_29 rfl hdg kk
theorem xp_X3_29 (C : gC p s m args meth c cc nL RX3 ret D (xtys cI cB cZ cQ) xord g Am) (O : xO g cI cB cZ cQ Am) (X : gX D (xcell g cI cB cZ cQ) xord g S s H locs) (hk : xk k = 3) {x : Int32} (hS : S' = sU S k 3 x) (hdg : decode cc pc = .ok (.putfield 29, 3)) (kk : ∀ (H1 : Heap) (locs1 : List Loc), gX D (xcell g cI cB cZ cQ) xord g S' s H1 locs1 → W p l e R s m args below meth c H1 locs1 cs sl Q (F0 m (pc + 3) ls rest)) : W p l e R s m args below meth c H locs cs sl Q (F0 m pc ls (.int x :: .ref (g k) :: rest)) := by
  subst hS
  exact g_put C O.1 X (q := k) (k := k) (x_pos hk (by decide)) (x_c3 g cI cB cZ cQ S hk) (ci := 3) rfl x_in3 tyX3 tyX3_ok nmX3 3 (by decide) xl_X3_29 rfl rfl rfl (Nat.le_of_ble_eq_true rfl) (fun i h => sU_ne h) (by rw [x_c3 g cI cB cZ cQ _ hk, sU_eq]; rfl) hdg kk
theorem xl_X11_102 : Cond.fieldLinkNest RX11 102 "GrottoHours$Reader" "faultPlace" "I" "GrottoHours" ∈ xNest := List.mem_of_getElem? (i := 49) rfl
theorem xg_X11_102 (C : gC p s m args meth c cc nL RX11 ret D (xtys cI cB cZ cQ) xord g Am) (O : xO g cI cB cZ cQ Am) (X : gX D (xcell g cI cB cZ cQ) xord g S s H locs) (hk : xk k = 3) (hdg : decode cc pc = .ok (.getfield 102, 3)) (kk : W p l e R s m args below meth c H locs cs sl Q (F0 m (pc + 3) ls (.int (S k 3) :: rest))) : W p l e R s m args below meth c H locs cs sl Q (F0 m pc ls (.ref (g k) :: rest)) :=
  g_getN C X (q := k) (k := k) (x_pos hk (by decide)) (x_c3 g cI cB cZ cQ S hk) (ci := 3) rfl x_in3 3 (by decide) (O.2 _ _ _ C.2.2.2.2.2 _ xl_X11_102) rfl hdg kk
theorem xp_X11_102 (C : gC p s m args meth c cc nL RX11 ret D (xtys cI cB cZ cQ) xord g Am) (O : xO g cI cB cZ cQ Am) (X : gX D (xcell g cI cB cZ cQ) xord g S s H locs) (hk : xk k = 3) {x : Int32} (hS : S' = sU S k 3 x) (hdg : decode cc pc = .ok (.putfield 102, 3)) (kk : ∀ (H1 : Heap) (locs1 : List Loc), gX D (xcell g cI cB cZ cQ) xord g S' s H1 locs1 → W p l e R s m args below meth c H1 locs1 cs sl Q (F0 m (pc + 3) ls rest)) : W p l e R s m args below meth c H locs cs sl Q (F0 m pc ls (.int x :: .ref (g k) :: rest)) := by
  subst hS
  exact g_putN C O.1 X (q := k) (k := k) (x_pos hk (by decide)) (x_c3 g cI cB cZ cQ S hk) (ci := 3) rfl x_in3 tyX3 tyX3_ok nmX3 3 (by decide) (O.2 _ _ _ C.2.2.2.2.2 _ xl_X11_102) rfl rfl rfl (Nat.le_of_ble_eq_true rfl) (fun i h => sU_ne h) (by rw [x_c3 g cI cB cZ cQ _ hk, sU_eq]; rfl) hdg kk
theorem xl_X7_9 : Cond.fieldLink RX7 9 "GrottoHours$State" "hour" "I" ∈ gT := gT_c1 215 rfl rfl
theorem xg_X7_9 (C : gC p s m args meth c cc nL RX7 ret D (xtys cI cB cZ cQ) xord g Am) (O : xO g cI cB cZ cQ Am) (X : gX D (xcell g cI cB cZ cQ) xord g S s H locs) (hk : xk k = 7) (hdg : decode cc pc = .ok (.getfield 9, 3)) (kk : W p l e R s m args below meth c H locs cs sl Q (F0 m (pc + 3) ls (.int (S k 0) :: rest))) : W p l e R s m args below meth c H locs cs sl Q (F0 m pc ls (.ref (g k) :: rest)) :=
  g_get C X (q := k) (k := k) (x_pos hk (by decide)) (x_c7 g cI cB cZ cQ S hk) (ci := 7) rfl x_in7 0 (by decide) xl_X7_9 rfl hdg kk
theorem xp_X7_9 (C : gC p s m args meth c cc nL RX7 ret D (xtys cI cB cZ cQ) xord g Am) (O : xO g cI cB cZ cQ Am) (X : gX D (xcell g cI cB cZ cQ) xord g S s H locs) (hk : xk k = 7) {x : Int32} (hS : S' = sU S k 0 x) (hdg : decode cc pc = .ok (.putfield 9, 3)) (kk : ∀ (H1 : Heap) (locs1 : List Loc), gX D (xcell g cI cB cZ cQ) xord g S' s H1 locs1 → W p l e R s m args below meth c H1 locs1 cs sl Q (F0 m (pc + 3) ls rest)) : W p l e R s m args below meth c H locs cs sl Q (F0 m pc ls (.int x :: .ref (g k) :: rest)) := by
  subst hS
  exact g_put C O.1 X (q := k) (k := k) (x_pos hk (by decide)) (x_c7 g cI cB cZ cQ S hk) (ci := 7) rfl x_in7 tyX7 tyX7_ok nmX7 0 (by decide) xl_X7_9 rfl rfl rfl (Nat.le_of_ble_eq_true rfl) (fun i h => sU_ne h) (by rw [x_c7 g cI cB cZ cQ _ hk, sU_eq]; rfl) hdg kk
theorem xl_X10_55 : Cond.fieldLinkNest RX10 55 "GrottoHours$State" "hour" "I" "GrottoHours" ∈ xNest := List.mem_of_getElem? (i := 52) rfl
theorem xg_X10_55 (C : gC p s m args meth c cc nL RX10 ret D (xtys cI cB cZ cQ) xord g Am) (O : xO g cI cB cZ cQ Am) (X : gX D (xcell g cI cB cZ cQ) xord g S s H locs) (hk : xk k = 7) (hdg : decode cc pc = .ok (.getfield 55, 3)) (kk : W p l e R s m args below meth c H locs cs sl Q (F0 m (pc + 3) ls (.int (S k 0) :: rest))) : W p l e R s m args below meth c H locs cs sl Q (F0 m pc ls (.ref (g k) :: rest)) :=
  g_getN C X (q := k) (k := k) (x_pos hk (by decide)) (x_c7 g cI cB cZ cQ S hk) (ci := 7) rfl x_in7 0 (by decide) (O.2 _ _ _ C.2.2.2.2.2 _ xl_X10_55) rfl hdg kk
theorem xp_X10_55 (C : gC p s m args meth c cc nL RX10 ret D (xtys cI cB cZ cQ) xord g Am) (O : xO g cI cB cZ cQ Am) (X : gX D (xcell g cI cB cZ cQ) xord g S s H locs) (hk : xk k = 7) {x : Int32} (hS : S' = sU S k 0 x) (hdg : decode cc pc = .ok (.putfield 55, 3)) (kk : ∀ (H1 : Heap) (locs1 : List Loc), gX D (xcell g cI cB cZ cQ) xord g S' s H1 locs1 → W p l e R s m args below meth c H1 locs1 cs sl Q (F0 m (pc + 3) ls rest)) : W p l e R s m args below meth c H locs cs sl Q (F0 m pc ls (.int x :: .ref (g k) :: rest)) := by
  subst hS
  exact g_putN C O.1 X (q := k) (k := k) (x_pos hk (by decide)) (x_c7 g cI cB cZ cQ S hk) (ci := 7) rfl x_in7 tyX7 tyX7_ok nmX7 0 (by decide) (O.2 _ _ _ C.2.2.2.2.2 _ xl_X10_55) rfl rfl rfl (Nat.le_of_ble_eq_true rfl) (fun i h => sU_ne h) (by rw [x_c7 g cI cB cZ cQ _ hk, sU_eq]; rfl) hdg kk
theorem xl_X11_114 : Cond.fieldLinkNest RX11 114 "GrottoHours$State" "hour" "I" "GrottoHours" ∈ xNest := List.mem_of_getElem? (i := 53) rfl
theorem xg_X11_114 (C : gC p s m args meth c cc nL RX11 ret D (xtys cI cB cZ cQ) xord g Am) (O : xO g cI cB cZ cQ Am) (X : gX D (xcell g cI cB cZ cQ) xord g S s H locs) (hk : xk k = 7) (hdg : decode cc pc = .ok (.getfield 114, 3)) (kk : W p l e R s m args below meth c H locs cs sl Q (F0 m (pc + 3) ls (.int (S k 0) :: rest))) : W p l e R s m args below meth c H locs cs sl Q (F0 m pc ls (.ref (g k) :: rest)) :=
  g_getN C X (q := k) (k := k) (x_pos hk (by decide)) (x_c7 g cI cB cZ cQ S hk) (ci := 7) rfl x_in7 0 (by decide) (O.2 _ _ _ C.2.2.2.2.2 _ xl_X11_114) rfl hdg kk
theorem xp_X11_114 (C : gC p s m args meth c cc nL RX11 ret D (xtys cI cB cZ cQ) xord g Am) (O : xO g cI cB cZ cQ Am) (X : gX D (xcell g cI cB cZ cQ) xord g S s H locs) (hk : xk k = 7) {x : Int32} (hS : S' = sU S k 0 x) (hdg : decode cc pc = .ok (.putfield 114, 3)) (kk : ∀ (H1 : Heap) (locs1 : List Loc), gX D (xcell g cI cB cZ cQ) xord g S' s H1 locs1 → W p l e R s m args below meth c H1 locs1 cs sl Q (F0 m (pc + 3) ls rest)) : W p l e R s m args below meth c H locs cs sl Q (F0 m pc ls (.int x :: .ref (g k) :: rest)) := by
  subst hS
  exact g_putN C O.1 X (q := k) (k := k) (x_pos hk (by decide)) (x_c7 g cI cB cZ cQ S hk) (ci := 7) rfl x_in7 tyX7 tyX7_ok nmX7 0 (by decide) (O.2 _ _ _ C.2.2.2.2.2 _ xl_X11_114) rfl rfl rfl (Nat.le_of_ble_eq_true rfl) (fun i h => sU_ne h) (by rw [x_c7 g cI cB cZ cQ _ hk, sU_eq]; rfl) hdg kk
theorem xl_X7_15 : Cond.fieldLink RX7 15 "GrottoHours$State" "drained" "I" ∈ gT := gT_c1 218 rfl rfl
theorem xg_X7_15 (C : gC p s m args meth c cc nL RX7 ret D (xtys cI cB cZ cQ) xord g Am) (O : xO g cI cB cZ cQ Am) (X : gX D (xcell g cI cB cZ cQ) xord g S s H locs) (hk : xk k = 7) (hdg : decode cc pc = .ok (.getfield 15, 3)) (kk : W p l e R s m args below meth c H locs cs sl Q (F0 m (pc + 3) ls (.int (S k 1) :: rest))) : W p l e R s m args below meth c H locs cs sl Q (F0 m pc ls (.ref (g k) :: rest)) :=
  g_get C X (q := k) (k := k) (x_pos hk (by decide)) (x_c7 g cI cB cZ cQ S hk) (ci := 7) rfl x_in7 1 (by decide) xl_X7_15 rfl hdg kk
theorem xp_X7_15 (C : gC p s m args meth c cc nL RX7 ret D (xtys cI cB cZ cQ) xord g Am) (O : xO g cI cB cZ cQ Am) (X : gX D (xcell g cI cB cZ cQ) xord g S s H locs) (hk : xk k = 7) {x : Int32} (hS : S' = sU S k 1 x) (hdg : decode cc pc = .ok (.putfield 15, 3)) (kk : ∀ (H1 : Heap) (locs1 : List Loc), gX D (xcell g cI cB cZ cQ) xord g S' s H1 locs1 → W p l e R s m args below meth c H1 locs1 cs sl Q (F0 m (pc + 3) ls rest)) : W p l e R s m args below meth c H locs cs sl Q (F0 m pc ls (.int x :: .ref (g k) :: rest)) := by
  subst hS
  exact g_put C O.1 X (q := k) (k := k) (x_pos hk (by decide)) (x_c7 g cI cB cZ cQ S hk) (ci := 7) rfl x_in7 tyX7 tyX7_ok nmX7 1 (by decide) xl_X7_15 rfl rfl rfl (Nat.le_of_ble_eq_true rfl) (fun i h => sU_ne h) (by rw [x_c7 g cI cB cZ cQ _ hk, sU_eq]; rfl) hdg kk
theorem xl_X10_60 : Cond.fieldLinkNest RX10 60 "GrottoHours$State" "drained" "I" "GrottoHours" ∈ xNest := List.mem_of_getElem? (i := 54) rfl
theorem xg_X10_60 (C : gC p s m args meth c cc nL RX10 ret D (xtys cI cB cZ cQ) xord g Am) (O : xO g cI cB cZ cQ Am) (X : gX D (xcell g cI cB cZ cQ) xord g S s H locs) (hk : xk k = 7) (hdg : decode cc pc = .ok (.getfield 60, 3)) (kk : W p l e R s m args below meth c H locs cs sl Q (F0 m (pc + 3) ls (.int (S k 1) :: rest))) : W p l e R s m args below meth c H locs cs sl Q (F0 m pc ls (.ref (g k) :: rest)) :=
  g_getN C X (q := k) (k := k) (x_pos hk (by decide)) (x_c7 g cI cB cZ cQ S hk) (ci := 7) rfl x_in7 1 (by decide) (O.2 _ _ _ C.2.2.2.2.2 _ xl_X10_60) rfl hdg kk
theorem xp_X10_60 (C : gC p s m args meth c cc nL RX10 ret D (xtys cI cB cZ cQ) xord g Am) (O : xO g cI cB cZ cQ Am) (X : gX D (xcell g cI cB cZ cQ) xord g S s H locs) (hk : xk k = 7) {x : Int32} (hS : S' = sU S k 1 x) (hdg : decode cc pc = .ok (.putfield 60, 3)) (kk : ∀ (H1 : Heap) (locs1 : List Loc), gX D (xcell g cI cB cZ cQ) xord g S' s H1 locs1 → W p l e R s m args below meth c H1 locs1 cs sl Q (F0 m (pc + 3) ls rest)) : W p l e R s m args below meth c H locs cs sl Q (F0 m pc ls (.int x :: .ref (g k) :: rest)) := by
  subst hS
  exact g_putN C O.1 X (q := k) (k := k) (x_pos hk (by decide)) (x_c7 g cI cB cZ cQ S hk) (ci := 7) rfl x_in7 tyX7 tyX7_ok nmX7 1 (by decide) (O.2 _ _ _ C.2.2.2.2.2 _ xl_X10_60) rfl rfl rfl (Nat.le_of_ble_eq_true rfl) (fun i h => sU_ne h) (by rw [x_c7 g cI cB cZ cQ _ hk, sU_eq]; rfl) hdg kk
theorem xl_X11_128 : Cond.fieldLinkNest RX11 128 "GrottoHours$State" "drained" "I" "GrottoHours" ∈ xNest := List.mem_of_getElem? (i := 55) rfl
theorem xg_X11_128 (C : gC p s m args meth c cc nL RX11 ret D (xtys cI cB cZ cQ) xord g Am) (O : xO g cI cB cZ cQ Am) (X : gX D (xcell g cI cB cZ cQ) xord g S s H locs) (hk : xk k = 7) (hdg : decode cc pc = .ok (.getfield 128, 3)) (kk : W p l e R s m args below meth c H locs cs sl Q (F0 m (pc + 3) ls (.int (S k 1) :: rest))) : W p l e R s m args below meth c H locs cs sl Q (F0 m pc ls (.ref (g k) :: rest)) :=
  g_getN C X (q := k) (k := k) (x_pos hk (by decide)) (x_c7 g cI cB cZ cQ S hk) (ci := 7) rfl x_in7 1 (by decide) (O.2 _ _ _ C.2.2.2.2.2 _ xl_X11_128) rfl hdg kk
theorem xp_X11_128 (C : gC p s m args meth c cc nL RX11 ret D (xtys cI cB cZ cQ) xord g Am) (O : xO g cI cB cZ cQ Am) (X : gX D (xcell g cI cB cZ cQ) xord g S s H locs) (hk : xk k = 7) {x : Int32} (hS : S' = sU S k 1 x) (hdg : decode cc pc = .ok (.putfield 128, 3)) (kk : ∀ (H1 : Heap) (locs1 : List Loc), gX D (xcell g cI cB cZ cQ) xord g S' s H1 locs1 → W p l e R s m args below meth c H1 locs1 cs sl Q (F0 m (pc + 3) ls rest)) : W p l e R s m args below meth c H locs cs sl Q (F0 m pc ls (.int x :: .ref (g k) :: rest)) := by
  subst hS
  exact g_putN C O.1 X (q := k) (k := k) (x_pos hk (by decide)) (x_c7 g cI cB cZ cQ S hk) (ci := 7) rfl x_in7 tyX7 tyX7_ok nmX7 1 (by decide) (O.2 _ _ _ C.2.2.2.2.2 _ xl_X11_128) rfl rfl rfl (Nat.le_of_ble_eq_true rfl) (fun i h => sU_ne h) (by rw [x_c7 g cI cB cZ cQ _ hk, sU_eq]; rfl) hdg kk
theorem xl_X7_18 : Cond.fieldLink RX7 18 "GrottoHours$State" "sin" "[I" ∈ gT := gT_c1 221 rfl rfl
theorem xg_X7_18 (C : gC p s m args meth c cc nL RX7 ret D (xtys cI cB cZ cQ) xord g Am) (O : xO g cI cB cZ cQ Am) (X : gX D (xcell g cI cB cZ cQ) xord g S s H locs) (hk : xk k = 7) {j : Nat} (hj : k + 1 = j) (hdg : decode cc pc = .ok (.getfield 18, 3)) (kk : W p l e R s m args below meth c H locs cs sl Q (F0 m (pc + 3) ls (.ref (g j) :: rest))) : W p l e R s m args below meth c H locs cs sl Q (F0 m pc ls (.ref (g k) :: rest)) := by
  subst hj
  exact g_get C X (q := k) (k := k) (x_pos hk (by decide)) (x_c7 g cI cB cZ cQ S hk) (ci := 7) rfl x_in7 2 (by decide) xl_X7_18 rfl hdg kk
theorem xl_X10_45 : Cond.fieldLinkNest RX10 45 "GrottoHours$State" "sin" "[I" "GrottoHours" ∈ xNest := List.mem_of_getElem? (i := 56) rfl
theorem xg_X10_45 (C : gC p s m args meth c cc nL RX10 ret D (xtys cI cB cZ cQ) xord g Am) (O : xO g cI cB cZ cQ Am) (X : gX D (xcell g cI cB cZ cQ) xord g S s H locs) (hk : xk k = 7) {j : Nat} (hj : k + 1 = j) (hdg : decode cc pc = .ok (.getfield 45, 3)) (kk : W p l e R s m args below meth c H locs cs sl Q (F0 m (pc + 3) ls (.ref (g j) :: rest))) : W p l e R s m args below meth c H locs cs sl Q (F0 m pc ls (.ref (g k) :: rest)) := by
  subst hj
  exact g_getN C X (q := k) (k := k) (x_pos hk (by decide)) (x_c7 g cI cB cZ cQ S hk) (ci := 7) rfl x_in7 2 (by decide) (O.2 _ _ _ C.2.2.2.2.2 _ xl_X10_45) rfl hdg kk
theorem xl_X11_197 : Cond.fieldLinkNest RX11 197 "GrottoHours$State" "sin" "[I" "GrottoHours" ∈ xNest := List.mem_of_getElem? (i := 57) rfl
theorem xg_X11_197 (C : gC p s m args meth c cc nL RX11 ret D (xtys cI cB cZ cQ) xord g Am) (O : xO g cI cB cZ cQ Am) (X : gX D (xcell g cI cB cZ cQ) xord g S s H locs) (hk : xk k = 7) {j : Nat} (hj : k + 1 = j) (hdg : decode cc pc = .ok (.getfield 197, 3)) (kk : W p l e R s m args below meth c H locs cs sl Q (F0 m (pc + 3) ls (.ref (g j) :: rest))) : W p l e R s m args below meth c H locs cs sl Q (F0 m pc ls (.ref (g k) :: rest)) := by
  subst hj
  exact g_getN C X (q := k) (k := k) (x_pos hk (by decide)) (x_c7 g cI cB cZ cQ S hk) (ci := 7) rfl x_in7 2 (by decide) (O.2 _ _ _ C.2.2.2.2.2 _ xl_X11_197) rfl hdg kk
theorem xl_X7_22 : Cond.fieldLink RX7 22 "GrottoHours$State" "purse" "[I" ∈ gT := gT_c1 224 rfl rfl
theorem xg_X7_22 (C : gC p s m args meth c cc nL RX7 ret D (xtys cI cB cZ cQ) xord g Am) (O : xO g cI cB cZ cQ Am) (X : gX D (xcell g cI cB cZ cQ) xord g S s H locs) (hk : xk k = 7) {j : Nat} (hj : k + 2 = j) (hdg : decode cc pc = .ok (.getfield 22, 3)) (kk : W p l e R s m args below meth c H locs cs sl Q (F0 m (pc + 3) ls (.ref (g j) :: rest))) : W p l e R s m args below meth c H locs cs sl Q (F0 m pc ls (.ref (g k) :: rest)) := by
  subst hj
  exact g_get C X (q := k) (k := k) (x_pos hk (by decide)) (x_c7 g cI cB cZ cQ S hk) (ci := 7) rfl x_in7 3 (by decide) xl_X7_22 rfl hdg kk
theorem xl_X10_49 : Cond.fieldLinkNest RX10 49 "GrottoHours$State" "purse" "[I" "GrottoHours" ∈ xNest := List.mem_of_getElem? (i := 58) rfl
theorem xg_X10_49 (C : gC p s m args meth c cc nL RX10 ret D (xtys cI cB cZ cQ) xord g Am) (O : xO g cI cB cZ cQ Am) (X : gX D (xcell g cI cB cZ cQ) xord g S s H locs) (hk : xk k = 7) {j : Nat} (hj : k + 2 = j) (hdg : decode cc pc = .ok (.getfield 49, 3)) (kk : W p l e R s m args below meth c H locs cs sl Q (F0 m (pc + 3) ls (.ref (g j) :: rest))) : W p l e R s m args below meth c H locs cs sl Q (F0 m pc ls (.ref (g k) :: rest)) := by
  subst hj
  exact g_getN C X (q := k) (k := k) (x_pos hk (by decide)) (x_c7 g cI cB cZ cQ S hk) (ci := 7) rfl x_in7 3 (by decide) (O.2 _ _ _ C.2.2.2.2.2 _ xl_X10_49) rfl hdg kk
theorem xl_X6_77 : Cond.fieldLinkNest RX6 77 "GrottoHours$State" "purse" "[I" "GrottoHours" ∈ xNest := List.mem_of_getElem? (i := 59) rfl
theorem xg_X6_77 (C : gC p s m args meth c cc nL RX6 ret D (xtys cI cB cZ cQ) xord g Am) (O : xO g cI cB cZ cQ Am) (X : gX D (xcell g cI cB cZ cQ) xord g S s H locs) (hk : xk k = 7) {j : Nat} (hj : k + 2 = j) (hdg : decode cc pc = .ok (.getfield 77, 3)) (kk : W p l e R s m args below meth c H locs cs sl Q (F0 m (pc + 3) ls (.ref (g j) :: rest))) : W p l e R s m args below meth c H locs cs sl Q (F0 m pc ls (.ref (g k) :: rest)) := by
  subst hj
  exact g_getN C X (q := k) (k := k) (x_pos hk (by decide)) (x_c7 g cI cB cZ cQ S hk) (ci := 7) rfl x_in7 3 (by decide) (O.2 _ _ _ C.2.2.2.2.2 _ xl_X6_77) rfl hdg kk
theorem xl_X11_200 : Cond.fieldLinkNest RX11 200 "GrottoHours$State" "purse" "[I" "GrottoHours" ∈ xNest := List.mem_of_getElem? (i := 60) rfl
theorem xg_X11_200 (C : gC p s m args meth c cc nL RX11 ret D (xtys cI cB cZ cQ) xord g Am) (O : xO g cI cB cZ cQ Am) (X : gX D (xcell g cI cB cZ cQ) xord g S s H locs) (hk : xk k = 7) {j : Nat} (hj : k + 2 = j) (hdg : decode cc pc = .ok (.getfield 200, 3)) (kk : W p l e R s m args below meth c H locs cs sl Q (F0 m (pc + 3) ls (.ref (g j) :: rest))) : W p l e R s m args below meth c H locs cs sl Q (F0 m pc ls (.ref (g k) :: rest)) := by
  subst hj
  exact g_getN C X (q := k) (k := k) (x_pos hk (by decide)) (x_c7 g cI cB cZ cQ S hk) (ci := 7) rfl x_in7 3 (by decide) (O.2 _ _ _ C.2.2.2.2.2 _ xl_X11_200) rfl hdg kk
theorem xl_X7_25 : Cond.fieldLink RX7 25 "GrottoHours$State" "silences" "[I" ∈ gT := gT_c1 228 rfl rfl
theorem xg_X7_25 (C : gC p s m args meth c cc nL RX7 ret D (xtys cI cB cZ cQ) xord g Am) (O : xO g cI cB cZ cQ Am) (X : gX D (xcell g cI cB cZ cQ) xord g S s H locs) (hk : xk k = 7) {j : Nat} (hj : k + 3 = j) (hdg : decode cc pc = .ok (.getfield 25, 3)) (kk : W p l e R s m args below meth c H locs cs sl Q (F0 m (pc + 3) ls (.ref (g j) :: rest))) : W p l e R s m args below meth c H locs cs sl Q (F0 m pc ls (.ref (g k) :: rest)) := by
  subst hj
  exact g_get C X (q := k) (k := k) (x_pos hk (by decide)) (x_c7 g cI cB cZ cQ S hk) (ci := 7) rfl x_in7 4 (by decide) xl_X7_25 rfl hdg kk
theorem xl_X10_51 : Cond.fieldLinkNest RX10 51 "GrottoHours$State" "silences" "[I" "GrottoHours" ∈ xNest := List.mem_of_getElem? (i := 61) rfl
theorem xg_X10_51 (C : gC p s m args meth c cc nL RX10 ret D (xtys cI cB cZ cQ) xord g Am) (O : xO g cI cB cZ cQ Am) (X : gX D (xcell g cI cB cZ cQ) xord g S s H locs) (hk : xk k = 7) {j : Nat} (hj : k + 3 = j) (hdg : decode cc pc = .ok (.getfield 51, 3)) (kk : W p l e R s m args below meth c H locs cs sl Q (F0 m (pc + 3) ls (.ref (g j) :: rest))) : W p l e R s m args below meth c H locs cs sl Q (F0 m pc ls (.ref (g k) :: rest)) := by
  subst hj
  exact g_getN C X (q := k) (k := k) (x_pos hk (by decide)) (x_c7 g cI cB cZ cQ S hk) (ci := 7) rfl x_in7 4 (by decide) (O.2 _ _ _ C.2.2.2.2.2 _ xl_X10_51) rfl hdg kk
theorem xl_X11_203 : Cond.fieldLinkNest RX11 203 "GrottoHours$State" "silences" "[I" "GrottoHours" ∈ xNest := List.mem_of_getElem? (i := 62) rfl
theorem xg_X11_203 (C : gC p s m args meth c cc nL RX11 ret D (xtys cI cB cZ cQ) xord g Am) (O : xO g cI cB cZ cQ Am) (X : gX D (xcell g cI cB cZ cQ) xord g S s H locs) (hk : xk k = 7) {j : Nat} (hj : k + 3 = j) (hdg : decode cc pc = .ok (.getfield 203, 3)) (kk : W p l e R s m args below meth c H locs cs sl Q (F0 m (pc + 3) ls (.ref (g j) :: rest))) : W p l e R s m args below meth c H locs cs sl Q (F0 m pc ls (.ref (g k) :: rest)) := by
  subst hj
  exact g_getN C X (q := k) (k := k) (x_pos hk (by decide)) (x_c7 g cI cB cZ cQ S hk) (ci := 7) rfl x_in7 4 (by decide) (O.2 _ _ _ C.2.2.2.2.2 _ xl_X11_203) rfl hdg kk
theorem xl_X7_28 : Cond.fieldLink RX7 28 "GrottoHours$State" "hired" "[I" ∈ gT := gT_c1 231 rfl rfl
theorem xg_X7_28 (C : gC p s m args meth c cc nL RX7 ret D (xtys cI cB cZ cQ) xord g Am) (O : xO g cI cB cZ cQ Am) (X : gX D (xcell g cI cB cZ cQ) xord g S s H locs) (hk : xk k = 7) {j : Nat} (hj : k + 4 = j) (hdg : decode cc pc = .ok (.getfield 28, 3)) (kk : W p l e R s m args below meth c H locs cs sl Q (F0 m (pc + 3) ls (.ref (g j) :: rest))) : W p l e R s m args below meth c H locs cs sl Q (F0 m pc ls (.ref (g k) :: rest)) := by
  subst hj
  exact g_get C X (q := k) (k := k) (x_pos hk (by decide)) (x_c7 g cI cB cZ cQ S hk) (ci := 7) rfl x_in7 5 (by decide) xl_X7_28 rfl hdg kk
theorem xl_X10_53 : Cond.fieldLinkNest RX10 53 "GrottoHours$State" "hired" "[I" "GrottoHours" ∈ xNest := List.mem_of_getElem? (i := 63) rfl
theorem xg_X10_53 (C : gC p s m args meth c cc nL RX10 ret D (xtys cI cB cZ cQ) xord g Am) (O : xO g cI cB cZ cQ Am) (X : gX D (xcell g cI cB cZ cQ) xord g S s H locs) (hk : xk k = 7) {j : Nat} (hj : k + 4 = j) (hdg : decode cc pc = .ok (.getfield 53, 3)) (kk : W p l e R s m args below meth c H locs cs sl Q (F0 m (pc + 3) ls (.ref (g j) :: rest))) : W p l e R s m args below meth c H locs cs sl Q (F0 m pc ls (.ref (g k) :: rest)) := by
  subst hj
  exact g_getN C X (q := k) (k := k) (x_pos hk (by decide)) (x_c7 g cI cB cZ cQ S hk) (ci := 7) rfl x_in7 5 (by decide) (O.2 _ _ _ C.2.2.2.2.2 _ xl_X10_53) rfl hdg kk
theorem xl_X11_206 : Cond.fieldLinkNest RX11 206 "GrottoHours$State" "hired" "[I" "GrottoHours" ∈ xNest := List.mem_of_getElem? (i := 64) rfl
theorem xg_X11_206 (C : gC p s m args meth c cc nL RX11 ret D (xtys cI cB cZ cQ) xord g Am) (O : xO g cI cB cZ cQ Am) (X : gX D (xcell g cI cB cZ cQ) xord g S s H locs) (hk : xk k = 7) {j : Nat} (hj : k + 4 = j) (hdg : decode cc pc = .ok (.getfield 206, 3)) (kk : W p l e R s m args below meth c H locs cs sl Q (F0 m (pc + 3) ls (.ref (g j) :: rest))) : W p l e R s m args below meth c H locs cs sl Q (F0 m pc ls (.ref (g k) :: rest)) := by
  subst hj
  exact g_getN C X (q := k) (k := k) (x_pos hk (by decide)) (x_c7 g cI cB cZ cQ S hk) (ci := 7) rfl x_in7 5 (by decide) (O.2 _ _ _ C.2.2.2.2.2 _ xl_X11_206) rfl hdg kk
theorem xl_X0_11 : Cond.fieldLink RX0 11 "GrottoHours$Acts" "cells" "[I" ∈ gT := gT_c2 13 rfl rfl
theorem xg_X0_11 (C : gC p s m args meth c cc nL RX0 ret D (xtys cI cB cZ cQ) xord g Am) (O : xO g cI cB cZ cQ Am) (X : gX D (xcell g cI cB cZ cQ) xord g S s H locs) (hk : xk k = 0) {j : Nat} (hj : k + 1 = j) (hdg : decode cc pc = .ok (.getfield 11, 3)) (kk : W p l e R s m args below meth c H locs cs sl Q (F0 m (pc + 3) ls (.ref (g j) :: rest))) : W p l e R s m args below meth c H locs cs sl Q (F0 m pc ls (.ref (g k) :: rest)) := by
  subst hj
  exact g_get C X (q := k) (k := k) (x_pos hk (by decide)) (x_c0 g cI cB cZ cQ S hk) (ci := 0) rfl x_in0 0 (by decide) xl_X0_11 rfl hdg kk
theorem xl_X0_17 : Cond.fieldLink RX0 17 "GrottoHours$Acts" "many" "I" ∈ gT := gT_c2 14 rfl rfl
theorem xg_X0_17 (C : gC p s m args meth c cc nL RX0 ret D (xtys cI cB cZ cQ) xord g Am) (O : xO g cI cB cZ cQ Am) (X : gX D (xcell g cI cB cZ cQ) xord g S s H locs) (hk : xk k = 0) (hdg : decode cc pc = .ok (.getfield 17, 3)) (kk : W p l e R s m args below meth c H locs cs sl Q (F0 m (pc + 3) ls (.int (S k 1) :: rest))) : W p l e R s m args below meth c H locs cs sl Q (F0 m pc ls (.ref (g k) :: rest)) :=
  g_get C X (q := k) (k := k) (x_pos hk (by decide)) (x_c0 g cI cB cZ cQ S hk) (ci := 0) rfl x_in0 1 (by decide) xl_X0_17 rfl hdg kk
theorem xp_X0_17 (C : gC p s m args meth c cc nL RX0 ret D (xtys cI cB cZ cQ) xord g Am) (O : xO g cI cB cZ cQ Am) (X : gX D (xcell g cI cB cZ cQ) xord g S s H locs) (hk : xk k = 0) {x : Int32} (hS : S' = sU S k 1 x) (hdg : decode cc pc = .ok (.putfield 17, 3)) (kk : ∀ (H1 : Heap) (locs1 : List Loc), gX D (xcell g cI cB cZ cQ) xord g S' s H1 locs1 → W p l e R s m args below meth c H1 locs1 cs sl Q (F0 m (pc + 3) ls rest)) : W p l e R s m args below meth c H locs cs sl Q (F0 m pc ls (.int x :: .ref (g k) :: rest)) := by
  subst hS
  exact g_put C O.1 X (q := k) (k := k) (x_pos hk (by decide)) (x_c0 g cI cB cZ cQ S hk) (ci := 0) rfl x_in0 tyX0 tyX0_ok nmX0 1 (by decide) xl_X0_17 rfl rfl rfl (Nat.le_of_ble_eq_true rfl) (fun i h => sU_ne h) (by rw [x_c0 g cI cB cZ cQ _ hk, sU_eq]; rfl) hdg kk
theorem xl_X1_40 : Cond.fieldLinkNest RX1 40 "GrottoHours$Acts" "many" "I" "GrottoHours" ∈ xNest := List.mem_of_getElem? (i := 66) rfl
theorem xg_X1_40 (C : gC p s m args meth c cc nL RX1 ret D (xtys cI cB cZ cQ) xord g Am) (O : xO g cI cB cZ cQ Am) (X : gX D (xcell g cI cB cZ cQ) xord g S s H locs) (hk : xk k = 0) (hdg : decode cc pc = .ok (.getfield 40, 3)) (kk : W p l e R s m args below meth c H locs cs sl Q (F0 m (pc + 3) ls (.int (S k 1) :: rest))) : W p l e R s m args below meth c H locs cs sl Q (F0 m pc ls (.ref (g k) :: rest)) :=
  g_getN C X (q := k) (k := k) (x_pos hk (by decide)) (x_c0 g cI cB cZ cQ S hk) (ci := 0) rfl x_in0 1 (by decide) (O.2 _ _ _ C.2.2.2.2.2 _ xl_X1_40) rfl hdg kk
theorem xp_X1_40 (C : gC p s m args meth c cc nL RX1 ret D (xtys cI cB cZ cQ) xord g Am) (O : xO g cI cB cZ cQ Am) (X : gX D (xcell g cI cB cZ cQ) xord g S s H locs) (hk : xk k = 0) {x : Int32} (hS : S' = sU S k 1 x) (hdg : decode cc pc = .ok (.putfield 40, 3)) (kk : ∀ (H1 : Heap) (locs1 : List Loc), gX D (xcell g cI cB cZ cQ) xord g S' s H1 locs1 → W p l e R s m args below meth c H1 locs1 cs sl Q (F0 m (pc + 3) ls rest)) : W p l e R s m args below meth c H locs cs sl Q (F0 m pc ls (.int x :: .ref (g k) :: rest)) := by
  subst hS
  exact g_putN C O.1 X (q := k) (k := k) (x_pos hk (by decide)) (x_c0 g cI cB cZ cQ S hk) (ci := 0) rfl x_in0 tyX0 tyX0_ok nmX0 1 (by decide) (O.2 _ _ _ C.2.2.2.2.2 _ xl_X1_40) rfl rfl rfl (Nat.le_of_ble_eq_true rfl) (fun i h => sU_ne h) (by rw [x_c0 g cI cB cZ cQ _ hk, sU_eq]; rfl) hdg kk
theorem xl_X11_141 : Cond.fieldLinkNest RX11 141 "GrottoHours$Acts" "many" "I" "GrottoHours" ∈ xNest := List.mem_of_getElem? (i := 67) rfl
theorem xg_X11_141 (C : gC p s m args meth c cc nL RX11 ret D (xtys cI cB cZ cQ) xord g Am) (O : xO g cI cB cZ cQ Am) (X : gX D (xcell g cI cB cZ cQ) xord g S s H locs) (hk : xk k = 0) (hdg : decode cc pc = .ok (.getfield 141, 3)) (kk : W p l e R s m args below meth c H locs cs sl Q (F0 m (pc + 3) ls (.int (S k 1) :: rest))) : W p l e R s m args below meth c H locs cs sl Q (F0 m pc ls (.ref (g k) :: rest)) :=
  g_getN C X (q := k) (k := k) (x_pos hk (by decide)) (x_c0 g cI cB cZ cQ S hk) (ci := 0) rfl x_in0 1 (by decide) (O.2 _ _ _ C.2.2.2.2.2 _ xl_X11_141) rfl hdg kk
theorem xp_X11_141 (C : gC p s m args meth c cc nL RX11 ret D (xtys cI cB cZ cQ) xord g Am) (O : xO g cI cB cZ cQ Am) (X : gX D (xcell g cI cB cZ cQ) xord g S s H locs) (hk : xk k = 0) {x : Int32} (hS : S' = sU S k 1 x) (hdg : decode cc pc = .ok (.putfield 141, 3)) (kk : ∀ (H1 : Heap) (locs1 : List Loc), gX D (xcell g cI cB cZ cQ) xord g S' s H1 locs1 → W p l e R s m args below meth c H1 locs1 cs sl Q (F0 m (pc + 3) ls rest)) : W p l e R s m args below meth c H locs cs sl Q (F0 m pc ls (.int x :: .ref (g k) :: rest)) := by
  subst hS
  exact g_putN C O.1 X (q := k) (k := k) (x_pos hk (by decide)) (x_c0 g cI cB cZ cQ S hk) (ci := 0) rfl x_in0 tyX0 tyX0_ok nmX0 1 (by decide) (O.2 _ _ _ C.2.2.2.2.2 _ xl_X11_141) rfl rfl rfl (Nat.le_of_ble_eq_true rfl) (fun i h => sU_ne h) (by rw [x_c0 g cI cB cZ cQ _ hk, sU_eq]; rfl) hdg kk
theorem xl_X5_9 : Cond.fieldLink RX5 9 "GrottoHours$Seen" "guilds" "[I" ∈ gT := gT_c2 28 rfl rfl
theorem xg_X5_9 (C : gC p s m args meth c cc nL RX5 ret D (xtys cI cB cZ cQ) xord g Am) (O : xO g cI cB cZ cQ Am) (X : gX D (xcell g cI cB cZ cQ) xord g S s H locs) (hk : xk k = 5) {j : Nat} (hj : k + 1 = j) (hdg : decode cc pc = .ok (.getfield 9, 3)) (kk : W p l e R s m args below meth c H locs cs sl Q (F0 m (pc + 3) ls (.ref (g j) :: rest))) : W p l e R s m args below meth c H locs cs sl Q (F0 m pc ls (.ref (g k) :: rest)) := by
  subst hj
  exact g_get C X (q := k) (k := k) (x_pos hk (by decide)) (x_c5 g cI cB cZ cQ S hk) (ci := 5) rfl x_in5 0 (by decide) xl_X5_9 rfl hdg kk
theorem xl_X5_15 : Cond.fieldLink RX5 15 "GrottoHours$Seen" "behind" "[I" ∈ gT := gT_c2 29 rfl rfl
theorem xg_X5_15 (C : gC p s m args meth c cc nL RX5 ret D (xtys cI cB cZ cQ) xord g Am) (O : xO g cI cB cZ cQ Am) (X : gX D (xcell g cI cB cZ cQ) xord g S s H locs) (hk : xk k = 5) {j : Nat} (hj : k + 2 = j) (hdg : decode cc pc = .ok (.getfield 15, 3)) (kk : W p l e R s m args below meth c H locs cs sl Q (F0 m (pc + 3) ls (.ref (g j) :: rest))) : W p l e R s m args below meth c H locs cs sl Q (F0 m pc ls (.ref (g k) :: rest)) := by
  subst hj
  exact g_get C X (q := k) (k := k) (x_pos hk (by decide)) (x_c5 g cI cB cZ cQ S hk) (ci := 5) rfl x_in5 1 (by decide) xl_X5_15 rfl hdg kk
theorem xl_X5_18 : Cond.fieldLink RX5 18 "GrottoHours$Seen" "sins" "[I" ∈ gT := gT_c2 30 rfl rfl
theorem xg_X5_18 (C : gC p s m args meth c cc nL RX5 ret D (xtys cI cB cZ cQ) xord g Am) (O : xO g cI cB cZ cQ Am) (X : gX D (xcell g cI cB cZ cQ) xord g S s H locs) (hk : xk k = 5) {j : Nat} (hj : k + 3 = j) (hdg : decode cc pc = .ok (.getfield 18, 3)) (kk : W p l e R s m args below meth c H locs cs sl Q (F0 m (pc + 3) ls (.ref (g j) :: rest))) : W p l e R s m args below meth c H locs cs sl Q (F0 m pc ls (.ref (g k) :: rest)) := by
  subst hj
  exact g_get C X (q := k) (k := k) (x_pos hk (by decide)) (x_c5 g cI cB cZ cQ S hk) (ci := 5) rfl x_in5 2 (by decide) xl_X5_18 rfl hdg kk
theorem xl_X5_21 : Cond.fieldLink RX5 21 "GrottoHours$Seen" "many" "I" ∈ gT := gT_c2 31 rfl rfl
theorem xg_X5_21 (C : gC p s m args meth c cc nL RX5 ret D (xtys cI cB cZ cQ) xord g Am) (O : xO g cI cB cZ cQ Am) (X : gX D (xcell g cI cB cZ cQ) xord g S s H locs) (hk : xk k = 5) (hdg : decode cc pc = .ok (.getfield 21, 3)) (kk : W p l e R s m args below meth c H locs cs sl Q (F0 m (pc + 3) ls (.int (S k 3) :: rest))) : W p l e R s m args below meth c H locs cs sl Q (F0 m pc ls (.ref (g k) :: rest)) :=
  g_get C X (q := k) (k := k) (x_pos hk (by decide)) (x_c5 g cI cB cZ cQ S hk) (ci := 5) rfl x_in5 3 (by decide) xl_X5_21 rfl hdg kk
theorem xp_X5_21 (C : gC p s m args meth c cc nL RX5 ret D (xtys cI cB cZ cQ) xord g Am) (O : xO g cI cB cZ cQ Am) (X : gX D (xcell g cI cB cZ cQ) xord g S s H locs) (hk : xk k = 5) {x : Int32} (hS : S' = sU S k 3 x) (hdg : decode cc pc = .ok (.putfield 21, 3)) (kk : ∀ (H1 : Heap) (locs1 : List Loc), gX D (xcell g cI cB cZ cQ) xord g S' s H1 locs1 → W p l e R s m args below meth c H1 locs1 cs sl Q (F0 m (pc + 3) ls rest)) : W p l e R s m args below meth c H locs cs sl Q (F0 m pc ls (.int x :: .ref (g k) :: rest)) := by
  subst hS
  exact g_put C O.1 X (q := k) (k := k) (x_pos hk (by decide)) (x_c5 g cI cB cZ cQ S hk) (ci := 5) rfl x_in5 tyX5 tyX5_ok nmX5 3 (by decide) xl_X5_21 rfl rfl rfl (Nat.le_of_ble_eq_true rfl) (fun i h => sU_ne h) (by rw [x_c5 g cI cB cZ cQ _ hk, sU_eq]; rfl) hdg kk
theorem xl_X1_44 : Cond.fieldLinkNest RX1 44 "GrottoHours$Seen" "many" "I" "GrottoHours" ∈ xNest := List.mem_of_getElem? (i := 69) rfl
theorem xg_X1_44 (C : gC p s m args meth c cc nL RX1 ret D (xtys cI cB cZ cQ) xord g Am) (O : xO g cI cB cZ cQ Am) (X : gX D (xcell g cI cB cZ cQ) xord g S s H locs) (hk : xk k = 5) (hdg : decode cc pc = .ok (.getfield 44, 3)) (kk : W p l e R s m args below meth c H locs cs sl Q (F0 m (pc + 3) ls (.int (S k 3) :: rest))) : W p l e R s m args below meth c H locs cs sl Q (F0 m pc ls (.ref (g k) :: rest)) :=
  g_getN C X (q := k) (k := k) (x_pos hk (by decide)) (x_c5 g cI cB cZ cQ S hk) (ci := 5) rfl x_in5 3 (by decide) (O.2 _ _ _ C.2.2.2.2.2 _ xl_X1_44) rfl hdg kk
theorem xp_X1_44 (C : gC p s m args meth c cc nL RX1 ret D (xtys cI cB cZ cQ) xord g Am) (O : xO g cI cB cZ cQ Am) (X : gX D (xcell g cI cB cZ cQ) xord g S s H locs) (hk : xk k = 5) {x : Int32} (hS : S' = sU S k 3 x) (hdg : decode cc pc = .ok (.putfield 44, 3)) (kk : ∀ (H1 : Heap) (locs1 : List Loc), gX D (xcell g cI cB cZ cQ) xord g S' s H1 locs1 → W p l e R s m args below meth c H1 locs1 cs sl Q (F0 m (pc + 3) ls rest)) : W p l e R s m args below meth c H locs cs sl Q (F0 m pc ls (.int x :: .ref (g k) :: rest)) := by
  subst hS
  exact g_putN C O.1 X (q := k) (k := k) (x_pos hk (by decide)) (x_c5 g cI cB cZ cQ S hk) (ci := 5) rfl x_in5 tyX5 tyX5_ok nmX5 3 (by decide) (O.2 _ _ _ C.2.2.2.2.2 _ xl_X1_44) rfl rfl rfl (Nat.le_of_ble_eq_true rfl) (fun i h => sU_ne h) (by rw [x_c5 g cI cB cZ cQ _ hk, sU_eq]; rfl) hdg kk
theorem xl_X11_150 : Cond.fieldLinkNest RX11 150 "GrottoHours$Seen" "many" "I" "GrottoHours" ∈ xNest := List.mem_of_getElem? (i := 70) rfl
theorem xg_X11_150 (C : gC p s m args meth c cc nL RX11 ret D (xtys cI cB cZ cQ) xord g Am) (O : xO g cI cB cZ cQ Am) (X : gX D (xcell g cI cB cZ cQ) xord g S s H locs) (hk : xk k = 5) (hdg : decode cc pc = .ok (.getfield 150, 3)) (kk : W p l e R s m args below meth c H locs cs sl Q (F0 m (pc + 3) ls (.int (S k 3) :: rest))) : W p l e R s m args below meth c H locs cs sl Q (F0 m pc ls (.ref (g k) :: rest)) :=
  g_getN C X (q := k) (k := k) (x_pos hk (by decide)) (x_c5 g cI cB cZ cQ S hk) (ci := 5) rfl x_in5 3 (by decide) (O.2 _ _ _ C.2.2.2.2.2 _ xl_X11_150) rfl hdg kk
theorem xp_X11_150 (C : gC p s m args meth c cc nL RX11 ret D (xtys cI cB cZ cQ) xord g Am) (O : xO g cI cB cZ cQ Am) (X : gX D (xcell g cI cB cZ cQ) xord g S s H locs) (hk : xk k = 5) {x : Int32} (hS : S' = sU S k 3 x) (hdg : decode cc pc = .ok (.putfield 150, 3)) (kk : ∀ (H1 : Heap) (locs1 : List Loc), gX D (xcell g cI cB cZ cQ) xord g S' s H1 locs1 → W p l e R s m args below meth c H1 locs1 cs sl Q (F0 m (pc + 3) ls rest)) : W p l e R s m args below meth c H locs cs sl Q (F0 m pc ls (.int x :: .ref (g k) :: rest)) := by
  subst hS
  exact g_putN C O.1 X (q := k) (k := k) (x_pos hk (by decide)) (x_c5 g cI cB cZ cQ S hk) (ci := 5) rfl x_in5 tyX5 tyX5_ok nmX5 3 (by decide) (O.2 _ _ _ C.2.2.2.2.2 _ xl_X11_150) rfl rfl rfl (Nat.le_of_ble_eq_true rfl) (fun i h => sU_ne h) (by rw [x_c5 g cI cB cZ cQ _ hk, sU_eq]; rfl) hdg kk
theorem xl_X1_12 : Cond.fieldLink RX1 12 "GrottoHours$Book" "state" "LGrottoHours$State;" ∈ gT := gT_c2 43 rfl rfl
theorem xg_X1_12 (C : gC p s m args meth c cc nL RX1 ret D (xtys cI cB cZ cQ) xord g Am) (O : xO g cI cB cZ cQ Am) (X : gX D (xcell g cI cB cZ cQ) xord g S s H locs) (hk : xk k = 1) {j : Nat} (hj : k + 1 = j) (hdg : decode cc pc = .ok (.getfield 12, 3)) (kk : W p l e R s m args below meth c H locs cs sl Q (F0 m (pc + 3) ls (.ref (g j) :: rest))) : W p l e R s m args below meth c H locs cs sl Q (F0 m pc ls (.ref (g k) :: rest)) := by
  subst hj
  exact g_get C X (q := k) (k := k) (x_pos hk (by decide)) (x_c1 g cI cB cZ cQ S hk) (ci := 1) rfl x_in1 0 (by decide) xl_X1_12 rfl hdg kk
theorem xl_X2_39 : Cond.fieldLinkNest RX2 39 "GrottoHours$Book" "state" "LGrottoHours$State;" "GrottoHours" ∈ xNest := List.mem_of_getElem? (i := 71) rfl
theorem xg_X2_39 (C : gC p s m args meth c cc nL RX2 ret D (xtys cI cB cZ cQ) xord g Am) (O : xO g cI cB cZ cQ Am) (X : gX D (xcell g cI cB cZ cQ) xord g S s H locs) (hk : xk k = 1) {j : Nat} (hj : k + 1 = j) (hdg : decode cc pc = .ok (.getfield 39, 3)) (kk : W p l e R s m args below meth c H locs cs sl Q (F0 m (pc + 3) ls (.ref (g j) :: rest))) : W p l e R s m args below meth c H locs cs sl Q (F0 m pc ls (.ref (g k) :: rest)) := by
  subst hj
  exact g_getN C X (q := k) (k := k) (x_pos hk (by decide)) (x_c1 g cI cB cZ cQ S hk) (ci := 1) rfl x_in1 0 (by decide) (O.2 _ _ _ C.2.2.2.2.2 _ xl_X2_39) rfl hdg kk
theorem xl_X11_105 : Cond.fieldLinkNest RX11 105 "GrottoHours$Book" "state" "LGrottoHours$State;" "GrottoHours" ∈ xNest := List.mem_of_getElem? (i := 72) rfl
theorem xg_X11_105 (C : gC p s m args meth c cc nL RX11 ret D (xtys cI cB cZ cQ) xord g Am) (O : xO g cI cB cZ cQ Am) (X : gX D (xcell g cI cB cZ cQ) xord g S s H locs) (hk : xk k = 1) {j : Nat} (hj : k + 1 = j) (hdg : decode cc pc = .ok (.getfield 105, 3)) (kk : W p l e R s m args below meth c H locs cs sl Q (F0 m (pc + 3) ls (.ref (g j) :: rest))) : W p l e R s m args below meth c H locs cs sl Q (F0 m pc ls (.ref (g k) :: rest)) := by
  subst hj
  exact g_getN C X (q := k) (k := k) (x_pos hk (by decide)) (x_c1 g cI cB cZ cQ S hk) (ci := 1) rfl x_in1 0 (by decide) (O.2 _ _ _ C.2.2.2.2.2 _ xl_X11_105) rfl hdg kk
theorem xl_X1_21 : Cond.fieldLink RX1 21 "GrottoHours$Book" "acts" "LGrottoHours$Acts;" ∈ gT := gT_c2 46 rfl rfl
theorem xg_X1_21 (C : gC p s m args meth c cc nL RX1 ret D (xtys cI cB cZ cQ) xord g Am) (O : xO g cI cB cZ cQ Am) (X : gX D (xcell g cI cB cZ cQ) xord g S s H locs) (hk : xk k = 1) {j : Nat} (hj : k + 6 = j) (hdg : decode cc pc = .ok (.getfield 21, 3)) (kk : W p l e R s m args below meth c H locs cs sl Q (F0 m (pc + 3) ls (.ref (g j) :: rest))) : W p l e R s m args below meth c H locs cs sl Q (F0 m pc ls (.ref (g k) :: rest)) := by
  subst hj
  exact g_get C X (q := k) (k := k) (x_pos hk (by decide)) (x_c1 g cI cB cZ cQ S hk) (ci := 1) rfl x_in1 1 (by decide) xl_X1_21 rfl hdg kk
theorem xl_X11_137 : Cond.fieldLinkNest RX11 137 "GrottoHours$Book" "acts" "LGrottoHours$Acts;" "GrottoHours" ∈ xNest := List.mem_of_getElem? (i := 73) rfl
theorem xg_X11_137 (C : gC p s m args meth c cc nL RX11 ret D (xtys cI cB cZ cQ) xord g Am) (O : xO g cI cB cZ cQ Am) (X : gX D (xcell g cI cB cZ cQ) xord g S s H locs) (hk : xk k = 1) {j : Nat} (hj : k + 6 = j) (hdg : decode cc pc = .ok (.getfield 137, 3)) (kk : W p l e R s m args below meth c H locs cs sl Q (F0 m (pc + 3) ls (.ref (g j) :: rest))) : W p l e R s m args below meth c H locs cs sl Q (F0 m pc ls (.ref (g k) :: rest)) := by
  subst hj
  exact g_getN C X (q := k) (k := k) (x_pos hk (by decide)) (x_c1 g cI cB cZ cQ S hk) (ci := 1) rfl x_in1 1 (by decide) (O.2 _ _ _ C.2.2.2.2.2 _ xl_X11_137) rfl hdg kk
theorem xl_X1_28 : Cond.fieldLink RX1 28 "GrottoHours$Book" "seen" "LGrottoHours$Seen;" ∈ gT := gT_c2 48 rfl rfl
theorem xg_X1_28 (C : gC p s m args meth c cc nL RX1 ret D (xtys cI cB cZ cQ) xord g Am) (O : xO g cI cB cZ cQ Am) (X : gX D (xcell g cI cB cZ cQ) xord g S s H locs) (hk : xk k = 1) {j : Nat} (hj : k + 8 = j) (hdg : decode cc pc = .ok (.getfield 28, 3)) (kk : W p l e R s m args below meth c H locs cs sl Q (F0 m (pc + 3) ls (.ref (g j) :: rest))) : W p l e R s m args below meth c H locs cs sl Q (F0 m pc ls (.ref (g k) :: rest)) := by
  subst hj
  exact g_get C X (q := k) (k := k) (x_pos hk (by decide)) (x_c1 g cI cB cZ cQ S hk) (ci := 1) rfl x_in1 2 (by decide) xl_X1_28 rfl hdg kk
theorem xl_X2_55 : Cond.fieldLinkNest RX2 55 "GrottoHours$Book" "seen" "LGrottoHours$Seen;" "GrottoHours" ∈ xNest := List.mem_of_getElem? (i := 74) rfl
theorem xg_X2_55 (C : gC p s m args meth c cc nL RX2 ret D (xtys cI cB cZ cQ) xord g Am) (O : xO g cI cB cZ cQ Am) (X : gX D (xcell g cI cB cZ cQ) xord g S s H locs) (hk : xk k = 1) {j : Nat} (hj : k + 8 = j) (hdg : decode cc pc = .ok (.getfield 55, 3)) (kk : W p l e R s m args below meth c H locs cs sl Q (F0 m (pc + 3) ls (.ref (g j) :: rest))) : W p l e R s m args below meth c H locs cs sl Q (F0 m pc ls (.ref (g k) :: rest)) := by
  subst hj
  exact g_getN C X (q := k) (k := k) (x_pos hk (by decide)) (x_c1 g cI cB cZ cQ S hk) (ci := 1) rfl x_in1 2 (by decide) (O.2 _ _ _ C.2.2.2.2.2 _ xl_X2_55) rfl hdg kk
theorem xl_X11_146 : Cond.fieldLinkNest RX11 146 "GrottoHours$Book" "seen" "LGrottoHours$Seen;" "GrottoHours" ∈ xNest := List.mem_of_getElem? (i := 75) rfl
theorem xg_X11_146 (C : gC p s m args meth c cc nL RX11 ret D (xtys cI cB cZ cQ) xord g Am) (O : xO g cI cB cZ cQ Am) (X : gX D (xcell g cI cB cZ cQ) xord g S s H locs) (hk : xk k = 1) {j : Nat} (hj : k + 8 = j) (hdg : decode cc pc = .ok (.getfield 146, 3)) (kk : W p l e R s m args below meth c H locs cs sl Q (F0 m (pc + 3) ls (.ref (g j) :: rest))) : W p l e R s m args below meth c H locs cs sl Q (F0 m pc ls (.ref (g k) :: rest)) := by
  subst hj
  exact g_getN C X (q := k) (k := k) (x_pos hk (by decide)) (x_c1 g cI cB cZ cQ S hk) (ci := 1) rfl x_in1 2 (by decide) (O.2 _ _ _ C.2.2.2.2.2 _ xl_X11_146) rfl hdg kk
theorem xl_X1_32 : Cond.fieldLink RX1 32 "GrottoHours$Book" "refused" "[I" ∈ gT := gT_c2 51 rfl rfl
theorem xg_X1_32 (C : gC p s m args meth c cc nL RX1 ret D (xtys cI cB cZ cQ) xord g Am) (O : xO g cI cB cZ cQ Am) (X : gX D (xcell g cI cB cZ cQ) xord g S s H locs) (hk : xk k = 1) {j : Nat} (hj : k + 12 = j) (hdg : decode cc pc = .ok (.getfield 32, 3)) (kk : W p l e R s m args below meth c H locs cs sl Q (F0 m (pc + 3) ls (.ref (g j) :: rest))) : W p l e R s m args below meth c H locs cs sl Q (F0 m pc ls (.ref (g k) :: rest)) := by
  subst hj
  exact g_get C X (q := k) (k := k) (x_pos hk (by decide)) (x_c1 g cI cB cZ cQ S hk) (ci := 1) rfl x_in1 3 (by decide) xl_X1_32 rfl hdg kk
theorem xl_X11_153 : Cond.fieldLinkNest RX11 153 "GrottoHours$Book" "refused" "[I" "GrottoHours" ∈ xNest := List.mem_of_getElem? (i := 76) rfl
theorem xg_X11_153 (C : gC p s m args meth c cc nL RX11 ret D (xtys cI cB cZ cQ) xord g Am) (O : xO g cI cB cZ cQ Am) (X : gX D (xcell g cI cB cZ cQ) xord g S s H locs) (hk : xk k = 1) {j : Nat} (hj : k + 12 = j) (hdg : decode cc pc = .ok (.getfield 153, 3)) (kk : W p l e R s m args below meth c H locs cs sl Q (F0 m (pc + 3) ls (.ref (g j) :: rest))) : W p l e R s m args below meth c H locs cs sl Q (F0 m pc ls (.ref (g k) :: rest)) := by
  subst hj
  exact g_getN C X (q := k) (k := k) (x_pos hk (by decide)) (x_c1 g cI cB cZ cQ S hk) (ci := 1) rfl x_in1 3 (by decide) (O.2 _ _ _ C.2.2.2.2.2 _ xl_X11_153) rfl hdg kk
theorem xl_X10_9 : Cond.fieldLink RX10 9 "GrottoHours$Walk" "greed" "I" ∈ gT := gT_c2 70 rfl rfl
theorem xg_X10_9 (C : gC p s m args meth c cc nL RX10 ret D (xtys cI cB cZ cQ) xord g Am) (O : xO g cI cB cZ cQ Am) (X : gX D (xcell g cI cB cZ cQ) xord g S s H locs) (hk : xk k = 10) (hdg : decode cc pc = .ok (.getfield 9, 3)) (kk : W p l e R s m args below meth c H locs cs sl Q (F0 m (pc + 3) ls (.int (S k 0) :: rest))) : W p l e R s m args below meth c H locs cs sl Q (F0 m pc ls (.ref (g k) :: rest)) :=
  g_get C X (q := k) (k := k) (x_pos hk (by decide)) (x_c10 g cI cB cZ cQ S hk) (ci := 10) rfl x_in10 0 (by decide) xl_X10_9 rfl hdg kk
theorem xp_X10_9 (C : gC p s m args meth c cc nL RX10 ret D (xtys cI cB cZ cQ) xord g Am) (O : xO g cI cB cZ cQ Am) (X : gX D (xcell g cI cB cZ cQ) xord g S s H locs) (hk : xk k = 10) {x : Int32} (hS : S' = sU S k 0 x) (hdg : decode cc pc = .ok (.putfield 9, 3)) (kk : ∀ (H1 : Heap) (locs1 : List Loc), gX D (xcell g cI cB cZ cQ) xord g S' s H1 locs1 → W p l e R s m args below meth c H1 locs1 cs sl Q (F0 m (pc + 3) ls rest)) : W p l e R s m args below meth c H locs cs sl Q (F0 m pc ls (.int x :: .ref (g k) :: rest)) := by
  subst hS
  exact g_put C O.1 X (q := k) (k := k) (x_pos hk (by decide)) (x_c10 g cI cB cZ cQ S hk) (ci := 10) rfl x_in10 tyX10 tyX10_ok nmX10 0 (by decide) xl_X10_9 rfl rfl rfl (Nat.le_of_ble_eq_true rfl) (fun i h => sU_ne h) (by rw [x_c10 g cI cB cZ cQ _ hk, sU_eq]; rfl) hdg kk
theorem xl_X2_79 : Cond.fieldLinkNest RX2 79 "GrottoHours$Walk" "greed" "I" "GrottoHours" ∈ xNest := List.mem_of_getElem? (i := 79) rfl
theorem xg_X2_79 (C : gC p s m args meth c cc nL RX2 ret D (xtys cI cB cZ cQ) xord g Am) (O : xO g cI cB cZ cQ Am) (X : gX D (xcell g cI cB cZ cQ) xord g S s H locs) (hk : xk k = 10) (hdg : decode cc pc = .ok (.getfield 79, 3)) (kk : W p l e R s m args below meth c H locs cs sl Q (F0 m (pc + 3) ls (.int (S k 0) :: rest))) : W p l e R s m args below meth c H locs cs sl Q (F0 m pc ls (.ref (g k) :: rest)) :=
  g_getN C X (q := k) (k := k) (x_pos hk (by decide)) (x_c10 g cI cB cZ cQ S hk) (ci := 10) rfl x_in10 0 (by decide) (O.2 _ _ _ C.2.2.2.2.2 _ xl_X2_79) rfl hdg kk
theorem xp_X2_79 (C : gC p s m args meth c cc nL RX2 ret D (xtys cI cB cZ cQ) xord g Am) (O : xO g cI cB cZ cQ Am) (X : gX D (xcell g cI cB cZ cQ) xord g S s H locs) (hk : xk k = 10) {x : Int32} (hS : S' = sU S k 0 x) (hdg : decode cc pc = .ok (.putfield 79, 3)) (kk : ∀ (H1 : Heap) (locs1 : List Loc), gX D (xcell g cI cB cZ cQ) xord g S' s H1 locs1 → W p l e R s m args below meth c H1 locs1 cs sl Q (F0 m (pc + 3) ls rest)) : W p l e R s m args below meth c H locs cs sl Q (F0 m pc ls (.int x :: .ref (g k) :: rest)) := by
  subst hS
  exact g_putN C O.1 X (q := k) (k := k) (x_pos hk (by decide)) (x_c10 g cI cB cZ cQ S hk) (ci := 10) rfl x_in10 tyX10 tyX10_ok nmX10 0 (by decide) (O.2 _ _ _ C.2.2.2.2.2 _ xl_X2_79) rfl rfl rfl (Nat.le_of_ble_eq_true rfl) (fun i h => sU_ne h) (by rw [x_c10 g cI cB cZ cQ _ hk, sU_eq]; rfl) hdg kk
theorem xl_X10_15 : Cond.fieldLink RX10 15 "GrottoHours$Walk" "sin" "I" ∈ gT := gT_c2 72 rfl rfl
theorem xg_X10_15 (C : gC p s m args meth c cc nL RX10 ret D (xtys cI cB cZ cQ) xord g Am) (O : xO g cI cB cZ cQ Am) (X : gX D (xcell g cI cB cZ cQ) xord g S s H locs) (hk : xk k = 10) (hdg : decode cc pc = .ok (.getfield 15, 3)) (kk : W p l e R s m args below meth c H locs cs sl Q (F0 m (pc + 3) ls (.int (S k 1) :: rest))) : W p l e R s m args below meth c H locs cs sl Q (F0 m pc ls (.ref (g k) :: rest)) :=
  g_get C X (q := k) (k := k) (x_pos hk (by decide)) (x_c10 g cI cB cZ cQ S hk) (ci := 10) rfl x_in10 1 (by decide) xl_X10_15 rfl hdg kk
theorem xp_X10_15 (C : gC p s m args meth c cc nL RX10 ret D (xtys cI cB cZ cQ) xord g Am) (O : xO g cI cB cZ cQ Am) (X : gX D (xcell g cI cB cZ cQ) xord g S s H locs) (hk : xk k = 10) {x : Int32} (hS : S' = sU S k 1 x) (hdg : decode cc pc = .ok (.putfield 15, 3)) (kk : ∀ (H1 : Heap) (locs1 : List Loc), gX D (xcell g cI cB cZ cQ) xord g S' s H1 locs1 → W p l e R s m args below meth c H1 locs1 cs sl Q (F0 m (pc + 3) ls rest)) : W p l e R s m args below meth c H locs cs sl Q (F0 m pc ls (.int x :: .ref (g k) :: rest)) := by
  subst hS
  exact g_put C O.1 X (q := k) (k := k) (x_pos hk (by decide)) (x_c10 g cI cB cZ cQ S hk) (ci := 10) rfl x_in10 tyX10 tyX10_ok nmX10 1 (by decide) xl_X10_15 rfl rfl rfl (Nat.le_of_ble_eq_true rfl) (fun i h => sU_ne h) (by rw [x_c10 g cI cB cZ cQ _ hk, sU_eq]; rfl) hdg kk
theorem xl_X2_91 : Cond.fieldLinkNest RX2 91 "GrottoHours$Walk" "sin" "I" "GrottoHours" ∈ xNest := List.mem_of_getElem? (i := 80) rfl
theorem xg_X2_91 (C : gC p s m args meth c cc nL RX2 ret D (xtys cI cB cZ cQ) xord g Am) (O : xO g cI cB cZ cQ Am) (X : gX D (xcell g cI cB cZ cQ) xord g S s H locs) (hk : xk k = 10) (hdg : decode cc pc = .ok (.getfield 91, 3)) (kk : W p l e R s m args below meth c H locs cs sl Q (F0 m (pc + 3) ls (.int (S k 1) :: rest))) : W p l e R s m args below meth c H locs cs sl Q (F0 m pc ls (.ref (g k) :: rest)) :=
  g_getN C X (q := k) (k := k) (x_pos hk (by decide)) (x_c10 g cI cB cZ cQ S hk) (ci := 10) rfl x_in10 1 (by decide) (O.2 _ _ _ C.2.2.2.2.2 _ xl_X2_91) rfl hdg kk
theorem xp_X2_91 (C : gC p s m args meth c cc nL RX2 ret D (xtys cI cB cZ cQ) xord g Am) (O : xO g cI cB cZ cQ Am) (X : gX D (xcell g cI cB cZ cQ) xord g S s H locs) (hk : xk k = 10) {x : Int32} (hS : S' = sU S k 1 x) (hdg : decode cc pc = .ok (.putfield 91, 3)) (kk : ∀ (H1 : Heap) (locs1 : List Loc), gX D (xcell g cI cB cZ cQ) xord g S' s H1 locs1 → W p l e R s m args below meth c H1 locs1 cs sl Q (F0 m (pc + 3) ls rest)) : W p l e R s m args below meth c H locs cs sl Q (F0 m pc ls (.int x :: .ref (g k) :: rest)) := by
  subst hS
  exact g_putN C O.1 X (q := k) (k := k) (x_pos hk (by decide)) (x_c10 g cI cB cZ cQ S hk) (ci := 10) rfl x_in10 tyX10 tyX10_ok nmX10 1 (by decide) (O.2 _ _ _ C.2.2.2.2.2 _ xl_X2_91) rfl rfl rfl (Nat.le_of_ble_eq_true rfl) (fun i h => sU_ne h) (by rw [x_c10 g cI cB cZ cQ _ hk, sU_eq]; rfl) hdg kk
theorem xl_X11_250 : Cond.fieldLinkNest RX11 250 "GrottoHours$Walk" "sin" "I" "GrottoHours" ∈ xNest := List.mem_of_getElem? (i := 81) rfl
theorem xg_X11_250 (C : gC p s m args meth c cc nL RX11 ret D (xtys cI cB cZ cQ) xord g Am) (O : xO g cI cB cZ cQ Am) (X : gX D (xcell g cI cB cZ cQ) xord g S s H locs) (hk : xk k = 10) (hdg : decode cc pc = .ok (.getfield 250, 3)) (kk : W p l e R s m args below meth c H locs cs sl Q (F0 m (pc + 3) ls (.int (S k 1) :: rest))) : W p l e R s m args below meth c H locs cs sl Q (F0 m pc ls (.ref (g k) :: rest)) :=
  g_getN C X (q := k) (k := k) (x_pos hk (by decide)) (x_c10 g cI cB cZ cQ S hk) (ci := 10) rfl x_in10 1 (by decide) (O.2 _ _ _ C.2.2.2.2.2 _ xl_X11_250) rfl hdg kk
theorem xp_X11_250 (C : gC p s m args meth c cc nL RX11 ret D (xtys cI cB cZ cQ) xord g Am) (O : xO g cI cB cZ cQ Am) (X : gX D (xcell g cI cB cZ cQ) xord g S s H locs) (hk : xk k = 10) {x : Int32} (hS : S' = sU S k 1 x) (hdg : decode cc pc = .ok (.putfield 250, 3)) (kk : ∀ (H1 : Heap) (locs1 : List Loc), gX D (xcell g cI cB cZ cQ) xord g S' s H1 locs1 → W p l e R s m args below meth c H1 locs1 cs sl Q (F0 m (pc + 3) ls rest)) : W p l e R s m args below meth c H locs cs sl Q (F0 m pc ls (.int x :: .ref (g k) :: rest)) := by
  subst hS
  exact g_putN C O.1 X (q := k) (k := k) (x_pos hk (by decide)) (x_c10 g cI cB cZ cQ S hk) (ci := 10) rfl x_in10 tyX10 tyX10_ok nmX10 1 (by decide) (O.2 _ _ _ C.2.2.2.2.2 _ xl_X11_250) rfl rfl rfl (Nat.le_of_ble_eq_true rfl) (fun i h => sU_ne h) (by rw [x_c10 g cI cB cZ cQ _ hk, sU_eq]; rfl) hdg kk
theorem xl_X10_18 : Cond.fieldLink RX10 18 "GrottoHours$Walk" "purse" "I" ∈ gT := gT_c2 75 rfl rfl
theorem xg_X10_18 (C : gC p s m args meth c cc nL RX10 ret D (xtys cI cB cZ cQ) xord g Am) (O : xO g cI cB cZ cQ Am) (X : gX D (xcell g cI cB cZ cQ) xord g S s H locs) (hk : xk k = 10) (hdg : decode cc pc = .ok (.getfield 18, 3)) (kk : W p l e R s m args below meth c H locs cs sl Q (F0 m (pc + 3) ls (.int (S k 2) :: rest))) : W p l e R s m args below meth c H locs cs sl Q (F0 m pc ls (.ref (g k) :: rest)) :=
  g_get C X (q := k) (k := k) (x_pos hk (by decide)) (x_c10 g cI cB cZ cQ S hk) (ci := 10) rfl x_in10 2 (by decide) xl_X10_18 rfl hdg kk
theorem xp_X10_18 (C : gC p s m args meth c cc nL RX10 ret D (xtys cI cB cZ cQ) xord g Am) (O : xO g cI cB cZ cQ Am) (X : gX D (xcell g cI cB cZ cQ) xord g S s H locs) (hk : xk k = 10) {x : Int32} (hS : S' = sU S k 2 x) (hdg : decode cc pc = .ok (.putfield 18, 3)) (kk : ∀ (H1 : Heap) (locs1 : List Loc), gX D (xcell g cI cB cZ cQ) xord g S' s H1 locs1 → W p l e R s m args below meth c H1 locs1 cs sl Q (F0 m (pc + 3) ls rest)) : W p l e R s m args below meth c H locs cs sl Q (F0 m pc ls (.int x :: .ref (g k) :: rest)) := by
  subst hS
  exact g_put C O.1 X (q := k) (k := k) (x_pos hk (by decide)) (x_c10 g cI cB cZ cQ S hk) (ci := 10) rfl x_in10 tyX10 tyX10_ok nmX10 2 (by decide) xl_X10_18 rfl rfl rfl (Nat.le_of_ble_eq_true rfl) (fun i h => sU_ne h) (by rw [x_c10 g cI cB cZ cQ _ hk, sU_eq]; rfl) hdg kk
theorem xl_X11_252 : Cond.fieldLinkNest RX11 252 "GrottoHours$Walk" "purse" "I" "GrottoHours" ∈ xNest := List.mem_of_getElem? (i := 82) rfl
theorem xg_X11_252 (C : gC p s m args meth c cc nL RX11 ret D (xtys cI cB cZ cQ) xord g Am) (O : xO g cI cB cZ cQ Am) (X : gX D (xcell g cI cB cZ cQ) xord g S s H locs) (hk : xk k = 10) (hdg : decode cc pc = .ok (.getfield 252, 3)) (kk : W p l e R s m args below meth c H locs cs sl Q (F0 m (pc + 3) ls (.int (S k 2) :: rest))) : W p l e R s m args below meth c H locs cs sl Q (F0 m pc ls (.ref (g k) :: rest)) :=
  g_getN C X (q := k) (k := k) (x_pos hk (by decide)) (x_c10 g cI cB cZ cQ S hk) (ci := 10) rfl x_in10 2 (by decide) (O.2 _ _ _ C.2.2.2.2.2 _ xl_X11_252) rfl hdg kk
theorem xp_X11_252 (C : gC p s m args meth c cc nL RX11 ret D (xtys cI cB cZ cQ) xord g Am) (O : xO g cI cB cZ cQ Am) (X : gX D (xcell g cI cB cZ cQ) xord g S s H locs) (hk : xk k = 10) {x : Int32} (hS : S' = sU S k 2 x) (hdg : decode cc pc = .ok (.putfield 252, 3)) (kk : ∀ (H1 : Heap) (locs1 : List Loc), gX D (xcell g cI cB cZ cQ) xord g S' s H1 locs1 → W p l e R s m args below meth c H1 locs1 cs sl Q (F0 m (pc + 3) ls rest)) : W p l e R s m args below meth c H locs cs sl Q (F0 m pc ls (.int x :: .ref (g k) :: rest)) := by
  subst hS
  exact g_putN C O.1 X (q := k) (k := k) (x_pos hk (by decide)) (x_c10 g cI cB cZ cQ S hk) (ci := 10) rfl x_in10 tyX10 tyX10_ok nmX10 2 (by decide) (O.2 _ _ _ C.2.2.2.2.2 _ xl_X11_252) rfl rfl rfl (Nat.le_of_ble_eq_true rfl) (fun i h => sU_ne h) (by rw [x_c10 g cI cB cZ cQ _ hk, sU_eq]; rfl) hdg kk
theorem xl_X10_21 : Cond.fieldLink RX10 21 "GrottoHours$Walk" "silences" "I" ∈ gT := gT_c2 77 rfl rfl
theorem xg_X10_21 (C : gC p s m args meth c cc nL RX10 ret D (xtys cI cB cZ cQ) xord g Am) (O : xO g cI cB cZ cQ Am) (X : gX D (xcell g cI cB cZ cQ) xord g S s H locs) (hk : xk k = 10) (hdg : decode cc pc = .ok (.getfield 21, 3)) (kk : W p l e R s m args below meth c H locs cs sl Q (F0 m (pc + 3) ls (.int (S k 3) :: rest))) : W p l e R s m args below meth c H locs cs sl Q (F0 m pc ls (.ref (g k) :: rest)) :=
  g_get C X (q := k) (k := k) (x_pos hk (by decide)) (x_c10 g cI cB cZ cQ S hk) (ci := 10) rfl x_in10 3 (by decide) xl_X10_21 rfl hdg kk
theorem xp_X10_21 (C : gC p s m args meth c cc nL RX10 ret D (xtys cI cB cZ cQ) xord g Am) (O : xO g cI cB cZ cQ Am) (X : gX D (xcell g cI cB cZ cQ) xord g S s H locs) (hk : xk k = 10) {x : Int32} (hS : S' = sU S k 3 x) (hdg : decode cc pc = .ok (.putfield 21, 3)) (kk : ∀ (H1 : Heap) (locs1 : List Loc), gX D (xcell g cI cB cZ cQ) xord g S' s H1 locs1 → W p l e R s m args below meth c H1 locs1 cs sl Q (F0 m (pc + 3) ls rest)) : W p l e R s m args below meth c H locs cs sl Q (F0 m pc ls (.int x :: .ref (g k) :: rest)) := by
  subst hS
  exact g_put C O.1 X (q := k) (k := k) (x_pos hk (by decide)) (x_c10 g cI cB cZ cQ S hk) (ci := 10) rfl x_in10 tyX10 tyX10_ok nmX10 3 (by decide) xl_X10_21 rfl rfl rfl (Nat.le_of_ble_eq_true rfl) (fun i h => sU_ne h) (by rw [x_c10 g cI cB cZ cQ _ hk, sU_eq]; rfl) hdg kk
theorem xl_X11_254 : Cond.fieldLinkNest RX11 254 "GrottoHours$Walk" "silences" "I" "GrottoHours" ∈ xNest := List.mem_of_getElem? (i := 83) rfl
theorem xg_X11_254 (C : gC p s m args meth c cc nL RX11 ret D (xtys cI cB cZ cQ) xord g Am) (O : xO g cI cB cZ cQ Am) (X : gX D (xcell g cI cB cZ cQ) xord g S s H locs) (hk : xk k = 10) (hdg : decode cc pc = .ok (.getfield 254, 3)) (kk : W p l e R s m args below meth c H locs cs sl Q (F0 m (pc + 3) ls (.int (S k 3) :: rest))) : W p l e R s m args below meth c H locs cs sl Q (F0 m pc ls (.ref (g k) :: rest)) :=
  g_getN C X (q := k) (k := k) (x_pos hk (by decide)) (x_c10 g cI cB cZ cQ S hk) (ci := 10) rfl x_in10 3 (by decide) (O.2 _ _ _ C.2.2.2.2.2 _ xl_X11_254) rfl hdg kk
theorem xp_X11_254 (C : gC p s m args meth c cc nL RX11 ret D (xtys cI cB cZ cQ) xord g Am) (O : xO g cI cB cZ cQ Am) (X : gX D (xcell g cI cB cZ cQ) xord g S s H locs) (hk : xk k = 10) {x : Int32} (hS : S' = sU S k 3 x) (hdg : decode cc pc = .ok (.putfield 254, 3)) (kk : ∀ (H1 : Heap) (locs1 : List Loc), gX D (xcell g cI cB cZ cQ) xord g S' s H1 locs1 → W p l e R s m args below meth c H1 locs1 cs sl Q (F0 m (pc + 3) ls rest)) : W p l e R s m args below meth c H locs cs sl Q (F0 m pc ls (.int x :: .ref (g k) :: rest)) := by
  subst hS
  exact g_putN C O.1 X (q := k) (k := k) (x_pos hk (by decide)) (x_c10 g cI cB cZ cQ S hk) (ci := 10) rfl x_in10 tyX10 tyX10_ok nmX10 3 (by decide) (O.2 _ _ _ C.2.2.2.2.2 _ xl_X11_254) rfl rfl rfl (Nat.le_of_ble_eq_true rfl) (fun i h => sU_ne h) (by rw [x_c10 g cI cB cZ cQ _ hk, sU_eq]; rfl) hdg kk
theorem xl_X10_24 : Cond.fieldLink RX10 24 "GrottoHours$Walk" "hired" "I" ∈ gT := gT_c2 79 rfl rfl
theorem xg_X10_24 (C : gC p s m args meth c cc nL RX10 ret D (xtys cI cB cZ cQ) xord g Am) (O : xO g cI cB cZ cQ Am) (X : gX D (xcell g cI cB cZ cQ) xord g S s H locs) (hk : xk k = 10) (hdg : decode cc pc = .ok (.getfield 24, 3)) (kk : W p l e R s m args below meth c H locs cs sl Q (F0 m (pc + 3) ls (.int (S k 4) :: rest))) : W p l e R s m args below meth c H locs cs sl Q (F0 m pc ls (.ref (g k) :: rest)) :=
  g_get C X (q := k) (k := k) (x_pos hk (by decide)) (x_c10 g cI cB cZ cQ S hk) (ci := 10) rfl x_in10 4 (by decide) xl_X10_24 rfl hdg kk
theorem xp_X10_24 (C : gC p s m args meth c cc nL RX10 ret D (xtys cI cB cZ cQ) xord g Am) (O : xO g cI cB cZ cQ Am) (X : gX D (xcell g cI cB cZ cQ) xord g S s H locs) (hk : xk k = 10) {x : Int32} (hS : S' = sU S k 4 x) (hdg : decode cc pc = .ok (.putfield 24, 3)) (kk : ∀ (H1 : Heap) (locs1 : List Loc), gX D (xcell g cI cB cZ cQ) xord g S' s H1 locs1 → W p l e R s m args below meth c H1 locs1 cs sl Q (F0 m (pc + 3) ls rest)) : W p l e R s m args below meth c H locs cs sl Q (F0 m pc ls (.int x :: .ref (g k) :: rest)) := by
  subst hS
  exact g_put C O.1 X (q := k) (k := k) (x_pos hk (by decide)) (x_c10 g cI cB cZ cQ S hk) (ci := 10) rfl x_in10 tyX10 tyX10_ok nmX10 4 (by decide) xl_X10_24 rfl rfl rfl (Nat.le_of_ble_eq_true rfl) (fun i h => sU_ne h) (by rw [x_c10 g cI cB cZ cQ _ hk, sU_eq]; rfl) hdg kk
theorem xl_X11_256 : Cond.fieldLinkNest RX11 256 "GrottoHours$Walk" "hired" "I" "GrottoHours" ∈ xNest := List.mem_of_getElem? (i := 84) rfl
theorem xg_X11_256 (C : gC p s m args meth c cc nL RX11 ret D (xtys cI cB cZ cQ) xord g Am) (O : xO g cI cB cZ cQ Am) (X : gX D (xcell g cI cB cZ cQ) xord g S s H locs) (hk : xk k = 10) (hdg : decode cc pc = .ok (.getfield 256, 3)) (kk : W p l e R s m args below meth c H locs cs sl Q (F0 m (pc + 3) ls (.int (S k 4) :: rest))) : W p l e R s m args below meth c H locs cs sl Q (F0 m pc ls (.ref (g k) :: rest)) :=
  g_getN C X (q := k) (k := k) (x_pos hk (by decide)) (x_c10 g cI cB cZ cQ S hk) (ci := 10) rfl x_in10 4 (by decide) (O.2 _ _ _ C.2.2.2.2.2 _ xl_X11_256) rfl hdg kk
theorem xp_X11_256 (C : gC p s m args meth c cc nL RX11 ret D (xtys cI cB cZ cQ) xord g Am) (O : xO g cI cB cZ cQ Am) (X : gX D (xcell g cI cB cZ cQ) xord g S s H locs) (hk : xk k = 10) {x : Int32} (hS : S' = sU S k 4 x) (hdg : decode cc pc = .ok (.putfield 256, 3)) (kk : ∀ (H1 : Heap) (locs1 : List Loc), gX D (xcell g cI cB cZ cQ) xord g S' s H1 locs1 → W p l e R s m args below meth c H1 locs1 cs sl Q (F0 m (pc + 3) ls rest)) : W p l e R s m args below meth c H locs cs sl Q (F0 m pc ls (.int x :: .ref (g k) :: rest)) := by
  subst hS
  exact g_putN C O.1 X (q := k) (k := k) (x_pos hk (by decide)) (x_c10 g cI cB cZ cQ S hk) (ci := 10) rfl x_in10 tyX10 tyX10_ok nmX10 4 (by decide) (O.2 _ _ _ C.2.2.2.2.2 _ xl_X11_256) rfl rfl rfl (Nat.le_of_ble_eq_true rfl) (fun i h => sU_ne h) (by rw [x_c10 g cI cB cZ cQ _ hk, sU_eq]; rfl) hdg kk
theorem xl_X10_27 : Cond.fieldLink RX10 27 "GrottoHours$Walk" "hour" "I" ∈ gT := gT_c2 81 rfl rfl
theorem xg_X10_27 (C : gC p s m args meth c cc nL RX10 ret D (xtys cI cB cZ cQ) xord g Am) (O : xO g cI cB cZ cQ Am) (X : gX D (xcell g cI cB cZ cQ) xord g S s H locs) (hk : xk k = 10) (hdg : decode cc pc = .ok (.getfield 27, 3)) (kk : W p l e R s m args below meth c H locs cs sl Q (F0 m (pc + 3) ls (.int (S k 5) :: rest))) : W p l e R s m args below meth c H locs cs sl Q (F0 m pc ls (.ref (g k) :: rest)) :=
  g_get C X (q := k) (k := k) (x_pos hk (by decide)) (x_c10 g cI cB cZ cQ S hk) (ci := 10) rfl x_in10 5 (by decide) xl_X10_27 rfl hdg kk
theorem xp_X10_27 (C : gC p s m args meth c cc nL RX10 ret D (xtys cI cB cZ cQ) xord g Am) (O : xO g cI cB cZ cQ Am) (X : gX D (xcell g cI cB cZ cQ) xord g S s H locs) (hk : xk k = 10) {x : Int32} (hS : S' = sU S k 5 x) (hdg : decode cc pc = .ok (.putfield 27, 3)) (kk : ∀ (H1 : Heap) (locs1 : List Loc), gX D (xcell g cI cB cZ cQ) xord g S' s H1 locs1 → W p l e R s m args below meth c H1 locs1 cs sl Q (F0 m (pc + 3) ls rest)) : W p l e R s m args below meth c H locs cs sl Q (F0 m pc ls (.int x :: .ref (g k) :: rest)) := by
  subst hS
  exact g_put C O.1 X (q := k) (k := k) (x_pos hk (by decide)) (x_c10 g cI cB cZ cQ S hk) (ci := 10) rfl x_in10 tyX10 tyX10_ok nmX10 5 (by decide) xl_X10_27 rfl rfl rfl (Nat.le_of_ble_eq_true rfl) (fun i h => sU_ne h) (by rw [x_c10 g cI cB cZ cQ _ hk, sU_eq]; rfl) hdg kk
theorem xl_X2_94 : Cond.fieldLinkNest RX2 94 "GrottoHours$Walk" "hour" "I" "GrottoHours" ∈ xNest := List.mem_of_getElem? (i := 85) rfl
theorem xg_X2_94 (C : gC p s m args meth c cc nL RX2 ret D (xtys cI cB cZ cQ) xord g Am) (O : xO g cI cB cZ cQ Am) (X : gX D (xcell g cI cB cZ cQ) xord g S s H locs) (hk : xk k = 10) (hdg : decode cc pc = .ok (.getfield 94, 3)) (kk : W p l e R s m args below meth c H locs cs sl Q (F0 m (pc + 3) ls (.int (S k 5) :: rest))) : W p l e R s m args below meth c H locs cs sl Q (F0 m pc ls (.ref (g k) :: rest)) :=
  g_getN C X (q := k) (k := k) (x_pos hk (by decide)) (x_c10 g cI cB cZ cQ S hk) (ci := 10) rfl x_in10 5 (by decide) (O.2 _ _ _ C.2.2.2.2.2 _ xl_X2_94) rfl hdg kk
theorem xp_X2_94 (C : gC p s m args meth c cc nL RX2 ret D (xtys cI cB cZ cQ) xord g Am) (O : xO g cI cB cZ cQ Am) (X : gX D (xcell g cI cB cZ cQ) xord g S s H locs) (hk : xk k = 10) {x : Int32} (hS : S' = sU S k 5 x) (hdg : decode cc pc = .ok (.putfield 94, 3)) (kk : ∀ (H1 : Heap) (locs1 : List Loc), gX D (xcell g cI cB cZ cQ) xord g S' s H1 locs1 → W p l e R s m args below meth c H1 locs1 cs sl Q (F0 m (pc + 3) ls rest)) : W p l e R s m args below meth c H locs cs sl Q (F0 m pc ls (.int x :: .ref (g k) :: rest)) := by
  subst hS
  exact g_putN C O.1 X (q := k) (k := k) (x_pos hk (by decide)) (x_c10 g cI cB cZ cQ S hk) (ci := 10) rfl x_in10 tyX10 tyX10_ok nmX10 5 (by decide) (O.2 _ _ _ C.2.2.2.2.2 _ xl_X2_94) rfl rfl rfl (Nat.le_of_ble_eq_true rfl) (fun i h => sU_ne h) (by rw [x_c10 g cI cB cZ cQ _ hk, sU_eq]; rfl) hdg kk
theorem xl_X11_261 : Cond.fieldLinkNest RX11 261 "GrottoHours$Walk" "hour" "I" "GrottoHours" ∈ xNest := List.mem_of_getElem? (i := 86) rfl
theorem xg_X11_261 (C : gC p s m args meth c cc nL RX11 ret D (xtys cI cB cZ cQ) xord g Am) (O : xO g cI cB cZ cQ Am) (X : gX D (xcell g cI cB cZ cQ) xord g S s H locs) (hk : xk k = 10) (hdg : decode cc pc = .ok (.getfield 261, 3)) (kk : W p l e R s m args below meth c H locs cs sl Q (F0 m (pc + 3) ls (.int (S k 5) :: rest))) : W p l e R s m args below meth c H locs cs sl Q (F0 m pc ls (.ref (g k) :: rest)) :=
  g_getN C X (q := k) (k := k) (x_pos hk (by decide)) (x_c10 g cI cB cZ cQ S hk) (ci := 10) rfl x_in10 5 (by decide) (O.2 _ _ _ C.2.2.2.2.2 _ xl_X11_261) rfl hdg kk
theorem xp_X11_261 (C : gC p s m args meth c cc nL RX11 ret D (xtys cI cB cZ cQ) xord g Am) (O : xO g cI cB cZ cQ Am) (X : gX D (xcell g cI cB cZ cQ) xord g S s H locs) (hk : xk k = 10) {x : Int32} (hS : S' = sU S k 5 x) (hdg : decode cc pc = .ok (.putfield 261, 3)) (kk : ∀ (H1 : Heap) (locs1 : List Loc), gX D (xcell g cI cB cZ cQ) xord g S' s H1 locs1 → W p l e R s m args below meth c H1 locs1 cs sl Q (F0 m (pc + 3) ls rest)) : W p l e R s m args below meth c H locs cs sl Q (F0 m pc ls (.int x :: .ref (g k) :: rest)) := by
  subst hS
  exact g_putN C O.1 X (q := k) (k := k) (x_pos hk (by decide)) (x_c10 g cI cB cZ cQ S hk) (ci := 10) rfl x_in10 tyX10 tyX10_ok nmX10 5 (by decide) (O.2 _ _ _ C.2.2.2.2.2 _ xl_X11_261) rfl rfl rfl (Nat.le_of_ble_eq_true rfl) (fun i h => sU_ne h) (by rw [x_c10 g cI cB cZ cQ _ hk, sU_eq]; rfl) hdg kk
theorem xl_X10_30 : Cond.fieldLink RX10 30 "GrottoHours$Walk" "wet" "I" ∈ gT := gT_c2 84 rfl rfl
theorem xg_X10_30 (C : gC p s m args meth c cc nL RX10 ret D (xtys cI cB cZ cQ) xord g Am) (O : xO g cI cB cZ cQ Am) (X : gX D (xcell g cI cB cZ cQ) xord g S s H locs) (hk : xk k = 10) (hdg : decode cc pc = .ok (.getfield 30, 3)) (kk : W p l e R s m args below meth c H locs cs sl Q (F0 m (pc + 3) ls (.int (S k 6) :: rest))) : W p l e R s m args below meth c H locs cs sl Q (F0 m pc ls (.ref (g k) :: rest)) :=
  g_get C X (q := k) (k := k) (x_pos hk (by decide)) (x_c10 g cI cB cZ cQ S hk) (ci := 10) rfl x_in10 6 (by decide) xl_X10_30 rfl hdg kk
theorem xp_X10_30 (C : gC p s m args meth c cc nL RX10 ret D (xtys cI cB cZ cQ) xord g Am) (O : xO g cI cB cZ cQ Am) (X : gX D (xcell g cI cB cZ cQ) xord g S s H locs) (hk : xk k = 10) {x : Int32} (hS : S' = sU S k 6 x) (hdg : decode cc pc = .ok (.putfield 30, 3)) (kk : ∀ (H1 : Heap) (locs1 : List Loc), gX D (xcell g cI cB cZ cQ) xord g S' s H1 locs1 → W p l e R s m args below meth c H1 locs1 cs sl Q (F0 m (pc + 3) ls rest)) : W p l e R s m args below meth c H locs cs sl Q (F0 m pc ls (.int x :: .ref (g k) :: rest)) := by
  subst hS
  exact g_put C O.1 X (q := k) (k := k) (x_pos hk (by decide)) (x_c10 g cI cB cZ cQ S hk) (ci := 10) rfl x_in10 tyX10 tyX10_ok nmX10 6 (by decide) xl_X10_30 rfl rfl rfl (Nat.le_of_ble_eq_true rfl) (fun i h => sU_ne h) (by rw [x_c10 g cI cB cZ cQ _ hk, sU_eq]; rfl) hdg kk
theorem xl_X10_33 : Cond.fieldLink RX10 33 "GrottoHours$Walk" "drained" "I" ∈ gT := gT_c2 85 rfl rfl
theorem xg_X10_33 (C : gC p s m args meth c cc nL RX10 ret D (xtys cI cB cZ cQ) xord g Am) (O : xO g cI cB cZ cQ Am) (X : gX D (xcell g cI cB cZ cQ) xord g S s H locs) (hk : xk k = 10) (hdg : decode cc pc = .ok (.getfield 33, 3)) (kk : W p l e R s m args below meth c H locs cs sl Q (F0 m (pc + 3) ls (.int (S k 7) :: rest))) : W p l e R s m args below meth c H locs cs sl Q (F0 m pc ls (.ref (g k) :: rest)) :=
  g_get C X (q := k) (k := k) (x_pos hk (by decide)) (x_c10 g cI cB cZ cQ S hk) (ci := 10) rfl x_in10 7 (by decide) xl_X10_33 rfl hdg kk
theorem xp_X10_33 (C : gC p s m args meth c cc nL RX10 ret D (xtys cI cB cZ cQ) xord g Am) (O : xO g cI cB cZ cQ Am) (X : gX D (xcell g cI cB cZ cQ) xord g S s H locs) (hk : xk k = 10) {x : Int32} (hS : S' = sU S k 7 x) (hdg : decode cc pc = .ok (.putfield 33, 3)) (kk : ∀ (H1 : Heap) (locs1 : List Loc), gX D (xcell g cI cB cZ cQ) xord g S' s H1 locs1 → W p l e R s m args below meth c H1 locs1 cs sl Q (F0 m (pc + 3) ls rest)) : W p l e R s m args below meth c H locs cs sl Q (F0 m pc ls (.int x :: .ref (g k) :: rest)) := by
  subst hS
  exact g_put C O.1 X (q := k) (k := k) (x_pos hk (by decide)) (x_c10 g cI cB cZ cQ S hk) (ci := 10) rfl x_in10 tyX10 tyX10_ok nmX10 7 (by decide) xl_X10_33 rfl rfl rfl (Nat.le_of_ble_eq_true rfl) (fun i h => sU_ne h) (by rw [x_c10 g cI cB cZ cQ _ hk, sU_eq]; rfl) hdg kk
theorem xl_X6_13 : Cond.fieldLink RX6 13 "GrottoHours$Sharing" "best" "[[I" ∈ gT := gT_c2 111 rfl rfl
theorem xg_X6_13 (C : gC p s m args meth c cc nL RX6 ret D (xtys cI cB cZ cQ) xord g Am) (O : xO g cI cB cZ cQ Am) (X : gX D (xcell g cI cB cZ cQ) xord g S s H locs) (hk : xk k = 6) {j : Nat} (hj : k + 1 = j) (hdg : decode cc pc = .ok (.getfield 13, 3)) (kk : W p l e R s m args below meth c H locs cs sl Q (F0 m (pc + 3) ls (.ref (g j) :: rest))) : W p l e R s m args below meth c H locs cs sl Q (F0 m pc ls (.ref (g k) :: rest)) := by
  subst hj
  exact g_get C X (q := k) (k := k) (x_pos hk (by decide)) (x_c6 g cI cB cZ cQ S hk) (ci := 6) rfl x_in6 0 (by decide) xl_X6_13 rfl hdg kk
theorem xl_X6_16 : Cond.fieldLink RX6 16 "GrottoHours$Sharing" "row" "[I" ∈ gT := gT_c2 112 rfl rfl
theorem xg_X6_16 (C : gC p s m args meth c cc nL RX6 ret D (xtys cI cB cZ cQ) xord g Am) (O : xO g cI cB cZ cQ Am) (X : gX D (xcell g cI cB cZ cQ) xord g S s H locs) (hk : xk k = 6) {j : Nat} (hj : k + 9 = j) (hdg : decode cc pc = .ok (.getfield 16, 3)) (kk : W p l e R s m args below meth c H locs cs sl Q (F0 m (pc + 3) ls (.ref (g j) :: rest))) : W p l e R s m args below meth c H locs cs sl Q (F0 m pc ls (.ref (g k) :: rest)) := by
  subst hj
  exact g_get C X (q := k) (k := k) (x_pos hk (by decide)) (x_c6 g cI cB cZ cQ S hk) (ci := 6) rfl x_in6 1 (by decide) xl_X6_16 rfl hdg kk
theorem xl_X11_301 : Cond.fieldLinkNest RX11 301 "GrottoHours$Sharing" "row" "[I" "GrottoHours" ∈ xNest := List.mem_of_getElem? (i := 88) rfl
theorem xg_X11_301 (C : gC p s m args meth c cc nL RX11 ret D (xtys cI cB cZ cQ) xord g Am) (O : xO g cI cB cZ cQ Am) (X : gX D (xcell g cI cB cZ cQ) xord g S s H locs) (hk : xk k = 6) {j : Nat} (hj : k + 9 = j) (hdg : decode cc pc = .ok (.getfield 301, 3)) (kk : W p l e R s m args below meth c H locs cs sl Q (F0 m (pc + 3) ls (.ref (g j) :: rest))) : W p l e R s m args below meth c H locs cs sl Q (F0 m pc ls (.ref (g k) :: rest)) := by
  subst hj
  exact g_getN C X (q := k) (k := k) (x_pos hk (by decide)) (x_c6 g cI cB cZ cQ S hk) (ci := 6) rfl x_in6 1 (by decide) (O.2 _ _ _ C.2.2.2.2.2 _ xl_X11_301) rfl hdg kk
theorem xl_X6_20 : Cond.fieldLink RX6 20 "GrottoHours$Sharing" "many" "I" ∈ gT := gT_c2 114 rfl rfl
theorem xg_X6_20 (C : gC p s m args meth c cc nL RX6 ret D (xtys cI cB cZ cQ) xord g Am) (O : xO g cI cB cZ cQ Am) (X : gX D (xcell g cI cB cZ cQ) xord g S s H locs) (hk : xk k = 6) (hdg : decode cc pc = .ok (.getfield 20, 3)) (kk : W p l e R s m args below meth c H locs cs sl Q (F0 m (pc + 3) ls (.int (S k 2) :: rest))) : W p l e R s m args below meth c H locs cs sl Q (F0 m pc ls (.ref (g k) :: rest)) :=
  g_get C X (q := k) (k := k) (x_pos hk (by decide)) (x_c6 g cI cB cZ cQ S hk) (ci := 6) rfl x_in6 2 (by decide) xl_X6_20 rfl hdg kk
theorem xp_X6_20 (C : gC p s m args meth c cc nL RX6 ret D (xtys cI cB cZ cQ) xord g Am) (O : xO g cI cB cZ cQ Am) (X : gX D (xcell g cI cB cZ cQ) xord g S s H locs) (hk : xk k = 6) {x : Int32} (hS : S' = sU S k 2 x) (hdg : decode cc pc = .ok (.putfield 20, 3)) (kk : ∀ (H1 : Heap) (locs1 : List Loc), gX D (xcell g cI cB cZ cQ) xord g S' s H1 locs1 → W p l e R s m args below meth c H1 locs1 cs sl Q (F0 m (pc + 3) ls rest)) : W p l e R s m args below meth c H locs cs sl Q (F0 m pc ls (.int x :: .ref (g k) :: rest)) := by
  subst hS
  exact g_put C O.1 X (q := k) (k := k) (x_pos hk (by decide)) (x_c6 g cI cB cZ cQ S hk) (ci := 6) rfl x_in6 tyX6 tyX6_ok nmX6 2 (by decide) xl_X6_20 rfl rfl rfl (Nat.le_of_ble_eq_true rfl) (fun i h => sU_ne h) (by rw [x_c6 g cI cB cZ cQ _ hk, sU_eq]; rfl) hdg kk
theorem xl_X11_297 : Cond.fieldLinkNest RX11 297 "GrottoHours$Sharing" "many" "I" "GrottoHours" ∈ xNest := List.mem_of_getElem? (i := 89) rfl
theorem xg_X11_297 (C : gC p s m args meth c cc nL RX11 ret D (xtys cI cB cZ cQ) xord g Am) (O : xO g cI cB cZ cQ Am) (X : gX D (xcell g cI cB cZ cQ) xord g S s H locs) (hk : xk k = 6) (hdg : decode cc pc = .ok (.getfield 297, 3)) (kk : W p l e R s m args below meth c H locs cs sl Q (F0 m (pc + 3) ls (.int (S k 2) :: rest))) : W p l e R s m args below meth c H locs cs sl Q (F0 m pc ls (.ref (g k) :: rest)) :=
  g_getN C X (q := k) (k := k) (x_pos hk (by decide)) (x_c6 g cI cB cZ cQ S hk) (ci := 6) rfl x_in6 2 (by decide) (O.2 _ _ _ C.2.2.2.2.2 _ xl_X11_297) rfl hdg kk
theorem xp_X11_297 (C : gC p s m args meth c cc nL RX11 ret D (xtys cI cB cZ cQ) xord g Am) (O : xO g cI cB cZ cQ Am) (X : gX D (xcell g cI cB cZ cQ) xord g S s H locs) (hk : xk k = 6) {x : Int32} (hS : S' = sU S k 2 x) (hdg : decode cc pc = .ok (.putfield 297, 3)) (kk : ∀ (H1 : Heap) (locs1 : List Loc), gX D (xcell g cI cB cZ cQ) xord g S' s H1 locs1 → W p l e R s m args below meth c H1 locs1 cs sl Q (F0 m (pc + 3) ls rest)) : W p l e R s m args below meth c H locs cs sl Q (F0 m pc ls (.int x :: .ref (g k) :: rest)) := by
  subst hS
  exact g_putN C O.1 X (q := k) (k := k) (x_pos hk (by decide)) (x_c6 g cI cB cZ cQ S hk) (ci := 6) rfl x_in6 tyX6 tyX6_ok nmX6 2 (by decide) (O.2 _ _ _ C.2.2.2.2.2 _ xl_X11_297) rfl rfl rfl (Nat.le_of_ble_eq_true rfl) (fun i h => sU_ne h) (by rw [x_c6 g cI cB cZ cQ _ hk, sU_eq]; rfl) hdg kk
theorem xl_X6_24 : Cond.fieldLink RX6 24 "GrottoHours$Sharing" "much" "I" ∈ gT := gT_c2 116 rfl rfl
theorem xg_X6_24 (C : gC p s m args meth c cc nL RX6 ret D (xtys cI cB cZ cQ) xord g Am) (O : xO g cI cB cZ cQ Am) (X : gX D (xcell g cI cB cZ cQ) xord g S s H locs) (hk : xk k = 6) (hdg : decode cc pc = .ok (.getfield 24, 3)) (kk : W p l e R s m args below meth c H locs cs sl Q (F0 m (pc + 3) ls (.int (S k 3) :: rest))) : W p l e R s m args below meth c H locs cs sl Q (F0 m pc ls (.ref (g k) :: rest)) :=
  g_get C X (q := k) (k := k) (x_pos hk (by decide)) (x_c6 g cI cB cZ cQ S hk) (ci := 6) rfl x_in6 3 (by decide) xl_X6_24 rfl hdg kk
theorem xp_X6_24 (C : gC p s m args meth c cc nL RX6 ret D (xtys cI cB cZ cQ) xord g Am) (O : xO g cI cB cZ cQ Am) (X : gX D (xcell g cI cB cZ cQ) xord g S s H locs) (hk : xk k = 6) {x : Int32} (hS : S' = sU S k 3 x) (hdg : decode cc pc = .ok (.putfield 24, 3)) (kk : ∀ (H1 : Heap) (locs1 : List Loc), gX D (xcell g cI cB cZ cQ) xord g S' s H1 locs1 → W p l e R s m args below meth c H1 locs1 cs sl Q (F0 m (pc + 3) ls rest)) : W p l e R s m args below meth c H locs cs sl Q (F0 m pc ls (.int x :: .ref (g k) :: rest)) := by
  subst hS
  exact g_put C O.1 X (q := k) (k := k) (x_pos hk (by decide)) (x_c6 g cI cB cZ cQ S hk) (ci := 6) rfl x_in6 tyX6 tyX6_ok nmX6 3 (by decide) xl_X6_24 rfl rfl rfl (Nat.le_of_ble_eq_true rfl) (fun i h => sU_ne h) (by rw [x_c6 g cI cB cZ cQ _ hk, sU_eq]; rfl) hdg kk
theorem xl_X11_298 : Cond.fieldLinkNest RX11 298 "GrottoHours$Sharing" "much" "I" "GrottoHours" ∈ xNest := List.mem_of_getElem? (i := 90) rfl
theorem xg_X11_298 (C : gC p s m args meth c cc nL RX11 ret D (xtys cI cB cZ cQ) xord g Am) (O : xO g cI cB cZ cQ Am) (X : gX D (xcell g cI cB cZ cQ) xord g S s H locs) (hk : xk k = 6) (hdg : decode cc pc = .ok (.getfield 298, 3)) (kk : W p l e R s m args below meth c H locs cs sl Q (F0 m (pc + 3) ls (.int (S k 3) :: rest))) : W p l e R s m args below meth c H locs cs sl Q (F0 m pc ls (.ref (g k) :: rest)) :=
  g_getN C X (q := k) (k := k) (x_pos hk (by decide)) (x_c6 g cI cB cZ cQ S hk) (ci := 6) rfl x_in6 3 (by decide) (O.2 _ _ _ C.2.2.2.2.2 _ xl_X11_298) rfl hdg kk
theorem xp_X11_298 (C : gC p s m args meth c cc nL RX11 ret D (xtys cI cB cZ cQ) xord g Am) (O : xO g cI cB cZ cQ Am) (X : gX D (xcell g cI cB cZ cQ) xord g S s H locs) (hk : xk k = 6) {x : Int32} (hS : S' = sU S k 3 x) (hdg : decode cc pc = .ok (.putfield 298, 3)) (kk : ∀ (H1 : Heap) (locs1 : List Loc), gX D (xcell g cI cB cZ cQ) xord g S' s H1 locs1 → W p l e R s m args below meth c H1 locs1 cs sl Q (F0 m (pc + 3) ls rest)) : W p l e R s m args below meth c H locs cs sl Q (F0 m pc ls (.int x :: .ref (g k) :: rest)) := by
  subst hS
  exact g_putN C O.1 X (q := k) (k := k) (x_pos hk (by decide)) (x_c6 g cI cB cZ cQ S hk) (ci := 6) rfl x_in6 tyX6 tyX6_ok nmX6 3 (by decide) (O.2 _ _ _ C.2.2.2.2.2 _ xl_X11_298) rfl rfl rfl (Nat.le_of_ble_eq_true rfl) (fun i h => sU_ne h) (by rw [x_c6 g cI cB cZ cQ _ hk, sU_eq]; rfl) hdg kk
theorem xl_X2_11 : Cond.fieldLink RX2 11 "GrottoHours$Guess" "sins" "[[I" ∈ gT := gT_c2 134 rfl rfl
theorem xg_X2_11 (C : gC p s m args meth c cc nL RX2 ret D (xtys cI cB cZ cQ) xord g Am) (O : xO g cI cB cZ cQ Am) (X : gX D (xcell g cI cB cZ cQ) xord g S s H locs) (hk : xk k = 2) {j : Nat} (hj : k + 1 = j) (hdg : decode cc pc = .ok (.getfield 11, 3)) (kk : W p l e R s m args below meth c H locs cs sl Q (F0 m (pc + 3) ls (.ref (g j) :: rest))) : W p l e R s m args below meth c H locs cs sl Q (F0 m pc ls (.ref (g k) :: rest)) := by
  subst hj
  exact g_get C X (q := k) (k := k) (x_pos hk (by decide)) (x_c2 g cI cB cZ cQ S hk) (ci := 2) rfl x_in2 0 (by decide) xl_X2_11 rfl hdg kk
theorem xl_X2_16 : Cond.fieldLink RX2 16 "GrottoHours$Guess" "course" "[I" ∈ gT := gT_c2 135 rfl rfl
theorem xg_X2_16 (C : gC p s m args meth c cc nL RX2 ret D (xtys cI cB cZ cQ) xord g Am) (O : xO g cI cB cZ cQ Am) (X : gX D (xcell g cI cB cZ cQ) xord g S s H locs) (hk : xk k = 2) {j : Nat} (hj : k + 8 = j) (hdg : decode cc pc = .ok (.getfield 16, 3)) (kk : W p l e R s m args below meth c H locs cs sl Q (F0 m (pc + 3) ls (.ref (g j) :: rest))) : W p l e R s m args below meth c H locs cs sl Q (F0 m pc ls (.ref (g k) :: rest)) := by
  subst hj
  exact g_get C X (q := k) (k := k) (x_pos hk (by decide)) (x_c2 g cI cB cZ cQ S hk) (ci := 2) rfl x_in2 1 (by decide) xl_X2_16 rfl hdg kk
theorem xl_X2_20 : Cond.fieldLink RX2 20 "GrottoHours$Guess" "worstBits" "[I" ∈ gT := gT_c2 136 rfl rfl
theorem xg_X2_20 (C : gC p s m args meth c cc nL RX2 ret D (xtys cI cB cZ cQ) xord g Am) (O : xO g cI cB cZ cQ Am) (X : gX D (xcell g cI cB cZ cQ) xord g S s H locs) (hk : xk k = 2) {j : Nat} (hj : k + 9 = j) (hdg : decode cc pc = .ok (.getfield 20, 3)) (kk : W p l e R s m args below meth c H locs cs sl Q (F0 m (pc + 3) ls (.ref (g j) :: rest))) : W p l e R s m args below meth c H locs cs sl Q (F0 m pc ls (.ref (g k) :: rest)) := by
  subst hj
  exact g_get C X (q := k) (k := k) (x_pos hk (by decide)) (x_c2 g cI cB cZ cQ S hk) (ci := 2) rfl x_in2 2 (by decide) xl_X2_20 rfl hdg kk
theorem xl_X2_23 : Cond.fieldLink RX2 23 "GrottoHours$Guess" "many" "I" ∈ gT := gT_c2 137 rfl rfl
theorem xg_X2_23 (C : gC p s m args meth c cc nL RX2 ret D (xtys cI cB cZ cQ) xord g Am) (O : xO g cI cB cZ cQ Am) (X : gX D (xcell g cI cB cZ cQ) xord g S s H locs) (hk : xk k = 2) (hdg : decode cc pc = .ok (.getfield 23, 3)) (kk : W p l e R s m args below meth c H locs cs sl Q (F0 m (pc + 3) ls (.int (S k 3) :: rest))) : W p l e R s m args below meth c H locs cs sl Q (F0 m pc ls (.ref (g k) :: rest)) :=
  g_get C X (q := k) (k := k) (x_pos hk (by decide)) (x_c2 g cI cB cZ cQ S hk) (ci := 2) rfl x_in2 3 (by decide) xl_X2_23 rfl hdg kk
theorem xp_X2_23 (C : gC p s m args meth c cc nL RX2 ret D (xtys cI cB cZ cQ) xord g Am) (O : xO g cI cB cZ cQ Am) (X : gX D (xcell g cI cB cZ cQ) xord g S s H locs) (hk : xk k = 2) {x : Int32} (hS : S' = sU S k 3 x) (hdg : decode cc pc = .ok (.putfield 23, 3)) (kk : ∀ (H1 : Heap) (locs1 : List Loc), gX D (xcell g cI cB cZ cQ) xord g S' s H1 locs1 → W p l e R s m args below meth c H1 locs1 cs sl Q (F0 m (pc + 3) ls rest)) : W p l e R s m args below meth c H locs cs sl Q (F0 m pc ls (.int x :: .ref (g k) :: rest)) := by
  subst hS
  exact g_put C O.1 X (q := k) (k := k) (x_pos hk (by decide)) (x_c2 g cI cB cZ cQ S hk) (ci := 2) rfl x_in2 tyX2 tyX2_ok nmX2 3 (by decide) xl_X2_23 rfl rfl rfl (Nat.le_of_ble_eq_true rfl) (fun i h => sU_ne h) (by rw [x_c2 g cI cB cZ cQ _ hk, sU_eq]; rfl) hdg kk
theorem xl_X11_331 : Cond.fieldLinkNest RX11 331 "GrottoHours$Guess" "many" "I" "GrottoHours" ∈ xNest := List.mem_of_getElem? (i := 92) rfl
theorem xg_X11_331 (C : gC p s m args meth c cc nL RX11 ret D (xtys cI cB cZ cQ) xord g Am) (O : xO g cI cB cZ cQ Am) (X : gX D (xcell g cI cB cZ cQ) xord g S s H locs) (hk : xk k = 2) (hdg : decode cc pc = .ok (.getfield 331, 3)) (kk : W p l e R s m args below meth c H locs cs sl Q (F0 m (pc + 3) ls (.int (S k 3) :: rest))) : W p l e R s m args below meth c H locs cs sl Q (F0 m pc ls (.ref (g k) :: rest)) :=
  g_getN C X (q := k) (k := k) (x_pos hk (by decide)) (x_c2 g cI cB cZ cQ S hk) (ci := 2) rfl x_in2 3 (by decide) (O.2 _ _ _ C.2.2.2.2.2 _ xl_X11_331) rfl hdg kk
theorem xp_X11_331 (C : gC p s m args meth c cc nL RX11 ret D (xtys cI cB cZ cQ) xord g Am) (O : xO g cI cB cZ cQ Am) (X : gX D (xcell g cI cB cZ cQ) xord g S s H locs) (hk : xk k = 2) {x : Int32} (hS : S' = sU S k 3 x) (hdg : decode cc pc = .ok (.putfield 331, 3)) (kk : ∀ (H1 : Heap) (locs1 : List Loc), gX D (xcell g cI cB cZ cQ) xord g S' s H1 locs1 → W p l e R s m args below meth c H1 locs1 cs sl Q (F0 m (pc + 3) ls rest)) : W p l e R s m args below meth c H locs cs sl Q (F0 m pc ls (.int x :: .ref (g k) :: rest)) := by
  subst hS
  exact g_putN C O.1 X (q := k) (k := k) (x_pos hk (by decide)) (x_c2 g cI cB cZ cQ S hk) (ci := 2) rfl x_in2 tyX2 tyX2_ok nmX2 3 (by decide) (O.2 _ _ _ C.2.2.2.2.2 _ xl_X11_331) rfl rfl rfl (Nat.le_of_ble_eq_true rfl) (fun i h => sU_ne h) (by rw [x_c2 g cI cB cZ cQ _ hk, sU_eq]; rfl) hdg kk
theorem xl_X2_27 : Cond.fieldLink RX2 27 "GrottoHours$Guess" "earliest" "I" ∈ gT := gT_c2 139 rfl rfl
theorem xg_X2_27 (C : gC p s m args meth c cc nL RX2 ret D (xtys cI cB cZ cQ) xord g Am) (O : xO g cI cB cZ cQ Am) (X : gX D (xcell g cI cB cZ cQ) xord g S s H locs) (hk : xk k = 2) (hdg : decode cc pc = .ok (.getfield 27, 3)) (kk : W p l e R s m args below meth c H locs cs sl Q (F0 m (pc + 3) ls (.int (S k 4) :: rest))) : W p l e R s m args below meth c H locs cs sl Q (F0 m pc ls (.ref (g k) :: rest)) :=
  g_get C X (q := k) (k := k) (x_pos hk (by decide)) (x_c2 g cI cB cZ cQ S hk) (ci := 2) rfl x_in2 4 (by decide) xl_X2_27 rfl hdg kk
theorem xp_X2_27 (C : gC p s m args meth c cc nL RX2 ret D (xtys cI cB cZ cQ) xord g Am) (O : xO g cI cB cZ cQ Am) (X : gX D (xcell g cI cB cZ cQ) xord g S s H locs) (hk : xk k = 2) {x : Int32} (hS : S' = sU S k 4 x) (hdg : decode cc pc = .ok (.putfield 27, 3)) (kk : ∀ (H1 : Heap) (locs1 : List Loc), gX D (xcell g cI cB cZ cQ) xord g S' s H1 locs1 → W p l e R s m args below meth c H1 locs1 cs sl Q (F0 m (pc + 3) ls rest)) : W p l e R s m args below meth c H locs cs sl Q (F0 m pc ls (.int x :: .ref (g k) :: rest)) := by
  subst hS
  exact g_put C O.1 X (q := k) (k := k) (x_pos hk (by decide)) (x_c2 g cI cB cZ cQ S hk) (ci := 2) rfl x_in2 tyX2 tyX2_ok nmX2 4 (by decide) xl_X2_27 rfl rfl rfl (Nat.le_of_ble_eq_true rfl) (fun i h => sU_ne h) (by rw [x_c2 g cI cB cZ cQ _ hk, sU_eq]; rfl) hdg kk
theorem xl_X11_332 : Cond.fieldLinkNest RX11 332 "GrottoHours$Guess" "earliest" "I" "GrottoHours" ∈ xNest := List.mem_of_getElem? (i := 93) rfl
theorem xg_X11_332 (C : gC p s m args meth c cc nL RX11 ret D (xtys cI cB cZ cQ) xord g Am) (O : xO g cI cB cZ cQ Am) (X : gX D (xcell g cI cB cZ cQ) xord g S s H locs) (hk : xk k = 2) (hdg : decode cc pc = .ok (.getfield 332, 3)) (kk : W p l e R s m args below meth c H locs cs sl Q (F0 m (pc + 3) ls (.int (S k 4) :: rest))) : W p l e R s m args below meth c H locs cs sl Q (F0 m pc ls (.ref (g k) :: rest)) :=
  g_getN C X (q := k) (k := k) (x_pos hk (by decide)) (x_c2 g cI cB cZ cQ S hk) (ci := 2) rfl x_in2 4 (by decide) (O.2 _ _ _ C.2.2.2.2.2 _ xl_X11_332) rfl hdg kk
theorem xp_X11_332 (C : gC p s m args meth c cc nL RX11 ret D (xtys cI cB cZ cQ) xord g Am) (O : xO g cI cB cZ cQ Am) (X : gX D (xcell g cI cB cZ cQ) xord g S s H locs) (hk : xk k = 2) {x : Int32} (hS : S' = sU S k 4 x) (hdg : decode cc pc = .ok (.putfield 332, 3)) (kk : ∀ (H1 : Heap) (locs1 : List Loc), gX D (xcell g cI cB cZ cQ) xord g S' s H1 locs1 → W p l e R s m args below meth c H1 locs1 cs sl Q (F0 m (pc + 3) ls rest)) : W p l e R s m args below meth c H locs cs sl Q (F0 m pc ls (.int x :: .ref (g k) :: rest)) := by
  subst hS
  exact g_putN C O.1 X (q := k) (k := k) (x_pos hk (by decide)) (x_c2 g cI cB cZ cQ S hk) (ci := 2) rfl x_in2 tyX2 tyX2_ok nmX2 4 (by decide) (O.2 _ _ _ C.2.2.2.2.2 _ xl_X11_332) rfl rfl rfl (Nat.le_of_ble_eq_true rfl) (fun i h => sU_ne h) (by rw [x_c2 g cI cB cZ cQ _ hk, sU_eq]; rfl) hdg kk
theorem xl_X2_30 : Cond.fieldLink RX2 30 "GrottoHours$Guess" "isSoWithout" "Z" ∈ gT := gT_c2 141 rfl rfl
theorem xg_X2_30 (C : gC p s m args meth c cc nL RX2 ret D (xtys cI cB cZ cQ) xord g Am) (O : xO g cI cB cZ cQ Am) (X : gX D (xcell g cI cB cZ cQ) xord g S s H locs) (hk : xk k = 2) (hdg : decode cc pc = .ok (.getfield 30, 3)) (kk : W p l e R s m args below meth c H locs cs sl Q (F0 m (pc + 3) ls (.int (S k 5) :: rest))) : W p l e R s m args below meth c H locs cs sl Q (F0 m pc ls (.ref (g k) :: rest)) :=
  g_get C X (q := k) (k := k) (x_pos hk (by decide)) (x_c2 g cI cB cZ cQ S hk) (ci := 2) rfl x_in2 5 (by decide) xl_X2_30 rfl hdg kk
theorem xp_X2_30 (C : gC p s m args meth c cc nL RX2 ret D (xtys cI cB cZ cQ) xord g Am) (O : xO g cI cB cZ cQ Am) (X : gX D (xcell g cI cB cZ cQ) xord g S s H locs) (hk : xk k = 2) {x : Int32} (hz : zb x = true) (hS : S' = sU S k 5 x) (hdg : decode cc pc = .ok (.putfield 30, 3)) (kk : ∀ (H1 : Heap) (locs1 : List Loc), gX D (xcell g cI cB cZ cQ) xord g S' s H1 locs1 → W p l e R s m args below meth c H1 locs1 cs sl Q (F0 m (pc + 3) ls rest)) : W p l e R s m args below meth c H locs cs sl Q (F0 m pc ls (.int x :: .ref (g k) :: rest)) := by
  subst hS
  exact g_put C O.1 X (q := k) (k := k) (x_pos hk (by decide)) (x_c2 g cI cB cZ cQ S hk) (ci := 2) rfl x_in2 tyX2 tyX2_ok nmX2 5 (by decide) xl_X2_30 rfl (zb_narrow hz) (zb_fits hz) (Nat.le_of_ble_eq_true rfl) (fun i h => sU_ne h) (by rw [x_c2 g cI cB cZ cQ _ hk, sU_eq]; rfl) hdg kk
theorem xl_X11_335 : Cond.fieldLinkNest RX11 335 "GrottoHours$Guess" "isSoWithout" "Z" "GrottoHours" ∈ xNest := List.mem_of_getElem? (i := 94) rfl
theorem xg_X11_335 (C : gC p s m args meth c cc nL RX11 ret D (xtys cI cB cZ cQ) xord g Am) (O : xO g cI cB cZ cQ Am) (X : gX D (xcell g cI cB cZ cQ) xord g S s H locs) (hk : xk k = 2) (hdg : decode cc pc = .ok (.getfield 335, 3)) (kk : W p l e R s m args below meth c H locs cs sl Q (F0 m (pc + 3) ls (.int (S k 5) :: rest))) : W p l e R s m args below meth c H locs cs sl Q (F0 m pc ls (.ref (g k) :: rest)) :=
  g_getN C X (q := k) (k := k) (x_pos hk (by decide)) (x_c2 g cI cB cZ cQ S hk) (ci := 2) rfl x_in2 5 (by decide) (O.2 _ _ _ C.2.2.2.2.2 _ xl_X11_335) rfl hdg kk
theorem xp_X11_335 (C : gC p s m args meth c cc nL RX11 ret D (xtys cI cB cZ cQ) xord g Am) (O : xO g cI cB cZ cQ Am) (X : gX D (xcell g cI cB cZ cQ) xord g S s H locs) (hk : xk k = 2) {x : Int32} (hz : zb x = true) (hS : S' = sU S k 5 x) (hdg : decode cc pc = .ok (.putfield 335, 3)) (kk : ∀ (H1 : Heap) (locs1 : List Loc), gX D (xcell g cI cB cZ cQ) xord g S' s H1 locs1 → W p l e R s m args below meth c H1 locs1 cs sl Q (F0 m (pc + 3) ls rest)) : W p l e R s m args below meth c H locs cs sl Q (F0 m pc ls (.int x :: .ref (g k) :: rest)) := by
  subst hS
  exact g_putN C O.1 X (q := k) (k := k) (x_pos hk (by decide)) (x_c2 g cI cB cZ cQ S hk) (ci := 2) rfl x_in2 tyX2 tyX2_ok nmX2 5 (by decide) (O.2 _ _ _ C.2.2.2.2.2 _ xl_X11_335) rfl (zb_narrow hz) (zb_fits hz) (Nat.le_of_ble_eq_true rfl) (fun i h => sU_ne h) (by rw [x_c2 g cI cB cZ cQ _ hk, sU_eq]; rfl) hdg kk
theorem xl_X11_12 : Cond.fieldLink RX11 12 "GrottoHours" "reader" "LGrottoHours$Reader;" ∈ gT := gT_c2 158 rfl rfl
theorem xg_X11_12 (C : gC p s m args meth c cc nL RX11 ret D (xtys cI cB cZ cQ) xord g Am) (O : xO g cI cB cZ cQ Am) (X : gX D (xcell g cI cB cZ cQ) xord g S s H locs) (hk : xk k = 11) {j : Nat} (hj : k + 1 = j) (hdg : decode cc pc = .ok (.getfield 12, 3)) (kk : W p l e R s m args below meth c H locs cs sl Q (F0 m (pc + 3) ls (.ref (g j) :: rest))) : W p l e R s m args below meth c H locs cs sl Q (F0 m pc ls (.ref (g k) :: rest)) := by
  subst hj
  exact g_get C X (q := k) (k := k) (x_pos hk (by decide)) (x_c11 g cI cB cZ cQ S hk) (ci := 11) rfl x_in11 0 (by decide) xl_X11_12 rfl hdg kk
theorem xl_X11_19 : Cond.fieldLink RX11 19 "GrottoHours" "book" "LGrottoHours$Book;" ∈ gT := gT_c2 159 rfl rfl
theorem xg_X11_19 (C : gC p s m args meth c cc nL RX11 ret D (xtys cI cB cZ cQ) xord g Am) (O : xO g cI cB cZ cQ Am) (X : gX D (xcell g cI cB cZ cQ) xord g S s H locs) (hk : xk k = 11) {j : Nat} (hj : k + 20 = j) (hdg : decode cc pc = .ok (.getfield 19, 3)) (kk : W p l e R s m args below meth c H locs cs sl Q (F0 m (pc + 3) ls (.ref (g j) :: rest))) : W p l e R s m args below meth c H locs cs sl Q (F0 m pc ls (.ref (g k) :: rest)) := by
  subst hj
  exact g_get C X (q := k) (k := k) (x_pos hk (by decide)) (x_c11 g cI cB cZ cQ S hk) (ci := 11) rfl x_in11 1 (by decide) xl_X11_19 rfl hdg kk
theorem xl_X11_23 : Cond.fieldLink RX11 23 "GrottoHours" "kept" "LGrottoHours$Book;" ∈ gT := gT_c2 160 rfl rfl
theorem xg_X11_23 (C : gC p s m args meth c cc nL RX11 ret D (xtys cI cB cZ cQ) xord g Am) (O : xO g cI cB cZ cQ Am) (X : gX D (xcell g cI cB cZ cQ) xord g S s H locs) (hk : xk k = 11) {j : Nat} (hj : k + 33 = j) (hdg : decode cc pc = .ok (.getfield 23, 3)) (kk : W p l e R s m args below meth c H locs cs sl Q (F0 m (pc + 3) ls (.ref (g j) :: rest))) : W p l e R s m args below meth c H locs cs sl Q (F0 m pc ls (.ref (g k) :: rest)) := by
  subst hj
  exact g_get C X (q := k) (k := k) (x_pos hk (by decide)) (x_c11 g cI cB cZ cQ S hk) (ci := 11) rfl x_in11 2 (by decide) xl_X11_23 rfl hdg kk
theorem xl_X11_29 : Cond.fieldLink RX11 29 "GrottoHours" "draft" "LGrottoHours$State;" ∈ gT := gT_c2 161 rfl rfl
theorem xg_X11_29 (C : gC p s m args meth c cc nL RX11 ret D (xtys cI cB cZ cQ) xord g Am) (O : xO g cI cB cZ cQ Am) (X : gX D (xcell g cI cB cZ cQ) xord g S s H locs) (hk : xk k = 11) {j : Nat} (hj : k + 46 = j) (hdg : decode cc pc = .ok (.getfield 29, 3)) (kk : W p l e R s m args below meth c H locs cs sl Q (F0 m (pc + 3) ls (.ref (g j) :: rest))) : W p l e R s m args below meth c H locs cs sl Q (F0 m pc ls (.ref (g k) :: rest)) := by
  subst hj
  exact g_get C X (q := k) (k := k) (x_pos hk (by decide)) (x_c11 g cI cB cZ cQ S hk) (ci := 11) rfl x_in11 3 (by decide) xl_X11_29 rfl hdg kk
theorem xl_X11_36 : Cond.fieldLink RX11 36 "GrottoHours" "walk" "LGrottoHours$Walk;" ∈ gT := gT_c2 162 rfl rfl
theorem xg_X11_36 (C : gC p s m args meth c cc nL RX11 ret D (xtys cI cB cZ cQ) xord g Am) (O : xO g cI cB cZ cQ Am) (X : gX D (xcell g cI cB cZ cQ) xord g S s H locs) (hk : xk k = 11) {j : Nat} (hj : k + 51 = j) (hdg : decode cc pc = .ok (.getfield 36, 3)) (kk : W p l e R s m args below meth c H locs cs sl Q (F0 m (pc + 3) ls (.ref (g j) :: rest))) : W p l e R s m args below meth c H locs cs sl Q (F0 m pc ls (.ref (g k) :: rest)) := by
  subst hj
  exact g_get C X (q := k) (k := k) (x_pos hk (by decide)) (x_c11 g cI cB cZ cQ S hk) (ci := 11) rfl x_in11 4 (by decide) xl_X11_36 rfl hdg kk
theorem xl_X11_43 : Cond.fieldLink RX11 43 "GrottoHours" "sharing" "LGrottoHours$Sharing;" ∈ gT := gT_c2 163 rfl rfl
theorem xg_X11_43 (C : gC p s m args meth c cc nL RX11 ret D (xtys cI cB cZ cQ) xord g Am) (O : xO g cI cB cZ cQ Am) (X : gX D (xcell g cI cB cZ cQ) xord g S s H locs) (hk : xk k = 11) {j : Nat} (hj : k + 52 = j) (hdg : decode cc pc = .ok (.getfield 43, 3)) (kk : W p l e R s m args below meth c H locs cs sl Q (F0 m (pc + 3) ls (.ref (g j) :: rest))) : W p l e R s m args below meth c H locs cs sl Q (F0 m pc ls (.ref (g k) :: rest)) := by
  subst hj
  exact g_get C X (q := k) (k := k) (x_pos hk (by decide)) (x_c11 g cI cB cZ cQ S hk) (ci := 11) rfl x_in11 5 (by decide) xl_X11_43 rfl hdg kk
theorem xl_X11_50 : Cond.fieldLink RX11 50 "GrottoHours" "guess" "LGrottoHours$Guess;" ∈ gT := gT_c2 164 rfl rfl
theorem xg_X11_50 (C : gC p s m args meth c cc nL RX11 ret D (xtys cI cB cZ cQ) xord g Am) (O : xO g cI cB cZ cQ Am) (X : gX D (xcell g cI cB cZ cQ) xord g S s H locs) (hk : xk k = 11) {j : Nat} (hj : k + 62 = j) (hdg : decode cc pc = .ok (.getfield 50, 3)) (kk : W p l e R s m args below meth c H locs cs sl Q (F0 m (pc + 3) ls (.ref (g j) :: rest))) : W p l e R s m args below meth c H locs cs sl Q (F0 m pc ls (.ref (g k) :: rest)) := by
  subst hj
  exact g_get C X (q := k) (k := k) (x_pos hk (by decide)) (x_c11 g cI cB cZ cQ S hk) (ci := 11) rfl x_in11 6 (by decide) xl_X11_50 rfl hdg kk
theorem xl_X11_57 : Cond.fieldLink RX11 57 "GrottoHours" "town" "LGrottoHours$Town;" ∈ gT := gT_c2 165 rfl rfl
theorem xg_X11_57 (C : gC p s m args meth c cc nL RX11 ret D (xtys cI cB cZ cQ) xord g Am) (O : xO g cI cB cZ cQ Am) (X : gX D (xcell g cI cB cZ cQ) xord g S s H locs) {T : Nat} (hT : T = xtw S) (hk : xk k = 11) (hdg : decode cc pc = .ok (.getfield 57, 3)) (kk : W p l e R s m args below meth c H locs cs sl Q (F0 m (pc + 3) ls (.ref (g T) :: rest))) : W p l e R s m args below meth c H locs cs sl Q (F0 m pc ls (.ref (g k) :: rest)) := by
  have hk0 : k = 0 := x_all (P := fun k => k = 0) (by decide) (by decide) hk
  subst hk0
  subst hT
  exact g_get C X (q := 0) (k := 0) rfl (x_c11 g cI cB cZ cQ S (k := 0) rfl) (ci := 11) rfl x_in11 7 (by decide) xl_X11_57 rfl hdg kk
theorem xp_X11_57 (C : gC p s m args meth c cc nL RX11 ret D (xtys cI cB cZ cQ) xord g Am) (O : xO g cI cB cZ cQ Am) (X : gX D (xcell g cI cB cZ cQ) xord g S s H locs) {T : Nat} (hT : xk T = 9) (hk : xk k = 11) (hS : S' = sU S 0 7 (if T = 72 then 0 else 1)) (hdg : decode cc pc = .ok (.putfield 57, 3)) (kk : ∀ (H1 : Heap) (locs1 : List Loc), gX D (xcell g cI cB cZ cQ) xord g S' s H1 locs1 → W p l e R s m args below meth c H1 locs1 cs sl Q (F0 m (pc + 3) ls rest)) : W p l e R s m args below meth c H locs cs sl Q (F0 m pc ls (.ref (g T) :: .ref (g k) :: rest)) := by
  have hk0 : k = 0 := x_all (P := fun k => k = 0) (by decide) (by decide) hk
  subst hk0
  subst hS
  have hT2 : T = 4 ∨ T = 72 := x_all (P := fun k => k = 4 ∨ k = 72) (by decide) (by decide) hT
  rcases hT2 with rfl | rfl
  · exact g_put C O.1 X (q := 0) (k := 0) rfl (x_c11 g cI cB cZ cQ S (k := 0) rfl) (ci := 11) rfl x_in11 tyX11 tyX11_ok nmX11 7 (by decide) xl_X11_57 rfl rfl rfl (Nat.le_of_ble_eq_true rfl) (fun i h => sU_ne h) rfl hdg kk
  · exact g_put C O.1 X (q := 0) (k := 0) rfl (x_c11 g cI cB cZ cQ S (k := 0) rfl) (ci := 11) rfl x_in11 tyX11 tyX11_ok nmX11 7 (by decide) xl_X11_57 rfl rfl rfl (Nat.le_of_ble_eq_true rfl) (fun i h => sU_ne h) rfl hdg kk
theorem xl_X11_61 : Cond.fieldLink RX11 61 "GrottoHours" "isKept" "Z" ∈ gT := gT_c2 166 rfl rfl
theorem xg_X11_61 (C : gC p s m args meth c cc nL RX11 ret D (xtys cI cB cZ cQ) xord g Am) (O : xO g cI cB cZ cQ Am) (X : gX D (xcell g cI cB cZ cQ) xord g S s H locs) (hk : xk k = 11) (hdg : decode cc pc = .ok (.getfield 61, 3)) (kk : W p l e R s m args below meth c H locs cs sl Q (F0 m (pc + 3) ls (.int (S k 8) :: rest))) : W p l e R s m args below meth c H locs cs sl Q (F0 m pc ls (.ref (g k) :: rest)) :=
  g_get C X (q := k) (k := k) (x_pos hk (by decide)) (x_c11 g cI cB cZ cQ S hk) (ci := 11) rfl x_in11 8 (by decide) xl_X11_61 rfl hdg kk
theorem xp_X11_61 (C : gC p s m args meth c cc nL RX11 ret D (xtys cI cB cZ cQ) xord g Am) (O : xO g cI cB cZ cQ Am) (X : gX D (xcell g cI cB cZ cQ) xord g S s H locs) (hk : xk k = 11) {x : Int32} (hz : zb x = true) (hS : S' = sU S k 8 x) (hdg : decode cc pc = .ok (.putfield 61, 3)) (kk : ∀ (H1 : Heap) (locs1 : List Loc), gX D (xcell g cI cB cZ cQ) xord g S' s H1 locs1 → W p l e R s m args below meth c H1 locs1 cs sl Q (F0 m (pc + 3) ls rest)) : W p l e R s m args below meth c H locs cs sl Q (F0 m pc ls (.int x :: .ref (g k) :: rest)) := by
  subst hS
  exact g_put C O.1 X (q := k) (k := k) (x_pos hk (by decide)) (x_c11 g cI cB cZ cQ S hk) (ci := 11) rfl x_in11 tyX11 tyX11_ok nmX11 8 (by decide) xl_X11_61 rfl (zb_narrow hz) (zb_fits hz) (Nat.le_of_ble_eq_true rfl) (fun i h => sU_ne h) (by rw [x_c11 g cI cB cZ cQ _ hk, sU_eq]; rfl) hdg kk
theorem xl_X11_65 : Cond.fieldLink RX11 65 "GrottoHours" "seedNow" "I" ∈ gT := gT_c2 167 rfl rfl
theorem xg_X11_65 (C : gC p s m args meth c cc nL RX11 ret D (xtys cI cB cZ cQ) xord g Am) (O : xO g cI cB cZ cQ Am) (X : gX D (xcell g cI cB cZ cQ) xord g S s H locs) (hk : xk k = 11) (hdg : decode cc pc = .ok (.getfield 65, 3)) (kk : W p l e R s m args below meth c H locs cs sl Q (F0 m (pc + 3) ls (.int (S k 9) :: rest))) : W p l e R s m args below meth c H locs cs sl Q (F0 m pc ls (.ref (g k) :: rest)) :=
  g_get C X (q := k) (k := k) (x_pos hk (by decide)) (x_c11 g cI cB cZ cQ S hk) (ci := 11) rfl x_in11 9 (by decide) xl_X11_65 rfl hdg kk
theorem xp_X11_65 (C : gC p s m args meth c cc nL RX11 ret D (xtys cI cB cZ cQ) xord g Am) (O : xO g cI cB cZ cQ Am) (X : gX D (xcell g cI cB cZ cQ) xord g S s H locs) (hk : xk k = 11) {x : Int32} (hS : S' = sU S k 9 x) (hdg : decode cc pc = .ok (.putfield 65, 3)) (kk : ∀ (H1 : Heap) (locs1 : List Loc), gX D (xcell g cI cB cZ cQ) xord g S' s H1 locs1 → W p l e R s m args below meth c H1 locs1 cs sl Q (F0 m (pc + 3) ls rest)) : W p l e R s m args below meth c H locs cs sl Q (F0 m pc ls (.int x :: .ref (g k) :: rest)) := by
  subst hS
  exact g_put C O.1 X (q := k) (k := k) (x_pos hk (by decide)) (x_c11 g cI cB cZ cQ S hk) (ci := 11) rfl x_in11 tyX11 tyX11_ok nmX11 9 (by decide) xl_X11_65 rfl rfl rfl (Nat.le_of_ble_eq_true rfl) (fun i h => sU_ne h) (by rw [x_c11 g cI cB cZ cQ _ hk, sU_eq]; rfl) hdg kk
theorem x_rI (C : gC p s m args meth c cc nL own ret D (xtys cI cB cZ cQ) xord g Am) (X : gX D (xcell g cI cB cZ cQ) xord g S s H locs) (hk : xk k = 20) {n : Nat} (hn : xN k = n) {i : Int32} {j : Nat} (hin : vp_in i n) (hj : i.toNatClampNeg = j) (hdg : decode cc pc = .ok (.iaload, 1)) (kk : W p l e R s m args below meth c H locs cs sl Q (F0 m (pc + 1) ls (.int (S k j) :: rest))) : W p l e R s m args below meth c H locs cs sl Q (F0 m pc ls (.int i :: .ref (g k) :: rest)) := by
  subst hn
  exact g_iald C X (x_pos hk (by decide)) (x_cI g cI cB cZ cQ S hk) (t0 := 0) rfl hin hj hdg kk
theorem x_wI (C : gC p s m args meth c cc nL own ret D (xtys cI cB cZ cQ) xord g Am) (O : xO g cI cB cZ cQ Am) (X : gX D (xcell g cI cB cZ cQ) xord g S s H locs) (hk : xk k = 20) {n : Nat} (hn : xN k = n) {i x : Int32} {j : Nat} (hin : vp_in i n) (hj : i.toNatClampNeg = j) (hS : S' = sU S k j x) (hdg : decode cc pc = .ok (.iastore, 1)) (kk : ∀ (H1 : Heap) (locs1 : List Loc), gX D (xcell g cI cB cZ cQ) xord g S' s H1 locs1 → W p l e R s m args below meth c H1 locs1 cs sl Q (F0 m (pc + 1) ls rest)) : W p l e R s m args below meth c H locs cs sl Q (F0 m pc ls (.int x :: .int i :: .ref (g k) :: rest)) := by
  subst hn
  subst hS
  exact g_iast C O.1 X (x_pos hk (by decide)) (x_cI g cI cB cZ cQ S hk) (t0 := 0) rfl hin hj (fun i h => sU_ne h) (by rw [x_cI g cI cB cZ cQ _ hk, sU_eq]) hdg kk
theorem x_lI (C : gC p s m args meth c cc nL own ret D (xtys cI cB cZ cQ) xord g Am) (X : gX D (xcell g cI cB cZ cQ) xord g S s H locs) (hk : xk k = 20) {n : Nat} (hn : xN k = n) {x : Int32} (hx : Int32.ofNat n = x) (hdg : decode cc pc = .ok (.arraylength, 1)) (kk : W p l e R s m args below meth c H locs cs sl Q (F0 m (pc + 1) ls (.int x :: rest))) : W p l e R s m args below meth c H locs cs sl Q (F0 m pc ls (.ref (g k) :: rest)) := by
  subst hn
  exact g_alen C X (x_pos hk (by decide)) (x_cI g cI cB cZ cQ S hk) (t0 := 0) rfl hx hdg kk
theorem x_rB (C : gC p s m args meth c cc nL own ret D (xtys cI cB cZ cQ) xord g Am) (X : gX D (xcell g cI cB cZ cQ) xord g S s H locs) (hk : xk k = 21) {n : Nat} (hn : xN k = n) {i : Int32} {j : Nat} (hin : vp_in i n) (hj : i.toNatClampNeg = j) (hdg : decode cc pc = .ok (.baload, 1)) (kk : W p l e R s m args below meth c H locs cs sl Q (F0 m (pc + 1) ls (.int (S k j) :: rest))) : W p l e R s m args below meth c H locs cs sl Q (F0 m pc ls (.int i :: .ref (g k) :: rest)) := by
  subst hn
  exact g_bald C X (x_pos hk (by decide)) (x_cB g cI cB cZ cQ S hk) (t0 := 1) rfl hin hj hdg kk
theorem x_wB (C : gC p s m args meth c cc nL own ret D (xtys cI cB cZ cQ) xord g Am) (O : xO g cI cB cZ cQ Am) (X : gX D (xcell g cI cB cZ cQ) xord g S s H locs) (hk : xk k = 21) {n : Nat} (hn : xN k = n) {i x : Int32} {j : Nat} (hin : vp_in i n) (hj : i.toNatClampNeg = j) (hS : S' = sU S k j (vp_nar .byte x)) (hdg : decode cc pc = .ok (.bastore, 1)) (kk : ∀ (H1 : Heap) (locs1 : List Loc), gX D (xcell g cI cB cZ cQ) xord g S' s H1 locs1 → W p l e R s m args below meth c H1 locs1 cs sl Q (F0 m (pc + 1) ls rest)) : W p l e R s m args below meth c H locs cs sl Q (F0 m pc ls (.int x :: .int i :: .ref (g k) :: rest)) := by
  subst hn
  subst hS
  exact g_bast C O.1 X (x_pos hk (by decide)) (x_cB g cI cB cZ cQ S hk) (t0 := 1) rfl hin hj (fun i h => sU_ne h) (by rw [x_cB g cI cB cZ cQ _ hk, sU_eq]) hdg kk
theorem x_lB (C : gC p s m args meth c cc nL own ret D (xtys cI cB cZ cQ) xord g Am) (X : gX D (xcell g cI cB cZ cQ) xord g S s H locs) (hk : xk k = 21) {n : Nat} (hn : xN k = n) {x : Int32} (hx : Int32.ofNat n = x) (hdg : decode cc pc = .ok (.arraylength, 1)) (kk : W p l e R s m args below meth c H locs cs sl Q (F0 m (pc + 1) ls (.int x :: rest))) : W p l e R s m args below meth c H locs cs sl Q (F0 m pc ls (.ref (g k) :: rest)) := by
  subst hn
  exact g_alen C X (x_pos hk (by decide)) (x_cB g cI cB cZ cQ S hk) (t0 := 1) rfl hx hdg kk
theorem x_rZ (C : gC p s m args meth c cc nL own ret D (xtys cI cB cZ cQ) xord g Am) (X : gX D (xcell g cI cB cZ cQ) xord g S s H locs) (hk : xk k = 22) {n : Nat} (hn : xN k = n) {i : Int32} {j : Nat} (hin : vp_in i n) (hj : i.toNatClampNeg = j) (hdg : decode cc pc = .ok (.baload, 1)) (kk : W p l e R s m args below meth c H locs cs sl Q (F0 m (pc + 1) ls (.int (S k j) :: rest))) : W p l e R s m args below meth c H locs cs sl Q (F0 m pc ls (.int i :: .ref (g k) :: rest)) := by
  subst hn
  exact g_zald C X (x_pos hk (by decide)) (x_cZ g cI cB cZ cQ S hk) (t0 := 2) rfl hin hj hdg kk
theorem x_wZ (C : gC p s m args meth c cc nL own ret D (xtys cI cB cZ cQ) xord g Am) (O : xO g cI cB cZ cQ Am) (X : gX D (xcell g cI cB cZ cQ) xord g S s H locs) (hk : xk k = 22) {n : Nat} (hn : xN k = n) {i x : Int32} {j : Nat} (hin : vp_in i n) (hj : i.toNatClampNeg = j) (hS : S' = sU S k j (vp_nar .boolean x)) (hdg : decode cc pc = .ok (.bastore, 1)) (kk : ∀ (H1 : Heap) (locs1 : List Loc), gX D (xcell g cI cB cZ cQ) xord g S' s H1 locs1 → W p l e R s m args below meth c H1 locs1 cs sl Q (F0 m (pc + 1) ls rest)) : W p l e R s m args below meth c H locs cs sl Q (F0 m pc ls (.int x :: .int i :: .ref (g k) :: rest)) := by
  subst hn
  subst hS
  exact g_zast C O.1 X (x_pos hk (by decide)) (x_cZ g cI cB cZ cQ S hk) (t0 := 2) rfl hin hj (fun i h => sU_ne h) (by rw [x_cZ g cI cB cZ cQ _ hk, sU_eq]) hdg kk
theorem x_lZ (C : gC p s m args meth c cc nL own ret D (xtys cI cB cZ cQ) xord g Am) (X : gX D (xcell g cI cB cZ cQ) xord g S s H locs) (hk : xk k = 22) {n : Nat} (hn : xN k = n) {x : Int32} (hx : Int32.ofNat n = x) (hdg : decode cc pc = .ok (.arraylength, 1)) (kk : W p l e R s m args below meth c H locs cs sl Q (F0 m (pc + 1) ls (.int x :: rest))) : W p l e R s m args below meth c H locs cs sl Q (F0 m pc ls (.ref (g k) :: rest)) := by
  subst hn
  exact g_alen C X (x_pos hk (by decide)) (x_cZ g cI cB cZ cQ S hk) (t0 := 2) rfl hx hdg kk
theorem x_rQ (C : gC p s m args meth c cc nL own ret D (xtys cI cB cZ cQ) xord g Am) (X : gX D (xcell g cI cB cZ cQ) xord g S s H locs) (hk : xk k = 23) {n : Nat} (hn : xN k = n) {i : Int32} {j : Nat} (hin : vp_in i n) (hj : k + 1 + i.toNatClampNeg = j) (hdg : decode cc pc = .ok (.aaload, 1)) (kk : W p l e R s m args below meth c H locs cs sl Q (F0 m (pc + 1) ls (.ref (g j) :: rest))) : W p l e R s m args below meth c H locs cs sl Q (F0 m pc ls (.int i :: .ref (g k) :: rest)) := by
  subst hn
  subst hj
  have hlt : i.toNatClampNeg < xN k := Nat.not_le.mp fun q => hin (Or.inr q)
  exact g_aald C X (x_pos hk (by decide)) (x_cQ g cI cB cZ cQ S hk) (t0 := 3) rfl hin (if_pos hlt) hdg kk
theorem x_callV (C : gC p s m args meth c cc nL own ret D (xtys cI cB cZ cQ) xord g Am) (X : gX D (xcell g cI cB cZ cQ) xord g S s H locs) {y : MethodName} {cy : ByteArray} {mL n index d ci : Nat} {rt : Option FieldType} {As : List Value} {qc : vw_C} (w : gWV own index y cy mL rt n) (hk : xk k = ci) (hc : vwCl[ci]? = some qc) (hy : qc.1 = y.cls) (hc9 : ci < 12) (hM : gM l y cy mL rt d D (xtys cI cB cZ cQ) (xcell g cI cB cZ cQ) xord g Am (.ref (g k) :: As) S none S') (hR : d + 1 ≤ R.frames) (hR2 : 8 + (mL + 11) + (40 * d + 13) ≤ R.locals) (hcs : cs ≤ R.cells) (hsl : sl ≤ R.slots) (hn : As.length = n) (hls : ls.size = nL) {st : List Value} (hst : st = As.reverse ++ .ref (g k) :: rest) (hrest : (rest.map fun v => v.category).sum ≤ 8) (hdg : decode cc pc = .ok (.invokevirtual index, 3))
    (kk : ∀ (H1 : Heap) (locs1 : List Loc), gX D (xcell g cI cB cZ cQ) xord g S' s H1 locs1 → W p l e R s m args below meth c H1 locs1 cs sl Q (F0 m (pc + 3) ls rest)) : W p l e R s m args below meth c H locs cs sl Q (F0 m pc ls st) := by
  have he : ∃ fs, xcell g cI cB cZ cQ S k = (g k, .inr (ci, fs)) := by
    refine ⟨xfl g (xk k) k (S k), ?_⟩
    unfold xcell xE
    rw [if_neg (by omega), if_neg (by omega), if_neg (by omega), if_neg (by omega), hk]
  obtain ⟨fs, he⟩ := he
  exact g_callV C X w hc hy (gw_get (x_pos hk (by omega)) he) hM hR hR2 hcs hsl hn hls hst hrest hdg kk
theorem x_callVi (C : gC p s m args meth c cc nL own ret D (xtys cI cB cZ cQ) xord g Am) (X : gX D (xcell g cI cB cZ cQ) xord g S s H locs) {y : MethodName} {cy : ByteArray} {mL n index d ci : Nat} {rt : Option FieldType} {As : List Value} {qc : vw_C} {x : Int32} (w : gWV own index y cy mL rt n) (hk : xk k = ci) (hc : vwCl[ci]? = some qc) (hy : qc.1 = y.cls) (hc9 : ci < 12) (hM : gM l y cy mL rt d D (xtys cI cB cZ cQ) (xcell g cI cB cZ cQ) xord g Am (.ref (g k) :: As) S (some (.int x)) S') (hR : d + 1 ≤ R.frames) (hR2 : 8 + (mL + 11) + (40 * d + 13) ≤ R.locals) (hcs : cs ≤ R.cells) (hsl : sl ≤ R.slots) (hn : As.length = n) (hls : ls.size = nL) {st : List Value} (hst : st = As.reverse ++ .ref (g k) :: rest) (hrest : (rest.map fun v => v.category).sum ≤ 8) (hdg : decode cc pc = .ok (.invokevirtual index, 3))
    (kk : ∀ (H1 : Heap) (locs1 : List Loc), gX D (xcell g cI cB cZ cQ) xord g S' s H1 locs1 → W p l e R s m args below meth c H1 locs1 cs sl Q (F0 m (pc + 3) ls (.int x :: rest))) : W p l e R s m args below meth c H locs cs sl Q (F0 m pc ls st) := by
  have he : ∃ fs, xcell g cI cB cZ cQ S k = (g k, .inr (ci, fs)) := by
    refine ⟨xfl g (xk k) k (S k), ?_⟩
    unfold xcell xE
    rw [if_neg (by omega), if_neg (by omega), if_neg (by omega), if_neg (by omega), hk]
  obtain ⟨fs, he⟩ := he
  exact g_callVi C X w hc hy (gw_get (x_pos hk (by omega)) he) hM hR hR2 hcs hsl hn hls hst hrest hdg kk
end XROWS
end

/-! part 11.d.0 -/
section
theorem dzX0_init_0 : dq_F cX0_init [(0, .aload_n 0, 1), (1, .invokespecial 3, 3), (4, .aload_n 0, 1), (5, .sipush 1040, 3)] := dq_s 4 0 (by decide +kernel)
theorem dX0_init_0 : decode cX0_init 0 = .ok (.aload_n 0, 1) := dq_h dzX0_init_0
theorem dX0_init_1 : decode cX0_init 1 = .ok (.invokespecial 3, 3) := dq_h (dq_t dzX0_init_0)
theorem dX0_init_4 : decode cX0_init 4 = .ok (.aload_n 0, 1) := dq_h (dq_t (dq_t dzX0_init_0))
theorem dX0_init_5 : decode cX0_init 5 = .ok (.sipush 1040, 3) := dq_h (dq_t (dq_t (dq_t dzX0_init_0)))
theorem dX0_init_8 : decode cX0_init 8 = .ok (.newarray .int, 2) := by decide +kernel
theorem dzX0_init_10 : dq_F cX0_init [(10, .putfield 11, 3), (13, .aload_n 0, 1), (14, .iconst 0, 1), (15, .putfield 17, 3), (18, .return_, 1)] := dq_s 5 10 (by decide +kernel)
theorem dX0_init_10 : decode cX0_init 10 = .ok (.putfield 11, 3) := dq_h dzX0_init_10
theorem dX0_init_13 : decode cX0_init 13 = .ok (.aload_n 0, 1) := dq_h (dq_t dzX0_init_10)
theorem dX0_init_14 : decode cX0_init 14 = .ok (.iconst 0, 1) := dq_h (dq_t (dq_t dzX0_init_10))
theorem dX0_init_15 : decode cX0_init 15 = .ok (.putfield 17, 3) := dq_h (dq_t (dq_t (dq_t dzX0_init_10)))
theorem dX0_init_18 : decode cX0_init 18 = .ok (.return_, 1) := dq_h (dq_t (dq_t (dq_t (dq_t dzX0_init_10))))
theorem dzX0_add_0 : dq_F cX0_add [(0, .aload_n 0, 1), (1, .getfield 17, 3), (4, .bipush 40, 2), (6, .if_icmp .lt 30, 3), (9, .aload_n 0, 1), (10, .bipush 39, 2), (12, .putfield 17, 3), (15, .aload_n 0, 1), (16, .getfield 11, 3), (19, .bipush 26, 2), (21, .aload_n 0, 1), (22, .getfield 11, 3), (25, .iconst 0, 1), (26, .aload_n 0, 1), (27, .getfield 17, 3), (30, .bipush 26, 2), (32, .imul, 1), (33, .invokestatic 21, 3), (36, .aload_n 1, 1), (37, .aload_n 0, 1), (38, .getfield 11, 3), (41, .aload_n 0, 1), (42, .getfield 17, 3), (45, .bipush 26, 2)] := dq_s 24 0 (by decide +kernel)
theorem dX0_add_0 : decode cX0_add 0 = .ok (.aload_n 0, 1) := dq_h dzX0_add_0
theorem dX0_add_1 : decode cX0_add 1 = .ok (.getfield 17, 3) := dq_h (dq_t dzX0_add_0)
theorem dX0_add_4 : decode cX0_add 4 = .ok (.bipush 40, 2) := dq_h (dq_t (dq_t dzX0_add_0))
theorem dX0_add_6 : decode cX0_add 6 = .ok (.if_icmp .lt 30, 3) := dq_h (dq_t (dq_t (dq_t dzX0_add_0)))
theorem dX0_add_9 : decode cX0_add 9 = .ok (.aload_n 0, 1) := dq_h (dq_t (dq_t (dq_t (dq_t dzX0_add_0))))
theorem dX0_add_10 : decode cX0_add 10 = .ok (.bipush 39, 2) := dq_h (dq_t (dq_t (dq_t (dq_t (dq_t dzX0_add_0)))))
theorem dX0_add_12 : decode cX0_add 12 = .ok (.putfield 17, 3) := dq_h (dq_t (dq_t (dq_t (dq_t (dq_t (dq_t dzX0_add_0))))))
theorem dX0_add_15 : decode cX0_add 15 = .ok (.aload_n 0, 1) := dq_h (dq_t (dq_t (dq_t (dq_t (dq_t (dq_t (dq_t dzX0_add_0)))))))
theorem dX0_add_16 : decode cX0_add 16 = .ok (.getfield 11, 3) := dq_h (dq_t (dq_t (dq_t (dq_t (dq_t (dq_t (dq_t (dq_t dzX0_add_0))))))))
theorem dX0_add_19 : decode cX0_add 19 = .ok (.bipush 26, 2) := dq_h (dq_t (dq_t (dq_t (dq_t (dq_t (dq_t (dq_t (dq_t (dq_t dzX0_add_0)))))))))
theorem dX0_add_21 : decode cX0_add 21 = .ok (.aload_n 0, 1) := dq_h (dq_t (dq_t (dq_t (dq_t (dq_t (dq_t (dq_t (dq_t (dq_t (dq_t dzX0_add_0))))))))))
theorem dX0_add_22 : decode cX0_add 22 = .ok (.getfield 11, 3) := dq_h (dq_t (dq_t (dq_t (dq_t (dq_t (dq_t (dq_t (dq_t (dq_t (dq_t (dq_t dzX0_add_0)))))))))))
theorem dX0_add_25 : decode cX0_add 25 = .ok (.iconst 0, 1) := dq_h (dq_t (dq_t (dq_t (dq_t (dq_t (dq_t (dq_t (dq_t (dq_t (dq_t (dq_t (dq_t dzX0_add_0))))))))))))
theorem dX0_add_26 : decode cX0_add 26 = .ok (.aload_n 0, 1) := dq_h (dq_t (dq_t (dq_t (dq_t (dq_t (dq_t (dq_t (dq_t (dq_t (dq_t (dq_t (dq_t (dq_t dzX0_add_0)))))))))))))
theorem dX0_add_27 : decode cX0_add 27 = .ok (.getfield 17, 3) := dq_h (dq_t (dq_t (dq_t (dq_t (dq_t (dq_t (dq_t (dq_t (dq_t (dq_t (dq_t (dq_t (dq_t (dq_t dzX0_add_0))))))))))))))
theorem dX0_add_30 : decode cX0_add 30 = .ok (.bipush 26, 2) := dq_h (dq_t (dq_t (dq_t (dq_t (dq_t (dq_t (dq_t (dq_t (dq_t (dq_t (dq_t (dq_t (dq_t (dq_t (dq_t dzX0_add_0)))))))))))))))
theorem dX0_add_32 : decode cX0_add 32 = .ok (.imul, 1) := dq_h (dq_t (dq_t (dq_t (dq_t (dq_t (dq_t (dq_t (dq_t (dq_t (dq_t (dq_t (dq_t (dq_t (dq_t (dq_t (dq_t dzX0_add_0))))))))))))))))
theorem dX0_add_33 : decode cX0_add 33 = .ok (.invokestatic 21, 3) := dq_h (dq_t (dq_t (dq_t (dq_t (dq_t (dq_t (dq_t (dq_t (dq_t (dq_t (dq_t (dq_t (dq_t (dq_t (dq_t (dq_t (dq_t dzX0_add_0)))))))))))))))))
theorem dX0_add_36 : decode cX0_add 36 = .ok (.aload_n 1, 1) := dq_h (dq_t (dq_t (dq_t (dq_t (dq_t (dq_t (dq_t (dq_t (dq_t (dq_t (dq_t (dq_t (dq_t (dq_t (dq_t (dq_t (dq_t (dq_t dzX0_add_0))))))))))))))))))
theorem dX0_add_37 : decode cX0_add 37 = .ok (.aload_n 0, 1) := dq_h (dq_t (dq_t (dq_t (dq_t (dq_t (dq_t (dq_t (dq_t (dq_t (dq_t (dq_t (dq_t (dq_t (dq_t (dq_t (dq_t (dq_t (dq_t (dq_t dzX0_add_0)))))))))))))))))))
theorem dX0_add_38 : decode cX0_add 38 = .ok (.getfield 11, 3) := dq_h (dq_t (dq_t (dq_t (dq_t (dq_t (dq_t (dq_t (dq_t (dq_t (dq_t (dq_t (dq_t (dq_t (dq_t (dq_t (dq_t (dq_t (dq_t (dq_t (dq_t dzX0_add_0))))))))))))))))))))
theorem dX0_add_41 : decode cX0_add 41 = .ok (.aload_n 0, 1) := dq_h (dq_t (dq_t (dq_t (dq_t (dq_t (dq_t (dq_t (dq_t (dq_t (dq_t (dq_t (dq_t (dq_t (dq_t (dq_t (dq_t (dq_t (dq_t (dq_t (dq_t (dq_t dzX0_add_0)))))))))))))))))))))
theorem dX0_add_42 : decode cX0_add 42 = .ok (.getfield 17, 3) := dq_h (dq_t (dq_t (dq_t (dq_t (dq_t (dq_t (dq_t (dq_t (dq_t (dq_t (dq_t (dq_t (dq_t (dq_t (dq_t (dq_t (dq_t (dq_t (dq_t (dq_t (dq_t (dq_t dzX0_add_0))))))))))))))))))))))
theorem dX0_add_45 : decode cX0_add 45 = .ok (.bipush 26, 2) := dq_h (dq_t (dq_t (dq_t (dq_t (dq_t (dq_t (dq_t (dq_t (dq_t (dq_t (dq_t (dq_t (dq_t (dq_t (dq_t (dq_t (dq_t (dq_t (dq_t (dq_t (dq_t (dq_t (dq_t dzX0_add_0)))))))))))))))))))))))
theorem dzX0_add_47 : dq_F cX0_add [(47, .imul, 1), (48, .invokevirtual 27, 3), (51, .aload_n 0, 1), (52, .dup, 1), (53, .getfield 17, 3), (56, .iconst 1, 1), (57, .iadd, 1), (58, .putfield 17, 3), (61, .return_, 1)] := dq_s 9 47 (by decide +kernel)
theorem dX0_add_47 : decode cX0_add 47 = .ok (.imul, 1) := dq_h dzX0_add_47
theorem dX0_add_48 : decode cX0_add 48 = .ok (.invokevirtual 27, 3) := dq_h (dq_t dzX0_add_47)
theorem dX0_add_51 : decode cX0_add 51 = .ok (.aload_n 0, 1) := dq_h (dq_t (dq_t dzX0_add_47))
theorem dX0_add_52 : decode cX0_add 52 = .ok (.dup, 1) := dq_h (dq_t (dq_t (dq_t dzX0_add_47)))
theorem dX0_add_53 : decode cX0_add 53 = .ok (.getfield 17, 3) := dq_h (dq_t (dq_t (dq_t (dq_t dzX0_add_47))))
theorem dX0_add_56 : decode cX0_add 56 = .ok (.iconst 1, 1) := dq_h (dq_t (dq_t (dq_t (dq_t (dq_t dzX0_add_47)))))
theorem dX0_add_57 : decode cX0_add 57 = .ok (.iadd, 1) := dq_h (dq_t (dq_t (dq_t (dq_t (dq_t (dq_t dzX0_add_47))))))
theorem dX0_add_58 : decode cX0_add 58 = .ok (.putfield 17, 3) := dq_h (dq_t (dq_t (dq_t (dq_t (dq_t (dq_t (dq_t dzX0_add_47)))))))
theorem dX0_add_61 : decode cX0_add 61 = .ok (.return_, 1) := dq_h (dq_t (dq_t (dq_t (dq_t (dq_t (dq_t (dq_t (dq_t dzX0_add_47))))))))
theorem dzX0_takeBack_0 : dq_F cX0_takeBack [(0, .aload_n 0, 1), (1, .getfield 17, 3), (4, .iconst 1, 1), (5, .if_icmp .ge 5, 3), (8, .iconst (-1), 1), (9, .ireturn, 1), (10, .aload_n 0, 1), (11, .dup, 1), (12, .getfield 17, 3), (15, .iconst 1, 1), (16, .isub, 1), (17, .putfield 17, 3), (20, .aload_n 1, 1), (21, .aload_n 0, 1), (22, .getfield 11, 3), (25, .aload_n 0, 1), (26, .getfield 17, 3), (29, .bipush 26, 2), (31, .imul, 1), (32, .invokevirtual 31, 3), (35, .aload_n 0, 1), (36, .getfield 17, 3), (39, .ireturn, 1)] := dq_s 23 0 (by decide +kernel)
theorem dX0_takeBack_0 : decode cX0_takeBack 0 = .ok (.aload_n 0, 1) := dq_h dzX0_takeBack_0
theorem dX0_takeBack_1 : decode cX0_takeBack 1 = .ok (.getfield 17, 3) := dq_h (dq_t dzX0_takeBack_0)
theorem dX0_takeBack_4 : decode cX0_takeBack 4 = .ok (.iconst 1, 1) := dq_h (dq_t (dq_t dzX0_takeBack_0))
theorem dX0_takeBack_5 : decode cX0_takeBack 5 = .ok (.if_icmp .ge 5, 3) := dq_h (dq_t (dq_t (dq_t dzX0_takeBack_0)))
theorem dX0_takeBack_8 : decode cX0_takeBack 8 = .ok (.iconst (-1), 1) := dq_h (dq_t (dq_t (dq_t (dq_t dzX0_takeBack_0))))
theorem dX0_takeBack_9 : decode cX0_takeBack 9 = .ok (.ireturn, 1) := dq_h (dq_t (dq_t (dq_t (dq_t (dq_t dzX0_takeBack_0)))))
theorem dX0_takeBack_10 : decode cX0_takeBack 10 = .ok (.aload_n 0, 1) := dq_h (dq_t (dq_t (dq_t (dq_t (dq_t (dq_t dzX0_takeBack_0))))))
theorem dX0_takeBack_11 : decode cX0_takeBack 11 = .ok (.dup, 1) := dq_h (dq_t (dq_t (dq_t (dq_t (dq_t (dq_t (dq_t dzX0_takeBack_0)))))))
theorem dX0_takeBack_12 : decode cX0_takeBack 12 = .ok (.getfield 17, 3) := dq_h (dq_t (dq_t (dq_t (dq_t (dq_t (dq_t (dq_t (dq_t dzX0_takeBack_0))))))))
theorem dX0_takeBack_15 : decode cX0_takeBack 15 = .ok (.iconst 1, 1) := dq_h (dq_t (dq_t (dq_t (dq_t (dq_t (dq_t (dq_t (dq_t (dq_t dzX0_takeBack_0)))))))))
theorem dX0_takeBack_16 : decode cX0_takeBack 16 = .ok (.isub, 1) := dq_h (dq_t (dq_t (dq_t (dq_t (dq_t (dq_t (dq_t (dq_t (dq_t (dq_t dzX0_takeBack_0))))))))))
theorem dX0_takeBack_17 : decode cX0_takeBack 17 = .ok (.putfield 17, 3) := dq_h (dq_t (dq_t (dq_t (dq_t (dq_t (dq_t (dq_t (dq_t (dq_t (dq_t (dq_t dzX0_takeBack_0)))))))))))
theorem dX0_takeBack_20 : decode cX0_takeBack 20 = .ok (.aload_n 1, 1) := dq_h (dq_t (dq_t (dq_t (dq_t (dq_t (dq_t (dq_t (dq_t (dq_t (dq_t (dq_t (dq_t dzX0_takeBack_0))))))))))))
theorem dX0_takeBack_21 : decode cX0_takeBack 21 = .ok (.aload_n 0, 1) := dq_h (dq_t (dq_t (dq_t (dq_t (dq_t (dq_t (dq_t (dq_t (dq_t (dq_t (dq_t (dq_t (dq_t dzX0_takeBack_0)))))))))))))
theorem dX0_takeBack_22 : decode cX0_takeBack 22 = .ok (.getfield 11, 3) := dq_h (dq_t (dq_t (dq_t (dq_t (dq_t (dq_t (dq_t (dq_t (dq_t (dq_t (dq_t (dq_t (dq_t (dq_t dzX0_takeBack_0))))))))))))))
theorem dX0_takeBack_25 : decode cX0_takeBack 25 = .ok (.aload_n 0, 1) := dq_h (dq_t (dq_t (dq_t (dq_t (dq_t (dq_t (dq_t (dq_t (dq_t (dq_t (dq_t (dq_t (dq_t (dq_t (dq_t dzX0_takeBack_0)))))))))))))))
theorem dX0_takeBack_26 : decode cX0_takeBack 26 = .ok (.getfield 17, 3) := dq_h (dq_t (dq_t (dq_t (dq_t (dq_t (dq_t (dq_t (dq_t (dq_t (dq_t (dq_t (dq_t (dq_t (dq_t (dq_t (dq_t dzX0_takeBack_0))))))))))))))))
theorem dX0_takeBack_29 : decode cX0_takeBack 29 = .ok (.bipush 26, 2) := dq_h (dq_t (dq_t (dq_t (dq_t (dq_t (dq_t (dq_t (dq_t (dq_t (dq_t (dq_t (dq_t (dq_t (dq_t (dq_t (dq_t (dq_t dzX0_takeBack_0)))))))))))))))))
theorem dX0_takeBack_31 : decode cX0_takeBack 31 = .ok (.imul, 1) := dq_h (dq_t (dq_t (dq_t (dq_t (dq_t (dq_t (dq_t (dq_t (dq_t (dq_t (dq_t (dq_t (dq_t (dq_t (dq_t (dq_t (dq_t (dq_t dzX0_takeBack_0))))))))))))))))))
theorem dX0_takeBack_32 : decode cX0_takeBack 32 = .ok (.invokevirtual 31, 3) := dq_h (dq_t (dq_t (dq_t (dq_t (dq_t (dq_t (dq_t (dq_t (dq_t (dq_t (dq_t (dq_t (dq_t (dq_t (dq_t (dq_t (dq_t (dq_t (dq_t dzX0_takeBack_0)))))))))))))))))))
theorem dX0_takeBack_35 : decode cX0_takeBack 35 = .ok (.aload_n 0, 1) := dq_h (dq_t (dq_t (dq_t (dq_t (dq_t (dq_t (dq_t (dq_t (dq_t (dq_t (dq_t (dq_t (dq_t (dq_t (dq_t (dq_t (dq_t (dq_t (dq_t (dq_t dzX0_takeBack_0))))))))))))))))))))
theorem dX0_takeBack_36 : decode cX0_takeBack 36 = .ok (.getfield 17, 3) := dq_h (dq_t (dq_t (dq_t (dq_t (dq_t (dq_t (dq_t (dq_t (dq_t (dq_t (dq_t (dq_t (dq_t (dq_t (dq_t (dq_t (dq_t (dq_t (dq_t (dq_t (dq_t dzX0_takeBack_0)))))))))))))))))))))
theorem dX0_takeBack_39 : decode cX0_takeBack 39 = .ok (.ireturn, 1) := dq_h (dq_t (dq_t (dq_t (dq_t (dq_t (dq_t (dq_t (dq_t (dq_t (dq_t (dq_t (dq_t (dq_t (dq_t (dq_t (dq_t (dq_t (dq_t (dq_t (dq_t (dq_t (dq_t dzX0_takeBack_0))))))))))))))))))))))
theorem dzX0_copy_0 : dq_F cX0_copy [(0, .aload_n 0, 1), (1, .aload_n 1, 1), (2, .getfield 17, 3), (5, .putfield 17, 3), (8, .aload_n 1, 1), (9, .getfield 11, 3), (12, .iconst 0, 1), (13, .aload_n 0, 1), (14, .getfield 11, 3), (17, .iconst 0, 1), (18, .aload_n 0, 1), (19, .getfield 11, 3), (22, .arraylength, 1), (23, .invokestatic 21, 3), (26, .return_, 1)] := dq_s 15 0 (by decide +kernel)
theorem dX0_copy_0 : decode cX0_copy 0 = .ok (.aload_n 0, 1) := dq_h dzX0_copy_0
theorem dX0_copy_1 : decode cX0_copy 1 = .ok (.aload_n 1, 1) := dq_h (dq_t dzX0_copy_0)
theorem dX0_copy_2 : decode cX0_copy 2 = .ok (.getfield 17, 3) := dq_h (dq_t (dq_t dzX0_copy_0))
theorem dX0_copy_5 : decode cX0_copy 5 = .ok (.putfield 17, 3) := dq_h (dq_t (dq_t (dq_t dzX0_copy_0)))
theorem dX0_copy_8 : decode cX0_copy 8 = .ok (.aload_n 1, 1) := dq_h (dq_t (dq_t (dq_t (dq_t dzX0_copy_0))))
theorem dX0_copy_9 : decode cX0_copy 9 = .ok (.getfield 11, 3) := dq_h (dq_t (dq_t (dq_t (dq_t (dq_t dzX0_copy_0)))))
theorem dX0_copy_12 : decode cX0_copy 12 = .ok (.iconst 0, 1) := dq_h (dq_t (dq_t (dq_t (dq_t (dq_t (dq_t dzX0_copy_0))))))
theorem dX0_copy_13 : decode cX0_copy 13 = .ok (.aload_n 0, 1) := dq_h (dq_t (dq_t (dq_t (dq_t (dq_t (dq_t (dq_t dzX0_copy_0)))))))
theorem dX0_copy_14 : decode cX0_copy 14 = .ok (.getfield 11, 3) := dq_h (dq_t (dq_t (dq_t (dq_t (dq_t (dq_t (dq_t (dq_t dzX0_copy_0))))))))
theorem dX0_copy_17 : decode cX0_copy 17 = .ok (.iconst 0, 1) := dq_h (dq_t (dq_t (dq_t (dq_t (dq_t (dq_t (dq_t (dq_t (dq_t dzX0_copy_0)))))))))
theorem dX0_copy_18 : decode cX0_copy 18 = .ok (.aload_n 0, 1) := dq_h (dq_t (dq_t (dq_t (dq_t (dq_t (dq_t (dq_t (dq_t (dq_t (dq_t dzX0_copy_0))))))))))
theorem dX0_copy_19 : decode cX0_copy 19 = .ok (.getfield 11, 3) := dq_h (dq_t (dq_t (dq_t (dq_t (dq_t (dq_t (dq_t (dq_t (dq_t (dq_t (dq_t dzX0_copy_0)))))))))))
theorem dX0_copy_22 : decode cX0_copy 22 = .ok (.arraylength, 1) := dq_h (dq_t (dq_t (dq_t (dq_t (dq_t (dq_t (dq_t (dq_t (dq_t (dq_t (dq_t (dq_t dzX0_copy_0))))))))))))
theorem dX0_copy_23 : decode cX0_copy 23 = .ok (.invokestatic 21, 3) := dq_h (dq_t (dq_t (dq_t (dq_t (dq_t (dq_t (dq_t (dq_t (dq_t (dq_t (dq_t (dq_t (dq_t dzX0_copy_0)))))))))))))
theorem dX0_copy_26 : decode cX0_copy 26 = .ok (.return_, 1) := dq_h (dq_t (dq_t (dq_t (dq_t (dq_t (dq_t (dq_t (dq_t (dq_t (dq_t (dq_t (dq_t (dq_t (dq_t dzX0_copy_0))))))))))))))
theorem dzX1_init_0 : dq_F cX1_init [(0, .aload_n 0, 1), (1, .invokespecial 3, 3), (4, .aload_n 0, 1), (5, .new 9, 3), (8, .dup, 1), (9, .invokespecial 11, 3), (12, .putfield 12, 3), (15, .aload_n 0, 1), (16, .new 18, 3), (19, .dup, 1), (20, .invokespecial 20, 3), (23, .putfield 21, 3), (26, .aload_n 0, 1), (27, .new 25, 3), (30, .dup, 1), (31, .invokespecial 27, 3), (34, .putfield 28, 3), (37, .aload_n 0, 1), (38, .iconst 3, 1)] := dq_s 19 0 (by decide +kernel)
theorem dX1_init_0 : decode cX1_init 0 = .ok (.aload_n 0, 1) := dq_h dzX1_init_0
theorem dX1_init_1 : decode cX1_init 1 = .ok (.invokespecial 3, 3) := dq_h (dq_t dzX1_init_0)
theorem dX1_init_4 : decode cX1_init 4 = .ok (.aload_n 0, 1) := dq_h (dq_t (dq_t dzX1_init_0))
theorem dX1_init_5 : decode cX1_init 5 = .ok (.new 9, 3) := dq_h (dq_t (dq_t (dq_t dzX1_init_0)))
theorem dX1_init_8 : decode cX1_init 8 = .ok (.dup, 1) := dq_h (dq_t (dq_t (dq_t (dq_t dzX1_init_0))))
theorem dX1_init_9 : decode cX1_init 9 = .ok (.invokespecial 11, 3) := dq_h (dq_t (dq_t (dq_t (dq_t (dq_t dzX1_init_0)))))
theorem dX1_init_12 : decode cX1_init 12 = .ok (.putfield 12, 3) := dq_h (dq_t (dq_t (dq_t (dq_t (dq_t (dq_t dzX1_init_0))))))
theorem dX1_init_15 : decode cX1_init 15 = .ok (.aload_n 0, 1) := dq_h (dq_t (dq_t (dq_t (dq_t (dq_t (dq_t (dq_t dzX1_init_0)))))))
theorem dX1_init_16 : decode cX1_init 16 = .ok (.new 18, 3) := dq_h (dq_t (dq_t (dq_t (dq_t (dq_t (dq_t (dq_t (dq_t dzX1_init_0))))))))
theorem dX1_init_19 : decode cX1_init 19 = .ok (.dup, 1) := dq_h (dq_t (dq_t (dq_t (dq_t (dq_t (dq_t (dq_t (dq_t (dq_t dzX1_init_0)))))))))
theorem dX1_init_20 : decode cX1_init 20 = .ok (.invokespecial 20, 3) := dq_h (dq_t (dq_t (dq_t (dq_t (dq_t (dq_t (dq_t (dq_t (dq_t (dq_t dzX1_init_0))))))))))
theorem dX1_init_23 : decode cX1_init 23 = .ok (.putfield 21, 3) := dq_h (dq_t (dq_t (dq_t (dq_t (dq_t (dq_t (dq_t (dq_t (dq_t (dq_t (dq_t dzX1_init_0)))))))))))
theorem dX1_init_26 : decode cX1_init 26 = .ok (.aload_n 0, 1) := dq_h (dq_t (dq_t (dq_t (dq_t (dq_t (dq_t (dq_t (dq_t (dq_t (dq_t (dq_t (dq_t dzX1_init_0))))))))))))
theorem dX1_init_27 : decode cX1_init 27 = .ok (.new 25, 3) := dq_h (dq_t (dq_t (dq_t (dq_t (dq_t (dq_t (dq_t (dq_t (dq_t (dq_t (dq_t (dq_t (dq_t dzX1_init_0)))))))))))))
theorem dX1_init_30 : decode cX1_init 30 = .ok (.dup, 1) := dq_h (dq_t (dq_t (dq_t (dq_t (dq_t (dq_t (dq_t (dq_t (dq_t (dq_t (dq_t (dq_t (dq_t (dq_t dzX1_init_0))))))))))))))
theorem dX1_init_31 : decode cX1_init 31 = .ok (.invokespecial 27, 3) := dq_h (dq_t (dq_t (dq_t (dq_t (dq_t (dq_t (dq_t (dq_t (dq_t (dq_t (dq_t (dq_t (dq_t (dq_t (dq_t dzX1_init_0)))))))))))))))
theorem dX1_init_34 : decode cX1_init 34 = .ok (.putfield 28, 3) := dq_h (dq_t (dq_t (dq_t (dq_t (dq_t (dq_t (dq_t (dq_t (dq_t (dq_t (dq_t (dq_t (dq_t (dq_t (dq_t (dq_t dzX1_init_0))))))))))))))))
theorem dX1_init_37 : decode cX1_init 37 = .ok (.aload_n 0, 1) := dq_h (dq_t (dq_t (dq_t (dq_t (dq_t (dq_t (dq_t (dq_t (dq_t (dq_t (dq_t (dq_t (dq_t (dq_t (dq_t (dq_t (dq_t dzX1_init_0)))))))))))))))))
theorem dX1_init_38 : decode cX1_init 38 = .ok (.iconst 3, 1) := dq_h (dq_t (dq_t (dq_t (dq_t (dq_t (dq_t (dq_t (dq_t (dq_t (dq_t (dq_t (dq_t (dq_t (dq_t (dq_t (dq_t (dq_t (dq_t dzX1_init_0))))))))))))))))))
theorem dX1_init_39 : decode cX1_init 39 = .ok (.newarray .int, 2) := by decide +kernel
theorem dzX1_init_41 : dq_F cX1_init [(41, .putfield 32, 3), (44, .return_, 1)] := dq_s 2 41 (by decide +kernel)
theorem dX1_init_41 : decode cX1_init 41 = .ok (.putfield 32, 3) := dq_h dzX1_init_41
theorem dX1_init_44 : decode cX1_init 44 = .ok (.return_, 1) := dq_h (dq_t dzX1_init_41)
theorem dzX1_begin_0 : dq_F cX1_begin [(0, .aload_n 0, 1), (1, .getfield 12, 3), (4, .aload_n 1, 1), (5, .invokevirtual 36, 3), (8, .aload_n 0, 1), (9, .getfield 21, 3), (12, .iconst 0, 1), (13, .putfield 40, 3), (16, .aload_n 0, 1), (17, .getfield 28, 3), (20, .iconst 0, 1), (21, .putfield 44, 3), (24, .return_, 1)] := dq_s 13 0 (by decide +kernel)
theorem dX1_begin_0 : decode cX1_begin 0 = .ok (.aload_n 0, 1) := dq_h dzX1_begin_0
theorem dX1_begin_1 : decode cX1_begin 1 = .ok (.getfield 12, 3) := dq_h (dq_t dzX1_begin_0)
theorem dX1_begin_4 : decode cX1_begin 4 = .ok (.aload_n 1, 1) := dq_h (dq_t (dq_t dzX1_begin_0))
theorem dX1_begin_5 : decode cX1_begin 5 = .ok (.invokevirtual 36, 3) := dq_h (dq_t (dq_t (dq_t dzX1_begin_0)))
theorem dX1_begin_8 : decode cX1_begin 8 = .ok (.aload_n 0, 1) := dq_h (dq_t (dq_t (dq_t (dq_t dzX1_begin_0))))
theorem dX1_begin_9 : decode cX1_begin 9 = .ok (.getfield 21, 3) := dq_h (dq_t (dq_t (dq_t (dq_t (dq_t dzX1_begin_0)))))
theorem dX1_begin_12 : decode cX1_begin 12 = .ok (.iconst 0, 1) := dq_h (dq_t (dq_t (dq_t (dq_t (dq_t (dq_t dzX1_begin_0))))))
theorem dX1_begin_13 : decode cX1_begin 13 = .ok (.putfield 40, 3) := dq_h (dq_t (dq_t (dq_t (dq_t (dq_t (dq_t (dq_t dzX1_begin_0)))))))
theorem dX1_begin_16 : decode cX1_begin 16 = .ok (.aload_n 0, 1) := dq_h (dq_t (dq_t (dq_t (dq_t (dq_t (dq_t (dq_t (dq_t dzX1_begin_0))))))))
theorem dX1_begin_17 : decode cX1_begin 17 = .ok (.getfield 28, 3) := dq_h (dq_t (dq_t (dq_t (dq_t (dq_t (dq_t (dq_t (dq_t (dq_t dzX1_begin_0)))))))))
theorem dX1_begin_20 : decode cX1_begin 20 = .ok (.iconst 0, 1) := dq_h (dq_t (dq_t (dq_t (dq_t (dq_t (dq_t (dq_t (dq_t (dq_t (dq_t dzX1_begin_0))))))))))
theorem dX1_begin_21 : decode cX1_begin 21 = .ok (.putfield 44, 3) := dq_h (dq_t (dq_t (dq_t (dq_t (dq_t (dq_t (dq_t (dq_t (dq_t (dq_t (dq_t dzX1_begin_0)))))))))))
theorem dX1_begin_24 : decode cX1_begin 24 = .ok (.return_, 1) := dq_h (dq_t (dq_t (dq_t (dq_t (dq_t (dq_t (dq_t (dq_t (dq_t (dq_t (dq_t (dq_t dzX1_begin_0))))))))))))
theorem dzX1_keepAct_0 : dq_F cX1_keepAct [(0, .aload_n 0, 1), (1, .getfield 21, 3), (4, .aload_n 0, 1), (5, .getfield 12, 3), (8, .invokevirtual 45, 3), (11, .return_, 1)] := dq_s 6 0 (by decide +kernel)
theorem dX1_keepAct_0 : decode cX1_keepAct 0 = .ok (.aload_n 0, 1) := dq_h dzX1_keepAct_0
theorem dX1_keepAct_1 : decode cX1_keepAct 1 = .ok (.getfield 21, 3) := dq_h (dq_t dzX1_keepAct_0)
theorem dX1_keepAct_4 : decode cX1_keepAct 4 = .ok (.aload_n 0, 1) := dq_h (dq_t (dq_t dzX1_keepAct_0))
theorem dX1_keepAct_5 : decode cX1_keepAct 5 = .ok (.getfield 12, 3) := dq_h (dq_t (dq_t (dq_t dzX1_keepAct_0)))
theorem dX1_keepAct_8 : decode cX1_keepAct 8 = .ok (.invokevirtual 45, 3) := dq_h (dq_t (dq_t (dq_t (dq_t dzX1_keepAct_0))))
theorem dX1_keepAct_11 : decode cX1_keepAct 11 = .ok (.return_, 1) := dq_h (dq_t (dq_t (dq_t (dq_t (dq_t dzX1_keepAct_0)))))
theorem dzX1_refuse_0 : dq_F cX1_refuse [(0, .iload_n 1, 1), (1, .ifCond .lt 22, 3), (4, .iload_n 1, 1), (5, .aload_n 0, 1), (6, .getfield 32, 3), (9, .arraylength, 1), (10, .if_icmp .ge 13, 3), (13, .aload_n 0, 1), (14, .getfield 32, 3), (17, .iload_n 1, 1), (18, .dup2, 1), (19, .iaload, 1), (20, .iconst 1, 1), (21, .iadd, 1), (22, .iastore, 1), (23, .iconst (-1), 1), (24, .ireturn, 1)] := dq_s 17 0 (by decide +kernel)
theorem dX1_refuse_0 : decode cX1_refuse 0 = .ok (.iload_n 1, 1) := dq_h dzX1_refuse_0
theorem dX1_refuse_1 : decode cX1_refuse 1 = .ok (.ifCond .lt 22, 3) := dq_h (dq_t dzX1_refuse_0)
theorem dX1_refuse_4 : decode cX1_refuse 4 = .ok (.iload_n 1, 1) := dq_h (dq_t (dq_t dzX1_refuse_0))
theorem dX1_refuse_5 : decode cX1_refuse 5 = .ok (.aload_n 0, 1) := dq_h (dq_t (dq_t (dq_t dzX1_refuse_0)))
theorem dX1_refuse_6 : decode cX1_refuse 6 = .ok (.getfield 32, 3) := dq_h (dq_t (dq_t (dq_t (dq_t dzX1_refuse_0))))
theorem dX1_refuse_9 : decode cX1_refuse 9 = .ok (.arraylength, 1) := dq_h (dq_t (dq_t (dq_t (dq_t (dq_t dzX1_refuse_0)))))
theorem dX1_refuse_10 : decode cX1_refuse 10 = .ok (.if_icmp .ge 13, 3) := dq_h (dq_t (dq_t (dq_t (dq_t (dq_t (dq_t dzX1_refuse_0))))))
theorem dX1_refuse_13 : decode cX1_refuse 13 = .ok (.aload_n 0, 1) := dq_h (dq_t (dq_t (dq_t (dq_t (dq_t (dq_t (dq_t dzX1_refuse_0)))))))
theorem dX1_refuse_14 : decode cX1_refuse 14 = .ok (.getfield 32, 3) := dq_h (dq_t (dq_t (dq_t (dq_t (dq_t (dq_t (dq_t (dq_t dzX1_refuse_0))))))))
theorem dX1_refuse_17 : decode cX1_refuse 17 = .ok (.iload_n 1, 1) := dq_h (dq_t (dq_t (dq_t (dq_t (dq_t (dq_t (dq_t (dq_t (dq_t dzX1_refuse_0)))))))))
theorem dX1_refuse_18 : decode cX1_refuse 18 = .ok (.dup2, 1) := dq_h (dq_t (dq_t (dq_t (dq_t (dq_t (dq_t (dq_t (dq_t (dq_t (dq_t dzX1_refuse_0))))))))))
theorem dX1_refuse_19 : decode cX1_refuse 19 = .ok (.iaload, 1) := dq_h (dq_t (dq_t (dq_t (dq_t (dq_t (dq_t (dq_t (dq_t (dq_t (dq_t (dq_t dzX1_refuse_0)))))))))))
theorem dX1_refuse_20 : decode cX1_refuse 20 = .ok (.iconst 1, 1) := dq_h (dq_t (dq_t (dq_t (dq_t (dq_t (dq_t (dq_t (dq_t (dq_t (dq_t (dq_t (dq_t dzX1_refuse_0))))))))))))
theorem dX1_refuse_21 : decode cX1_refuse 21 = .ok (.iadd, 1) := dq_h (dq_t (dq_t (dq_t (dq_t (dq_t (dq_t (dq_t (dq_t (dq_t (dq_t (dq_t (dq_t (dq_t dzX1_refuse_0)))))))))))))
theorem dX1_refuse_22 : decode cX1_refuse 22 = .ok (.iastore, 1) := dq_h (dq_t (dq_t (dq_t (dq_t (dq_t (dq_t (dq_t (dq_t (dq_t (dq_t (dq_t (dq_t (dq_t (dq_t dzX1_refuse_0))))))))))))))
theorem dX1_refuse_23 : decode cX1_refuse 23 = .ok (.iconst (-1), 1) := dq_h (dq_t (dq_t (dq_t (dq_t (dq_t (dq_t (dq_t (dq_t (dq_t (dq_t (dq_t (dq_t (dq_t (dq_t (dq_t dzX1_refuse_0)))))))))))))))
theorem dX1_refuse_24 : decode cX1_refuse 24 = .ok (.ireturn, 1) := dq_h (dq_t (dq_t (dq_t (dq_t (dq_t (dq_t (dq_t (dq_t (dq_t (dq_t (dq_t (dq_t (dq_t (dq_t (dq_t (dq_t dzX1_refuse_0))))))))))))))))
theorem dzX1_copy_0 : dq_F cX1_copy [(0, .aload_n 0, 1), (1, .getfield 12, 3), (4, .aload_n 1, 1), (5, .getfield 12, 3), (8, .invokevirtual 49, 3), (11, .aload_n 0, 1), (12, .getfield 21, 3), (15, .aload_n 1, 1), (16, .getfield 21, 3), (19, .invokevirtual 52, 3), (22, .aload_n 0, 1), (23, .getfield 28, 3), (26, .aload_n 1, 1), (27, .getfield 28, 3), (30, .invokevirtual 55, 3), (33, .iconst 0, 1), (34, .istore_n 2, 1), (35, .iload_n 2, 1), (36, .iconst 3, 1), (37, .if_icmp .ge 21, 3), (40, .aload_n 0, 1), (41, .getfield 32, 3), (44, .iload_n 2, 1), (45, .aload_n 1, 1)] := dq_s 24 0 (by decide +kernel)
theorem dX1_copy_0 : decode cX1_copy 0 = .ok (.aload_n 0, 1) := dq_h dzX1_copy_0
theorem dX1_copy_1 : decode cX1_copy 1 = .ok (.getfield 12, 3) := dq_h (dq_t dzX1_copy_0)
theorem dX1_copy_4 : decode cX1_copy 4 = .ok (.aload_n 1, 1) := dq_h (dq_t (dq_t dzX1_copy_0))
theorem dX1_copy_5 : decode cX1_copy 5 = .ok (.getfield 12, 3) := dq_h (dq_t (dq_t (dq_t dzX1_copy_0)))
theorem dX1_copy_8 : decode cX1_copy 8 = .ok (.invokevirtual 49, 3) := dq_h (dq_t (dq_t (dq_t (dq_t dzX1_copy_0))))
theorem dX1_copy_11 : decode cX1_copy 11 = .ok (.aload_n 0, 1) := dq_h (dq_t (dq_t (dq_t (dq_t (dq_t dzX1_copy_0)))))
theorem dX1_copy_12 : decode cX1_copy 12 = .ok (.getfield 21, 3) := dq_h (dq_t (dq_t (dq_t (dq_t (dq_t (dq_t dzX1_copy_0))))))
theorem dX1_copy_15 : decode cX1_copy 15 = .ok (.aload_n 1, 1) := dq_h (dq_t (dq_t (dq_t (dq_t (dq_t (dq_t (dq_t dzX1_copy_0)))))))
theorem dX1_copy_16 : decode cX1_copy 16 = .ok (.getfield 21, 3) := dq_h (dq_t (dq_t (dq_t (dq_t (dq_t (dq_t (dq_t (dq_t dzX1_copy_0))))))))
theorem dX1_copy_19 : decode cX1_copy 19 = .ok (.invokevirtual 52, 3) := dq_h (dq_t (dq_t (dq_t (dq_t (dq_t (dq_t (dq_t (dq_t (dq_t dzX1_copy_0)))))))))
theorem dX1_copy_22 : decode cX1_copy 22 = .ok (.aload_n 0, 1) := dq_h (dq_t (dq_t (dq_t (dq_t (dq_t (dq_t (dq_t (dq_t (dq_t (dq_t dzX1_copy_0))))))))))
theorem dX1_copy_23 : decode cX1_copy 23 = .ok (.getfield 28, 3) := dq_h (dq_t (dq_t (dq_t (dq_t (dq_t (dq_t (dq_t (dq_t (dq_t (dq_t (dq_t dzX1_copy_0)))))))))))
theorem dX1_copy_26 : decode cX1_copy 26 = .ok (.aload_n 1, 1) := dq_h (dq_t (dq_t (dq_t (dq_t (dq_t (dq_t (dq_t (dq_t (dq_t (dq_t (dq_t (dq_t dzX1_copy_0))))))))))))
theorem dX1_copy_27 : decode cX1_copy 27 = .ok (.getfield 28, 3) := dq_h (dq_t (dq_t (dq_t (dq_t (dq_t (dq_t (dq_t (dq_t (dq_t (dq_t (dq_t (dq_t (dq_t dzX1_copy_0)))))))))))))
theorem dX1_copy_30 : decode cX1_copy 30 = .ok (.invokevirtual 55, 3) := dq_h (dq_t (dq_t (dq_t (dq_t (dq_t (dq_t (dq_t (dq_t (dq_t (dq_t (dq_t (dq_t (dq_t (dq_t dzX1_copy_0))))))))))))))
theorem dX1_copy_33 : decode cX1_copy 33 = .ok (.iconst 0, 1) := dq_h (dq_t (dq_t (dq_t (dq_t (dq_t (dq_t (dq_t (dq_t (dq_t (dq_t (dq_t (dq_t (dq_t (dq_t (dq_t dzX1_copy_0)))))))))))))))
theorem dX1_copy_34 : decode cX1_copy 34 = .ok (.istore_n 2, 1) := dq_h (dq_t (dq_t (dq_t (dq_t (dq_t (dq_t (dq_t (dq_t (dq_t (dq_t (dq_t (dq_t (dq_t (dq_t (dq_t (dq_t dzX1_copy_0))))))))))))))))
theorem dX1_copy_35 : decode cX1_copy 35 = .ok (.iload_n 2, 1) := dq_h (dq_t (dq_t (dq_t (dq_t (dq_t (dq_t (dq_t (dq_t (dq_t (dq_t (dq_t (dq_t (dq_t (dq_t (dq_t (dq_t (dq_t dzX1_copy_0)))))))))))))))))
theorem dX1_copy_36 : decode cX1_copy 36 = .ok (.iconst 3, 1) := dq_h (dq_t (dq_t (dq_t (dq_t (dq_t (dq_t (dq_t (dq_t (dq_t (dq_t (dq_t (dq_t (dq_t (dq_t (dq_t (dq_t (dq_t (dq_t dzX1_copy_0))))))))))))))))))
theorem dX1_copy_37 : decode cX1_copy 37 = .ok (.if_icmp .ge 21, 3) := dq_h (dq_t (dq_t (dq_t (dq_t (dq_t (dq_t (dq_t (dq_t (dq_t (dq_t (dq_t (dq_t (dq_t (dq_t (dq_t (dq_t (dq_t (dq_t (dq_t dzX1_copy_0)))))))))))))))))))
theorem dX1_copy_40 : decode cX1_copy 40 = .ok (.aload_n 0, 1) := dq_h (dq_t (dq_t (dq_t (dq_t (dq_t (dq_t (dq_t (dq_t (dq_t (dq_t (dq_t (dq_t (dq_t (dq_t (dq_t (dq_t (dq_t (dq_t (dq_t (dq_t dzX1_copy_0))))))))))))))))))))
theorem dX1_copy_41 : decode cX1_copy 41 = .ok (.getfield 32, 3) := dq_h (dq_t (dq_t (dq_t (dq_t (dq_t (dq_t (dq_t (dq_t (dq_t (dq_t (dq_t (dq_t (dq_t (dq_t (dq_t (dq_t (dq_t (dq_t (dq_t (dq_t (dq_t dzX1_copy_0)))))))))))))))))))))
theorem dX1_copy_44 : decode cX1_copy 44 = .ok (.iload_n 2, 1) := dq_h (dq_t (dq_t (dq_t (dq_t (dq_t (dq_t (dq_t (dq_t (dq_t (dq_t (dq_t (dq_t (dq_t (dq_t (dq_t (dq_t (dq_t (dq_t (dq_t (dq_t (dq_t (dq_t dzX1_copy_0))))))))))))))))))))))
theorem dX1_copy_45 : decode cX1_copy 45 = .ok (.aload_n 1, 1) := dq_h (dq_t (dq_t (dq_t (dq_t (dq_t (dq_t (dq_t (dq_t (dq_t (dq_t (dq_t (dq_t (dq_t (dq_t (dq_t (dq_t (dq_t (dq_t (dq_t (dq_t (dq_t (dq_t (dq_t dzX1_copy_0)))))))))))))))))))))))
theorem dzX1_copy_46 : dq_F cX1_copy [(46, .getfield 32, 3), (49, .iload_n 2, 1), (50, .iaload, 1), (51, .iastore, 1), (52, .iinc 2 1, 3), (55, .goto (-20), 3), (58, .return_, 1)] := dq_s 7 46 (by decide +kernel)
theorem dX1_copy_46 : decode cX1_copy 46 = .ok (.getfield 32, 3) := dq_h dzX1_copy_46
theorem dX1_copy_49 : decode cX1_copy 49 = .ok (.iload_n 2, 1) := dq_h (dq_t dzX1_copy_46)
theorem dX1_copy_50 : decode cX1_copy 50 = .ok (.iaload, 1) := dq_h (dq_t (dq_t dzX1_copy_46))
theorem dX1_copy_51 : decode cX1_copy 51 = .ok (.iastore, 1) := dq_h (dq_t (dq_t (dq_t dzX1_copy_46)))
theorem dX1_copy_52 : decode cX1_copy 52 = .ok (.iinc 2 1, 3) := dq_h (dq_t (dq_t (dq_t (dq_t dzX1_copy_46))))
theorem dX1_copy_55 : decode cX1_copy 55 = .ok (.goto (-20), 3) := dq_h (dq_t (dq_t (dq_t (dq_t (dq_t dzX1_copy_46)))))
theorem dX1_copy_58 : decode cX1_copy 58 = .ok (.return_, 1) := dq_h (dq_t (dq_t (dq_t (dq_t (dq_t (dq_t dzX1_copy_46))))))
theorem dzX2_init_0 : dq_F cX2_init [(0, .aload_n 0, 1), (1, .invokespecial 3, 3), (4, .aload_n 0, 1), (5, .bipush 6, 2), (7, .bipush 21, 2)] := dq_s 5 0 (by decide +kernel)
theorem dX2_init_0 : decode cX2_init 0 = .ok (.aload_n 0, 1) := dq_h dzX2_init_0
theorem dX2_init_1 : decode cX2_init 1 = .ok (.invokespecial 3, 3) := dq_h (dq_t dzX2_init_0)
theorem dX2_init_4 : decode cX2_init 4 = .ok (.aload_n 0, 1) := dq_h (dq_t (dq_t dzX2_init_0))
theorem dX2_init_5 : decode cX2_init 5 = .ok (.bipush 6, 2) := dq_h (dq_t (dq_t (dq_t dzX2_init_0)))
theorem dX2_init_7 : decode cX2_init 7 = .ok (.bipush 21, 2) := dq_h (dq_t (dq_t (dq_t (dq_t dzX2_init_0))))
theorem dX2_init_9 : decode cX2_init 9 = .ok (.multianewarray 9 2, 4) := by decide +kernel
theorem dzX2_init_13 : dq_F cX2_init [(13, .putfield 11, 3), (16, .aload_n 0, 1), (17, .bipush 21, 2)] := dq_s 3 13 (by decide +kernel)
theorem dX2_init_13 : decode cX2_init 13 = .ok (.putfield 11, 3) := dq_h dzX2_init_13
theorem dX2_init_16 : decode cX2_init 16 = .ok (.aload_n 0, 1) := dq_h (dq_t dzX2_init_13)
theorem dX2_init_17 : decode cX2_init 17 = .ok (.bipush 21, 2) := dq_h (dq_t (dq_t dzX2_init_13))
theorem dX2_init_19 : decode cX2_init 19 = .ok (.newarray .int, 2) := by decide +kernel
theorem dzX2_init_21 : dq_F cX2_init [(21, .putfield 16, 3), (24, .aload_n 0, 1), (25, .bipush 21, 2)] := dq_s 3 21 (by decide +kernel)
theorem dX2_init_21 : decode cX2_init 21 = .ok (.putfield 16, 3) := dq_h dzX2_init_21
theorem dX2_init_24 : decode cX2_init 24 = .ok (.aload_n 0, 1) := dq_h (dq_t dzX2_init_21)
theorem dX2_init_25 : decode cX2_init 25 = .ok (.bipush 21, 2) := dq_h (dq_t (dq_t dzX2_init_21))
theorem dX2_init_27 : decode cX2_init 27 = .ok (.newarray .int, 2) := by decide +kernel
theorem dzX2_init_29 : dq_F cX2_init [(29, .putfield 20, 3), (32, .aload_n 0, 1), (33, .iconst 0, 1), (34, .putfield 23, 3), (37, .aload_n 0, 1), (38, .iconst (-1), 1), (39, .putfield 27, 3), (42, .aload_n 0, 1), (43, .iconst 1, 1), (44, .putfield 30, 3), (47, .return_, 1)] := dq_s 11 29 (by decide +kernel)
theorem dX2_init_29 : decode cX2_init 29 = .ok (.putfield 20, 3) := dq_h dzX2_init_29
theorem dX2_init_32 : decode cX2_init 32 = .ok (.aload_n 0, 1) := dq_h (dq_t dzX2_init_29)
theorem dX2_init_33 : decode cX2_init 33 = .ok (.iconst 0, 1) := dq_h (dq_t (dq_t dzX2_init_29))
theorem dX2_init_34 : decode cX2_init 34 = .ok (.putfield 23, 3) := dq_h (dq_t (dq_t (dq_t dzX2_init_29)))
theorem dX2_init_37 : decode cX2_init 37 = .ok (.aload_n 0, 1) := dq_h (dq_t (dq_t (dq_t (dq_t dzX2_init_29))))
theorem dX2_init_38 : decode cX2_init 38 = .ok (.iconst (-1), 1) := dq_h (dq_t (dq_t (dq_t (dq_t (dq_t dzX2_init_29)))))
theorem dX2_init_39 : decode cX2_init 39 = .ok (.putfield 27, 3) := dq_h (dq_t (dq_t (dq_t (dq_t (dq_t (dq_t dzX2_init_29))))))
theorem dX2_init_42 : decode cX2_init 42 = .ok (.aload_n 0, 1) := dq_h (dq_t (dq_t (dq_t (dq_t (dq_t (dq_t (dq_t dzX2_init_29)))))))
theorem dX2_init_43 : decode cX2_init 43 = .ok (.iconst 1, 1) := dq_h (dq_t (dq_t (dq_t (dq_t (dq_t (dq_t (dq_t (dq_t dzX2_init_29))))))))
theorem dX2_init_44 : decode cX2_init 44 = .ok (.putfield 30, 3) := dq_h (dq_t (dq_t (dq_t (dq_t (dq_t (dq_t (dq_t (dq_t (dq_t dzX2_init_29)))))))))
theorem dX2_init_47 : decode cX2_init 47 = .ok (.return_, 1) := dq_h (dq_t (dq_t (dq_t (dq_t (dq_t (dq_t (dq_t (dq_t (dq_t (dq_t dzX2_init_29))))))))))
theorem dzX2_weigh_0 : dq_F cX2_weigh [(0, .aload_n 0, 1), (1, .iconst 0, 1), (2, .putfield 23, 3), (5, .aload_n 0, 1), (6, .iconst (-1), 1), (7, .putfield 27, 3), (10, .iconst 0, 1), (11, .istore 4, 2), (13, .iload 4, 2), (15, .bipush 20, 2), (17, .if_icmp .gt 17, 3), (20, .aload_n 0, 1), (21, .getfield 20, 3), (24, .iload 4, 2), (26, .iconst 0, 1), (27, .iastore, 1), (28, .iinc 4 1, 3), (31, .goto (-18), 3), (34, .iconst 0, 1), (35, .istore 4, 2), (37, .iload 4, 2), (39, .aload_n 1, 1), (40, .getfield 34, 3), (43, .if_icmp .ge 32, 3)] := dq_s 24 0 (by decide +kernel)
theorem dX2_weigh_0 : decode cX2_weigh 0 = .ok (.aload_n 0, 1) := dq_h dzX2_weigh_0
theorem dX2_weigh_1 : decode cX2_weigh 1 = .ok (.iconst 0, 1) := dq_h (dq_t dzX2_weigh_0)
theorem dX2_weigh_2 : decode cX2_weigh 2 = .ok (.putfield 23, 3) := dq_h (dq_t (dq_t dzX2_weigh_0))
theorem dX2_weigh_5 : decode cX2_weigh 5 = .ok (.aload_n 0, 1) := dq_h (dq_t (dq_t (dq_t dzX2_weigh_0)))
theorem dX2_weigh_6 : decode cX2_weigh 6 = .ok (.iconst (-1), 1) := dq_h (dq_t (dq_t (dq_t (dq_t dzX2_weigh_0))))
theorem dX2_weigh_7 : decode cX2_weigh 7 = .ok (.putfield 27, 3) := dq_h (dq_t (dq_t (dq_t (dq_t (dq_t dzX2_weigh_0)))))
theorem dX2_weigh_10 : decode cX2_weigh 10 = .ok (.iconst 0, 1) := dq_h (dq_t (dq_t (dq_t (dq_t (dq_t (dq_t dzX2_weigh_0))))))
theorem dX2_weigh_11 : decode cX2_weigh 11 = .ok (.istore 4, 2) := dq_h (dq_t (dq_t (dq_t (dq_t (dq_t (dq_t (dq_t dzX2_weigh_0)))))))
theorem dX2_weigh_13 : decode cX2_weigh 13 = .ok (.iload 4, 2) := dq_h (dq_t (dq_t (dq_t (dq_t (dq_t (dq_t (dq_t (dq_t dzX2_weigh_0))))))))
theorem dX2_weigh_15 : decode cX2_weigh 15 = .ok (.bipush 20, 2) := dq_h (dq_t (dq_t (dq_t (dq_t (dq_t (dq_t (dq_t (dq_t (dq_t dzX2_weigh_0)))))))))
theorem dX2_weigh_17 : decode cX2_weigh 17 = .ok (.if_icmp .gt 17, 3) := dq_h (dq_t (dq_t (dq_t (dq_t (dq_t (dq_t (dq_t (dq_t (dq_t (dq_t dzX2_weigh_0))))))))))
theorem dX2_weigh_20 : decode cX2_weigh 20 = .ok (.aload_n 0, 1) := dq_h (dq_t (dq_t (dq_t (dq_t (dq_t (dq_t (dq_t (dq_t (dq_t (dq_t (dq_t dzX2_weigh_0)))))))))))
theorem dX2_weigh_21 : decode cX2_weigh 21 = .ok (.getfield 20, 3) := dq_h (dq_t (dq_t (dq_t (dq_t (dq_t (dq_t (dq_t (dq_t (dq_t (dq_t (dq_t (dq_t dzX2_weigh_0))))))))))))
theorem dX2_weigh_24 : decode cX2_weigh 24 = .ok (.iload 4, 2) := dq_h (dq_t (dq_t (dq_t (dq_t (dq_t (dq_t (dq_t (dq_t (dq_t (dq_t (dq_t (dq_t (dq_t dzX2_weigh_0)))))))))))))
theorem dX2_weigh_26 : decode cX2_weigh 26 = .ok (.iconst 0, 1) := dq_h (dq_t (dq_t (dq_t (dq_t (dq_t (dq_t (dq_t (dq_t (dq_t (dq_t (dq_t (dq_t (dq_t (dq_t dzX2_weigh_0))))))))))))))
theorem dX2_weigh_27 : decode cX2_weigh 27 = .ok (.iastore, 1) := dq_h (dq_t (dq_t (dq_t (dq_t (dq_t (dq_t (dq_t (dq_t (dq_t (dq_t (dq_t (dq_t (dq_t (dq_t (dq_t dzX2_weigh_0)))))))))))))))
theorem dX2_weigh_28 : decode cX2_weigh 28 = .ok (.iinc 4 1, 3) := dq_h (dq_t (dq_t (dq_t (dq_t (dq_t (dq_t (dq_t (dq_t (dq_t (dq_t (dq_t (dq_t (dq_t (dq_t (dq_t (dq_t dzX2_weigh_0))))))))))))))))
theorem dX2_weigh_31 : decode cX2_weigh 31 = .ok (.goto (-18), 3) := dq_h (dq_t (dq_t (dq_t (dq_t (dq_t (dq_t (dq_t (dq_t (dq_t (dq_t (dq_t (dq_t (dq_t (dq_t (dq_t (dq_t (dq_t dzX2_weigh_0)))))))))))))))))
theorem dX2_weigh_34 : decode cX2_weigh 34 = .ok (.iconst 0, 1) := dq_h (dq_t (dq_t (dq_t (dq_t (dq_t (dq_t (dq_t (dq_t (dq_t (dq_t (dq_t (dq_t (dq_t (dq_t (dq_t (dq_t (dq_t (dq_t dzX2_weigh_0))))))))))))))))))
theorem dX2_weigh_35 : decode cX2_weigh 35 = .ok (.istore 4, 2) := dq_h (dq_t (dq_t (dq_t (dq_t (dq_t (dq_t (dq_t (dq_t (dq_t (dq_t (dq_t (dq_t (dq_t (dq_t (dq_t (dq_t (dq_t (dq_t (dq_t dzX2_weigh_0)))))))))))))))))))
theorem dX2_weigh_37 : decode cX2_weigh 37 = .ok (.iload 4, 2) := dq_h (dq_t (dq_t (dq_t (dq_t (dq_t (dq_t (dq_t (dq_t (dq_t (dq_t (dq_t (dq_t (dq_t (dq_t (dq_t (dq_t (dq_t (dq_t (dq_t (dq_t dzX2_weigh_0))))))))))))))))))))
theorem dX2_weigh_39 : decode cX2_weigh 39 = .ok (.aload_n 1, 1) := dq_h (dq_t (dq_t (dq_t (dq_t (dq_t (dq_t (dq_t (dq_t (dq_t (dq_t (dq_t (dq_t (dq_t (dq_t (dq_t (dq_t (dq_t (dq_t (dq_t (dq_t (dq_t dzX2_weigh_0)))))))))))))))))))))
theorem dX2_weigh_40 : decode cX2_weigh 40 = .ok (.getfield 34, 3) := dq_h (dq_t (dq_t (dq_t (dq_t (dq_t (dq_t (dq_t (dq_t (dq_t (dq_t (dq_t (dq_t (dq_t (dq_t (dq_t (dq_t (dq_t (dq_t (dq_t (dq_t (dq_t (dq_t dzX2_weigh_0))))))))))))))))))))))
theorem dX2_weigh_43 : decode cX2_weigh 43 = .ok (.if_icmp .ge 32, 3) := dq_h (dq_t (dq_t (dq_t (dq_t (dq_t (dq_t (dq_t (dq_t (dq_t (dq_t (dq_t (dq_t (dq_t (dq_t (dq_t (dq_t (dq_t (dq_t (dq_t (dq_t (dq_t (dq_t (dq_t dzX2_weigh_0)))))))))))))))))))))))
theorem dzX2_weigh_46 : dq_F cX2_weigh [(46, .aload_n 3, 1), (47, .aload_n 1, 1), (48, .aload_n 2, 1), (49, .getfield 39, 3), (52, .iload 4, 2), (54, .invokevirtual 45, 3), (57, .aload_n 1, 1), (58, .aload_n 3, 1), (59, .aload_n 0, 1), (60, .getfield 11, 3), (63, .iload 4, 2), (65, .aaload, 1), (66, .invokestatic 51, 3), (69, .iinc 4 1, 3), (72, .goto (-35), 3), (75, .aload_n 0, 1), (76, .aload_n 0, 1), (77, .aload_n 1, 1), (78, .aload_n 2, 1), (79, .getfield 55, 3), (82, .iconst (-1), 1), (83, .invokevirtual 59, 3), (86, .putfield 30, 3), (89, .iconst 0, 1)] := dq_s 24 46 (by decide +kernel)
theorem dX2_weigh_46 : decode cX2_weigh 46 = .ok (.aload_n 3, 1) := dq_h dzX2_weigh_46
theorem dX2_weigh_47 : decode cX2_weigh 47 = .ok (.aload_n 1, 1) := dq_h (dq_t dzX2_weigh_46)
theorem dX2_weigh_48 : decode cX2_weigh 48 = .ok (.aload_n 2, 1) := dq_h (dq_t (dq_t dzX2_weigh_46))
theorem dX2_weigh_49 : decode cX2_weigh 49 = .ok (.getfield 39, 3) := dq_h (dq_t (dq_t (dq_t dzX2_weigh_46)))
theorem dX2_weigh_52 : decode cX2_weigh 52 = .ok (.iload 4, 2) := dq_h (dq_t (dq_t (dq_t (dq_t dzX2_weigh_46))))
theorem dX2_weigh_54 : decode cX2_weigh 54 = .ok (.invokevirtual 45, 3) := dq_h (dq_t (dq_t (dq_t (dq_t (dq_t dzX2_weigh_46)))))
theorem dX2_weigh_57 : decode cX2_weigh 57 = .ok (.aload_n 1, 1) := dq_h (dq_t (dq_t (dq_t (dq_t (dq_t (dq_t dzX2_weigh_46))))))
theorem dX2_weigh_58 : decode cX2_weigh 58 = .ok (.aload_n 3, 1) := dq_h (dq_t (dq_t (dq_t (dq_t (dq_t (dq_t (dq_t dzX2_weigh_46)))))))
theorem dX2_weigh_59 : decode cX2_weigh 59 = .ok (.aload_n 0, 1) := dq_h (dq_t (dq_t (dq_t (dq_t (dq_t (dq_t (dq_t (dq_t dzX2_weigh_46))))))))
theorem dX2_weigh_60 : decode cX2_weigh 60 = .ok (.getfield 11, 3) := dq_h (dq_t (dq_t (dq_t (dq_t (dq_t (dq_t (dq_t (dq_t (dq_t dzX2_weigh_46)))))))))
theorem dX2_weigh_63 : decode cX2_weigh 63 = .ok (.iload 4, 2) := dq_h (dq_t (dq_t (dq_t (dq_t (dq_t (dq_t (dq_t (dq_t (dq_t (dq_t dzX2_weigh_46))))))))))
theorem dX2_weigh_65 : decode cX2_weigh 65 = .ok (.aaload, 1) := dq_h (dq_t (dq_t (dq_t (dq_t (dq_t (dq_t (dq_t (dq_t (dq_t (dq_t (dq_t dzX2_weigh_46)))))))))))
theorem dX2_weigh_66 : decode cX2_weigh 66 = .ok (.invokestatic 51, 3) := dq_h (dq_t (dq_t (dq_t (dq_t (dq_t (dq_t (dq_t (dq_t (dq_t (dq_t (dq_t (dq_t dzX2_weigh_46))))))))))))
theorem dX2_weigh_69 : decode cX2_weigh 69 = .ok (.iinc 4 1, 3) := dq_h (dq_t (dq_t (dq_t (dq_t (dq_t (dq_t (dq_t (dq_t (dq_t (dq_t (dq_t (dq_t (dq_t dzX2_weigh_46)))))))))))))
theorem dX2_weigh_72 : decode cX2_weigh 72 = .ok (.goto (-35), 3) := dq_h (dq_t (dq_t (dq_t (dq_t (dq_t (dq_t (dq_t (dq_t (dq_t (dq_t (dq_t (dq_t (dq_t (dq_t dzX2_weigh_46))))))))))))))
theorem dX2_weigh_75 : decode cX2_weigh 75 = .ok (.aload_n 0, 1) := dq_h (dq_t (dq_t (dq_t (dq_t (dq_t (dq_t (dq_t (dq_t (dq_t (dq_t (dq_t (dq_t (dq_t (dq_t (dq_t dzX2_weigh_46)))))))))))))))
theorem dX2_weigh_76 : decode cX2_weigh 76 = .ok (.aload_n 0, 1) := dq_h (dq_t (dq_t (dq_t (dq_t (dq_t (dq_t (dq_t (dq_t (dq_t (dq_t (dq_t (dq_t (dq_t (dq_t (dq_t (dq_t dzX2_weigh_46))))))))))))))))
theorem dX2_weigh_77 : decode cX2_weigh 77 = .ok (.aload_n 1, 1) := dq_h (dq_t (dq_t (dq_t (dq_t (dq_t (dq_t (dq_t (dq_t (dq_t (dq_t (dq_t (dq_t (dq_t (dq_t (dq_t (dq_t (dq_t dzX2_weigh_46)))))))))))))))))
theorem dX2_weigh_78 : decode cX2_weigh 78 = .ok (.aload_n 2, 1) := dq_h (dq_t (dq_t (dq_t (dq_t (dq_t (dq_t (dq_t (dq_t (dq_t (dq_t (dq_t (dq_t (dq_t (dq_t (dq_t (dq_t (dq_t (dq_t dzX2_weigh_46))))))))))))))))))
theorem dX2_weigh_79 : decode cX2_weigh 79 = .ok (.getfield 55, 3) := dq_h (dq_t (dq_t (dq_t (dq_t (dq_t (dq_t (dq_t (dq_t (dq_t (dq_t (dq_t (dq_t (dq_t (dq_t (dq_t (dq_t (dq_t (dq_t (dq_t dzX2_weigh_46)))))))))))))))))))
theorem dX2_weigh_82 : decode cX2_weigh 82 = .ok (.iconst (-1), 1) := dq_h (dq_t (dq_t (dq_t (dq_t (dq_t (dq_t (dq_t (dq_t (dq_t (dq_t (dq_t (dq_t (dq_t (dq_t (dq_t (dq_t (dq_t (dq_t (dq_t (dq_t dzX2_weigh_46))))))))))))))))))))
theorem dX2_weigh_83 : decode cX2_weigh 83 = .ok (.invokevirtual 59, 3) := dq_h (dq_t (dq_t (dq_t (dq_t (dq_t (dq_t (dq_t (dq_t (dq_t (dq_t (dq_t (dq_t (dq_t (dq_t (dq_t (dq_t (dq_t (dq_t (dq_t (dq_t (dq_t dzX2_weigh_46)))))))))))))))))))))
theorem dX2_weigh_86 : decode cX2_weigh 86 = .ok (.putfield 30, 3) := dq_h (dq_t (dq_t (dq_t (dq_t (dq_t (dq_t (dq_t (dq_t (dq_t (dq_t (dq_t (dq_t (dq_t (dq_t (dq_t (dq_t (dq_t (dq_t (dq_t (dq_t (dq_t (dq_t dzX2_weigh_46))))))))))))))))))))))
theorem dX2_weigh_89 : decode cX2_weigh 89 = .ok (.iconst 0, 1) := dq_h (dq_t (dq_t (dq_t (dq_t (dq_t (dq_t (dq_t (dq_t (dq_t (dq_t (dq_t (dq_t (dq_t (dq_t (dq_t (dq_t (dq_t (dq_t (dq_t (dq_t (dq_t (dq_t (dq_t dzX2_weigh_46)))))))))))))))))))))))
theorem dzX2_weigh_90 : dq_F cX2_weigh [(90, .istore 4, 2), (92, .iload 4, 2), (94, .aload_n 1, 1), (95, .getfield 34, 3), (98, .if_icmp .ge 32, 3), (101, .aload_n 0, 1), (102, .aload_n 1, 1), (103, .aload_n 2, 1), (104, .getfield 55, 3), (107, .iload 4, 2), (109, .invokevirtual 59, 3), (112, .ifCond .eq 12, 3), (115, .aload_n 0, 1), (116, .aload_n 1, 1), (117, .aload_n 2, 1), (118, .aload_n 3, 1), (119, .iload 4, 2), (121, .invokevirtual 63, 3), (124, .iinc 4 1, 3), (127, .goto (-35), 3), (130, .return_, 1)] := dq_s 21 90 (by decide +kernel)
theorem dX2_weigh_90 : decode cX2_weigh 90 = .ok (.istore 4, 2) := dq_h dzX2_weigh_90
theorem dX2_weigh_92 : decode cX2_weigh 92 = .ok (.iload 4, 2) := dq_h (dq_t dzX2_weigh_90)
theorem dX2_weigh_94 : decode cX2_weigh 94 = .ok (.aload_n 1, 1) := dq_h (dq_t (dq_t dzX2_weigh_90))
theorem dX2_weigh_95 : decode cX2_weigh 95 = .ok (.getfield 34, 3) := dq_h (dq_t (dq_t (dq_t dzX2_weigh_90)))
theorem dX2_weigh_98 : decode cX2_weigh 98 = .ok (.if_icmp .ge 32, 3) := dq_h (dq_t (dq_t (dq_t (dq_t dzX2_weigh_90))))
theorem dX2_weigh_101 : decode cX2_weigh 101 = .ok (.aload_n 0, 1) := dq_h (dq_t (dq_t (dq_t (dq_t (dq_t dzX2_weigh_90)))))
theorem dX2_weigh_102 : decode cX2_weigh 102 = .ok (.aload_n 1, 1) := dq_h (dq_t (dq_t (dq_t (dq_t (dq_t (dq_t dzX2_weigh_90))))))
theorem dX2_weigh_103 : decode cX2_weigh 103 = .ok (.aload_n 2, 1) := dq_h (dq_t (dq_t (dq_t (dq_t (dq_t (dq_t (dq_t dzX2_weigh_90)))))))
theorem dX2_weigh_104 : decode cX2_weigh 104 = .ok (.getfield 55, 3) := dq_h (dq_t (dq_t (dq_t (dq_t (dq_t (dq_t (dq_t (dq_t dzX2_weigh_90))))))))
theorem dX2_weigh_107 : decode cX2_weigh 107 = .ok (.iload 4, 2) := dq_h (dq_t (dq_t (dq_t (dq_t (dq_t (dq_t (dq_t (dq_t (dq_t dzX2_weigh_90)))))))))
theorem dX2_weigh_109 : decode cX2_weigh 109 = .ok (.invokevirtual 59, 3) := dq_h (dq_t (dq_t (dq_t (dq_t (dq_t (dq_t (dq_t (dq_t (dq_t (dq_t dzX2_weigh_90))))))))))
theorem dX2_weigh_112 : decode cX2_weigh 112 = .ok (.ifCond .eq 12, 3) := dq_h (dq_t (dq_t (dq_t (dq_t (dq_t (dq_t (dq_t (dq_t (dq_t (dq_t (dq_t dzX2_weigh_90)))))))))))
theorem dX2_weigh_115 : decode cX2_weigh 115 = .ok (.aload_n 0, 1) := dq_h (dq_t (dq_t (dq_t (dq_t (dq_t (dq_t (dq_t (dq_t (dq_t (dq_t (dq_t (dq_t dzX2_weigh_90))))))))))))
theorem dX2_weigh_116 : decode cX2_weigh 116 = .ok (.aload_n 1, 1) := dq_h (dq_t (dq_t (dq_t (dq_t (dq_t (dq_t (dq_t (dq_t (dq_t (dq_t (dq_t (dq_t (dq_t dzX2_weigh_90)))))))))))))
theorem dX2_weigh_117 : decode cX2_weigh 117 = .ok (.aload_n 2, 1) := dq_h (dq_t (dq_t (dq_t (dq_t (dq_t (dq_t (dq_t (dq_t (dq_t (dq_t (dq_t (dq_t (dq_t (dq_t dzX2_weigh_90))))))))))))))
theorem dX2_weigh_118 : decode cX2_weigh 118 = .ok (.aload_n 3, 1) := dq_h (dq_t (dq_t (dq_t (dq_t (dq_t (dq_t (dq_t (dq_t (dq_t (dq_t (dq_t (dq_t (dq_t (dq_t (dq_t dzX2_weigh_90)))))))))))))))
theorem dX2_weigh_119 : decode cX2_weigh 119 = .ok (.iload 4, 2) := dq_h (dq_t (dq_t (dq_t (dq_t (dq_t (dq_t (dq_t (dq_t (dq_t (dq_t (dq_t (dq_t (dq_t (dq_t (dq_t (dq_t dzX2_weigh_90))))))))))))))))
theorem dX2_weigh_121 : decode cX2_weigh 121 = .ok (.invokevirtual 63, 3) := dq_h (dq_t (dq_t (dq_t (dq_t (dq_t (dq_t (dq_t (dq_t (dq_t (dq_t (dq_t (dq_t (dq_t (dq_t (dq_t (dq_t (dq_t dzX2_weigh_90)))))))))))))))))
theorem dX2_weigh_124 : decode cX2_weigh 124 = .ok (.iinc 4 1, 3) := dq_h (dq_t (dq_t (dq_t (dq_t (dq_t (dq_t (dq_t (dq_t (dq_t (dq_t (dq_t (dq_t (dq_t (dq_t (dq_t (dq_t (dq_t (dq_t dzX2_weigh_90))))))))))))))))))
theorem dX2_weigh_127 : decode cX2_weigh 127 = .ok (.goto (-35), 3) := dq_h (dq_t (dq_t (dq_t (dq_t (dq_t (dq_t (dq_t (dq_t (dq_t (dq_t (dq_t (dq_t (dq_t (dq_t (dq_t (dq_t (dq_t (dq_t (dq_t dzX2_weigh_90)))))))))))))))))))
theorem dX2_weigh_130 : decode cX2_weigh 130 = .ok (.return_, 1) := dq_h (dq_t (dq_t (dq_t (dq_t (dq_t (dq_t (dq_t (dq_t (dq_t (dq_t (dq_t (dq_t (dq_t (dq_t (dq_t (dq_t (dq_t (dq_t (dq_t (dq_t dzX2_weigh_90))))))))))))))))))))
theorem dzX2_bestLook_0 : dq_F cX2_bestLook [(0, .iconst (-1), 1), (1, .istore_n 1, 1), (2, .iconst 1, 1), (3, .istore_n 2, 1), (4, .iload_n 2, 1), (5, .bipush 20, 2), (7, .if_icmp .gt 36, 3), (10, .aload_n 0, 1), (11, .getfield 23, 3), (14, .ifCond .le 29, 3), (17, .iload_n 1, 1), (18, .iconst (-1), 1), (19, .if_icmp .eq 16, 3), (22, .aload_n 0, 1), (23, .iload_n 2, 1), (24, .invokevirtual 67, 3), (27, .aload_n 0, 1), (28, .iload_n 1, 1), (29, .invokevirtual 67, 3), (32, .if_icmp .le 5, 3), (35, .iload_n 2, 1), (36, .istore_n 1, 1), (37, .iinc 2 1, 3), (40, .goto (-36), 3)] := dq_s 24 0 (by decide +kernel)
theorem dX2_bestLook_0 : decode cX2_bestLook 0 = .ok (.iconst (-1), 1) := dq_h dzX2_bestLook_0
theorem dX2_bestLook_1 : decode cX2_bestLook 1 = .ok (.istore_n 1, 1) := dq_h (dq_t dzX2_bestLook_0)
theorem dX2_bestLook_2 : decode cX2_bestLook 2 = .ok (.iconst 1, 1) := dq_h (dq_t (dq_t dzX2_bestLook_0))
theorem dX2_bestLook_3 : decode cX2_bestLook 3 = .ok (.istore_n 2, 1) := dq_h (dq_t (dq_t (dq_t dzX2_bestLook_0)))
theorem dX2_bestLook_4 : decode cX2_bestLook 4 = .ok (.iload_n 2, 1) := dq_h (dq_t (dq_t (dq_t (dq_t dzX2_bestLook_0))))
theorem dX2_bestLook_5 : decode cX2_bestLook 5 = .ok (.bipush 20, 2) := dq_h (dq_t (dq_t (dq_t (dq_t (dq_t dzX2_bestLook_0)))))
theorem dX2_bestLook_7 : decode cX2_bestLook 7 = .ok (.if_icmp .gt 36, 3) := dq_h (dq_t (dq_t (dq_t (dq_t (dq_t (dq_t dzX2_bestLook_0))))))
theorem dX2_bestLook_10 : decode cX2_bestLook 10 = .ok (.aload_n 0, 1) := dq_h (dq_t (dq_t (dq_t (dq_t (dq_t (dq_t (dq_t dzX2_bestLook_0)))))))
theorem dX2_bestLook_11 : decode cX2_bestLook 11 = .ok (.getfield 23, 3) := dq_h (dq_t (dq_t (dq_t (dq_t (dq_t (dq_t (dq_t (dq_t dzX2_bestLook_0))))))))
theorem dX2_bestLook_14 : decode cX2_bestLook 14 = .ok (.ifCond .le 29, 3) := dq_h (dq_t (dq_t (dq_t (dq_t (dq_t (dq_t (dq_t (dq_t (dq_t dzX2_bestLook_0)))))))))
theorem dX2_bestLook_17 : decode cX2_bestLook 17 = .ok (.iload_n 1, 1) := dq_h (dq_t (dq_t (dq_t (dq_t (dq_t (dq_t (dq_t (dq_t (dq_t (dq_t dzX2_bestLook_0))))))))))
theorem dX2_bestLook_18 : decode cX2_bestLook 18 = .ok (.iconst (-1), 1) := dq_h (dq_t (dq_t (dq_t (dq_t (dq_t (dq_t (dq_t (dq_t (dq_t (dq_t (dq_t dzX2_bestLook_0)))))))))))
theorem dX2_bestLook_19 : decode cX2_bestLook 19 = .ok (.if_icmp .eq 16, 3) := dq_h (dq_t (dq_t (dq_t (dq_t (dq_t (dq_t (dq_t (dq_t (dq_t (dq_t (dq_t (dq_t dzX2_bestLook_0))))))))))))
theorem dX2_bestLook_22 : decode cX2_bestLook 22 = .ok (.aload_n 0, 1) := dq_h (dq_t (dq_t (dq_t (dq_t (dq_t (dq_t (dq_t (dq_t (dq_t (dq_t (dq_t (dq_t (dq_t dzX2_bestLook_0)))))))))))))
theorem dX2_bestLook_23 : decode cX2_bestLook 23 = .ok (.iload_n 2, 1) := dq_h (dq_t (dq_t (dq_t (dq_t (dq_t (dq_t (dq_t (dq_t (dq_t (dq_t (dq_t (dq_t (dq_t (dq_t dzX2_bestLook_0))))))))))))))
theorem dX2_bestLook_24 : decode cX2_bestLook 24 = .ok (.invokevirtual 67, 3) := dq_h (dq_t (dq_t (dq_t (dq_t (dq_t (dq_t (dq_t (dq_t (dq_t (dq_t (dq_t (dq_t (dq_t (dq_t (dq_t dzX2_bestLook_0)))))))))))))))
theorem dX2_bestLook_27 : decode cX2_bestLook 27 = .ok (.aload_n 0, 1) := dq_h (dq_t (dq_t (dq_t (dq_t (dq_t (dq_t (dq_t (dq_t (dq_t (dq_t (dq_t (dq_t (dq_t (dq_t (dq_t (dq_t dzX2_bestLook_0))))))))))))))))
theorem dX2_bestLook_28 : decode cX2_bestLook 28 = .ok (.iload_n 1, 1) := dq_h (dq_t (dq_t (dq_t (dq_t (dq_t (dq_t (dq_t (dq_t (dq_t (dq_t (dq_t (dq_t (dq_t (dq_t (dq_t (dq_t (dq_t dzX2_bestLook_0)))))))))))))))))
theorem dX2_bestLook_29 : decode cX2_bestLook 29 = .ok (.invokevirtual 67, 3) := dq_h (dq_t (dq_t (dq_t (dq_t (dq_t (dq_t (dq_t (dq_t (dq_t (dq_t (dq_t (dq_t (dq_t (dq_t (dq_t (dq_t (dq_t (dq_t dzX2_bestLook_0))))))))))))))))))
theorem dX2_bestLook_32 : decode cX2_bestLook 32 = .ok (.if_icmp .le 5, 3) := dq_h (dq_t (dq_t (dq_t (dq_t (dq_t (dq_t (dq_t (dq_t (dq_t (dq_t (dq_t (dq_t (dq_t (dq_t (dq_t (dq_t (dq_t (dq_t (dq_t dzX2_bestLook_0)))))))))))))))))))
theorem dX2_bestLook_35 : decode cX2_bestLook 35 = .ok (.iload_n 2, 1) := dq_h (dq_t (dq_t (dq_t (dq_t (dq_t (dq_t (dq_t (dq_t (dq_t (dq_t (dq_t (dq_t (dq_t (dq_t (dq_t (dq_t (dq_t (dq_t (dq_t (dq_t dzX2_bestLook_0))))))))))))))))))))
theorem dX2_bestLook_36 : decode cX2_bestLook 36 = .ok (.istore_n 1, 1) := dq_h (dq_t (dq_t (dq_t (dq_t (dq_t (dq_t (dq_t (dq_t (dq_t (dq_t (dq_t (dq_t (dq_t (dq_t (dq_t (dq_t (dq_t (dq_t (dq_t (dq_t (dq_t dzX2_bestLook_0)))))))))))))))))))))
theorem dX2_bestLook_37 : decode cX2_bestLook 37 = .ok (.iinc 2 1, 3) := dq_h (dq_t (dq_t (dq_t (dq_t (dq_t (dq_t (dq_t (dq_t (dq_t (dq_t (dq_t (dq_t (dq_t (dq_t (dq_t (dq_t (dq_t (dq_t (dq_t (dq_t (dq_t (dq_t dzX2_bestLook_0))))))))))))))))))))))
theorem dX2_bestLook_40 : decode cX2_bestLook 40 = .ok (.goto (-36), 3) := dq_h (dq_t (dq_t (dq_t (dq_t (dq_t (dq_t (dq_t (dq_t (dq_t (dq_t (dq_t (dq_t (dq_t (dq_t (dq_t (dq_t (dq_t (dq_t (dq_t (dq_t (dq_t (dq_t (dq_t dzX2_bestLook_0)))))))))))))))))))))))
theorem dzX2_bestLook_43 : dq_F cX2_bestLook [(43, .iload_n 1, 1), (44, .ireturn, 1)] := dq_s 2 43 (by decide +kernel)
theorem dX2_bestLook_43 : decode cX2_bestLook 43 = .ok (.iload_n 1, 1) := dq_h dzX2_bestLook_43
theorem dX2_bestLook_44 : decode cX2_bestLook 44 = .ok (.ireturn, 1) := dq_h (dq_t dzX2_bestLook_43)
theorem dzX2_unlikeBehind_0 : dq_F cX2_unlikeBehind [(0, .iload_n 1, 1), (1, .ifCond .lt 24, 3), (4, .iload_n 1, 1), (5, .aload_n 0, 1), (6, .getfield 20, 3), (9, .arraylength, 1), (10, .if_icmp .ge 15, 3), (13, .aload_n 0, 1), (14, .getfield 20, 3), (17, .iload_n 1, 1), (18, .iaload, 1), (19, .invokestatic 71, 3), (22, .goto 4, 3), (25, .iconst 0, 1), (26, .ireturn, 1)] := dq_s 15 0 (by decide +kernel)
theorem dX2_unlikeBehind_0 : decode cX2_unlikeBehind 0 = .ok (.iload_n 1, 1) := dq_h dzX2_unlikeBehind_0
theorem dX2_unlikeBehind_1 : decode cX2_unlikeBehind 1 = .ok (.ifCond .lt 24, 3) := dq_h (dq_t dzX2_unlikeBehind_0)
theorem dX2_unlikeBehind_4 : decode cX2_unlikeBehind 4 = .ok (.iload_n 1, 1) := dq_h (dq_t (dq_t dzX2_unlikeBehind_0))
theorem dX2_unlikeBehind_5 : decode cX2_unlikeBehind 5 = .ok (.aload_n 0, 1) := dq_h (dq_t (dq_t (dq_t dzX2_unlikeBehind_0)))
theorem dX2_unlikeBehind_6 : decode cX2_unlikeBehind 6 = .ok (.getfield 20, 3) := dq_h (dq_t (dq_t (dq_t (dq_t dzX2_unlikeBehind_0))))
theorem dX2_unlikeBehind_9 : decode cX2_unlikeBehind 9 = .ok (.arraylength, 1) := dq_h (dq_t (dq_t (dq_t (dq_t (dq_t dzX2_unlikeBehind_0)))))
theorem dX2_unlikeBehind_10 : decode cX2_unlikeBehind 10 = .ok (.if_icmp .ge 15, 3) := dq_h (dq_t (dq_t (dq_t (dq_t (dq_t (dq_t dzX2_unlikeBehind_0))))))
theorem dX2_unlikeBehind_13 : decode cX2_unlikeBehind 13 = .ok (.aload_n 0, 1) := dq_h (dq_t (dq_t (dq_t (dq_t (dq_t (dq_t (dq_t dzX2_unlikeBehind_0)))))))
theorem dX2_unlikeBehind_14 : decode cX2_unlikeBehind 14 = .ok (.getfield 20, 3) := dq_h (dq_t (dq_t (dq_t (dq_t (dq_t (dq_t (dq_t (dq_t dzX2_unlikeBehind_0))))))))
theorem dX2_unlikeBehind_17 : decode cX2_unlikeBehind 17 = .ok (.iload_n 1, 1) := dq_h (dq_t (dq_t (dq_t (dq_t (dq_t (dq_t (dq_t (dq_t (dq_t dzX2_unlikeBehind_0)))))))))
theorem dX2_unlikeBehind_18 : decode cX2_unlikeBehind 18 = .ok (.iaload, 1) := dq_h (dq_t (dq_t (dq_t (dq_t (dq_t (dq_t (dq_t (dq_t (dq_t (dq_t dzX2_unlikeBehind_0))))))))))
theorem dX2_unlikeBehind_19 : decode cX2_unlikeBehind 19 = .ok (.invokestatic 71, 3) := dq_h (dq_t (dq_t (dq_t (dq_t (dq_t (dq_t (dq_t (dq_t (dq_t (dq_t (dq_t dzX2_unlikeBehind_0)))))))))))
theorem dX2_unlikeBehind_22 : decode cX2_unlikeBehind 22 = .ok (.goto 4, 3) := dq_h (dq_t (dq_t (dq_t (dq_t (dq_t (dq_t (dq_t (dq_t (dq_t (dq_t (dq_t (dq_t dzX2_unlikeBehind_0))))))))))))
theorem dX2_unlikeBehind_25 : decode cX2_unlikeBehind 25 = .ok (.iconst 0, 1) := dq_h (dq_t (dq_t (dq_t (dq_t (dq_t (dq_t (dq_t (dq_t (dq_t (dq_t (dq_t (dq_t (dq_t dzX2_unlikeBehind_0)))))))))))))
theorem dX2_unlikeBehind_26 : decode cX2_unlikeBehind 26 = .ok (.ireturn, 1) := dq_h (dq_t (dq_t (dq_t (dq_t (dq_t (dq_t (dq_t (dq_t (dq_t (dq_t (dq_t (dq_t (dq_t (dq_t dzX2_unlikeBehind_0))))))))))))))
theorem dzX2_tryGreeds_0 : dq_F cX2_tryGreeds [(0, .iconst 0, 1), (1, .istore 5, 2), (3, .iload 5, 2), (5, .bipush 9, 2), (7, .if_icmp .gt 107, 3), (10, .iload 5, 2), (12, .aload_n 1, 1), (13, .getfield 76, 3), (16, .iload 4, 2), (18, .iaload, 1), (19, .if_icmp .eq 89, 3), (22, .aload_n 3, 1), (23, .aload_n 1, 1), (24, .aload_n 2, 1), (25, .getfield 39, 3), (28, .iload 4, 2), (30, .invokevirtual 45, 3), (33, .aload_n 3, 1), (34, .iload 5, 2), (36, .putfield 79, 3), (39, .aload_n 1, 1), (40, .aload_n 3, 1), (41, .aload_n 0, 1), (42, .getfield 16, 3)] := dq_s 24 0 (by decide +kernel)
theorem dX2_tryGreeds_0 : decode cX2_tryGreeds 0 = .ok (.iconst 0, 1) := dq_h dzX2_tryGreeds_0
theorem dX2_tryGreeds_1 : decode cX2_tryGreeds 1 = .ok (.istore 5, 2) := dq_h (dq_t dzX2_tryGreeds_0)
theorem dX2_tryGreeds_3 : decode cX2_tryGreeds 3 = .ok (.iload 5, 2) := dq_h (dq_t (dq_t dzX2_tryGreeds_0))
theorem dX2_tryGreeds_5 : decode cX2_tryGreeds 5 = .ok (.bipush 9, 2) := dq_h (dq_t (dq_t (dq_t dzX2_tryGreeds_0)))
theorem dX2_tryGreeds_7 : decode cX2_tryGreeds 7 = .ok (.if_icmp .gt 107, 3) := dq_h (dq_t (dq_t (dq_t (dq_t dzX2_tryGreeds_0))))
theorem dX2_tryGreeds_10 : decode cX2_tryGreeds 10 = .ok (.iload 5, 2) := dq_h (dq_t (dq_t (dq_t (dq_t (dq_t dzX2_tryGreeds_0)))))
theorem dX2_tryGreeds_12 : decode cX2_tryGreeds 12 = .ok (.aload_n 1, 1) := dq_h (dq_t (dq_t (dq_t (dq_t (dq_t (dq_t dzX2_tryGreeds_0))))))
theorem dX2_tryGreeds_13 : decode cX2_tryGreeds 13 = .ok (.getfield 76, 3) := dq_h (dq_t (dq_t (dq_t (dq_t (dq_t (dq_t (dq_t dzX2_tryGreeds_0)))))))
theorem dX2_tryGreeds_16 : decode cX2_tryGreeds 16 = .ok (.iload 4, 2) := dq_h (dq_t (dq_t (dq_t (dq_t (dq_t (dq_t (dq_t (dq_t dzX2_tryGreeds_0))))))))
theorem dX2_tryGreeds_18 : decode cX2_tryGreeds 18 = .ok (.iaload, 1) := dq_h (dq_t (dq_t (dq_t (dq_t (dq_t (dq_t (dq_t (dq_t (dq_t dzX2_tryGreeds_0)))))))))
theorem dX2_tryGreeds_19 : decode cX2_tryGreeds 19 = .ok (.if_icmp .eq 89, 3) := dq_h (dq_t (dq_t (dq_t (dq_t (dq_t (dq_t (dq_t (dq_t (dq_t (dq_t dzX2_tryGreeds_0))))))))))
theorem dX2_tryGreeds_22 : decode cX2_tryGreeds 22 = .ok (.aload_n 3, 1) := dq_h (dq_t (dq_t (dq_t (dq_t (dq_t (dq_t (dq_t (dq_t (dq_t (dq_t (dq_t dzX2_tryGreeds_0)))))))))))
theorem dX2_tryGreeds_23 : decode cX2_tryGreeds 23 = .ok (.aload_n 1, 1) := dq_h (dq_t (dq_t (dq_t (dq_t (dq_t (dq_t (dq_t (dq_t (dq_t (dq_t (dq_t (dq_t dzX2_tryGreeds_0))))))))))))
theorem dX2_tryGreeds_24 : decode cX2_tryGreeds 24 = .ok (.aload_n 2, 1) := dq_h (dq_t (dq_t (dq_t (dq_t (dq_t (dq_t (dq_t (dq_t (dq_t (dq_t (dq_t (dq_t (dq_t dzX2_tryGreeds_0)))))))))))))
theorem dX2_tryGreeds_25 : decode cX2_tryGreeds 25 = .ok (.getfield 39, 3) := dq_h (dq_t (dq_t (dq_t (dq_t (dq_t (dq_t (dq_t (dq_t (dq_t (dq_t (dq_t (dq_t (dq_t (dq_t dzX2_tryGreeds_0))))))))))))))
theorem dX2_tryGreeds_28 : decode cX2_tryGreeds 28 = .ok (.iload 4, 2) := dq_h (dq_t (dq_t (dq_t (dq_t (dq_t (dq_t (dq_t (dq_t (dq_t (dq_t (dq_t (dq_t (dq_t (dq_t (dq_t dzX2_tryGreeds_0)))))))))))))))
theorem dX2_tryGreeds_30 : decode cX2_tryGreeds 30 = .ok (.invokevirtual 45, 3) := dq_h (dq_t (dq_t (dq_t (dq_t (dq_t (dq_t (dq_t (dq_t (dq_t (dq_t (dq_t (dq_t (dq_t (dq_t (dq_t (dq_t dzX2_tryGreeds_0))))))))))))))))
theorem dX2_tryGreeds_33 : decode cX2_tryGreeds 33 = .ok (.aload_n 3, 1) := dq_h (dq_t (dq_t (dq_t (dq_t (dq_t (dq_t (dq_t (dq_t (dq_t (dq_t (dq_t (dq_t (dq_t (dq_t (dq_t (dq_t (dq_t dzX2_tryGreeds_0)))))))))))))))))
theorem dX2_tryGreeds_34 : decode cX2_tryGreeds 34 = .ok (.iload 5, 2) := dq_h (dq_t (dq_t (dq_t (dq_t (dq_t (dq_t (dq_t (dq_t (dq_t (dq_t (dq_t (dq_t (dq_t (dq_t (dq_t (dq_t (dq_t (dq_t dzX2_tryGreeds_0))))))))))))))))))
theorem dX2_tryGreeds_36 : decode cX2_tryGreeds 36 = .ok (.putfield 79, 3) := dq_h (dq_t (dq_t (dq_t (dq_t (dq_t (dq_t (dq_t (dq_t (dq_t (dq_t (dq_t (dq_t (dq_t (dq_t (dq_t (dq_t (dq_t (dq_t (dq_t dzX2_tryGreeds_0)))))))))))))))))))
theorem dX2_tryGreeds_39 : decode cX2_tryGreeds 39 = .ok (.aload_n 1, 1) := dq_h (dq_t (dq_t (dq_t (dq_t (dq_t (dq_t (dq_t (dq_t (dq_t (dq_t (dq_t (dq_t (dq_t (dq_t (dq_t (dq_t (dq_t (dq_t (dq_t (dq_t dzX2_tryGreeds_0))))))))))))))))))))
theorem dX2_tryGreeds_40 : decode cX2_tryGreeds 40 = .ok (.aload_n 3, 1) := dq_h (dq_t (dq_t (dq_t (dq_t (dq_t (dq_t (dq_t (dq_t (dq_t (dq_t (dq_t (dq_t (dq_t (dq_t (dq_t (dq_t (dq_t (dq_t (dq_t (dq_t (dq_t dzX2_tryGreeds_0)))))))))))))))))))))
theorem dX2_tryGreeds_41 : decode cX2_tryGreeds 41 = .ok (.aload_n 0, 1) := dq_h (dq_t (dq_t (dq_t (dq_t (dq_t (dq_t (dq_t (dq_t (dq_t (dq_t (dq_t (dq_t (dq_t (dq_t (dq_t (dq_t (dq_t (dq_t (dq_t (dq_t (dq_t (dq_t dzX2_tryGreeds_0))))))))))))))))))))))
theorem dX2_tryGreeds_42 : decode cX2_tryGreeds 42 = .ok (.getfield 16, 3) := dq_h (dq_t (dq_t (dq_t (dq_t (dq_t (dq_t (dq_t (dq_t (dq_t (dq_t (dq_t (dq_t (dq_t (dq_t (dq_t (dq_t (dq_t (dq_t (dq_t (dq_t (dq_t (dq_t (dq_t dzX2_tryGreeds_0)))))))))))))))))))))))
theorem dzX2_tryGreeds_45 : dq_F cX2_tryGreeds [(45, .invokestatic 51, 3), (48, .aload_n 2, 1), (49, .getfield 55, 3), (52, .iload 4, 2), (54, .aload_n 0, 1), (55, .getfield 16, 3), (58, .invokevirtual 81, 3), (61, .ifCond .eq 47, 3), (64, .aload_n 0, 1), (65, .dup, 1), (66, .getfield 23, 3), (69, .iconst 1, 1), (70, .iadd, 1), (71, .putfield 23, 3), (74, .aload_n 0, 1), (75, .aload_n 0, 1), (76, .getfield 27, 3), (79, .iconst (-1), 1), (80, .if_icmp .ne 14, 3), (83, .bipush 10, 2), (85, .iload 4, 2), (87, .imul, 1), (88, .iload 5, 2), (90, .iadd, 1)] := dq_s 24 45 (by decide +kernel)
theorem dX2_tryGreeds_45 : decode cX2_tryGreeds 45 = .ok (.invokestatic 51, 3) := dq_h dzX2_tryGreeds_45
theorem dX2_tryGreeds_48 : decode cX2_tryGreeds 48 = .ok (.aload_n 2, 1) := dq_h (dq_t dzX2_tryGreeds_45)
theorem dX2_tryGreeds_49 : decode cX2_tryGreeds 49 = .ok (.getfield 55, 3) := dq_h (dq_t (dq_t dzX2_tryGreeds_45))
theorem dX2_tryGreeds_52 : decode cX2_tryGreeds 52 = .ok (.iload 4, 2) := dq_h (dq_t (dq_t (dq_t dzX2_tryGreeds_45)))
theorem dX2_tryGreeds_54 : decode cX2_tryGreeds 54 = .ok (.aload_n 0, 1) := dq_h (dq_t (dq_t (dq_t (dq_t dzX2_tryGreeds_45))))
theorem dX2_tryGreeds_55 : decode cX2_tryGreeds 55 = .ok (.getfield 16, 3) := dq_h (dq_t (dq_t (dq_t (dq_t (dq_t dzX2_tryGreeds_45)))))
theorem dX2_tryGreeds_58 : decode cX2_tryGreeds 58 = .ok (.invokevirtual 81, 3) := dq_h (dq_t (dq_t (dq_t (dq_t (dq_t (dq_t dzX2_tryGreeds_45))))))
theorem dX2_tryGreeds_61 : decode cX2_tryGreeds 61 = .ok (.ifCond .eq 47, 3) := dq_h (dq_t (dq_t (dq_t (dq_t (dq_t (dq_t (dq_t dzX2_tryGreeds_45)))))))
theorem dX2_tryGreeds_64 : decode cX2_tryGreeds 64 = .ok (.aload_n 0, 1) := dq_h (dq_t (dq_t (dq_t (dq_t (dq_t (dq_t (dq_t (dq_t dzX2_tryGreeds_45))))))))
theorem dX2_tryGreeds_65 : decode cX2_tryGreeds 65 = .ok (.dup, 1) := dq_h (dq_t (dq_t (dq_t (dq_t (dq_t (dq_t (dq_t (dq_t (dq_t dzX2_tryGreeds_45)))))))))
theorem dX2_tryGreeds_66 : decode cX2_tryGreeds 66 = .ok (.getfield 23, 3) := dq_h (dq_t (dq_t (dq_t (dq_t (dq_t (dq_t (dq_t (dq_t (dq_t (dq_t dzX2_tryGreeds_45))))))))))
theorem dX2_tryGreeds_69 : decode cX2_tryGreeds 69 = .ok (.iconst 1, 1) := dq_h (dq_t (dq_t (dq_t (dq_t (dq_t (dq_t (dq_t (dq_t (dq_t (dq_t (dq_t dzX2_tryGreeds_45)))))))))))
theorem dX2_tryGreeds_70 : decode cX2_tryGreeds 70 = .ok (.iadd, 1) := dq_h (dq_t (dq_t (dq_t (dq_t (dq_t (dq_t (dq_t (dq_t (dq_t (dq_t (dq_t (dq_t dzX2_tryGreeds_45))))))))))))
theorem dX2_tryGreeds_71 : decode cX2_tryGreeds 71 = .ok (.putfield 23, 3) := dq_h (dq_t (dq_t (dq_t (dq_t (dq_t (dq_t (dq_t (dq_t (dq_t (dq_t (dq_t (dq_t (dq_t dzX2_tryGreeds_45)))))))))))))
theorem dX2_tryGreeds_74 : decode cX2_tryGreeds 74 = .ok (.aload_n 0, 1) := dq_h (dq_t (dq_t (dq_t (dq_t (dq_t (dq_t (dq_t (dq_t (dq_t (dq_t (dq_t (dq_t (dq_t (dq_t dzX2_tryGreeds_45))))))))))))))
theorem dX2_tryGreeds_75 : decode cX2_tryGreeds 75 = .ok (.aload_n 0, 1) := dq_h (dq_t (dq_t (dq_t (dq_t (dq_t (dq_t (dq_t (dq_t (dq_t (dq_t (dq_t (dq_t (dq_t (dq_t (dq_t dzX2_tryGreeds_45)))))))))))))))
theorem dX2_tryGreeds_76 : decode cX2_tryGreeds 76 = .ok (.getfield 27, 3) := dq_h (dq_t (dq_t (dq_t (dq_t (dq_t (dq_t (dq_t (dq_t (dq_t (dq_t (dq_t (dq_t (dq_t (dq_t (dq_t (dq_t dzX2_tryGreeds_45))))))))))))))))
theorem dX2_tryGreeds_79 : decode cX2_tryGreeds 79 = .ok (.iconst (-1), 1) := dq_h (dq_t (dq_t (dq_t (dq_t (dq_t (dq_t (dq_t (dq_t (dq_t (dq_t (dq_t (dq_t (dq_t (dq_t (dq_t (dq_t (dq_t dzX2_tryGreeds_45)))))))))))))))))
theorem dX2_tryGreeds_80 : decode cX2_tryGreeds 80 = .ok (.if_icmp .ne 14, 3) := dq_h (dq_t (dq_t (dq_t (dq_t (dq_t (dq_t (dq_t (dq_t (dq_t (dq_t (dq_t (dq_t (dq_t (dq_t (dq_t (dq_t (dq_t (dq_t dzX2_tryGreeds_45))))))))))))))))))
theorem dX2_tryGreeds_83 : decode cX2_tryGreeds 83 = .ok (.bipush 10, 2) := dq_h (dq_t (dq_t (dq_t (dq_t (dq_t (dq_t (dq_t (dq_t (dq_t (dq_t (dq_t (dq_t (dq_t (dq_t (dq_t (dq_t (dq_t (dq_t (dq_t dzX2_tryGreeds_45)))))))))))))))))))
theorem dX2_tryGreeds_85 : decode cX2_tryGreeds 85 = .ok (.iload 4, 2) := dq_h (dq_t (dq_t (dq_t (dq_t (dq_t (dq_t (dq_t (dq_t (dq_t (dq_t (dq_t (dq_t (dq_t (dq_t (dq_t (dq_t (dq_t (dq_t (dq_t (dq_t dzX2_tryGreeds_45))))))))))))))))))))
theorem dX2_tryGreeds_87 : decode cX2_tryGreeds 87 = .ok (.imul, 1) := dq_h (dq_t (dq_t (dq_t (dq_t (dq_t (dq_t (dq_t (dq_t (dq_t (dq_t (dq_t (dq_t (dq_t (dq_t (dq_t (dq_t (dq_t (dq_t (dq_t (dq_t (dq_t dzX2_tryGreeds_45)))))))))))))))))))))
theorem dX2_tryGreeds_88 : decode cX2_tryGreeds 88 = .ok (.iload 5, 2) := dq_h (dq_t (dq_t (dq_t (dq_t (dq_t (dq_t (dq_t (dq_t (dq_t (dq_t (dq_t (dq_t (dq_t (dq_t (dq_t (dq_t (dq_t (dq_t (dq_t (dq_t (dq_t (dq_t dzX2_tryGreeds_45))))))))))))))))))))))
theorem dX2_tryGreeds_90 : decode cX2_tryGreeds 90 = .ok (.iadd, 1) := dq_h (dq_t (dq_t (dq_t (dq_t (dq_t (dq_t (dq_t (dq_t (dq_t (dq_t (dq_t (dq_t (dq_t (dq_t (dq_t (dq_t (dq_t (dq_t (dq_t (dq_t (dq_t (dq_t (dq_t dzX2_tryGreeds_45)))))))))))))))))))))))
theorem dzX2_tryGreeds_91 : dq_F cX2_tryGreeds [(91, .goto 7, 3), (94, .aload_n 0, 1), (95, .getfield 27, 3), (98, .putfield 27, 3), (101, .aload_n 0, 1), (102, .aload_n 1, 1), (103, .iload 4, 2), (105, .invokevirtual 87, 3), (108, .iinc 5 1, 3), (111, .goto (-108), 3), (114, .return_, 1)] := dq_s 11 91 (by decide +kernel)
theorem dX2_tryGreeds_91 : decode cX2_tryGreeds 91 = .ok (.goto 7, 3) := dq_h dzX2_tryGreeds_91
theorem dX2_tryGreeds_94 : decode cX2_tryGreeds 94 = .ok (.aload_n 0, 1) := dq_h (dq_t dzX2_tryGreeds_91)
theorem dX2_tryGreeds_95 : decode cX2_tryGreeds 95 = .ok (.getfield 27, 3) := dq_h (dq_t (dq_t dzX2_tryGreeds_91))
theorem dX2_tryGreeds_98 : decode cX2_tryGreeds 98 = .ok (.putfield 27, 3) := dq_h (dq_t (dq_t (dq_t dzX2_tryGreeds_91)))
theorem dX2_tryGreeds_101 : decode cX2_tryGreeds 101 = .ok (.aload_n 0, 1) := dq_h (dq_t (dq_t (dq_t (dq_t dzX2_tryGreeds_91))))
theorem dX2_tryGreeds_102 : decode cX2_tryGreeds 102 = .ok (.aload_n 1, 1) := dq_h (dq_t (dq_t (dq_t (dq_t (dq_t dzX2_tryGreeds_91)))))
theorem dX2_tryGreeds_103 : decode cX2_tryGreeds 103 = .ok (.iload 4, 2) := dq_h (dq_t (dq_t (dq_t (dq_t (dq_t (dq_t dzX2_tryGreeds_91))))))
theorem dX2_tryGreeds_105 : decode cX2_tryGreeds 105 = .ok (.invokevirtual 87, 3) := dq_h (dq_t (dq_t (dq_t (dq_t (dq_t (dq_t (dq_t dzX2_tryGreeds_91)))))))
theorem dX2_tryGreeds_108 : decode cX2_tryGreeds 108 = .ok (.iinc 5 1, 3) := dq_h (dq_t (dq_t (dq_t (dq_t (dq_t (dq_t (dq_t (dq_t dzX2_tryGreeds_91))))))))
theorem dX2_tryGreeds_111 : decode cX2_tryGreeds 111 = .ok (.goto (-108), 3) := dq_h (dq_t (dq_t (dq_t (dq_t (dq_t (dq_t (dq_t (dq_t (dq_t dzX2_tryGreeds_91)))))))))
theorem dX2_tryGreeds_114 : decode cX2_tryGreeds 114 = .ok (.return_, 1) := dq_h (dq_t (dq_t (dq_t (dq_t (dq_t (dq_t (dq_t (dq_t (dq_t (dq_t dzX2_tryGreeds_91))))))))))
theorem dzX2_follow_0 : dq_F cX2_follow [(0, .iconst 0, 1), (1, .istore_n 3, 1), (2, .iload_n 3, 1), (3, .aload_n 2, 1), (4, .arraylength, 1), (5, .if_icmp .ge 30, 3), (8, .aload_n 2, 1), (9, .iload_n 3, 1), (10, .aload_n 1, 1), (11, .getfield 91, 3), (14, .iastore, 1), (15, .aload_n 1, 1), (16, .aload_n 0, 1), (17, .aload_n 0, 1), (18, .aload_n 1, 1), (19, .getfield 94, 3), (22, .invokevirtual 97, 3), (25, .invokevirtual 100, 3), (28, .pop, 1), (29, .iinc 3 1, 3), (32, .goto (-30), 3), (35, .return_, 1)] := dq_s 22 0 (by decide +kernel)
theorem dX2_follow_0 : decode cX2_follow 0 = .ok (.iconst 0, 1) := dq_h dzX2_follow_0
theorem dX2_follow_1 : decode cX2_follow 1 = .ok (.istore_n 3, 1) := dq_h (dq_t dzX2_follow_0)
theorem dX2_follow_2 : decode cX2_follow 2 = .ok (.iload_n 3, 1) := dq_h (dq_t (dq_t dzX2_follow_0))
theorem dX2_follow_3 : decode cX2_follow 3 = .ok (.aload_n 2, 1) := dq_h (dq_t (dq_t (dq_t dzX2_follow_0)))
theorem dX2_follow_4 : decode cX2_follow 4 = .ok (.arraylength, 1) := dq_h (dq_t (dq_t (dq_t (dq_t dzX2_follow_0))))
theorem dX2_follow_5 : decode cX2_follow 5 = .ok (.if_icmp .ge 30, 3) := dq_h (dq_t (dq_t (dq_t (dq_t (dq_t dzX2_follow_0)))))
theorem dX2_follow_8 : decode cX2_follow 8 = .ok (.aload_n 2, 1) := dq_h (dq_t (dq_t (dq_t (dq_t (dq_t (dq_t dzX2_follow_0))))))
theorem dX2_follow_9 : decode cX2_follow 9 = .ok (.iload_n 3, 1) := dq_h (dq_t (dq_t (dq_t (dq_t (dq_t (dq_t (dq_t dzX2_follow_0)))))))
theorem dX2_follow_10 : decode cX2_follow 10 = .ok (.aload_n 1, 1) := dq_h (dq_t (dq_t (dq_t (dq_t (dq_t (dq_t (dq_t (dq_t dzX2_follow_0))))))))
theorem dX2_follow_11 : decode cX2_follow 11 = .ok (.getfield 91, 3) := dq_h (dq_t (dq_t (dq_t (dq_t (dq_t (dq_t (dq_t (dq_t (dq_t dzX2_follow_0)))))))))
theorem dX2_follow_14 : decode cX2_follow 14 = .ok (.iastore, 1) := dq_h (dq_t (dq_t (dq_t (dq_t (dq_t (dq_t (dq_t (dq_t (dq_t (dq_t dzX2_follow_0))))))))))
theorem dX2_follow_15 : decode cX2_follow 15 = .ok (.aload_n 1, 1) := dq_h (dq_t (dq_t (dq_t (dq_t (dq_t (dq_t (dq_t (dq_t (dq_t (dq_t (dq_t dzX2_follow_0)))))))))))
theorem dX2_follow_16 : decode cX2_follow 16 = .ok (.aload_n 0, 1) := dq_h (dq_t (dq_t (dq_t (dq_t (dq_t (dq_t (dq_t (dq_t (dq_t (dq_t (dq_t (dq_t dzX2_follow_0))))))))))))
theorem dX2_follow_17 : decode cX2_follow 17 = .ok (.aload_n 0, 1) := dq_h (dq_t (dq_t (dq_t (dq_t (dq_t (dq_t (dq_t (dq_t (dq_t (dq_t (dq_t (dq_t (dq_t dzX2_follow_0)))))))))))))
theorem dX2_follow_18 : decode cX2_follow 18 = .ok (.aload_n 1, 1) := dq_h (dq_t (dq_t (dq_t (dq_t (dq_t (dq_t (dq_t (dq_t (dq_t (dq_t (dq_t (dq_t (dq_t (dq_t dzX2_follow_0))))))))))))))
theorem dX2_follow_19 : decode cX2_follow 19 = .ok (.getfield 94, 3) := dq_h (dq_t (dq_t (dq_t (dq_t (dq_t (dq_t (dq_t (dq_t (dq_t (dq_t (dq_t (dq_t (dq_t (dq_t (dq_t dzX2_follow_0)))))))))))))))
theorem dX2_follow_22 : decode cX2_follow 22 = .ok (.invokevirtual 97, 3) := dq_h (dq_t (dq_t (dq_t (dq_t (dq_t (dq_t (dq_t (dq_t (dq_t (dq_t (dq_t (dq_t (dq_t (dq_t (dq_t (dq_t dzX2_follow_0))))))))))))))))
theorem dX2_follow_25 : decode cX2_follow 25 = .ok (.invokevirtual 100, 3) := dq_h (dq_t (dq_t (dq_t (dq_t (dq_t (dq_t (dq_t (dq_t (dq_t (dq_t (dq_t (dq_t (dq_t (dq_t (dq_t (dq_t (dq_t dzX2_follow_0)))))))))))))))))
theorem dX2_follow_28 : decode cX2_follow 28 = .ok (.pop, 1) := dq_h (dq_t (dq_t (dq_t (dq_t (dq_t (dq_t (dq_t (dq_t (dq_t (dq_t (dq_t (dq_t (dq_t (dq_t (dq_t (dq_t (dq_t (dq_t dzX2_follow_0))))))))))))))))))
theorem dX2_follow_29 : decode cX2_follow 29 = .ok (.iinc 3 1, 3) := dq_h (dq_t (dq_t (dq_t (dq_t (dq_t (dq_t (dq_t (dq_t (dq_t (dq_t (dq_t (dq_t (dq_t (dq_t (dq_t (dq_t (dq_t (dq_t (dq_t dzX2_follow_0)))))))))))))))))))
theorem dX2_follow_32 : decode cX2_follow 32 = .ok (.goto (-30), 3) := dq_h (dq_t (dq_t (dq_t (dq_t (dq_t (dq_t (dq_t (dq_t (dq_t (dq_t (dq_t (dq_t (dq_t (dq_t (dq_t (dq_t (dq_t (dq_t (dq_t (dq_t dzX2_follow_0))))))))))))))))))))
theorem dX2_follow_35 : decode cX2_follow 35 = .ok (.return_, 1) := dq_h (dq_t (dq_t (dq_t (dq_t (dq_t (dq_t (dq_t (dq_t (dq_t (dq_t (dq_t (dq_t (dq_t (dq_t (dq_t (dq_t (dq_t (dq_t (dq_t (dq_t (dq_t dzX2_follow_0)))))))))))))))))))))
theorem dzX2_doOthersSuit_0 : dq_F cX2_doOthersSuit [(0, .iconst 0, 1), (1, .istore 4, 2), (3, .iload 4, 2), (5, .aload_n 1, 1), (6, .getfield 34, 3), (9, .if_icmp .ge 33, 3), (12, .iload 4, 2), (14, .iload_n 3, 1), (15, .if_icmp .eq 21, 3), (18, .aload_n 2, 1), (19, .iload 4, 2), (21, .aload_n 0, 1), (22, .getfield 11, 3), (25, .iload 4, 2), (27, .aaload, 1), (28, .invokevirtual 81, 3), (31, .ifCond .ne 5, 3), (34, .iconst 0, 1), (35, .ireturn, 1), (36, .iinc 4 1, 3), (39, .goto (-36), 3), (42, .iconst 1, 1), (43, .ireturn, 1)] := dq_s 23 0 (by decide +kernel)
theorem dX2_doOthersSuit_0 : decode cX2_doOthersSuit 0 = .ok (.iconst 0, 1) := dq_h dzX2_doOthersSuit_0
theorem dX2_doOthersSuit_1 : decode cX2_doOthersSuit 1 = .ok (.istore 4, 2) := dq_h (dq_t dzX2_doOthersSuit_0)
theorem dX2_doOthersSuit_3 : decode cX2_doOthersSuit 3 = .ok (.iload 4, 2) := dq_h (dq_t (dq_t dzX2_doOthersSuit_0))
theorem dX2_doOthersSuit_5 : decode cX2_doOthersSuit 5 = .ok (.aload_n 1, 1) := dq_h (dq_t (dq_t (dq_t dzX2_doOthersSuit_0)))
theorem dX2_doOthersSuit_6 : decode cX2_doOthersSuit 6 = .ok (.getfield 34, 3) := dq_h (dq_t (dq_t (dq_t (dq_t dzX2_doOthersSuit_0))))
theorem dX2_doOthersSuit_9 : decode cX2_doOthersSuit 9 = .ok (.if_icmp .ge 33, 3) := dq_h (dq_t (dq_t (dq_t (dq_t (dq_t dzX2_doOthersSuit_0)))))
theorem dX2_doOthersSuit_12 : decode cX2_doOthersSuit 12 = .ok (.iload 4, 2) := dq_h (dq_t (dq_t (dq_t (dq_t (dq_t (dq_t dzX2_doOthersSuit_0))))))
theorem dX2_doOthersSuit_14 : decode cX2_doOthersSuit 14 = .ok (.iload_n 3, 1) := dq_h (dq_t (dq_t (dq_t (dq_t (dq_t (dq_t (dq_t dzX2_doOthersSuit_0)))))))
theorem dX2_doOthersSuit_15 : decode cX2_doOthersSuit 15 = .ok (.if_icmp .eq 21, 3) := dq_h (dq_t (dq_t (dq_t (dq_t (dq_t (dq_t (dq_t (dq_t dzX2_doOthersSuit_0))))))))
theorem dX2_doOthersSuit_18 : decode cX2_doOthersSuit 18 = .ok (.aload_n 2, 1) := dq_h (dq_t (dq_t (dq_t (dq_t (dq_t (dq_t (dq_t (dq_t (dq_t dzX2_doOthersSuit_0)))))))))
theorem dX2_doOthersSuit_19 : decode cX2_doOthersSuit 19 = .ok (.iload 4, 2) := dq_h (dq_t (dq_t (dq_t (dq_t (dq_t (dq_t (dq_t (dq_t (dq_t (dq_t dzX2_doOthersSuit_0))))))))))
theorem dX2_doOthersSuit_21 : decode cX2_doOthersSuit 21 = .ok (.aload_n 0, 1) := dq_h (dq_t (dq_t (dq_t (dq_t (dq_t (dq_t (dq_t (dq_t (dq_t (dq_t (dq_t dzX2_doOthersSuit_0)))))))))))
theorem dX2_doOthersSuit_22 : decode cX2_doOthersSuit 22 = .ok (.getfield 11, 3) := dq_h (dq_t (dq_t (dq_t (dq_t (dq_t (dq_t (dq_t (dq_t (dq_t (dq_t (dq_t (dq_t dzX2_doOthersSuit_0))))))))))))
theorem dX2_doOthersSuit_25 : decode cX2_doOthersSuit 25 = .ok (.iload 4, 2) := dq_h (dq_t (dq_t (dq_t (dq_t (dq_t (dq_t (dq_t (dq_t (dq_t (dq_t (dq_t (dq_t (dq_t dzX2_doOthersSuit_0)))))))))))))
theorem dX2_doOthersSuit_27 : decode cX2_doOthersSuit 27 = .ok (.aaload, 1) := dq_h (dq_t (dq_t (dq_t (dq_t (dq_t (dq_t (dq_t (dq_t (dq_t (dq_t (dq_t (dq_t (dq_t (dq_t dzX2_doOthersSuit_0))))))))))))))
theorem dX2_doOthersSuit_28 : decode cX2_doOthersSuit 28 = .ok (.invokevirtual 81, 3) := dq_h (dq_t (dq_t (dq_t (dq_t (dq_t (dq_t (dq_t (dq_t (dq_t (dq_t (dq_t (dq_t (dq_t (dq_t (dq_t dzX2_doOthersSuit_0)))))))))))))))
theorem dX2_doOthersSuit_31 : decode cX2_doOthersSuit 31 = .ok (.ifCond .ne 5, 3) := dq_h (dq_t (dq_t (dq_t (dq_t (dq_t (dq_t (dq_t (dq_t (dq_t (dq_t (dq_t (dq_t (dq_t (dq_t (dq_t (dq_t dzX2_doOthersSuit_0))))))))))))))))
theorem dX2_doOthersSuit_34 : decode cX2_doOthersSuit 34 = .ok (.iconst 0, 1) := dq_h (dq_t (dq_t (dq_t (dq_t (dq_t (dq_t (dq_t (dq_t (dq_t (dq_t (dq_t (dq_t (dq_t (dq_t (dq_t (dq_t (dq_t dzX2_doOthersSuit_0)))))))))))))))))
theorem dX2_doOthersSuit_35 : decode cX2_doOthersSuit 35 = .ok (.ireturn, 1) := dq_h (dq_t (dq_t (dq_t (dq_t (dq_t (dq_t (dq_t (dq_t (dq_t (dq_t (dq_t (dq_t (dq_t (dq_t (dq_t (dq_t (dq_t (dq_t dzX2_doOthersSuit_0))))))))))))))))))
theorem dX2_doOthersSuit_36 : decode cX2_doOthersSuit 36 = .ok (.iinc 4 1, 3) := dq_h (dq_t (dq_t (dq_t (dq_t (dq_t (dq_t (dq_t (dq_t (dq_t (dq_t (dq_t (dq_t (dq_t (dq_t (dq_t (dq_t (dq_t (dq_t (dq_t dzX2_doOthersSuit_0)))))))))))))))))))
theorem dX2_doOthersSuit_39 : decode cX2_doOthersSuit 39 = .ok (.goto (-36), 3) := dq_h (dq_t (dq_t (dq_t (dq_t (dq_t (dq_t (dq_t (dq_t (dq_t (dq_t (dq_t (dq_t (dq_t (dq_t (dq_t (dq_t (dq_t (dq_t (dq_t (dq_t dzX2_doOthersSuit_0))))))))))))))))))))
theorem dX2_doOthersSuit_42 : decode cX2_doOthersSuit 42 = .ok (.iconst 1, 1) := dq_h (dq_t (dq_t (dq_t (dq_t (dq_t (dq_t (dq_t (dq_t (dq_t (dq_t (dq_t (dq_t (dq_t (dq_t (dq_t (dq_t (dq_t (dq_t (dq_t (dq_t (dq_t dzX2_doOthersSuit_0)))))))))))))))))))))
theorem dX2_doOthersSuit_43 : decode cX2_doOthersSuit 43 = .ok (.ireturn, 1) := dq_h (dq_t (dq_t (dq_t (dq_t (dq_t (dq_t (dq_t (dq_t (dq_t (dq_t (dq_t (dq_t (dq_t (dq_t (dq_t (dq_t (dq_t (dq_t (dq_t (dq_t (dq_t (dq_t dzX2_doOthersSuit_0))))))))))))))))))))))
theorem dzX2_markWorst_0 : dq_F cX2_markWorst [(0, .iconst 1, 1), (1, .istore_n 3, 1), (2, .iload_n 3, 1), (3, .bipush 20, 2), (5, .if_icmp .gt 87, 3), (8, .iconst 0, 1), (9, .istore 4, 2), (11, .iconst (-1), 1), (12, .istore 5, 2), (14, .iconst 0, 1), (15, .istore 6, 2), (17, .iload 6, 2), (19, .aload_n 1, 1), (20, .getfield 34, 3), (23, .if_icmp .ge 50, 3), (26, .iload 6, 2), (28, .iload_n 2, 1), (29, .if_icmp .ne 12, 3), (32, .aload_n 0, 1), (33, .getfield 16, 3), (36, .iload_n 3, 1), (37, .iaload, 1), (38, .goto 12, 3), (41, .aload_n 0, 1)] := dq_s 24 0 (by decide +kernel)
theorem dX2_markWorst_0 : decode cX2_markWorst 0 = .ok (.iconst 1, 1) := dq_h dzX2_markWorst_0
theorem dX2_markWorst_1 : decode cX2_markWorst 1 = .ok (.istore_n 3, 1) := dq_h (dq_t dzX2_markWorst_0)
theorem dX2_markWorst_2 : decode cX2_markWorst 2 = .ok (.iload_n 3, 1) := dq_h (dq_t (dq_t dzX2_markWorst_0))
theorem dX2_markWorst_3 : decode cX2_markWorst 3 = .ok (.bipush 20, 2) := dq_h (dq_t (dq_t (dq_t dzX2_markWorst_0)))
theorem dX2_markWorst_5 : decode cX2_markWorst 5 = .ok (.if_icmp .gt 87, 3) := dq_h (dq_t (dq_t (dq_t (dq_t dzX2_markWorst_0))))
theorem dX2_markWorst_8 : decode cX2_markWorst 8 = .ok (.iconst 0, 1) := dq_h (dq_t (dq_t (dq_t (dq_t (dq_t dzX2_markWorst_0)))))
theorem dX2_markWorst_9 : decode cX2_markWorst 9 = .ok (.istore 4, 2) := dq_h (dq_t (dq_t (dq_t (dq_t (dq_t (dq_t dzX2_markWorst_0))))))
theorem dX2_markWorst_11 : decode cX2_markWorst 11 = .ok (.iconst (-1), 1) := dq_h (dq_t (dq_t (dq_t (dq_t (dq_t (dq_t (dq_t dzX2_markWorst_0)))))))
theorem dX2_markWorst_12 : decode cX2_markWorst 12 = .ok (.istore 5, 2) := dq_h (dq_t (dq_t (dq_t (dq_t (dq_t (dq_t (dq_t (dq_t dzX2_markWorst_0))))))))
theorem dX2_markWorst_14 : decode cX2_markWorst 14 = .ok (.iconst 0, 1) := dq_h (dq_t (dq_t (dq_t (dq_t (dq_t (dq_t (dq_t (dq_t (dq_t dzX2_markWorst_0)))))))))
theorem dX2_markWorst_15 : decode cX2_markWorst 15 = .ok (.istore 6, 2) := dq_h (dq_t (dq_t (dq_t (dq_t (dq_t (dq_t (dq_t (dq_t (dq_t (dq_t dzX2_markWorst_0))))))))))
theorem dX2_markWorst_17 : decode cX2_markWorst 17 = .ok (.iload 6, 2) := dq_h (dq_t (dq_t (dq_t (dq_t (dq_t (dq_t (dq_t (dq_t (dq_t (dq_t (dq_t dzX2_markWorst_0)))))))))))
theorem dX2_markWorst_19 : decode cX2_markWorst 19 = .ok (.aload_n 1, 1) := dq_h (dq_t (dq_t (dq_t (dq_t (dq_t (dq_t (dq_t (dq_t (dq_t (dq_t (dq_t (dq_t dzX2_markWorst_0))))))))))))
theorem dX2_markWorst_20 : decode cX2_markWorst 20 = .ok (.getfield 34, 3) := dq_h (dq_t (dq_t (dq_t (dq_t (dq_t (dq_t (dq_t (dq_t (dq_t (dq_t (dq_t (dq_t (dq_t dzX2_markWorst_0)))))))))))))
theorem dX2_markWorst_23 : decode cX2_markWorst 23 = .ok (.if_icmp .ge 50, 3) := dq_h (dq_t (dq_t (dq_t (dq_t (dq_t (dq_t (dq_t (dq_t (dq_t (dq_t (dq_t (dq_t (dq_t (dq_t dzX2_markWorst_0))))))))))))))
theorem dX2_markWorst_26 : decode cX2_markWorst 26 = .ok (.iload 6, 2) := dq_h (dq_t (dq_t (dq_t (dq_t (dq_t (dq_t (dq_t (dq_t (dq_t (dq_t (dq_t (dq_t (dq_t (dq_t (dq_t dzX2_markWorst_0)))))))))))))))
theorem dX2_markWorst_28 : decode cX2_markWorst 28 = .ok (.iload_n 2, 1) := dq_h (dq_t (dq_t (dq_t (dq_t (dq_t (dq_t (dq_t (dq_t (dq_t (dq_t (dq_t (dq_t (dq_t (dq_t (dq_t (dq_t dzX2_markWorst_0))))))))))))))))
theorem dX2_markWorst_29 : decode cX2_markWorst 29 = .ok (.if_icmp .ne 12, 3) := dq_h (dq_t (dq_t (dq_t (dq_t (dq_t (dq_t (dq_t (dq_t (dq_t (dq_t (dq_t (dq_t (dq_t (dq_t (dq_t (dq_t (dq_t dzX2_markWorst_0)))))))))))))))))
theorem dX2_markWorst_32 : decode cX2_markWorst 32 = .ok (.aload_n 0, 1) := dq_h (dq_t (dq_t (dq_t (dq_t (dq_t (dq_t (dq_t (dq_t (dq_t (dq_t (dq_t (dq_t (dq_t (dq_t (dq_t (dq_t (dq_t (dq_t dzX2_markWorst_0))))))))))))))))))
theorem dX2_markWorst_33 : decode cX2_markWorst 33 = .ok (.getfield 16, 3) := dq_h (dq_t (dq_t (dq_t (dq_t (dq_t (dq_t (dq_t (dq_t (dq_t (dq_t (dq_t (dq_t (dq_t (dq_t (dq_t (dq_t (dq_t (dq_t (dq_t dzX2_markWorst_0)))))))))))))))))))
theorem dX2_markWorst_36 : decode cX2_markWorst 36 = .ok (.iload_n 3, 1) := dq_h (dq_t (dq_t (dq_t (dq_t (dq_t (dq_t (dq_t (dq_t (dq_t (dq_t (dq_t (dq_t (dq_t (dq_t (dq_t (dq_t (dq_t (dq_t (dq_t (dq_t dzX2_markWorst_0))))))))))))))))))))
theorem dX2_markWorst_37 : decode cX2_markWorst 37 = .ok (.iaload, 1) := dq_h (dq_t (dq_t (dq_t (dq_t (dq_t (dq_t (dq_t (dq_t (dq_t (dq_t (dq_t (dq_t (dq_t (dq_t (dq_t (dq_t (dq_t (dq_t (dq_t (dq_t (dq_t dzX2_markWorst_0)))))))))))))))))))))
theorem dX2_markWorst_38 : decode cX2_markWorst 38 = .ok (.goto 12, 3) := dq_h (dq_t (dq_t (dq_t (dq_t (dq_t (dq_t (dq_t (dq_t (dq_t (dq_t (dq_t (dq_t (dq_t (dq_t (dq_t (dq_t (dq_t (dq_t (dq_t (dq_t (dq_t (dq_t dzX2_markWorst_0))))))))))))))))))))))
theorem dX2_markWorst_41 : decode cX2_markWorst 41 = .ok (.aload_n 0, 1) := dq_h (dq_t (dq_t (dq_t (dq_t (dq_t (dq_t (dq_t (dq_t (dq_t (dq_t (dq_t (dq_t (dq_t (dq_t (dq_t (dq_t (dq_t (dq_t (dq_t (dq_t (dq_t (dq_t (dq_t dzX2_markWorst_0)))))))))))))))))))))))
theorem dzX2_markWorst_42 : dq_F cX2_markWorst [(42, .getfield 11, 3), (45, .iload 6, 2), (47, .aaload, 1), (48, .iload_n 3, 1), (49, .iaload, 1), (50, .istore 7, 2), (52, .iload 7, 2), (54, .iload 5, 2), (56, .if_icmp .le 11, 3), (59, .iload 6, 2), (61, .istore 4, 2), (63, .iload 7, 2), (65, .istore 5, 2), (67, .iinc 6 1, 3), (70, .goto (-53), 3), (73, .aload_n 0, 1), (74, .getfield 20, 3), (77, .iload_n 3, 1), (78, .dup2, 1), (79, .iaload, 1), (80, .iconst 1, 1), (81, .iload 4, 2), (83, .ishl, 1), (84, .ior, 1)] := dq_s 24 42 (by decide +kernel)
theorem dX2_markWorst_42 : decode cX2_markWorst 42 = .ok (.getfield 11, 3) := dq_h dzX2_markWorst_42
theorem dX2_markWorst_45 : decode cX2_markWorst 45 = .ok (.iload 6, 2) := dq_h (dq_t dzX2_markWorst_42)
theorem dX2_markWorst_47 : decode cX2_markWorst 47 = .ok (.aaload, 1) := dq_h (dq_t (dq_t dzX2_markWorst_42))
theorem dX2_markWorst_48 : decode cX2_markWorst 48 = .ok (.iload_n 3, 1) := dq_h (dq_t (dq_t (dq_t dzX2_markWorst_42)))
theorem dX2_markWorst_49 : decode cX2_markWorst 49 = .ok (.iaload, 1) := dq_h (dq_t (dq_t (dq_t (dq_t dzX2_markWorst_42))))
theorem dX2_markWorst_50 : decode cX2_markWorst 50 = .ok (.istore 7, 2) := dq_h (dq_t (dq_t (dq_t (dq_t (dq_t dzX2_markWorst_42)))))
theorem dX2_markWorst_52 : decode cX2_markWorst 52 = .ok (.iload 7, 2) := dq_h (dq_t (dq_t (dq_t (dq_t (dq_t (dq_t dzX2_markWorst_42))))))
theorem dX2_markWorst_54 : decode cX2_markWorst 54 = .ok (.iload 5, 2) := dq_h (dq_t (dq_t (dq_t (dq_t (dq_t (dq_t (dq_t dzX2_markWorst_42)))))))
theorem dX2_markWorst_56 : decode cX2_markWorst 56 = .ok (.if_icmp .le 11, 3) := dq_h (dq_t (dq_t (dq_t (dq_t (dq_t (dq_t (dq_t (dq_t dzX2_markWorst_42))))))))
theorem dX2_markWorst_59 : decode cX2_markWorst 59 = .ok (.iload 6, 2) := dq_h (dq_t (dq_t (dq_t (dq_t (dq_t (dq_t (dq_t (dq_t (dq_t dzX2_markWorst_42)))))))))
theorem dX2_markWorst_61 : decode cX2_markWorst 61 = .ok (.istore 4, 2) := dq_h (dq_t (dq_t (dq_t (dq_t (dq_t (dq_t (dq_t (dq_t (dq_t (dq_t dzX2_markWorst_42))))))))))
theorem dX2_markWorst_63 : decode cX2_markWorst 63 = .ok (.iload 7, 2) := dq_h (dq_t (dq_t (dq_t (dq_t (dq_t (dq_t (dq_t (dq_t (dq_t (dq_t (dq_t dzX2_markWorst_42)))))))))))
theorem dX2_markWorst_65 : decode cX2_markWorst 65 = .ok (.istore 5, 2) := dq_h (dq_t (dq_t (dq_t (dq_t (dq_t (dq_t (dq_t (dq_t (dq_t (dq_t (dq_t (dq_t dzX2_markWorst_42))))))))))))
theorem dX2_markWorst_67 : decode cX2_markWorst 67 = .ok (.iinc 6 1, 3) := dq_h (dq_t (dq_t (dq_t (dq_t (dq_t (dq_t (dq_t (dq_t (dq_t (dq_t (dq_t (dq_t (dq_t dzX2_markWorst_42)))))))))))))
theorem dX2_markWorst_70 : decode cX2_markWorst 70 = .ok (.goto (-53), 3) := dq_h (dq_t (dq_t (dq_t (dq_t (dq_t (dq_t (dq_t (dq_t (dq_t (dq_t (dq_t (dq_t (dq_t (dq_t dzX2_markWorst_42))))))))))))))
theorem dX2_markWorst_73 : decode cX2_markWorst 73 = .ok (.aload_n 0, 1) := dq_h (dq_t (dq_t (dq_t (dq_t (dq_t (dq_t (dq_t (dq_t (dq_t (dq_t (dq_t (dq_t (dq_t (dq_t (dq_t dzX2_markWorst_42)))))))))))))))
theorem dX2_markWorst_74 : decode cX2_markWorst 74 = .ok (.getfield 20, 3) := dq_h (dq_t (dq_t (dq_t (dq_t (dq_t (dq_t (dq_t (dq_t (dq_t (dq_t (dq_t (dq_t (dq_t (dq_t (dq_t (dq_t dzX2_markWorst_42))))))))))))))))
theorem dX2_markWorst_77 : decode cX2_markWorst 77 = .ok (.iload_n 3, 1) := dq_h (dq_t (dq_t (dq_t (dq_t (dq_t (dq_t (dq_t (dq_t (dq_t (dq_t (dq_t (dq_t (dq_t (dq_t (dq_t (dq_t (dq_t dzX2_markWorst_42)))))))))))))))))
theorem dX2_markWorst_78 : decode cX2_markWorst 78 = .ok (.dup2, 1) := dq_h (dq_t (dq_t (dq_t (dq_t (dq_t (dq_t (dq_t (dq_t (dq_t (dq_t (dq_t (dq_t (dq_t (dq_t (dq_t (dq_t (dq_t (dq_t dzX2_markWorst_42))))))))))))))))))
theorem dX2_markWorst_79 : decode cX2_markWorst 79 = .ok (.iaload, 1) := dq_h (dq_t (dq_t (dq_t (dq_t (dq_t (dq_t (dq_t (dq_t (dq_t (dq_t (dq_t (dq_t (dq_t (dq_t (dq_t (dq_t (dq_t (dq_t (dq_t dzX2_markWorst_42)))))))))))))))))))
theorem dX2_markWorst_80 : decode cX2_markWorst 80 = .ok (.iconst 1, 1) := dq_h (dq_t (dq_t (dq_t (dq_t (dq_t (dq_t (dq_t (dq_t (dq_t (dq_t (dq_t (dq_t (dq_t (dq_t (dq_t (dq_t (dq_t (dq_t (dq_t (dq_t dzX2_markWorst_42))))))))))))))))))))
theorem dX2_markWorst_81 : decode cX2_markWorst 81 = .ok (.iload 4, 2) := dq_h (dq_t (dq_t (dq_t (dq_t (dq_t (dq_t (dq_t (dq_t (dq_t (dq_t (dq_t (dq_t (dq_t (dq_t (dq_t (dq_t (dq_t (dq_t (dq_t (dq_t (dq_t dzX2_markWorst_42)))))))))))))))))))))
theorem dX2_markWorst_83 : decode cX2_markWorst 83 = .ok (.ishl, 1) := dq_h (dq_t (dq_t (dq_t (dq_t (dq_t (dq_t (dq_t (dq_t (dq_t (dq_t (dq_t (dq_t (dq_t (dq_t (dq_t (dq_t (dq_t (dq_t (dq_t (dq_t (dq_t (dq_t dzX2_markWorst_42))))))))))))))))))))))
theorem dX2_markWorst_84 : decode cX2_markWorst 84 = .ok (.ior, 1) := dq_h (dq_t (dq_t (dq_t (dq_t (dq_t (dq_t (dq_t (dq_t (dq_t (dq_t (dq_t (dq_t (dq_t (dq_t (dq_t (dq_t (dq_t (dq_t (dq_t (dq_t (dq_t (dq_t (dq_t dzX2_markWorst_42)))))))))))))))))))))))
theorem dzX2_markWorst_85 : dq_F cX2_markWorst [(85, .iastore, 1), (86, .iinc 3 1, 3), (89, .goto (-87), 3), (92, .return_, 1)] := dq_s 4 85 (by decide +kernel)
theorem dX2_markWorst_85 : decode cX2_markWorst 85 = .ok (.iastore, 1) := dq_h dzX2_markWorst_85
theorem dX2_markWorst_86 : decode cX2_markWorst 86 = .ok (.iinc 3 1, 3) := dq_h (dq_t dzX2_markWorst_85)
theorem dX2_markWorst_89 : decode cX2_markWorst 89 = .ok (.goto (-87), 3) := dq_h (dq_t (dq_t dzX2_markWorst_85))
theorem dX2_markWorst_92 : decode cX2_markWorst 92 = .ok (.return_, 1) := dq_h (dq_t (dq_t (dq_t dzX2_markWorst_85)))
theorem dzX3_init_0 : dq_F cX3_init [(0, .aload_n 0, 1), (1, .invokespecial 3, 3), (4, .aload_n 0, 1), (5, .new 9, 3), (8, .dup, 1), (9, .invokespecial 11, 3), (12, .putfield 12, 3), (15, .aload_n 0, 1), (16, .new 18, 3), (19, .dup, 1), (20, .invokespecial 20, 3), (23, .putfield 21, 3), (26, .aload_n 0, 1), (27, .iconst 0, 1), (28, .putfield 25, 3), (31, .aload_n 0, 1), (32, .iconst (-1), 1), (33, .putfield 29, 3), (36, .return_, 1)] := dq_s 19 0 (by decide +kernel)
theorem dX3_init_0 : decode cX3_init 0 = .ok (.aload_n 0, 1) := dq_h dzX3_init_0
theorem dX3_init_1 : decode cX3_init 1 = .ok (.invokespecial 3, 3) := dq_h (dq_t dzX3_init_0)
theorem dX3_init_4 : decode cX3_init 4 = .ok (.aload_n 0, 1) := dq_h (dq_t (dq_t dzX3_init_0))
theorem dX3_init_5 : decode cX3_init 5 = .ok (.new 9, 3) := dq_h (dq_t (dq_t (dq_t dzX3_init_0)))
theorem dX3_init_8 : decode cX3_init 8 = .ok (.dup, 1) := dq_h (dq_t (dq_t (dq_t (dq_t dzX3_init_0))))
theorem dX3_init_9 : decode cX3_init 9 = .ok (.invokespecial 11, 3) := dq_h (dq_t (dq_t (dq_t (dq_t (dq_t dzX3_init_0)))))
theorem dX3_init_12 : decode cX3_init 12 = .ok (.putfield 12, 3) := dq_h (dq_t (dq_t (dq_t (dq_t (dq_t (dq_t dzX3_init_0))))))
theorem dX3_init_15 : decode cX3_init 15 = .ok (.aload_n 0, 1) := dq_h (dq_t (dq_t (dq_t (dq_t (dq_t (dq_t (dq_t dzX3_init_0)))))))
theorem dX3_init_16 : decode cX3_init 16 = .ok (.new 18, 3) := dq_h (dq_t (dq_t (dq_t (dq_t (dq_t (dq_t (dq_t (dq_t dzX3_init_0))))))))
theorem dX3_init_19 : decode cX3_init 19 = .ok (.dup, 1) := dq_h (dq_t (dq_t (dq_t (dq_t (dq_t (dq_t (dq_t (dq_t (dq_t dzX3_init_0)))))))))
theorem dX3_init_20 : decode cX3_init 20 = .ok (.invokespecial 20, 3) := dq_h (dq_t (dq_t (dq_t (dq_t (dq_t (dq_t (dq_t (dq_t (dq_t (dq_t dzX3_init_0))))))))))
theorem dX3_init_23 : decode cX3_init 23 = .ok (.putfield 21, 3) := dq_h (dq_t (dq_t (dq_t (dq_t (dq_t (dq_t (dq_t (dq_t (dq_t (dq_t (dq_t dzX3_init_0)))))))))))
theorem dX3_init_26 : decode cX3_init 26 = .ok (.aload_n 0, 1) := dq_h (dq_t (dq_t (dq_t (dq_t (dq_t (dq_t (dq_t (dq_t (dq_t (dq_t (dq_t (dq_t dzX3_init_0))))))))))))
theorem dX3_init_27 : decode cX3_init 27 = .ok (.iconst 0, 1) := dq_h (dq_t (dq_t (dq_t (dq_t (dq_t (dq_t (dq_t (dq_t (dq_t (dq_t (dq_t (dq_t (dq_t dzX3_init_0)))))))))))))
theorem dX3_init_28 : decode cX3_init 28 = .ok (.putfield 25, 3) := dq_h (dq_t (dq_t (dq_t (dq_t (dq_t (dq_t (dq_t (dq_t (dq_t (dq_t (dq_t (dq_t (dq_t (dq_t dzX3_init_0))))))))))))))
theorem dX3_init_31 : decode cX3_init 31 = .ok (.aload_n 0, 1) := dq_h (dq_t (dq_t (dq_t (dq_t (dq_t (dq_t (dq_t (dq_t (dq_t (dq_t (dq_t (dq_t (dq_t (dq_t (dq_t dzX3_init_0)))))))))))))))
theorem dX3_init_32 : decode cX3_init 32 = .ok (.iconst (-1), 1) := dq_h (dq_t (dq_t (dq_t (dq_t (dq_t (dq_t (dq_t (dq_t (dq_t (dq_t (dq_t (dq_t (dq_t (dq_t (dq_t (dq_t dzX3_init_0))))))))))))))))
theorem dX3_init_33 : decode cX3_init 33 = .ok (.putfield 29, 3) := dq_h (dq_t (dq_t (dq_t (dq_t (dq_t (dq_t (dq_t (dq_t (dq_t (dq_t (dq_t (dq_t (dq_t (dq_t (dq_t (dq_t (dq_t dzX3_init_0)))))))))))))))))
theorem dX3_init_36 : decode cX3_init 36 = .ok (.return_, 1) := dq_h (dq_t (dq_t (dq_t (dq_t (dq_t (dq_t (dq_t (dq_t (dq_t (dq_t (dq_t (dq_t (dq_t (dq_t (dq_t (dq_t (dq_t (dq_t dzX3_init_0))))))))))))))))))
theorem dzX3_read_0 : dq_F cX3_read [(0, .aload_n 0, 1), (1, .getfield 21, 3), (4, .invokevirtual 32, 3), (7, .aload_n 0, 1), (8, .iconst 0, 1), (9, .putfield 25, 3), (12, .aload_n 0, 1), (13, .iconst (-1), 1), (14, .putfield 29, 3), (17, .aload_n 0, 1), (18, .getfield 12, 3), (21, .iload_n 1, 1), (22, .invokevirtual 35, 3), (25, .iconst 0, 1), (26, .istore_n 2, 1), (27, .iload_n 2, 1), (28, .sipush 700, 3), (31, .if_icmp .ge 36, 3), (34, .aload_n 0, 1), (35, .invokevirtual 39, 3), (38, .ifCond .eq 29, 3), (41, .aload_n 0, 1), (42, .getfield 12, 3), (45, .getfield 43, 3)] := dq_s 24 0 (by decide +kernel)
theorem dX3_read_0 : decode cX3_read 0 = .ok (.aload_n 0, 1) := dq_h dzX3_read_0
theorem dX3_read_1 : decode cX3_read 1 = .ok (.getfield 21, 3) := dq_h (dq_t dzX3_read_0)
theorem dX3_read_4 : decode cX3_read 4 = .ok (.invokevirtual 32, 3) := dq_h (dq_t (dq_t dzX3_read_0))
theorem dX3_read_7 : decode cX3_read 7 = .ok (.aload_n 0, 1) := dq_h (dq_t (dq_t (dq_t dzX3_read_0)))
theorem dX3_read_8 : decode cX3_read 8 = .ok (.iconst 0, 1) := dq_h (dq_t (dq_t (dq_t (dq_t dzX3_read_0))))
theorem dX3_read_9 : decode cX3_read 9 = .ok (.putfield 25, 3) := dq_h (dq_t (dq_t (dq_t (dq_t (dq_t dzX3_read_0)))))
theorem dX3_read_12 : decode cX3_read 12 = .ok (.aload_n 0, 1) := dq_h (dq_t (dq_t (dq_t (dq_t (dq_t (dq_t dzX3_read_0))))))
theorem dX3_read_13 : decode cX3_read 13 = .ok (.iconst (-1), 1) := dq_h (dq_t (dq_t (dq_t (dq_t (dq_t (dq_t (dq_t dzX3_read_0)))))))
theorem dX3_read_14 : decode cX3_read 14 = .ok (.putfield 29, 3) := dq_h (dq_t (dq_t (dq_t (dq_t (dq_t (dq_t (dq_t (dq_t dzX3_read_0))))))))
theorem dX3_read_17 : decode cX3_read 17 = .ok (.aload_n 0, 1) := dq_h (dq_t (dq_t (dq_t (dq_t (dq_t (dq_t (dq_t (dq_t (dq_t dzX3_read_0)))))))))
theorem dX3_read_18 : decode cX3_read 18 = .ok (.getfield 12, 3) := dq_h (dq_t (dq_t (dq_t (dq_t (dq_t (dq_t (dq_t (dq_t (dq_t (dq_t dzX3_read_0))))))))))
theorem dX3_read_21 : decode cX3_read 21 = .ok (.iload_n 1, 1) := dq_h (dq_t (dq_t (dq_t (dq_t (dq_t (dq_t (dq_t (dq_t (dq_t (dq_t (dq_t dzX3_read_0)))))))))))
theorem dX3_read_22 : decode cX3_read 22 = .ok (.invokevirtual 35, 3) := dq_h (dq_t (dq_t (dq_t (dq_t (dq_t (dq_t (dq_t (dq_t (dq_t (dq_t (dq_t (dq_t dzX3_read_0))))))))))))
theorem dX3_read_25 : decode cX3_read 25 = .ok (.iconst 0, 1) := dq_h (dq_t (dq_t (dq_t (dq_t (dq_t (dq_t (dq_t (dq_t (dq_t (dq_t (dq_t (dq_t (dq_t dzX3_read_0)))))))))))))
theorem dX3_read_26 : decode cX3_read 26 = .ok (.istore_n 2, 1) := dq_h (dq_t (dq_t (dq_t (dq_t (dq_t (dq_t (dq_t (dq_t (dq_t (dq_t (dq_t (dq_t (dq_t (dq_t dzX3_read_0))))))))))))))
theorem dX3_read_27 : decode cX3_read 27 = .ok (.iload_n 2, 1) := dq_h (dq_t (dq_t (dq_t (dq_t (dq_t (dq_t (dq_t (dq_t (dq_t (dq_t (dq_t (dq_t (dq_t (dq_t (dq_t dzX3_read_0)))))))))))))))
theorem dX3_read_28 : decode cX3_read 28 = .ok (.sipush 700, 3) := dq_h (dq_t (dq_t (dq_t (dq_t (dq_t (dq_t (dq_t (dq_t (dq_t (dq_t (dq_t (dq_t (dq_t (dq_t (dq_t (dq_t dzX3_read_0))))))))))))))))
theorem dX3_read_31 : decode cX3_read 31 = .ok (.if_icmp .ge 36, 3) := dq_h (dq_t (dq_t (dq_t (dq_t (dq_t (dq_t (dq_t (dq_t (dq_t (dq_t (dq_t (dq_t (dq_t (dq_t (dq_t (dq_t (dq_t dzX3_read_0)))))))))))))))))
theorem dX3_read_34 : decode cX3_read 34 = .ok (.aload_n 0, 1) := dq_h (dq_t (dq_t (dq_t (dq_t (dq_t (dq_t (dq_t (dq_t (dq_t (dq_t (dq_t (dq_t (dq_t (dq_t (dq_t (dq_t (dq_t (dq_t dzX3_read_0))))))))))))))))))
theorem dX3_read_35 : decode cX3_read 35 = .ok (.invokevirtual 39, 3) := dq_h (dq_t (dq_t (dq_t (dq_t (dq_t (dq_t (dq_t (dq_t (dq_t (dq_t (dq_t (dq_t (dq_t (dq_t (dq_t (dq_t (dq_t (dq_t (dq_t dzX3_read_0)))))))))))))))))))
theorem dX3_read_38 : decode cX3_read 38 = .ok (.ifCond .eq 29, 3) := dq_h (dq_t (dq_t (dq_t (dq_t (dq_t (dq_t (dq_t (dq_t (dq_t (dq_t (dq_t (dq_t (dq_t (dq_t (dq_t (dq_t (dq_t (dq_t (dq_t (dq_t dzX3_read_0))))))))))))))))))))
theorem dX3_read_41 : decode cX3_read 41 = .ok (.aload_n 0, 1) := dq_h (dq_t (dq_t (dq_t (dq_t (dq_t (dq_t (dq_t (dq_t (dq_t (dq_t (dq_t (dq_t (dq_t (dq_t (dq_t (dq_t (dq_t (dq_t (dq_t (dq_t (dq_t dzX3_read_0)))))))))))))))))))))
theorem dX3_read_42 : decode cX3_read 42 = .ok (.getfield 12, 3) := dq_h (dq_t (dq_t (dq_t (dq_t (dq_t (dq_t (dq_t (dq_t (dq_t (dq_t (dq_t (dq_t (dq_t (dq_t (dq_t (dq_t (dq_t (dq_t (dq_t (dq_t (dq_t (dq_t dzX3_read_0))))))))))))))))))))))
theorem dX3_read_45 : decode cX3_read 45 = .ok (.getfield 43, 3) := dq_h (dq_t (dq_t (dq_t (dq_t (dq_t (dq_t (dq_t (dq_t (dq_t (dq_t (dq_t (dq_t (dq_t (dq_t (dq_t (dq_t (dq_t (dq_t (dq_t (dq_t (dq_t (dq_t (dq_t dzX3_read_0)))))))))))))))))))))))
theorem dzX3_read_48 : dq_F cX3_read [(48, .ifCond .eq 19, 3), (51, .aload_n 0, 1), (52, .invokevirtual 46, 3), (55, .aload_n 0, 1), (56, .bipush 59, 2), (58, .invokevirtual 49, 3), (61, .iinc 2 1, 3), (64, .goto (-37), 3), (67, .aload_n 0, 1), (68, .getfield 25, 3), (71, .ireturn, 1)] := dq_s 11 48 (by decide +kernel)
theorem dX3_read_48 : decode cX3_read 48 = .ok (.ifCond .eq 19, 3) := dq_h dzX3_read_48
theorem dX3_read_51 : decode cX3_read 51 = .ok (.aload_n 0, 1) := dq_h (dq_t dzX3_read_48)
theorem dX3_read_52 : decode cX3_read 52 = .ok (.invokevirtual 46, 3) := dq_h (dq_t (dq_t dzX3_read_48))
theorem dX3_read_55 : decode cX3_read 55 = .ok (.aload_n 0, 1) := dq_h (dq_t (dq_t (dq_t dzX3_read_48)))
theorem dX3_read_56 : decode cX3_read 56 = .ok (.bipush 59, 2) := dq_h (dq_t (dq_t (dq_t (dq_t dzX3_read_48))))
theorem dX3_read_58 : decode cX3_read 58 = .ok (.invokevirtual 49, 3) := dq_h (dq_t (dq_t (dq_t (dq_t (dq_t dzX3_read_48)))))
theorem dX3_read_61 : decode cX3_read 61 = .ok (.iinc 2 1, 3) := dq_h (dq_t (dq_t (dq_t (dq_t (dq_t (dq_t dzX3_read_48))))))
theorem dX3_read_64 : decode cX3_read 64 = .ok (.goto (-37), 3) := dq_h (dq_t (dq_t (dq_t (dq_t (dq_t (dq_t (dq_t dzX3_read_48)))))))
theorem dX3_read_67 : decode cX3_read 67 = .ok (.aload_n 0, 1) := dq_h (dq_t (dq_t (dq_t (dq_t (dq_t (dq_t (dq_t (dq_t dzX3_read_48))))))))
theorem dX3_read_68 : decode cX3_read 68 = .ok (.getfield 25, 3) := dq_h (dq_t (dq_t (dq_t (dq_t (dq_t (dq_t (dq_t (dq_t (dq_t dzX3_read_48)))))))))
theorem dX3_read_71 : decode cX3_read 71 = .ok (.ireturn, 1) := dq_h (dq_t (dq_t (dq_t (dq_t (dq_t (dq_t (dq_t (dq_t (dq_t (dq_t dzX3_read_48))))))))))
theorem dzX3_isFine_0 : dq_F cX3_isFine [(0, .aload_n 0, 1), (1, .getfield 25, 3), (4, .ifCond .ne 7, 3), (7, .iconst 1, 1), (8, .goto 4, 3), (11, .iconst 0, 1), (12, .ireturn, 1)] := dq_s 7 0 (by decide +kernel)
theorem dX3_isFine_0 : decode cX3_isFine 0 = .ok (.aload_n 0, 1) := dq_h dzX3_isFine_0
theorem dX3_isFine_1 : decode cX3_isFine 1 = .ok (.getfield 25, 3) := dq_h (dq_t dzX3_isFine_0)
theorem dX3_isFine_4 : decode cX3_isFine 4 = .ok (.ifCond .ne 7, 3) := dq_h (dq_t (dq_t dzX3_isFine_0))
theorem dX3_isFine_7 : decode cX3_isFine 7 = .ok (.iconst 1, 1) := dq_h (dq_t (dq_t (dq_t dzX3_isFine_0)))
theorem dX3_isFine_8 : decode cX3_isFine 8 = .ok (.goto 4, 3) := dq_h (dq_t (dq_t (dq_t (dq_t dzX3_isFine_0))))
theorem dX3_isFine_11 : decode cX3_isFine 11 = .ok (.iconst 0, 1) := dq_h (dq_t (dq_t (dq_t (dq_t (dq_t dzX3_isFine_0)))))
theorem dX3_isFine_12 : decode cX3_isFine 12 = .ok (.ireturn, 1) := dq_h (dq_t (dq_t (dq_t (dq_t (dq_t (dq_t dzX3_isFine_0))))))
theorem dzX3_refuse_0 : dq_F cX3_refuse [(0, .aload_n 0, 1), (1, .invokevirtual 39, 3), (4, .ifCond .eq 19, 3), (7, .aload_n 0, 1), (8, .iload_n 1, 1), (9, .putfield 25, 3), (12, .aload_n 0, 1), (13, .aload_n 0, 1), (14, .getfield 12, 3), (17, .getfield 53, 3), (20, .putfield 29, 3), (23, .return_, 1)] := dq_s 12 0 (by decide +kernel)
theorem dX3_refuse_0 : decode cX3_refuse 0 = .ok (.aload_n 0, 1) := dq_h dzX3_refuse_0
theorem dX3_refuse_1 : decode cX3_refuse 1 = .ok (.invokevirtual 39, 3) := dq_h (dq_t dzX3_refuse_0)
theorem dX3_refuse_4 : decode cX3_refuse 4 = .ok (.ifCond .eq 19, 3) := dq_h (dq_t (dq_t dzX3_refuse_0))
theorem dX3_refuse_7 : decode cX3_refuse 7 = .ok (.aload_n 0, 1) := dq_h (dq_t (dq_t (dq_t dzX3_refuse_0)))
theorem dX3_refuse_8 : decode cX3_refuse 8 = .ok (.iload_n 1, 1) := dq_h (dq_t (dq_t (dq_t (dq_t dzX3_refuse_0))))
theorem dX3_refuse_9 : decode cX3_refuse 9 = .ok (.putfield 25, 3) := dq_h (dq_t (dq_t (dq_t (dq_t (dq_t dzX3_refuse_0)))))
theorem dX3_refuse_12 : decode cX3_refuse 12 = .ok (.aload_n 0, 1) := dq_h (dq_t (dq_t (dq_t (dq_t (dq_t (dq_t dzX3_refuse_0))))))
theorem dX3_refuse_13 : decode cX3_refuse 13 = .ok (.aload_n 0, 1) := dq_h (dq_t (dq_t (dq_t (dq_t (dq_t (dq_t (dq_t dzX3_refuse_0)))))))
theorem dX3_refuse_14 : decode cX3_refuse 14 = .ok (.getfield 12, 3) := dq_h (dq_t (dq_t (dq_t (dq_t (dq_t (dq_t (dq_t (dq_t dzX3_refuse_0))))))))
theorem dX3_refuse_17 : decode cX3_refuse 17 = .ok (.getfield 53, 3) := dq_h (dq_t (dq_t (dq_t (dq_t (dq_t (dq_t (dq_t (dq_t (dq_t dzX3_refuse_0)))))))))
theorem dX3_refuse_20 : decode cX3_refuse 20 = .ok (.putfield 29, 3) := dq_h (dq_t (dq_t (dq_t (dq_t (dq_t (dq_t (dq_t (dq_t (dq_t (dq_t dzX3_refuse_0))))))))))
theorem dX3_refuse_23 : decode cX3_refuse 23 = .ok (.return_, 1) := dq_h (dq_t (dq_t (dq_t (dq_t (dq_t (dq_t (dq_t (dq_t (dq_t (dq_t (dq_t dzX3_refuse_0)))))))))))
theorem dzX3_skipSign_0 : dq_F cX3_skipSign [(0, .aload_n 0, 1), (1, .getfield 12, 3), (4, .iload_n 1, 1), (5, .invokevirtual 56, 3), (8, .ifCond .ne 11, 3), (11, .aload_n 0, 1), (12, .iconst 1, 1), (13, .invokevirtual 60, 3), (16, .goto 17, 3), (19, .aload_n 0, 1), (20, .invokevirtual 39, 3), (23, .ifCond .eq 10, 3), (26, .aload_n 0, 1), (27, .getfield 12, 3), (30, .invokevirtual 63, 3), (33, .return_, 1)] := dq_s 16 0 (by decide +kernel)
theorem dX3_skipSign_0 : decode cX3_skipSign 0 = .ok (.aload_n 0, 1) := dq_h dzX3_skipSign_0
theorem dX3_skipSign_1 : decode cX3_skipSign 1 = .ok (.getfield 12, 3) := dq_h (dq_t dzX3_skipSign_0)
theorem dX3_skipSign_4 : decode cX3_skipSign 4 = .ok (.iload_n 1, 1) := dq_h (dq_t (dq_t dzX3_skipSign_0))
theorem dX3_skipSign_5 : decode cX3_skipSign 5 = .ok (.invokevirtual 56, 3) := dq_h (dq_t (dq_t (dq_t dzX3_skipSign_0)))
theorem dX3_skipSign_8 : decode cX3_skipSign 8 = .ok (.ifCond .ne 11, 3) := dq_h (dq_t (dq_t (dq_t (dq_t dzX3_skipSign_0))))
theorem dX3_skipSign_11 : decode cX3_skipSign 11 = .ok (.aload_n 0, 1) := dq_h (dq_t (dq_t (dq_t (dq_t (dq_t dzX3_skipSign_0)))))
theorem dX3_skipSign_12 : decode cX3_skipSign 12 = .ok (.iconst 1, 1) := dq_h (dq_t (dq_t (dq_t (dq_t (dq_t (dq_t dzX3_skipSign_0))))))
theorem dX3_skipSign_13 : decode cX3_skipSign 13 = .ok (.invokevirtual 60, 3) := dq_h (dq_t (dq_t (dq_t (dq_t (dq_t (dq_t (dq_t dzX3_skipSign_0)))))))
theorem dX3_skipSign_16 : decode cX3_skipSign 16 = .ok (.goto 17, 3) := dq_h (dq_t (dq_t (dq_t (dq_t (dq_t (dq_t (dq_t (dq_t dzX3_skipSign_0))))))))
theorem dX3_skipSign_19 : decode cX3_skipSign 19 = .ok (.aload_n 0, 1) := dq_h (dq_t (dq_t (dq_t (dq_t (dq_t (dq_t (dq_t (dq_t (dq_t dzX3_skipSign_0)))))))))
theorem dX3_skipSign_20 : decode cX3_skipSign 20 = .ok (.invokevirtual 39, 3) := dq_h (dq_t (dq_t (dq_t (dq_t (dq_t (dq_t (dq_t (dq_t (dq_t (dq_t dzX3_skipSign_0))))))))))
theorem dX3_skipSign_23 : decode cX3_skipSign 23 = .ok (.ifCond .eq 10, 3) := dq_h (dq_t (dq_t (dq_t (dq_t (dq_t (dq_t (dq_t (dq_t (dq_t (dq_t (dq_t dzX3_skipSign_0)))))))))))
theorem dX3_skipSign_26 : decode cX3_skipSign 26 = .ok (.aload_n 0, 1) := dq_h (dq_t (dq_t (dq_t (dq_t (dq_t (dq_t (dq_t (dq_t (dq_t (dq_t (dq_t (dq_t dzX3_skipSign_0))))))))))))
theorem dX3_skipSign_27 : decode cX3_skipSign 27 = .ok (.getfield 12, 3) := dq_h (dq_t (dq_t (dq_t (dq_t (dq_t (dq_t (dq_t (dq_t (dq_t (dq_t (dq_t (dq_t (dq_t dzX3_skipSign_0)))))))))))))
theorem dX3_skipSign_30 : decode cX3_skipSign 30 = .ok (.invokevirtual 63, 3) := dq_h (dq_t (dq_t (dq_t (dq_t (dq_t (dq_t (dq_t (dq_t (dq_t (dq_t (dq_t (dq_t (dq_t (dq_t dzX3_skipSign_0))))))))))))))
theorem dX3_skipSign_33 : decode cX3_skipSign 33 = .ok (.return_, 1) := dq_h (dq_t (dq_t (dq_t (dq_t (dq_t (dq_t (dq_t (dq_t (dq_t (dq_t (dq_t (dq_t (dq_t (dq_t (dq_t dzX3_skipSign_0)))))))))))))))
theorem dzX3_readNumber_0 : dq_F cX3_readNumber [(0, .aload_n 0, 1), (1, .getfield 12, 3), (4, .getfield 43, 3), (7, .iconst 2, 1), (8, .if_icmp .eq 11, 3), (11, .aload_n 0, 1), (12, .iconst 1, 1), (13, .invokevirtual 60, 3), (16, .goto 23, 3), (19, .aload_n 0, 1), (20, .getfield 12, 3), (23, .getfield 66, 3), (26, .iload_n 1, 1), (27, .iload_n 2, 1), (28, .invokestatic 69, 3), (31, .ifCond .ne 8, 3), (34, .aload_n 0, 1), (35, .iconst 2, 1), (36, .invokevirtual 60, 3), (39, .aload_n 0, 1), (40, .getfield 12, 3), (43, .getfield 66, 3), (46, .istore_n 3, 1), (47, .aload_n 0, 1)] := dq_s 24 0 (by decide +kernel)
theorem dX3_readNumber_0 : decode cX3_readNumber 0 = .ok (.aload_n 0, 1) := dq_h dzX3_readNumber_0
theorem dX3_readNumber_1 : decode cX3_readNumber 1 = .ok (.getfield 12, 3) := dq_h (dq_t dzX3_readNumber_0)
theorem dX3_readNumber_4 : decode cX3_readNumber 4 = .ok (.getfield 43, 3) := dq_h (dq_t (dq_t dzX3_readNumber_0))
theorem dX3_readNumber_7 : decode cX3_readNumber 7 = .ok (.iconst 2, 1) := dq_h (dq_t (dq_t (dq_t dzX3_readNumber_0)))
theorem dX3_readNumber_8 : decode cX3_readNumber 8 = .ok (.if_icmp .eq 11, 3) := dq_h (dq_t (dq_t (dq_t (dq_t dzX3_readNumber_0))))
theorem dX3_readNumber_11 : decode cX3_readNumber 11 = .ok (.aload_n 0, 1) := dq_h (dq_t (dq_t (dq_t (dq_t (dq_t dzX3_readNumber_0)))))
theorem dX3_readNumber_12 : decode cX3_readNumber 12 = .ok (.iconst 1, 1) := dq_h (dq_t (dq_t (dq_t (dq_t (dq_t (dq_t dzX3_readNumber_0))))))
theorem dX3_readNumber_13 : decode cX3_readNumber 13 = .ok (.invokevirtual 60, 3) := dq_h (dq_t (dq_t (dq_t (dq_t (dq_t (dq_t (dq_t dzX3_readNumber_0)))))))
theorem dX3_readNumber_16 : decode cX3_readNumber 16 = .ok (.goto 23, 3) := dq_h (dq_t (dq_t (dq_t (dq_t (dq_t (dq_t (dq_t (dq_t dzX3_readNumber_0))))))))
theorem dX3_readNumber_19 : decode cX3_readNumber 19 = .ok (.aload_n 0, 1) := dq_h (dq_t (dq_t (dq_t (dq_t (dq_t (dq_t (dq_t (dq_t (dq_t dzX3_readNumber_0)))))))))
theorem dX3_readNumber_20 : decode cX3_readNumber 20 = .ok (.getfield 12, 3) := dq_h (dq_t (dq_t (dq_t (dq_t (dq_t (dq_t (dq_t (dq_t (dq_t (dq_t dzX3_readNumber_0))))))))))
theorem dX3_readNumber_23 : decode cX3_readNumber 23 = .ok (.getfield 66, 3) := dq_h (dq_t (dq_t (dq_t (dq_t (dq_t (dq_t (dq_t (dq_t (dq_t (dq_t (dq_t dzX3_readNumber_0)))))))))))
theorem dX3_readNumber_26 : decode cX3_readNumber 26 = .ok (.iload_n 1, 1) := dq_h (dq_t (dq_t (dq_t (dq_t (dq_t (dq_t (dq_t (dq_t (dq_t (dq_t (dq_t (dq_t dzX3_readNumber_0))))))))))))
theorem dX3_readNumber_27 : decode cX3_readNumber 27 = .ok (.iload_n 2, 1) := dq_h (dq_t (dq_t (dq_t (dq_t (dq_t (dq_t (dq_t (dq_t (dq_t (dq_t (dq_t (dq_t (dq_t dzX3_readNumber_0)))))))))))))
theorem dX3_readNumber_28 : decode cX3_readNumber 28 = .ok (.invokestatic 69, 3) := dq_h (dq_t (dq_t (dq_t (dq_t (dq_t (dq_t (dq_t (dq_t (dq_t (dq_t (dq_t (dq_t (dq_t (dq_t dzX3_readNumber_0))))))))))))))
theorem dX3_readNumber_31 : decode cX3_readNumber 31 = .ok (.ifCond .ne 8, 3) := dq_h (dq_t (dq_t (dq_t (dq_t (dq_t (dq_t (dq_t (dq_t (dq_t (dq_t (dq_t (dq_t (dq_t (dq_t (dq_t dzX3_readNumber_0)))))))))))))))
theorem dX3_readNumber_34 : decode cX3_readNumber 34 = .ok (.aload_n 0, 1) := dq_h (dq_t (dq_t (dq_t (dq_t (dq_t (dq_t (dq_t (dq_t (dq_t (dq_t (dq_t (dq_t (dq_t (dq_t (dq_t (dq_t dzX3_readNumber_0))))))))))))))))
theorem dX3_readNumber_35 : decode cX3_readNumber 35 = .ok (.iconst 2, 1) := dq_h (dq_t (dq_t (dq_t (dq_t (dq_t (dq_t (dq_t (dq_t (dq_t (dq_t (dq_t (dq_t (dq_t (dq_t (dq_t (dq_t (dq_t dzX3_readNumber_0)))))))))))))))))
theorem dX3_readNumber_36 : decode cX3_readNumber 36 = .ok (.invokevirtual 60, 3) := dq_h (dq_t (dq_t (dq_t (dq_t (dq_t (dq_t (dq_t (dq_t (dq_t (dq_t (dq_t (dq_t (dq_t (dq_t (dq_t (dq_t (dq_t (dq_t dzX3_readNumber_0))))))))))))))))))
theorem dX3_readNumber_39 : decode cX3_readNumber 39 = .ok (.aload_n 0, 1) := dq_h (dq_t (dq_t (dq_t (dq_t (dq_t (dq_t (dq_t (dq_t (dq_t (dq_t (dq_t (dq_t (dq_t (dq_t (dq_t (dq_t (dq_t (dq_t (dq_t dzX3_readNumber_0)))))))))))))))))))
theorem dX3_readNumber_40 : decode cX3_readNumber 40 = .ok (.getfield 12, 3) := dq_h (dq_t (dq_t (dq_t (dq_t (dq_t (dq_t (dq_t (dq_t (dq_t (dq_t (dq_t (dq_t (dq_t (dq_t (dq_t (dq_t (dq_t (dq_t (dq_t (dq_t dzX3_readNumber_0))))))))))))))))))))
theorem dX3_readNumber_43 : decode cX3_readNumber 43 = .ok (.getfield 66, 3) := dq_h (dq_t (dq_t (dq_t (dq_t (dq_t (dq_t (dq_t (dq_t (dq_t (dq_t (dq_t (dq_t (dq_t (dq_t (dq_t (dq_t (dq_t (dq_t (dq_t (dq_t (dq_t dzX3_readNumber_0)))))))))))))))))))))
theorem dX3_readNumber_46 : decode cX3_readNumber 46 = .ok (.istore_n 3, 1) := dq_h (dq_t (dq_t (dq_t (dq_t (dq_t (dq_t (dq_t (dq_t (dq_t (dq_t (dq_t (dq_t (dq_t (dq_t (dq_t (dq_t (dq_t (dq_t (dq_t (dq_t (dq_t (dq_t dzX3_readNumber_0))))))))))))))))))))))
theorem dX3_readNumber_47 : decode cX3_readNumber 47 = .ok (.aload_n 0, 1) := dq_h (dq_t (dq_t (dq_t (dq_t (dq_t (dq_t (dq_t (dq_t (dq_t (dq_t (dq_t (dq_t (dq_t (dq_t (dq_t (dq_t (dq_t (dq_t (dq_t (dq_t (dq_t (dq_t (dq_t dzX3_readNumber_0)))))))))))))))))))))))
theorem dzX3_readNumber_48 : dq_F cX3_readNumber [(48, .invokevirtual 39, 3), (51, .ifCond .eq 10, 3), (54, .aload_n 0, 1), (55, .getfield 12, 3), (58, .invokevirtual 63, 3), (61, .iload_n 3, 1), (62, .ireturn, 1)] := dq_s 7 48 (by decide +kernel)
theorem dX3_readNumber_48 : decode cX3_readNumber 48 = .ok (.invokevirtual 39, 3) := dq_h dzX3_readNumber_48
theorem dX3_readNumber_51 : decode cX3_readNumber 51 = .ok (.ifCond .eq 10, 3) := dq_h (dq_t dzX3_readNumber_48)
theorem dX3_readNumber_54 : decode cX3_readNumber 54 = .ok (.aload_n 0, 1) := dq_h (dq_t (dq_t dzX3_readNumber_48))
theorem dX3_readNumber_55 : decode cX3_readNumber 55 = .ok (.getfield 12, 3) := dq_h (dq_t (dq_t (dq_t dzX3_readNumber_48)))
theorem dX3_readNumber_58 : decode cX3_readNumber 58 = .ok (.invokevirtual 63, 3) := dq_h (dq_t (dq_t (dq_t (dq_t dzX3_readNumber_48))))
theorem dX3_readNumber_61 : decode cX3_readNumber 61 = .ok (.iload_n 3, 1) := dq_h (dq_t (dq_t (dq_t (dq_t (dq_t dzX3_readNumber_48)))))
theorem dX3_readNumber_62 : decode cX3_readNumber 62 = .ok (.ireturn, 1) := dq_h (dq_t (dq_t (dq_t (dq_t (dq_t (dq_t dzX3_readNumber_48))))))
theorem dzX3_readLine_0 : dq_F cX3_readLine [(0, .aload_n 0, 1), (1, .getfield 12, 3), (4, .ldc 73, 2), (6, .invokevirtual 75, 3), (9, .ifCond .eq 11, 3), (12, .aload_n 0, 1), (13, .iconst 0, 1), (14, .invokevirtual 79, 3), (17, .goto 137, 3), (20, .aload_n 0, 1), (21, .getfield 12, 3), (24, .ldc 83, 2), (26, .invokevirtual 75, 3), (29, .ifCond .eq 11, 3), (32, .aload_n 0, 1), (33, .iconst 1, 1), (34, .invokevirtual 79, 3), (37, .goto 117, 3), (40, .aload_n 0, 1), (41, .getfield 12, 3), (44, .ldc 85, 2), (46, .invokevirtual 75, 3), (49, .ifCond .eq 10, 3), (52, .aload_n 0, 1)] := dq_s 24 0 (by decide +kernel)
theorem dX3_readLine_0 : decode cX3_readLine 0 = .ok (.aload_n 0, 1) := dq_h dzX3_readLine_0
theorem dX3_readLine_1 : decode cX3_readLine 1 = .ok (.getfield 12, 3) := dq_h (dq_t dzX3_readLine_0)
theorem dX3_readLine_4 : decode cX3_readLine 4 = .ok (.ldc 73, 2) := dq_h (dq_t (dq_t dzX3_readLine_0))
theorem dX3_readLine_6 : decode cX3_readLine 6 = .ok (.invokevirtual 75, 3) := dq_h (dq_t (dq_t (dq_t dzX3_readLine_0)))
theorem dX3_readLine_9 : decode cX3_readLine 9 = .ok (.ifCond .eq 11, 3) := dq_h (dq_t (dq_t (dq_t (dq_t dzX3_readLine_0))))
theorem dX3_readLine_12 : decode cX3_readLine 12 = .ok (.aload_n 0, 1) := dq_h (dq_t (dq_t (dq_t (dq_t (dq_t dzX3_readLine_0)))))
theorem dX3_readLine_13 : decode cX3_readLine 13 = .ok (.iconst 0, 1) := dq_h (dq_t (dq_t (dq_t (dq_t (dq_t (dq_t dzX3_readLine_0))))))
theorem dX3_readLine_14 : decode cX3_readLine 14 = .ok (.invokevirtual 79, 3) := dq_h (dq_t (dq_t (dq_t (dq_t (dq_t (dq_t (dq_t dzX3_readLine_0)))))))
theorem dX3_readLine_17 : decode cX3_readLine 17 = .ok (.goto 137, 3) := dq_h (dq_t (dq_t (dq_t (dq_t (dq_t (dq_t (dq_t (dq_t dzX3_readLine_0))))))))
theorem dX3_readLine_20 : decode cX3_readLine 20 = .ok (.aload_n 0, 1) := dq_h (dq_t (dq_t (dq_t (dq_t (dq_t (dq_t (dq_t (dq_t (dq_t dzX3_readLine_0)))))))))
theorem dX3_readLine_21 : decode cX3_readLine 21 = .ok (.getfield 12, 3) := dq_h (dq_t (dq_t (dq_t (dq_t (dq_t (dq_t (dq_t (dq_t (dq_t (dq_t dzX3_readLine_0))))))))))
theorem dX3_readLine_24 : decode cX3_readLine 24 = .ok (.ldc 83, 2) := dq_h (dq_t (dq_t (dq_t (dq_t (dq_t (dq_t (dq_t (dq_t (dq_t (dq_t (dq_t dzX3_readLine_0)))))))))))
theorem dX3_readLine_26 : decode cX3_readLine 26 = .ok (.invokevirtual 75, 3) := dq_h (dq_t (dq_t (dq_t (dq_t (dq_t (dq_t (dq_t (dq_t (dq_t (dq_t (dq_t (dq_t dzX3_readLine_0))))))))))))
theorem dX3_readLine_29 : decode cX3_readLine 29 = .ok (.ifCond .eq 11, 3) := dq_h (dq_t (dq_t (dq_t (dq_t (dq_t (dq_t (dq_t (dq_t (dq_t (dq_t (dq_t (dq_t (dq_t dzX3_readLine_0)))))))))))))
theorem dX3_readLine_32 : decode cX3_readLine 32 = .ok (.aload_n 0, 1) := dq_h (dq_t (dq_t (dq_t (dq_t (dq_t (dq_t (dq_t (dq_t (dq_t (dq_t (dq_t (dq_t (dq_t (dq_t dzX3_readLine_0))))))))))))))
theorem dX3_readLine_33 : decode cX3_readLine 33 = .ok (.iconst 1, 1) := dq_h (dq_t (dq_t (dq_t (dq_t (dq_t (dq_t (dq_t (dq_t (dq_t (dq_t (dq_t (dq_t (dq_t (dq_t (dq_t dzX3_readLine_0)))))))))))))))
theorem dX3_readLine_34 : decode cX3_readLine 34 = .ok (.invokevirtual 79, 3) := dq_h (dq_t (dq_t (dq_t (dq_t (dq_t (dq_t (dq_t (dq_t (dq_t (dq_t (dq_t (dq_t (dq_t (dq_t (dq_t (dq_t dzX3_readLine_0))))))))))))))))
theorem dX3_readLine_37 : decode cX3_readLine 37 = .ok (.goto 117, 3) := dq_h (dq_t (dq_t (dq_t (dq_t (dq_t (dq_t (dq_t (dq_t (dq_t (dq_t (dq_t (dq_t (dq_t (dq_t (dq_t (dq_t (dq_t dzX3_readLine_0)))))))))))))))))
theorem dX3_readLine_40 : decode cX3_readLine 40 = .ok (.aload_n 0, 1) := dq_h (dq_t (dq_t (dq_t (dq_t (dq_t (dq_t (dq_t (dq_t (dq_t (dq_t (dq_t (dq_t (dq_t (dq_t (dq_t (dq_t (dq_t (dq_t dzX3_readLine_0))))))))))))))))))
theorem dX3_readLine_41 : decode cX3_readLine 41 = .ok (.getfield 12, 3) := dq_h (dq_t (dq_t (dq_t (dq_t (dq_t (dq_t (dq_t (dq_t (dq_t (dq_t (dq_t (dq_t (dq_t (dq_t (dq_t (dq_t (dq_t (dq_t (dq_t dzX3_readLine_0)))))))))))))))))))
theorem dX3_readLine_44 : decode cX3_readLine 44 = .ok (.ldc 85, 2) := dq_h (dq_t (dq_t (dq_t (dq_t (dq_t (dq_t (dq_t (dq_t (dq_t (dq_t (dq_t (dq_t (dq_t (dq_t (dq_t (dq_t (dq_t (dq_t (dq_t (dq_t dzX3_readLine_0))))))))))))))))))))
theorem dX3_readLine_46 : decode cX3_readLine 46 = .ok (.invokevirtual 75, 3) := dq_h (dq_t (dq_t (dq_t (dq_t (dq_t (dq_t (dq_t (dq_t (dq_t (dq_t (dq_t (dq_t (dq_t (dq_t (dq_t (dq_t (dq_t (dq_t (dq_t (dq_t (dq_t dzX3_readLine_0)))))))))))))))))))))
theorem dX3_readLine_49 : decode cX3_readLine 49 = .ok (.ifCond .eq 10, 3) := dq_h (dq_t (dq_t (dq_t (dq_t (dq_t (dq_t (dq_t (dq_t (dq_t (dq_t (dq_t (dq_t (dq_t (dq_t (dq_t (dq_t (dq_t (dq_t (dq_t (dq_t (dq_t (dq_t dzX3_readLine_0))))))))))))))))))))))
theorem dX3_readLine_52 : decode cX3_readLine 52 = .ok (.aload_n 0, 1) := dq_h (dq_t (dq_t (dq_t (dq_t (dq_t (dq_t (dq_t (dq_t (dq_t (dq_t (dq_t (dq_t (dq_t (dq_t (dq_t (dq_t (dq_t (dq_t (dq_t (dq_t (dq_t (dq_t (dq_t dzX3_readLine_0)))))))))))))))))))))))
theorem dzX3_readLine_53 : dq_F cX3_readLine [(53, .invokevirtual 87, 3), (56, .goto 98, 3), (59, .aload_n 0, 1), (60, .getfield 12, 3), (63, .ldc 90, 2), (65, .invokevirtual 75, 3), (68, .ifCond .eq 10, 3), (71, .aload_n 0, 1), (72, .invokevirtual 92, 3), (75, .goto 79, 3), (78, .aload_n 0, 1), (79, .getfield 12, 3), (82, .ldc 95, 2), (84, .invokevirtual 75, 3), (87, .ifCond .eq 10, 3), (90, .aload_n 0, 1), (91, .invokevirtual 97, 3), (94, .goto 60, 3), (97, .aload_n 0, 1), (98, .getfield 12, 3), (101, .ldc 100, 2), (103, .invokevirtual 75, 3), (106, .ifCond .eq 17, 3), (109, .aload_n 0, 1)] := dq_s 24 53 (by decide +kernel)
theorem dX3_readLine_53 : decode cX3_readLine 53 = .ok (.invokevirtual 87, 3) := dq_h dzX3_readLine_53
theorem dX3_readLine_56 : decode cX3_readLine 56 = .ok (.goto 98, 3) := dq_h (dq_t dzX3_readLine_53)
theorem dX3_readLine_59 : decode cX3_readLine 59 = .ok (.aload_n 0, 1) := dq_h (dq_t (dq_t dzX3_readLine_53))
theorem dX3_readLine_60 : decode cX3_readLine 60 = .ok (.getfield 12, 3) := dq_h (dq_t (dq_t (dq_t dzX3_readLine_53)))
theorem dX3_readLine_63 : decode cX3_readLine 63 = .ok (.ldc 90, 2) := dq_h (dq_t (dq_t (dq_t (dq_t dzX3_readLine_53))))
theorem dX3_readLine_65 : decode cX3_readLine 65 = .ok (.invokevirtual 75, 3) := dq_h (dq_t (dq_t (dq_t (dq_t (dq_t dzX3_readLine_53)))))
theorem dX3_readLine_68 : decode cX3_readLine 68 = .ok (.ifCond .eq 10, 3) := dq_h (dq_t (dq_t (dq_t (dq_t (dq_t (dq_t dzX3_readLine_53))))))
theorem dX3_readLine_71 : decode cX3_readLine 71 = .ok (.aload_n 0, 1) := dq_h (dq_t (dq_t (dq_t (dq_t (dq_t (dq_t (dq_t dzX3_readLine_53)))))))
theorem dX3_readLine_72 : decode cX3_readLine 72 = .ok (.invokevirtual 92, 3) := dq_h (dq_t (dq_t (dq_t (dq_t (dq_t (dq_t (dq_t (dq_t dzX3_readLine_53))))))))
theorem dX3_readLine_75 : decode cX3_readLine 75 = .ok (.goto 79, 3) := dq_h (dq_t (dq_t (dq_t (dq_t (dq_t (dq_t (dq_t (dq_t (dq_t dzX3_readLine_53)))))))))
theorem dX3_readLine_78 : decode cX3_readLine 78 = .ok (.aload_n 0, 1) := dq_h (dq_t (dq_t (dq_t (dq_t (dq_t (dq_t (dq_t (dq_t (dq_t (dq_t dzX3_readLine_53))))))))))
theorem dX3_readLine_79 : decode cX3_readLine 79 = .ok (.getfield 12, 3) := dq_h (dq_t (dq_t (dq_t (dq_t (dq_t (dq_t (dq_t (dq_t (dq_t (dq_t (dq_t dzX3_readLine_53)))))))))))
theorem dX3_readLine_82 : decode cX3_readLine 82 = .ok (.ldc 95, 2) := dq_h (dq_t (dq_t (dq_t (dq_t (dq_t (dq_t (dq_t (dq_t (dq_t (dq_t (dq_t (dq_t dzX3_readLine_53))))))))))))
theorem dX3_readLine_84 : decode cX3_readLine 84 = .ok (.invokevirtual 75, 3) := dq_h (dq_t (dq_t (dq_t (dq_t (dq_t (dq_t (dq_t (dq_t (dq_t (dq_t (dq_t (dq_t (dq_t dzX3_readLine_53)))))))))))))
theorem dX3_readLine_87 : decode cX3_readLine 87 = .ok (.ifCond .eq 10, 3) := dq_h (dq_t (dq_t (dq_t (dq_t (dq_t (dq_t (dq_t (dq_t (dq_t (dq_t (dq_t (dq_t (dq_t (dq_t dzX3_readLine_53))))))))))))))
theorem dX3_readLine_90 : decode cX3_readLine 90 = .ok (.aload_n 0, 1) := dq_h (dq_t (dq_t (dq_t (dq_t (dq_t (dq_t (dq_t (dq_t (dq_t (dq_t (dq_t (dq_t (dq_t (dq_t (dq_t dzX3_readLine_53)))))))))))))))
theorem dX3_readLine_91 : decode cX3_readLine 91 = .ok (.invokevirtual 97, 3) := dq_h (dq_t (dq_t (dq_t (dq_t (dq_t (dq_t (dq_t (dq_t (dq_t (dq_t (dq_t (dq_t (dq_t (dq_t (dq_t (dq_t dzX3_readLine_53))))))))))))))))
theorem dX3_readLine_94 : decode cX3_readLine 94 = .ok (.goto 60, 3) := dq_h (dq_t (dq_t (dq_t (dq_t (dq_t (dq_t (dq_t (dq_t (dq_t (dq_t (dq_t (dq_t (dq_t (dq_t (dq_t (dq_t (dq_t dzX3_readLine_53)))))))))))))))))
theorem dX3_readLine_97 : decode cX3_readLine 97 = .ok (.aload_n 0, 1) := dq_h (dq_t (dq_t (dq_t (dq_t (dq_t (dq_t (dq_t (dq_t (dq_t (dq_t (dq_t (dq_t (dq_t (dq_t (dq_t (dq_t (dq_t (dq_t dzX3_readLine_53))))))))))))))))))
theorem dX3_readLine_98 : decode cX3_readLine 98 = .ok (.getfield 12, 3) := dq_h (dq_t (dq_t (dq_t (dq_t (dq_t (dq_t (dq_t (dq_t (dq_t (dq_t (dq_t (dq_t (dq_t (dq_t (dq_t (dq_t (dq_t (dq_t (dq_t dzX3_readLine_53)))))))))))))))))))
theorem dX3_readLine_101 : decode cX3_readLine 101 = .ok (.ldc 100, 2) := dq_h (dq_t (dq_t (dq_t (dq_t (dq_t (dq_t (dq_t (dq_t (dq_t (dq_t (dq_t (dq_t (dq_t (dq_t (dq_t (dq_t (dq_t (dq_t (dq_t (dq_t dzX3_readLine_53))))))))))))))))))))
theorem dX3_readLine_103 : decode cX3_readLine 103 = .ok (.invokevirtual 75, 3) := dq_h (dq_t (dq_t (dq_t (dq_t (dq_t (dq_t (dq_t (dq_t (dq_t (dq_t (dq_t (dq_t (dq_t (dq_t (dq_t (dq_t (dq_t (dq_t (dq_t (dq_t (dq_t dzX3_readLine_53)))))))))))))))))))))
theorem dX3_readLine_106 : decode cX3_readLine 106 = .ok (.ifCond .eq 17, 3) := dq_h (dq_t (dq_t (dq_t (dq_t (dq_t (dq_t (dq_t (dq_t (dq_t (dq_t (dq_t (dq_t (dq_t (dq_t (dq_t (dq_t (dq_t (dq_t (dq_t (dq_t (dq_t (dq_t dzX3_readLine_53))))))))))))))))))))))
theorem dX3_readLine_109 : decode cX3_readLine 109 = .ok (.aload_n 0, 1) := dq_h (dq_t (dq_t (dq_t (dq_t (dq_t (dq_t (dq_t (dq_t (dq_t (dq_t (dq_t (dq_t (dq_t (dq_t (dq_t (dq_t (dq_t (dq_t (dq_t (dq_t (dq_t (dq_t (dq_t dzX3_readLine_53)))))))))))))))))))))))
theorem dzX3_readLine_110 : dq_F cX3_readLine [(110, .aload_n 0, 1), (111, .getfield 21, 3), (114, .getfield 102, 3), (117, .invokevirtual 105, 3), (120, .goto 34, 3), (123, .aload_n 0, 1), (124, .getfield 12, 3), (127, .ldc 109, 2), (129, .invokevirtual 75, 3), (132, .ifCond .eq 17, 3), (135, .aload_n 0, 1), (136, .aload_n 0, 1), (137, .getfield 21, 3), (140, .getfield 111, 3), (143, .invokevirtual 105, 3), (146, .goto 8, 3), (149, .aload_n 0, 1), (150, .iconst 1, 1), (151, .invokevirtual 60, 3), (154, .return_, 1)] := dq_s 20 110 (by decide +kernel)
theorem dX3_readLine_110 : decode cX3_readLine 110 = .ok (.aload_n 0, 1) := dq_h dzX3_readLine_110
theorem dX3_readLine_111 : decode cX3_readLine 111 = .ok (.getfield 21, 3) := dq_h (dq_t dzX3_readLine_110)
theorem dX3_readLine_114 : decode cX3_readLine 114 = .ok (.getfield 102, 3) := dq_h (dq_t (dq_t dzX3_readLine_110))
theorem dX3_readLine_117 : decode cX3_readLine 117 = .ok (.invokevirtual 105, 3) := dq_h (dq_t (dq_t (dq_t dzX3_readLine_110)))
theorem dX3_readLine_120 : decode cX3_readLine 120 = .ok (.goto 34, 3) := dq_h (dq_t (dq_t (dq_t (dq_t dzX3_readLine_110))))
theorem dX3_readLine_123 : decode cX3_readLine 123 = .ok (.aload_n 0, 1) := dq_h (dq_t (dq_t (dq_t (dq_t (dq_t dzX3_readLine_110)))))
theorem dX3_readLine_124 : decode cX3_readLine 124 = .ok (.getfield 12, 3) := dq_h (dq_t (dq_t (dq_t (dq_t (dq_t (dq_t dzX3_readLine_110))))))
theorem dX3_readLine_127 : decode cX3_readLine 127 = .ok (.ldc 109, 2) := dq_h (dq_t (dq_t (dq_t (dq_t (dq_t (dq_t (dq_t dzX3_readLine_110)))))))
theorem dX3_readLine_129 : decode cX3_readLine 129 = .ok (.invokevirtual 75, 3) := dq_h (dq_t (dq_t (dq_t (dq_t (dq_t (dq_t (dq_t (dq_t dzX3_readLine_110))))))))
theorem dX3_readLine_132 : decode cX3_readLine 132 = .ok (.ifCond .eq 17, 3) := dq_h (dq_t (dq_t (dq_t (dq_t (dq_t (dq_t (dq_t (dq_t (dq_t dzX3_readLine_110)))))))))
theorem dX3_readLine_135 : decode cX3_readLine 135 = .ok (.aload_n 0, 1) := dq_h (dq_t (dq_t (dq_t (dq_t (dq_t (dq_t (dq_t (dq_t (dq_t (dq_t dzX3_readLine_110))))))))))
theorem dX3_readLine_136 : decode cX3_readLine 136 = .ok (.aload_n 0, 1) := dq_h (dq_t (dq_t (dq_t (dq_t (dq_t (dq_t (dq_t (dq_t (dq_t (dq_t (dq_t dzX3_readLine_110)))))))))))
theorem dX3_readLine_137 : decode cX3_readLine 137 = .ok (.getfield 21, 3) := dq_h (dq_t (dq_t (dq_t (dq_t (dq_t (dq_t (dq_t (dq_t (dq_t (dq_t (dq_t (dq_t dzX3_readLine_110))))))))))))
theorem dX3_readLine_140 : decode cX3_readLine 140 = .ok (.getfield 111, 3) := dq_h (dq_t (dq_t (dq_t (dq_t (dq_t (dq_t (dq_t (dq_t (dq_t (dq_t (dq_t (dq_t (dq_t dzX3_readLine_110)))))))))))))
theorem dX3_readLine_143 : decode cX3_readLine 143 = .ok (.invokevirtual 105, 3) := dq_h (dq_t (dq_t (dq_t (dq_t (dq_t (dq_t (dq_t (dq_t (dq_t (dq_t (dq_t (dq_t (dq_t (dq_t dzX3_readLine_110))))))))))))))
theorem dX3_readLine_146 : decode cX3_readLine 146 = .ok (.goto 8, 3) := dq_h (dq_t (dq_t (dq_t (dq_t (dq_t (dq_t (dq_t (dq_t (dq_t (dq_t (dq_t (dq_t (dq_t (dq_t (dq_t dzX3_readLine_110)))))))))))))))
theorem dX3_readLine_149 : decode cX3_readLine 149 = .ok (.aload_n 0, 1) := dq_h (dq_t (dq_t (dq_t (dq_t (dq_t (dq_t (dq_t (dq_t (dq_t (dq_t (dq_t (dq_t (dq_t (dq_t (dq_t (dq_t dzX3_readLine_110))))))))))))))))
theorem dX3_readLine_150 : decode cX3_readLine 150 = .ok (.iconst 1, 1) := dq_h (dq_t (dq_t (dq_t (dq_t (dq_t (dq_t (dq_t (dq_t (dq_t (dq_t (dq_t (dq_t (dq_t (dq_t (dq_t (dq_t (dq_t dzX3_readLine_110)))))))))))))))))
theorem dX3_readLine_151 : decode cX3_readLine 151 = .ok (.invokevirtual 60, 3) := dq_h (dq_t (dq_t (dq_t (dq_t (dq_t (dq_t (dq_t (dq_t (dq_t (dq_t (dq_t (dq_t (dq_t (dq_t (dq_t (dq_t (dq_t (dq_t dzX3_readLine_110))))))))))))))))))
theorem dX3_readLine_154 : decode cX3_readLine 154 = .ok (.return_, 1) := dq_h (dq_t (dq_t (dq_t (dq_t (dq_t (dq_t (dq_t (dq_t (dq_t (dq_t (dq_t (dq_t (dq_t (dq_t (dq_t (dq_t (dq_t (dq_t (dq_t dzX3_readLine_110)))))))))))))))))))
theorem dzX3_readGrotto_0 : dq_F cX3_readGrotto [(0, .aload_n 0, 1), (1, .getfield 21, 3), (4, .getfield 113, 3), (7, .istore_n 2, 1), (8, .iload_n 2, 1), (9, .bipush 8, 2), (11, .if_icmp .lt 9, 3), (14, .aload_n 0, 1), (15, .iconst 2, 1), (16, .invokevirtual 60, 3), (19, .return_, 1), (20, .aload_n 0, 1), (21, .getfield 12, 3), (24, .invokevirtual 63, 3), (27, .aload_n 0, 1), (28, .getfield 21, 3), (31, .getfield 116, 3), (34, .iload_n 2, 1), (35, .aload_n 0, 1), (36, .iconst 1, 1), (37, .bipush 12, 2), (39, .invokevirtual 120, 3), (42, .iastore, 1), (43, .aload_n 0, 1)] := dq_s 24 0 (by decide +kernel)
theorem dX3_readGrotto_0 : decode cX3_readGrotto 0 = .ok (.aload_n 0, 1) := dq_h dzX3_readGrotto_0
theorem dX3_readGrotto_1 : decode cX3_readGrotto 1 = .ok (.getfield 21, 3) := dq_h (dq_t dzX3_readGrotto_0)
theorem dX3_readGrotto_4 : decode cX3_readGrotto 4 = .ok (.getfield 113, 3) := dq_h (dq_t (dq_t dzX3_readGrotto_0))
theorem dX3_readGrotto_7 : decode cX3_readGrotto 7 = .ok (.istore_n 2, 1) := dq_h (dq_t (dq_t (dq_t dzX3_readGrotto_0)))
theorem dX3_readGrotto_8 : decode cX3_readGrotto 8 = .ok (.iload_n 2, 1) := dq_h (dq_t (dq_t (dq_t (dq_t dzX3_readGrotto_0))))
theorem dX3_readGrotto_9 : decode cX3_readGrotto 9 = .ok (.bipush 8, 2) := dq_h (dq_t (dq_t (dq_t (dq_t (dq_t dzX3_readGrotto_0)))))
theorem dX3_readGrotto_11 : decode cX3_readGrotto 11 = .ok (.if_icmp .lt 9, 3) := dq_h (dq_t (dq_t (dq_t (dq_t (dq_t (dq_t dzX3_readGrotto_0))))))
theorem dX3_readGrotto_14 : decode cX3_readGrotto 14 = .ok (.aload_n 0, 1) := dq_h (dq_t (dq_t (dq_t (dq_t (dq_t (dq_t (dq_t dzX3_readGrotto_0)))))))
theorem dX3_readGrotto_15 : decode cX3_readGrotto 15 = .ok (.iconst 2, 1) := dq_h (dq_t (dq_t (dq_t (dq_t (dq_t (dq_t (dq_t (dq_t dzX3_readGrotto_0))))))))
theorem dX3_readGrotto_16 : decode cX3_readGrotto 16 = .ok (.invokevirtual 60, 3) := dq_h (dq_t (dq_t (dq_t (dq_t (dq_t (dq_t (dq_t (dq_t (dq_t dzX3_readGrotto_0)))))))))
theorem dX3_readGrotto_19 : decode cX3_readGrotto 19 = .ok (.return_, 1) := dq_h (dq_t (dq_t (dq_t (dq_t (dq_t (dq_t (dq_t (dq_t (dq_t (dq_t dzX3_readGrotto_0))))))))))
theorem dX3_readGrotto_20 : decode cX3_readGrotto 20 = .ok (.aload_n 0, 1) := dq_h (dq_t (dq_t (dq_t (dq_t (dq_t (dq_t (dq_t (dq_t (dq_t (dq_t (dq_t dzX3_readGrotto_0)))))))))))
theorem dX3_readGrotto_21 : decode cX3_readGrotto 21 = .ok (.getfield 12, 3) := dq_h (dq_t (dq_t (dq_t (dq_t (dq_t (dq_t (dq_t (dq_t (dq_t (dq_t (dq_t (dq_t dzX3_readGrotto_0))))))))))))
theorem dX3_readGrotto_24 : decode cX3_readGrotto 24 = .ok (.invokevirtual 63, 3) := dq_h (dq_t (dq_t (dq_t (dq_t (dq_t (dq_t (dq_t (dq_t (dq_t (dq_t (dq_t (dq_t (dq_t dzX3_readGrotto_0)))))))))))))
theorem dX3_readGrotto_27 : decode cX3_readGrotto 27 = .ok (.aload_n 0, 1) := dq_h (dq_t (dq_t (dq_t (dq_t (dq_t (dq_t (dq_t (dq_t (dq_t (dq_t (dq_t (dq_t (dq_t (dq_t dzX3_readGrotto_0))))))))))))))
theorem dX3_readGrotto_28 : decode cX3_readGrotto 28 = .ok (.getfield 21, 3) := dq_h (dq_t (dq_t (dq_t (dq_t (dq_t (dq_t (dq_t (dq_t (dq_t (dq_t (dq_t (dq_t (dq_t (dq_t (dq_t dzX3_readGrotto_0)))))))))))))))
theorem dX3_readGrotto_31 : decode cX3_readGrotto 31 = .ok (.getfield 116, 3) := dq_h (dq_t (dq_t (dq_t (dq_t (dq_t (dq_t (dq_t (dq_t (dq_t (dq_t (dq_t (dq_t (dq_t (dq_t (dq_t (dq_t dzX3_readGrotto_0))))))))))))))))
theorem dX3_readGrotto_34 : decode cX3_readGrotto 34 = .ok (.iload_n 2, 1) := dq_h (dq_t (dq_t (dq_t (dq_t (dq_t (dq_t (dq_t (dq_t (dq_t (dq_t (dq_t (dq_t (dq_t (dq_t (dq_t (dq_t (dq_t dzX3_readGrotto_0)))))))))))))))))
theorem dX3_readGrotto_35 : decode cX3_readGrotto 35 = .ok (.aload_n 0, 1) := dq_h (dq_t (dq_t (dq_t (dq_t (dq_t (dq_t (dq_t (dq_t (dq_t (dq_t (dq_t (dq_t (dq_t (dq_t (dq_t (dq_t (dq_t (dq_t dzX3_readGrotto_0))))))))))))))))))
theorem dX3_readGrotto_36 : decode cX3_readGrotto 36 = .ok (.iconst 1, 1) := dq_h (dq_t (dq_t (dq_t (dq_t (dq_t (dq_t (dq_t (dq_t (dq_t (dq_t (dq_t (dq_t (dq_t (dq_t (dq_t (dq_t (dq_t (dq_t (dq_t dzX3_readGrotto_0)))))))))))))))))))
theorem dX3_readGrotto_37 : decode cX3_readGrotto 37 = .ok (.bipush 12, 2) := dq_h (dq_t (dq_t (dq_t (dq_t (dq_t (dq_t (dq_t (dq_t (dq_t (dq_t (dq_t (dq_t (dq_t (dq_t (dq_t (dq_t (dq_t (dq_t (dq_t (dq_t dzX3_readGrotto_0))))))))))))))))))))
theorem dX3_readGrotto_39 : decode cX3_readGrotto 39 = .ok (.invokevirtual 120, 3) := dq_h (dq_t (dq_t (dq_t (dq_t (dq_t (dq_t (dq_t (dq_t (dq_t (dq_t (dq_t (dq_t (dq_t (dq_t (dq_t (dq_t (dq_t (dq_t (dq_t (dq_t (dq_t dzX3_readGrotto_0)))))))))))))))))))))
theorem dX3_readGrotto_42 : decode cX3_readGrotto 42 = .ok (.iastore, 1) := dq_h (dq_t (dq_t (dq_t (dq_t (dq_t (dq_t (dq_t (dq_t (dq_t (dq_t (dq_t (dq_t (dq_t (dq_t (dq_t (dq_t (dq_t (dq_t (dq_t (dq_t (dq_t (dq_t dzX3_readGrotto_0))))))))))))))))))))))
theorem dX3_readGrotto_43 : decode cX3_readGrotto 43 = .ok (.aload_n 0, 1) := dq_h (dq_t (dq_t (dq_t (dq_t (dq_t (dq_t (dq_t (dq_t (dq_t (dq_t (dq_t (dq_t (dq_t (dq_t (dq_t (dq_t (dq_t (dq_t (dq_t (dq_t (dq_t (dq_t (dq_t dzX3_readGrotto_0)))))))))))))))))))))))
theorem dzX3_readGrotto_44 : dq_F cX3_readGrotto [(44, .getfield 21, 3), (47, .getfield 124, 3), (50, .iload_n 2, 1), (51, .aload_n 0, 1), (52, .iconst 0, 1), (53, .bipush 11, 2), (55, .invokevirtual 120, 3), (58, .iastore, 1), (59, .aload_n 0, 1), (60, .getfield 21, 3), (63, .getfield 127, 3), (66, .iload_n 2, 1), (67, .aload_n 0, 1), (68, .iconst 0, 1), (69, .bipush 20, 2), (71, .invokevirtual 120, 3), (74, .iastore, 1), (75, .aload_n 0, 1), (76, .getfield 21, 3), (79, .getfield 130, 3), (82, .iload_n 2, 1), (83, .iload_n 1, 1), (84, .bastore, 1), (85, .aload_n 0, 1)] := dq_s 24 44 (by decide +kernel)
theorem dX3_readGrotto_44 : decode cX3_readGrotto 44 = .ok (.getfield 21, 3) := dq_h dzX3_readGrotto_44
theorem dX3_readGrotto_47 : decode cX3_readGrotto 47 = .ok (.getfield 124, 3) := dq_h (dq_t dzX3_readGrotto_44)
theorem dX3_readGrotto_50 : decode cX3_readGrotto 50 = .ok (.iload_n 2, 1) := dq_h (dq_t (dq_t dzX3_readGrotto_44))
theorem dX3_readGrotto_51 : decode cX3_readGrotto 51 = .ok (.aload_n 0, 1) := dq_h (dq_t (dq_t (dq_t dzX3_readGrotto_44)))
theorem dX3_readGrotto_52 : decode cX3_readGrotto 52 = .ok (.iconst 0, 1) := dq_h (dq_t (dq_t (dq_t (dq_t dzX3_readGrotto_44))))
theorem dX3_readGrotto_53 : decode cX3_readGrotto 53 = .ok (.bipush 11, 2) := dq_h (dq_t (dq_t (dq_t (dq_t (dq_t dzX3_readGrotto_44)))))
theorem dX3_readGrotto_55 : decode cX3_readGrotto 55 = .ok (.invokevirtual 120, 3) := dq_h (dq_t (dq_t (dq_t (dq_t (dq_t (dq_t dzX3_readGrotto_44))))))
theorem dX3_readGrotto_58 : decode cX3_readGrotto 58 = .ok (.iastore, 1) := dq_h (dq_t (dq_t (dq_t (dq_t (dq_t (dq_t (dq_t dzX3_readGrotto_44)))))))
theorem dX3_readGrotto_59 : decode cX3_readGrotto 59 = .ok (.aload_n 0, 1) := dq_h (dq_t (dq_t (dq_t (dq_t (dq_t (dq_t (dq_t (dq_t dzX3_readGrotto_44))))))))
theorem dX3_readGrotto_60 : decode cX3_readGrotto 60 = .ok (.getfield 21, 3) := dq_h (dq_t (dq_t (dq_t (dq_t (dq_t (dq_t (dq_t (dq_t (dq_t dzX3_readGrotto_44)))))))))
theorem dX3_readGrotto_63 : decode cX3_readGrotto 63 = .ok (.getfield 127, 3) := dq_h (dq_t (dq_t (dq_t (dq_t (dq_t (dq_t (dq_t (dq_t (dq_t (dq_t dzX3_readGrotto_44))))))))))
theorem dX3_readGrotto_66 : decode cX3_readGrotto 66 = .ok (.iload_n 2, 1) := dq_h (dq_t (dq_t (dq_t (dq_t (dq_t (dq_t (dq_t (dq_t (dq_t (dq_t (dq_t dzX3_readGrotto_44)))))))))))
theorem dX3_readGrotto_67 : decode cX3_readGrotto 67 = .ok (.aload_n 0, 1) := dq_h (dq_t (dq_t (dq_t (dq_t (dq_t (dq_t (dq_t (dq_t (dq_t (dq_t (dq_t (dq_t dzX3_readGrotto_44))))))))))))
theorem dX3_readGrotto_68 : decode cX3_readGrotto 68 = .ok (.iconst 0, 1) := dq_h (dq_t (dq_t (dq_t (dq_t (dq_t (dq_t (dq_t (dq_t (dq_t (dq_t (dq_t (dq_t (dq_t dzX3_readGrotto_44)))))))))))))
theorem dX3_readGrotto_69 : decode cX3_readGrotto 69 = .ok (.bipush 20, 2) := dq_h (dq_t (dq_t (dq_t (dq_t (dq_t (dq_t (dq_t (dq_t (dq_t (dq_t (dq_t (dq_t (dq_t (dq_t dzX3_readGrotto_44))))))))))))))
theorem dX3_readGrotto_71 : decode cX3_readGrotto 71 = .ok (.invokevirtual 120, 3) := dq_h (dq_t (dq_t (dq_t (dq_t (dq_t (dq_t (dq_t (dq_t (dq_t (dq_t (dq_t (dq_t (dq_t (dq_t (dq_t dzX3_readGrotto_44)))))))))))))))
theorem dX3_readGrotto_74 : decode cX3_readGrotto 74 = .ok (.iastore, 1) := dq_h (dq_t (dq_t (dq_t (dq_t (dq_t (dq_t (dq_t (dq_t (dq_t (dq_t (dq_t (dq_t (dq_t (dq_t (dq_t (dq_t dzX3_readGrotto_44))))))))))))))))
theorem dX3_readGrotto_75 : decode cX3_readGrotto 75 = .ok (.aload_n 0, 1) := dq_h (dq_t (dq_t (dq_t (dq_t (dq_t (dq_t (dq_t (dq_t (dq_t (dq_t (dq_t (dq_t (dq_t (dq_t (dq_t (dq_t (dq_t dzX3_readGrotto_44)))))))))))))))))
theorem dX3_readGrotto_76 : decode cX3_readGrotto 76 = .ok (.getfield 21, 3) := dq_h (dq_t (dq_t (dq_t (dq_t (dq_t (dq_t (dq_t (dq_t (dq_t (dq_t (dq_t (dq_t (dq_t (dq_t (dq_t (dq_t (dq_t (dq_t dzX3_readGrotto_44))))))))))))))))))
theorem dX3_readGrotto_79 : decode cX3_readGrotto 79 = .ok (.getfield 130, 3) := dq_h (dq_t (dq_t (dq_t (dq_t (dq_t (dq_t (dq_t (dq_t (dq_t (dq_t (dq_t (dq_t (dq_t (dq_t (dq_t (dq_t (dq_t (dq_t (dq_t dzX3_readGrotto_44)))))))))))))))))))
theorem dX3_readGrotto_82 : decode cX3_readGrotto 82 = .ok (.iload_n 2, 1) := dq_h (dq_t (dq_t (dq_t (dq_t (dq_t (dq_t (dq_t (dq_t (dq_t (dq_t (dq_t (dq_t (dq_t (dq_t (dq_t (dq_t (dq_t (dq_t (dq_t (dq_t dzX3_readGrotto_44))))))))))))))))))))
theorem dX3_readGrotto_83 : decode cX3_readGrotto 83 = .ok (.iload_n 1, 1) := dq_h (dq_t (dq_t (dq_t (dq_t (dq_t (dq_t (dq_t (dq_t (dq_t (dq_t (dq_t (dq_t (dq_t (dq_t (dq_t (dq_t (dq_t (dq_t (dq_t (dq_t (dq_t dzX3_readGrotto_44)))))))))))))))))))))
theorem dX3_readGrotto_84 : decode cX3_readGrotto 84 = .ok (.bastore, 1) := dq_h (dq_t (dq_t (dq_t (dq_t (dq_t (dq_t (dq_t (dq_t (dq_t (dq_t (dq_t (dq_t (dq_t (dq_t (dq_t (dq_t (dq_t (dq_t (dq_t (dq_t (dq_t (dq_t dzX3_readGrotto_44))))))))))))))))))))))
theorem dX3_readGrotto_85 : decode cX3_readGrotto 85 = .ok (.aload_n 0, 1) := dq_h (dq_t (dq_t (dq_t (dq_t (dq_t (dq_t (dq_t (dq_t (dq_t (dq_t (dq_t (dq_t (dq_t (dq_t (dq_t (dq_t (dq_t (dq_t (dq_t (dq_t (dq_t (dq_t (dq_t dzX3_readGrotto_44)))))))))))))))))))))))
theorem dzX3_readGrotto_86 : dq_F cX3_readGrotto [(86, .getfield 21, 3), (89, .dup, 1), (90, .getfield 113, 3), (93, .iconst 1, 1), (94, .iadd, 1), (95, .putfield 113, 3), (98, .return_, 1)] := dq_s 7 86 (by decide +kernel)
theorem dX3_readGrotto_86 : decode cX3_readGrotto 86 = .ok (.getfield 21, 3) := dq_h dzX3_readGrotto_86
theorem dX3_readGrotto_89 : decode cX3_readGrotto 89 = .ok (.dup, 1) := dq_h (dq_t dzX3_readGrotto_86)
theorem dX3_readGrotto_90 : decode cX3_readGrotto 90 = .ok (.getfield 113, 3) := dq_h (dq_t (dq_t dzX3_readGrotto_86))
theorem dX3_readGrotto_93 : decode cX3_readGrotto 93 = .ok (.iconst 1, 1) := dq_h (dq_t (dq_t (dq_t dzX3_readGrotto_86)))
theorem dX3_readGrotto_94 : decode cX3_readGrotto 94 = .ok (.iadd, 1) := dq_h (dq_t (dq_t (dq_t (dq_t dzX3_readGrotto_86))))
theorem dX3_readGrotto_95 : decode cX3_readGrotto 95 = .ok (.putfield 113, 3) := dq_h (dq_t (dq_t (dq_t (dq_t (dq_t dzX3_readGrotto_86)))))
theorem dX3_readGrotto_98 : decode cX3_readGrotto 98 = .ok (.return_, 1) := dq_h (dq_t (dq_t (dq_t (dq_t (dq_t (dq_t dzX3_readGrotto_86))))))
theorem dzX3_readGuild_0 : dq_F cX3_readGuild [(0, .aload_n 0, 1), (1, .getfield 21, 3), (4, .getfield 133, 3), (7, .istore_n 1, 1), (8, .iload_n 1, 1), (9, .bipush 6, 2), (11, .if_icmp .lt 9, 3), (14, .aload_n 0, 1), (15, .iconst 2, 1), (16, .invokevirtual 60, 3), (19, .return_, 1), (20, .aload_n 0, 1), (21, .getfield 12, 3), (24, .invokevirtual 63, 3), (27, .aload_n 0, 1), (28, .getfield 21, 3), (31, .getfield 136, 3), (34, .iload_n 1, 1), (35, .aload_n 0, 1), (36, .iconst 0, 1), (37, .bipush 9, 2), (39, .invokevirtual 120, 3), (42, .iastore, 1), (43, .aload_n 0, 1)] := dq_s 24 0 (by decide +kernel)
theorem dX3_readGuild_0 : decode cX3_readGuild 0 = .ok (.aload_n 0, 1) := dq_h dzX3_readGuild_0
theorem dX3_readGuild_1 : decode cX3_readGuild 1 = .ok (.getfield 21, 3) := dq_h (dq_t dzX3_readGuild_0)
theorem dX3_readGuild_4 : decode cX3_readGuild 4 = .ok (.getfield 133, 3) := dq_h (dq_t (dq_t dzX3_readGuild_0))
theorem dX3_readGuild_7 : decode cX3_readGuild 7 = .ok (.istore_n 1, 1) := dq_h (dq_t (dq_t (dq_t dzX3_readGuild_0)))
theorem dX3_readGuild_8 : decode cX3_readGuild 8 = .ok (.iload_n 1, 1) := dq_h (dq_t (dq_t (dq_t (dq_t dzX3_readGuild_0))))
theorem dX3_readGuild_9 : decode cX3_readGuild 9 = .ok (.bipush 6, 2) := dq_h (dq_t (dq_t (dq_t (dq_t (dq_t dzX3_readGuild_0)))))
theorem dX3_readGuild_11 : decode cX3_readGuild 11 = .ok (.if_icmp .lt 9, 3) := dq_h (dq_t (dq_t (dq_t (dq_t (dq_t (dq_t dzX3_readGuild_0))))))
theorem dX3_readGuild_14 : decode cX3_readGuild 14 = .ok (.aload_n 0, 1) := dq_h (dq_t (dq_t (dq_t (dq_t (dq_t (dq_t (dq_t dzX3_readGuild_0)))))))
theorem dX3_readGuild_15 : decode cX3_readGuild 15 = .ok (.iconst 2, 1) := dq_h (dq_t (dq_t (dq_t (dq_t (dq_t (dq_t (dq_t (dq_t dzX3_readGuild_0))))))))
theorem dX3_readGuild_16 : decode cX3_readGuild 16 = .ok (.invokevirtual 60, 3) := dq_h (dq_t (dq_t (dq_t (dq_t (dq_t (dq_t (dq_t (dq_t (dq_t dzX3_readGuild_0)))))))))
theorem dX3_readGuild_19 : decode cX3_readGuild 19 = .ok (.return_, 1) := dq_h (dq_t (dq_t (dq_t (dq_t (dq_t (dq_t (dq_t (dq_t (dq_t (dq_t dzX3_readGuild_0))))))))))
theorem dX3_readGuild_20 : decode cX3_readGuild 20 = .ok (.aload_n 0, 1) := dq_h (dq_t (dq_t (dq_t (dq_t (dq_t (dq_t (dq_t (dq_t (dq_t (dq_t (dq_t dzX3_readGuild_0)))))))))))
theorem dX3_readGuild_21 : decode cX3_readGuild 21 = .ok (.getfield 12, 3) := dq_h (dq_t (dq_t (dq_t (dq_t (dq_t (dq_t (dq_t (dq_t (dq_t (dq_t (dq_t (dq_t dzX3_readGuild_0))))))))))))
theorem dX3_readGuild_24 : decode cX3_readGuild 24 = .ok (.invokevirtual 63, 3) := dq_h (dq_t (dq_t (dq_t (dq_t (dq_t (dq_t (dq_t (dq_t (dq_t (dq_t (dq_t (dq_t (dq_t dzX3_readGuild_0)))))))))))))
theorem dX3_readGuild_27 : decode cX3_readGuild 27 = .ok (.aload_n 0, 1) := dq_h (dq_t (dq_t (dq_t (dq_t (dq_t (dq_t (dq_t (dq_t (dq_t (dq_t (dq_t (dq_t (dq_t (dq_t dzX3_readGuild_0))))))))))))))
theorem dX3_readGuild_28 : decode cX3_readGuild 28 = .ok (.getfield 21, 3) := dq_h (dq_t (dq_t (dq_t (dq_t (dq_t (dq_t (dq_t (dq_t (dq_t (dq_t (dq_t (dq_t (dq_t (dq_t (dq_t dzX3_readGuild_0)))))))))))))))
theorem dX3_readGuild_31 : decode cX3_readGuild 31 = .ok (.getfield 136, 3) := dq_h (dq_t (dq_t (dq_t (dq_t (dq_t (dq_t (dq_t (dq_t (dq_t (dq_t (dq_t (dq_t (dq_t (dq_t (dq_t (dq_t dzX3_readGuild_0))))))))))))))))
theorem dX3_readGuild_34 : decode cX3_readGuild 34 = .ok (.iload_n 1, 1) := dq_h (dq_t (dq_t (dq_t (dq_t (dq_t (dq_t (dq_t (dq_t (dq_t (dq_t (dq_t (dq_t (dq_t (dq_t (dq_t (dq_t (dq_t dzX3_readGuild_0)))))))))))))))))
theorem dX3_readGuild_35 : decode cX3_readGuild 35 = .ok (.aload_n 0, 1) := dq_h (dq_t (dq_t (dq_t (dq_t (dq_t (dq_t (dq_t (dq_t (dq_t (dq_t (dq_t (dq_t (dq_t (dq_t (dq_t (dq_t (dq_t (dq_t dzX3_readGuild_0))))))))))))))))))
theorem dX3_readGuild_36 : decode cX3_readGuild 36 = .ok (.iconst 0, 1) := dq_h (dq_t (dq_t (dq_t (dq_t (dq_t (dq_t (dq_t (dq_t (dq_t (dq_t (dq_t (dq_t (dq_t (dq_t (dq_t (dq_t (dq_t (dq_t (dq_t dzX3_readGuild_0)))))))))))))))))))
theorem dX3_readGuild_37 : decode cX3_readGuild 37 = .ok (.bipush 9, 2) := dq_h (dq_t (dq_t (dq_t (dq_t (dq_t (dq_t (dq_t (dq_t (dq_t (dq_t (dq_t (dq_t (dq_t (dq_t (dq_t (dq_t (dq_t (dq_t (dq_t (dq_t dzX3_readGuild_0))))))))))))))))))))
theorem dX3_readGuild_39 : decode cX3_readGuild 39 = .ok (.invokevirtual 120, 3) := dq_h (dq_t (dq_t (dq_t (dq_t (dq_t (dq_t (dq_t (dq_t (dq_t (dq_t (dq_t (dq_t (dq_t (dq_t (dq_t (dq_t (dq_t (dq_t (dq_t (dq_t (dq_t dzX3_readGuild_0)))))))))))))))))))))
theorem dX3_readGuild_42 : decode cX3_readGuild 42 = .ok (.iastore, 1) := dq_h (dq_t (dq_t (dq_t (dq_t (dq_t (dq_t (dq_t (dq_t (dq_t (dq_t (dq_t (dq_t (dq_t (dq_t (dq_t (dq_t (dq_t (dq_t (dq_t (dq_t (dq_t (dq_t dzX3_readGuild_0))))))))))))))))))))))
theorem dX3_readGuild_43 : decode cX3_readGuild 43 = .ok (.aload_n 0, 1) := dq_h (dq_t (dq_t (dq_t (dq_t (dq_t (dq_t (dq_t (dq_t (dq_t (dq_t (dq_t (dq_t (dq_t (dq_t (dq_t (dq_t (dq_t (dq_t (dq_t (dq_t (dq_t (dq_t (dq_t dzX3_readGuild_0)))))))))))))))))))))))
theorem dzX3_readGuild_44 : dq_F cX3_readGuild [(44, .getfield 21, 3), (47, .getfield 139, 3), (50, .iload_n 1, 1), (51, .aload_n 0, 1), (52, .iconst 0, 1), (53, .bipush 99, 2), (55, .invokevirtual 120, 3), (58, .iastore, 1), (59, .aload_n 0, 1), (60, .getfield 21, 3), (63, .getfield 142, 3), (66, .iload_n 1, 1), (67, .aload_n 0, 1), (68, .iconst 0, 1), (69, .sipush 999, 3), (72, .invokevirtual 120, 3), (75, .iastore, 1), (76, .aload_n 0, 1), (77, .getfield 21, 3), (80, .getfield 145, 3), (83, .iload_n 1, 1), (84, .iconst (-1), 1), (85, .iastore, 1), (86, .aload_n 0, 1)] := dq_s 24 44 (by decide +kernel)
theorem dX3_readGuild_44 : decode cX3_readGuild 44 = .ok (.getfield 21, 3) := dq_h dzX3_readGuild_44
theorem dX3_readGuild_47 : decode cX3_readGuild 47 = .ok (.getfield 139, 3) := dq_h (dq_t dzX3_readGuild_44)
theorem dX3_readGuild_50 : decode cX3_readGuild 50 = .ok (.iload_n 1, 1) := dq_h (dq_t (dq_t dzX3_readGuild_44))
theorem dX3_readGuild_51 : decode cX3_readGuild 51 = .ok (.aload_n 0, 1) := dq_h (dq_t (dq_t (dq_t dzX3_readGuild_44)))
theorem dX3_readGuild_52 : decode cX3_readGuild 52 = .ok (.iconst 0, 1) := dq_h (dq_t (dq_t (dq_t (dq_t dzX3_readGuild_44))))
theorem dX3_readGuild_53 : decode cX3_readGuild 53 = .ok (.bipush 99, 2) := dq_h (dq_t (dq_t (dq_t (dq_t (dq_t dzX3_readGuild_44)))))
theorem dX3_readGuild_55 : decode cX3_readGuild 55 = .ok (.invokevirtual 120, 3) := dq_h (dq_t (dq_t (dq_t (dq_t (dq_t (dq_t dzX3_readGuild_44))))))
theorem dX3_readGuild_58 : decode cX3_readGuild 58 = .ok (.iastore, 1) := dq_h (dq_t (dq_t (dq_t (dq_t (dq_t (dq_t (dq_t dzX3_readGuild_44)))))))
theorem dX3_readGuild_59 : decode cX3_readGuild 59 = .ok (.aload_n 0, 1) := dq_h (dq_t (dq_t (dq_t (dq_t (dq_t (dq_t (dq_t (dq_t dzX3_readGuild_44))))))))
theorem dX3_readGuild_60 : decode cX3_readGuild 60 = .ok (.getfield 21, 3) := dq_h (dq_t (dq_t (dq_t (dq_t (dq_t (dq_t (dq_t (dq_t (dq_t dzX3_readGuild_44)))))))))
theorem dX3_readGuild_63 : decode cX3_readGuild 63 = .ok (.getfield 142, 3) := dq_h (dq_t (dq_t (dq_t (dq_t (dq_t (dq_t (dq_t (dq_t (dq_t (dq_t dzX3_readGuild_44))))))))))
theorem dX3_readGuild_66 : decode cX3_readGuild 66 = .ok (.iload_n 1, 1) := dq_h (dq_t (dq_t (dq_t (dq_t (dq_t (dq_t (dq_t (dq_t (dq_t (dq_t (dq_t dzX3_readGuild_44)))))))))))
theorem dX3_readGuild_67 : decode cX3_readGuild 67 = .ok (.aload_n 0, 1) := dq_h (dq_t (dq_t (dq_t (dq_t (dq_t (dq_t (dq_t (dq_t (dq_t (dq_t (dq_t (dq_t dzX3_readGuild_44))))))))))))
theorem dX3_readGuild_68 : decode cX3_readGuild 68 = .ok (.iconst 0, 1) := dq_h (dq_t (dq_t (dq_t (dq_t (dq_t (dq_t (dq_t (dq_t (dq_t (dq_t (dq_t (dq_t (dq_t dzX3_readGuild_44)))))))))))))
theorem dX3_readGuild_69 : decode cX3_readGuild 69 = .ok (.sipush 999, 3) := dq_h (dq_t (dq_t (dq_t (dq_t (dq_t (dq_t (dq_t (dq_t (dq_t (dq_t (dq_t (dq_t (dq_t (dq_t dzX3_readGuild_44))))))))))))))
theorem dX3_readGuild_72 : decode cX3_readGuild 72 = .ok (.invokevirtual 120, 3) := dq_h (dq_t (dq_t (dq_t (dq_t (dq_t (dq_t (dq_t (dq_t (dq_t (dq_t (dq_t (dq_t (dq_t (dq_t (dq_t dzX3_readGuild_44)))))))))))))))
theorem dX3_readGuild_75 : decode cX3_readGuild 75 = .ok (.iastore, 1) := dq_h (dq_t (dq_t (dq_t (dq_t (dq_t (dq_t (dq_t (dq_t (dq_t (dq_t (dq_t (dq_t (dq_t (dq_t (dq_t (dq_t dzX3_readGuild_44))))))))))))))))
theorem dX3_readGuild_76 : decode cX3_readGuild 76 = .ok (.aload_n 0, 1) := dq_h (dq_t (dq_t (dq_t (dq_t (dq_t (dq_t (dq_t (dq_t (dq_t (dq_t (dq_t (dq_t (dq_t (dq_t (dq_t (dq_t (dq_t dzX3_readGuild_44)))))))))))))))))
theorem dX3_readGuild_77 : decode cX3_readGuild 77 = .ok (.getfield 21, 3) := dq_h (dq_t (dq_t (dq_t (dq_t (dq_t (dq_t (dq_t (dq_t (dq_t (dq_t (dq_t (dq_t (dq_t (dq_t (dq_t (dq_t (dq_t (dq_t dzX3_readGuild_44))))))))))))))))))
theorem dX3_readGuild_80 : decode cX3_readGuild 80 = .ok (.getfield 145, 3) := dq_h (dq_t (dq_t (dq_t (dq_t (dq_t (dq_t (dq_t (dq_t (dq_t (dq_t (dq_t (dq_t (dq_t (dq_t (dq_t (dq_t (dq_t (dq_t (dq_t dzX3_readGuild_44)))))))))))))))))))
theorem dX3_readGuild_83 : decode cX3_readGuild 83 = .ok (.iload_n 1, 1) := dq_h (dq_t (dq_t (dq_t (dq_t (dq_t (dq_t (dq_t (dq_t (dq_t (dq_t (dq_t (dq_t (dq_t (dq_t (dq_t (dq_t (dq_t (dq_t (dq_t (dq_t dzX3_readGuild_44))))))))))))))))))))
theorem dX3_readGuild_84 : decode cX3_readGuild 84 = .ok (.iconst (-1), 1) := dq_h (dq_t (dq_t (dq_t (dq_t (dq_t (dq_t (dq_t (dq_t (dq_t (dq_t (dq_t (dq_t (dq_t (dq_t (dq_t (dq_t (dq_t (dq_t (dq_t (dq_t (dq_t dzX3_readGuild_44)))))))))))))))))))))
theorem dX3_readGuild_85 : decode cX3_readGuild 85 = .ok (.iastore, 1) := dq_h (dq_t (dq_t (dq_t (dq_t (dq_t (dq_t (dq_t (dq_t (dq_t (dq_t (dq_t (dq_t (dq_t (dq_t (dq_t (dq_t (dq_t (dq_t (dq_t (dq_t (dq_t (dq_t dzX3_readGuild_44))))))))))))))))))))))
theorem dX3_readGuild_86 : decode cX3_readGuild 86 = .ok (.aload_n 0, 1) := dq_h (dq_t (dq_t (dq_t (dq_t (dq_t (dq_t (dq_t (dq_t (dq_t (dq_t (dq_t (dq_t (dq_t (dq_t (dq_t (dq_t (dq_t (dq_t (dq_t (dq_t (dq_t (dq_t (dq_t dzX3_readGuild_44)))))))))))))))))))))))
theorem dzX3_readGuild_87 : dq_F cX3_readGuild [(87, .invokevirtual 39, 3), (90, .ifCond .eq 35, 3), (93, .aload_n 0, 1), (94, .getfield 12, 3), (97, .ldc 148, 2), (99, .invokevirtual 75, 3), (102, .ifCond .eq 23, 3), (105, .aload_n 0, 1), (106, .getfield 12, 3), (109, .invokevirtual 63, 3), (112, .aload_n 0, 1), (113, .getfield 21, 3), (116, .getfield 145, 3), (119, .iload_n 1, 1), (120, .aload_n 0, 1), (121, .invokevirtual 150, 3), (124, .iastore, 1), (125, .aload_n 0, 1), (126, .getfield 21, 3), (129, .dup, 1), (130, .getfield 133, 3), (133, .iconst 1, 1), (134, .iadd, 1), (135, .putfield 133, 3)] := dq_s 24 87 (by decide +kernel)
theorem dX3_readGuild_87 : decode cX3_readGuild 87 = .ok (.invokevirtual 39, 3) := dq_h dzX3_readGuild_87
theorem dX3_readGuild_90 : decode cX3_readGuild 90 = .ok (.ifCond .eq 35, 3) := dq_h (dq_t dzX3_readGuild_87)
theorem dX3_readGuild_93 : decode cX3_readGuild 93 = .ok (.aload_n 0, 1) := dq_h (dq_t (dq_t dzX3_readGuild_87))
theorem dX3_readGuild_94 : decode cX3_readGuild 94 = .ok (.getfield 12, 3) := dq_h (dq_t (dq_t (dq_t dzX3_readGuild_87)))
theorem dX3_readGuild_97 : decode cX3_readGuild 97 = .ok (.ldc 148, 2) := dq_h (dq_t (dq_t (dq_t (dq_t dzX3_readGuild_87))))
theorem dX3_readGuild_99 : decode cX3_readGuild 99 = .ok (.invokevirtual 75, 3) := dq_h (dq_t (dq_t (dq_t (dq_t (dq_t dzX3_readGuild_87)))))
theorem dX3_readGuild_102 : decode cX3_readGuild 102 = .ok (.ifCond .eq 23, 3) := dq_h (dq_t (dq_t (dq_t (dq_t (dq_t (dq_t dzX3_readGuild_87))))))
theorem dX3_readGuild_105 : decode cX3_readGuild 105 = .ok (.aload_n 0, 1) := dq_h (dq_t (dq_t (dq_t (dq_t (dq_t (dq_t (dq_t dzX3_readGuild_87)))))))
theorem dX3_readGuild_106 : decode cX3_readGuild 106 = .ok (.getfield 12, 3) := dq_h (dq_t (dq_t (dq_t (dq_t (dq_t (dq_t (dq_t (dq_t dzX3_readGuild_87))))))))
theorem dX3_readGuild_109 : decode cX3_readGuild 109 = .ok (.invokevirtual 63, 3) := dq_h (dq_t (dq_t (dq_t (dq_t (dq_t (dq_t (dq_t (dq_t (dq_t dzX3_readGuild_87)))))))))
theorem dX3_readGuild_112 : decode cX3_readGuild 112 = .ok (.aload_n 0, 1) := dq_h (dq_t (dq_t (dq_t (dq_t (dq_t (dq_t (dq_t (dq_t (dq_t (dq_t dzX3_readGuild_87))))))))))
theorem dX3_readGuild_113 : decode cX3_readGuild 113 = .ok (.getfield 21, 3) := dq_h (dq_t (dq_t (dq_t (dq_t (dq_t (dq_t (dq_t (dq_t (dq_t (dq_t (dq_t dzX3_readGuild_87)))))))))))
theorem dX3_readGuild_116 : decode cX3_readGuild 116 = .ok (.getfield 145, 3) := dq_h (dq_t (dq_t (dq_t (dq_t (dq_t (dq_t (dq_t (dq_t (dq_t (dq_t (dq_t (dq_t dzX3_readGuild_87))))))))))))
theorem dX3_readGuild_119 : decode cX3_readGuild 119 = .ok (.iload_n 1, 1) := dq_h (dq_t (dq_t (dq_t (dq_t (dq_t (dq_t (dq_t (dq_t (dq_t (dq_t (dq_t (dq_t (dq_t dzX3_readGuild_87)))))))))))))
theorem dX3_readGuild_120 : decode cX3_readGuild 120 = .ok (.aload_n 0, 1) := dq_h (dq_t (dq_t (dq_t (dq_t (dq_t (dq_t (dq_t (dq_t (dq_t (dq_t (dq_t (dq_t (dq_t (dq_t dzX3_readGuild_87))))))))))))))
theorem dX3_readGuild_121 : decode cX3_readGuild 121 = .ok (.invokevirtual 150, 3) := dq_h (dq_t (dq_t (dq_t (dq_t (dq_t (dq_t (dq_t (dq_t (dq_t (dq_t (dq_t (dq_t (dq_t (dq_t (dq_t dzX3_readGuild_87)))))))))))))))
theorem dX3_readGuild_124 : decode cX3_readGuild 124 = .ok (.iastore, 1) := dq_h (dq_t (dq_t (dq_t (dq_t (dq_t (dq_t (dq_t (dq_t (dq_t (dq_t (dq_t (dq_t (dq_t (dq_t (dq_t (dq_t dzX3_readGuild_87))))))))))))))))
theorem dX3_readGuild_125 : decode cX3_readGuild 125 = .ok (.aload_n 0, 1) := dq_h (dq_t (dq_t (dq_t (dq_t (dq_t (dq_t (dq_t (dq_t (dq_t (dq_t (dq_t (dq_t (dq_t (dq_t (dq_t (dq_t (dq_t dzX3_readGuild_87)))))))))))))))))
theorem dX3_readGuild_126 : decode cX3_readGuild 126 = .ok (.getfield 21, 3) := dq_h (dq_t (dq_t (dq_t (dq_t (dq_t (dq_t (dq_t (dq_t (dq_t (dq_t (dq_t (dq_t (dq_t (dq_t (dq_t (dq_t (dq_t (dq_t dzX3_readGuild_87))))))))))))))))))
theorem dX3_readGuild_129 : decode cX3_readGuild 129 = .ok (.dup, 1) := dq_h (dq_t (dq_t (dq_t (dq_t (dq_t (dq_t (dq_t (dq_t (dq_t (dq_t (dq_t (dq_t (dq_t (dq_t (dq_t (dq_t (dq_t (dq_t (dq_t dzX3_readGuild_87)))))))))))))))))))
theorem dX3_readGuild_130 : decode cX3_readGuild 130 = .ok (.getfield 133, 3) := dq_h (dq_t (dq_t (dq_t (dq_t (dq_t (dq_t (dq_t (dq_t (dq_t (dq_t (dq_t (dq_t (dq_t (dq_t (dq_t (dq_t (dq_t (dq_t (dq_t (dq_t dzX3_readGuild_87))))))))))))))))))))
theorem dX3_readGuild_133 : decode cX3_readGuild 133 = .ok (.iconst 1, 1) := dq_h (dq_t (dq_t (dq_t (dq_t (dq_t (dq_t (dq_t (dq_t (dq_t (dq_t (dq_t (dq_t (dq_t (dq_t (dq_t (dq_t (dq_t (dq_t (dq_t (dq_t (dq_t dzX3_readGuild_87)))))))))))))))))))))
theorem dX3_readGuild_134 : decode cX3_readGuild 134 = .ok (.iadd, 1) := dq_h (dq_t (dq_t (dq_t (dq_t (dq_t (dq_t (dq_t (dq_t (dq_t (dq_t (dq_t (dq_t (dq_t (dq_t (dq_t (dq_t (dq_t (dq_t (dq_t (dq_t (dq_t (dq_t dzX3_readGuild_87))))))))))))))))))))))
theorem dX3_readGuild_135 : decode cX3_readGuild 135 = .ok (.putfield 133, 3) := dq_h (dq_t (dq_t (dq_t (dq_t (dq_t (dq_t (dq_t (dq_t (dq_t (dq_t (dq_t (dq_t (dq_t (dq_t (dq_t (dq_t (dq_t (dq_t (dq_t (dq_t (dq_t (dq_t (dq_t dzX3_readGuild_87)))))))))))))))))))))))
theorem dX3_readGuild_138 : decode cX3_readGuild 138 = .ok (.return_, 1) := by decide +kernel
theorem dzX3_readHired_0 : dq_F cX3_readHired [(0, .aload_n 0, 1), (1, .getfield 12, 3), (4, .getfield 43, 3), (7, .iconst 2, 1), (8, .if_icmp .ne 63, 3), (11, .aload_n 0, 1), (12, .getfield 12, 3), (15, .getfield 66, 3), (18, .sipush 9999, 3), (21, .if_icmp .gt 50, 3), (24, .aload_n 0, 1), (25, .getfield 21, 3), (28, .aload_n 0, 1), (29, .getfield 12, 3), (32, .getfield 66, 3), (35, .invokevirtual 154, 3), (38, .ifCond .ne 11, 3), (41, .aload_n 0, 1), (42, .iconst 3, 1), (43, .invokevirtual 60, 3), (46, .goto 25, 3), (49, .aload_n 0, 1), (50, .getfield 21, 3), (53, .aload_n 0, 1)] := dq_s 24 0 (by decide +kernel)
theorem dX3_readHired_0 : decode cX3_readHired 0 = .ok (.aload_n 0, 1) := dq_h dzX3_readHired_0
theorem dX3_readHired_1 : decode cX3_readHired 1 = .ok (.getfield 12, 3) := dq_h (dq_t dzX3_readHired_0)
theorem dX3_readHired_4 : decode cX3_readHired 4 = .ok (.getfield 43, 3) := dq_h (dq_t (dq_t dzX3_readHired_0))
theorem dX3_readHired_7 : decode cX3_readHired 7 = .ok (.iconst 2, 1) := dq_h (dq_t (dq_t (dq_t dzX3_readHired_0)))
theorem dX3_readHired_8 : decode cX3_readHired 8 = .ok (.if_icmp .ne 63, 3) := dq_h (dq_t (dq_t (dq_t (dq_t dzX3_readHired_0))))
theorem dX3_readHired_11 : decode cX3_readHired 11 = .ok (.aload_n 0, 1) := dq_h (dq_t (dq_t (dq_t (dq_t (dq_t dzX3_readHired_0)))))
theorem dX3_readHired_12 : decode cX3_readHired 12 = .ok (.getfield 12, 3) := dq_h (dq_t (dq_t (dq_t (dq_t (dq_t (dq_t dzX3_readHired_0))))))
theorem dX3_readHired_15 : decode cX3_readHired 15 = .ok (.getfield 66, 3) := dq_h (dq_t (dq_t (dq_t (dq_t (dq_t (dq_t (dq_t dzX3_readHired_0)))))))
theorem dX3_readHired_18 : decode cX3_readHired 18 = .ok (.sipush 9999, 3) := dq_h (dq_t (dq_t (dq_t (dq_t (dq_t (dq_t (dq_t (dq_t dzX3_readHired_0))))))))
theorem dX3_readHired_21 : decode cX3_readHired 21 = .ok (.if_icmp .gt 50, 3) := dq_h (dq_t (dq_t (dq_t (dq_t (dq_t (dq_t (dq_t (dq_t (dq_t dzX3_readHired_0)))))))))
theorem dX3_readHired_24 : decode cX3_readHired 24 = .ok (.aload_n 0, 1) := dq_h (dq_t (dq_t (dq_t (dq_t (dq_t (dq_t (dq_t (dq_t (dq_t (dq_t dzX3_readHired_0))))))))))
theorem dX3_readHired_25 : decode cX3_readHired 25 = .ok (.getfield 21, 3) := dq_h (dq_t (dq_t (dq_t (dq_t (dq_t (dq_t (dq_t (dq_t (dq_t (dq_t (dq_t dzX3_readHired_0)))))))))))
theorem dX3_readHired_28 : decode cX3_readHired 28 = .ok (.aload_n 0, 1) := dq_h (dq_t (dq_t (dq_t (dq_t (dq_t (dq_t (dq_t (dq_t (dq_t (dq_t (dq_t (dq_t dzX3_readHired_0))))))))))))
theorem dX3_readHired_29 : decode cX3_readHired 29 = .ok (.getfield 12, 3) := dq_h (dq_t (dq_t (dq_t (dq_t (dq_t (dq_t (dq_t (dq_t (dq_t (dq_t (dq_t (dq_t (dq_t dzX3_readHired_0)))))))))))))
theorem dX3_readHired_32 : decode cX3_readHired 32 = .ok (.getfield 66, 3) := dq_h (dq_t (dq_t (dq_t (dq_t (dq_t (dq_t (dq_t (dq_t (dq_t (dq_t (dq_t (dq_t (dq_t (dq_t dzX3_readHired_0))))))))))))))
theorem dX3_readHired_35 : decode cX3_readHired 35 = .ok (.invokevirtual 154, 3) := dq_h (dq_t (dq_t (dq_t (dq_t (dq_t (dq_t (dq_t (dq_t (dq_t (dq_t (dq_t (dq_t (dq_t (dq_t (dq_t dzX3_readHired_0)))))))))))))))
theorem dX3_readHired_38 : decode cX3_readHired 38 = .ok (.ifCond .ne 11, 3) := dq_h (dq_t (dq_t (dq_t (dq_t (dq_t (dq_t (dq_t (dq_t (dq_t (dq_t (dq_t (dq_t (dq_t (dq_t (dq_t (dq_t dzX3_readHired_0))))))))))))))))
theorem dX3_readHired_41 : decode cX3_readHired 41 = .ok (.aload_n 0, 1) := dq_h (dq_t (dq_t (dq_t (dq_t (dq_t (dq_t (dq_t (dq_t (dq_t (dq_t (dq_t (dq_t (dq_t (dq_t (dq_t (dq_t (dq_t dzX3_readHired_0)))))))))))))))))
theorem dX3_readHired_42 : decode cX3_readHired 42 = .ok (.iconst 3, 1) := dq_h (dq_t (dq_t (dq_t (dq_t (dq_t (dq_t (dq_t (dq_t (dq_t (dq_t (dq_t (dq_t (dq_t (dq_t (dq_t (dq_t (dq_t (dq_t dzX3_readHired_0))))))))))))))))))
theorem dX3_readHired_43 : decode cX3_readHired 43 = .ok (.invokevirtual 60, 3) := dq_h (dq_t (dq_t (dq_t (dq_t (dq_t (dq_t (dq_t (dq_t (dq_t (dq_t (dq_t (dq_t (dq_t (dq_t (dq_t (dq_t (dq_t (dq_t (dq_t dzX3_readHired_0)))))))))))))))))))
theorem dX3_readHired_46 : decode cX3_readHired 46 = .ok (.goto 25, 3) := dq_h (dq_t (dq_t (dq_t (dq_t (dq_t (dq_t (dq_t (dq_t (dq_t (dq_t (dq_t (dq_t (dq_t (dq_t (dq_t (dq_t (dq_t (dq_t (dq_t (dq_t dzX3_readHired_0))))))))))))))))))))
theorem dX3_readHired_49 : decode cX3_readHired 49 = .ok (.aload_n 0, 1) := dq_h (dq_t (dq_t (dq_t (dq_t (dq_t (dq_t (dq_t (dq_t (dq_t (dq_t (dq_t (dq_t (dq_t (dq_t (dq_t (dq_t (dq_t (dq_t (dq_t (dq_t (dq_t dzX3_readHired_0)))))))))))))))))))))
theorem dX3_readHired_50 : decode cX3_readHired 50 = .ok (.getfield 21, 3) := dq_h (dq_t (dq_t (dq_t (dq_t (dq_t (dq_t (dq_t (dq_t (dq_t (dq_t (dq_t (dq_t (dq_t (dq_t (dq_t (dq_t (dq_t (dq_t (dq_t (dq_t (dq_t (dq_t dzX3_readHired_0))))))))))))))))))))))
theorem dX3_readHired_53 : decode cX3_readHired 53 = .ok (.aload_n 0, 1) := dq_h (dq_t (dq_t (dq_t (dq_t (dq_t (dq_t (dq_t (dq_t (dq_t (dq_t (dq_t (dq_t (dq_t (dq_t (dq_t (dq_t (dq_t (dq_t (dq_t (dq_t (dq_t (dq_t (dq_t dzX3_readHired_0)))))))))))))))))))))))
theorem dzX3_readHired_54 : dq_F cX3_readHired [(54, .getfield 12, 3), (57, .getfield 66, 3), (60, .invokevirtual 158, 3), (63, .ifCond .eq 8, 3), (66, .aload_n 0, 1), (67, .iconst 4, 1), (68, .invokevirtual 60, 3), (71, .aload_n 0, 1), (72, .iconst 0, 1), (73, .sipush 9999, 3), (76, .invokevirtual 120, 3), (79, .ireturn, 1)] := dq_s 12 54 (by decide +kernel)
theorem dX3_readHired_54 : decode cX3_readHired 54 = .ok (.getfield 12, 3) := dq_h dzX3_readHired_54
theorem dX3_readHired_57 : decode cX3_readHired 57 = .ok (.getfield 66, 3) := dq_h (dq_t dzX3_readHired_54)
theorem dX3_readHired_60 : decode cX3_readHired 60 = .ok (.invokevirtual 158, 3) := dq_h (dq_t (dq_t dzX3_readHired_54))
theorem dX3_readHired_63 : decode cX3_readHired 63 = .ok (.ifCond .eq 8, 3) := dq_h (dq_t (dq_t (dq_t dzX3_readHired_54)))
theorem dX3_readHired_66 : decode cX3_readHired 66 = .ok (.aload_n 0, 1) := dq_h (dq_t (dq_t (dq_t (dq_t dzX3_readHired_54))))
theorem dX3_readHired_67 : decode cX3_readHired 67 = .ok (.iconst 4, 1) := dq_h (dq_t (dq_t (dq_t (dq_t (dq_t dzX3_readHired_54)))))
theorem dX3_readHired_68 : decode cX3_readHired 68 = .ok (.invokevirtual 60, 3) := dq_h (dq_t (dq_t (dq_t (dq_t (dq_t (dq_t dzX3_readHired_54))))))
theorem dX3_readHired_71 : decode cX3_readHired 71 = .ok (.aload_n 0, 1) := dq_h (dq_t (dq_t (dq_t (dq_t (dq_t (dq_t (dq_t dzX3_readHired_54)))))))
theorem dX3_readHired_72 : decode cX3_readHired 72 = .ok (.iconst 0, 1) := dq_h (dq_t (dq_t (dq_t (dq_t (dq_t (dq_t (dq_t (dq_t dzX3_readHired_54))))))))
theorem dX3_readHired_73 : decode cX3_readHired 73 = .ok (.sipush 9999, 3) := dq_h (dq_t (dq_t (dq_t (dq_t (dq_t (dq_t (dq_t (dq_t (dq_t dzX3_readHired_54)))))))))
theorem dX3_readHired_76 : decode cX3_readHired 76 = .ok (.invokevirtual 120, 3) := dq_h (dq_t (dq_t (dq_t (dq_t (dq_t (dq_t (dq_t (dq_t (dq_t (dq_t dzX3_readHired_54))))))))))
theorem dX3_readHired_79 : decode cX3_readHired 79 = .ok (.ireturn, 1) := dq_h (dq_t (dq_t (dq_t (dq_t (dq_t (dq_t (dq_t (dq_t (dq_t (dq_t (dq_t dzX3_readHired_54)))))))))))
theorem dzX3_readWet_0 : dq_F cX3_readWet [(0, .aload_n 0, 1), (1, .getfield 21, 3), (4, .getfield 161, 3), (7, .ifCond .le 9, 3), (10, .aload_n 0, 1), (11, .iconst 5, 1), (12, .invokevirtual 60, 3), (15, .return_, 1), (16, .aload_n 0, 1), (17, .getfield 12, 3), (20, .invokevirtual 63, 3), (23, .aload_n 0, 1), (24, .getfield 21, 3), (27, .getfield 164, 3), (30, .iconst 0, 1), (31, .aload_n 0, 1), (32, .iconst 0, 1), (33, .bipush 9, 2), (35, .invokevirtual 120, 3), (38, .iastore, 1), (39, .aload_n 0, 1), (40, .getfield 21, 3), (43, .iconst 1, 1), (44, .putfield 161, 3)] := dq_s 24 0 (by decide +kernel)
theorem dX3_readWet_0 : decode cX3_readWet 0 = .ok (.aload_n 0, 1) := dq_h dzX3_readWet_0
theorem dX3_readWet_1 : decode cX3_readWet 1 = .ok (.getfield 21, 3) := dq_h (dq_t dzX3_readWet_0)
theorem dX3_readWet_4 : decode cX3_readWet 4 = .ok (.getfield 161, 3) := dq_h (dq_t (dq_t dzX3_readWet_0))
theorem dX3_readWet_7 : decode cX3_readWet 7 = .ok (.ifCond .le 9, 3) := dq_h (dq_t (dq_t (dq_t dzX3_readWet_0)))
theorem dX3_readWet_10 : decode cX3_readWet 10 = .ok (.aload_n 0, 1) := dq_h (dq_t (dq_t (dq_t (dq_t dzX3_readWet_0))))
theorem dX3_readWet_11 : decode cX3_readWet 11 = .ok (.iconst 5, 1) := dq_h (dq_t (dq_t (dq_t (dq_t (dq_t dzX3_readWet_0)))))
theorem dX3_readWet_12 : decode cX3_readWet 12 = .ok (.invokevirtual 60, 3) := dq_h (dq_t (dq_t (dq_t (dq_t (dq_t (dq_t dzX3_readWet_0))))))
theorem dX3_readWet_15 : decode cX3_readWet 15 = .ok (.return_, 1) := dq_h (dq_t (dq_t (dq_t (dq_t (dq_t (dq_t (dq_t dzX3_readWet_0)))))))
theorem dX3_readWet_16 : decode cX3_readWet 16 = .ok (.aload_n 0, 1) := dq_h (dq_t (dq_t (dq_t (dq_t (dq_t (dq_t (dq_t (dq_t dzX3_readWet_0))))))))
theorem dX3_readWet_17 : decode cX3_readWet 17 = .ok (.getfield 12, 3) := dq_h (dq_t (dq_t (dq_t (dq_t (dq_t (dq_t (dq_t (dq_t (dq_t dzX3_readWet_0)))))))))
theorem dX3_readWet_20 : decode cX3_readWet 20 = .ok (.invokevirtual 63, 3) := dq_h (dq_t (dq_t (dq_t (dq_t (dq_t (dq_t (dq_t (dq_t (dq_t (dq_t dzX3_readWet_0))))))))))
theorem dX3_readWet_23 : decode cX3_readWet 23 = .ok (.aload_n 0, 1) := dq_h (dq_t (dq_t (dq_t (dq_t (dq_t (dq_t (dq_t (dq_t (dq_t (dq_t (dq_t dzX3_readWet_0)))))))))))
theorem dX3_readWet_24 : decode cX3_readWet 24 = .ok (.getfield 21, 3) := dq_h (dq_t (dq_t (dq_t (dq_t (dq_t (dq_t (dq_t (dq_t (dq_t (dq_t (dq_t (dq_t dzX3_readWet_0))))))))))))
theorem dX3_readWet_27 : decode cX3_readWet 27 = .ok (.getfield 164, 3) := dq_h (dq_t (dq_t (dq_t (dq_t (dq_t (dq_t (dq_t (dq_t (dq_t (dq_t (dq_t (dq_t (dq_t dzX3_readWet_0)))))))))))))
theorem dX3_readWet_30 : decode cX3_readWet 30 = .ok (.iconst 0, 1) := dq_h (dq_t (dq_t (dq_t (dq_t (dq_t (dq_t (dq_t (dq_t (dq_t (dq_t (dq_t (dq_t (dq_t (dq_t dzX3_readWet_0))))))))))))))
theorem dX3_readWet_31 : decode cX3_readWet 31 = .ok (.aload_n 0, 1) := dq_h (dq_t (dq_t (dq_t (dq_t (dq_t (dq_t (dq_t (dq_t (dq_t (dq_t (dq_t (dq_t (dq_t (dq_t (dq_t dzX3_readWet_0)))))))))))))))
theorem dX3_readWet_32 : decode cX3_readWet 32 = .ok (.iconst 0, 1) := dq_h (dq_t (dq_t (dq_t (dq_t (dq_t (dq_t (dq_t (dq_t (dq_t (dq_t (dq_t (dq_t (dq_t (dq_t (dq_t (dq_t dzX3_readWet_0))))))))))))))))
theorem dX3_readWet_33 : decode cX3_readWet 33 = .ok (.bipush 9, 2) := dq_h (dq_t (dq_t (dq_t (dq_t (dq_t (dq_t (dq_t (dq_t (dq_t (dq_t (dq_t (dq_t (dq_t (dq_t (dq_t (dq_t (dq_t dzX3_readWet_0)))))))))))))))))
theorem dX3_readWet_35 : decode cX3_readWet 35 = .ok (.invokevirtual 120, 3) := dq_h (dq_t (dq_t (dq_t (dq_t (dq_t (dq_t (dq_t (dq_t (dq_t (dq_t (dq_t (dq_t (dq_t (dq_t (dq_t (dq_t (dq_t (dq_t dzX3_readWet_0))))))))))))))))))
theorem dX3_readWet_38 : decode cX3_readWet 38 = .ok (.iastore, 1) := dq_h (dq_t (dq_t (dq_t (dq_t (dq_t (dq_t (dq_t (dq_t (dq_t (dq_t (dq_t (dq_t (dq_t (dq_t (dq_t (dq_t (dq_t (dq_t (dq_t dzX3_readWet_0)))))))))))))))))))
theorem dX3_readWet_39 : decode cX3_readWet 39 = .ok (.aload_n 0, 1) := dq_h (dq_t (dq_t (dq_t (dq_t (dq_t (dq_t (dq_t (dq_t (dq_t (dq_t (dq_t (dq_t (dq_t (dq_t (dq_t (dq_t (dq_t (dq_t (dq_t (dq_t dzX3_readWet_0))))))))))))))))))))
theorem dX3_readWet_40 : decode cX3_readWet 40 = .ok (.getfield 21, 3) := dq_h (dq_t (dq_t (dq_t (dq_t (dq_t (dq_t (dq_t (dq_t (dq_t (dq_t (dq_t (dq_t (dq_t (dq_t (dq_t (dq_t (dq_t (dq_t (dq_t (dq_t (dq_t dzX3_readWet_0)))))))))))))))))))))
theorem dX3_readWet_43 : decode cX3_readWet 43 = .ok (.iconst 1, 1) := dq_h (dq_t (dq_t (dq_t (dq_t (dq_t (dq_t (dq_t (dq_t (dq_t (dq_t (dq_t (dq_t (dq_t (dq_t (dq_t (dq_t (dq_t (dq_t (dq_t (dq_t (dq_t (dq_t dzX3_readWet_0))))))))))))))))))))))
theorem dX3_readWet_44 : decode cX3_readWet 44 = .ok (.putfield 161, 3) := dq_h (dq_t (dq_t (dq_t (dq_t (dq_t (dq_t (dq_t (dq_t (dq_t (dq_t (dq_t (dq_t (dq_t (dq_t (dq_t (dq_t (dq_t (dq_t (dq_t (dq_t (dq_t (dq_t (dq_t dzX3_readWet_0)))))))))))))))))))))))
theorem dzX3_readWet_47 : dq_F cX3_readWet [(47, .iconst 1, 1), (48, .istore_n 1, 1), (49, .iload_n 1, 1), (50, .bipush 8, 2), (52, .if_icmp .gt 70, 3), (55, .aload_n 0, 1), (56, .invokevirtual 39, 3), (59, .ifCond .eq 63, 3), (62, .aload_n 0, 1), (63, .getfield 12, 3), (66, .getfield 43, 3), (69, .iconst 2, 1), (70, .if_icmp .ne 52, 3), (73, .iload_n 1, 1), (74, .bipush 8, 2), (76, .if_icmp .ne 11, 3), (79, .aload_n 0, 1), (80, .iconst 2, 1), (81, .invokevirtual 60, 3), (84, .goto 32, 3), (87, .aload_n 0, 1), (88, .getfield 21, 3), (91, .getfield 164, 3), (94, .iload_n 1, 1)] := dq_s 24 47 (by decide +kernel)
theorem dX3_readWet_47 : decode cX3_readWet 47 = .ok (.iconst 1, 1) := dq_h dzX3_readWet_47
theorem dX3_readWet_48 : decode cX3_readWet 48 = .ok (.istore_n 1, 1) := dq_h (dq_t dzX3_readWet_47)
theorem dX3_readWet_49 : decode cX3_readWet 49 = .ok (.iload_n 1, 1) := dq_h (dq_t (dq_t dzX3_readWet_47))
theorem dX3_readWet_50 : decode cX3_readWet 50 = .ok (.bipush 8, 2) := dq_h (dq_t (dq_t (dq_t dzX3_readWet_47)))
theorem dX3_readWet_52 : decode cX3_readWet 52 = .ok (.if_icmp .gt 70, 3) := dq_h (dq_t (dq_t (dq_t (dq_t dzX3_readWet_47))))
theorem dX3_readWet_55 : decode cX3_readWet 55 = .ok (.aload_n 0, 1) := dq_h (dq_t (dq_t (dq_t (dq_t (dq_t dzX3_readWet_47)))))
theorem dX3_readWet_56 : decode cX3_readWet 56 = .ok (.invokevirtual 39, 3) := dq_h (dq_t (dq_t (dq_t (dq_t (dq_t (dq_t dzX3_readWet_47))))))
theorem dX3_readWet_59 : decode cX3_readWet 59 = .ok (.ifCond .eq 63, 3) := dq_h (dq_t (dq_t (dq_t (dq_t (dq_t (dq_t (dq_t dzX3_readWet_47)))))))
theorem dX3_readWet_62 : decode cX3_readWet 62 = .ok (.aload_n 0, 1) := dq_h (dq_t (dq_t (dq_t (dq_t (dq_t (dq_t (dq_t (dq_t dzX3_readWet_47))))))))
theorem dX3_readWet_63 : decode cX3_readWet 63 = .ok (.getfield 12, 3) := dq_h (dq_t (dq_t (dq_t (dq_t (dq_t (dq_t (dq_t (dq_t (dq_t dzX3_readWet_47)))))))))
theorem dX3_readWet_66 : decode cX3_readWet 66 = .ok (.getfield 43, 3) := dq_h (dq_t (dq_t (dq_t (dq_t (dq_t (dq_t (dq_t (dq_t (dq_t (dq_t dzX3_readWet_47))))))))))
theorem dX3_readWet_69 : decode cX3_readWet 69 = .ok (.iconst 2, 1) := dq_h (dq_t (dq_t (dq_t (dq_t (dq_t (dq_t (dq_t (dq_t (dq_t (dq_t (dq_t dzX3_readWet_47)))))))))))
theorem dX3_readWet_70 : decode cX3_readWet 70 = .ok (.if_icmp .ne 52, 3) := dq_h (dq_t (dq_t (dq_t (dq_t (dq_t (dq_t (dq_t (dq_t (dq_t (dq_t (dq_t (dq_t dzX3_readWet_47))))))))))))
theorem dX3_readWet_73 : decode cX3_readWet 73 = .ok (.iload_n 1, 1) := dq_h (dq_t (dq_t (dq_t (dq_t (dq_t (dq_t (dq_t (dq_t (dq_t (dq_t (dq_t (dq_t (dq_t dzX3_readWet_47)))))))))))))
theorem dX3_readWet_74 : decode cX3_readWet 74 = .ok (.bipush 8, 2) := dq_h (dq_t (dq_t (dq_t (dq_t (dq_t (dq_t (dq_t (dq_t (dq_t (dq_t (dq_t (dq_t (dq_t (dq_t dzX3_readWet_47))))))))))))))
theorem dX3_readWet_76 : decode cX3_readWet 76 = .ok (.if_icmp .ne 11, 3) := dq_h (dq_t (dq_t (dq_t (dq_t (dq_t (dq_t (dq_t (dq_t (dq_t (dq_t (dq_t (dq_t (dq_t (dq_t (dq_t dzX3_readWet_47)))))))))))))))
theorem dX3_readWet_79 : decode cX3_readWet 79 = .ok (.aload_n 0, 1) := dq_h (dq_t (dq_t (dq_t (dq_t (dq_t (dq_t (dq_t (dq_t (dq_t (dq_t (dq_t (dq_t (dq_t (dq_t (dq_t (dq_t dzX3_readWet_47))))))))))))))))
theorem dX3_readWet_80 : decode cX3_readWet 80 = .ok (.iconst 2, 1) := dq_h (dq_t (dq_t (dq_t (dq_t (dq_t (dq_t (dq_t (dq_t (dq_t (dq_t (dq_t (dq_t (dq_t (dq_t (dq_t (dq_t (dq_t dzX3_readWet_47)))))))))))))))))
theorem dX3_readWet_81 : decode cX3_readWet 81 = .ok (.invokevirtual 60, 3) := dq_h (dq_t (dq_t (dq_t (dq_t (dq_t (dq_t (dq_t (dq_t (dq_t (dq_t (dq_t (dq_t (dq_t (dq_t (dq_t (dq_t (dq_t (dq_t dzX3_readWet_47))))))))))))))))))
theorem dX3_readWet_84 : decode cX3_readWet 84 = .ok (.goto 32, 3) := dq_h (dq_t (dq_t (dq_t (dq_t (dq_t (dq_t (dq_t (dq_t (dq_t (dq_t (dq_t (dq_t (dq_t (dq_t (dq_t (dq_t (dq_t (dq_t (dq_t dzX3_readWet_47)))))))))))))))))))
theorem dX3_readWet_87 : decode cX3_readWet 87 = .ok (.aload_n 0, 1) := dq_h (dq_t (dq_t (dq_t (dq_t (dq_t (dq_t (dq_t (dq_t (dq_t (dq_t (dq_t (dq_t (dq_t (dq_t (dq_t (dq_t (dq_t (dq_t (dq_t (dq_t dzX3_readWet_47))))))))))))))))))))
theorem dX3_readWet_88 : decode cX3_readWet 88 = .ok (.getfield 21, 3) := dq_h (dq_t (dq_t (dq_t (dq_t (dq_t (dq_t (dq_t (dq_t (dq_t (dq_t (dq_t (dq_t (dq_t (dq_t (dq_t (dq_t (dq_t (dq_t (dq_t (dq_t (dq_t dzX3_readWet_47)))))))))))))))))))))
theorem dX3_readWet_91 : decode cX3_readWet 91 = .ok (.getfield 164, 3) := dq_h (dq_t (dq_t (dq_t (dq_t (dq_t (dq_t (dq_t (dq_t (dq_t (dq_t (dq_t (dq_t (dq_t (dq_t (dq_t (dq_t (dq_t (dq_t (dq_t (dq_t (dq_t (dq_t dzX3_readWet_47))))))))))))))))))))))
theorem dX3_readWet_94 : decode cX3_readWet 94 = .ok (.iload_n 1, 1) := dq_h (dq_t (dq_t (dq_t (dq_t (dq_t (dq_t (dq_t (dq_t (dq_t (dq_t (dq_t (dq_t (dq_t (dq_t (dq_t (dq_t (dq_t (dq_t (dq_t (dq_t (dq_t (dq_t (dq_t dzX3_readWet_47)))))))))))))))))))))))
theorem dzX3_readWet_95 : dq_F cX3_readWet [(95, .aload_n 0, 1), (96, .iconst 0, 1), (97, .bipush 9, 2), (99, .invokevirtual 120, 3), (102, .iastore, 1), (103, .aload_n 0, 1), (104, .getfield 21, 3), (107, .dup, 1), (108, .getfield 161, 3), (111, .iconst 1, 1), (112, .iadd, 1), (113, .putfield 161, 3), (116, .iinc 1 1, 3), (119, .goto (-70), 3), (122, .return_, 1)] := dq_s 15 95 (by decide +kernel)
theorem dX3_readWet_95 : decode cX3_readWet 95 = .ok (.aload_n 0, 1) := dq_h dzX3_readWet_95
theorem dX3_readWet_96 : decode cX3_readWet 96 = .ok (.iconst 0, 1) := dq_h (dq_t dzX3_readWet_95)
theorem dX3_readWet_97 : decode cX3_readWet 97 = .ok (.bipush 9, 2) := dq_h (dq_t (dq_t dzX3_readWet_95))
theorem dX3_readWet_99 : decode cX3_readWet 99 = .ok (.invokevirtual 120, 3) := dq_h (dq_t (dq_t (dq_t dzX3_readWet_95)))
theorem dX3_readWet_102 : decode cX3_readWet 102 = .ok (.iastore, 1) := dq_h (dq_t (dq_t (dq_t (dq_t dzX3_readWet_95))))
theorem dX3_readWet_103 : decode cX3_readWet 103 = .ok (.aload_n 0, 1) := dq_h (dq_t (dq_t (dq_t (dq_t (dq_t dzX3_readWet_95)))))
theorem dX3_readWet_104 : decode cX3_readWet 104 = .ok (.getfield 21, 3) := dq_h (dq_t (dq_t (dq_t (dq_t (dq_t (dq_t dzX3_readWet_95))))))
theorem dX3_readWet_107 : decode cX3_readWet 107 = .ok (.dup, 1) := dq_h (dq_t (dq_t (dq_t (dq_t (dq_t (dq_t (dq_t dzX3_readWet_95)))))))
theorem dX3_readWet_108 : decode cX3_readWet 108 = .ok (.getfield 161, 3) := dq_h (dq_t (dq_t (dq_t (dq_t (dq_t (dq_t (dq_t (dq_t dzX3_readWet_95))))))))
theorem dX3_readWet_111 : decode cX3_readWet 111 = .ok (.iconst 1, 1) := dq_h (dq_t (dq_t (dq_t (dq_t (dq_t (dq_t (dq_t (dq_t (dq_t dzX3_readWet_95)))))))))
theorem dX3_readWet_112 : decode cX3_readWet 112 = .ok (.iadd, 1) := dq_h (dq_t (dq_t (dq_t (dq_t (dq_t (dq_t (dq_t (dq_t (dq_t (dq_t dzX3_readWet_95))))))))))
theorem dX3_readWet_113 : decode cX3_readWet 113 = .ok (.putfield 161, 3) := dq_h (dq_t (dq_t (dq_t (dq_t (dq_t (dq_t (dq_t (dq_t (dq_t (dq_t (dq_t dzX3_readWet_95)))))))))))
theorem dX3_readWet_116 : decode cX3_readWet 116 = .ok (.iinc 1 1, 3) := dq_h (dq_t (dq_t (dq_t (dq_t (dq_t (dq_t (dq_t (dq_t (dq_t (dq_t (dq_t (dq_t dzX3_readWet_95))))))))))))
theorem dX3_readWet_119 : decode cX3_readWet 119 = .ok (.goto (-70), 3) := dq_h (dq_t (dq_t (dq_t (dq_t (dq_t (dq_t (dq_t (dq_t (dq_t (dq_t (dq_t (dq_t (dq_t dzX3_readWet_95)))))))))))))
theorem dX3_readWet_122 : decode cX3_readWet 122 = .ok (.return_, 1) := dq_h (dq_t (dq_t (dq_t (dq_t (dq_t (dq_t (dq_t (dq_t (dq_t (dq_t (dq_t (dq_t (dq_t (dq_t dzX3_readWet_95))))))))))))))
theorem dzX3_readBound_0 : dq_F cX3_readBound [(0, .aload_n 0, 1), (1, .getfield 21, 3), (4, .invokevirtual 166, 3), (7, .ifCond .eq 9, 3), (10, .aload_n 0, 1), (11, .iconst 5, 1), (12, .invokevirtual 60, 3), (15, .return_, 1), (16, .aload_n 0, 1), (17, .getfield 12, 3), (20, .invokevirtual 63, 3), (23, .aload_n 0, 1), (24, .getfield 21, 3), (27, .aload_n 0, 1), (28, .iconst 1, 1), (29, .bipush 99, 2), (31, .invokevirtual 120, 3), (34, .putfield 169, 3), (37, .return_, 1)] := dq_s 19 0 (by decide +kernel)
theorem dX3_readBound_0 : decode cX3_readBound 0 = .ok (.aload_n 0, 1) := dq_h dzX3_readBound_0
theorem dX3_readBound_1 : decode cX3_readBound 1 = .ok (.getfield 21, 3) := dq_h (dq_t dzX3_readBound_0)
theorem dX3_readBound_4 : decode cX3_readBound 4 = .ok (.invokevirtual 166, 3) := dq_h (dq_t (dq_t dzX3_readBound_0))
theorem dX3_readBound_7 : decode cX3_readBound 7 = .ok (.ifCond .eq 9, 3) := dq_h (dq_t (dq_t (dq_t dzX3_readBound_0)))
theorem dX3_readBound_10 : decode cX3_readBound 10 = .ok (.aload_n 0, 1) := dq_h (dq_t (dq_t (dq_t (dq_t dzX3_readBound_0))))
theorem dX3_readBound_11 : decode cX3_readBound 11 = .ok (.iconst 5, 1) := dq_h (dq_t (dq_t (dq_t (dq_t (dq_t dzX3_readBound_0)))))
theorem dX3_readBound_12 : decode cX3_readBound 12 = .ok (.invokevirtual 60, 3) := dq_h (dq_t (dq_t (dq_t (dq_t (dq_t (dq_t dzX3_readBound_0))))))
theorem dX3_readBound_15 : decode cX3_readBound 15 = .ok (.return_, 1) := dq_h (dq_t (dq_t (dq_t (dq_t (dq_t (dq_t (dq_t dzX3_readBound_0)))))))
theorem dX3_readBound_16 : decode cX3_readBound 16 = .ok (.aload_n 0, 1) := dq_h (dq_t (dq_t (dq_t (dq_t (dq_t (dq_t (dq_t (dq_t dzX3_readBound_0))))))))
theorem dX3_readBound_17 : decode cX3_readBound 17 = .ok (.getfield 12, 3) := dq_h (dq_t (dq_t (dq_t (dq_t (dq_t (dq_t (dq_t (dq_t (dq_t dzX3_readBound_0)))))))))
theorem dX3_readBound_20 : decode cX3_readBound 20 = .ok (.invokevirtual 63, 3) := dq_h (dq_t (dq_t (dq_t (dq_t (dq_t (dq_t (dq_t (dq_t (dq_t (dq_t dzX3_readBound_0))))))))))
theorem dX3_readBound_23 : decode cX3_readBound 23 = .ok (.aload_n 0, 1) := dq_h (dq_t (dq_t (dq_t (dq_t (dq_t (dq_t (dq_t (dq_t (dq_t (dq_t (dq_t dzX3_readBound_0)))))))))))
theorem dX3_readBound_24 : decode cX3_readBound 24 = .ok (.getfield 21, 3) := dq_h (dq_t (dq_t (dq_t (dq_t (dq_t (dq_t (dq_t (dq_t (dq_t (dq_t (dq_t (dq_t dzX3_readBound_0))))))))))))
theorem dX3_readBound_27 : decode cX3_readBound 27 = .ok (.aload_n 0, 1) := dq_h (dq_t (dq_t (dq_t (dq_t (dq_t (dq_t (dq_t (dq_t (dq_t (dq_t (dq_t (dq_t (dq_t dzX3_readBound_0)))))))))))))
theorem dX3_readBound_28 : decode cX3_readBound 28 = .ok (.iconst 1, 1) := dq_h (dq_t (dq_t (dq_t (dq_t (dq_t (dq_t (dq_t (dq_t (dq_t (dq_t (dq_t (dq_t (dq_t (dq_t dzX3_readBound_0))))))))))))))
theorem dX3_readBound_29 : decode cX3_readBound 29 = .ok (.bipush 99, 2) := dq_h (dq_t (dq_t (dq_t (dq_t (dq_t (dq_t (dq_t (dq_t (dq_t (dq_t (dq_t (dq_t (dq_t (dq_t (dq_t dzX3_readBound_0)))))))))))))))
theorem dX3_readBound_31 : decode cX3_readBound 31 = .ok (.invokevirtual 120, 3) := dq_h (dq_t (dq_t (dq_t (dq_t (dq_t (dq_t (dq_t (dq_t (dq_t (dq_t (dq_t (dq_t (dq_t (dq_t (dq_t (dq_t dzX3_readBound_0))))))))))))))))
theorem dX3_readBound_34 : decode cX3_readBound 34 = .ok (.putfield 169, 3) := dq_h (dq_t (dq_t (dq_t (dq_t (dq_t (dq_t (dq_t (dq_t (dq_t (dq_t (dq_t (dq_t (dq_t (dq_t (dq_t (dq_t (dq_t dzX3_readBound_0)))))))))))))))))
theorem dX3_readBound_37 : decode cX3_readBound 37 = .ok (.return_, 1) := dq_h (dq_t (dq_t (dq_t (dq_t (dq_t (dq_t (dq_t (dq_t (dq_t (dq_t (dq_t (dq_t (dq_t (dq_t (dq_t (dq_t (dq_t (dq_t dzX3_readBound_0))))))))))))))))))
theorem dzX3_readRule_0 : dq_F cX3_readRule [(0, .aload_n 1, 1), (1, .invokevirtual 171, 3), (4, .ifCond .eq 9, 3), (7, .aload_n 0, 1), (8, .iconst 5, 1), (9, .invokevirtual 60, 3), (12, .return_, 1), (13, .aload_n 0, 1), (14, .getfield 12, 3), (17, .invokevirtual 63, 3), (20, .aload_n 0, 1), (21, .aload_n 1, 1), (22, .iconst 0, 1), (23, .invokevirtual 176, 3), (26, .return_, 1)] := dq_s 15 0 (by decide +kernel)
theorem dX3_readRule_0 : decode cX3_readRule 0 = .ok (.aload_n 1, 1) := dq_h dzX3_readRule_0
theorem dX3_readRule_1 : decode cX3_readRule 1 = .ok (.invokevirtual 171, 3) := dq_h (dq_t dzX3_readRule_0)
theorem dX3_readRule_4 : decode cX3_readRule 4 = .ok (.ifCond .eq 9, 3) := dq_h (dq_t (dq_t dzX3_readRule_0))
theorem dX3_readRule_7 : decode cX3_readRule 7 = .ok (.aload_n 0, 1) := dq_h (dq_t (dq_t (dq_t dzX3_readRule_0)))
theorem dX3_readRule_8 : decode cX3_readRule 8 = .ok (.iconst 5, 1) := dq_h (dq_t (dq_t (dq_t (dq_t dzX3_readRule_0))))
theorem dX3_readRule_9 : decode cX3_readRule 9 = .ok (.invokevirtual 60, 3) := dq_h (dq_t (dq_t (dq_t (dq_t (dq_t dzX3_readRule_0)))))
theorem dX3_readRule_12 : decode cX3_readRule 12 = .ok (.return_, 1) := dq_h (dq_t (dq_t (dq_t (dq_t (dq_t (dq_t dzX3_readRule_0))))))
theorem dX3_readRule_13 : decode cX3_readRule 13 = .ok (.aload_n 0, 1) := dq_h (dq_t (dq_t (dq_t (dq_t (dq_t (dq_t (dq_t dzX3_readRule_0)))))))
theorem dX3_readRule_14 : decode cX3_readRule 14 = .ok (.getfield 12, 3) := dq_h (dq_t (dq_t (dq_t (dq_t (dq_t (dq_t (dq_t (dq_t dzX3_readRule_0))))))))
theorem dX3_readRule_17 : decode cX3_readRule 17 = .ok (.invokevirtual 63, 3) := dq_h (dq_t (dq_t (dq_t (dq_t (dq_t (dq_t (dq_t (dq_t (dq_t dzX3_readRule_0)))))))))
theorem dX3_readRule_20 : decode cX3_readRule 20 = .ok (.aload_n 0, 1) := dq_h (dq_t (dq_t (dq_t (dq_t (dq_t (dq_t (dq_t (dq_t (dq_t (dq_t dzX3_readRule_0))))))))))
theorem dX3_readRule_21 : decode cX3_readRule 21 = .ok (.aload_n 1, 1) := dq_h (dq_t (dq_t (dq_t (dq_t (dq_t (dq_t (dq_t (dq_t (dq_t (dq_t (dq_t dzX3_readRule_0)))))))))))
theorem dX3_readRule_22 : decode cX3_readRule 22 = .ok (.iconst 0, 1) := dq_h (dq_t (dq_t (dq_t (dq_t (dq_t (dq_t (dq_t (dq_t (dq_t (dq_t (dq_t (dq_t dzX3_readRule_0))))))))))))
theorem dX3_readRule_23 : decode cX3_readRule 23 = .ok (.invokevirtual 176, 3) := dq_h (dq_t (dq_t (dq_t (dq_t (dq_t (dq_t (dq_t (dq_t (dq_t (dq_t (dq_t (dq_t (dq_t dzX3_readRule_0)))))))))))))
theorem dX3_readRule_26 : decode cX3_readRule 26 = .ok (.return_, 1) := dq_h (dq_t (dq_t (dq_t (dq_t (dq_t (dq_t (dq_t (dq_t (dq_t (dq_t (dq_t (dq_t (dq_t (dq_t dzX3_readRule_0))))))))))))))
theorem dzX3_readExpr_0 : dq_F cX3_readExpr [(0, .iload_n 2, 1), (1, .iconst 5, 1), (2, .if_icmp .le 57, 3), (5, .aload_n 0, 1), (6, .getfield 12, 3), (9, .getfield 43, 3), (12, .iconst 2, 1), (13, .if_icmp .eq 26, 3), (16, .aload_n 0, 1), (17, .getfield 12, 3), (20, .getfield 43, 3), (23, .iconst 1, 1), (24, .if_icmp .eq 15, 3), (27, .aload_n 0, 1), (28, .getfield 12, 3), (31, .bipush 40, 2), (33, .invokevirtual 56, 3), (36, .ifCond .eq 7, 3), (39, .iconst 1, 1), (40, .goto 4, 3), (43, .iconst 0, 1), (44, .istore_n 3, 1), (45, .aload_n 0, 1), (46, .iload_n 3, 1)] := dq_s 24 0 (by decide +kernel)
theorem dX3_readExpr_0 : decode cX3_readExpr 0 = .ok (.iload_n 2, 1) := dq_h dzX3_readExpr_0
theorem dX3_readExpr_1 : decode cX3_readExpr 1 = .ok (.iconst 5, 1) := dq_h (dq_t dzX3_readExpr_0)
theorem dX3_readExpr_2 : decode cX3_readExpr 2 = .ok (.if_icmp .le 57, 3) := dq_h (dq_t (dq_t dzX3_readExpr_0))
theorem dX3_readExpr_5 : decode cX3_readExpr 5 = .ok (.aload_n 0, 1) := dq_h (dq_t (dq_t (dq_t dzX3_readExpr_0)))
theorem dX3_readExpr_6 : decode cX3_readExpr 6 = .ok (.getfield 12, 3) := dq_h (dq_t (dq_t (dq_t (dq_t dzX3_readExpr_0))))
theorem dX3_readExpr_9 : decode cX3_readExpr 9 = .ok (.getfield 43, 3) := dq_h (dq_t (dq_t (dq_t (dq_t (dq_t dzX3_readExpr_0)))))
theorem dX3_readExpr_12 : decode cX3_readExpr 12 = .ok (.iconst 2, 1) := dq_h (dq_t (dq_t (dq_t (dq_t (dq_t (dq_t dzX3_readExpr_0))))))
theorem dX3_readExpr_13 : decode cX3_readExpr 13 = .ok (.if_icmp .eq 26, 3) := dq_h (dq_t (dq_t (dq_t (dq_t (dq_t (dq_t (dq_t dzX3_readExpr_0)))))))
theorem dX3_readExpr_16 : decode cX3_readExpr 16 = .ok (.aload_n 0, 1) := dq_h (dq_t (dq_t (dq_t (dq_t (dq_t (dq_t (dq_t (dq_t dzX3_readExpr_0))))))))
theorem dX3_readExpr_17 : decode cX3_readExpr 17 = .ok (.getfield 12, 3) := dq_h (dq_t (dq_t (dq_t (dq_t (dq_t (dq_t (dq_t (dq_t (dq_t dzX3_readExpr_0)))))))))
theorem dX3_readExpr_20 : decode cX3_readExpr 20 = .ok (.getfield 43, 3) := dq_h (dq_t (dq_t (dq_t (dq_t (dq_t (dq_t (dq_t (dq_t (dq_t (dq_t dzX3_readExpr_0))))))))))
theorem dX3_readExpr_23 : decode cX3_readExpr 23 = .ok (.iconst 1, 1) := dq_h (dq_t (dq_t (dq_t (dq_t (dq_t (dq_t (dq_t (dq_t (dq_t (dq_t (dq_t dzX3_readExpr_0)))))))))))
theorem dX3_readExpr_24 : decode cX3_readExpr 24 = .ok (.if_icmp .eq 15, 3) := dq_h (dq_t (dq_t (dq_t (dq_t (dq_t (dq_t (dq_t (dq_t (dq_t (dq_t (dq_t (dq_t dzX3_readExpr_0))))))))))))
theorem dX3_readExpr_27 : decode cX3_readExpr 27 = .ok (.aload_n 0, 1) := dq_h (dq_t (dq_t (dq_t (dq_t (dq_t (dq_t (dq_t (dq_t (dq_t (dq_t (dq_t (dq_t (dq_t dzX3_readExpr_0)))))))))))))
theorem dX3_readExpr_28 : decode cX3_readExpr 28 = .ok (.getfield 12, 3) := dq_h (dq_t (dq_t (dq_t (dq_t (dq_t (dq_t (dq_t (dq_t (dq_t (dq_t (dq_t (dq_t (dq_t (dq_t dzX3_readExpr_0))))))))))))))
theorem dX3_readExpr_31 : decode cX3_readExpr 31 = .ok (.bipush 40, 2) := dq_h (dq_t (dq_t (dq_t (dq_t (dq_t (dq_t (dq_t (dq_t (dq_t (dq_t (dq_t (dq_t (dq_t (dq_t (dq_t dzX3_readExpr_0)))))))))))))))
theorem dX3_readExpr_33 : decode cX3_readExpr 33 = .ok (.invokevirtual 56, 3) := dq_h (dq_t (dq_t (dq_t (dq_t (dq_t (dq_t (dq_t (dq_t (dq_t (dq_t (dq_t (dq_t (dq_t (dq_t (dq_t (dq_t dzX3_readExpr_0))))))))))))))))
theorem dX3_readExpr_36 : decode cX3_readExpr 36 = .ok (.ifCond .eq 7, 3) := dq_h (dq_t (dq_t (dq_t (dq_t (dq_t (dq_t (dq_t (dq_t (dq_t (dq_t (dq_t (dq_t (dq_t (dq_t (dq_t (dq_t (dq_t dzX3_readExpr_0)))))))))))))))))
theorem dX3_readExpr_39 : decode cX3_readExpr 39 = .ok (.iconst 1, 1) := dq_h (dq_t (dq_t (dq_t (dq_t (dq_t (dq_t (dq_t (dq_t (dq_t (dq_t (dq_t (dq_t (dq_t (dq_t (dq_t (dq_t (dq_t (dq_t dzX3_readExpr_0))))))))))))))))))
theorem dX3_readExpr_40 : decode cX3_readExpr 40 = .ok (.goto 4, 3) := dq_h (dq_t (dq_t (dq_t (dq_t (dq_t (dq_t (dq_t (dq_t (dq_t (dq_t (dq_t (dq_t (dq_t (dq_t (dq_t (dq_t (dq_t (dq_t (dq_t dzX3_readExpr_0)))))))))))))))))))
theorem dX3_readExpr_43 : decode cX3_readExpr 43 = .ok (.iconst 0, 1) := dq_h (dq_t (dq_t (dq_t (dq_t (dq_t (dq_t (dq_t (dq_t (dq_t (dq_t (dq_t (dq_t (dq_t (dq_t (dq_t (dq_t (dq_t (dq_t (dq_t (dq_t dzX3_readExpr_0))))))))))))))))))))
theorem dX3_readExpr_44 : decode cX3_readExpr 44 = .ok (.istore_n 3, 1) := dq_h (dq_t (dq_t (dq_t (dq_t (dq_t (dq_t (dq_t (dq_t (dq_t (dq_t (dq_t (dq_t (dq_t (dq_t (dq_t (dq_t (dq_t (dq_t (dq_t (dq_t (dq_t dzX3_readExpr_0)))))))))))))))))))))
theorem dX3_readExpr_45 : decode cX3_readExpr 45 = .ok (.aload_n 0, 1) := dq_h (dq_t (dq_t (dq_t (dq_t (dq_t (dq_t (dq_t (dq_t (dq_t (dq_t (dq_t (dq_t (dq_t (dq_t (dq_t (dq_t (dq_t (dq_t (dq_t (dq_t (dq_t (dq_t dzX3_readExpr_0))))))))))))))))))))))
theorem dX3_readExpr_46 : decode cX3_readExpr 46 = .ok (.iload_n 3, 1) := dq_h (dq_t (dq_t (dq_t (dq_t (dq_t (dq_t (dq_t (dq_t (dq_t (dq_t (dq_t (dq_t (dq_t (dq_t (dq_t (dq_t (dq_t (dq_t (dq_t (dq_t (dq_t (dq_t (dq_t dzX3_readExpr_0)))))))))))))))))))))))
theorem dzX3_readExpr_47 : dq_F cX3_readExpr [(47, .ifCond .eq 7, 3), (50, .iconst 2, 1), (51, .goto 4, 3), (54, .iconst 1, 1), (55, .invokevirtual 60, 3), (58, .return_, 1), (59, .aload_n 0, 1), (60, .aload_n 1, 1), (61, .iload_n 2, 1), (62, .invokevirtual 180, 3), (65, .iconst 0, 1), (66, .istore_n 3, 1), (67, .iload_n 3, 1), (68, .sipush 700, 3), (71, .if_icmp .ge 48, 3), (74, .aload_n 0, 1), (75, .invokevirtual 39, 3), (78, .ifCond .eq 41, 3), (81, .aload_n 0, 1), (82, .getfield 12, 3), (85, .ldc 183, 2), (87, .invokevirtual 75, 3), (90, .ifCond .eq 29, 3), (93, .aload_n 0, 1)] := dq_s 24 47 (by decide +kernel)
theorem dX3_readExpr_47 : decode cX3_readExpr 47 = .ok (.ifCond .eq 7, 3) := dq_h dzX3_readExpr_47
theorem dX3_readExpr_50 : decode cX3_readExpr 50 = .ok (.iconst 2, 1) := dq_h (dq_t dzX3_readExpr_47)
theorem dX3_readExpr_51 : decode cX3_readExpr 51 = .ok (.goto 4, 3) := dq_h (dq_t (dq_t dzX3_readExpr_47))
theorem dX3_readExpr_54 : decode cX3_readExpr 54 = .ok (.iconst 1, 1) := dq_h (dq_t (dq_t (dq_t dzX3_readExpr_47)))
theorem dX3_readExpr_55 : decode cX3_readExpr 55 = .ok (.invokevirtual 60, 3) := dq_h (dq_t (dq_t (dq_t (dq_t dzX3_readExpr_47))))
theorem dX3_readExpr_58 : decode cX3_readExpr 58 = .ok (.return_, 1) := dq_h (dq_t (dq_t (dq_t (dq_t (dq_t dzX3_readExpr_47)))))
theorem dX3_readExpr_59 : decode cX3_readExpr 59 = .ok (.aload_n 0, 1) := dq_h (dq_t (dq_t (dq_t (dq_t (dq_t (dq_t dzX3_readExpr_47))))))
theorem dX3_readExpr_60 : decode cX3_readExpr 60 = .ok (.aload_n 1, 1) := dq_h (dq_t (dq_t (dq_t (dq_t (dq_t (dq_t (dq_t dzX3_readExpr_47)))))))
theorem dX3_readExpr_61 : decode cX3_readExpr 61 = .ok (.iload_n 2, 1) := dq_h (dq_t (dq_t (dq_t (dq_t (dq_t (dq_t (dq_t (dq_t dzX3_readExpr_47))))))))
theorem dX3_readExpr_62 : decode cX3_readExpr 62 = .ok (.invokevirtual 180, 3) := dq_h (dq_t (dq_t (dq_t (dq_t (dq_t (dq_t (dq_t (dq_t (dq_t dzX3_readExpr_47)))))))))
theorem dX3_readExpr_65 : decode cX3_readExpr 65 = .ok (.iconst 0, 1) := dq_h (dq_t (dq_t (dq_t (dq_t (dq_t (dq_t (dq_t (dq_t (dq_t (dq_t dzX3_readExpr_47))))))))))
theorem dX3_readExpr_66 : decode cX3_readExpr 66 = .ok (.istore_n 3, 1) := dq_h (dq_t (dq_t (dq_t (dq_t (dq_t (dq_t (dq_t (dq_t (dq_t (dq_t (dq_t dzX3_readExpr_47)))))))))))
theorem dX3_readExpr_67 : decode cX3_readExpr 67 = .ok (.iload_n 3, 1) := dq_h (dq_t (dq_t (dq_t (dq_t (dq_t (dq_t (dq_t (dq_t (dq_t (dq_t (dq_t (dq_t dzX3_readExpr_47))))))))))))
theorem dX3_readExpr_68 : decode cX3_readExpr 68 = .ok (.sipush 700, 3) := dq_h (dq_t (dq_t (dq_t (dq_t (dq_t (dq_t (dq_t (dq_t (dq_t (dq_t (dq_t (dq_t (dq_t dzX3_readExpr_47)))))))))))))
theorem dX3_readExpr_71 : decode cX3_readExpr 71 = .ok (.if_icmp .ge 48, 3) := dq_h (dq_t (dq_t (dq_t (dq_t (dq_t (dq_t (dq_t (dq_t (dq_t (dq_t (dq_t (dq_t (dq_t (dq_t dzX3_readExpr_47))))))))))))))
theorem dX3_readExpr_74 : decode cX3_readExpr 74 = .ok (.aload_n 0, 1) := dq_h (dq_t (dq_t (dq_t (dq_t (dq_t (dq_t (dq_t (dq_t (dq_t (dq_t (dq_t (dq_t (dq_t (dq_t (dq_t dzX3_readExpr_47)))))))))))))))
theorem dX3_readExpr_75 : decode cX3_readExpr 75 = .ok (.invokevirtual 39, 3) := dq_h (dq_t (dq_t (dq_t (dq_t (dq_t (dq_t (dq_t (dq_t (dq_t (dq_t (dq_t (dq_t (dq_t (dq_t (dq_t (dq_t dzX3_readExpr_47))))))))))))))))
theorem dX3_readExpr_78 : decode cX3_readExpr 78 = .ok (.ifCond .eq 41, 3) := dq_h (dq_t (dq_t (dq_t (dq_t (dq_t (dq_t (dq_t (dq_t (dq_t (dq_t (dq_t (dq_t (dq_t (dq_t (dq_t (dq_t (dq_t dzX3_readExpr_47)))))))))))))))))
theorem dX3_readExpr_81 : decode cX3_readExpr 81 = .ok (.aload_n 0, 1) := dq_h (dq_t (dq_t (dq_t (dq_t (dq_t (dq_t (dq_t (dq_t (dq_t (dq_t (dq_t (dq_t (dq_t (dq_t (dq_t (dq_t (dq_t (dq_t dzX3_readExpr_47))))))))))))))))))
theorem dX3_readExpr_82 : decode cX3_readExpr 82 = .ok (.getfield 12, 3) := dq_h (dq_t (dq_t (dq_t (dq_t (dq_t (dq_t (dq_t (dq_t (dq_t (dq_t (dq_t (dq_t (dq_t (dq_t (dq_t (dq_t (dq_t (dq_t (dq_t dzX3_readExpr_47)))))))))))))))))))
theorem dX3_readExpr_85 : decode cX3_readExpr 85 = .ok (.ldc 183, 2) := dq_h (dq_t (dq_t (dq_t (dq_t (dq_t (dq_t (dq_t (dq_t (dq_t (dq_t (dq_t (dq_t (dq_t (dq_t (dq_t (dq_t (dq_t (dq_t (dq_t (dq_t dzX3_readExpr_47))))))))))))))))))))
theorem dX3_readExpr_87 : decode cX3_readExpr 87 = .ok (.invokevirtual 75, 3) := dq_h (dq_t (dq_t (dq_t (dq_t (dq_t (dq_t (dq_t (dq_t (dq_t (dq_t (dq_t (dq_t (dq_t (dq_t (dq_t (dq_t (dq_t (dq_t (dq_t (dq_t (dq_t dzX3_readExpr_47)))))))))))))))))))))
theorem dX3_readExpr_90 : decode cX3_readExpr 90 = .ok (.ifCond .eq 29, 3) := dq_h (dq_t (dq_t (dq_t (dq_t (dq_t (dq_t (dq_t (dq_t (dq_t (dq_t (dq_t (dq_t (dq_t (dq_t (dq_t (dq_t (dq_t (dq_t (dq_t (dq_t (dq_t (dq_t dzX3_readExpr_47))))))))))))))))))))))
theorem dX3_readExpr_93 : decode cX3_readExpr 93 = .ok (.aload_n 0, 1) := dq_h (dq_t (dq_t (dq_t (dq_t (dq_t (dq_t (dq_t (dq_t (dq_t (dq_t (dq_t (dq_t (dq_t (dq_t (dq_t (dq_t (dq_t (dq_t (dq_t (dq_t (dq_t (dq_t (dq_t dzX3_readExpr_47)))))))))))))))))))))))
theorem dzX3_readExpr_94 : dq_F cX3_readExpr [(94, .getfield 12, 3), (97, .invokevirtual 63, 3), (100, .aload_n 0, 1), (101, .aload_n 1, 1), (102, .iload_n 2, 1), (103, .invokevirtual 180, 3), (106, .aload_n 1, 1), (107, .sipush 10011, 3), (110, .invokevirtual 185, 3), (113, .iinc 3 1, 3), (116, .goto (-49), 3), (119, .return_, 1)] := dq_s 12 94 (by decide +kernel)
theorem dX3_readExpr_94 : decode cX3_readExpr 94 = .ok (.getfield 12, 3) := dq_h dzX3_readExpr_94
theorem dX3_readExpr_97 : decode cX3_readExpr 97 = .ok (.invokevirtual 63, 3) := dq_h (dq_t dzX3_readExpr_94)
theorem dX3_readExpr_100 : decode cX3_readExpr 100 = .ok (.aload_n 0, 1) := dq_h (dq_t (dq_t dzX3_readExpr_94))
theorem dX3_readExpr_101 : decode cX3_readExpr 101 = .ok (.aload_n 1, 1) := dq_h (dq_t (dq_t (dq_t dzX3_readExpr_94)))
theorem dX3_readExpr_102 : decode cX3_readExpr 102 = .ok (.iload_n 2, 1) := dq_h (dq_t (dq_t (dq_t (dq_t dzX3_readExpr_94))))
theorem dX3_readExpr_103 : decode cX3_readExpr 103 = .ok (.invokevirtual 180, 3) := dq_h (dq_t (dq_t (dq_t (dq_t (dq_t dzX3_readExpr_94)))))
theorem dX3_readExpr_106 : decode cX3_readExpr 106 = .ok (.aload_n 1, 1) := dq_h (dq_t (dq_t (dq_t (dq_t (dq_t (dq_t dzX3_readExpr_94))))))
theorem dX3_readExpr_107 : decode cX3_readExpr 107 = .ok (.sipush 10011, 3) := dq_h (dq_t (dq_t (dq_t (dq_t (dq_t (dq_t (dq_t dzX3_readExpr_94)))))))
theorem dX3_readExpr_110 : decode cX3_readExpr 110 = .ok (.invokevirtual 185, 3) := dq_h (dq_t (dq_t (dq_t (dq_t (dq_t (dq_t (dq_t (dq_t dzX3_readExpr_94))))))))
theorem dX3_readExpr_113 : decode cX3_readExpr 113 = .ok (.iinc 3 1, 3) := dq_h (dq_t (dq_t (dq_t (dq_t (dq_t (dq_t (dq_t (dq_t (dq_t dzX3_readExpr_94)))))))))
theorem dX3_readExpr_116 : decode cX3_readExpr 116 = .ok (.goto (-49), 3) := dq_h (dq_t (dq_t (dq_t (dq_t (dq_t (dq_t (dq_t (dq_t (dq_t (dq_t dzX3_readExpr_94))))))))))
theorem dX3_readExpr_119 : decode cX3_readExpr 119 = .ok (.return_, 1) := dq_h (dq_t (dq_t (dq_t (dq_t (dq_t (dq_t (dq_t (dq_t (dq_t (dq_t (dq_t dzX3_readExpr_94)))))))))))
theorem dzX3_readAnd_0 : dq_F cX3_readAnd [(0, .aload_n 0, 1), (1, .aload_n 1, 1), (2, .iload_n 2, 1), (3, .invokevirtual 188, 3), (6, .iconst 0, 1), (7, .istore_n 3, 1), (8, .iload_n 3, 1), (9, .sipush 700, 3), (12, .if_icmp .ge 48, 3), (15, .aload_n 0, 1), (16, .invokevirtual 39, 3), (19, .ifCond .eq 41, 3), (22, .aload_n 0, 1), (23, .getfield 12, 3), (26, .ldc 191, 2), (28, .invokevirtual 75, 3), (31, .ifCond .eq 29, 3), (34, .aload_n 0, 1), (35, .getfield 12, 3), (38, .invokevirtual 63, 3), (41, .aload_n 0, 1), (42, .aload_n 1, 1), (43, .iload_n 2, 1), (44, .invokevirtual 188, 3)] := dq_s 24 0 (by decide +kernel)
theorem dX3_readAnd_0 : decode cX3_readAnd 0 = .ok (.aload_n 0, 1) := dq_h dzX3_readAnd_0
theorem dX3_readAnd_1 : decode cX3_readAnd 1 = .ok (.aload_n 1, 1) := dq_h (dq_t dzX3_readAnd_0)
theorem dX3_readAnd_2 : decode cX3_readAnd 2 = .ok (.iload_n 2, 1) := dq_h (dq_t (dq_t dzX3_readAnd_0))
theorem dX3_readAnd_3 : decode cX3_readAnd 3 = .ok (.invokevirtual 188, 3) := dq_h (dq_t (dq_t (dq_t dzX3_readAnd_0)))
theorem dX3_readAnd_6 : decode cX3_readAnd 6 = .ok (.iconst 0, 1) := dq_h (dq_t (dq_t (dq_t (dq_t dzX3_readAnd_0))))
theorem dX3_readAnd_7 : decode cX3_readAnd 7 = .ok (.istore_n 3, 1) := dq_h (dq_t (dq_t (dq_t (dq_t (dq_t dzX3_readAnd_0)))))
theorem dX3_readAnd_8 : decode cX3_readAnd 8 = .ok (.iload_n 3, 1) := dq_h (dq_t (dq_t (dq_t (dq_t (dq_t (dq_t dzX3_readAnd_0))))))
theorem dX3_readAnd_9 : decode cX3_readAnd 9 = .ok (.sipush 700, 3) := dq_h (dq_t (dq_t (dq_t (dq_t (dq_t (dq_t (dq_t dzX3_readAnd_0)))))))
theorem dX3_readAnd_12 : decode cX3_readAnd 12 = .ok (.if_icmp .ge 48, 3) := dq_h (dq_t (dq_t (dq_t (dq_t (dq_t (dq_t (dq_t (dq_t dzX3_readAnd_0))))))))
theorem dX3_readAnd_15 : decode cX3_readAnd 15 = .ok (.aload_n 0, 1) := dq_h (dq_t (dq_t (dq_t (dq_t (dq_t (dq_t (dq_t (dq_t (dq_t dzX3_readAnd_0)))))))))
theorem dX3_readAnd_16 : decode cX3_readAnd 16 = .ok (.invokevirtual 39, 3) := dq_h (dq_t (dq_t (dq_t (dq_t (dq_t (dq_t (dq_t (dq_t (dq_t (dq_t dzX3_readAnd_0))))))))))
theorem dX3_readAnd_19 : decode cX3_readAnd 19 = .ok (.ifCond .eq 41, 3) := dq_h (dq_t (dq_t (dq_t (dq_t (dq_t (dq_t (dq_t (dq_t (dq_t (dq_t (dq_t dzX3_readAnd_0)))))))))))
theorem dX3_readAnd_22 : decode cX3_readAnd 22 = .ok (.aload_n 0, 1) := dq_h (dq_t (dq_t (dq_t (dq_t (dq_t (dq_t (dq_t (dq_t (dq_t (dq_t (dq_t (dq_t dzX3_readAnd_0))))))))))))
theorem dX3_readAnd_23 : decode cX3_readAnd 23 = .ok (.getfield 12, 3) := dq_h (dq_t (dq_t (dq_t (dq_t (dq_t (dq_t (dq_t (dq_t (dq_t (dq_t (dq_t (dq_t (dq_t dzX3_readAnd_0)))))))))))))
theorem dX3_readAnd_26 : decode cX3_readAnd 26 = .ok (.ldc 191, 2) := dq_h (dq_t (dq_t (dq_t (dq_t (dq_t (dq_t (dq_t (dq_t (dq_t (dq_t (dq_t (dq_t (dq_t (dq_t dzX3_readAnd_0))))))))))))))
theorem dX3_readAnd_28 : decode cX3_readAnd 28 = .ok (.invokevirtual 75, 3) := dq_h (dq_t (dq_t (dq_t (dq_t (dq_t (dq_t (dq_t (dq_t (dq_t (dq_t (dq_t (dq_t (dq_t (dq_t (dq_t dzX3_readAnd_0)))))))))))))))
theorem dX3_readAnd_31 : decode cX3_readAnd 31 = .ok (.ifCond .eq 29, 3) := dq_h (dq_t (dq_t (dq_t (dq_t (dq_t (dq_t (dq_t (dq_t (dq_t (dq_t (dq_t (dq_t (dq_t (dq_t (dq_t (dq_t dzX3_readAnd_0))))))))))))))))
theorem dX3_readAnd_34 : decode cX3_readAnd 34 = .ok (.aload_n 0, 1) := dq_h (dq_t (dq_t (dq_t (dq_t (dq_t (dq_t (dq_t (dq_t (dq_t (dq_t (dq_t (dq_t (dq_t (dq_t (dq_t (dq_t (dq_t dzX3_readAnd_0)))))))))))))))))
theorem dX3_readAnd_35 : decode cX3_readAnd 35 = .ok (.getfield 12, 3) := dq_h (dq_t (dq_t (dq_t (dq_t (dq_t (dq_t (dq_t (dq_t (dq_t (dq_t (dq_t (dq_t (dq_t (dq_t (dq_t (dq_t (dq_t (dq_t dzX3_readAnd_0))))))))))))))))))
theorem dX3_readAnd_38 : decode cX3_readAnd 38 = .ok (.invokevirtual 63, 3) := dq_h (dq_t (dq_t (dq_t (dq_t (dq_t (dq_t (dq_t (dq_t (dq_t (dq_t (dq_t (dq_t (dq_t (dq_t (dq_t (dq_t (dq_t (dq_t (dq_t dzX3_readAnd_0)))))))))))))))))))
theorem dX3_readAnd_41 : decode cX3_readAnd 41 = .ok (.aload_n 0, 1) := dq_h (dq_t (dq_t (dq_t (dq_t (dq_t (dq_t (dq_t (dq_t (dq_t (dq_t (dq_t (dq_t (dq_t (dq_t (dq_t (dq_t (dq_t (dq_t (dq_t (dq_t dzX3_readAnd_0))))))))))))))))))))
theorem dX3_readAnd_42 : decode cX3_readAnd 42 = .ok (.aload_n 1, 1) := dq_h (dq_t (dq_t (dq_t (dq_t (dq_t (dq_t (dq_t (dq_t (dq_t (dq_t (dq_t (dq_t (dq_t (dq_t (dq_t (dq_t (dq_t (dq_t (dq_t (dq_t (dq_t dzX3_readAnd_0)))))))))))))))))))))
theorem dX3_readAnd_43 : decode cX3_readAnd 43 = .ok (.iload_n 2, 1) := dq_h (dq_t (dq_t (dq_t (dq_t (dq_t (dq_t (dq_t (dq_t (dq_t (dq_t (dq_t (dq_t (dq_t (dq_t (dq_t (dq_t (dq_t (dq_t (dq_t (dq_t (dq_t (dq_t dzX3_readAnd_0))))))))))))))))))))))
theorem dX3_readAnd_44 : decode cX3_readAnd 44 = .ok (.invokevirtual 188, 3) := dq_h (dq_t (dq_t (dq_t (dq_t (dq_t (dq_t (dq_t (dq_t (dq_t (dq_t (dq_t (dq_t (dq_t (dq_t (dq_t (dq_t (dq_t (dq_t (dq_t (dq_t (dq_t (dq_t (dq_t dzX3_readAnd_0)))))))))))))))))))))))
theorem dzX3_readAnd_47 : dq_F cX3_readAnd [(47, .aload_n 1, 1), (48, .sipush 10012, 3), (51, .invokevirtual 185, 3), (54, .iinc 3 1, 3), (57, .goto (-49), 3), (60, .return_, 1)] := dq_s 6 47 (by decide +kernel)
theorem dX3_readAnd_47 : decode cX3_readAnd 47 = .ok (.aload_n 1, 1) := dq_h dzX3_readAnd_47
theorem dX3_readAnd_48 : decode cX3_readAnd 48 = .ok (.sipush 10012, 3) := dq_h (dq_t dzX3_readAnd_47)
theorem dX3_readAnd_51 : decode cX3_readAnd 51 = .ok (.invokevirtual 185, 3) := dq_h (dq_t (dq_t dzX3_readAnd_47))
theorem dX3_readAnd_54 : decode cX3_readAnd 54 = .ok (.iinc 3 1, 3) := dq_h (dq_t (dq_t (dq_t dzX3_readAnd_47)))
theorem dX3_readAnd_57 : decode cX3_readAnd 57 = .ok (.goto (-49), 3) := dq_h (dq_t (dq_t (dq_t (dq_t dzX3_readAnd_47))))
theorem dX3_readAnd_60 : decode cX3_readAnd 60 = .ok (.return_, 1) := dq_h (dq_t (dq_t (dq_t (dq_t (dq_t dzX3_readAnd_47)))))
theorem dzX3_readNot_0 : dq_F cX3_readNot [(0, .iconst 0, 1), (1, .istore_n 3, 1), (2, .iconst 0, 1), (3, .istore 4, 2), (5, .iload 4, 2), (7, .bipush 6, 2), (9, .if_icmp .ge 31, 3), (12, .aload_n 0, 1), (13, .getfield 12, 3), (16, .ldc 193, 2), (18, .invokevirtual 75, 3), (21, .ifCond .eq 19, 3), (24, .aload_n 0, 1), (25, .getfield 12, 3), (28, .invokevirtual 63, 3), (31, .iinc 3 1, 3), (34, .iinc 4 1, 3), (37, .goto (-32), 3), (40, .aload_n 0, 1), (41, .getfield 12, 3), (44, .ldc 193, 2), (46, .invokevirtual 75, 3), (49, .ifCond .eq 9, 3), (52, .aload_n 0, 1)] := dq_s 24 0 (by decide +kernel)
theorem dX3_readNot_0 : decode cX3_readNot 0 = .ok (.iconst 0, 1) := dq_h dzX3_readNot_0
theorem dX3_readNot_1 : decode cX3_readNot 1 = .ok (.istore_n 3, 1) := dq_h (dq_t dzX3_readNot_0)
theorem dX3_readNot_2 : decode cX3_readNot 2 = .ok (.iconst 0, 1) := dq_h (dq_t (dq_t dzX3_readNot_0))
theorem dX3_readNot_3 : decode cX3_readNot 3 = .ok (.istore 4, 2) := dq_h (dq_t (dq_t (dq_t dzX3_readNot_0)))
theorem dX3_readNot_5 : decode cX3_readNot 5 = .ok (.iload 4, 2) := dq_h (dq_t (dq_t (dq_t (dq_t dzX3_readNot_0))))
theorem dX3_readNot_7 : decode cX3_readNot 7 = .ok (.bipush 6, 2) := dq_h (dq_t (dq_t (dq_t (dq_t (dq_t dzX3_readNot_0)))))
theorem dX3_readNot_9 : decode cX3_readNot 9 = .ok (.if_icmp .ge 31, 3) := dq_h (dq_t (dq_t (dq_t (dq_t (dq_t (dq_t dzX3_readNot_0))))))
theorem dX3_readNot_12 : decode cX3_readNot 12 = .ok (.aload_n 0, 1) := dq_h (dq_t (dq_t (dq_t (dq_t (dq_t (dq_t (dq_t dzX3_readNot_0)))))))
theorem dX3_readNot_13 : decode cX3_readNot 13 = .ok (.getfield 12, 3) := dq_h (dq_t (dq_t (dq_t (dq_t (dq_t (dq_t (dq_t (dq_t dzX3_readNot_0))))))))
theorem dX3_readNot_16 : decode cX3_readNot 16 = .ok (.ldc 193, 2) := dq_h (dq_t (dq_t (dq_t (dq_t (dq_t (dq_t (dq_t (dq_t (dq_t dzX3_readNot_0)))))))))
theorem dX3_readNot_18 : decode cX3_readNot 18 = .ok (.invokevirtual 75, 3) := dq_h (dq_t (dq_t (dq_t (dq_t (dq_t (dq_t (dq_t (dq_t (dq_t (dq_t dzX3_readNot_0))))))))))
theorem dX3_readNot_21 : decode cX3_readNot 21 = .ok (.ifCond .eq 19, 3) := dq_h (dq_t (dq_t (dq_t (dq_t (dq_t (dq_t (dq_t (dq_t (dq_t (dq_t (dq_t dzX3_readNot_0)))))))))))
theorem dX3_readNot_24 : decode cX3_readNot 24 = .ok (.aload_n 0, 1) := dq_h (dq_t (dq_t (dq_t (dq_t (dq_t (dq_t (dq_t (dq_t (dq_t (dq_t (dq_t (dq_t dzX3_readNot_0))))))))))))
theorem dX3_readNot_25 : decode cX3_readNot 25 = .ok (.getfield 12, 3) := dq_h (dq_t (dq_t (dq_t (dq_t (dq_t (dq_t (dq_t (dq_t (dq_t (dq_t (dq_t (dq_t (dq_t dzX3_readNot_0)))))))))))))
theorem dX3_readNot_28 : decode cX3_readNot 28 = .ok (.invokevirtual 63, 3) := dq_h (dq_t (dq_t (dq_t (dq_t (dq_t (dq_t (dq_t (dq_t (dq_t (dq_t (dq_t (dq_t (dq_t (dq_t dzX3_readNot_0))))))))))))))
theorem dX3_readNot_31 : decode cX3_readNot 31 = .ok (.iinc 3 1, 3) := dq_h (dq_t (dq_t (dq_t (dq_t (dq_t (dq_t (dq_t (dq_t (dq_t (dq_t (dq_t (dq_t (dq_t (dq_t (dq_t dzX3_readNot_0)))))))))))))))
theorem dX3_readNot_34 : decode cX3_readNot 34 = .ok (.iinc 4 1, 3) := dq_h (dq_t (dq_t (dq_t (dq_t (dq_t (dq_t (dq_t (dq_t (dq_t (dq_t (dq_t (dq_t (dq_t (dq_t (dq_t (dq_t dzX3_readNot_0))))))))))))))))
theorem dX3_readNot_37 : decode cX3_readNot 37 = .ok (.goto (-32), 3) := dq_h (dq_t (dq_t (dq_t (dq_t (dq_t (dq_t (dq_t (dq_t (dq_t (dq_t (dq_t (dq_t (dq_t (dq_t (dq_t (dq_t (dq_t dzX3_readNot_0)))))))))))))))))
theorem dX3_readNot_40 : decode cX3_readNot 40 = .ok (.aload_n 0, 1) := dq_h (dq_t (dq_t (dq_t (dq_t (dq_t (dq_t (dq_t (dq_t (dq_t (dq_t (dq_t (dq_t (dq_t (dq_t (dq_t (dq_t (dq_t (dq_t dzX3_readNot_0))))))))))))))))))
theorem dX3_readNot_41 : decode cX3_readNot 41 = .ok (.getfield 12, 3) := dq_h (dq_t (dq_t (dq_t (dq_t (dq_t (dq_t (dq_t (dq_t (dq_t (dq_t (dq_t (dq_t (dq_t (dq_t (dq_t (dq_t (dq_t (dq_t (dq_t dzX3_readNot_0)))))))))))))))))))
theorem dX3_readNot_44 : decode cX3_readNot 44 = .ok (.ldc 193, 2) := dq_h (dq_t (dq_t (dq_t (dq_t (dq_t (dq_t (dq_t (dq_t (dq_t (dq_t (dq_t (dq_t (dq_t (dq_t (dq_t (dq_t (dq_t (dq_t (dq_t (dq_t dzX3_readNot_0))))))))))))))))))))
theorem dX3_readNot_46 : decode cX3_readNot 46 = .ok (.invokevirtual 75, 3) := dq_h (dq_t (dq_t (dq_t (dq_t (dq_t (dq_t (dq_t (dq_t (dq_t (dq_t (dq_t (dq_t (dq_t (dq_t (dq_t (dq_t (dq_t (dq_t (dq_t (dq_t (dq_t dzX3_readNot_0)))))))))))))))))))))
theorem dX3_readNot_49 : decode cX3_readNot 49 = .ok (.ifCond .eq 9, 3) := dq_h (dq_t (dq_t (dq_t (dq_t (dq_t (dq_t (dq_t (dq_t (dq_t (dq_t (dq_t (dq_t (dq_t (dq_t (dq_t (dq_t (dq_t (dq_t (dq_t (dq_t (dq_t (dq_t dzX3_readNot_0))))))))))))))))))))))
theorem dX3_readNot_52 : decode cX3_readNot 52 = .ok (.aload_n 0, 1) := dq_h (dq_t (dq_t (dq_t (dq_t (dq_t (dq_t (dq_t (dq_t (dq_t (dq_t (dq_t (dq_t (dq_t (dq_t (dq_t (dq_t (dq_t (dq_t (dq_t (dq_t (dq_t (dq_t (dq_t dzX3_readNot_0)))))))))))))))))))))))
theorem dzX3_readNot_53 : dq_F cX3_readNot [(53, .iconst 2, 1), (54, .invokevirtual 60, 3), (57, .return_, 1), (58, .aload_n 0, 1), (59, .aload_n 1, 1), (60, .iload_n 2, 1), (61, .invokevirtual 195, 3), (64, .iconst 0, 1), (65, .istore 4, 2), (67, .iload 4, 2), (69, .iload_n 3, 1), (70, .if_icmp .ge 16, 3), (73, .aload_n 1, 1), (74, .sipush 10010, 3), (77, .invokevirtual 185, 3), (80, .iinc 4 1, 3), (83, .goto (-16), 3), (86, .return_, 1)] := dq_s 18 53 (by decide +kernel)
theorem dX3_readNot_53 : decode cX3_readNot 53 = .ok (.iconst 2, 1) := dq_h dzX3_readNot_53
theorem dX3_readNot_54 : decode cX3_readNot 54 = .ok (.invokevirtual 60, 3) := dq_h (dq_t dzX3_readNot_53)
theorem dX3_readNot_57 : decode cX3_readNot 57 = .ok (.return_, 1) := dq_h (dq_t (dq_t dzX3_readNot_53))
theorem dX3_readNot_58 : decode cX3_readNot 58 = .ok (.aload_n 0, 1) := dq_h (dq_t (dq_t (dq_t dzX3_readNot_53)))
theorem dX3_readNot_59 : decode cX3_readNot 59 = .ok (.aload_n 1, 1) := dq_h (dq_t (dq_t (dq_t (dq_t dzX3_readNot_53))))
theorem dX3_readNot_60 : decode cX3_readNot 60 = .ok (.iload_n 2, 1) := dq_h (dq_t (dq_t (dq_t (dq_t (dq_t dzX3_readNot_53)))))
theorem dX3_readNot_61 : decode cX3_readNot 61 = .ok (.invokevirtual 195, 3) := dq_h (dq_t (dq_t (dq_t (dq_t (dq_t (dq_t dzX3_readNot_53))))))
theorem dX3_readNot_64 : decode cX3_readNot 64 = .ok (.iconst 0, 1) := dq_h (dq_t (dq_t (dq_t (dq_t (dq_t (dq_t (dq_t dzX3_readNot_53)))))))
theorem dX3_readNot_65 : decode cX3_readNot 65 = .ok (.istore 4, 2) := dq_h (dq_t (dq_t (dq_t (dq_t (dq_t (dq_t (dq_t (dq_t dzX3_readNot_53))))))))
theorem dX3_readNot_67 : decode cX3_readNot 67 = .ok (.iload 4, 2) := dq_h (dq_t (dq_t (dq_t (dq_t (dq_t (dq_t (dq_t (dq_t (dq_t dzX3_readNot_53)))))))))
theorem dX3_readNot_69 : decode cX3_readNot 69 = .ok (.iload_n 3, 1) := dq_h (dq_t (dq_t (dq_t (dq_t (dq_t (dq_t (dq_t (dq_t (dq_t (dq_t dzX3_readNot_53))))))))))
theorem dX3_readNot_70 : decode cX3_readNot 70 = .ok (.if_icmp .ge 16, 3) := dq_h (dq_t (dq_t (dq_t (dq_t (dq_t (dq_t (dq_t (dq_t (dq_t (dq_t (dq_t dzX3_readNot_53)))))))))))
theorem dX3_readNot_73 : decode cX3_readNot 73 = .ok (.aload_n 1, 1) := dq_h (dq_t (dq_t (dq_t (dq_t (dq_t (dq_t (dq_t (dq_t (dq_t (dq_t (dq_t (dq_t dzX3_readNot_53))))))))))))
theorem dX3_readNot_74 : decode cX3_readNot 74 = .ok (.sipush 10010, 3) := dq_h (dq_t (dq_t (dq_t (dq_t (dq_t (dq_t (dq_t (dq_t (dq_t (dq_t (dq_t (dq_t (dq_t dzX3_readNot_53)))))))))))))
theorem dX3_readNot_77 : decode cX3_readNot 77 = .ok (.invokevirtual 185, 3) := dq_h (dq_t (dq_t (dq_t (dq_t (dq_t (dq_t (dq_t (dq_t (dq_t (dq_t (dq_t (dq_t (dq_t (dq_t dzX3_readNot_53))))))))))))))
theorem dX3_readNot_80 : decode cX3_readNot 80 = .ok (.iinc 4 1, 3) := dq_h (dq_t (dq_t (dq_t (dq_t (dq_t (dq_t (dq_t (dq_t (dq_t (dq_t (dq_t (dq_t (dq_t (dq_t (dq_t dzX3_readNot_53)))))))))))))))
theorem dX3_readNot_83 : decode cX3_readNot 83 = .ok (.goto (-16), 3) := dq_h (dq_t (dq_t (dq_t (dq_t (dq_t (dq_t (dq_t (dq_t (dq_t (dq_t (dq_t (dq_t (dq_t (dq_t (dq_t (dq_t dzX3_readNot_53))))))))))))))))
theorem dX3_readNot_86 : decode cX3_readNot 86 = .ok (.return_, 1) := dq_h (dq_t (dq_t (dq_t (dq_t (dq_t (dq_t (dq_t (dq_t (dq_t (dq_t (dq_t (dq_t (dq_t (dq_t (dq_t (dq_t (dq_t dzX3_readNot_53)))))))))))))))))
theorem dzX3_readTest_0 : dq_F cX3_readTest [(0, .aload_n 0, 1), (1, .aload_n 1, 1), (2, .iload_n 2, 1), (3, .invokevirtual 198, 3), (6, .aload_n 0, 1), (7, .getfield 12, 3), (10, .bipush 60, 2), (12, .invokevirtual 56, 3), (15, .istore_n 3, 1), (16, .aload_n 0, 1), (17, .invokevirtual 39, 3), (20, .ifCond .eq 49, 3), (23, .iload_n 3, 1), (24, .ifCond .ne 15, 3), (27, .aload_n 0, 1), (28, .getfield 12, 3), (31, .bipush 61, 2), (33, .invokevirtual 56, 3), (36, .ifCond .eq 33, 3), (39, .aload_n 0, 1), (40, .getfield 12, 3), (43, .invokevirtual 63, 3), (46, .aload_n 0, 1), (47, .aload_n 1, 1)] := dq_s 24 0 (by decide +kernel)
theorem dX3_readTest_0 : decode cX3_readTest 0 = .ok (.aload_n 0, 1) := dq_h dzX3_readTest_0
theorem dX3_readTest_1 : decode cX3_readTest 1 = .ok (.aload_n 1, 1) := dq_h (dq_t dzX3_readTest_0)
theorem dX3_readTest_2 : decode cX3_readTest 2 = .ok (.iload_n 2, 1) := dq_h (dq_t (dq_t dzX3_readTest_0))
theorem dX3_readTest_3 : decode cX3_readTest 3 = .ok (.invokevirtual 198, 3) := dq_h (dq_t (dq_t (dq_t dzX3_readTest_0)))
theorem dX3_readTest_6 : decode cX3_readTest 6 = .ok (.aload_n 0, 1) := dq_h (dq_t (dq_t (dq_t (dq_t dzX3_readTest_0))))
theorem dX3_readTest_7 : decode cX3_readTest 7 = .ok (.getfield 12, 3) := dq_h (dq_t (dq_t (dq_t (dq_t (dq_t dzX3_readTest_0)))))
theorem dX3_readTest_10 : decode cX3_readTest 10 = .ok (.bipush 60, 2) := dq_h (dq_t (dq_t (dq_t (dq_t (dq_t (dq_t dzX3_readTest_0))))))
theorem dX3_readTest_12 : decode cX3_readTest 12 = .ok (.invokevirtual 56, 3) := dq_h (dq_t (dq_t (dq_t (dq_t (dq_t (dq_t (dq_t dzX3_readTest_0)))))))
theorem dX3_readTest_15 : decode cX3_readTest 15 = .ok (.istore_n 3, 1) := dq_h (dq_t (dq_t (dq_t (dq_t (dq_t (dq_t (dq_t (dq_t dzX3_readTest_0))))))))
theorem dX3_readTest_16 : decode cX3_readTest 16 = .ok (.aload_n 0, 1) := dq_h (dq_t (dq_t (dq_t (dq_t (dq_t (dq_t (dq_t (dq_t (dq_t dzX3_readTest_0)))))))))
theorem dX3_readTest_17 : decode cX3_readTest 17 = .ok (.invokevirtual 39, 3) := dq_h (dq_t (dq_t (dq_t (dq_t (dq_t (dq_t (dq_t (dq_t (dq_t (dq_t dzX3_readTest_0))))))))))
theorem dX3_readTest_20 : decode cX3_readTest 20 = .ok (.ifCond .eq 49, 3) := dq_h (dq_t (dq_t (dq_t (dq_t (dq_t (dq_t (dq_t (dq_t (dq_t (dq_t (dq_t dzX3_readTest_0)))))))))))
theorem dX3_readTest_23 : decode cX3_readTest 23 = .ok (.iload_n 3, 1) := dq_h (dq_t (dq_t (dq_t (dq_t (dq_t (dq_t (dq_t (dq_t (dq_t (dq_t (dq_t (dq_t dzX3_readTest_0))))))))))))
theorem dX3_readTest_24 : decode cX3_readTest 24 = .ok (.ifCond .ne 15, 3) := dq_h (dq_t (dq_t (dq_t (dq_t (dq_t (dq_t (dq_t (dq_t (dq_t (dq_t (dq_t (dq_t (dq_t dzX3_readTest_0)))))))))))))
theorem dX3_readTest_27 : decode cX3_readTest 27 = .ok (.aload_n 0, 1) := dq_h (dq_t (dq_t (dq_t (dq_t (dq_t (dq_t (dq_t (dq_t (dq_t (dq_t (dq_t (dq_t (dq_t (dq_t dzX3_readTest_0))))))))))))))
theorem dX3_readTest_28 : decode cX3_readTest 28 = .ok (.getfield 12, 3) := dq_h (dq_t (dq_t (dq_t (dq_t (dq_t (dq_t (dq_t (dq_t (dq_t (dq_t (dq_t (dq_t (dq_t (dq_t (dq_t dzX3_readTest_0)))))))))))))))
theorem dX3_readTest_31 : decode cX3_readTest 31 = .ok (.bipush 61, 2) := dq_h (dq_t (dq_t (dq_t (dq_t (dq_t (dq_t (dq_t (dq_t (dq_t (dq_t (dq_t (dq_t (dq_t (dq_t (dq_t (dq_t dzX3_readTest_0))))))))))))))))
theorem dX3_readTest_33 : decode cX3_readTest 33 = .ok (.invokevirtual 56, 3) := dq_h (dq_t (dq_t (dq_t (dq_t (dq_t (dq_t (dq_t (dq_t (dq_t (dq_t (dq_t (dq_t (dq_t (dq_t (dq_t (dq_t (dq_t dzX3_readTest_0)))))))))))))))))
theorem dX3_readTest_36 : decode cX3_readTest 36 = .ok (.ifCond .eq 33, 3) := dq_h (dq_t (dq_t (dq_t (dq_t (dq_t (dq_t (dq_t (dq_t (dq_t (dq_t (dq_t (dq_t (dq_t (dq_t (dq_t (dq_t (dq_t (dq_t dzX3_readTest_0))))))))))))))))))
theorem dX3_readTest_39 : decode cX3_readTest 39 = .ok (.aload_n 0, 1) := dq_h (dq_t (dq_t (dq_t (dq_t (dq_t (dq_t (dq_t (dq_t (dq_t (dq_t (dq_t (dq_t (dq_t (dq_t (dq_t (dq_t (dq_t (dq_t (dq_t dzX3_readTest_0)))))))))))))))))))
theorem dX3_readTest_40 : decode cX3_readTest 40 = .ok (.getfield 12, 3) := dq_h (dq_t (dq_t (dq_t (dq_t (dq_t (dq_t (dq_t (dq_t (dq_t (dq_t (dq_t (dq_t (dq_t (dq_t (dq_t (dq_t (dq_t (dq_t (dq_t (dq_t dzX3_readTest_0))))))))))))))))))))
theorem dX3_readTest_43 : decode cX3_readTest 43 = .ok (.invokevirtual 63, 3) := dq_h (dq_t (dq_t (dq_t (dq_t (dq_t (dq_t (dq_t (dq_t (dq_t (dq_t (dq_t (dq_t (dq_t (dq_t (dq_t (dq_t (dq_t (dq_t (dq_t (dq_t (dq_t dzX3_readTest_0)))))))))))))))))))))
theorem dX3_readTest_46 : decode cX3_readTest 46 = .ok (.aload_n 0, 1) := dq_h (dq_t (dq_t (dq_t (dq_t (dq_t (dq_t (dq_t (dq_t (dq_t (dq_t (dq_t (dq_t (dq_t (dq_t (dq_t (dq_t (dq_t (dq_t (dq_t (dq_t (dq_t (dq_t dzX3_readTest_0))))))))))))))))))))))
theorem dX3_readTest_47 : decode cX3_readTest 47 = .ok (.aload_n 1, 1) := dq_h (dq_t (dq_t (dq_t (dq_t (dq_t (dq_t (dq_t (dq_t (dq_t (dq_t (dq_t (dq_t (dq_t (dq_t (dq_t (dq_t (dq_t (dq_t (dq_t (dq_t (dq_t (dq_t (dq_t dzX3_readTest_0)))))))))))))))))))))))
theorem dzX3_readTest_48 : dq_F cX3_readTest [(48, .iload_n 2, 1), (49, .invokevirtual 198, 3), (52, .aload_n 1, 1), (53, .iload_n 3, 1), (54, .ifCond .eq 9, 3), (57, .sipush 10013, 3), (60, .goto 6, 3), (63, .sipush 10014, 3), (66, .invokevirtual 185, 3), (69, .return_, 1)] := dq_s 10 48 (by decide +kernel)
theorem dX3_readTest_48 : decode cX3_readTest 48 = .ok (.iload_n 2, 1) := dq_h dzX3_readTest_48
theorem dX3_readTest_49 : decode cX3_readTest 49 = .ok (.invokevirtual 198, 3) := dq_h (dq_t dzX3_readTest_48)
theorem dX3_readTest_52 : decode cX3_readTest 52 = .ok (.aload_n 1, 1) := dq_h (dq_t (dq_t dzX3_readTest_48))
theorem dX3_readTest_53 : decode cX3_readTest 53 = .ok (.iload_n 3, 1) := dq_h (dq_t (dq_t (dq_t dzX3_readTest_48)))
theorem dX3_readTest_54 : decode cX3_readTest 54 = .ok (.ifCond .eq 9, 3) := dq_h (dq_t (dq_t (dq_t (dq_t dzX3_readTest_48))))
theorem dX3_readTest_57 : decode cX3_readTest 57 = .ok (.sipush 10013, 3) := dq_h (dq_t (dq_t (dq_t (dq_t (dq_t dzX3_readTest_48)))))
theorem dX3_readTest_60 : decode cX3_readTest 60 = .ok (.goto 6, 3) := dq_h (dq_t (dq_t (dq_t (dq_t (dq_t (dq_t dzX3_readTest_48))))))
theorem dX3_readTest_63 : decode cX3_readTest 63 = .ok (.sipush 10014, 3) := dq_h (dq_t (dq_t (dq_t (dq_t (dq_t (dq_t (dq_t dzX3_readTest_48)))))))
theorem dX3_readTest_66 : decode cX3_readTest 66 = .ok (.invokevirtual 185, 3) := dq_h (dq_t (dq_t (dq_t (dq_t (dq_t (dq_t (dq_t (dq_t dzX3_readTest_48))))))))
theorem dX3_readTest_69 : decode cX3_readTest 69 = .ok (.return_, 1) := dq_h (dq_t (dq_t (dq_t (dq_t (dq_t (dq_t (dq_t (dq_t (dq_t dzX3_readTest_48)))))))))
theorem dzX3_readSum_0 : dq_F cX3_readSum [(0, .aload_n 0, 1), (1, .aload_n 1, 1), (2, .iload_n 2, 1), (3, .invokevirtual 201, 3), (6, .iconst 0, 1), (7, .istore_n 3, 1), (8, .iload_n 3, 1), (9, .sipush 700, 3), (12, .if_icmp .ge 82, 3), (15, .aload_n 0, 1), (16, .invokevirtual 39, 3), (19, .ifCond .eq 75, 3), (22, .aload_n 0, 1), (23, .getfield 12, 3), (26, .bipush 43, 2), (28, .invokevirtual 56, 3), (31, .ifCond .ne 15, 3), (34, .aload_n 0, 1), (35, .getfield 12, 3), (38, .bipush 45, 2), (40, .invokevirtual 56, 3), (43, .ifCond .eq 51, 3), (46, .aload_n 0, 1), (47, .getfield 12, 3)] := dq_s 24 0 (by decide +kernel)
theorem dX3_readSum_0 : decode cX3_readSum 0 = .ok (.aload_n 0, 1) := dq_h dzX3_readSum_0
theorem dX3_readSum_1 : decode cX3_readSum 1 = .ok (.aload_n 1, 1) := dq_h (dq_t dzX3_readSum_0)
theorem dX3_readSum_2 : decode cX3_readSum 2 = .ok (.iload_n 2, 1) := dq_h (dq_t (dq_t dzX3_readSum_0))
theorem dX3_readSum_3 : decode cX3_readSum 3 = .ok (.invokevirtual 201, 3) := dq_h (dq_t (dq_t (dq_t dzX3_readSum_0)))
theorem dX3_readSum_6 : decode cX3_readSum 6 = .ok (.iconst 0, 1) := dq_h (dq_t (dq_t (dq_t (dq_t dzX3_readSum_0))))
theorem dX3_readSum_7 : decode cX3_readSum 7 = .ok (.istore_n 3, 1) := dq_h (dq_t (dq_t (dq_t (dq_t (dq_t dzX3_readSum_0)))))
theorem dX3_readSum_8 : decode cX3_readSum 8 = .ok (.iload_n 3, 1) := dq_h (dq_t (dq_t (dq_t (dq_t (dq_t (dq_t dzX3_readSum_0))))))
theorem dX3_readSum_9 : decode cX3_readSum 9 = .ok (.sipush 700, 3) := dq_h (dq_t (dq_t (dq_t (dq_t (dq_t (dq_t (dq_t dzX3_readSum_0)))))))
theorem dX3_readSum_12 : decode cX3_readSum 12 = .ok (.if_icmp .ge 82, 3) := dq_h (dq_t (dq_t (dq_t (dq_t (dq_t (dq_t (dq_t (dq_t dzX3_readSum_0))))))))
theorem dX3_readSum_15 : decode cX3_readSum 15 = .ok (.aload_n 0, 1) := dq_h (dq_t (dq_t (dq_t (dq_t (dq_t (dq_t (dq_t (dq_t (dq_t dzX3_readSum_0)))))))))
theorem dX3_readSum_16 : decode cX3_readSum 16 = .ok (.invokevirtual 39, 3) := dq_h (dq_t (dq_t (dq_t (dq_t (dq_t (dq_t (dq_t (dq_t (dq_t (dq_t dzX3_readSum_0))))))))))
theorem dX3_readSum_19 : decode cX3_readSum 19 = .ok (.ifCond .eq 75, 3) := dq_h (dq_t (dq_t (dq_t (dq_t (dq_t (dq_t (dq_t (dq_t (dq_t (dq_t (dq_t dzX3_readSum_0)))))))))))
theorem dX3_readSum_22 : decode cX3_readSum 22 = .ok (.aload_n 0, 1) := dq_h (dq_t (dq_t (dq_t (dq_t (dq_t (dq_t (dq_t (dq_t (dq_t (dq_t (dq_t (dq_t dzX3_readSum_0))))))))))))
theorem dX3_readSum_23 : decode cX3_readSum 23 = .ok (.getfield 12, 3) := dq_h (dq_t (dq_t (dq_t (dq_t (dq_t (dq_t (dq_t (dq_t (dq_t (dq_t (dq_t (dq_t (dq_t dzX3_readSum_0)))))))))))))
theorem dX3_readSum_26 : decode cX3_readSum 26 = .ok (.bipush 43, 2) := dq_h (dq_t (dq_t (dq_t (dq_t (dq_t (dq_t (dq_t (dq_t (dq_t (dq_t (dq_t (dq_t (dq_t (dq_t dzX3_readSum_0))))))))))))))
theorem dX3_readSum_28 : decode cX3_readSum 28 = .ok (.invokevirtual 56, 3) := dq_h (dq_t (dq_t (dq_t (dq_t (dq_t (dq_t (dq_t (dq_t (dq_t (dq_t (dq_t (dq_t (dq_t (dq_t (dq_t dzX3_readSum_0)))))))))))))))
theorem dX3_readSum_31 : decode cX3_readSum 31 = .ok (.ifCond .ne 15, 3) := dq_h (dq_t (dq_t (dq_t (dq_t (dq_t (dq_t (dq_t (dq_t (dq_t (dq_t (dq_t (dq_t (dq_t (dq_t (dq_t (dq_t dzX3_readSum_0))))))))))))))))
theorem dX3_readSum_34 : decode cX3_readSum 34 = .ok (.aload_n 0, 1) := dq_h (dq_t (dq_t (dq_t (dq_t (dq_t (dq_t (dq_t (dq_t (dq_t (dq_t (dq_t (dq_t (dq_t (dq_t (dq_t (dq_t (dq_t dzX3_readSum_0)))))))))))))))))
theorem dX3_readSum_35 : decode cX3_readSum 35 = .ok (.getfield 12, 3) := dq_h (dq_t (dq_t (dq_t (dq_t (dq_t (dq_t (dq_t (dq_t (dq_t (dq_t (dq_t (dq_t (dq_t (dq_t (dq_t (dq_t (dq_t (dq_t dzX3_readSum_0))))))))))))))))))
theorem dX3_readSum_38 : decode cX3_readSum 38 = .ok (.bipush 45, 2) := dq_h (dq_t (dq_t (dq_t (dq_t (dq_t (dq_t (dq_t (dq_t (dq_t (dq_t (dq_t (dq_t (dq_t (dq_t (dq_t (dq_t (dq_t (dq_t (dq_t dzX3_readSum_0)))))))))))))))))))
theorem dX3_readSum_40 : decode cX3_readSum 40 = .ok (.invokevirtual 56, 3) := dq_h (dq_t (dq_t (dq_t (dq_t (dq_t (dq_t (dq_t (dq_t (dq_t (dq_t (dq_t (dq_t (dq_t (dq_t (dq_t (dq_t (dq_t (dq_t (dq_t (dq_t dzX3_readSum_0))))))))))))))))))))
theorem dX3_readSum_43 : decode cX3_readSum 43 = .ok (.ifCond .eq 51, 3) := dq_h (dq_t (dq_t (dq_t (dq_t (dq_t (dq_t (dq_t (dq_t (dq_t (dq_t (dq_t (dq_t (dq_t (dq_t (dq_t (dq_t (dq_t (dq_t (dq_t (dq_t (dq_t dzX3_readSum_0)))))))))))))))))))))
theorem dX3_readSum_46 : decode cX3_readSum 46 = .ok (.aload_n 0, 1) := dq_h (dq_t (dq_t (dq_t (dq_t (dq_t (dq_t (dq_t (dq_t (dq_t (dq_t (dq_t (dq_t (dq_t (dq_t (dq_t (dq_t (dq_t (dq_t (dq_t (dq_t (dq_t (dq_t dzX3_readSum_0))))))))))))))))))))))
theorem dX3_readSum_47 : decode cX3_readSum 47 = .ok (.getfield 12, 3) := dq_h (dq_t (dq_t (dq_t (dq_t (dq_t (dq_t (dq_t (dq_t (dq_t (dq_t (dq_t (dq_t (dq_t (dq_t (dq_t (dq_t (dq_t (dq_t (dq_t (dq_t (dq_t (dq_t (dq_t dzX3_readSum_0)))))))))))))))))))))))
theorem dzX3_readSum_50 : dq_F cX3_readSum [(50, .bipush 43, 2), (52, .invokevirtual 56, 3), (55, .ifCond .eq 9, 3), (58, .sipush 10015, 3), (61, .goto 6, 3), (64, .sipush 10016, 3), (67, .istore 4, 2), (69, .aload_n 0, 1), (70, .getfield 12, 3), (73, .invokevirtual 63, 3), (76, .aload_n 0, 1), (77, .aload_n 1, 1), (78, .iload_n 2, 1), (79, .invokevirtual 201, 3), (82, .aload_n 1, 1), (83, .iload 4, 2), (85, .invokevirtual 185, 3), (88, .iinc 3 1, 3), (91, .goto (-83), 3), (94, .return_, 1)] := dq_s 20 50 (by decide +kernel)
theorem dX3_readSum_50 : decode cX3_readSum 50 = .ok (.bipush 43, 2) := dq_h dzX3_readSum_50
theorem dX3_readSum_52 : decode cX3_readSum 52 = .ok (.invokevirtual 56, 3) := dq_h (dq_t dzX3_readSum_50)
theorem dX3_readSum_55 : decode cX3_readSum 55 = .ok (.ifCond .eq 9, 3) := dq_h (dq_t (dq_t dzX3_readSum_50))
theorem dX3_readSum_58 : decode cX3_readSum 58 = .ok (.sipush 10015, 3) := dq_h (dq_t (dq_t (dq_t dzX3_readSum_50)))
theorem dX3_readSum_61 : decode cX3_readSum 61 = .ok (.goto 6, 3) := dq_h (dq_t (dq_t (dq_t (dq_t dzX3_readSum_50))))
theorem dX3_readSum_64 : decode cX3_readSum 64 = .ok (.sipush 10016, 3) := dq_h (dq_t (dq_t (dq_t (dq_t (dq_t dzX3_readSum_50)))))
theorem dX3_readSum_67 : decode cX3_readSum 67 = .ok (.istore 4, 2) := dq_h (dq_t (dq_t (dq_t (dq_t (dq_t (dq_t dzX3_readSum_50))))))
theorem dX3_readSum_69 : decode cX3_readSum 69 = .ok (.aload_n 0, 1) := dq_h (dq_t (dq_t (dq_t (dq_t (dq_t (dq_t (dq_t dzX3_readSum_50)))))))
theorem dX3_readSum_70 : decode cX3_readSum 70 = .ok (.getfield 12, 3) := dq_h (dq_t (dq_t (dq_t (dq_t (dq_t (dq_t (dq_t (dq_t dzX3_readSum_50))))))))
theorem dX3_readSum_73 : decode cX3_readSum 73 = .ok (.invokevirtual 63, 3) := dq_h (dq_t (dq_t (dq_t (dq_t (dq_t (dq_t (dq_t (dq_t (dq_t dzX3_readSum_50)))))))))
theorem dX3_readSum_76 : decode cX3_readSum 76 = .ok (.aload_n 0, 1) := dq_h (dq_t (dq_t (dq_t (dq_t (dq_t (dq_t (dq_t (dq_t (dq_t (dq_t dzX3_readSum_50))))))))))
theorem dX3_readSum_77 : decode cX3_readSum 77 = .ok (.aload_n 1, 1) := dq_h (dq_t (dq_t (dq_t (dq_t (dq_t (dq_t (dq_t (dq_t (dq_t (dq_t (dq_t dzX3_readSum_50)))))))))))
theorem dX3_readSum_78 : decode cX3_readSum 78 = .ok (.iload_n 2, 1) := dq_h (dq_t (dq_t (dq_t (dq_t (dq_t (dq_t (dq_t (dq_t (dq_t (dq_t (dq_t (dq_t dzX3_readSum_50))))))))))))
theorem dX3_readSum_79 : decode cX3_readSum 79 = .ok (.invokevirtual 201, 3) := dq_h (dq_t (dq_t (dq_t (dq_t (dq_t (dq_t (dq_t (dq_t (dq_t (dq_t (dq_t (dq_t (dq_t dzX3_readSum_50)))))))))))))
theorem dX3_readSum_82 : decode cX3_readSum 82 = .ok (.aload_n 1, 1) := dq_h (dq_t (dq_t (dq_t (dq_t (dq_t (dq_t (dq_t (dq_t (dq_t (dq_t (dq_t (dq_t (dq_t (dq_t dzX3_readSum_50))))))))))))))
theorem dX3_readSum_83 : decode cX3_readSum 83 = .ok (.iload 4, 2) := dq_h (dq_t (dq_t (dq_t (dq_t (dq_t (dq_t (dq_t (dq_t (dq_t (dq_t (dq_t (dq_t (dq_t (dq_t (dq_t dzX3_readSum_50)))))))))))))))
theorem dX3_readSum_85 : decode cX3_readSum 85 = .ok (.invokevirtual 185, 3) := dq_h (dq_t (dq_t (dq_t (dq_t (dq_t (dq_t (dq_t (dq_t (dq_t (dq_t (dq_t (dq_t (dq_t (dq_t (dq_t (dq_t dzX3_readSum_50))))))))))))))))
theorem dX3_readSum_88 : decode cX3_readSum 88 = .ok (.iinc 3 1, 3) := dq_h (dq_t (dq_t (dq_t (dq_t (dq_t (dq_t (dq_t (dq_t (dq_t (dq_t (dq_t (dq_t (dq_t (dq_t (dq_t (dq_t (dq_t dzX3_readSum_50)))))))))))))))))
theorem dX3_readSum_91 : decode cX3_readSum 91 = .ok (.goto (-83), 3) := dq_h (dq_t (dq_t (dq_t (dq_t (dq_t (dq_t (dq_t (dq_t (dq_t (dq_t (dq_t (dq_t (dq_t (dq_t (dq_t (dq_t (dq_t (dq_t dzX3_readSum_50))))))))))))))))))
theorem dX3_readSum_94 : decode cX3_readSum 94 = .ok (.return_, 1) := dq_h (dq_t (dq_t (dq_t (dq_t (dq_t (dq_t (dq_t (dq_t (dq_t (dq_t (dq_t (dq_t (dq_t (dq_t (dq_t (dq_t (dq_t (dq_t (dq_t dzX3_readSum_50)))))))))))))))))))
theorem dzX3_readProduct_0 : dq_F cX3_readProduct [(0, .aload_n 0, 1), (1, .aload_n 1, 1), (2, .iload_n 2, 1), (3, .invokevirtual 204, 3), (6, .iconst 0, 1), (7, .istore_n 3, 1), (8, .iload_n 3, 1), (9, .sipush 700, 3), (12, .if_icmp .ge 82, 3), (15, .aload_n 0, 1), (16, .invokevirtual 39, 3), (19, .ifCond .eq 75, 3), (22, .aload_n 0, 1), (23, .getfield 12, 3), (26, .bipush 42, 2), (28, .invokevirtual 56, 3), (31, .ifCond .ne 15, 3), (34, .aload_n 0, 1), (35, .getfield 12, 3), (38, .bipush 47, 2), (40, .invokevirtual 56, 3), (43, .ifCond .eq 51, 3), (46, .aload_n 0, 1), (47, .getfield 12, 3)] := dq_s 24 0 (by decide +kernel)
theorem dX3_readProduct_0 : decode cX3_readProduct 0 = .ok (.aload_n 0, 1) := dq_h dzX3_readProduct_0
theorem dX3_readProduct_1 : decode cX3_readProduct 1 = .ok (.aload_n 1, 1) := dq_h (dq_t dzX3_readProduct_0)
theorem dX3_readProduct_2 : decode cX3_readProduct 2 = .ok (.iload_n 2, 1) := dq_h (dq_t (dq_t dzX3_readProduct_0))
theorem dX3_readProduct_3 : decode cX3_readProduct 3 = .ok (.invokevirtual 204, 3) := dq_h (dq_t (dq_t (dq_t dzX3_readProduct_0)))
theorem dX3_readProduct_6 : decode cX3_readProduct 6 = .ok (.iconst 0, 1) := dq_h (dq_t (dq_t (dq_t (dq_t dzX3_readProduct_0))))
theorem dX3_readProduct_7 : decode cX3_readProduct 7 = .ok (.istore_n 3, 1) := dq_h (dq_t (dq_t (dq_t (dq_t (dq_t dzX3_readProduct_0)))))
theorem dX3_readProduct_8 : decode cX3_readProduct 8 = .ok (.iload_n 3, 1) := dq_h (dq_t (dq_t (dq_t (dq_t (dq_t (dq_t dzX3_readProduct_0))))))
theorem dX3_readProduct_9 : decode cX3_readProduct 9 = .ok (.sipush 700, 3) := dq_h (dq_t (dq_t (dq_t (dq_t (dq_t (dq_t (dq_t dzX3_readProduct_0)))))))
theorem dX3_readProduct_12 : decode cX3_readProduct 12 = .ok (.if_icmp .ge 82, 3) := dq_h (dq_t (dq_t (dq_t (dq_t (dq_t (dq_t (dq_t (dq_t dzX3_readProduct_0))))))))
theorem dX3_readProduct_15 : decode cX3_readProduct 15 = .ok (.aload_n 0, 1) := dq_h (dq_t (dq_t (dq_t (dq_t (dq_t (dq_t (dq_t (dq_t (dq_t dzX3_readProduct_0)))))))))
theorem dX3_readProduct_16 : decode cX3_readProduct 16 = .ok (.invokevirtual 39, 3) := dq_h (dq_t (dq_t (dq_t (dq_t (dq_t (dq_t (dq_t (dq_t (dq_t (dq_t dzX3_readProduct_0))))))))))
theorem dX3_readProduct_19 : decode cX3_readProduct 19 = .ok (.ifCond .eq 75, 3) := dq_h (dq_t (dq_t (dq_t (dq_t (dq_t (dq_t (dq_t (dq_t (dq_t (dq_t (dq_t dzX3_readProduct_0)))))))))))
theorem dX3_readProduct_22 : decode cX3_readProduct 22 = .ok (.aload_n 0, 1) := dq_h (dq_t (dq_t (dq_t (dq_t (dq_t (dq_t (dq_t (dq_t (dq_t (dq_t (dq_t (dq_t dzX3_readProduct_0))))))))))))
theorem dX3_readProduct_23 : decode cX3_readProduct 23 = .ok (.getfield 12, 3) := dq_h (dq_t (dq_t (dq_t (dq_t (dq_t (dq_t (dq_t (dq_t (dq_t (dq_t (dq_t (dq_t (dq_t dzX3_readProduct_0)))))))))))))
theorem dX3_readProduct_26 : decode cX3_readProduct 26 = .ok (.bipush 42, 2) := dq_h (dq_t (dq_t (dq_t (dq_t (dq_t (dq_t (dq_t (dq_t (dq_t (dq_t (dq_t (dq_t (dq_t (dq_t dzX3_readProduct_0))))))))))))))
theorem dX3_readProduct_28 : decode cX3_readProduct 28 = .ok (.invokevirtual 56, 3) := dq_h (dq_t (dq_t (dq_t (dq_t (dq_t (dq_t (dq_t (dq_t (dq_t (dq_t (dq_t (dq_t (dq_t (dq_t (dq_t dzX3_readProduct_0)))))))))))))))
theorem dX3_readProduct_31 : decode cX3_readProduct 31 = .ok (.ifCond .ne 15, 3) := dq_h (dq_t (dq_t (dq_t (dq_t (dq_t (dq_t (dq_t (dq_t (dq_t (dq_t (dq_t (dq_t (dq_t (dq_t (dq_t (dq_t dzX3_readProduct_0))))))))))))))))
theorem dX3_readProduct_34 : decode cX3_readProduct 34 = .ok (.aload_n 0, 1) := dq_h (dq_t (dq_t (dq_t (dq_t (dq_t (dq_t (dq_t (dq_t (dq_t (dq_t (dq_t (dq_t (dq_t (dq_t (dq_t (dq_t (dq_t dzX3_readProduct_0)))))))))))))))))
theorem dX3_readProduct_35 : decode cX3_readProduct 35 = .ok (.getfield 12, 3) := dq_h (dq_t (dq_t (dq_t (dq_t (dq_t (dq_t (dq_t (dq_t (dq_t (dq_t (dq_t (dq_t (dq_t (dq_t (dq_t (dq_t (dq_t (dq_t dzX3_readProduct_0))))))))))))))))))
theorem dX3_readProduct_38 : decode cX3_readProduct 38 = .ok (.bipush 47, 2) := dq_h (dq_t (dq_t (dq_t (dq_t (dq_t (dq_t (dq_t (dq_t (dq_t (dq_t (dq_t (dq_t (dq_t (dq_t (dq_t (dq_t (dq_t (dq_t (dq_t dzX3_readProduct_0)))))))))))))))))))
theorem dX3_readProduct_40 : decode cX3_readProduct 40 = .ok (.invokevirtual 56, 3) := dq_h (dq_t (dq_t (dq_t (dq_t (dq_t (dq_t (dq_t (dq_t (dq_t (dq_t (dq_t (dq_t (dq_t (dq_t (dq_t (dq_t (dq_t (dq_t (dq_t (dq_t dzX3_readProduct_0))))))))))))))))))))
theorem dX3_readProduct_43 : decode cX3_readProduct 43 = .ok (.ifCond .eq 51, 3) := dq_h (dq_t (dq_t (dq_t (dq_t (dq_t (dq_t (dq_t (dq_t (dq_t (dq_t (dq_t (dq_t (dq_t (dq_t (dq_t (dq_t (dq_t (dq_t (dq_t (dq_t (dq_t dzX3_readProduct_0)))))))))))))))))))))
theorem dX3_readProduct_46 : decode cX3_readProduct 46 = .ok (.aload_n 0, 1) := dq_h (dq_t (dq_t (dq_t (dq_t (dq_t (dq_t (dq_t (dq_t (dq_t (dq_t (dq_t (dq_t (dq_t (dq_t (dq_t (dq_t (dq_t (dq_t (dq_t (dq_t (dq_t (dq_t dzX3_readProduct_0))))))))))))))))))))))
theorem dX3_readProduct_47 : decode cX3_readProduct 47 = .ok (.getfield 12, 3) := dq_h (dq_t (dq_t (dq_t (dq_t (dq_t (dq_t (dq_t (dq_t (dq_t (dq_t (dq_t (dq_t (dq_t (dq_t (dq_t (dq_t (dq_t (dq_t (dq_t (dq_t (dq_t (dq_t (dq_t dzX3_readProduct_0)))))))))))))))))))))))
theorem dzX3_readProduct_50 : dq_F cX3_readProduct [(50, .bipush 42, 2), (52, .invokevirtual 56, 3), (55, .ifCond .eq 9, 3), (58, .sipush 10017, 3), (61, .goto 6, 3), (64, .sipush 10018, 3), (67, .istore 4, 2), (69, .aload_n 0, 1), (70, .getfield 12, 3), (73, .invokevirtual 63, 3), (76, .aload_n 0, 1), (77, .aload_n 1, 1), (78, .iload_n 2, 1), (79, .invokevirtual 204, 3), (82, .aload_n 1, 1), (83, .iload 4, 2), (85, .invokevirtual 185, 3), (88, .iinc 3 1, 3), (91, .goto (-83), 3), (94, .return_, 1)] := dq_s 20 50 (by decide +kernel)
theorem dX3_readProduct_50 : decode cX3_readProduct 50 = .ok (.bipush 42, 2) := dq_h dzX3_readProduct_50
theorem dX3_readProduct_52 : decode cX3_readProduct 52 = .ok (.invokevirtual 56, 3) := dq_h (dq_t dzX3_readProduct_50)
theorem dX3_readProduct_55 : decode cX3_readProduct 55 = .ok (.ifCond .eq 9, 3) := dq_h (dq_t (dq_t dzX3_readProduct_50))
theorem dX3_readProduct_58 : decode cX3_readProduct 58 = .ok (.sipush 10017, 3) := dq_h (dq_t (dq_t (dq_t dzX3_readProduct_50)))
theorem dX3_readProduct_61 : decode cX3_readProduct 61 = .ok (.goto 6, 3) := dq_h (dq_t (dq_t (dq_t (dq_t dzX3_readProduct_50))))
theorem dX3_readProduct_64 : decode cX3_readProduct 64 = .ok (.sipush 10018, 3) := dq_h (dq_t (dq_t (dq_t (dq_t (dq_t dzX3_readProduct_50)))))
theorem dX3_readProduct_67 : decode cX3_readProduct 67 = .ok (.istore 4, 2) := dq_h (dq_t (dq_t (dq_t (dq_t (dq_t (dq_t dzX3_readProduct_50))))))
theorem dX3_readProduct_69 : decode cX3_readProduct 69 = .ok (.aload_n 0, 1) := dq_h (dq_t (dq_t (dq_t (dq_t (dq_t (dq_t (dq_t dzX3_readProduct_50)))))))
theorem dX3_readProduct_70 : decode cX3_readProduct 70 = .ok (.getfield 12, 3) := dq_h (dq_t (dq_t (dq_t (dq_t (dq_t (dq_t (dq_t (dq_t dzX3_readProduct_50))))))))
theorem dX3_readProduct_73 : decode cX3_readProduct 73 = .ok (.invokevirtual 63, 3) := dq_h (dq_t (dq_t (dq_t (dq_t (dq_t (dq_t (dq_t (dq_t (dq_t dzX3_readProduct_50)))))))))
theorem dX3_readProduct_76 : decode cX3_readProduct 76 = .ok (.aload_n 0, 1) := dq_h (dq_t (dq_t (dq_t (dq_t (dq_t (dq_t (dq_t (dq_t (dq_t (dq_t dzX3_readProduct_50))))))))))
theorem dX3_readProduct_77 : decode cX3_readProduct 77 = .ok (.aload_n 1, 1) := dq_h (dq_t (dq_t (dq_t (dq_t (dq_t (dq_t (dq_t (dq_t (dq_t (dq_t (dq_t dzX3_readProduct_50)))))))))))
theorem dX3_readProduct_78 : decode cX3_readProduct 78 = .ok (.iload_n 2, 1) := dq_h (dq_t (dq_t (dq_t (dq_t (dq_t (dq_t (dq_t (dq_t (dq_t (dq_t (dq_t (dq_t dzX3_readProduct_50))))))))))))
theorem dX3_readProduct_79 : decode cX3_readProduct 79 = .ok (.invokevirtual 204, 3) := dq_h (dq_t (dq_t (dq_t (dq_t (dq_t (dq_t (dq_t (dq_t (dq_t (dq_t (dq_t (dq_t (dq_t dzX3_readProduct_50)))))))))))))
theorem dX3_readProduct_82 : decode cX3_readProduct 82 = .ok (.aload_n 1, 1) := dq_h (dq_t (dq_t (dq_t (dq_t (dq_t (dq_t (dq_t (dq_t (dq_t (dq_t (dq_t (dq_t (dq_t (dq_t dzX3_readProduct_50))))))))))))))
theorem dX3_readProduct_83 : decode cX3_readProduct 83 = .ok (.iload 4, 2) := dq_h (dq_t (dq_t (dq_t (dq_t (dq_t (dq_t (dq_t (dq_t (dq_t (dq_t (dq_t (dq_t (dq_t (dq_t (dq_t dzX3_readProduct_50)))))))))))))))
theorem dX3_readProduct_85 : decode cX3_readProduct 85 = .ok (.invokevirtual 185, 3) := dq_h (dq_t (dq_t (dq_t (dq_t (dq_t (dq_t (dq_t (dq_t (dq_t (dq_t (dq_t (dq_t (dq_t (dq_t (dq_t (dq_t dzX3_readProduct_50))))))))))))))))
theorem dX3_readProduct_88 : decode cX3_readProduct 88 = .ok (.iinc 3 1, 3) := dq_h (dq_t (dq_t (dq_t (dq_t (dq_t (dq_t (dq_t (dq_t (dq_t (dq_t (dq_t (dq_t (dq_t (dq_t (dq_t (dq_t (dq_t dzX3_readProduct_50)))))))))))))))))
theorem dX3_readProduct_91 : decode cX3_readProduct 91 = .ok (.goto (-83), 3) := dq_h (dq_t (dq_t (dq_t (dq_t (dq_t (dq_t (dq_t (dq_t (dq_t (dq_t (dq_t (dq_t (dq_t (dq_t (dq_t (dq_t (dq_t (dq_t dzX3_readProduct_50))))))))))))))))))
theorem dX3_readProduct_94 : decode cX3_readProduct 94 = .ok (.return_, 1) := dq_h (dq_t (dq_t (dq_t (dq_t (dq_t (dq_t (dq_t (dq_t (dq_t (dq_t (dq_t (dq_t (dq_t (dq_t (dq_t (dq_t (dq_t (dq_t (dq_t dzX3_readProduct_50)))))))))))))))))))
theorem dzX3_readPart_0 : dq_F cX3_readPart [(0, .aload_n 0, 1), (1, .getfield 12, 3), (4, .bipush 40, 2), (6, .invokevirtual 56, 3), (9, .ifCond .eq 27, 3), (12, .aload_n 0, 1), (13, .getfield 12, 3), (16, .invokevirtual 63, 3), (19, .aload_n 0, 1), (20, .aload_n 1, 1), (21, .iload_n 2, 1), (22, .iconst 1, 1), (23, .iadd, 1), (24, .invokevirtual 176, 3), (27, .aload_n 0, 1), (28, .bipush 41, 2), (30, .invokevirtual 49, 3), (33, .goto 62, 3), (36, .aload_n 0, 1), (37, .getfield 12, 3), (40, .getfield 43, 3), (43, .iconst 1, 1), (44, .if_icmp .eq 18, 3), (47, .aload_n 1, 1)] := dq_s 24 0 (by decide +kernel)
theorem dX3_readPart_0 : decode cX3_readPart 0 = .ok (.aload_n 0, 1) := dq_h dzX3_readPart_0
theorem dX3_readPart_1 : decode cX3_readPart 1 = .ok (.getfield 12, 3) := dq_h (dq_t dzX3_readPart_0)
theorem dX3_readPart_4 : decode cX3_readPart 4 = .ok (.bipush 40, 2) := dq_h (dq_t (dq_t dzX3_readPart_0))
theorem dX3_readPart_6 : decode cX3_readPart 6 = .ok (.invokevirtual 56, 3) := dq_h (dq_t (dq_t (dq_t dzX3_readPart_0)))
theorem dX3_readPart_9 : decode cX3_readPart 9 = .ok (.ifCond .eq 27, 3) := dq_h (dq_t (dq_t (dq_t (dq_t dzX3_readPart_0))))
theorem dX3_readPart_12 : decode cX3_readPart 12 = .ok (.aload_n 0, 1) := dq_h (dq_t (dq_t (dq_t (dq_t (dq_t dzX3_readPart_0)))))
theorem dX3_readPart_13 : decode cX3_readPart 13 = .ok (.getfield 12, 3) := dq_h (dq_t (dq_t (dq_t (dq_t (dq_t (dq_t dzX3_readPart_0))))))
theorem dX3_readPart_16 : decode cX3_readPart 16 = .ok (.invokevirtual 63, 3) := dq_h (dq_t (dq_t (dq_t (dq_t (dq_t (dq_t (dq_t dzX3_readPart_0)))))))
theorem dX3_readPart_19 : decode cX3_readPart 19 = .ok (.aload_n 0, 1) := dq_h (dq_t (dq_t (dq_t (dq_t (dq_t (dq_t (dq_t (dq_t dzX3_readPart_0))))))))
theorem dX3_readPart_20 : decode cX3_readPart 20 = .ok (.aload_n 1, 1) := dq_h (dq_t (dq_t (dq_t (dq_t (dq_t (dq_t (dq_t (dq_t (dq_t dzX3_readPart_0)))))))))
theorem dX3_readPart_21 : decode cX3_readPart 21 = .ok (.iload_n 2, 1) := dq_h (dq_t (dq_t (dq_t (dq_t (dq_t (dq_t (dq_t (dq_t (dq_t (dq_t dzX3_readPart_0))))))))))
theorem dX3_readPart_22 : decode cX3_readPart 22 = .ok (.iconst 1, 1) := dq_h (dq_t (dq_t (dq_t (dq_t (dq_t (dq_t (dq_t (dq_t (dq_t (dq_t (dq_t dzX3_readPart_0)))))))))))
theorem dX3_readPart_23 : decode cX3_readPart 23 = .ok (.iadd, 1) := dq_h (dq_t (dq_t (dq_t (dq_t (dq_t (dq_t (dq_t (dq_t (dq_t (dq_t (dq_t (dq_t dzX3_readPart_0))))))))))))
theorem dX3_readPart_24 : decode cX3_readPart 24 = .ok (.invokevirtual 176, 3) := dq_h (dq_t (dq_t (dq_t (dq_t (dq_t (dq_t (dq_t (dq_t (dq_t (dq_t (dq_t (dq_t (dq_t dzX3_readPart_0)))))))))))))
theorem dX3_readPart_27 : decode cX3_readPart 27 = .ok (.aload_n 0, 1) := dq_h (dq_t (dq_t (dq_t (dq_t (dq_t (dq_t (dq_t (dq_t (dq_t (dq_t (dq_t (dq_t (dq_t (dq_t dzX3_readPart_0))))))))))))))
theorem dX3_readPart_28 : decode cX3_readPart 28 = .ok (.bipush 41, 2) := dq_h (dq_t (dq_t (dq_t (dq_t (dq_t (dq_t (dq_t (dq_t (dq_t (dq_t (dq_t (dq_t (dq_t (dq_t (dq_t dzX3_readPart_0)))))))))))))))
theorem dX3_readPart_30 : decode cX3_readPart 30 = .ok (.invokevirtual 49, 3) := dq_h (dq_t (dq_t (dq_t (dq_t (dq_t (dq_t (dq_t (dq_t (dq_t (dq_t (dq_t (dq_t (dq_t (dq_t (dq_t (dq_t dzX3_readPart_0))))))))))))))))
theorem dX3_readPart_33 : decode cX3_readPart 33 = .ok (.goto 62, 3) := dq_h (dq_t (dq_t (dq_t (dq_t (dq_t (dq_t (dq_t (dq_t (dq_t (dq_t (dq_t (dq_t (dq_t (dq_t (dq_t (dq_t (dq_t dzX3_readPart_0)))))))))))))))))
theorem dX3_readPart_36 : decode cX3_readPart 36 = .ok (.aload_n 0, 1) := dq_h (dq_t (dq_t (dq_t (dq_t (dq_t (dq_t (dq_t (dq_t (dq_t (dq_t (dq_t (dq_t (dq_t (dq_t (dq_t (dq_t (dq_t (dq_t dzX3_readPart_0))))))))))))))))))
theorem dX3_readPart_37 : decode cX3_readPart 37 = .ok (.getfield 12, 3) := dq_h (dq_t (dq_t (dq_t (dq_t (dq_t (dq_t (dq_t (dq_t (dq_t (dq_t (dq_t (dq_t (dq_t (dq_t (dq_t (dq_t (dq_t (dq_t (dq_t dzX3_readPart_0)))))))))))))))))))
theorem dX3_readPart_40 : decode cX3_readPart 40 = .ok (.getfield 43, 3) := dq_h (dq_t (dq_t (dq_t (dq_t (dq_t (dq_t (dq_t (dq_t (dq_t (dq_t (dq_t (dq_t (dq_t (dq_t (dq_t (dq_t (dq_t (dq_t (dq_t (dq_t dzX3_readPart_0))))))))))))))))))))
theorem dX3_readPart_43 : decode cX3_readPart 43 = .ok (.iconst 1, 1) := dq_h (dq_t (dq_t (dq_t (dq_t (dq_t (dq_t (dq_t (dq_t (dq_t (dq_t (dq_t (dq_t (dq_t (dq_t (dq_t (dq_t (dq_t (dq_t (dq_t (dq_t (dq_t dzX3_readPart_0)))))))))))))))))))))
theorem dX3_readPart_44 : decode cX3_readPart 44 = .ok (.if_icmp .eq 18, 3) := dq_h (dq_t (dq_t (dq_t (dq_t (dq_t (dq_t (dq_t (dq_t (dq_t (dq_t (dq_t (dq_t (dq_t (dq_t (dq_t (dq_t (dq_t (dq_t (dq_t (dq_t (dq_t (dq_t dzX3_readPart_0))))))))))))))))))))))
theorem dX3_readPart_47 : decode cX3_readPart 47 = .ok (.aload_n 1, 1) := dq_h (dq_t (dq_t (dq_t (dq_t (dq_t (dq_t (dq_t (dq_t (dq_t (dq_t (dq_t (dq_t (dq_t (dq_t (dq_t (dq_t (dq_t (dq_t (dq_t (dq_t (dq_t (dq_t (dq_t dzX3_readPart_0)))))))))))))))))))))))
theorem dzX3_readPart_48 : dq_F cX3_readPart [(48, .aload_n 0, 1), (49, .iconst 0, 1), (50, .sipush 9999, 3), (53, .invokevirtual 120, 3), (56, .invokevirtual 185, 3), (59, .goto 36, 3), (62, .aload_n 0, 1), (63, .aload_n 1, 1), (64, .invokevirtual 207, 3), (67, .iconst (-1), 1), (68, .if_icmp .ne 11, 3), (71, .aload_n 0, 1), (72, .iconst 3, 1), (73, .invokevirtual 60, 3), (76, .goto 19, 3), (79, .aload_n 1, 1), (80, .aload_n 0, 1), (81, .aload_n 1, 1), (82, .invokevirtual 207, 3), (85, .invokevirtual 185, 3), (88, .aload_n 0, 1), (89, .getfield 12, 3), (92, .invokevirtual 63, 3), (95, .return_, 1)] := dq_s 24 48 (by decide +kernel)
theorem dX3_readPart_48 : decode cX3_readPart 48 = .ok (.aload_n 0, 1) := dq_h dzX3_readPart_48
theorem dX3_readPart_49 : decode cX3_readPart 49 = .ok (.iconst 0, 1) := dq_h (dq_t dzX3_readPart_48)
theorem dX3_readPart_50 : decode cX3_readPart 50 = .ok (.sipush 9999, 3) := dq_h (dq_t (dq_t dzX3_readPart_48))
theorem dX3_readPart_53 : decode cX3_readPart 53 = .ok (.invokevirtual 120, 3) := dq_h (dq_t (dq_t (dq_t dzX3_readPart_48)))
theorem dX3_readPart_56 : decode cX3_readPart 56 = .ok (.invokevirtual 185, 3) := dq_h (dq_t (dq_t (dq_t (dq_t dzX3_readPart_48))))
theorem dX3_readPart_59 : decode cX3_readPart 59 = .ok (.goto 36, 3) := dq_h (dq_t (dq_t (dq_t (dq_t (dq_t dzX3_readPart_48)))))
theorem dX3_readPart_62 : decode cX3_readPart 62 = .ok (.aload_n 0, 1) := dq_h (dq_t (dq_t (dq_t (dq_t (dq_t (dq_t dzX3_readPart_48))))))
theorem dX3_readPart_63 : decode cX3_readPart 63 = .ok (.aload_n 1, 1) := dq_h (dq_t (dq_t (dq_t (dq_t (dq_t (dq_t (dq_t dzX3_readPart_48)))))))
theorem dX3_readPart_64 : decode cX3_readPart 64 = .ok (.invokevirtual 207, 3) := dq_h (dq_t (dq_t (dq_t (dq_t (dq_t (dq_t (dq_t (dq_t dzX3_readPart_48))))))))
theorem dX3_readPart_67 : decode cX3_readPart 67 = .ok (.iconst (-1), 1) := dq_h (dq_t (dq_t (dq_t (dq_t (dq_t (dq_t (dq_t (dq_t (dq_t dzX3_readPart_48)))))))))
theorem dX3_readPart_68 : decode cX3_readPart 68 = .ok (.if_icmp .ne 11, 3) := dq_h (dq_t (dq_t (dq_t (dq_t (dq_t (dq_t (dq_t (dq_t (dq_t (dq_t dzX3_readPart_48))))))))))
theorem dX3_readPart_71 : decode cX3_readPart 71 = .ok (.aload_n 0, 1) := dq_h (dq_t (dq_t (dq_t (dq_t (dq_t (dq_t (dq_t (dq_t (dq_t (dq_t (dq_t dzX3_readPart_48)))))))))))
theorem dX3_readPart_72 : decode cX3_readPart 72 = .ok (.iconst 3, 1) := dq_h (dq_t (dq_t (dq_t (dq_t (dq_t (dq_t (dq_t (dq_t (dq_t (dq_t (dq_t (dq_t dzX3_readPart_48))))))))))))
theorem dX3_readPart_73 : decode cX3_readPart 73 = .ok (.invokevirtual 60, 3) := dq_h (dq_t (dq_t (dq_t (dq_t (dq_t (dq_t (dq_t (dq_t (dq_t (dq_t (dq_t (dq_t (dq_t dzX3_readPart_48)))))))))))))
theorem dX3_readPart_76 : decode cX3_readPart 76 = .ok (.goto 19, 3) := dq_h (dq_t (dq_t (dq_t (dq_t (dq_t (dq_t (dq_t (dq_t (dq_t (dq_t (dq_t (dq_t (dq_t (dq_t dzX3_readPart_48))))))))))))))
theorem dX3_readPart_79 : decode cX3_readPart 79 = .ok (.aload_n 1, 1) := dq_h (dq_t (dq_t (dq_t (dq_t (dq_t (dq_t (dq_t (dq_t (dq_t (dq_t (dq_t (dq_t (dq_t (dq_t (dq_t dzX3_readPart_48)))))))))))))))
theorem dX3_readPart_80 : decode cX3_readPart 80 = .ok (.aload_n 0, 1) := dq_h (dq_t (dq_t (dq_t (dq_t (dq_t (dq_t (dq_t (dq_t (dq_t (dq_t (dq_t (dq_t (dq_t (dq_t (dq_t (dq_t dzX3_readPart_48))))))))))))))))
theorem dX3_readPart_81 : decode cX3_readPart 81 = .ok (.aload_n 1, 1) := dq_h (dq_t (dq_t (dq_t (dq_t (dq_t (dq_t (dq_t (dq_t (dq_t (dq_t (dq_t (dq_t (dq_t (dq_t (dq_t (dq_t (dq_t dzX3_readPart_48)))))))))))))))))
theorem dX3_readPart_82 : decode cX3_readPart 82 = .ok (.invokevirtual 207, 3) := dq_h (dq_t (dq_t (dq_t (dq_t (dq_t (dq_t (dq_t (dq_t (dq_t (dq_t (dq_t (dq_t (dq_t (dq_t (dq_t (dq_t (dq_t (dq_t dzX3_readPart_48))))))))))))))))))
theorem dX3_readPart_85 : decode cX3_readPart 85 = .ok (.invokevirtual 185, 3) := dq_h (dq_t (dq_t (dq_t (dq_t (dq_t (dq_t (dq_t (dq_t (dq_t (dq_t (dq_t (dq_t (dq_t (dq_t (dq_t (dq_t (dq_t (dq_t (dq_t dzX3_readPart_48)))))))))))))))))))
theorem dX3_readPart_88 : decode cX3_readPart 88 = .ok (.aload_n 0, 1) := dq_h (dq_t (dq_t (dq_t (dq_t (dq_t (dq_t (dq_t (dq_t (dq_t (dq_t (dq_t (dq_t (dq_t (dq_t (dq_t (dq_t (dq_t (dq_t (dq_t (dq_t dzX3_readPart_48))))))))))))))))))))
theorem dX3_readPart_89 : decode cX3_readPart 89 = .ok (.getfield 12, 3) := dq_h (dq_t (dq_t (dq_t (dq_t (dq_t (dq_t (dq_t (dq_t (dq_t (dq_t (dq_t (dq_t (dq_t (dq_t (dq_t (dq_t (dq_t (dq_t (dq_t (dq_t (dq_t dzX3_readPart_48)))))))))))))))))))))
theorem dX3_readPart_92 : decode cX3_readPart 92 = .ok (.invokevirtual 63, 3) := dq_h (dq_t (dq_t (dq_t (dq_t (dq_t (dq_t (dq_t (dq_t (dq_t (dq_t (dq_t (dq_t (dq_t (dq_t (dq_t (dq_t (dq_t (dq_t (dq_t (dq_t (dq_t (dq_t dzX3_readPart_48))))))))))))))))))))))
theorem dX3_readPart_95 : decode cX3_readPart 95 = .ok (.return_, 1) := dq_h (dq_t (dq_t (dq_t (dq_t (dq_t (dq_t (dq_t (dq_t (dq_t (dq_t (dq_t (dq_t (dq_t (dq_t (dq_t (dq_t (dq_t (dq_t (dq_t (dq_t (dq_t (dq_t (dq_t dzX3_readPart_48)))))))))))))))))))))))
theorem dzX3_valueCode_0 : dq_F cX3_valueCode [(0, .aload_n 0, 1), (1, .getfield 12, 3), (4, .ldc 211, 2), (6, .invokevirtual 75, 3), (9, .ifCond .eq 7, 3), (12, .sipush 10000, 3), (15, .ireturn, 1), (16, .aload_n 0, 1), (17, .getfield 12, 3), (20, .ldc 212, 2), (22, .invokevirtual 75, 3), (25, .ifCond .eq 7, 3), (28, .sipush 10001, 3), (31, .ireturn, 1), (32, .aload_n 0, 1), (33, .getfield 12, 3), (36, .ldc 213, 2), (38, .invokevirtual 75, 3), (41, .ifCond .eq 7, 3), (44, .sipush 10002, 3), (47, .ireturn, 1), (48, .aload_n 0, 1), (49, .getfield 12, 3), (52, .ldc 214, 2)] := dq_s 24 0 (by decide +kernel)
theorem dX3_valueCode_0 : decode cX3_valueCode 0 = .ok (.aload_n 0, 1) := dq_h dzX3_valueCode_0
theorem dX3_valueCode_1 : decode cX3_valueCode 1 = .ok (.getfield 12, 3) := dq_h (dq_t dzX3_valueCode_0)
theorem dX3_valueCode_4 : decode cX3_valueCode 4 = .ok (.ldc 211, 2) := dq_h (dq_t (dq_t dzX3_valueCode_0))
theorem dX3_valueCode_6 : decode cX3_valueCode 6 = .ok (.invokevirtual 75, 3) := dq_h (dq_t (dq_t (dq_t dzX3_valueCode_0)))
theorem dX3_valueCode_9 : decode cX3_valueCode 9 = .ok (.ifCond .eq 7, 3) := dq_h (dq_t (dq_t (dq_t (dq_t dzX3_valueCode_0))))
theorem dX3_valueCode_12 : decode cX3_valueCode 12 = .ok (.sipush 10000, 3) := dq_h (dq_t (dq_t (dq_t (dq_t (dq_t dzX3_valueCode_0)))))
theorem dX3_valueCode_15 : decode cX3_valueCode 15 = .ok (.ireturn, 1) := dq_h (dq_t (dq_t (dq_t (dq_t (dq_t (dq_t dzX3_valueCode_0))))))
theorem dX3_valueCode_16 : decode cX3_valueCode 16 = .ok (.aload_n 0, 1) := dq_h (dq_t (dq_t (dq_t (dq_t (dq_t (dq_t (dq_t dzX3_valueCode_0)))))))
theorem dX3_valueCode_17 : decode cX3_valueCode 17 = .ok (.getfield 12, 3) := dq_h (dq_t (dq_t (dq_t (dq_t (dq_t (dq_t (dq_t (dq_t dzX3_valueCode_0))))))))
theorem dX3_valueCode_20 : decode cX3_valueCode 20 = .ok (.ldc 212, 2) := dq_h (dq_t (dq_t (dq_t (dq_t (dq_t (dq_t (dq_t (dq_t (dq_t dzX3_valueCode_0)))))))))
theorem dX3_valueCode_22 : decode cX3_valueCode 22 = .ok (.invokevirtual 75, 3) := dq_h (dq_t (dq_t (dq_t (dq_t (dq_t (dq_t (dq_t (dq_t (dq_t (dq_t dzX3_valueCode_0))))))))))
theorem dX3_valueCode_25 : decode cX3_valueCode 25 = .ok (.ifCond .eq 7, 3) := dq_h (dq_t (dq_t (dq_t (dq_t (dq_t (dq_t (dq_t (dq_t (dq_t (dq_t (dq_t dzX3_valueCode_0)))))))))))
theorem dX3_valueCode_28 : decode cX3_valueCode 28 = .ok (.sipush 10001, 3) := dq_h (dq_t (dq_t (dq_t (dq_t (dq_t (dq_t (dq_t (dq_t (dq_t (dq_t (dq_t (dq_t dzX3_valueCode_0))))))))))))
theorem dX3_valueCode_31 : decode cX3_valueCode 31 = .ok (.ireturn, 1) := dq_h (dq_t (dq_t (dq_t (dq_t (dq_t (dq_t (dq_t (dq_t (dq_t (dq_t (dq_t (dq_t (dq_t dzX3_valueCode_0)))))))))))))
theorem dX3_valueCode_32 : decode cX3_valueCode 32 = .ok (.aload_n 0, 1) := dq_h (dq_t (dq_t (dq_t (dq_t (dq_t (dq_t (dq_t (dq_t (dq_t (dq_t (dq_t (dq_t (dq_t (dq_t dzX3_valueCode_0))))))))))))))
theorem dX3_valueCode_33 : decode cX3_valueCode 33 = .ok (.getfield 12, 3) := dq_h (dq_t (dq_t (dq_t (dq_t (dq_t (dq_t (dq_t (dq_t (dq_t (dq_t (dq_t (dq_t (dq_t (dq_t (dq_t dzX3_valueCode_0)))))))))))))))
theorem dX3_valueCode_36 : decode cX3_valueCode 36 = .ok (.ldc 213, 2) := dq_h (dq_t (dq_t (dq_t (dq_t (dq_t (dq_t (dq_t (dq_t (dq_t (dq_t (dq_t (dq_t (dq_t (dq_t (dq_t (dq_t dzX3_valueCode_0))))))))))))))))
theorem dX3_valueCode_38 : decode cX3_valueCode 38 = .ok (.invokevirtual 75, 3) := dq_h (dq_t (dq_t (dq_t (dq_t (dq_t (dq_t (dq_t (dq_t (dq_t (dq_t (dq_t (dq_t (dq_t (dq_t (dq_t (dq_t (dq_t dzX3_valueCode_0)))))))))))))))))
theorem dX3_valueCode_41 : decode cX3_valueCode 41 = .ok (.ifCond .eq 7, 3) := dq_h (dq_t (dq_t (dq_t (dq_t (dq_t (dq_t (dq_t (dq_t (dq_t (dq_t (dq_t (dq_t (dq_t (dq_t (dq_t (dq_t (dq_t (dq_t dzX3_valueCode_0))))))))))))))))))
theorem dX3_valueCode_44 : decode cX3_valueCode 44 = .ok (.sipush 10002, 3) := dq_h (dq_t (dq_t (dq_t (dq_t (dq_t (dq_t (dq_t (dq_t (dq_t (dq_t (dq_t (dq_t (dq_t (dq_t (dq_t (dq_t (dq_t (dq_t (dq_t dzX3_valueCode_0)))))))))))))))))))
theorem dX3_valueCode_47 : decode cX3_valueCode 47 = .ok (.ireturn, 1) := dq_h (dq_t (dq_t (dq_t (dq_t (dq_t (dq_t (dq_t (dq_t (dq_t (dq_t (dq_t (dq_t (dq_t (dq_t (dq_t (dq_t (dq_t (dq_t (dq_t (dq_t dzX3_valueCode_0))))))))))))))))))))
theorem dX3_valueCode_48 : decode cX3_valueCode 48 = .ok (.aload_n 0, 1) := dq_h (dq_t (dq_t (dq_t (dq_t (dq_t (dq_t (dq_t (dq_t (dq_t (dq_t (dq_t (dq_t (dq_t (dq_t (dq_t (dq_t (dq_t (dq_t (dq_t (dq_t (dq_t dzX3_valueCode_0)))))))))))))))))))))
theorem dX3_valueCode_49 : decode cX3_valueCode 49 = .ok (.getfield 12, 3) := dq_h (dq_t (dq_t (dq_t (dq_t (dq_t (dq_t (dq_t (dq_t (dq_t (dq_t (dq_t (dq_t (dq_t (dq_t (dq_t (dq_t (dq_t (dq_t (dq_t (dq_t (dq_t (dq_t dzX3_valueCode_0))))))))))))))))))))))
theorem dX3_valueCode_52 : decode cX3_valueCode 52 = .ok (.ldc 214, 2) := dq_h (dq_t (dq_t (dq_t (dq_t (dq_t (dq_t (dq_t (dq_t (dq_t (dq_t (dq_t (dq_t (dq_t (dq_t (dq_t (dq_t (dq_t (dq_t (dq_t (dq_t (dq_t (dq_t (dq_t dzX3_valueCode_0)))))))))))))))))))))))
theorem dzX3_valueCode_54 : dq_F cX3_valueCode [(54, .invokevirtual 75, 3), (57, .ifCond .eq 7, 3), (60, .sipush 10003, 3), (63, .ireturn, 1), (64, .aload_n 0, 1), (65, .getfield 12, 3), (68, .ldc 90, 2), (70, .invokevirtual 75, 3), (73, .ifCond .eq 7, 3), (76, .sipush 10004, 3), (79, .ireturn, 1), (80, .aload_n 0, 1), (81, .getfield 12, 3), (84, .ldc 215, 2), (86, .invokevirtual 75, 3), (89, .ifCond .eq 7, 3), (92, .sipush 10005, 3), (95, .ireturn, 1), (96, .aload_n 1, 1), (97, .getfield 217, 3), (100, .ifCond .eq 21, 3), (103, .aload_n 0, 1), (104, .getfield 12, 3), (107, .ldc 221, 2)] := dq_s 24 54 (by decide +kernel)
theorem dX3_valueCode_54 : decode cX3_valueCode 54 = .ok (.invokevirtual 75, 3) := dq_h dzX3_valueCode_54
theorem dX3_valueCode_57 : decode cX3_valueCode 57 = .ok (.ifCond .eq 7, 3) := dq_h (dq_t dzX3_valueCode_54)
theorem dX3_valueCode_60 : decode cX3_valueCode 60 = .ok (.sipush 10003, 3) := dq_h (dq_t (dq_t dzX3_valueCode_54))
theorem dX3_valueCode_63 : decode cX3_valueCode 63 = .ok (.ireturn, 1) := dq_h (dq_t (dq_t (dq_t dzX3_valueCode_54)))
theorem dX3_valueCode_64 : decode cX3_valueCode 64 = .ok (.aload_n 0, 1) := dq_h (dq_t (dq_t (dq_t (dq_t dzX3_valueCode_54))))
theorem dX3_valueCode_65 : decode cX3_valueCode 65 = .ok (.getfield 12, 3) := dq_h (dq_t (dq_t (dq_t (dq_t (dq_t dzX3_valueCode_54)))))
theorem dX3_valueCode_68 : decode cX3_valueCode 68 = .ok (.ldc 90, 2) := dq_h (dq_t (dq_t (dq_t (dq_t (dq_t (dq_t dzX3_valueCode_54))))))
theorem dX3_valueCode_70 : decode cX3_valueCode 70 = .ok (.invokevirtual 75, 3) := dq_h (dq_t (dq_t (dq_t (dq_t (dq_t (dq_t (dq_t dzX3_valueCode_54)))))))
theorem dX3_valueCode_73 : decode cX3_valueCode 73 = .ok (.ifCond .eq 7, 3) := dq_h (dq_t (dq_t (dq_t (dq_t (dq_t (dq_t (dq_t (dq_t dzX3_valueCode_54))))))))
theorem dX3_valueCode_76 : decode cX3_valueCode 76 = .ok (.sipush 10004, 3) := dq_h (dq_t (dq_t (dq_t (dq_t (dq_t (dq_t (dq_t (dq_t (dq_t dzX3_valueCode_54)))))))))
theorem dX3_valueCode_79 : decode cX3_valueCode 79 = .ok (.ireturn, 1) := dq_h (dq_t (dq_t (dq_t (dq_t (dq_t (dq_t (dq_t (dq_t (dq_t (dq_t dzX3_valueCode_54))))))))))
theorem dX3_valueCode_80 : decode cX3_valueCode 80 = .ok (.aload_n 0, 1) := dq_h (dq_t (dq_t (dq_t (dq_t (dq_t (dq_t (dq_t (dq_t (dq_t (dq_t (dq_t dzX3_valueCode_54)))))))))))
theorem dX3_valueCode_81 : decode cX3_valueCode 81 = .ok (.getfield 12, 3) := dq_h (dq_t (dq_t (dq_t (dq_t (dq_t (dq_t (dq_t (dq_t (dq_t (dq_t (dq_t (dq_t dzX3_valueCode_54))))))))))))
theorem dX3_valueCode_84 : decode cX3_valueCode 84 = .ok (.ldc 215, 2) := dq_h (dq_t (dq_t (dq_t (dq_t (dq_t (dq_t (dq_t (dq_t (dq_t (dq_t (dq_t (dq_t (dq_t dzX3_valueCode_54)))))))))))))
theorem dX3_valueCode_86 : decode cX3_valueCode 86 = .ok (.invokevirtual 75, 3) := dq_h (dq_t (dq_t (dq_t (dq_t (dq_t (dq_t (dq_t (dq_t (dq_t (dq_t (dq_t (dq_t (dq_t (dq_t dzX3_valueCode_54))))))))))))))
theorem dX3_valueCode_89 : decode cX3_valueCode 89 = .ok (.ifCond .eq 7, 3) := dq_h (dq_t (dq_t (dq_t (dq_t (dq_t (dq_t (dq_t (dq_t (dq_t (dq_t (dq_t (dq_t (dq_t (dq_t (dq_t dzX3_valueCode_54)))))))))))))))
theorem dX3_valueCode_92 : decode cX3_valueCode 92 = .ok (.sipush 10005, 3) := dq_h (dq_t (dq_t (dq_t (dq_t (dq_t (dq_t (dq_t (dq_t (dq_t (dq_t (dq_t (dq_t (dq_t (dq_t (dq_t (dq_t dzX3_valueCode_54))))))))))))))))
theorem dX3_valueCode_95 : decode cX3_valueCode 95 = .ok (.ireturn, 1) := dq_h (dq_t (dq_t (dq_t (dq_t (dq_t (dq_t (dq_t (dq_t (dq_t (dq_t (dq_t (dq_t (dq_t (dq_t (dq_t (dq_t (dq_t dzX3_valueCode_54)))))))))))))))))
theorem dX3_valueCode_96 : decode cX3_valueCode 96 = .ok (.aload_n 1, 1) := dq_h (dq_t (dq_t (dq_t (dq_t (dq_t (dq_t (dq_t (dq_t (dq_t (dq_t (dq_t (dq_t (dq_t (dq_t (dq_t (dq_t (dq_t (dq_t dzX3_valueCode_54))))))))))))))))))
theorem dX3_valueCode_97 : decode cX3_valueCode 97 = .ok (.getfield 217, 3) := dq_h (dq_t (dq_t (dq_t (dq_t (dq_t (dq_t (dq_t (dq_t (dq_t (dq_t (dq_t (dq_t (dq_t (dq_t (dq_t (dq_t (dq_t (dq_t (dq_t dzX3_valueCode_54)))))))))))))))))))
theorem dX3_valueCode_100 : decode cX3_valueCode 100 = .ok (.ifCond .eq 21, 3) := dq_h (dq_t (dq_t (dq_t (dq_t (dq_t (dq_t (dq_t (dq_t (dq_t (dq_t (dq_t (dq_t (dq_t (dq_t (dq_t (dq_t (dq_t (dq_t (dq_t (dq_t dzX3_valueCode_54))))))))))))))))))))
theorem dX3_valueCode_103 : decode cX3_valueCode 103 = .ok (.aload_n 0, 1) := dq_h (dq_t (dq_t (dq_t (dq_t (dq_t (dq_t (dq_t (dq_t (dq_t (dq_t (dq_t (dq_t (dq_t (dq_t (dq_t (dq_t (dq_t (dq_t (dq_t (dq_t (dq_t dzX3_valueCode_54)))))))))))))))))))))
theorem dX3_valueCode_104 : decode cX3_valueCode 104 = .ok (.getfield 12, 3) := dq_h (dq_t (dq_t (dq_t (dq_t (dq_t (dq_t (dq_t (dq_t (dq_t (dq_t (dq_t (dq_t (dq_t (dq_t (dq_t (dq_t (dq_t (dq_t (dq_t (dq_t (dq_t (dq_t dzX3_valueCode_54))))))))))))))))))))))
theorem dX3_valueCode_107 : decode cX3_valueCode 107 = .ok (.ldc 221, 2) := dq_h (dq_t (dq_t (dq_t (dq_t (dq_t (dq_t (dq_t (dq_t (dq_t (dq_t (dq_t (dq_t (dq_t (dq_t (dq_t (dq_t (dq_t (dq_t (dq_t (dq_t (dq_t (dq_t (dq_t dzX3_valueCode_54)))))))))))))))))))))))
theorem dzX3_valueCode_109 : dq_F cX3_valueCode [(109, .invokevirtual 75, 3), (112, .ifCond .eq 9, 3), (115, .sipush 10006, 3), (118, .goto 4, 3), (121, .iconst (-1), 1), (122, .ireturn, 1)] := dq_s 6 109 (by decide +kernel)
theorem dX3_valueCode_109 : decode cX3_valueCode 109 = .ok (.invokevirtual 75, 3) := dq_h dzX3_valueCode_109
theorem dX3_valueCode_112 : decode cX3_valueCode 112 = .ok (.ifCond .eq 9, 3) := dq_h (dq_t dzX3_valueCode_109)
theorem dX3_valueCode_115 : decode cX3_valueCode 115 = .ok (.sipush 10006, 3) := dq_h (dq_t (dq_t dzX3_valueCode_109))
theorem dX3_valueCode_118 : decode cX3_valueCode 118 = .ok (.goto 4, 3) := dq_h (dq_t (dq_t (dq_t dzX3_valueCode_109)))
theorem dX3_valueCode_121 : decode cX3_valueCode 121 = .ok (.iconst (-1), 1) := dq_h (dq_t (dq_t (dq_t (dq_t dzX3_valueCode_109))))
theorem dX3_valueCode_122 : decode cX3_valueCode 122 = .ok (.ireturn, 1) := dq_h (dq_t (dq_t (dq_t (dq_t (dq_t dzX3_valueCode_109)))))
theorem dzX4_init_0 : dq_F cX4_init [(0, .aload_n 0, 1), (1, .invokespecial 3, 3), (4, .aload_n 0, 1), (5, .sipush 700, 3)] := dq_s 4 0 (by decide +kernel)
theorem dX4_init_0 : decode cX4_init 0 = .ok (.aload_n 0, 1) := dq_h dzX4_init_0
theorem dX4_init_1 : decode cX4_init 1 = .ok (.invokespecial 3, 3) := dq_h (dq_t dzX4_init_0)
theorem dX4_init_4 : decode cX4_init 4 = .ok (.aload_n 0, 1) := dq_h (dq_t (dq_t dzX4_init_0))
theorem dX4_init_5 : decode cX4_init 5 = .ok (.sipush 700, 3) := dq_h (dq_t (dq_t (dq_t dzX4_init_0)))
theorem dX4_init_8 : decode cX4_init 8 = .ok (.newarray .int, 2) := by decide +kernel
theorem dzX4_init_10 : dq_F cX4_init [(10, .putfield 9, 3), (13, .aload_n 0, 1), (14, .bipush 31, 2)] := dq_s 3 10 (by decide +kernel)
theorem dX4_init_10 : decode cX4_init 10 = .ok (.putfield 9, 3) := dq_h dzX4_init_10
theorem dX4_init_13 : decode cX4_init 13 = .ok (.aload_n 0, 1) := dq_h (dq_t dzX4_init_10)
theorem dX4_init_14 : decode cX4_init 14 = .ok (.bipush 31, 2) := dq_h (dq_t (dq_t dzX4_init_10))
theorem dX4_init_16 : decode cX4_init 16 = .ok (.newarray .int, 2) := by decide +kernel
theorem dzX4_init_18 : dq_F cX4_init [(18, .putfield 15, 3), (21, .aload_n 0, 1), (22, .iconst 0, 1), (23, .putfield 18, 3), (26, .aload_n 0, 1), (27, .iload_n 1, 1), (28, .putfield 22, 3), (31, .return_, 1)] := dq_s 8 18 (by decide +kernel)
theorem dX4_init_18 : decode cX4_init 18 = .ok (.putfield 15, 3) := dq_h dzX4_init_18
theorem dX4_init_21 : decode cX4_init 21 = .ok (.aload_n 0, 1) := dq_h (dq_t dzX4_init_18)
theorem dX4_init_22 : decode cX4_init 22 = .ok (.iconst 0, 1) := dq_h (dq_t (dq_t dzX4_init_18))
theorem dX4_init_23 : decode cX4_init 23 = .ok (.putfield 18, 3) := dq_h (dq_t (dq_t (dq_t dzX4_init_18)))
theorem dX4_init_26 : decode cX4_init 26 = .ok (.aload_n 0, 1) := dq_h (dq_t (dq_t (dq_t (dq_t dzX4_init_18))))
theorem dX4_init_27 : decode cX4_init 27 = .ok (.iload_n 1, 1) := dq_h (dq_t (dq_t (dq_t (dq_t (dq_t dzX4_init_18)))))
theorem dX4_init_28 : decode cX4_init 28 = .ok (.putfield 22, 3) := dq_h (dq_t (dq_t (dq_t (dq_t (dq_t (dq_t dzX4_init_18))))))
theorem dX4_init_31 : decode cX4_init 31 = .ok (.return_, 1) := dq_h (dq_t (dq_t (dq_t (dq_t (dq_t (dq_t (dq_t dzX4_init_18)))))))
theorem dzX4_clear_0 : dq_F cX4_clear [(0, .aload_n 0, 1), (1, .iconst 0, 1), (2, .putfield 18, 3), (5, .return_, 1)] := dq_s 4 0 (by decide +kernel)
theorem dX4_clear_0 : decode cX4_clear 0 = .ok (.aload_n 0, 1) := dq_h dzX4_clear_0
theorem dX4_clear_1 : decode cX4_clear 1 = .ok (.iconst 0, 1) := dq_h (dq_t dzX4_clear_0)
theorem dX4_clear_2 : decode cX4_clear 2 = .ok (.putfield 18, 3) := dq_h (dq_t (dq_t dzX4_clear_0))
theorem dX4_clear_5 : decode cX4_clear 5 = .ok (.return_, 1) := dq_h (dq_t (dq_t (dq_t dzX4_clear_0)))
theorem dzX4_isTold_0 : dq_F cX4_isTold [(0, .aload_n 0, 1), (1, .getfield 18, 3), (4, .ifCond .le 7, 3), (7, .iconst 1, 1), (8, .goto 4, 3), (11, .iconst 0, 1), (12, .ireturn, 1)] := dq_s 7 0 (by decide +kernel)
theorem dX4_isTold_0 : decode cX4_isTold 0 = .ok (.aload_n 0, 1) := dq_h dzX4_isTold_0
theorem dX4_isTold_1 : decode cX4_isTold 1 = .ok (.getfield 18, 3) := dq_h (dq_t dzX4_isTold_0)
theorem dX4_isTold_4 : decode cX4_isTold 4 = .ok (.ifCond .le 7, 3) := dq_h (dq_t (dq_t dzX4_isTold_0))
theorem dX4_isTold_7 : decode cX4_isTold 7 = .ok (.iconst 1, 1) := dq_h (dq_t (dq_t (dq_t dzX4_isTold_0)))
theorem dX4_isTold_8 : decode cX4_isTold 8 = .ok (.goto 4, 3) := dq_h (dq_t (dq_t (dq_t (dq_t dzX4_isTold_0))))
theorem dX4_isTold_11 : decode cX4_isTold 11 = .ok (.iconst 0, 1) := dq_h (dq_t (dq_t (dq_t (dq_t (dq_t dzX4_isTold_0)))))
theorem dX4_isTold_12 : decode cX4_isTold 12 = .ok (.ireturn, 1) := dq_h (dq_t (dq_t (dq_t (dq_t (dq_t (dq_t dzX4_isTold_0))))))
theorem dzX4_add_0 : dq_F cX4_add [(0, .aload_n 0, 1), (1, .getfield 18, 3), (4, .aload_n 0, 1), (5, .getfield 9, 3), (8, .arraylength, 1), (9, .if_icmp .ge 23, 3), (12, .aload_n 0, 1), (13, .getfield 9, 3), (16, .aload_n 0, 1), (17, .getfield 18, 3), (20, .iload_n 1, 1), (21, .iastore, 1), (22, .aload_n 0, 1), (23, .dup, 1), (24, .getfield 18, 3), (27, .iconst 1, 1), (28, .iadd, 1), (29, .putfield 18, 3), (32, .return_, 1)] := dq_s 19 0 (by decide +kernel)
theorem dX4_add_0 : decode cX4_add 0 = .ok (.aload_n 0, 1) := dq_h dzX4_add_0
theorem dX4_add_1 : decode cX4_add 1 = .ok (.getfield 18, 3) := dq_h (dq_t dzX4_add_0)
theorem dX4_add_4 : decode cX4_add 4 = .ok (.aload_n 0, 1) := dq_h (dq_t (dq_t dzX4_add_0))
theorem dX4_add_5 : decode cX4_add 5 = .ok (.getfield 9, 3) := dq_h (dq_t (dq_t (dq_t dzX4_add_0)))
theorem dX4_add_8 : decode cX4_add 8 = .ok (.arraylength, 1) := dq_h (dq_t (dq_t (dq_t (dq_t dzX4_add_0))))
theorem dX4_add_9 : decode cX4_add 9 = .ok (.if_icmp .ge 23, 3) := dq_h (dq_t (dq_t (dq_t (dq_t (dq_t dzX4_add_0)))))
theorem dX4_add_12 : decode cX4_add 12 = .ok (.aload_n 0, 1) := dq_h (dq_t (dq_t (dq_t (dq_t (dq_t (dq_t dzX4_add_0))))))
theorem dX4_add_13 : decode cX4_add 13 = .ok (.getfield 9, 3) := dq_h (dq_t (dq_t (dq_t (dq_t (dq_t (dq_t (dq_t dzX4_add_0)))))))
theorem dX4_add_16 : decode cX4_add 16 = .ok (.aload_n 0, 1) := dq_h (dq_t (dq_t (dq_t (dq_t (dq_t (dq_t (dq_t (dq_t dzX4_add_0))))))))
theorem dX4_add_17 : decode cX4_add 17 = .ok (.getfield 18, 3) := dq_h (dq_t (dq_t (dq_t (dq_t (dq_t (dq_t (dq_t (dq_t (dq_t dzX4_add_0)))))))))
theorem dX4_add_20 : decode cX4_add 20 = .ok (.iload_n 1, 1) := dq_h (dq_t (dq_t (dq_t (dq_t (dq_t (dq_t (dq_t (dq_t (dq_t (dq_t dzX4_add_0))))))))))
theorem dX4_add_21 : decode cX4_add 21 = .ok (.iastore, 1) := dq_h (dq_t (dq_t (dq_t (dq_t (dq_t (dq_t (dq_t (dq_t (dq_t (dq_t (dq_t dzX4_add_0)))))))))))
theorem dX4_add_22 : decode cX4_add 22 = .ok (.aload_n 0, 1) := dq_h (dq_t (dq_t (dq_t (dq_t (dq_t (dq_t (dq_t (dq_t (dq_t (dq_t (dq_t (dq_t dzX4_add_0))))))))))))
theorem dX4_add_23 : decode cX4_add 23 = .ok (.dup, 1) := dq_h (dq_t (dq_t (dq_t (dq_t (dq_t (dq_t (dq_t (dq_t (dq_t (dq_t (dq_t (dq_t (dq_t dzX4_add_0)))))))))))))
theorem dX4_add_24 : decode cX4_add 24 = .ok (.getfield 18, 3) := dq_h (dq_t (dq_t (dq_t (dq_t (dq_t (dq_t (dq_t (dq_t (dq_t (dq_t (dq_t (dq_t (dq_t (dq_t dzX4_add_0))))))))))))))
theorem dX4_add_27 : decode cX4_add 27 = .ok (.iconst 1, 1) := dq_h (dq_t (dq_t (dq_t (dq_t (dq_t (dq_t (dq_t (dq_t (dq_t (dq_t (dq_t (dq_t (dq_t (dq_t (dq_t dzX4_add_0)))))))))))))))
theorem dX4_add_28 : decode cX4_add 28 = .ok (.iadd, 1) := dq_h (dq_t (dq_t (dq_t (dq_t (dq_t (dq_t (dq_t (dq_t (dq_t (dq_t (dq_t (dq_t (dq_t (dq_t (dq_t (dq_t dzX4_add_0))))))))))))))))
theorem dX4_add_29 : decode cX4_add 29 = .ok (.putfield 18, 3) := dq_h (dq_t (dq_t (dq_t (dq_t (dq_t (dq_t (dq_t (dq_t (dq_t (dq_t (dq_t (dq_t (dq_t (dq_t (dq_t (dq_t (dq_t dzX4_add_0)))))))))))))))))
theorem dX4_add_32 : decode cX4_add 32 = .ok (.return_, 1) := dq_h (dq_t (dq_t (dq_t (dq_t (dq_t (dq_t (dq_t (dq_t (dq_t (dq_t (dq_t (dq_t (dq_t (dq_t (dq_t (dq_t (dq_t (dq_t dzX4_add_0))))))))))))))))))
theorem dzX4_minds_0 : dq_F cX4_minds [(0, .iconst 0, 1), (1, .istore_n 2, 1), (2, .iload_n 2, 1), (3, .aload_n 0, 1), (4, .getfield 18, 3), (7, .if_icmp .ge 21, 3), (10, .aload_n 0, 1), (11, .getfield 9, 3), (14, .iload_n 2, 1), (15, .iaload, 1), (16, .iload_n 1, 1), (17, .if_icmp .ne 5, 3), (20, .iconst 1, 1), (21, .ireturn, 1), (22, .iinc 2 1, 3), (25, .goto (-23), 3), (28, .iconst 0, 1), (29, .ireturn, 1)] := dq_s 18 0 (by decide +kernel)
theorem dX4_minds_0 : decode cX4_minds 0 = .ok (.iconst 0, 1) := dq_h dzX4_minds_0
theorem dX4_minds_1 : decode cX4_minds 1 = .ok (.istore_n 2, 1) := dq_h (dq_t dzX4_minds_0)
theorem dX4_minds_2 : decode cX4_minds 2 = .ok (.iload_n 2, 1) := dq_h (dq_t (dq_t dzX4_minds_0))
theorem dX4_minds_3 : decode cX4_minds 3 = .ok (.aload_n 0, 1) := dq_h (dq_t (dq_t (dq_t dzX4_minds_0)))
theorem dX4_minds_4 : decode cX4_minds 4 = .ok (.getfield 18, 3) := dq_h (dq_t (dq_t (dq_t (dq_t dzX4_minds_0))))
theorem dX4_minds_7 : decode cX4_minds 7 = .ok (.if_icmp .ge 21, 3) := dq_h (dq_t (dq_t (dq_t (dq_t (dq_t dzX4_minds_0)))))
theorem dX4_minds_10 : decode cX4_minds 10 = .ok (.aload_n 0, 1) := dq_h (dq_t (dq_t (dq_t (dq_t (dq_t (dq_t dzX4_minds_0))))))
theorem dX4_minds_11 : decode cX4_minds 11 = .ok (.getfield 9, 3) := dq_h (dq_t (dq_t (dq_t (dq_t (dq_t (dq_t (dq_t dzX4_minds_0)))))))
theorem dX4_minds_14 : decode cX4_minds 14 = .ok (.iload_n 2, 1) := dq_h (dq_t (dq_t (dq_t (dq_t (dq_t (dq_t (dq_t (dq_t dzX4_minds_0))))))))
theorem dX4_minds_15 : decode cX4_minds 15 = .ok (.iaload, 1) := dq_h (dq_t (dq_t (dq_t (dq_t (dq_t (dq_t (dq_t (dq_t (dq_t dzX4_minds_0)))))))))
theorem dX4_minds_16 : decode cX4_minds 16 = .ok (.iload_n 1, 1) := dq_h (dq_t (dq_t (dq_t (dq_t (dq_t (dq_t (dq_t (dq_t (dq_t (dq_t dzX4_minds_0))))))))))
theorem dX4_minds_17 : decode cX4_minds 17 = .ok (.if_icmp .ne 5, 3) := dq_h (dq_t (dq_t (dq_t (dq_t (dq_t (dq_t (dq_t (dq_t (dq_t (dq_t (dq_t dzX4_minds_0)))))))))))
theorem dX4_minds_20 : decode cX4_minds 20 = .ok (.iconst 1, 1) := dq_h (dq_t (dq_t (dq_t (dq_t (dq_t (dq_t (dq_t (dq_t (dq_t (dq_t (dq_t (dq_t dzX4_minds_0))))))))))))
theorem dX4_minds_21 : decode cX4_minds 21 = .ok (.ireturn, 1) := dq_h (dq_t (dq_t (dq_t (dq_t (dq_t (dq_t (dq_t (dq_t (dq_t (dq_t (dq_t (dq_t (dq_t dzX4_minds_0)))))))))))))
theorem dX4_minds_22 : decode cX4_minds 22 = .ok (.iinc 2 1, 3) := dq_h (dq_t (dq_t (dq_t (dq_t (dq_t (dq_t (dq_t (dq_t (dq_t (dq_t (dq_t (dq_t (dq_t (dq_t dzX4_minds_0))))))))))))))
theorem dX4_minds_25 : decode cX4_minds 25 = .ok (.goto (-23), 3) := dq_h (dq_t (dq_t (dq_t (dq_t (dq_t (dq_t (dq_t (dq_t (dq_t (dq_t (dq_t (dq_t (dq_t (dq_t (dq_t dzX4_minds_0)))))))))))))))
theorem dX4_minds_28 : decode cX4_minds 28 = .ok (.iconst 0, 1) := dq_h (dq_t (dq_t (dq_t (dq_t (dq_t (dq_t (dq_t (dq_t (dq_t (dq_t (dq_t (dq_t (dq_t (dq_t (dq_t (dq_t dzX4_minds_0))))))))))))))))
theorem dX4_minds_29 : decode cX4_minds 29 = .ok (.ireturn, 1) := dq_h (dq_t (dq_t (dq_t (dq_t (dq_t (dq_t (dq_t (dq_t (dq_t (dq_t (dq_t (dq_t (dq_t (dq_t (dq_t (dq_t (dq_t dzX4_minds_0)))))))))))))))))
theorem dzX4_worth_0 : dq_F cX4_worth [(0, .iconst 0, 1), (1, .istore_n 3, 1), (2, .iconst 0, 1), (3, .istore 4, 2), (5, .iload 4, 2), (7, .aload_n 0, 1), (8, .getfield 18, 3), (11, .if_icmp .ge 150, 3), (14, .aload_n 0, 1), (15, .getfield 9, 3), (18, .iload 4, 2), (20, .iaload, 1), (21, .istore 5, 2), (23, .iload 5, 2), (25, .sipush 10010, 3), (28, .if_icmp .ge 44, 3), (31, .iload_n 3, 1), (32, .aload_n 0, 1), (33, .getfield 15, 3)] := dq_s 19 0 (by decide +kernel)
theorem dX4_worth_0 : decode cX4_worth 0 = .ok (.iconst 0, 1) := dq_h dzX4_worth_0
theorem dX4_worth_1 : decode cX4_worth 1 = .ok (.istore_n 3, 1) := dq_h (dq_t dzX4_worth_0)
theorem dX4_worth_2 : decode cX4_worth 2 = .ok (.iconst 0, 1) := dq_h (dq_t (dq_t dzX4_worth_0))
theorem dX4_worth_3 : decode cX4_worth 3 = .ok (.istore 4, 2) := dq_h (dq_t (dq_t (dq_t dzX4_worth_0)))
theorem dX4_worth_5 : decode cX4_worth 5 = .ok (.iload 4, 2) := dq_h (dq_t (dq_t (dq_t (dq_t dzX4_worth_0))))
theorem dX4_worth_7 : decode cX4_worth 7 = .ok (.aload_n 0, 1) := dq_h (dq_t (dq_t (dq_t (dq_t (dq_t dzX4_worth_0)))))
theorem dX4_worth_8 : decode cX4_worth 8 = .ok (.getfield 18, 3) := dq_h (dq_t (dq_t (dq_t (dq_t (dq_t (dq_t dzX4_worth_0))))))
theorem dX4_worth_11 : decode cX4_worth 11 = .ok (.if_icmp .ge 150, 3) := dq_h (dq_t (dq_t (dq_t (dq_t (dq_t (dq_t (dq_t dzX4_worth_0)))))))
theorem dX4_worth_14 : decode cX4_worth 14 = .ok (.aload_n 0, 1) := dq_h (dq_t (dq_t (dq_t (dq_t (dq_t (dq_t (dq_t (dq_t dzX4_worth_0))))))))
theorem dX4_worth_15 : decode cX4_worth 15 = .ok (.getfield 9, 3) := dq_h (dq_t (dq_t (dq_t (dq_t (dq_t (dq_t (dq_t (dq_t (dq_t dzX4_worth_0)))))))))
theorem dX4_worth_18 : decode cX4_worth 18 = .ok (.iload 4, 2) := dq_h (dq_t (dq_t (dq_t (dq_t (dq_t (dq_t (dq_t (dq_t (dq_t (dq_t dzX4_worth_0))))))))))
theorem dX4_worth_20 : decode cX4_worth 20 = .ok (.iaload, 1) := dq_h (dq_t (dq_t (dq_t (dq_t (dq_t (dq_t (dq_t (dq_t (dq_t (dq_t (dq_t dzX4_worth_0)))))))))))
theorem dX4_worth_21 : decode cX4_worth 21 = .ok (.istore 5, 2) := dq_h (dq_t (dq_t (dq_t (dq_t (dq_t (dq_t (dq_t (dq_t (dq_t (dq_t (dq_t (dq_t dzX4_worth_0))))))))))))
theorem dX4_worth_23 : decode cX4_worth 23 = .ok (.iload 5, 2) := dq_h (dq_t (dq_t (dq_t (dq_t (dq_t (dq_t (dq_t (dq_t (dq_t (dq_t (dq_t (dq_t (dq_t dzX4_worth_0)))))))))))))
theorem dX4_worth_25 : decode cX4_worth 25 = .ok (.sipush 10010, 3) := dq_h (dq_t (dq_t (dq_t (dq_t (dq_t (dq_t (dq_t (dq_t (dq_t (dq_t (dq_t (dq_t (dq_t (dq_t dzX4_worth_0))))))))))))))
theorem dX4_worth_28 : decode cX4_worth 28 = .ok (.if_icmp .ge 44, 3) := dq_h (dq_t (dq_t (dq_t (dq_t (dq_t (dq_t (dq_t (dq_t (dq_t (dq_t (dq_t (dq_t (dq_t (dq_t (dq_t dzX4_worth_0)))))))))))))))
theorem dX4_worth_31 : decode cX4_worth 31 = .ok (.iload_n 3, 1) := dq_h (dq_t (dq_t (dq_t (dq_t (dq_t (dq_t (dq_t (dq_t (dq_t (dq_t (dq_t (dq_t (dq_t (dq_t (dq_t (dq_t dzX4_worth_0))))))))))))))))
theorem dX4_worth_32 : decode cX4_worth 32 = .ok (.aload_n 0, 1) := dq_h (dq_t (dq_t (dq_t (dq_t (dq_t (dq_t (dq_t (dq_t (dq_t (dq_t (dq_t (dq_t (dq_t (dq_t (dq_t (dq_t (dq_t dzX4_worth_0)))))))))))))))))
theorem dX4_worth_33 : decode cX4_worth 33 = .ok (.getfield 15, 3) := dq_h (dq_t (dq_t (dq_t (dq_t (dq_t (dq_t (dq_t (dq_t (dq_t (dq_t (dq_t (dq_t (dq_t (dq_t (dq_t (dq_t (dq_t (dq_t dzX4_worth_0))))))))))))))))))
end

/-! part 11.d.1 -/
section
theorem dzX4_worth_36 : dq_F cX4_worth [(36, .arraylength, 1), (37, .if_icmp .ge 35, 3), (40, .aload_n 0, 1), (41, .getfield 15, 3), (44, .iload_n 3, 1), (45, .iload 5, 2), (47, .sipush 9999, 3), (50, .if_icmp .gt 8, 3), (53, .iload 5, 2), (55, .goto 10, 3), (58, .aload_n 2, 1), (59, .aload_n 1, 1), (60, .iload 5, 2), (62, .invokevirtual 26, 3), (65, .iastore, 1), (66, .iinc 3 1, 3), (69, .goto 86, 3), (72, .iload 5, 2), (74, .sipush 10010, 3), (77, .if_icmp .ne 35, 3), (80, .iload_n 3, 1), (81, .iconst 1, 1), (82, .if_icmp .lt 30, 3), (85, .aload_n 0, 1)] := dq_s 24 36 (by decide +kernel)
theorem dX4_worth_36 : decode cX4_worth 36 = .ok (.arraylength, 1) := dq_h dzX4_worth_36
theorem dX4_worth_37 : decode cX4_worth 37 = .ok (.if_icmp .ge 35, 3) := dq_h (dq_t dzX4_worth_36)
theorem dX4_worth_40 : decode cX4_worth 40 = .ok (.aload_n 0, 1) := dq_h (dq_t (dq_t dzX4_worth_36))
theorem dX4_worth_41 : decode cX4_worth 41 = .ok (.getfield 15, 3) := dq_h (dq_t (dq_t (dq_t dzX4_worth_36)))
theorem dX4_worth_44 : decode cX4_worth 44 = .ok (.iload_n 3, 1) := dq_h (dq_t (dq_t (dq_t (dq_t dzX4_worth_36))))
theorem dX4_worth_45 : decode cX4_worth 45 = .ok (.iload 5, 2) := dq_h (dq_t (dq_t (dq_t (dq_t (dq_t dzX4_worth_36)))))
theorem dX4_worth_47 : decode cX4_worth 47 = .ok (.sipush 9999, 3) := dq_h (dq_t (dq_t (dq_t (dq_t (dq_t (dq_t dzX4_worth_36))))))
theorem dX4_worth_50 : decode cX4_worth 50 = .ok (.if_icmp .gt 8, 3) := dq_h (dq_t (dq_t (dq_t (dq_t (dq_t (dq_t (dq_t dzX4_worth_36)))))))
theorem dX4_worth_53 : decode cX4_worth 53 = .ok (.iload 5, 2) := dq_h (dq_t (dq_t (dq_t (dq_t (dq_t (dq_t (dq_t (dq_t dzX4_worth_36))))))))
theorem dX4_worth_55 : decode cX4_worth 55 = .ok (.goto 10, 3) := dq_h (dq_t (dq_t (dq_t (dq_t (dq_t (dq_t (dq_t (dq_t (dq_t dzX4_worth_36)))))))))
theorem dX4_worth_58 : decode cX4_worth 58 = .ok (.aload_n 2, 1) := dq_h (dq_t (dq_t (dq_t (dq_t (dq_t (dq_t (dq_t (dq_t (dq_t (dq_t dzX4_worth_36))))))))))
theorem dX4_worth_59 : decode cX4_worth 59 = .ok (.aload_n 1, 1) := dq_h (dq_t (dq_t (dq_t (dq_t (dq_t (dq_t (dq_t (dq_t (dq_t (dq_t (dq_t dzX4_worth_36)))))))))))
theorem dX4_worth_60 : decode cX4_worth 60 = .ok (.iload 5, 2) := dq_h (dq_t (dq_t (dq_t (dq_t (dq_t (dq_t (dq_t (dq_t (dq_t (dq_t (dq_t (dq_t dzX4_worth_36))))))))))))
theorem dX4_worth_62 : decode cX4_worth 62 = .ok (.invokevirtual 26, 3) := dq_h (dq_t (dq_t (dq_t (dq_t (dq_t (dq_t (dq_t (dq_t (dq_t (dq_t (dq_t (dq_t (dq_t dzX4_worth_36)))))))))))))
theorem dX4_worth_65 : decode cX4_worth 65 = .ok (.iastore, 1) := dq_h (dq_t (dq_t (dq_t (dq_t (dq_t (dq_t (dq_t (dq_t (dq_t (dq_t (dq_t (dq_t (dq_t (dq_t dzX4_worth_36))))))))))))))
theorem dX4_worth_66 : decode cX4_worth 66 = .ok (.iinc 3 1, 3) := dq_h (dq_t (dq_t (dq_t (dq_t (dq_t (dq_t (dq_t (dq_t (dq_t (dq_t (dq_t (dq_t (dq_t (dq_t (dq_t dzX4_worth_36)))))))))))))))
theorem dX4_worth_69 : decode cX4_worth 69 = .ok (.goto 86, 3) := dq_h (dq_t (dq_t (dq_t (dq_t (dq_t (dq_t (dq_t (dq_t (dq_t (dq_t (dq_t (dq_t (dq_t (dq_t (dq_t (dq_t dzX4_worth_36))))))))))))))))
theorem dX4_worth_72 : decode cX4_worth 72 = .ok (.iload 5, 2) := dq_h (dq_t (dq_t (dq_t (dq_t (dq_t (dq_t (dq_t (dq_t (dq_t (dq_t (dq_t (dq_t (dq_t (dq_t (dq_t (dq_t (dq_t dzX4_worth_36)))))))))))))))))
theorem dX4_worth_74 : decode cX4_worth 74 = .ok (.sipush 10010, 3) := dq_h (dq_t (dq_t (dq_t (dq_t (dq_t (dq_t (dq_t (dq_t (dq_t (dq_t (dq_t (dq_t (dq_t (dq_t (dq_t (dq_t (dq_t (dq_t dzX4_worth_36))))))))))))))))))
theorem dX4_worth_77 : decode cX4_worth 77 = .ok (.if_icmp .ne 35, 3) := dq_h (dq_t (dq_t (dq_t (dq_t (dq_t (dq_t (dq_t (dq_t (dq_t (dq_t (dq_t (dq_t (dq_t (dq_t (dq_t (dq_t (dq_t (dq_t (dq_t dzX4_worth_36)))))))))))))))))))
theorem dX4_worth_80 : decode cX4_worth 80 = .ok (.iload_n 3, 1) := dq_h (dq_t (dq_t (dq_t (dq_t (dq_t (dq_t (dq_t (dq_t (dq_t (dq_t (dq_t (dq_t (dq_t (dq_t (dq_t (dq_t (dq_t (dq_t (dq_t (dq_t dzX4_worth_36))))))))))))))))))))
theorem dX4_worth_81 : decode cX4_worth 81 = .ok (.iconst 1, 1) := dq_h (dq_t (dq_t (dq_t (dq_t (dq_t (dq_t (dq_t (dq_t (dq_t (dq_t (dq_t (dq_t (dq_t (dq_t (dq_t (dq_t (dq_t (dq_t (dq_t (dq_t (dq_t dzX4_worth_36)))))))))))))))))))))
theorem dX4_worth_82 : decode cX4_worth 82 = .ok (.if_icmp .lt 30, 3) := dq_h (dq_t (dq_t (dq_t (dq_t (dq_t (dq_t (dq_t (dq_t (dq_t (dq_t (dq_t (dq_t (dq_t (dq_t (dq_t (dq_t (dq_t (dq_t (dq_t (dq_t (dq_t (dq_t dzX4_worth_36))))))))))))))))))))))
theorem dX4_worth_85 : decode cX4_worth 85 = .ok (.aload_n 0, 1) := dq_h (dq_t (dq_t (dq_t (dq_t (dq_t (dq_t (dq_t (dq_t (dq_t (dq_t (dq_t (dq_t (dq_t (dq_t (dq_t (dq_t (dq_t (dq_t (dq_t (dq_t (dq_t (dq_t (dq_t dzX4_worth_36)))))))))))))))))))))))
theorem dzX4_worth_86 : dq_F cX4_worth [(86, .getfield 15, 3), (89, .iload_n 3, 1), (90, .iconst 1, 1), (91, .isub, 1), (92, .aload_n 0, 1), (93, .getfield 15, 3), (96, .iload_n 3, 1), (97, .iconst 1, 1), (98, .isub, 1), (99, .iaload, 1), (100, .ifCond .ne 7, 3), (103, .iconst 1, 1), (104, .goto 4, 3), (107, .iconst 0, 1), (108, .iastore, 1), (109, .goto 46, 3), (112, .iload 5, 2), (114, .sipush 10010, 3), (117, .if_icmp .le 38, 3), (120, .iload_n 3, 1), (121, .iconst 2, 1), (122, .if_icmp .lt 33, 3), (125, .iinc 3 (-1), 3), (128, .aload_n 0, 1)] := dq_s 24 86 (by decide +kernel)
theorem dX4_worth_86 : decode cX4_worth 86 = .ok (.getfield 15, 3) := dq_h dzX4_worth_86
theorem dX4_worth_89 : decode cX4_worth 89 = .ok (.iload_n 3, 1) := dq_h (dq_t dzX4_worth_86)
theorem dX4_worth_90 : decode cX4_worth 90 = .ok (.iconst 1, 1) := dq_h (dq_t (dq_t dzX4_worth_86))
theorem dX4_worth_91 : decode cX4_worth 91 = .ok (.isub, 1) := dq_h (dq_t (dq_t (dq_t dzX4_worth_86)))
theorem dX4_worth_92 : decode cX4_worth 92 = .ok (.aload_n 0, 1) := dq_h (dq_t (dq_t (dq_t (dq_t dzX4_worth_86))))
theorem dX4_worth_93 : decode cX4_worth 93 = .ok (.getfield 15, 3) := dq_h (dq_t (dq_t (dq_t (dq_t (dq_t dzX4_worth_86)))))
theorem dX4_worth_96 : decode cX4_worth 96 = .ok (.iload_n 3, 1) := dq_h (dq_t (dq_t (dq_t (dq_t (dq_t (dq_t dzX4_worth_86))))))
theorem dX4_worth_97 : decode cX4_worth 97 = .ok (.iconst 1, 1) := dq_h (dq_t (dq_t (dq_t (dq_t (dq_t (dq_t (dq_t dzX4_worth_86)))))))
theorem dX4_worth_98 : decode cX4_worth 98 = .ok (.isub, 1) := dq_h (dq_t (dq_t (dq_t (dq_t (dq_t (dq_t (dq_t (dq_t dzX4_worth_86))))))))
theorem dX4_worth_99 : decode cX4_worth 99 = .ok (.iaload, 1) := dq_h (dq_t (dq_t (dq_t (dq_t (dq_t (dq_t (dq_t (dq_t (dq_t dzX4_worth_86)))))))))
theorem dX4_worth_100 : decode cX4_worth 100 = .ok (.ifCond .ne 7, 3) := dq_h (dq_t (dq_t (dq_t (dq_t (dq_t (dq_t (dq_t (dq_t (dq_t (dq_t dzX4_worth_86))))))))))
theorem dX4_worth_103 : decode cX4_worth 103 = .ok (.iconst 1, 1) := dq_h (dq_t (dq_t (dq_t (dq_t (dq_t (dq_t (dq_t (dq_t (dq_t (dq_t (dq_t dzX4_worth_86)))))))))))
theorem dX4_worth_104 : decode cX4_worth 104 = .ok (.goto 4, 3) := dq_h (dq_t (dq_t (dq_t (dq_t (dq_t (dq_t (dq_t (dq_t (dq_t (dq_t (dq_t (dq_t dzX4_worth_86))))))))))))
theorem dX4_worth_107 : decode cX4_worth 107 = .ok (.iconst 0, 1) := dq_h (dq_t (dq_t (dq_t (dq_t (dq_t (dq_t (dq_t (dq_t (dq_t (dq_t (dq_t (dq_t (dq_t dzX4_worth_86)))))))))))))
theorem dX4_worth_108 : decode cX4_worth 108 = .ok (.iastore, 1) := dq_h (dq_t (dq_t (dq_t (dq_t (dq_t (dq_t (dq_t (dq_t (dq_t (dq_t (dq_t (dq_t (dq_t (dq_t dzX4_worth_86))))))))))))))
theorem dX4_worth_109 : decode cX4_worth 109 = .ok (.goto 46, 3) := dq_h (dq_t (dq_t (dq_t (dq_t (dq_t (dq_t (dq_t (dq_t (dq_t (dq_t (dq_t (dq_t (dq_t (dq_t (dq_t dzX4_worth_86)))))))))))))))
theorem dX4_worth_112 : decode cX4_worth 112 = .ok (.iload 5, 2) := dq_h (dq_t (dq_t (dq_t (dq_t (dq_t (dq_t (dq_t (dq_t (dq_t (dq_t (dq_t (dq_t (dq_t (dq_t (dq_t (dq_t dzX4_worth_86))))))))))))))))
theorem dX4_worth_114 : decode cX4_worth 114 = .ok (.sipush 10010, 3) := dq_h (dq_t (dq_t (dq_t (dq_t (dq_t (dq_t (dq_t (dq_t (dq_t (dq_t (dq_t (dq_t (dq_t (dq_t (dq_t (dq_t (dq_t dzX4_worth_86)))))))))))))))))
theorem dX4_worth_117 : decode cX4_worth 117 = .ok (.if_icmp .le 38, 3) := dq_h (dq_t (dq_t (dq_t (dq_t (dq_t (dq_t (dq_t (dq_t (dq_t (dq_t (dq_t (dq_t (dq_t (dq_t (dq_t (dq_t (dq_t (dq_t dzX4_worth_86))))))))))))))))))
theorem dX4_worth_120 : decode cX4_worth 120 = .ok (.iload_n 3, 1) := dq_h (dq_t (dq_t (dq_t (dq_t (dq_t (dq_t (dq_t (dq_t (dq_t (dq_t (dq_t (dq_t (dq_t (dq_t (dq_t (dq_t (dq_t (dq_t (dq_t dzX4_worth_86)))))))))))))))))))
theorem dX4_worth_121 : decode cX4_worth 121 = .ok (.iconst 2, 1) := dq_h (dq_t (dq_t (dq_t (dq_t (dq_t (dq_t (dq_t (dq_t (dq_t (dq_t (dq_t (dq_t (dq_t (dq_t (dq_t (dq_t (dq_t (dq_t (dq_t (dq_t dzX4_worth_86))))))))))))))))))))
theorem dX4_worth_122 : decode cX4_worth 122 = .ok (.if_icmp .lt 33, 3) := dq_h (dq_t (dq_t (dq_t (dq_t (dq_t (dq_t (dq_t (dq_t (dq_t (dq_t (dq_t (dq_t (dq_t (dq_t (dq_t (dq_t (dq_t (dq_t (dq_t (dq_t (dq_t dzX4_worth_86)))))))))))))))))))))
theorem dX4_worth_125 : decode cX4_worth 125 = .ok (.iinc 3 (-1), 3) := dq_h (dq_t (dq_t (dq_t (dq_t (dq_t (dq_t (dq_t (dq_t (dq_t (dq_t (dq_t (dq_t (dq_t (dq_t (dq_t (dq_t (dq_t (dq_t (dq_t (dq_t (dq_t (dq_t dzX4_worth_86))))))))))))))))))))))
theorem dX4_worth_128 : decode cX4_worth 128 = .ok (.aload_n 0, 1) := dq_h (dq_t (dq_t (dq_t (dq_t (dq_t (dq_t (dq_t (dq_t (dq_t (dq_t (dq_t (dq_t (dq_t (dq_t (dq_t (dq_t (dq_t (dq_t (dq_t (dq_t (dq_t (dq_t (dq_t dzX4_worth_86)))))))))))))))))))))))
theorem dzX4_worth_129 : dq_F cX4_worth [(129, .getfield 15, 3), (132, .iload_n 3, 1), (133, .iconst 1, 1), (134, .isub, 1), (135, .iload 5, 2), (137, .aload_n 0, 1), (138, .getfield 15, 3), (141, .iload_n 3, 1), (142, .iconst 1, 1), (143, .isub, 1), (144, .iaload, 1), (145, .aload_n 0, 1), (146, .getfield 15, 3), (149, .iload_n 3, 1), (150, .iaload, 1), (151, .invokestatic 32, 3), (154, .iastore, 1), (155, .iinc 4 1, 3), (158, .goto (-153), 3), (161, .iload_n 3, 1), (162, .ifCond .ne 7, 3), (165, .iconst 0, 1), (166, .goto 9, 3), (169, .aload_n 0, 1)] := dq_s 24 129 (by decide +kernel)
theorem dX4_worth_129 : decode cX4_worth 129 = .ok (.getfield 15, 3) := dq_h dzX4_worth_129
theorem dX4_worth_132 : decode cX4_worth 132 = .ok (.iload_n 3, 1) := dq_h (dq_t dzX4_worth_129)
theorem dX4_worth_133 : decode cX4_worth 133 = .ok (.iconst 1, 1) := dq_h (dq_t (dq_t dzX4_worth_129))
theorem dX4_worth_134 : decode cX4_worth 134 = .ok (.isub, 1) := dq_h (dq_t (dq_t (dq_t dzX4_worth_129)))
theorem dX4_worth_135 : decode cX4_worth 135 = .ok (.iload 5, 2) := dq_h (dq_t (dq_t (dq_t (dq_t dzX4_worth_129))))
theorem dX4_worth_137 : decode cX4_worth 137 = .ok (.aload_n 0, 1) := dq_h (dq_t (dq_t (dq_t (dq_t (dq_t dzX4_worth_129)))))
theorem dX4_worth_138 : decode cX4_worth 138 = .ok (.getfield 15, 3) := dq_h (dq_t (dq_t (dq_t (dq_t (dq_t (dq_t dzX4_worth_129))))))
theorem dX4_worth_141 : decode cX4_worth 141 = .ok (.iload_n 3, 1) := dq_h (dq_t (dq_t (dq_t (dq_t (dq_t (dq_t (dq_t dzX4_worth_129)))))))
theorem dX4_worth_142 : decode cX4_worth 142 = .ok (.iconst 1, 1) := dq_h (dq_t (dq_t (dq_t (dq_t (dq_t (dq_t (dq_t (dq_t dzX4_worth_129))))))))
theorem dX4_worth_143 : decode cX4_worth 143 = .ok (.isub, 1) := dq_h (dq_t (dq_t (dq_t (dq_t (dq_t (dq_t (dq_t (dq_t (dq_t dzX4_worth_129)))))))))
theorem dX4_worth_144 : decode cX4_worth 144 = .ok (.iaload, 1) := dq_h (dq_t (dq_t (dq_t (dq_t (dq_t (dq_t (dq_t (dq_t (dq_t (dq_t dzX4_worth_129))))))))))
theorem dX4_worth_145 : decode cX4_worth 145 = .ok (.aload_n 0, 1) := dq_h (dq_t (dq_t (dq_t (dq_t (dq_t (dq_t (dq_t (dq_t (dq_t (dq_t (dq_t dzX4_worth_129)))))))))))
theorem dX4_worth_146 : decode cX4_worth 146 = .ok (.getfield 15, 3) := dq_h (dq_t (dq_t (dq_t (dq_t (dq_t (dq_t (dq_t (dq_t (dq_t (dq_t (dq_t (dq_t dzX4_worth_129))))))))))))
theorem dX4_worth_149 : decode cX4_worth 149 = .ok (.iload_n 3, 1) := dq_h (dq_t (dq_t (dq_t (dq_t (dq_t (dq_t (dq_t (dq_t (dq_t (dq_t (dq_t (dq_t (dq_t dzX4_worth_129)))))))))))))
theorem dX4_worth_150 : decode cX4_worth 150 = .ok (.iaload, 1) := dq_h (dq_t (dq_t (dq_t (dq_t (dq_t (dq_t (dq_t (dq_t (dq_t (dq_t (dq_t (dq_t (dq_t (dq_t dzX4_worth_129))))))))))))))
theorem dX4_worth_151 : decode cX4_worth 151 = .ok (.invokestatic 32, 3) := dq_h (dq_t (dq_t (dq_t (dq_t (dq_t (dq_t (dq_t (dq_t (dq_t (dq_t (dq_t (dq_t (dq_t (dq_t (dq_t dzX4_worth_129)))))))))))))))
theorem dX4_worth_154 : decode cX4_worth 154 = .ok (.iastore, 1) := dq_h (dq_t (dq_t (dq_t (dq_t (dq_t (dq_t (dq_t (dq_t (dq_t (dq_t (dq_t (dq_t (dq_t (dq_t (dq_t (dq_t dzX4_worth_129))))))))))))))))
theorem dX4_worth_155 : decode cX4_worth 155 = .ok (.iinc 4 1, 3) := dq_h (dq_t (dq_t (dq_t (dq_t (dq_t (dq_t (dq_t (dq_t (dq_t (dq_t (dq_t (dq_t (dq_t (dq_t (dq_t (dq_t (dq_t dzX4_worth_129)))))))))))))))))
theorem dX4_worth_158 : decode cX4_worth 158 = .ok (.goto (-153), 3) := dq_h (dq_t (dq_t (dq_t (dq_t (dq_t (dq_t (dq_t (dq_t (dq_t (dq_t (dq_t (dq_t (dq_t (dq_t (dq_t (dq_t (dq_t (dq_t dzX4_worth_129))))))))))))))))))
theorem dX4_worth_161 : decode cX4_worth 161 = .ok (.iload_n 3, 1) := dq_h (dq_t (dq_t (dq_t (dq_t (dq_t (dq_t (dq_t (dq_t (dq_t (dq_t (dq_t (dq_t (dq_t (dq_t (dq_t (dq_t (dq_t (dq_t (dq_t dzX4_worth_129)))))))))))))))))))
theorem dX4_worth_162 : decode cX4_worth 162 = .ok (.ifCond .ne 7, 3) := dq_h (dq_t (dq_t (dq_t (dq_t (dq_t (dq_t (dq_t (dq_t (dq_t (dq_t (dq_t (dq_t (dq_t (dq_t (dq_t (dq_t (dq_t (dq_t (dq_t (dq_t dzX4_worth_129))))))))))))))))))))
theorem dX4_worth_165 : decode cX4_worth 165 = .ok (.iconst 0, 1) := dq_h (dq_t (dq_t (dq_t (dq_t (dq_t (dq_t (dq_t (dq_t (dq_t (dq_t (dq_t (dq_t (dq_t (dq_t (dq_t (dq_t (dq_t (dq_t (dq_t (dq_t (dq_t dzX4_worth_129)))))))))))))))))))))
theorem dX4_worth_166 : decode cX4_worth 166 = .ok (.goto 9, 3) := dq_h (dq_t (dq_t (dq_t (dq_t (dq_t (dq_t (dq_t (dq_t (dq_t (dq_t (dq_t (dq_t (dq_t (dq_t (dq_t (dq_t (dq_t (dq_t (dq_t (dq_t (dq_t (dq_t dzX4_worth_129))))))))))))))))))))))
theorem dX4_worth_169 : decode cX4_worth 169 = .ok (.aload_n 0, 1) := dq_h (dq_t (dq_t (dq_t (dq_t (dq_t (dq_t (dq_t (dq_t (dq_t (dq_t (dq_t (dq_t (dq_t (dq_t (dq_t (dq_t (dq_t (dq_t (dq_t (dq_t (dq_t (dq_t (dq_t dzX4_worth_129)))))))))))))))))))))))
theorem dzX4_worth_170 : dq_F cX4_worth [(170, .getfield 15, 3), (173, .iconst 0, 1), (174, .iaload, 1), (175, .ireturn, 1)] := dq_s 4 170 (by decide +kernel)
theorem dX4_worth_170 : decode cX4_worth 170 = .ok (.getfield 15, 3) := dq_h dzX4_worth_170
theorem dX4_worth_173 : decode cX4_worth 173 = .ok (.iconst 0, 1) := dq_h (dq_t dzX4_worth_170)
theorem dX4_worth_174 : decode cX4_worth 174 = .ok (.iaload, 1) := dq_h (dq_t (dq_t dzX4_worth_170))
theorem dX4_worth_175 : decode cX4_worth 175 = .ok (.ireturn, 1) := dq_h (dq_t (dq_t (dq_t dzX4_worth_170)))
theorem dX4_join_0 : decode cX4_join 0 = .ok (.iload_n 0, 1) := by decide +kernel
theorem dX4_join_1 : decode cX4_join 1 = .ok (.tableswitch 105 10011 10017 #[43, 57, 71, 82, 93, 97, 101], 43) := by decide +kernel
theorem dzX4_join_44 : dq_F cX4_join [(44, .iload_n 1, 1), (45, .ifCond .ne 7, 3), (48, .iload_n 2, 1), (49, .ifCond .eq 7, 3), (52, .iconst 1, 1), (53, .goto 4, 3), (56, .iconst 0, 1), (57, .ireturn, 1), (58, .iload_n 1, 1), (59, .ifCond .eq 11, 3), (62, .iload_n 2, 1), (63, .ifCond .eq 7, 3), (66, .iconst 1, 1), (67, .goto 4, 3), (70, .iconst 0, 1), (71, .ireturn, 1), (72, .iload_n 1, 1), (73, .iload_n 2, 1), (74, .if_icmp .ge 7, 3), (77, .iconst 1, 1), (78, .goto 4, 3), (81, .iconst 0, 1), (82, .ireturn, 1), (83, .iload_n 1, 1)] := dq_s 24 44 (by decide +kernel)
theorem dX4_join_44 : decode cX4_join 44 = .ok (.iload_n 1, 1) := dq_h dzX4_join_44
theorem dX4_join_45 : decode cX4_join 45 = .ok (.ifCond .ne 7, 3) := dq_h (dq_t dzX4_join_44)
theorem dX4_join_48 : decode cX4_join 48 = .ok (.iload_n 2, 1) := dq_h (dq_t (dq_t dzX4_join_44))
theorem dX4_join_49 : decode cX4_join 49 = .ok (.ifCond .eq 7, 3) := dq_h (dq_t (dq_t (dq_t dzX4_join_44)))
theorem dX4_join_52 : decode cX4_join 52 = .ok (.iconst 1, 1) := dq_h (dq_t (dq_t (dq_t (dq_t dzX4_join_44))))
theorem dX4_join_53 : decode cX4_join 53 = .ok (.goto 4, 3) := dq_h (dq_t (dq_t (dq_t (dq_t (dq_t dzX4_join_44)))))
theorem dX4_join_56 : decode cX4_join 56 = .ok (.iconst 0, 1) := dq_h (dq_t (dq_t (dq_t (dq_t (dq_t (dq_t dzX4_join_44))))))
theorem dX4_join_57 : decode cX4_join 57 = .ok (.ireturn, 1) := dq_h (dq_t (dq_t (dq_t (dq_t (dq_t (dq_t (dq_t dzX4_join_44)))))))
theorem dX4_join_58 : decode cX4_join 58 = .ok (.iload_n 1, 1) := dq_h (dq_t (dq_t (dq_t (dq_t (dq_t (dq_t (dq_t (dq_t dzX4_join_44))))))))
theorem dX4_join_59 : decode cX4_join 59 = .ok (.ifCond .eq 11, 3) := dq_h (dq_t (dq_t (dq_t (dq_t (dq_t (dq_t (dq_t (dq_t (dq_t dzX4_join_44)))))))))
theorem dX4_join_62 : decode cX4_join 62 = .ok (.iload_n 2, 1) := dq_h (dq_t (dq_t (dq_t (dq_t (dq_t (dq_t (dq_t (dq_t (dq_t (dq_t dzX4_join_44))))))))))
theorem dX4_join_63 : decode cX4_join 63 = .ok (.ifCond .eq 7, 3) := dq_h (dq_t (dq_t (dq_t (dq_t (dq_t (dq_t (dq_t (dq_t (dq_t (dq_t (dq_t dzX4_join_44)))))))))))
theorem dX4_join_66 : decode cX4_join 66 = .ok (.iconst 1, 1) := dq_h (dq_t (dq_t (dq_t (dq_t (dq_t (dq_t (dq_t (dq_t (dq_t (dq_t (dq_t (dq_t dzX4_join_44))))))))))))
theorem dX4_join_67 : decode cX4_join 67 = .ok (.goto 4, 3) := dq_h (dq_t (dq_t (dq_t (dq_t (dq_t (dq_t (dq_t (dq_t (dq_t (dq_t (dq_t (dq_t (dq_t dzX4_join_44)))))))))))))
theorem dX4_join_70 : decode cX4_join 70 = .ok (.iconst 0, 1) := dq_h (dq_t (dq_t (dq_t (dq_t (dq_t (dq_t (dq_t (dq_t (dq_t (dq_t (dq_t (dq_t (dq_t (dq_t dzX4_join_44))))))))))))))
theorem dX4_join_71 : decode cX4_join 71 = .ok (.ireturn, 1) := dq_h (dq_t (dq_t (dq_t (dq_t (dq_t (dq_t (dq_t (dq_t (dq_t (dq_t (dq_t (dq_t (dq_t (dq_t (dq_t dzX4_join_44)))))))))))))))
theorem dX4_join_72 : decode cX4_join 72 = .ok (.iload_n 1, 1) := dq_h (dq_t (dq_t (dq_t (dq_t (dq_t (dq_t (dq_t (dq_t (dq_t (dq_t (dq_t (dq_t (dq_t (dq_t (dq_t (dq_t dzX4_join_44))))))))))))))))
theorem dX4_join_73 : decode cX4_join 73 = .ok (.iload_n 2, 1) := dq_h (dq_t (dq_t (dq_t (dq_t (dq_t (dq_t (dq_t (dq_t (dq_t (dq_t (dq_t (dq_t (dq_t (dq_t (dq_t (dq_t (dq_t dzX4_join_44)))))))))))))))))
theorem dX4_join_74 : decode cX4_join 74 = .ok (.if_icmp .ge 7, 3) := dq_h (dq_t (dq_t (dq_t (dq_t (dq_t (dq_t (dq_t (dq_t (dq_t (dq_t (dq_t (dq_t (dq_t (dq_t (dq_t (dq_t (dq_t (dq_t dzX4_join_44))))))))))))))))))
theorem dX4_join_77 : decode cX4_join 77 = .ok (.iconst 1, 1) := dq_h (dq_t (dq_t (dq_t (dq_t (dq_t (dq_t (dq_t (dq_t (dq_t (dq_t (dq_t (dq_t (dq_t (dq_t (dq_t (dq_t (dq_t (dq_t (dq_t dzX4_join_44)))))))))))))))))))
theorem dX4_join_78 : decode cX4_join 78 = .ok (.goto 4, 3) := dq_h (dq_t (dq_t (dq_t (dq_t (dq_t (dq_t (dq_t (dq_t (dq_t (dq_t (dq_t (dq_t (dq_t (dq_t (dq_t (dq_t (dq_t (dq_t (dq_t (dq_t dzX4_join_44))))))))))))))))))))
theorem dX4_join_81 : decode cX4_join 81 = .ok (.iconst 0, 1) := dq_h (dq_t (dq_t (dq_t (dq_t (dq_t (dq_t (dq_t (dq_t (dq_t (dq_t (dq_t (dq_t (dq_t (dq_t (dq_t (dq_t (dq_t (dq_t (dq_t (dq_t (dq_t dzX4_join_44)))))))))))))))))))))
theorem dX4_join_82 : decode cX4_join 82 = .ok (.ireturn, 1) := dq_h (dq_t (dq_t (dq_t (dq_t (dq_t (dq_t (dq_t (dq_t (dq_t (dq_t (dq_t (dq_t (dq_t (dq_t (dq_t (dq_t (dq_t (dq_t (dq_t (dq_t (dq_t (dq_t dzX4_join_44))))))))))))))))))))))
theorem dX4_join_83 : decode cX4_join 83 = .ok (.iload_n 1, 1) := dq_h (dq_t (dq_t (dq_t (dq_t (dq_t (dq_t (dq_t (dq_t (dq_t (dq_t (dq_t (dq_t (dq_t (dq_t (dq_t (dq_t (dq_t (dq_t (dq_t (dq_t (dq_t (dq_t (dq_t dzX4_join_44)))))))))))))))))))))))
theorem dzX4_join_84 : dq_F cX4_join [(84, .iload_n 2, 1), (85, .if_icmp .ne 7, 3), (88, .iconst 1, 1), (89, .goto 4, 3), (92, .iconst 0, 1), (93, .ireturn, 1), (94, .iload_n 1, 1), (95, .iload_n 2, 1), (96, .iadd, 1), (97, .ireturn, 1), (98, .iload_n 1, 1), (99, .iload_n 2, 1), (100, .isub, 1), (101, .ireturn, 1), (102, .iload_n 1, 1), (103, .iload_n 2, 1), (104, .imul, 1), (105, .ireturn, 1), (106, .iload_n 2, 1), (107, .ifCond .ne 7, 3), (110, .iconst 0, 1), (111, .goto 6, 3), (114, .iload_n 1, 1), (115, .iload_n 2, 1)] := dq_s 24 84 (by decide +kernel)
theorem dX4_join_84 : decode cX4_join 84 = .ok (.iload_n 2, 1) := dq_h dzX4_join_84
theorem dX4_join_85 : decode cX4_join 85 = .ok (.if_icmp .ne 7, 3) := dq_h (dq_t dzX4_join_84)
theorem dX4_join_88 : decode cX4_join 88 = .ok (.iconst 1, 1) := dq_h (dq_t (dq_t dzX4_join_84))
theorem dX4_join_89 : decode cX4_join 89 = .ok (.goto 4, 3) := dq_h (dq_t (dq_t (dq_t dzX4_join_84)))
theorem dX4_join_92 : decode cX4_join 92 = .ok (.iconst 0, 1) := dq_h (dq_t (dq_t (dq_t (dq_t dzX4_join_84))))
theorem dX4_join_93 : decode cX4_join 93 = .ok (.ireturn, 1) := dq_h (dq_t (dq_t (dq_t (dq_t (dq_t dzX4_join_84)))))
theorem dX4_join_94 : decode cX4_join 94 = .ok (.iload_n 1, 1) := dq_h (dq_t (dq_t (dq_t (dq_t (dq_t (dq_t dzX4_join_84))))))
theorem dX4_join_95 : decode cX4_join 95 = .ok (.iload_n 2, 1) := dq_h (dq_t (dq_t (dq_t (dq_t (dq_t (dq_t (dq_t dzX4_join_84)))))))
theorem dX4_join_96 : decode cX4_join 96 = .ok (.iadd, 1) := dq_h (dq_t (dq_t (dq_t (dq_t (dq_t (dq_t (dq_t (dq_t dzX4_join_84))))))))
theorem dX4_join_97 : decode cX4_join 97 = .ok (.ireturn, 1) := dq_h (dq_t (dq_t (dq_t (dq_t (dq_t (dq_t (dq_t (dq_t (dq_t dzX4_join_84)))))))))
theorem dX4_join_98 : decode cX4_join 98 = .ok (.iload_n 1, 1) := dq_h (dq_t (dq_t (dq_t (dq_t (dq_t (dq_t (dq_t (dq_t (dq_t (dq_t dzX4_join_84))))))))))
theorem dX4_join_99 : decode cX4_join 99 = .ok (.iload_n 2, 1) := dq_h (dq_t (dq_t (dq_t (dq_t (dq_t (dq_t (dq_t (dq_t (dq_t (dq_t (dq_t dzX4_join_84)))))))))))
theorem dX4_join_100 : decode cX4_join 100 = .ok (.isub, 1) := dq_h (dq_t (dq_t (dq_t (dq_t (dq_t (dq_t (dq_t (dq_t (dq_t (dq_t (dq_t (dq_t dzX4_join_84))))))))))))
theorem dX4_join_101 : decode cX4_join 101 = .ok (.ireturn, 1) := dq_h (dq_t (dq_t (dq_t (dq_t (dq_t (dq_t (dq_t (dq_t (dq_t (dq_t (dq_t (dq_t (dq_t dzX4_join_84)))))))))))))
theorem dX4_join_102 : decode cX4_join 102 = .ok (.iload_n 1, 1) := dq_h (dq_t (dq_t (dq_t (dq_t (dq_t (dq_t (dq_t (dq_t (dq_t (dq_t (dq_t (dq_t (dq_t (dq_t dzX4_join_84))))))))))))))
theorem dX4_join_103 : decode cX4_join 103 = .ok (.iload_n 2, 1) := dq_h (dq_t (dq_t (dq_t (dq_t (dq_t (dq_t (dq_t (dq_t (dq_t (dq_t (dq_t (dq_t (dq_t (dq_t (dq_t dzX4_join_84)))))))))))))))
theorem dX4_join_104 : decode cX4_join 104 = .ok (.imul, 1) := dq_h (dq_t (dq_t (dq_t (dq_t (dq_t (dq_t (dq_t (dq_t (dq_t (dq_t (dq_t (dq_t (dq_t (dq_t (dq_t (dq_t dzX4_join_84))))))))))))))))
theorem dX4_join_105 : decode cX4_join 105 = .ok (.ireturn, 1) := dq_h (dq_t (dq_t (dq_t (dq_t (dq_t (dq_t (dq_t (dq_t (dq_t (dq_t (dq_t (dq_t (dq_t (dq_t (dq_t (dq_t (dq_t dzX4_join_84)))))))))))))))))
theorem dX4_join_106 : decode cX4_join 106 = .ok (.iload_n 2, 1) := dq_h (dq_t (dq_t (dq_t (dq_t (dq_t (dq_t (dq_t (dq_t (dq_t (dq_t (dq_t (dq_t (dq_t (dq_t (dq_t (dq_t (dq_t (dq_t dzX4_join_84))))))))))))))))))
theorem dX4_join_107 : decode cX4_join 107 = .ok (.ifCond .ne 7, 3) := dq_h (dq_t (dq_t (dq_t (dq_t (dq_t (dq_t (dq_t (dq_t (dq_t (dq_t (dq_t (dq_t (dq_t (dq_t (dq_t (dq_t (dq_t (dq_t (dq_t dzX4_join_84)))))))))))))))))))
theorem dX4_join_110 : decode cX4_join 110 = .ok (.iconst 0, 1) := dq_h (dq_t (dq_t (dq_t (dq_t (dq_t (dq_t (dq_t (dq_t (dq_t (dq_t (dq_t (dq_t (dq_t (dq_t (dq_t (dq_t (dq_t (dq_t (dq_t (dq_t dzX4_join_84))))))))))))))))))))
theorem dX4_join_111 : decode cX4_join 111 = .ok (.goto 6, 3) := dq_h (dq_t (dq_t (dq_t (dq_t (dq_t (dq_t (dq_t (dq_t (dq_t (dq_t (dq_t (dq_t (dq_t (dq_t (dq_t (dq_t (dq_t (dq_t (dq_t (dq_t (dq_t dzX4_join_84)))))))))))))))))))))
theorem dX4_join_114 : decode cX4_join 114 = .ok (.iload_n 1, 1) := dq_h (dq_t (dq_t (dq_t (dq_t (dq_t (dq_t (dq_t (dq_t (dq_t (dq_t (dq_t (dq_t (dq_t (dq_t (dq_t (dq_t (dq_t (dq_t (dq_t (dq_t (dq_t (dq_t dzX4_join_84))))))))))))))))))))))
theorem dX4_join_115 : decode cX4_join 115 = .ok (.iload_n 2, 1) := dq_h (dq_t (dq_t (dq_t (dq_t (dq_t (dq_t (dq_t (dq_t (dq_t (dq_t (dq_t (dq_t (dq_t (dq_t (dq_t (dq_t (dq_t (dq_t (dq_t (dq_t (dq_t (dq_t (dq_t dzX4_join_84)))))))))))))))))))))))
theorem dzX4_join_116 : dq_F cX4_join [(116, .idiv, 1), (117, .ireturn, 1)] := dq_s 2 116 (by decide +kernel)
theorem dX4_join_116 : decode cX4_join 116 = .ok (.idiv, 1) := dq_h dzX4_join_116
theorem dX4_join_117 : decode cX4_join 117 = .ok (.ireturn, 1) := dq_h (dq_t dzX4_join_116)
theorem dzX5_init_0 : dq_F cX5_init [(0, .aload_n 0, 1), (1, .invokespecial 3, 3), (4, .aload_n 0, 1), (5, .bipush 8, 2)] := dq_s 4 0 (by decide +kernel)
theorem dX5_init_0 : decode cX5_init 0 = .ok (.aload_n 0, 1) := dq_h dzX5_init_0
theorem dX5_init_1 : decode cX5_init 1 = .ok (.invokespecial 3, 3) := dq_h (dq_t dzX5_init_0)
theorem dX5_init_4 : decode cX5_init 4 = .ok (.aload_n 0, 1) := dq_h (dq_t (dq_t dzX5_init_0))
theorem dX5_init_5 : decode cX5_init 5 = .ok (.bipush 8, 2) := dq_h (dq_t (dq_t (dq_t dzX5_init_0)))
theorem dX5_init_7 : decode cX5_init 7 = .ok (.newarray .int, 2) := by decide +kernel
theorem dzX5_init_9 : dq_F cX5_init [(9, .putfield 9, 3), (12, .aload_n 0, 1), (13, .bipush 8, 2)] := dq_s 3 9 (by decide +kernel)
theorem dX5_init_9 : decode cX5_init 9 = .ok (.putfield 9, 3) := dq_h dzX5_init_9
theorem dX5_init_12 : decode cX5_init 12 = .ok (.aload_n 0, 1) := dq_h (dq_t dzX5_init_9)
theorem dX5_init_13 : decode cX5_init 13 = .ok (.bipush 8, 2) := dq_h (dq_t (dq_t dzX5_init_9))
theorem dX5_init_15 : decode cX5_init 15 = .ok (.newarray .int, 2) := by decide +kernel
theorem dzX5_init_17 : dq_F cX5_init [(17, .putfield 15, 3), (20, .aload_n 0, 1), (21, .bipush 8, 2)] := dq_s 3 17 (by decide +kernel)
theorem dX5_init_17 : decode cX5_init 17 = .ok (.putfield 15, 3) := dq_h dzX5_init_17
theorem dX5_init_20 : decode cX5_init 20 = .ok (.aload_n 0, 1) := dq_h (dq_t dzX5_init_17)
theorem dX5_init_21 : decode cX5_init 21 = .ok (.bipush 8, 2) := dq_h (dq_t (dq_t dzX5_init_17))
theorem dX5_init_23 : decode cX5_init 23 = .ok (.newarray .int, 2) := by decide +kernel
theorem dzX5_init_25 : dq_F cX5_init [(25, .putfield 18, 3), (28, .aload_n 0, 1), (29, .iconst 0, 1), (30, .putfield 21, 3), (33, .return_, 1)] := dq_s 5 25 (by decide +kernel)
theorem dX5_init_25 : decode cX5_init 25 = .ok (.putfield 18, 3) := dq_h dzX5_init_25
theorem dX5_init_28 : decode cX5_init 28 = .ok (.aload_n 0, 1) := dq_h (dq_t dzX5_init_25)
theorem dX5_init_29 : decode cX5_init 29 = .ok (.iconst 0, 1) := dq_h (dq_t (dq_t dzX5_init_25))
theorem dX5_init_30 : decode cX5_init 30 = .ok (.putfield 21, 3) := dq_h (dq_t (dq_t (dq_t dzX5_init_25)))
theorem dX5_init_33 : decode cX5_init 33 = .ok (.return_, 1) := dq_h (dq_t (dq_t (dq_t (dq_t dzX5_init_25))))
theorem dzX5_add_0 : dq_F cX5_add [(0, .aload_n 0, 1), (1, .getfield 21, 3), (4, .bipush 8, 2), (6, .if_icmp .ge 43, 3), (9, .aload_n 0, 1), (10, .getfield 9, 3), (13, .aload_n 0, 1), (14, .getfield 21, 3), (17, .iload_n 1, 1), (18, .iastore, 1), (19, .aload_n 0, 1), (20, .getfield 15, 3), (23, .aload_n 0, 1), (24, .getfield 21, 3), (27, .iload_n 2, 1), (28, .iastore, 1), (29, .aload_n 0, 1), (30, .getfield 18, 3), (33, .aload_n 0, 1), (34, .getfield 21, 3), (37, .iload_n 3, 1), (38, .iastore, 1), (39, .aload_n 0, 1), (40, .dup, 1)] := dq_s 24 0 (by decide +kernel)
theorem dX5_add_0 : decode cX5_add 0 = .ok (.aload_n 0, 1) := dq_h dzX5_add_0
theorem dX5_add_1 : decode cX5_add 1 = .ok (.getfield 21, 3) := dq_h (dq_t dzX5_add_0)
theorem dX5_add_4 : decode cX5_add 4 = .ok (.bipush 8, 2) := dq_h (dq_t (dq_t dzX5_add_0))
theorem dX5_add_6 : decode cX5_add 6 = .ok (.if_icmp .ge 43, 3) := dq_h (dq_t (dq_t (dq_t dzX5_add_0)))
theorem dX5_add_9 : decode cX5_add 9 = .ok (.aload_n 0, 1) := dq_h (dq_t (dq_t (dq_t (dq_t dzX5_add_0))))
theorem dX5_add_10 : decode cX5_add 10 = .ok (.getfield 9, 3) := dq_h (dq_t (dq_t (dq_t (dq_t (dq_t dzX5_add_0)))))
theorem dX5_add_13 : decode cX5_add 13 = .ok (.aload_n 0, 1) := dq_h (dq_t (dq_t (dq_t (dq_t (dq_t (dq_t dzX5_add_0))))))
theorem dX5_add_14 : decode cX5_add 14 = .ok (.getfield 21, 3) := dq_h (dq_t (dq_t (dq_t (dq_t (dq_t (dq_t (dq_t dzX5_add_0)))))))
theorem dX5_add_17 : decode cX5_add 17 = .ok (.iload_n 1, 1) := dq_h (dq_t (dq_t (dq_t (dq_t (dq_t (dq_t (dq_t (dq_t dzX5_add_0))))))))
theorem dX5_add_18 : decode cX5_add 18 = .ok (.iastore, 1) := dq_h (dq_t (dq_t (dq_t (dq_t (dq_t (dq_t (dq_t (dq_t (dq_t dzX5_add_0)))))))))
theorem dX5_add_19 : decode cX5_add 19 = .ok (.aload_n 0, 1) := dq_h (dq_t (dq_t (dq_t (dq_t (dq_t (dq_t (dq_t (dq_t (dq_t (dq_t dzX5_add_0))))))))))
theorem dX5_add_20 : decode cX5_add 20 = .ok (.getfield 15, 3) := dq_h (dq_t (dq_t (dq_t (dq_t (dq_t (dq_t (dq_t (dq_t (dq_t (dq_t (dq_t dzX5_add_0)))))))))))
theorem dX5_add_23 : decode cX5_add 23 = .ok (.aload_n 0, 1) := dq_h (dq_t (dq_t (dq_t (dq_t (dq_t (dq_t (dq_t (dq_t (dq_t (dq_t (dq_t (dq_t dzX5_add_0))))))))))))
theorem dX5_add_24 : decode cX5_add 24 = .ok (.getfield 21, 3) := dq_h (dq_t (dq_t (dq_t (dq_t (dq_t (dq_t (dq_t (dq_t (dq_t (dq_t (dq_t (dq_t (dq_t dzX5_add_0)))))))))))))
theorem dX5_add_27 : decode cX5_add 27 = .ok (.iload_n 2, 1) := dq_h (dq_t (dq_t (dq_t (dq_t (dq_t (dq_t (dq_t (dq_t (dq_t (dq_t (dq_t (dq_t (dq_t (dq_t dzX5_add_0))))))))))))))
theorem dX5_add_28 : decode cX5_add 28 = .ok (.iastore, 1) := dq_h (dq_t (dq_t (dq_t (dq_t (dq_t (dq_t (dq_t (dq_t (dq_t (dq_t (dq_t (dq_t (dq_t (dq_t (dq_t dzX5_add_0)))))))))))))))
theorem dX5_add_29 : decode cX5_add 29 = .ok (.aload_n 0, 1) := dq_h (dq_t (dq_t (dq_t (dq_t (dq_t (dq_t (dq_t (dq_t (dq_t (dq_t (dq_t (dq_t (dq_t (dq_t (dq_t (dq_t dzX5_add_0))))))))))))))))
theorem dX5_add_30 : decode cX5_add 30 = .ok (.getfield 18, 3) := dq_h (dq_t (dq_t (dq_t (dq_t (dq_t (dq_t (dq_t (dq_t (dq_t (dq_t (dq_t (dq_t (dq_t (dq_t (dq_t (dq_t (dq_t dzX5_add_0)))))))))))))))))
theorem dX5_add_33 : decode cX5_add 33 = .ok (.aload_n 0, 1) := dq_h (dq_t (dq_t (dq_t (dq_t (dq_t (dq_t (dq_t (dq_t (dq_t (dq_t (dq_t (dq_t (dq_t (dq_t (dq_t (dq_t (dq_t (dq_t dzX5_add_0))))))))))))))))))
theorem dX5_add_34 : decode cX5_add 34 = .ok (.getfield 21, 3) := dq_h (dq_t (dq_t (dq_t (dq_t (dq_t (dq_t (dq_t (dq_t (dq_t (dq_t (dq_t (dq_t (dq_t (dq_t (dq_t (dq_t (dq_t (dq_t (dq_t dzX5_add_0)))))))))))))))))))
theorem dX5_add_37 : decode cX5_add 37 = .ok (.iload_n 3, 1) := dq_h (dq_t (dq_t (dq_t (dq_t (dq_t (dq_t (dq_t (dq_t (dq_t (dq_t (dq_t (dq_t (dq_t (dq_t (dq_t (dq_t (dq_t (dq_t (dq_t (dq_t dzX5_add_0))))))))))))))))))))
theorem dX5_add_38 : decode cX5_add 38 = .ok (.iastore, 1) := dq_h (dq_t (dq_t (dq_t (dq_t (dq_t (dq_t (dq_t (dq_t (dq_t (dq_t (dq_t (dq_t (dq_t (dq_t (dq_t (dq_t (dq_t (dq_t (dq_t (dq_t (dq_t dzX5_add_0)))))))))))))))))))))
theorem dX5_add_39 : decode cX5_add 39 = .ok (.aload_n 0, 1) := dq_h (dq_t (dq_t (dq_t (dq_t (dq_t (dq_t (dq_t (dq_t (dq_t (dq_t (dq_t (dq_t (dq_t (dq_t (dq_t (dq_t (dq_t (dq_t (dq_t (dq_t (dq_t (dq_t dzX5_add_0))))))))))))))))))))))
theorem dX5_add_40 : decode cX5_add 40 = .ok (.dup, 1) := dq_h (dq_t (dq_t (dq_t (dq_t (dq_t (dq_t (dq_t (dq_t (dq_t (dq_t (dq_t (dq_t (dq_t (dq_t (dq_t (dq_t (dq_t (dq_t (dq_t (dq_t (dq_t (dq_t (dq_t dzX5_add_0)))))))))))))))))))))))
theorem dzX5_add_41 : dq_F cX5_add [(41, .getfield 21, 3), (44, .iconst 1, 1), (45, .iadd, 1), (46, .putfield 21, 3), (49, .return_, 1)] := dq_s 5 41 (by decide +kernel)
theorem dX5_add_41 : decode cX5_add 41 = .ok (.getfield 21, 3) := dq_h dzX5_add_41
theorem dX5_add_44 : decode cX5_add 44 = .ok (.iconst 1, 1) := dq_h (dq_t dzX5_add_41)
theorem dX5_add_45 : decode cX5_add 45 = .ok (.iadd, 1) := dq_h (dq_t (dq_t dzX5_add_41))
theorem dX5_add_46 : decode cX5_add 46 = .ok (.putfield 21, 3) := dq_h (dq_t (dq_t (dq_t dzX5_add_41)))
theorem dX5_add_49 : decode cX5_add 49 = .ok (.return_, 1) := dq_h (dq_t (dq_t (dq_t (dq_t dzX5_add_41))))
theorem dzX5_suits_0 : dq_F cX5_suits [(0, .iconst 0, 1), (1, .istore_n 3, 1), (2, .iload_n 3, 1), (3, .aload_n 0, 1), (4, .getfield 21, 3), (7, .if_icmp .ge 70, 3), (10, .aload_n 0, 1), (11, .getfield 15, 3), (14, .iload_n 3, 1), (15, .iaload, 1), (16, .ifCond .lt 18, 3), (19, .aload_n 0, 1), (20, .getfield 15, 3), (23, .iload_n 3, 1), (24, .iaload, 1), (25, .aload_n 2, 1), (26, .arraylength, 1), (27, .if_icmp .ge 7, 3), (30, .iconst 1, 1), (31, .goto 4, 3), (34, .iconst 0, 1), (35, .istore 4, 2), (37, .aload_n 0, 1), (38, .getfield 9, 3)] := dq_s 24 0 (by decide +kernel)
theorem dX5_suits_0 : decode cX5_suits 0 = .ok (.iconst 0, 1) := dq_h dzX5_suits_0
theorem dX5_suits_1 : decode cX5_suits 1 = .ok (.istore_n 3, 1) := dq_h (dq_t dzX5_suits_0)
theorem dX5_suits_2 : decode cX5_suits 2 = .ok (.iload_n 3, 1) := dq_h (dq_t (dq_t dzX5_suits_0))
theorem dX5_suits_3 : decode cX5_suits 3 = .ok (.aload_n 0, 1) := dq_h (dq_t (dq_t (dq_t dzX5_suits_0)))
theorem dX5_suits_4 : decode cX5_suits 4 = .ok (.getfield 21, 3) := dq_h (dq_t (dq_t (dq_t (dq_t dzX5_suits_0))))
theorem dX5_suits_7 : decode cX5_suits 7 = .ok (.if_icmp .ge 70, 3) := dq_h (dq_t (dq_t (dq_t (dq_t (dq_t dzX5_suits_0)))))
theorem dX5_suits_10 : decode cX5_suits 10 = .ok (.aload_n 0, 1) := dq_h (dq_t (dq_t (dq_t (dq_t (dq_t (dq_t dzX5_suits_0))))))
theorem dX5_suits_11 : decode cX5_suits 11 = .ok (.getfield 15, 3) := dq_h (dq_t (dq_t (dq_t (dq_t (dq_t (dq_t (dq_t dzX5_suits_0)))))))
theorem dX5_suits_14 : decode cX5_suits 14 = .ok (.iload_n 3, 1) := dq_h (dq_t (dq_t (dq_t (dq_t (dq_t (dq_t (dq_t (dq_t dzX5_suits_0))))))))
theorem dX5_suits_15 : decode cX5_suits 15 = .ok (.iaload, 1) := dq_h (dq_t (dq_t (dq_t (dq_t (dq_t (dq_t (dq_t (dq_t (dq_t dzX5_suits_0)))))))))
theorem dX5_suits_16 : decode cX5_suits 16 = .ok (.ifCond .lt 18, 3) := dq_h (dq_t (dq_t (dq_t (dq_t (dq_t (dq_t (dq_t (dq_t (dq_t (dq_t dzX5_suits_0))))))))))
theorem dX5_suits_19 : decode cX5_suits 19 = .ok (.aload_n 0, 1) := dq_h (dq_t (dq_t (dq_t (dq_t (dq_t (dq_t (dq_t (dq_t (dq_t (dq_t (dq_t dzX5_suits_0)))))))))))
theorem dX5_suits_20 : decode cX5_suits 20 = .ok (.getfield 15, 3) := dq_h (dq_t (dq_t (dq_t (dq_t (dq_t (dq_t (dq_t (dq_t (dq_t (dq_t (dq_t (dq_t dzX5_suits_0))))))))))))
theorem dX5_suits_23 : decode cX5_suits 23 = .ok (.iload_n 3, 1) := dq_h (dq_t (dq_t (dq_t (dq_t (dq_t (dq_t (dq_t (dq_t (dq_t (dq_t (dq_t (dq_t (dq_t dzX5_suits_0)))))))))))))
theorem dX5_suits_24 : decode cX5_suits 24 = .ok (.iaload, 1) := dq_h (dq_t (dq_t (dq_t (dq_t (dq_t (dq_t (dq_t (dq_t (dq_t (dq_t (dq_t (dq_t (dq_t (dq_t dzX5_suits_0))))))))))))))
theorem dX5_suits_25 : decode cX5_suits 25 = .ok (.aload_n 2, 1) := dq_h (dq_t (dq_t (dq_t (dq_t (dq_t (dq_t (dq_t (dq_t (dq_t (dq_t (dq_t (dq_t (dq_t (dq_t (dq_t dzX5_suits_0)))))))))))))))
theorem dX5_suits_26 : decode cX5_suits 26 = .ok (.arraylength, 1) := dq_h (dq_t (dq_t (dq_t (dq_t (dq_t (dq_t (dq_t (dq_t (dq_t (dq_t (dq_t (dq_t (dq_t (dq_t (dq_t (dq_t dzX5_suits_0))))))))))))))))
theorem dX5_suits_27 : decode cX5_suits 27 = .ok (.if_icmp .ge 7, 3) := dq_h (dq_t (dq_t (dq_t (dq_t (dq_t (dq_t (dq_t (dq_t (dq_t (dq_t (dq_t (dq_t (dq_t (dq_t (dq_t (dq_t (dq_t dzX5_suits_0)))))))))))))))))
theorem dX5_suits_30 : decode cX5_suits 30 = .ok (.iconst 1, 1) := dq_h (dq_t (dq_t (dq_t (dq_t (dq_t (dq_t (dq_t (dq_t (dq_t (dq_t (dq_t (dq_t (dq_t (dq_t (dq_t (dq_t (dq_t (dq_t dzX5_suits_0))))))))))))))))))
theorem dX5_suits_31 : decode cX5_suits 31 = .ok (.goto 4, 3) := dq_h (dq_t (dq_t (dq_t (dq_t (dq_t (dq_t (dq_t (dq_t (dq_t (dq_t (dq_t (dq_t (dq_t (dq_t (dq_t (dq_t (dq_t (dq_t (dq_t dzX5_suits_0)))))))))))))))))))
theorem dX5_suits_34 : decode cX5_suits 34 = .ok (.iconst 0, 1) := dq_h (dq_t (dq_t (dq_t (dq_t (dq_t (dq_t (dq_t (dq_t (dq_t (dq_t (dq_t (dq_t (dq_t (dq_t (dq_t (dq_t (dq_t (dq_t (dq_t (dq_t dzX5_suits_0))))))))))))))))))))
theorem dX5_suits_35 : decode cX5_suits 35 = .ok (.istore 4, 2) := dq_h (dq_t (dq_t (dq_t (dq_t (dq_t (dq_t (dq_t (dq_t (dq_t (dq_t (dq_t (dq_t (dq_t (dq_t (dq_t (dq_t (dq_t (dq_t (dq_t (dq_t (dq_t dzX5_suits_0)))))))))))))))))))))
theorem dX5_suits_37 : decode cX5_suits 37 = .ok (.aload_n 0, 1) := dq_h (dq_t (dq_t (dq_t (dq_t (dq_t (dq_t (dq_t (dq_t (dq_t (dq_t (dq_t (dq_t (dq_t (dq_t (dq_t (dq_t (dq_t (dq_t (dq_t (dq_t (dq_t (dq_t dzX5_suits_0))))))))))))))))))))))
theorem dX5_suits_38 : decode cX5_suits 38 = .ok (.getfield 9, 3) := dq_h (dq_t (dq_t (dq_t (dq_t (dq_t (dq_t (dq_t (dq_t (dq_t (dq_t (dq_t (dq_t (dq_t (dq_t (dq_t (dq_t (dq_t (dq_t (dq_t (dq_t (dq_t (dq_t (dq_t dzX5_suits_0)))))))))))))))))))))))
theorem dzX5_suits_41 : dq_F cX5_suits [(41, .iload_n 3, 1), (42, .iaload, 1), (43, .iload_n 1, 1), (44, .if_icmp .ne 27, 3), (47, .iload 4, 2), (49, .ifCond .eq 22, 3), (52, .aload_n 2, 1), (53, .aload_n 0, 1), (54, .getfield 15, 3), (57, .iload_n 3, 1), (58, .iaload, 1), (59, .iaload, 1), (60, .aload_n 0, 1), (61, .getfield 18, 3), (64, .iload_n 3, 1), (65, .iaload, 1), (66, .if_icmp .eq 5, 3), (69, .iconst 0, 1), (70, .ireturn, 1), (71, .iinc 3 1, 3), (74, .goto (-72), 3), (77, .iconst 1, 1), (78, .ireturn, 1)] := dq_s 23 41 (by decide +kernel)
theorem dX5_suits_41 : decode cX5_suits 41 = .ok (.iload_n 3, 1) := dq_h dzX5_suits_41
theorem dX5_suits_42 : decode cX5_suits 42 = .ok (.iaload, 1) := dq_h (dq_t dzX5_suits_41)
theorem dX5_suits_43 : decode cX5_suits 43 = .ok (.iload_n 1, 1) := dq_h (dq_t (dq_t dzX5_suits_41))
theorem dX5_suits_44 : decode cX5_suits 44 = .ok (.if_icmp .ne 27, 3) := dq_h (dq_t (dq_t (dq_t dzX5_suits_41)))
theorem dX5_suits_47 : decode cX5_suits 47 = .ok (.iload 4, 2) := dq_h (dq_t (dq_t (dq_t (dq_t dzX5_suits_41))))
theorem dX5_suits_49 : decode cX5_suits 49 = .ok (.ifCond .eq 22, 3) := dq_h (dq_t (dq_t (dq_t (dq_t (dq_t dzX5_suits_41)))))
theorem dX5_suits_52 : decode cX5_suits 52 = .ok (.aload_n 2, 1) := dq_h (dq_t (dq_t (dq_t (dq_t (dq_t (dq_t dzX5_suits_41))))))
theorem dX5_suits_53 : decode cX5_suits 53 = .ok (.aload_n 0, 1) := dq_h (dq_t (dq_t (dq_t (dq_t (dq_t (dq_t (dq_t dzX5_suits_41)))))))
theorem dX5_suits_54 : decode cX5_suits 54 = .ok (.getfield 15, 3) := dq_h (dq_t (dq_t (dq_t (dq_t (dq_t (dq_t (dq_t (dq_t dzX5_suits_41))))))))
theorem dX5_suits_57 : decode cX5_suits 57 = .ok (.iload_n 3, 1) := dq_h (dq_t (dq_t (dq_t (dq_t (dq_t (dq_t (dq_t (dq_t (dq_t dzX5_suits_41)))))))))
theorem dX5_suits_58 : decode cX5_suits 58 = .ok (.iaload, 1) := dq_h (dq_t (dq_t (dq_t (dq_t (dq_t (dq_t (dq_t (dq_t (dq_t (dq_t dzX5_suits_41))))))))))
theorem dX5_suits_59 : decode cX5_suits 59 = .ok (.iaload, 1) := dq_h (dq_t (dq_t (dq_t (dq_t (dq_t (dq_t (dq_t (dq_t (dq_t (dq_t (dq_t dzX5_suits_41)))))))))))
theorem dX5_suits_60 : decode cX5_suits 60 = .ok (.aload_n 0, 1) := dq_h (dq_t (dq_t (dq_t (dq_t (dq_t (dq_t (dq_t (dq_t (dq_t (dq_t (dq_t (dq_t dzX5_suits_41))))))))))))
theorem dX5_suits_61 : decode cX5_suits 61 = .ok (.getfield 18, 3) := dq_h (dq_t (dq_t (dq_t (dq_t (dq_t (dq_t (dq_t (dq_t (dq_t (dq_t (dq_t (dq_t (dq_t dzX5_suits_41)))))))))))))
theorem dX5_suits_64 : decode cX5_suits 64 = .ok (.iload_n 3, 1) := dq_h (dq_t (dq_t (dq_t (dq_t (dq_t (dq_t (dq_t (dq_t (dq_t (dq_t (dq_t (dq_t (dq_t (dq_t dzX5_suits_41))))))))))))))
theorem dX5_suits_65 : decode cX5_suits 65 = .ok (.iaload, 1) := dq_h (dq_t (dq_t (dq_t (dq_t (dq_t (dq_t (dq_t (dq_t (dq_t (dq_t (dq_t (dq_t (dq_t (dq_t (dq_t dzX5_suits_41)))))))))))))))
theorem dX5_suits_66 : decode cX5_suits 66 = .ok (.if_icmp .eq 5, 3) := dq_h (dq_t (dq_t (dq_t (dq_t (dq_t (dq_t (dq_t (dq_t (dq_t (dq_t (dq_t (dq_t (dq_t (dq_t (dq_t (dq_t dzX5_suits_41))))))))))))))))
theorem dX5_suits_69 : decode cX5_suits 69 = .ok (.iconst 0, 1) := dq_h (dq_t (dq_t (dq_t (dq_t (dq_t (dq_t (dq_t (dq_t (dq_t (dq_t (dq_t (dq_t (dq_t (dq_t (dq_t (dq_t (dq_t dzX5_suits_41)))))))))))))))))
theorem dX5_suits_70 : decode cX5_suits 70 = .ok (.ireturn, 1) := dq_h (dq_t (dq_t (dq_t (dq_t (dq_t (dq_t (dq_t (dq_t (dq_t (dq_t (dq_t (dq_t (dq_t (dq_t (dq_t (dq_t (dq_t (dq_t dzX5_suits_41))))))))))))))))))
theorem dX5_suits_71 : decode cX5_suits 71 = .ok (.iinc 3 1, 3) := dq_h (dq_t (dq_t (dq_t (dq_t (dq_t (dq_t (dq_t (dq_t (dq_t (dq_t (dq_t (dq_t (dq_t (dq_t (dq_t (dq_t (dq_t (dq_t (dq_t dzX5_suits_41)))))))))))))))))))
theorem dX5_suits_74 : decode cX5_suits 74 = .ok (.goto (-72), 3) := dq_h (dq_t (dq_t (dq_t (dq_t (dq_t (dq_t (dq_t (dq_t (dq_t (dq_t (dq_t (dq_t (dq_t (dq_t (dq_t (dq_t (dq_t (dq_t (dq_t (dq_t dzX5_suits_41))))))))))))))))))))
theorem dX5_suits_77 : decode cX5_suits 77 = .ok (.iconst 1, 1) := dq_h (dq_t (dq_t (dq_t (dq_t (dq_t (dq_t (dq_t (dq_t (dq_t (dq_t (dq_t (dq_t (dq_t (dq_t (dq_t (dq_t (dq_t (dq_t (dq_t (dq_t (dq_t dzX5_suits_41)))))))))))))))))))))
theorem dX5_suits_78 : decode cX5_suits 78 = .ok (.ireturn, 1) := dq_h (dq_t (dq_t (dq_t (dq_t (dq_t (dq_t (dq_t (dq_t (dq_t (dq_t (dq_t (dq_t (dq_t (dq_t (dq_t (dq_t (dq_t (dq_t (dq_t (dq_t (dq_t (dq_t dzX5_suits_41))))))))))))))))))))))
theorem dzX5_copy_0 : dq_F cX5_copy [(0, .aload_n 0, 1), (1, .aload_n 1, 1), (2, .getfield 21, 3), (5, .putfield 21, 3), (8, .iconst 0, 1), (9, .istore_n 2, 1), (10, .iload_n 2, 1), (11, .bipush 8, 2), (13, .if_icmp .ge 45, 3), (16, .aload_n 0, 1), (17, .getfield 9, 3), (20, .iload_n 2, 1), (21, .aload_n 1, 1), (22, .getfield 9, 3), (25, .iload_n 2, 1), (26, .iaload, 1), (27, .iastore, 1), (28, .aload_n 0, 1), (29, .getfield 15, 3), (32, .iload_n 2, 1), (33, .aload_n 1, 1), (34, .getfield 15, 3), (37, .iload_n 2, 1), (38, .iaload, 1)] := dq_s 24 0 (by decide +kernel)
theorem dX5_copy_0 : decode cX5_copy 0 = .ok (.aload_n 0, 1) := dq_h dzX5_copy_0
theorem dX5_copy_1 : decode cX5_copy 1 = .ok (.aload_n 1, 1) := dq_h (dq_t dzX5_copy_0)
theorem dX5_copy_2 : decode cX5_copy 2 = .ok (.getfield 21, 3) := dq_h (dq_t (dq_t dzX5_copy_0))
theorem dX5_copy_5 : decode cX5_copy 5 = .ok (.putfield 21, 3) := dq_h (dq_t (dq_t (dq_t dzX5_copy_0)))
theorem dX5_copy_8 : decode cX5_copy 8 = .ok (.iconst 0, 1) := dq_h (dq_t (dq_t (dq_t (dq_t dzX5_copy_0))))
theorem dX5_copy_9 : decode cX5_copy 9 = .ok (.istore_n 2, 1) := dq_h (dq_t (dq_t (dq_t (dq_t (dq_t dzX5_copy_0)))))
theorem dX5_copy_10 : decode cX5_copy 10 = .ok (.iload_n 2, 1) := dq_h (dq_t (dq_t (dq_t (dq_t (dq_t (dq_t dzX5_copy_0))))))
theorem dX5_copy_11 : decode cX5_copy 11 = .ok (.bipush 8, 2) := dq_h (dq_t (dq_t (dq_t (dq_t (dq_t (dq_t (dq_t dzX5_copy_0)))))))
theorem dX5_copy_13 : decode cX5_copy 13 = .ok (.if_icmp .ge 45, 3) := dq_h (dq_t (dq_t (dq_t (dq_t (dq_t (dq_t (dq_t (dq_t dzX5_copy_0))))))))
theorem dX5_copy_16 : decode cX5_copy 16 = .ok (.aload_n 0, 1) := dq_h (dq_t (dq_t (dq_t (dq_t (dq_t (dq_t (dq_t (dq_t (dq_t dzX5_copy_0)))))))))
theorem dX5_copy_17 : decode cX5_copy 17 = .ok (.getfield 9, 3) := dq_h (dq_t (dq_t (dq_t (dq_t (dq_t (dq_t (dq_t (dq_t (dq_t (dq_t dzX5_copy_0))))))))))
theorem dX5_copy_20 : decode cX5_copy 20 = .ok (.iload_n 2, 1) := dq_h (dq_t (dq_t (dq_t (dq_t (dq_t (dq_t (dq_t (dq_t (dq_t (dq_t (dq_t dzX5_copy_0)))))))))))
theorem dX5_copy_21 : decode cX5_copy 21 = .ok (.aload_n 1, 1) := dq_h (dq_t (dq_t (dq_t (dq_t (dq_t (dq_t (dq_t (dq_t (dq_t (dq_t (dq_t (dq_t dzX5_copy_0))))))))))))
theorem dX5_copy_22 : decode cX5_copy 22 = .ok (.getfield 9, 3) := dq_h (dq_t (dq_t (dq_t (dq_t (dq_t (dq_t (dq_t (dq_t (dq_t (dq_t (dq_t (dq_t (dq_t dzX5_copy_0)))))))))))))
theorem dX5_copy_25 : decode cX5_copy 25 = .ok (.iload_n 2, 1) := dq_h (dq_t (dq_t (dq_t (dq_t (dq_t (dq_t (dq_t (dq_t (dq_t (dq_t (dq_t (dq_t (dq_t (dq_t dzX5_copy_0))))))))))))))
theorem dX5_copy_26 : decode cX5_copy 26 = .ok (.iaload, 1) := dq_h (dq_t (dq_t (dq_t (dq_t (dq_t (dq_t (dq_t (dq_t (dq_t (dq_t (dq_t (dq_t (dq_t (dq_t (dq_t dzX5_copy_0)))))))))))))))
theorem dX5_copy_27 : decode cX5_copy 27 = .ok (.iastore, 1) := dq_h (dq_t (dq_t (dq_t (dq_t (dq_t (dq_t (dq_t (dq_t (dq_t (dq_t (dq_t (dq_t (dq_t (dq_t (dq_t (dq_t dzX5_copy_0))))))))))))))))
theorem dX5_copy_28 : decode cX5_copy 28 = .ok (.aload_n 0, 1) := dq_h (dq_t (dq_t (dq_t (dq_t (dq_t (dq_t (dq_t (dq_t (dq_t (dq_t (dq_t (dq_t (dq_t (dq_t (dq_t (dq_t (dq_t dzX5_copy_0)))))))))))))))))
theorem dX5_copy_29 : decode cX5_copy 29 = .ok (.getfield 15, 3) := dq_h (dq_t (dq_t (dq_t (dq_t (dq_t (dq_t (dq_t (dq_t (dq_t (dq_t (dq_t (dq_t (dq_t (dq_t (dq_t (dq_t (dq_t (dq_t dzX5_copy_0))))))))))))))))))
theorem dX5_copy_32 : decode cX5_copy 32 = .ok (.iload_n 2, 1) := dq_h (dq_t (dq_t (dq_t (dq_t (dq_t (dq_t (dq_t (dq_t (dq_t (dq_t (dq_t (dq_t (dq_t (dq_t (dq_t (dq_t (dq_t (dq_t (dq_t dzX5_copy_0)))))))))))))))))))
theorem dX5_copy_33 : decode cX5_copy 33 = .ok (.aload_n 1, 1) := dq_h (dq_t (dq_t (dq_t (dq_t (dq_t (dq_t (dq_t (dq_t (dq_t (dq_t (dq_t (dq_t (dq_t (dq_t (dq_t (dq_t (dq_t (dq_t (dq_t (dq_t dzX5_copy_0))))))))))))))))))))
theorem dX5_copy_34 : decode cX5_copy 34 = .ok (.getfield 15, 3) := dq_h (dq_t (dq_t (dq_t (dq_t (dq_t (dq_t (dq_t (dq_t (dq_t (dq_t (dq_t (dq_t (dq_t (dq_t (dq_t (dq_t (dq_t (dq_t (dq_t (dq_t (dq_t dzX5_copy_0)))))))))))))))))))))
theorem dX5_copy_37 : decode cX5_copy 37 = .ok (.iload_n 2, 1) := dq_h (dq_t (dq_t (dq_t (dq_t (dq_t (dq_t (dq_t (dq_t (dq_t (dq_t (dq_t (dq_t (dq_t (dq_t (dq_t (dq_t (dq_t (dq_t (dq_t (dq_t (dq_t (dq_t dzX5_copy_0))))))))))))))))))))))
theorem dX5_copy_38 : decode cX5_copy 38 = .ok (.iaload, 1) := dq_h (dq_t (dq_t (dq_t (dq_t (dq_t (dq_t (dq_t (dq_t (dq_t (dq_t (dq_t (dq_t (dq_t (dq_t (dq_t (dq_t (dq_t (dq_t (dq_t (dq_t (dq_t (dq_t (dq_t dzX5_copy_0)))))))))))))))))))))))
theorem dzX5_copy_39 : dq_F cX5_copy [(39, .iastore, 1), (40, .aload_n 0, 1), (41, .getfield 18, 3), (44, .iload_n 2, 1), (45, .aload_n 1, 1), (46, .getfield 18, 3), (49, .iload_n 2, 1), (50, .iaload, 1), (51, .iastore, 1), (52, .iinc 2 1, 3), (55, .goto (-45), 3), (58, .return_, 1)] := dq_s 12 39 (by decide +kernel)
theorem dX5_copy_39 : decode cX5_copy 39 = .ok (.iastore, 1) := dq_h dzX5_copy_39
theorem dX5_copy_40 : decode cX5_copy 40 = .ok (.aload_n 0, 1) := dq_h (dq_t dzX5_copy_39)
theorem dX5_copy_41 : decode cX5_copy 41 = .ok (.getfield 18, 3) := dq_h (dq_t (dq_t dzX5_copy_39))
theorem dX5_copy_44 : decode cX5_copy 44 = .ok (.iload_n 2, 1) := dq_h (dq_t (dq_t (dq_t dzX5_copy_39)))
theorem dX5_copy_45 : decode cX5_copy 45 = .ok (.aload_n 1, 1) := dq_h (dq_t (dq_t (dq_t (dq_t dzX5_copy_39))))
theorem dX5_copy_46 : decode cX5_copy 46 = .ok (.getfield 18, 3) := dq_h (dq_t (dq_t (dq_t (dq_t (dq_t dzX5_copy_39)))))
theorem dX5_copy_49 : decode cX5_copy 49 = .ok (.iload_n 2, 1) := dq_h (dq_t (dq_t (dq_t (dq_t (dq_t (dq_t dzX5_copy_39))))))
theorem dX5_copy_50 : decode cX5_copy 50 = .ok (.iaload, 1) := dq_h (dq_t (dq_t (dq_t (dq_t (dq_t (dq_t (dq_t dzX5_copy_39)))))))
theorem dX5_copy_51 : decode cX5_copy 51 = .ok (.iastore, 1) := dq_h (dq_t (dq_t (dq_t (dq_t (dq_t (dq_t (dq_t (dq_t dzX5_copy_39))))))))
theorem dX5_copy_52 : decode cX5_copy 52 = .ok (.iinc 2 1, 3) := dq_h (dq_t (dq_t (dq_t (dq_t (dq_t (dq_t (dq_t (dq_t (dq_t dzX5_copy_39)))))))))
theorem dX5_copy_55 : decode cX5_copy 55 = .ok (.goto (-45), 3) := dq_h (dq_t (dq_t (dq_t (dq_t (dq_t (dq_t (dq_t (dq_t (dq_t (dq_t dzX5_copy_39))))))))))
theorem dX5_copy_58 : decode cX5_copy 58 = .ok (.return_, 1) := dq_h (dq_t (dq_t (dq_t (dq_t (dq_t (dq_t (dq_t (dq_t (dq_t (dq_t (dq_t dzX5_copy_39)))))))))))
theorem dzX6_init_0 : dq_F cX6_init [(0, .aload_n 0, 1), (1, .invokespecial 3, 3), (4, .aload_n 0, 1), (5, .bipush 7, 2), (7, .sipush 256, 3)] := dq_s 5 0 (by decide +kernel)
theorem dX6_init_0 : decode cX6_init 0 = .ok (.aload_n 0, 1) := dq_h dzX6_init_0
theorem dX6_init_1 : decode cX6_init 1 = .ok (.invokespecial 3, 3) := dq_h (dq_t dzX6_init_0)
theorem dX6_init_4 : decode cX6_init 4 = .ok (.aload_n 0, 1) := dq_h (dq_t (dq_t dzX6_init_0))
theorem dX6_init_5 : decode cX6_init 5 = .ok (.bipush 7, 2) := dq_h (dq_t (dq_t (dq_t dzX6_init_0)))
theorem dX6_init_7 : decode cX6_init 7 = .ok (.sipush 256, 3) := dq_h (dq_t (dq_t (dq_t (dq_t dzX6_init_0))))
theorem dX6_init_10 : decode cX6_init 10 = .ok (.multianewarray 11 2, 4) := by decide +kernel
theorem dzX6_init_14 : dq_F cX6_init [(14, .putfield 13, 3), (17, .aload_n 0, 1), (18, .bipush 6, 2)] := dq_s 3 14 (by decide +kernel)
theorem dX6_init_14 : decode cX6_init 14 = .ok (.putfield 13, 3) := dq_h dzX6_init_14
theorem dX6_init_17 : decode cX6_init 17 = .ok (.aload_n 0, 1) := dq_h (dq_t dzX6_init_14)
theorem dX6_init_18 : decode cX6_init 18 = .ok (.bipush 6, 2) := dq_h (dq_t (dq_t dzX6_init_14))
theorem dX6_init_20 : decode cX6_init 20 = .ok (.newarray .int, 2) := by decide +kernel
theorem dzX6_init_22 : dq_F cX6_init [(22, .putfield 16, 3), (25, .aload_n 0, 1), (26, .iconst 0, 1), (27, .putfield 20, 3), (30, .aload_n 0, 1), (31, .iconst 0, 1), (32, .putfield 24, 3), (35, .return_, 1)] := dq_s 8 22 (by decide +kernel)
theorem dX6_init_22 : decode cX6_init 22 = .ok (.putfield 16, 3) := dq_h dzX6_init_22
theorem dX6_init_25 : decode cX6_init 25 = .ok (.aload_n 0, 1) := dq_h (dq_t dzX6_init_22)
theorem dX6_init_26 : decode cX6_init 26 = .ok (.iconst 0, 1) := dq_h (dq_t (dq_t dzX6_init_22))
theorem dX6_init_27 : decode cX6_init 27 = .ok (.putfield 20, 3) := dq_h (dq_t (dq_t (dq_t dzX6_init_22)))
theorem dX6_init_30 : decode cX6_init 30 = .ok (.aload_n 0, 1) := dq_h (dq_t (dq_t (dq_t (dq_t dzX6_init_22))))
theorem dX6_init_31 : decode cX6_init 31 = .ok (.iconst 0, 1) := dq_h (dq_t (dq_t (dq_t (dq_t (dq_t dzX6_init_22)))))
theorem dX6_init_32 : decode cX6_init 32 = .ok (.putfield 24, 3) := dq_h (dq_t (dq_t (dq_t (dq_t (dq_t (dq_t dzX6_init_22))))))
theorem dX6_init_35 : decode cX6_init 35 = .ok (.return_, 1) := dq_h (dq_t (dq_t (dq_t (dq_t (dq_t (dq_t (dq_t dzX6_init_22)))))))
theorem dzX6_share_0 : dq_F cX6_share [(0, .aload_n 1, 1), (1, .getfield 27, 3), (4, .iconst 1, 1), (5, .isub, 1), (6, .istore_n 3, 1), (7, .iload_n 3, 1), (8, .ifCond .lt 56, 3), (11, .iconst 0, 1), (12, .istore 4, 2), (14, .iload 4, 2), (16, .iconst 1, 1), (17, .aload_n 1, 1), (18, .getfield 32, 3), (21, .ishl, 1), (22, .if_icmp .ge 36, 3), (25, .iload 4, 2), (27, .invokestatic 35, 3), (30, .iload_n 3, 1), (31, .if_icmp .gt 21, 3), (34, .aload_n 0, 1), (35, .getfield 13, 3), (38, .iload_n 3, 1), (39, .aaload, 1), (40, .iload 4, 2)] := dq_s 24 0 (by decide +kernel)
theorem dX6_share_0 : decode cX6_share 0 = .ok (.aload_n 1, 1) := dq_h dzX6_share_0
theorem dX6_share_1 : decode cX6_share 1 = .ok (.getfield 27, 3) := dq_h (dq_t dzX6_share_0)
theorem dX6_share_4 : decode cX6_share 4 = .ok (.iconst 1, 1) := dq_h (dq_t (dq_t dzX6_share_0))
theorem dX6_share_5 : decode cX6_share 5 = .ok (.isub, 1) := dq_h (dq_t (dq_t (dq_t dzX6_share_0)))
theorem dX6_share_6 : decode cX6_share 6 = .ok (.istore_n 3, 1) := dq_h (dq_t (dq_t (dq_t (dq_t dzX6_share_0))))
theorem dX6_share_7 : decode cX6_share 7 = .ok (.iload_n 3, 1) := dq_h (dq_t (dq_t (dq_t (dq_t (dq_t dzX6_share_0)))))
theorem dX6_share_8 : decode cX6_share 8 = .ok (.ifCond .lt 56, 3) := dq_h (dq_t (dq_t (dq_t (dq_t (dq_t (dq_t dzX6_share_0))))))
theorem dX6_share_11 : decode cX6_share 11 = .ok (.iconst 0, 1) := dq_h (dq_t (dq_t (dq_t (dq_t (dq_t (dq_t (dq_t dzX6_share_0)))))))
theorem dX6_share_12 : decode cX6_share 12 = .ok (.istore 4, 2) := dq_h (dq_t (dq_t (dq_t (dq_t (dq_t (dq_t (dq_t (dq_t dzX6_share_0))))))))
theorem dX6_share_14 : decode cX6_share 14 = .ok (.iload 4, 2) := dq_h (dq_t (dq_t (dq_t (dq_t (dq_t (dq_t (dq_t (dq_t (dq_t dzX6_share_0)))))))))
theorem dX6_share_16 : decode cX6_share 16 = .ok (.iconst 1, 1) := dq_h (dq_t (dq_t (dq_t (dq_t (dq_t (dq_t (dq_t (dq_t (dq_t (dq_t dzX6_share_0))))))))))
theorem dX6_share_17 : decode cX6_share 17 = .ok (.aload_n 1, 1) := dq_h (dq_t (dq_t (dq_t (dq_t (dq_t (dq_t (dq_t (dq_t (dq_t (dq_t (dq_t dzX6_share_0)))))))))))
theorem dX6_share_18 : decode cX6_share 18 = .ok (.getfield 32, 3) := dq_h (dq_t (dq_t (dq_t (dq_t (dq_t (dq_t (dq_t (dq_t (dq_t (dq_t (dq_t (dq_t dzX6_share_0))))))))))))
theorem dX6_share_21 : decode cX6_share 21 = .ok (.ishl, 1) := dq_h (dq_t (dq_t (dq_t (dq_t (dq_t (dq_t (dq_t (dq_t (dq_t (dq_t (dq_t (dq_t (dq_t dzX6_share_0)))))))))))))
theorem dX6_share_22 : decode cX6_share 22 = .ok (.if_icmp .ge 36, 3) := dq_h (dq_t (dq_t (dq_t (dq_t (dq_t (dq_t (dq_t (dq_t (dq_t (dq_t (dq_t (dq_t (dq_t (dq_t dzX6_share_0))))))))))))))
theorem dX6_share_25 : decode cX6_share 25 = .ok (.iload 4, 2) := dq_h (dq_t (dq_t (dq_t (dq_t (dq_t (dq_t (dq_t (dq_t (dq_t (dq_t (dq_t (dq_t (dq_t (dq_t (dq_t dzX6_share_0)))))))))))))))
theorem dX6_share_27 : decode cX6_share 27 = .ok (.invokestatic 35, 3) := dq_h (dq_t (dq_t (dq_t (dq_t (dq_t (dq_t (dq_t (dq_t (dq_t (dq_t (dq_t (dq_t (dq_t (dq_t (dq_t (dq_t dzX6_share_0))))))))))))))))
theorem dX6_share_30 : decode cX6_share 30 = .ok (.iload_n 3, 1) := dq_h (dq_t (dq_t (dq_t (dq_t (dq_t (dq_t (dq_t (dq_t (dq_t (dq_t (dq_t (dq_t (dq_t (dq_t (dq_t (dq_t (dq_t dzX6_share_0)))))))))))))))))
theorem dX6_share_31 : decode cX6_share 31 = .ok (.if_icmp .gt 21, 3) := dq_h (dq_t (dq_t (dq_t (dq_t (dq_t (dq_t (dq_t (dq_t (dq_t (dq_t (dq_t (dq_t (dq_t (dq_t (dq_t (dq_t (dq_t (dq_t dzX6_share_0))))))))))))))))))
theorem dX6_share_34 : decode cX6_share 34 = .ok (.aload_n 0, 1) := dq_h (dq_t (dq_t (dq_t (dq_t (dq_t (dq_t (dq_t (dq_t (dq_t (dq_t (dq_t (dq_t (dq_t (dq_t (dq_t (dq_t (dq_t (dq_t (dq_t dzX6_share_0)))))))))))))))))))
theorem dX6_share_35 : decode cX6_share 35 = .ok (.getfield 13, 3) := dq_h (dq_t (dq_t (dq_t (dq_t (dq_t (dq_t (dq_t (dq_t (dq_t (dq_t (dq_t (dq_t (dq_t (dq_t (dq_t (dq_t (dq_t (dq_t (dq_t (dq_t dzX6_share_0))))))))))))))))))))
theorem dX6_share_38 : decode cX6_share 38 = .ok (.iload_n 3, 1) := dq_h (dq_t (dq_t (dq_t (dq_t (dq_t (dq_t (dq_t (dq_t (dq_t (dq_t (dq_t (dq_t (dq_t (dq_t (dq_t (dq_t (dq_t (dq_t (dq_t (dq_t (dq_t dzX6_share_0)))))))))))))))))))))
theorem dX6_share_39 : decode cX6_share 39 = .ok (.aaload, 1) := dq_h (dq_t (dq_t (dq_t (dq_t (dq_t (dq_t (dq_t (dq_t (dq_t (dq_t (dq_t (dq_t (dq_t (dq_t (dq_t (dq_t (dq_t (dq_t (dq_t (dq_t (dq_t (dq_t dzX6_share_0))))))))))))))))))))))
theorem dX6_share_40 : decode cX6_share 40 = .ok (.iload 4, 2) := dq_h (dq_t (dq_t (dq_t (dq_t (dq_t (dq_t (dq_t (dq_t (dq_t (dq_t (dq_t (dq_t (dq_t (dq_t (dq_t (dq_t (dq_t (dq_t (dq_t (dq_t (dq_t (dq_t (dq_t dzX6_share_0)))))))))))))))))))))))
theorem dzX6_share_42 : dq_F cX6_share [(42, .aload_n 0, 1), (43, .aload_n 1, 1), (44, .aload_n 2, 1), (45, .iload_n 3, 1), (46, .iload 4, 2), (48, .invokevirtual 41, 3), (51, .iastore, 1), (52, .iinc 4 1, 3), (55, .goto (-41), 3), (58, .iinc 3 (-1), 3), (61, .goto (-54), 3), (64, .aload_n 0, 1), (65, .iconst 0, 1), (66, .putfield 20, 3), (69, .aload_n 0, 1), (70, .iconst 0, 1), (71, .putfield 24, 3), (74, .iconst 0, 1), (75, .istore_n 3, 1), (76, .iconst 0, 1), (77, .istore 4, 2), (79, .iload 4, 2), (81, .aload_n 1, 1), (82, .getfield 27, 3)] := dq_s 24 42 (by decide +kernel)
theorem dX6_share_42 : decode cX6_share 42 = .ok (.aload_n 0, 1) := dq_h dzX6_share_42
theorem dX6_share_43 : decode cX6_share 43 = .ok (.aload_n 1, 1) := dq_h (dq_t dzX6_share_42)
theorem dX6_share_44 : decode cX6_share 44 = .ok (.aload_n 2, 1) := dq_h (dq_t (dq_t dzX6_share_42))
theorem dX6_share_45 : decode cX6_share 45 = .ok (.iload_n 3, 1) := dq_h (dq_t (dq_t (dq_t dzX6_share_42)))
theorem dX6_share_46 : decode cX6_share 46 = .ok (.iload 4, 2) := dq_h (dq_t (dq_t (dq_t (dq_t dzX6_share_42))))
theorem dX6_share_48 : decode cX6_share 48 = .ok (.invokevirtual 41, 3) := dq_h (dq_t (dq_t (dq_t (dq_t (dq_t dzX6_share_42)))))
theorem dX6_share_51 : decode cX6_share 51 = .ok (.iastore, 1) := dq_h (dq_t (dq_t (dq_t (dq_t (dq_t (dq_t dzX6_share_42))))))
theorem dX6_share_52 : decode cX6_share 52 = .ok (.iinc 4 1, 3) := dq_h (dq_t (dq_t (dq_t (dq_t (dq_t (dq_t (dq_t dzX6_share_42)))))))
theorem dX6_share_55 : decode cX6_share 55 = .ok (.goto (-41), 3) := dq_h (dq_t (dq_t (dq_t (dq_t (dq_t (dq_t (dq_t (dq_t dzX6_share_42))))))))
theorem dX6_share_58 : decode cX6_share 58 = .ok (.iinc 3 (-1), 3) := dq_h (dq_t (dq_t (dq_t (dq_t (dq_t (dq_t (dq_t (dq_t (dq_t dzX6_share_42)))))))))
theorem dX6_share_61 : decode cX6_share 61 = .ok (.goto (-54), 3) := dq_h (dq_t (dq_t (dq_t (dq_t (dq_t (dq_t (dq_t (dq_t (dq_t (dq_t dzX6_share_42))))))))))
theorem dX6_share_64 : decode cX6_share 64 = .ok (.aload_n 0, 1) := dq_h (dq_t (dq_t (dq_t (dq_t (dq_t (dq_t (dq_t (dq_t (dq_t (dq_t (dq_t dzX6_share_42)))))))))))
theorem dX6_share_65 : decode cX6_share 65 = .ok (.iconst 0, 1) := dq_h (dq_t (dq_t (dq_t (dq_t (dq_t (dq_t (dq_t (dq_t (dq_t (dq_t (dq_t (dq_t dzX6_share_42))))))))))))
theorem dX6_share_66 : decode cX6_share 66 = .ok (.putfield 20, 3) := dq_h (dq_t (dq_t (dq_t (dq_t (dq_t (dq_t (dq_t (dq_t (dq_t (dq_t (dq_t (dq_t (dq_t dzX6_share_42)))))))))))))
theorem dX6_share_69 : decode cX6_share 69 = .ok (.aload_n 0, 1) := dq_h (dq_t (dq_t (dq_t (dq_t (dq_t (dq_t (dq_t (dq_t (dq_t (dq_t (dq_t (dq_t (dq_t (dq_t dzX6_share_42))))))))))))))
theorem dX6_share_70 : decode cX6_share 70 = .ok (.iconst 0, 1) := dq_h (dq_t (dq_t (dq_t (dq_t (dq_t (dq_t (dq_t (dq_t (dq_t (dq_t (dq_t (dq_t (dq_t (dq_t (dq_t dzX6_share_42)))))))))))))))
theorem dX6_share_71 : decode cX6_share 71 = .ok (.putfield 24, 3) := dq_h (dq_t (dq_t (dq_t (dq_t (dq_t (dq_t (dq_t (dq_t (dq_t (dq_t (dq_t (dq_t (dq_t (dq_t (dq_t (dq_t dzX6_share_42))))))))))))))))
theorem dX6_share_74 : decode cX6_share 74 = .ok (.iconst 0, 1) := dq_h (dq_t (dq_t (dq_t (dq_t (dq_t (dq_t (dq_t (dq_t (dq_t (dq_t (dq_t (dq_t (dq_t (dq_t (dq_t (dq_t (dq_t dzX6_share_42)))))))))))))))))
theorem dX6_share_75 : decode cX6_share 75 = .ok (.istore_n 3, 1) := dq_h (dq_t (dq_t (dq_t (dq_t (dq_t (dq_t (dq_t (dq_t (dq_t (dq_t (dq_t (dq_t (dq_t (dq_t (dq_t (dq_t (dq_t (dq_t dzX6_share_42))))))))))))))))))
theorem dX6_share_76 : decode cX6_share 76 = .ok (.iconst 0, 1) := dq_h (dq_t (dq_t (dq_t (dq_t (dq_t (dq_t (dq_t (dq_t (dq_t (dq_t (dq_t (dq_t (dq_t (dq_t (dq_t (dq_t (dq_t (dq_t (dq_t dzX6_share_42)))))))))))))))))))
theorem dX6_share_77 : decode cX6_share 77 = .ok (.istore 4, 2) := dq_h (dq_t (dq_t (dq_t (dq_t (dq_t (dq_t (dq_t (dq_t (dq_t (dq_t (dq_t (dq_t (dq_t (dq_t (dq_t (dq_t (dq_t (dq_t (dq_t (dq_t dzX6_share_42))))))))))))))))))))
theorem dX6_share_79 : decode cX6_share 79 = .ok (.iload 4, 2) := dq_h (dq_t (dq_t (dq_t (dq_t (dq_t (dq_t (dq_t (dq_t (dq_t (dq_t (dq_t (dq_t (dq_t (dq_t (dq_t (dq_t (dq_t (dq_t (dq_t (dq_t (dq_t dzX6_share_42)))))))))))))))))))))
theorem dX6_share_81 : decode cX6_share 81 = .ok (.aload_n 1, 1) := dq_h (dq_t (dq_t (dq_t (dq_t (dq_t (dq_t (dq_t (dq_t (dq_t (dq_t (dq_t (dq_t (dq_t (dq_t (dq_t (dq_t (dq_t (dq_t (dq_t (dq_t (dq_t (dq_t dzX6_share_42))))))))))))))))))))))
theorem dX6_share_82 : decode cX6_share 82 = .ok (.getfield 27, 3) := dq_h (dq_t (dq_t (dq_t (dq_t (dq_t (dq_t (dq_t (dq_t (dq_t (dq_t (dq_t (dq_t (dq_t (dq_t (dq_t (dq_t (dq_t (dq_t (dq_t (dq_t (dq_t (dq_t (dq_t dzX6_share_42)))))))))))))))))))))))
theorem dzX6_share_85 : dq_F cX6_share [(85, .if_icmp .ge 71, 3), (88, .aload_n 0, 1), (89, .aload_n 1, 1), (90, .aload_n 2, 1), (91, .iload 4, 2), (93, .iload_n 3, 1), (94, .invokevirtual 45, 3), (97, .istore 5, 2), (99, .aload_n 0, 1), (100, .getfield 16, 3), (103, .iload 4, 2), (105, .iload 5, 2), (107, .iastore, 1), (108, .aload_n 1, 1), (109, .iload 5, 2), (111, .invokevirtual 48, 3), (114, .ifCond .eq 36, 3), (117, .iload_n 3, 1), (118, .iconst 1, 1), (119, .iload 5, 2), (121, .ishl, 1), (122, .ior, 1), (123, .istore_n 3, 1), (124, .aload_n 0, 1)] := dq_s 24 85 (by decide +kernel)
theorem dX6_share_85 : decode cX6_share 85 = .ok (.if_icmp .ge 71, 3) := dq_h dzX6_share_85
theorem dX6_share_88 : decode cX6_share 88 = .ok (.aload_n 0, 1) := dq_h (dq_t dzX6_share_85)
theorem dX6_share_89 : decode cX6_share 89 = .ok (.aload_n 1, 1) := dq_h (dq_t (dq_t dzX6_share_85))
theorem dX6_share_90 : decode cX6_share 90 = .ok (.aload_n 2, 1) := dq_h (dq_t (dq_t (dq_t dzX6_share_85)))
theorem dX6_share_91 : decode cX6_share 91 = .ok (.iload 4, 2) := dq_h (dq_t (dq_t (dq_t (dq_t dzX6_share_85))))
theorem dX6_share_93 : decode cX6_share 93 = .ok (.iload_n 3, 1) := dq_h (dq_t (dq_t (dq_t (dq_t (dq_t dzX6_share_85)))))
theorem dX6_share_94 : decode cX6_share 94 = .ok (.invokevirtual 45, 3) := dq_h (dq_t (dq_t (dq_t (dq_t (dq_t (dq_t dzX6_share_85))))))
theorem dX6_share_97 : decode cX6_share 97 = .ok (.istore 5, 2) := dq_h (dq_t (dq_t (dq_t (dq_t (dq_t (dq_t (dq_t dzX6_share_85)))))))
theorem dX6_share_99 : decode cX6_share 99 = .ok (.aload_n 0, 1) := dq_h (dq_t (dq_t (dq_t (dq_t (dq_t (dq_t (dq_t (dq_t dzX6_share_85))))))))
theorem dX6_share_100 : decode cX6_share 100 = .ok (.getfield 16, 3) := dq_h (dq_t (dq_t (dq_t (dq_t (dq_t (dq_t (dq_t (dq_t (dq_t dzX6_share_85)))))))))
theorem dX6_share_103 : decode cX6_share 103 = .ok (.iload 4, 2) := dq_h (dq_t (dq_t (dq_t (dq_t (dq_t (dq_t (dq_t (dq_t (dq_t (dq_t dzX6_share_85))))))))))
theorem dX6_share_105 : decode cX6_share 105 = .ok (.iload 5, 2) := dq_h (dq_t (dq_t (dq_t (dq_t (dq_t (dq_t (dq_t (dq_t (dq_t (dq_t (dq_t dzX6_share_85)))))))))))
theorem dX6_share_107 : decode cX6_share 107 = .ok (.iastore, 1) := dq_h (dq_t (dq_t (dq_t (dq_t (dq_t (dq_t (dq_t (dq_t (dq_t (dq_t (dq_t (dq_t dzX6_share_85))))))))))))
theorem dX6_share_108 : decode cX6_share 108 = .ok (.aload_n 1, 1) := dq_h (dq_t (dq_t (dq_t (dq_t (dq_t (dq_t (dq_t (dq_t (dq_t (dq_t (dq_t (dq_t (dq_t dzX6_share_85)))))))))))))
theorem dX6_share_109 : decode cX6_share 109 = .ok (.iload 5, 2) := dq_h (dq_t (dq_t (dq_t (dq_t (dq_t (dq_t (dq_t (dq_t (dq_t (dq_t (dq_t (dq_t (dq_t (dq_t dzX6_share_85))))))))))))))
theorem dX6_share_111 : decode cX6_share 111 = .ok (.invokevirtual 48, 3) := dq_h (dq_t (dq_t (dq_t (dq_t (dq_t (dq_t (dq_t (dq_t (dq_t (dq_t (dq_t (dq_t (dq_t (dq_t (dq_t dzX6_share_85)))))))))))))))
theorem dX6_share_114 : decode cX6_share 114 = .ok (.ifCond .eq 36, 3) := dq_h (dq_t (dq_t (dq_t (dq_t (dq_t (dq_t (dq_t (dq_t (dq_t (dq_t (dq_t (dq_t (dq_t (dq_t (dq_t (dq_t dzX6_share_85))))))))))))))))
theorem dX6_share_117 : decode cX6_share 117 = .ok (.iload_n 3, 1) := dq_h (dq_t (dq_t (dq_t (dq_t (dq_t (dq_t (dq_t (dq_t (dq_t (dq_t (dq_t (dq_t (dq_t (dq_t (dq_t (dq_t (dq_t dzX6_share_85)))))))))))))))))
theorem dX6_share_118 : decode cX6_share 118 = .ok (.iconst 1, 1) := dq_h (dq_t (dq_t (dq_t (dq_t (dq_t (dq_t (dq_t (dq_t (dq_t (dq_t (dq_t (dq_t (dq_t (dq_t (dq_t (dq_t (dq_t (dq_t dzX6_share_85))))))))))))))))))
theorem dX6_share_119 : decode cX6_share 119 = .ok (.iload 5, 2) := dq_h (dq_t (dq_t (dq_t (dq_t (dq_t (dq_t (dq_t (dq_t (dq_t (dq_t (dq_t (dq_t (dq_t (dq_t (dq_t (dq_t (dq_t (dq_t (dq_t dzX6_share_85)))))))))))))))))))
theorem dX6_share_121 : decode cX6_share 121 = .ok (.ishl, 1) := dq_h (dq_t (dq_t (dq_t (dq_t (dq_t (dq_t (dq_t (dq_t (dq_t (dq_t (dq_t (dq_t (dq_t (dq_t (dq_t (dq_t (dq_t (dq_t (dq_t (dq_t dzX6_share_85))))))))))))))))))))
theorem dX6_share_122 : decode cX6_share 122 = .ok (.ior, 1) := dq_h (dq_t (dq_t (dq_t (dq_t (dq_t (dq_t (dq_t (dq_t (dq_t (dq_t (dq_t (dq_t (dq_t (dq_t (dq_t (dq_t (dq_t (dq_t (dq_t (dq_t (dq_t dzX6_share_85)))))))))))))))))))))
theorem dX6_share_123 : decode cX6_share 123 = .ok (.istore_n 3, 1) := dq_h (dq_t (dq_t (dq_t (dq_t (dq_t (dq_t (dq_t (dq_t (dq_t (dq_t (dq_t (dq_t (dq_t (dq_t (dq_t (dq_t (dq_t (dq_t (dq_t (dq_t (dq_t (dq_t dzX6_share_85))))))))))))))))))))))
theorem dX6_share_124 : decode cX6_share 124 = .ok (.aload_n 0, 1) := dq_h (dq_t (dq_t (dq_t (dq_t (dq_t (dq_t (dq_t (dq_t (dq_t (dq_t (dq_t (dq_t (dq_t (dq_t (dq_t (dq_t (dq_t (dq_t (dq_t (dq_t (dq_t (dq_t (dq_t dzX6_share_85)))))))))))))))))))))))
theorem dzX6_share_125 : dq_F cX6_share [(125, .dup, 1), (126, .getfield 20, 3), (129, .iconst 1, 1), (130, .iadd, 1), (131, .putfield 20, 3), (134, .aload_n 0, 1), (135, .dup, 1), (136, .getfield 24, 3), (139, .aload_n 1, 1), (140, .getfield 52, 3), (143, .iload 5, 2), (145, .iaload, 1), (146, .iadd, 1), (147, .putfield 24, 3), (150, .iinc 4 1, 3), (153, .goto (-74), 3), (156, .return_, 1)] := dq_s 17 125 (by decide +kernel)
theorem dX6_share_125 : decode cX6_share 125 = .ok (.dup, 1) := dq_h dzX6_share_125
theorem dX6_share_126 : decode cX6_share 126 = .ok (.getfield 20, 3) := dq_h (dq_t dzX6_share_125)
theorem dX6_share_129 : decode cX6_share 129 = .ok (.iconst 1, 1) := dq_h (dq_t (dq_t dzX6_share_125))
theorem dX6_share_130 : decode cX6_share 130 = .ok (.iadd, 1) := dq_h (dq_t (dq_t (dq_t dzX6_share_125)))
theorem dX6_share_131 : decode cX6_share 131 = .ok (.putfield 20, 3) := dq_h (dq_t (dq_t (dq_t (dq_t dzX6_share_125))))
theorem dX6_share_134 : decode cX6_share 134 = .ok (.aload_n 0, 1) := dq_h (dq_t (dq_t (dq_t (dq_t (dq_t dzX6_share_125)))))
theorem dX6_share_135 : decode cX6_share 135 = .ok (.dup, 1) := dq_h (dq_t (dq_t (dq_t (dq_t (dq_t (dq_t dzX6_share_125))))))
theorem dX6_share_136 : decode cX6_share 136 = .ok (.getfield 24, 3) := dq_h (dq_t (dq_t (dq_t (dq_t (dq_t (dq_t (dq_t dzX6_share_125)))))))
theorem dX6_share_139 : decode cX6_share 139 = .ok (.aload_n 1, 1) := dq_h (dq_t (dq_t (dq_t (dq_t (dq_t (dq_t (dq_t (dq_t dzX6_share_125))))))))
theorem dX6_share_140 : decode cX6_share 140 = .ok (.getfield 52, 3) := dq_h (dq_t (dq_t (dq_t (dq_t (dq_t (dq_t (dq_t (dq_t (dq_t dzX6_share_125)))))))))
theorem dX6_share_143 : decode cX6_share 143 = .ok (.iload 5, 2) := dq_h (dq_t (dq_t (dq_t (dq_t (dq_t (dq_t (dq_t (dq_t (dq_t (dq_t dzX6_share_125))))))))))
theorem dX6_share_145 : decode cX6_share 145 = .ok (.iaload, 1) := dq_h (dq_t (dq_t (dq_t (dq_t (dq_t (dq_t (dq_t (dq_t (dq_t (dq_t (dq_t dzX6_share_125)))))))))))
theorem dX6_share_146 : decode cX6_share 146 = .ok (.iadd, 1) := dq_h (dq_t (dq_t (dq_t (dq_t (dq_t (dq_t (dq_t (dq_t (dq_t (dq_t (dq_t (dq_t dzX6_share_125))))))))))))
theorem dX6_share_147 : decode cX6_share 147 = .ok (.putfield 24, 3) := dq_h (dq_t (dq_t (dq_t (dq_t (dq_t (dq_t (dq_t (dq_t (dq_t (dq_t (dq_t (dq_t (dq_t dzX6_share_125)))))))))))))
theorem dX6_share_150 : decode cX6_share 150 = .ok (.iinc 4 1, 3) := dq_h (dq_t (dq_t (dq_t (dq_t (dq_t (dq_t (dq_t (dq_t (dq_t (dq_t (dq_t (dq_t (dq_t (dq_t dzX6_share_125))))))))))))))
theorem dX6_share_153 : decode cX6_share 153 = .ok (.goto (-74), 3) := dq_h (dq_t (dq_t (dq_t (dq_t (dq_t (dq_t (dq_t (dq_t (dq_t (dq_t (dq_t (dq_t (dq_t (dq_t (dq_t dzX6_share_125)))))))))))))))
theorem dX6_share_156 : decode cX6_share 156 = .ok (.return_, 1) := dq_h (dq_t (dq_t (dq_t (dq_t (dq_t (dq_t (dq_t (dq_t (dq_t (dq_t (dq_t (dq_t (dq_t (dq_t (dq_t (dq_t dzX6_share_125))))))))))))))))
theorem dzX6_bestOf_0 : dq_F cX6_bestOf [(0, .aload_n 0, 1), (1, .aload_n 1, 1), (2, .iload_n 3, 1), (3, .iload 4, 2), (5, .invokevirtual 55, 3), (8, .istore 5, 2), (10, .iconst 0, 1), (11, .istore 6, 2), (13, .iload 6, 2), (15, .aload_n 1, 1), (16, .getfield 32, 3), (19, .if_icmp .ge 39, 3), (22, .aload_n 1, 1), (23, .aload_n 2, 1), (24, .iload_n 3, 1), (25, .iload 6, 2), (27, .iload 4, 2), (29, .invokestatic 59, 3), (32, .ifCond .eq 20, 3), (35, .iload 5, 2), (37, .aload_n 0, 1), (38, .aload_n 1, 1), (39, .iload_n 3, 1), (40, .iload 6, 2)] := dq_s 24 0 (by decide +kernel)
theorem dX6_bestOf_0 : decode cX6_bestOf 0 = .ok (.aload_n 0, 1) := dq_h dzX6_bestOf_0
theorem dX6_bestOf_1 : decode cX6_bestOf 1 = .ok (.aload_n 1, 1) := dq_h (dq_t dzX6_bestOf_0)
theorem dX6_bestOf_2 : decode cX6_bestOf 2 = .ok (.iload_n 3, 1) := dq_h (dq_t (dq_t dzX6_bestOf_0))
theorem dX6_bestOf_3 : decode cX6_bestOf 3 = .ok (.iload 4, 2) := dq_h (dq_t (dq_t (dq_t dzX6_bestOf_0)))
theorem dX6_bestOf_5 : decode cX6_bestOf 5 = .ok (.invokevirtual 55, 3) := dq_h (dq_t (dq_t (dq_t (dq_t dzX6_bestOf_0))))
theorem dX6_bestOf_8 : decode cX6_bestOf 8 = .ok (.istore 5, 2) := dq_h (dq_t (dq_t (dq_t (dq_t (dq_t dzX6_bestOf_0)))))
theorem dX6_bestOf_10 : decode cX6_bestOf 10 = .ok (.iconst 0, 1) := dq_h (dq_t (dq_t (dq_t (dq_t (dq_t (dq_t dzX6_bestOf_0))))))
theorem dX6_bestOf_11 : decode cX6_bestOf 11 = .ok (.istore 6, 2) := dq_h (dq_t (dq_t (dq_t (dq_t (dq_t (dq_t (dq_t dzX6_bestOf_0)))))))
theorem dX6_bestOf_13 : decode cX6_bestOf 13 = .ok (.iload 6, 2) := dq_h (dq_t (dq_t (dq_t (dq_t (dq_t (dq_t (dq_t (dq_t dzX6_bestOf_0))))))))
theorem dX6_bestOf_15 : decode cX6_bestOf 15 = .ok (.aload_n 1, 1) := dq_h (dq_t (dq_t (dq_t (dq_t (dq_t (dq_t (dq_t (dq_t (dq_t dzX6_bestOf_0)))))))))
theorem dX6_bestOf_16 : decode cX6_bestOf 16 = .ok (.getfield 32, 3) := dq_h (dq_t (dq_t (dq_t (dq_t (dq_t (dq_t (dq_t (dq_t (dq_t (dq_t dzX6_bestOf_0))))))))))
theorem dX6_bestOf_19 : decode cX6_bestOf 19 = .ok (.if_icmp .ge 39, 3) := dq_h (dq_t (dq_t (dq_t (dq_t (dq_t (dq_t (dq_t (dq_t (dq_t (dq_t (dq_t dzX6_bestOf_0)))))))))))
theorem dX6_bestOf_22 : decode cX6_bestOf 22 = .ok (.aload_n 1, 1) := dq_h (dq_t (dq_t (dq_t (dq_t (dq_t (dq_t (dq_t (dq_t (dq_t (dq_t (dq_t (dq_t dzX6_bestOf_0))))))))))))
theorem dX6_bestOf_23 : decode cX6_bestOf 23 = .ok (.aload_n 2, 1) := dq_h (dq_t (dq_t (dq_t (dq_t (dq_t (dq_t (dq_t (dq_t (dq_t (dq_t (dq_t (dq_t (dq_t dzX6_bestOf_0)))))))))))))
theorem dX6_bestOf_24 : decode cX6_bestOf 24 = .ok (.iload_n 3, 1) := dq_h (dq_t (dq_t (dq_t (dq_t (dq_t (dq_t (dq_t (dq_t (dq_t (dq_t (dq_t (dq_t (dq_t (dq_t dzX6_bestOf_0))))))))))))))
theorem dX6_bestOf_25 : decode cX6_bestOf 25 = .ok (.iload 6, 2) := dq_h (dq_t (dq_t (dq_t (dq_t (dq_t (dq_t (dq_t (dq_t (dq_t (dq_t (dq_t (dq_t (dq_t (dq_t (dq_t dzX6_bestOf_0)))))))))))))))
theorem dX6_bestOf_27 : decode cX6_bestOf 27 = .ok (.iload 4, 2) := dq_h (dq_t (dq_t (dq_t (dq_t (dq_t (dq_t (dq_t (dq_t (dq_t (dq_t (dq_t (dq_t (dq_t (dq_t (dq_t (dq_t dzX6_bestOf_0))))))))))))))))
theorem dX6_bestOf_29 : decode cX6_bestOf 29 = .ok (.invokestatic 59, 3) := dq_h (dq_t (dq_t (dq_t (dq_t (dq_t (dq_t (dq_t (dq_t (dq_t (dq_t (dq_t (dq_t (dq_t (dq_t (dq_t (dq_t (dq_t dzX6_bestOf_0)))))))))))))))))
theorem dX6_bestOf_32 : decode cX6_bestOf 32 = .ok (.ifCond .eq 20, 3) := dq_h (dq_t (dq_t (dq_t (dq_t (dq_t (dq_t (dq_t (dq_t (dq_t (dq_t (dq_t (dq_t (dq_t (dq_t (dq_t (dq_t (dq_t (dq_t dzX6_bestOf_0))))))))))))))))))
theorem dX6_bestOf_35 : decode cX6_bestOf 35 = .ok (.iload 5, 2) := dq_h (dq_t (dq_t (dq_t (dq_t (dq_t (dq_t (dq_t (dq_t (dq_t (dq_t (dq_t (dq_t (dq_t (dq_t (dq_t (dq_t (dq_t (dq_t (dq_t dzX6_bestOf_0)))))))))))))))))))
theorem dX6_bestOf_37 : decode cX6_bestOf 37 = .ok (.aload_n 0, 1) := dq_h (dq_t (dq_t (dq_t (dq_t (dq_t (dq_t (dq_t (dq_t (dq_t (dq_t (dq_t (dq_t (dq_t (dq_t (dq_t (dq_t (dq_t (dq_t (dq_t (dq_t dzX6_bestOf_0))))))))))))))))))))
theorem dX6_bestOf_38 : decode cX6_bestOf 38 = .ok (.aload_n 1, 1) := dq_h (dq_t (dq_t (dq_t (dq_t (dq_t (dq_t (dq_t (dq_t (dq_t (dq_t (dq_t (dq_t (dq_t (dq_t (dq_t (dq_t (dq_t (dq_t (dq_t (dq_t (dq_t dzX6_bestOf_0)))))))))))))))))))))
theorem dX6_bestOf_39 : decode cX6_bestOf 39 = .ok (.iload_n 3, 1) := dq_h (dq_t (dq_t (dq_t (dq_t (dq_t (dq_t (dq_t (dq_t (dq_t (dq_t (dq_t (dq_t (dq_t (dq_t (dq_t (dq_t (dq_t (dq_t (dq_t (dq_t (dq_t (dq_t dzX6_bestOf_0))))))))))))))))))))))
theorem dX6_bestOf_40 : decode cX6_bestOf 40 = .ok (.iload 6, 2) := dq_h (dq_t (dq_t (dq_t (dq_t (dq_t (dq_t (dq_t (dq_t (dq_t (dq_t (dq_t (dq_t (dq_t (dq_t (dq_t (dq_t (dq_t (dq_t (dq_t (dq_t (dq_t (dq_t (dq_t dzX6_bestOf_0)))))))))))))))))))))))
theorem dzX6_bestOf_42 : dq_F cX6_bestOf [(42, .iload 4, 2), (44, .invokevirtual 63, 3), (47, .invokestatic 67, 3), (50, .istore 5, 2), (52, .iinc 6 1, 3), (55, .goto (-42), 3), (58, .iload 5, 2), (60, .ireturn, 1)] := dq_s 8 42 (by decide +kernel)
theorem dX6_bestOf_42 : decode cX6_bestOf 42 = .ok (.iload 4, 2) := dq_h dzX6_bestOf_42
theorem dX6_bestOf_44 : decode cX6_bestOf 44 = .ok (.invokevirtual 63, 3) := dq_h (dq_t dzX6_bestOf_42)
theorem dX6_bestOf_47 : decode cX6_bestOf 47 = .ok (.invokestatic 67, 3) := dq_h (dq_t (dq_t dzX6_bestOf_42))
theorem dX6_bestOf_50 : decode cX6_bestOf 50 = .ok (.istore 5, 2) := dq_h (dq_t (dq_t (dq_t dzX6_bestOf_42)))
theorem dX6_bestOf_52 : decode cX6_bestOf 52 = .ok (.iinc 6 1, 3) := dq_h (dq_t (dq_t (dq_t (dq_t dzX6_bestOf_42))))
theorem dX6_bestOf_55 : decode cX6_bestOf 55 = .ok (.goto (-42), 3) := dq_h (dq_t (dq_t (dq_t (dq_t (dq_t dzX6_bestOf_42)))))
theorem dX6_bestOf_58 : decode cX6_bestOf 58 = .ok (.iload 5, 2) := dq_h (dq_t (dq_t (dq_t (dq_t (dq_t (dq_t dzX6_bestOf_42))))))
theorem dX6_bestOf_60 : decode cX6_bestOf 60 = .ok (.ireturn, 1) := dq_h (dq_t (dq_t (dq_t (dq_t (dq_t (dq_t (dq_t dzX6_bestOf_42)))))))
theorem dzX6_choice_0 : dq_F cX6_choice [(0, .iconst 0, 1), (1, .istore 5, 2), (3, .iload 5, 2), (5, .aload_n 1, 1), (6, .getfield 32, 3), (9, .if_icmp .ge 47, 3), (12, .aload_n 1, 1), (13, .aload_n 2, 1), (14, .iload_n 3, 1), (15, .iload 5, 2), (17, .iload 4, 2), (19, .invokestatic 59, 3), (22, .ifCond .eq 28, 3), (25, .aload_n 0, 1), (26, .aload_n 1, 1), (27, .iload_n 3, 1), (28, .iload 5, 2), (30, .iload 4, 2), (32, .invokevirtual 63, 3), (35, .aload_n 0, 1), (36, .getfield 13, 3), (39, .iload_n 3, 1), (40, .aaload, 1), (41, .iload 4, 2)] := dq_s 24 0 (by decide +kernel)
theorem dX6_choice_0 : decode cX6_choice 0 = .ok (.iconst 0, 1) := dq_h dzX6_choice_0
theorem dX6_choice_1 : decode cX6_choice 1 = .ok (.istore 5, 2) := dq_h (dq_t dzX6_choice_0)
theorem dX6_choice_3 : decode cX6_choice 3 = .ok (.iload 5, 2) := dq_h (dq_t (dq_t dzX6_choice_0))
theorem dX6_choice_5 : decode cX6_choice 5 = .ok (.aload_n 1, 1) := dq_h (dq_t (dq_t (dq_t dzX6_choice_0)))
theorem dX6_choice_6 : decode cX6_choice 6 = .ok (.getfield 32, 3) := dq_h (dq_t (dq_t (dq_t (dq_t dzX6_choice_0))))
theorem dX6_choice_9 : decode cX6_choice 9 = .ok (.if_icmp .ge 47, 3) := dq_h (dq_t (dq_t (dq_t (dq_t (dq_t dzX6_choice_0)))))
theorem dX6_choice_12 : decode cX6_choice 12 = .ok (.aload_n 1, 1) := dq_h (dq_t (dq_t (dq_t (dq_t (dq_t (dq_t dzX6_choice_0))))))
theorem dX6_choice_13 : decode cX6_choice 13 = .ok (.aload_n 2, 1) := dq_h (dq_t (dq_t (dq_t (dq_t (dq_t (dq_t (dq_t dzX6_choice_0)))))))
theorem dX6_choice_14 : decode cX6_choice 14 = .ok (.iload_n 3, 1) := dq_h (dq_t (dq_t (dq_t (dq_t (dq_t (dq_t (dq_t (dq_t dzX6_choice_0))))))))
theorem dX6_choice_15 : decode cX6_choice 15 = .ok (.iload 5, 2) := dq_h (dq_t (dq_t (dq_t (dq_t (dq_t (dq_t (dq_t (dq_t (dq_t dzX6_choice_0)))))))))
theorem dX6_choice_17 : decode cX6_choice 17 = .ok (.iload 4, 2) := dq_h (dq_t (dq_t (dq_t (dq_t (dq_t (dq_t (dq_t (dq_t (dq_t (dq_t dzX6_choice_0))))))))))
theorem dX6_choice_19 : decode cX6_choice 19 = .ok (.invokestatic 59, 3) := dq_h (dq_t (dq_t (dq_t (dq_t (dq_t (dq_t (dq_t (dq_t (dq_t (dq_t (dq_t dzX6_choice_0)))))))))))
theorem dX6_choice_22 : decode cX6_choice 22 = .ok (.ifCond .eq 28, 3) := dq_h (dq_t (dq_t (dq_t (dq_t (dq_t (dq_t (dq_t (dq_t (dq_t (dq_t (dq_t (dq_t dzX6_choice_0))))))))))))
theorem dX6_choice_25 : decode cX6_choice 25 = .ok (.aload_n 0, 1) := dq_h (dq_t (dq_t (dq_t (dq_t (dq_t (dq_t (dq_t (dq_t (dq_t (dq_t (dq_t (dq_t (dq_t dzX6_choice_0)))))))))))))
theorem dX6_choice_26 : decode cX6_choice 26 = .ok (.aload_n 1, 1) := dq_h (dq_t (dq_t (dq_t (dq_t (dq_t (dq_t (dq_t (dq_t (dq_t (dq_t (dq_t (dq_t (dq_t (dq_t dzX6_choice_0))))))))))))))
theorem dX6_choice_27 : decode cX6_choice 27 = .ok (.iload_n 3, 1) := dq_h (dq_t (dq_t (dq_t (dq_t (dq_t (dq_t (dq_t (dq_t (dq_t (dq_t (dq_t (dq_t (dq_t (dq_t (dq_t dzX6_choice_0)))))))))))))))
theorem dX6_choice_28 : decode cX6_choice 28 = .ok (.iload 5, 2) := dq_h (dq_t (dq_t (dq_t (dq_t (dq_t (dq_t (dq_t (dq_t (dq_t (dq_t (dq_t (dq_t (dq_t (dq_t (dq_t (dq_t dzX6_choice_0))))))))))))))))
theorem dX6_choice_30 : decode cX6_choice 30 = .ok (.iload 4, 2) := dq_h (dq_t (dq_t (dq_t (dq_t (dq_t (dq_t (dq_t (dq_t (dq_t (dq_t (dq_t (dq_t (dq_t (dq_t (dq_t (dq_t (dq_t dzX6_choice_0)))))))))))))))))
theorem dX6_choice_32 : decode cX6_choice 32 = .ok (.invokevirtual 63, 3) := dq_h (dq_t (dq_t (dq_t (dq_t (dq_t (dq_t (dq_t (dq_t (dq_t (dq_t (dq_t (dq_t (dq_t (dq_t (dq_t (dq_t (dq_t (dq_t dzX6_choice_0))))))))))))))))))
theorem dX6_choice_35 : decode cX6_choice 35 = .ok (.aload_n 0, 1) := dq_h (dq_t (dq_t (dq_t (dq_t (dq_t (dq_t (dq_t (dq_t (dq_t (dq_t (dq_t (dq_t (dq_t (dq_t (dq_t (dq_t (dq_t (dq_t (dq_t dzX6_choice_0)))))))))))))))))))
theorem dX6_choice_36 : decode cX6_choice 36 = .ok (.getfield 13, 3) := dq_h (dq_t (dq_t (dq_t (dq_t (dq_t (dq_t (dq_t (dq_t (dq_t (dq_t (dq_t (dq_t (dq_t (dq_t (dq_t (dq_t (dq_t (dq_t (dq_t (dq_t dzX6_choice_0))))))))))))))))))))
theorem dX6_choice_39 : decode cX6_choice 39 = .ok (.iload_n 3, 1) := dq_h (dq_t (dq_t (dq_t (dq_t (dq_t (dq_t (dq_t (dq_t (dq_t (dq_t (dq_t (dq_t (dq_t (dq_t (dq_t (dq_t (dq_t (dq_t (dq_t (dq_t (dq_t dzX6_choice_0)))))))))))))))))))))
theorem dX6_choice_40 : decode cX6_choice 40 = .ok (.aaload, 1) := dq_h (dq_t (dq_t (dq_t (dq_t (dq_t (dq_t (dq_t (dq_t (dq_t (dq_t (dq_t (dq_t (dq_t (dq_t (dq_t (dq_t (dq_t (dq_t (dq_t (dq_t (dq_t (dq_t dzX6_choice_0))))))))))))))))))))))
theorem dX6_choice_41 : decode cX6_choice 41 = .ok (.iload 4, 2) := dq_h (dq_t (dq_t (dq_t (dq_t (dq_t (dq_t (dq_t (dq_t (dq_t (dq_t (dq_t (dq_t (dq_t (dq_t (dq_t (dq_t (dq_t (dq_t (dq_t (dq_t (dq_t (dq_t (dq_t dzX6_choice_0)))))))))))))))))))))))
theorem dzX6_choice_43 : dq_F cX6_choice [(43, .iaload, 1), (44, .if_icmp .ne 6, 3), (47, .iload 5, 2), (49, .ireturn, 1), (50, .iinc 5 1, 3), (53, .goto (-50), 3), (56, .iconst (-1), 1), (57, .ireturn, 1)] := dq_s 8 43 (by decide +kernel)
theorem dX6_choice_43 : decode cX6_choice 43 = .ok (.iaload, 1) := dq_h dzX6_choice_43
theorem dX6_choice_44 : decode cX6_choice 44 = .ok (.if_icmp .ne 6, 3) := dq_h (dq_t dzX6_choice_43)
theorem dX6_choice_47 : decode cX6_choice 47 = .ok (.iload 5, 2) := dq_h (dq_t (dq_t dzX6_choice_43))
theorem dX6_choice_49 : decode cX6_choice 49 = .ok (.ireturn, 1) := dq_h (dq_t (dq_t (dq_t dzX6_choice_43)))
theorem dX6_choice_50 : decode cX6_choice 50 = .ok (.iinc 5 1, 3) := dq_h (dq_t (dq_t (dq_t (dq_t dzX6_choice_43))))
theorem dX6_choice_53 : decode cX6_choice 53 = .ok (.goto (-50), 3) := dq_h (dq_t (dq_t (dq_t (dq_t (dq_t dzX6_choice_43)))))
theorem dX6_choice_56 : decode cX6_choice 56 = .ok (.iconst (-1), 1) := dq_h (dq_t (dq_t (dq_t (dq_t (dq_t (dq_t dzX6_choice_43))))))
theorem dX6_choice_57 : decode cX6_choice 57 = .ok (.ireturn, 1) := dq_h (dq_t (dq_t (dq_t (dq_t (dq_t (dq_t (dq_t dzX6_choice_43)))))))
theorem dzX6_worthOf_0 : dq_F cX6_worthOf [(0, .sipush 1000, 3), (3, .aload_n 1, 1), (4, .getfield 52, 3), (7, .iload_n 3, 1), (8, .iaload, 1), (9, .isub, 1), (10, .aload_n 0, 1), (11, .aload_n 1, 1), (12, .iload_n 2, 1), (13, .iload 4, 2), (15, .iconst 1, 1), (16, .iload_n 3, 1), (17, .ishl, 1), (18, .ior, 1), (19, .invokevirtual 55, 3), (22, .iadd, 1), (23, .ireturn, 1)] := dq_s 17 0 (by decide +kernel)
theorem dX6_worthOf_0 : decode cX6_worthOf 0 = .ok (.sipush 1000, 3) := dq_h dzX6_worthOf_0
theorem dX6_worthOf_3 : decode cX6_worthOf 3 = .ok (.aload_n 1, 1) := dq_h (dq_t dzX6_worthOf_0)
theorem dX6_worthOf_4 : decode cX6_worthOf 4 = .ok (.getfield 52, 3) := dq_h (dq_t (dq_t dzX6_worthOf_0))
theorem dX6_worthOf_7 : decode cX6_worthOf 7 = .ok (.iload_n 3, 1) := dq_h (dq_t (dq_t (dq_t dzX6_worthOf_0)))
theorem dX6_worthOf_8 : decode cX6_worthOf 8 = .ok (.iaload, 1) := dq_h (dq_t (dq_t (dq_t (dq_t dzX6_worthOf_0))))
theorem dX6_worthOf_9 : decode cX6_worthOf 9 = .ok (.isub, 1) := dq_h (dq_t (dq_t (dq_t (dq_t (dq_t dzX6_worthOf_0)))))
theorem dX6_worthOf_10 : decode cX6_worthOf 10 = .ok (.aload_n 0, 1) := dq_h (dq_t (dq_t (dq_t (dq_t (dq_t (dq_t dzX6_worthOf_0))))))
theorem dX6_worthOf_11 : decode cX6_worthOf 11 = .ok (.aload_n 1, 1) := dq_h (dq_t (dq_t (dq_t (dq_t (dq_t (dq_t (dq_t dzX6_worthOf_0)))))))
theorem dX6_worthOf_12 : decode cX6_worthOf 12 = .ok (.iload_n 2, 1) := dq_h (dq_t (dq_t (dq_t (dq_t (dq_t (dq_t (dq_t (dq_t dzX6_worthOf_0))))))))
theorem dX6_worthOf_13 : decode cX6_worthOf 13 = .ok (.iload 4, 2) := dq_h (dq_t (dq_t (dq_t (dq_t (dq_t (dq_t (dq_t (dq_t (dq_t dzX6_worthOf_0)))))))))
theorem dX6_worthOf_15 : decode cX6_worthOf 15 = .ok (.iconst 1, 1) := dq_h (dq_t (dq_t (dq_t (dq_t (dq_t (dq_t (dq_t (dq_t (dq_t (dq_t dzX6_worthOf_0))))))))))
theorem dX6_worthOf_16 : decode cX6_worthOf 16 = .ok (.iload_n 3, 1) := dq_h (dq_t (dq_t (dq_t (dq_t (dq_t (dq_t (dq_t (dq_t (dq_t (dq_t (dq_t dzX6_worthOf_0)))))))))))
theorem dX6_worthOf_17 : decode cX6_worthOf 17 = .ok (.ishl, 1) := dq_h (dq_t (dq_t (dq_t (dq_t (dq_t (dq_t (dq_t (dq_t (dq_t (dq_t (dq_t (dq_t dzX6_worthOf_0))))))))))))
theorem dX6_worthOf_18 : decode cX6_worthOf 18 = .ok (.ior, 1) := dq_h (dq_t (dq_t (dq_t (dq_t (dq_t (dq_t (dq_t (dq_t (dq_t (dq_t (dq_t (dq_t (dq_t dzX6_worthOf_0)))))))))))))
theorem dX6_worthOf_19 : decode cX6_worthOf 19 = .ok (.invokevirtual 55, 3) := dq_h (dq_t (dq_t (dq_t (dq_t (dq_t (dq_t (dq_t (dq_t (dq_t (dq_t (dq_t (dq_t (dq_t (dq_t dzX6_worthOf_0))))))))))))))
theorem dX6_worthOf_22 : decode cX6_worthOf 22 = .ok (.iadd, 1) := dq_h (dq_t (dq_t (dq_t (dq_t (dq_t (dq_t (dq_t (dq_t (dq_t (dq_t (dq_t (dq_t (dq_t (dq_t (dq_t dzX6_worthOf_0)))))))))))))))
theorem dX6_worthOf_23 : decode cX6_worthOf 23 = .ok (.ireturn, 1) := dq_h (dq_t (dq_t (dq_t (dq_t (dq_t (dq_t (dq_t (dq_t (dq_t (dq_t (dq_t (dq_t (dq_t (dq_t (dq_t (dq_t dzX6_worthOf_0))))))))))))))))
theorem dzX6_behind_0 : dq_F cX6_behind [(0, .iload_n 2, 1), (1, .iconst 1, 1), (2, .iadd, 1), (3, .aload_n 1, 1), (4, .getfield 27, 3), (7, .if_icmp .lt 7, 3), (10, .iconst 0, 1), (11, .goto 13, 3), (14, .aload_n 0, 1), (15, .getfield 13, 3), (18, .iload_n 2, 1), (19, .iconst 1, 1), (20, .iadd, 1), (21, .aaload, 1), (22, .iload_n 3, 1), (23, .iaload, 1), (24, .ireturn, 1)] := dq_s 17 0 (by decide +kernel)
theorem dX6_behind_0 : decode cX6_behind 0 = .ok (.iload_n 2, 1) := dq_h dzX6_behind_0
theorem dX6_behind_1 : decode cX6_behind 1 = .ok (.iconst 1, 1) := dq_h (dq_t dzX6_behind_0)
theorem dX6_behind_2 : decode cX6_behind 2 = .ok (.iadd, 1) := dq_h (dq_t (dq_t dzX6_behind_0))
theorem dX6_behind_3 : decode cX6_behind 3 = .ok (.aload_n 1, 1) := dq_h (dq_t (dq_t (dq_t dzX6_behind_0)))
theorem dX6_behind_4 : decode cX6_behind 4 = .ok (.getfield 27, 3) := dq_h (dq_t (dq_t (dq_t (dq_t dzX6_behind_0))))
theorem dX6_behind_7 : decode cX6_behind 7 = .ok (.if_icmp .lt 7, 3) := dq_h (dq_t (dq_t (dq_t (dq_t (dq_t dzX6_behind_0)))))
theorem dX6_behind_10 : decode cX6_behind 10 = .ok (.iconst 0, 1) := dq_h (dq_t (dq_t (dq_t (dq_t (dq_t (dq_t dzX6_behind_0))))))
theorem dX6_behind_11 : decode cX6_behind 11 = .ok (.goto 13, 3) := dq_h (dq_t (dq_t (dq_t (dq_t (dq_t (dq_t (dq_t dzX6_behind_0)))))))
theorem dX6_behind_14 : decode cX6_behind 14 = .ok (.aload_n 0, 1) := dq_h (dq_t (dq_t (dq_t (dq_t (dq_t (dq_t (dq_t (dq_t dzX6_behind_0))))))))
theorem dX6_behind_15 : decode cX6_behind 15 = .ok (.getfield 13, 3) := dq_h (dq_t (dq_t (dq_t (dq_t (dq_t (dq_t (dq_t (dq_t (dq_t dzX6_behind_0)))))))))
theorem dX6_behind_18 : decode cX6_behind 18 = .ok (.iload_n 2, 1) := dq_h (dq_t (dq_t (dq_t (dq_t (dq_t (dq_t (dq_t (dq_t (dq_t (dq_t dzX6_behind_0))))))))))
theorem dX6_behind_19 : decode cX6_behind 19 = .ok (.iconst 1, 1) := dq_h (dq_t (dq_t (dq_t (dq_t (dq_t (dq_t (dq_t (dq_t (dq_t (dq_t (dq_t dzX6_behind_0)))))))))))
theorem dX6_behind_20 : decode cX6_behind 20 = .ok (.iadd, 1) := dq_h (dq_t (dq_t (dq_t (dq_t (dq_t (dq_t (dq_t (dq_t (dq_t (dq_t (dq_t (dq_t dzX6_behind_0))))))))))))
theorem dX6_behind_21 : decode cX6_behind 21 = .ok (.aaload, 1) := dq_h (dq_t (dq_t (dq_t (dq_t (dq_t (dq_t (dq_t (dq_t (dq_t (dq_t (dq_t (dq_t (dq_t dzX6_behind_0)))))))))))))
theorem dX6_behind_22 : decode cX6_behind 22 = .ok (.iload_n 3, 1) := dq_h (dq_t (dq_t (dq_t (dq_t (dq_t (dq_t (dq_t (dq_t (dq_t (dq_t (dq_t (dq_t (dq_t (dq_t dzX6_behind_0))))))))))))))
theorem dX6_behind_23 : decode cX6_behind 23 = .ok (.iaload, 1) := dq_h (dq_t (dq_t (dq_t (dq_t (dq_t (dq_t (dq_t (dq_t (dq_t (dq_t (dq_t (dq_t (dq_t (dq_t (dq_t dzX6_behind_0)))))))))))))))
theorem dX6_behind_24 : decode cX6_behind 24 = .ok (.ireturn, 1) := dq_h (dq_t (dq_t (dq_t (dq_t (dq_t (dq_t (dq_t (dq_t (dq_t (dq_t (dq_t (dq_t (dq_t (dq_t (dq_t (dq_t dzX6_behind_0))))))))))))))))
theorem dzX6_canHave_0 : dq_F cX6_canHave [(0, .iload 4, 2), (2, .iload_n 3, 1), (3, .invokestatic 73, 3), (6, .ifCond .ne 25, 3), (9, .aload_n 1, 1), (10, .getfield 77, 3), (13, .iload_n 2, 1), (14, .iaload, 1), (15, .bipush 10, 2), (17, .aload_n 0, 1), (18, .getfield 52, 3), (21, .iload_n 3, 1), (22, .iaload, 1), (23, .imul, 1), (24, .if_icmp .lt 7, 3), (27, .iconst 1, 1), (28, .goto 4, 3), (31, .iconst 0, 1), (32, .ireturn, 1)] := dq_s 19 0 (by decide +kernel)
theorem dX6_canHave_0 : decode cX6_canHave 0 = .ok (.iload 4, 2) := dq_h dzX6_canHave_0
theorem dX6_canHave_2 : decode cX6_canHave 2 = .ok (.iload_n 3, 1) := dq_h (dq_t dzX6_canHave_0)
theorem dX6_canHave_3 : decode cX6_canHave 3 = .ok (.invokestatic 73, 3) := dq_h (dq_t (dq_t dzX6_canHave_0))
theorem dX6_canHave_6 : decode cX6_canHave 6 = .ok (.ifCond .ne 25, 3) := dq_h (dq_t (dq_t (dq_t dzX6_canHave_0)))
theorem dX6_canHave_9 : decode cX6_canHave 9 = .ok (.aload_n 1, 1) := dq_h (dq_t (dq_t (dq_t (dq_t dzX6_canHave_0))))
theorem dX6_canHave_10 : decode cX6_canHave 10 = .ok (.getfield 77, 3) := dq_h (dq_t (dq_t (dq_t (dq_t (dq_t dzX6_canHave_0)))))
theorem dX6_canHave_13 : decode cX6_canHave 13 = .ok (.iload_n 2, 1) := dq_h (dq_t (dq_t (dq_t (dq_t (dq_t (dq_t dzX6_canHave_0))))))
theorem dX6_canHave_14 : decode cX6_canHave 14 = .ok (.iaload, 1) := dq_h (dq_t (dq_t (dq_t (dq_t (dq_t (dq_t (dq_t dzX6_canHave_0)))))))
theorem dX6_canHave_15 : decode cX6_canHave 15 = .ok (.bipush 10, 2) := dq_h (dq_t (dq_t (dq_t (dq_t (dq_t (dq_t (dq_t (dq_t dzX6_canHave_0))))))))
theorem dX6_canHave_17 : decode cX6_canHave 17 = .ok (.aload_n 0, 1) := dq_h (dq_t (dq_t (dq_t (dq_t (dq_t (dq_t (dq_t (dq_t (dq_t dzX6_canHave_0)))))))))
theorem dX6_canHave_18 : decode cX6_canHave 18 = .ok (.getfield 52, 3) := dq_h (dq_t (dq_t (dq_t (dq_t (dq_t (dq_t (dq_t (dq_t (dq_t (dq_t dzX6_canHave_0))))))))))
theorem dX6_canHave_21 : decode cX6_canHave 21 = .ok (.iload_n 3, 1) := dq_h (dq_t (dq_t (dq_t (dq_t (dq_t (dq_t (dq_t (dq_t (dq_t (dq_t (dq_t dzX6_canHave_0)))))))))))
theorem dX6_canHave_22 : decode cX6_canHave 22 = .ok (.iaload, 1) := dq_h (dq_t (dq_t (dq_t (dq_t (dq_t (dq_t (dq_t (dq_t (dq_t (dq_t (dq_t (dq_t dzX6_canHave_0))))))))))))
theorem dX6_canHave_23 : decode cX6_canHave 23 = .ok (.imul, 1) := dq_h (dq_t (dq_t (dq_t (dq_t (dq_t (dq_t (dq_t (dq_t (dq_t (dq_t (dq_t (dq_t (dq_t dzX6_canHave_0)))))))))))))
theorem dX6_canHave_24 : decode cX6_canHave 24 = .ok (.if_icmp .lt 7, 3) := dq_h (dq_t (dq_t (dq_t (dq_t (dq_t (dq_t (dq_t (dq_t (dq_t (dq_t (dq_t (dq_t (dq_t (dq_t dzX6_canHave_0))))))))))))))
theorem dX6_canHave_27 : decode cX6_canHave 27 = .ok (.iconst 1, 1) := dq_h (dq_t (dq_t (dq_t (dq_t (dq_t (dq_t (dq_t (dq_t (dq_t (dq_t (dq_t (dq_t (dq_t (dq_t (dq_t dzX6_canHave_0)))))))))))))))
theorem dX6_canHave_28 : decode cX6_canHave 28 = .ok (.goto 4, 3) := dq_h (dq_t (dq_t (dq_t (dq_t (dq_t (dq_t (dq_t (dq_t (dq_t (dq_t (dq_t (dq_t (dq_t (dq_t (dq_t (dq_t dzX6_canHave_0))))))))))))))))
theorem dX6_canHave_31 : decode cX6_canHave 31 = .ok (.iconst 0, 1) := dq_h (dq_t (dq_t (dq_t (dq_t (dq_t (dq_t (dq_t (dq_t (dq_t (dq_t (dq_t (dq_t (dq_t (dq_t (dq_t (dq_t (dq_t dzX6_canHave_0)))))))))))))))))
theorem dX6_canHave_32 : decode cX6_canHave 32 = .ok (.ireturn, 1) := dq_h (dq_t (dq_t (dq_t (dq_t (dq_t (dq_t (dq_t (dq_t (dq_t (dq_t (dq_t (dq_t (dq_t (dq_t (dq_t (dq_t (dq_t (dq_t dzX6_canHave_0))))))))))))))))))
theorem dzX7_init_0 : dq_F cX7_init [(0, .aload_n 0, 1), (1, .invokespecial 3, 3), (4, .aload_n 0, 1), (5, .iconst 0, 1), (6, .putfield 9, 3), (9, .aload_n 0, 1), (10, .iconst 0, 1), (11, .putfield 15, 3), (14, .aload_n 0, 1), (15, .bipush 6, 2)] := dq_s 10 0 (by decide +kernel)
theorem dX7_init_0 : decode cX7_init 0 = .ok (.aload_n 0, 1) := dq_h dzX7_init_0
theorem dX7_init_1 : decode cX7_init 1 = .ok (.invokespecial 3, 3) := dq_h (dq_t dzX7_init_0)
theorem dX7_init_4 : decode cX7_init 4 = .ok (.aload_n 0, 1) := dq_h (dq_t (dq_t dzX7_init_0))
theorem dX7_init_5 : decode cX7_init 5 = .ok (.iconst 0, 1) := dq_h (dq_t (dq_t (dq_t dzX7_init_0)))
theorem dX7_init_6 : decode cX7_init 6 = .ok (.putfield 9, 3) := dq_h (dq_t (dq_t (dq_t (dq_t dzX7_init_0))))
theorem dX7_init_9 : decode cX7_init 9 = .ok (.aload_n 0, 1) := dq_h (dq_t (dq_t (dq_t (dq_t (dq_t dzX7_init_0)))))
theorem dX7_init_10 : decode cX7_init 10 = .ok (.iconst 0, 1) := dq_h (dq_t (dq_t (dq_t (dq_t (dq_t (dq_t dzX7_init_0))))))
theorem dX7_init_11 : decode cX7_init 11 = .ok (.putfield 15, 3) := dq_h (dq_t (dq_t (dq_t (dq_t (dq_t (dq_t (dq_t dzX7_init_0)))))))
theorem dX7_init_14 : decode cX7_init 14 = .ok (.aload_n 0, 1) := dq_h (dq_t (dq_t (dq_t (dq_t (dq_t (dq_t (dq_t (dq_t dzX7_init_0))))))))
theorem dX7_init_15 : decode cX7_init 15 = .ok (.bipush 6, 2) := dq_h (dq_t (dq_t (dq_t (dq_t (dq_t (dq_t (dq_t (dq_t (dq_t dzX7_init_0)))))))))
theorem dX7_init_17 : decode cX7_init 17 = .ok (.newarray .int, 2) := by decide +kernel
theorem dzX7_init_19 : dq_F cX7_init [(19, .putfield 18, 3), (22, .aload_n 0, 1), (23, .bipush 6, 2)] := dq_s 3 19 (by decide +kernel)
theorem dX7_init_19 : decode cX7_init 19 = .ok (.putfield 18, 3) := dq_h dzX7_init_19
theorem dX7_init_22 : decode cX7_init 22 = .ok (.aload_n 0, 1) := dq_h (dq_t dzX7_init_19)
theorem dX7_init_23 : decode cX7_init 23 = .ok (.bipush 6, 2) := dq_h (dq_t (dq_t dzX7_init_19))
theorem dX7_init_25 : decode cX7_init 25 = .ok (.newarray .int, 2) := by decide +kernel
theorem dzX7_init_27 : dq_F cX7_init [(27, .putfield 22, 3), (30, .aload_n 0, 1), (31, .bipush 6, 2)] := dq_s 3 27 (by decide +kernel)
theorem dX7_init_27 : decode cX7_init 27 = .ok (.putfield 22, 3) := dq_h dzX7_init_27
theorem dX7_init_30 : decode cX7_init 30 = .ok (.aload_n 0, 1) := dq_h (dq_t dzX7_init_27)
theorem dX7_init_31 : decode cX7_init 31 = .ok (.bipush 6, 2) := dq_h (dq_t (dq_t dzX7_init_27))
theorem dX7_init_33 : decode cX7_init 33 = .ok (.newarray .int, 2) := by decide +kernel
theorem dzX7_init_35 : dq_F cX7_init [(35, .putfield 25, 3), (38, .aload_n 0, 1), (39, .bipush 6, 2)] := dq_s 3 35 (by decide +kernel)
theorem dX7_init_35 : decode cX7_init 35 = .ok (.putfield 25, 3) := dq_h dzX7_init_35
theorem dX7_init_38 : decode cX7_init 38 = .ok (.aload_n 0, 1) := dq_h (dq_t dzX7_init_35)
theorem dX7_init_39 : decode cX7_init 39 = .ok (.bipush 6, 2) := dq_h (dq_t (dq_t dzX7_init_35))
theorem dX7_init_41 : decode cX7_init 41 = .ok (.newarray .int, 2) := by decide +kernel
theorem dzX7_init_43 : dq_F cX7_init [(43, .putfield 28, 3), (46, .return_, 1)] := dq_s 2 43 (by decide +kernel)
theorem dX7_init_43 : decode cX7_init 43 = .ok (.putfield 28, 3) := dq_h dzX7_init_43
theorem dX7_init_46 : decode cX7_init 46 = .ok (.return_, 1) := dq_h (dq_t dzX7_init_43)
theorem dzX7_begin_0 : dq_F cX7_begin [(0, .aload_n 0, 1), (1, .iconst 0, 1), (2, .putfield 9, 3), (5, .aload_n 0, 1), (6, .iconst 0, 1), (7, .putfield 15, 3), (10, .iconst 0, 1), (11, .istore_n 2, 1), (12, .iload_n 2, 1), (13, .aload_n 1, 1), (14, .getfield 31, 3), (17, .if_icmp .ge 52, 3), (20, .aload_n 0, 1), (21, .getfield 18, 3), (24, .iload_n 2, 1), (25, .aload_n 1, 1), (26, .getfield 36, 3), (29, .iload_n 2, 1), (30, .iaload, 1), (31, .iastore, 1), (32, .aload_n 0, 1), (33, .getfield 22, 3), (36, .iload_n 2, 1), (37, .aload_n 1, 1)] := dq_s 24 0 (by decide +kernel)
theorem dX7_begin_0 : decode cX7_begin 0 = .ok (.aload_n 0, 1) := dq_h dzX7_begin_0
theorem dX7_begin_1 : decode cX7_begin 1 = .ok (.iconst 0, 1) := dq_h (dq_t dzX7_begin_0)
theorem dX7_begin_2 : decode cX7_begin 2 = .ok (.putfield 9, 3) := dq_h (dq_t (dq_t dzX7_begin_0))
theorem dX7_begin_5 : decode cX7_begin 5 = .ok (.aload_n 0, 1) := dq_h (dq_t (dq_t (dq_t dzX7_begin_0)))
theorem dX7_begin_6 : decode cX7_begin 6 = .ok (.iconst 0, 1) := dq_h (dq_t (dq_t (dq_t (dq_t dzX7_begin_0))))
theorem dX7_begin_7 : decode cX7_begin 7 = .ok (.putfield 15, 3) := dq_h (dq_t (dq_t (dq_t (dq_t (dq_t dzX7_begin_0)))))
theorem dX7_begin_10 : decode cX7_begin 10 = .ok (.iconst 0, 1) := dq_h (dq_t (dq_t (dq_t (dq_t (dq_t (dq_t dzX7_begin_0))))))
theorem dX7_begin_11 : decode cX7_begin 11 = .ok (.istore_n 2, 1) := dq_h (dq_t (dq_t (dq_t (dq_t (dq_t (dq_t (dq_t dzX7_begin_0)))))))
theorem dX7_begin_12 : decode cX7_begin 12 = .ok (.iload_n 2, 1) := dq_h (dq_t (dq_t (dq_t (dq_t (dq_t (dq_t (dq_t (dq_t dzX7_begin_0))))))))
theorem dX7_begin_13 : decode cX7_begin 13 = .ok (.aload_n 1, 1) := dq_h (dq_t (dq_t (dq_t (dq_t (dq_t (dq_t (dq_t (dq_t (dq_t dzX7_begin_0)))))))))
theorem dX7_begin_14 : decode cX7_begin 14 = .ok (.getfield 31, 3) := dq_h (dq_t (dq_t (dq_t (dq_t (dq_t (dq_t (dq_t (dq_t (dq_t (dq_t dzX7_begin_0))))))))))
theorem dX7_begin_17 : decode cX7_begin 17 = .ok (.if_icmp .ge 52, 3) := dq_h (dq_t (dq_t (dq_t (dq_t (dq_t (dq_t (dq_t (dq_t (dq_t (dq_t (dq_t dzX7_begin_0)))))))))))
theorem dX7_begin_20 : decode cX7_begin 20 = .ok (.aload_n 0, 1) := dq_h (dq_t (dq_t (dq_t (dq_t (dq_t (dq_t (dq_t (dq_t (dq_t (dq_t (dq_t (dq_t dzX7_begin_0))))))))))))
theorem dX7_begin_21 : decode cX7_begin 21 = .ok (.getfield 18, 3) := dq_h (dq_t (dq_t (dq_t (dq_t (dq_t (dq_t (dq_t (dq_t (dq_t (dq_t (dq_t (dq_t (dq_t dzX7_begin_0)))))))))))))
theorem dX7_begin_24 : decode cX7_begin 24 = .ok (.iload_n 2, 1) := dq_h (dq_t (dq_t (dq_t (dq_t (dq_t (dq_t (dq_t (dq_t (dq_t (dq_t (dq_t (dq_t (dq_t (dq_t dzX7_begin_0))))))))))))))
theorem dX7_begin_25 : decode cX7_begin 25 = .ok (.aload_n 1, 1) := dq_h (dq_t (dq_t (dq_t (dq_t (dq_t (dq_t (dq_t (dq_t (dq_t (dq_t (dq_t (dq_t (dq_t (dq_t (dq_t dzX7_begin_0)))))))))))))))
theorem dX7_begin_26 : decode cX7_begin 26 = .ok (.getfield 36, 3) := dq_h (dq_t (dq_t (dq_t (dq_t (dq_t (dq_t (dq_t (dq_t (dq_t (dq_t (dq_t (dq_t (dq_t (dq_t (dq_t (dq_t dzX7_begin_0))))))))))))))))
theorem dX7_begin_29 : decode cX7_begin 29 = .ok (.iload_n 2, 1) := dq_h (dq_t (dq_t (dq_t (dq_t (dq_t (dq_t (dq_t (dq_t (dq_t (dq_t (dq_t (dq_t (dq_t (dq_t (dq_t (dq_t (dq_t dzX7_begin_0)))))))))))))))))
theorem dX7_begin_30 : decode cX7_begin 30 = .ok (.iaload, 1) := dq_h (dq_t (dq_t (dq_t (dq_t (dq_t (dq_t (dq_t (dq_t (dq_t (dq_t (dq_t (dq_t (dq_t (dq_t (dq_t (dq_t (dq_t (dq_t dzX7_begin_0))))))))))))))))))
theorem dX7_begin_31 : decode cX7_begin 31 = .ok (.iastore, 1) := dq_h (dq_t (dq_t (dq_t (dq_t (dq_t (dq_t (dq_t (dq_t (dq_t (dq_t (dq_t (dq_t (dq_t (dq_t (dq_t (dq_t (dq_t (dq_t (dq_t dzX7_begin_0)))))))))))))))))))
theorem dX7_begin_32 : decode cX7_begin 32 = .ok (.aload_n 0, 1) := dq_h (dq_t (dq_t (dq_t (dq_t (dq_t (dq_t (dq_t (dq_t (dq_t (dq_t (dq_t (dq_t (dq_t (dq_t (dq_t (dq_t (dq_t (dq_t (dq_t (dq_t dzX7_begin_0))))))))))))))))))))
theorem dX7_begin_33 : decode cX7_begin 33 = .ok (.getfield 22, 3) := dq_h (dq_t (dq_t (dq_t (dq_t (dq_t (dq_t (dq_t (dq_t (dq_t (dq_t (dq_t (dq_t (dq_t (dq_t (dq_t (dq_t (dq_t (dq_t (dq_t (dq_t (dq_t dzX7_begin_0)))))))))))))))))))))
theorem dX7_begin_36 : decode cX7_begin 36 = .ok (.iload_n 2, 1) := dq_h (dq_t (dq_t (dq_t (dq_t (dq_t (dq_t (dq_t (dq_t (dq_t (dq_t (dq_t (dq_t (dq_t (dq_t (dq_t (dq_t (dq_t (dq_t (dq_t (dq_t (dq_t (dq_t dzX7_begin_0))))))))))))))))))))))
theorem dX7_begin_37 : decode cX7_begin 37 = .ok (.aload_n 1, 1) := dq_h (dq_t (dq_t (dq_t (dq_t (dq_t (dq_t (dq_t (dq_t (dq_t (dq_t (dq_t (dq_t (dq_t (dq_t (dq_t (dq_t (dq_t (dq_t (dq_t (dq_t (dq_t (dq_t (dq_t dzX7_begin_0)))))))))))))))))))))))
theorem dzX7_begin_38 : dq_F cX7_begin [(38, .getfield 37, 3), (41, .iload_n 2, 1), (42, .iaload, 1), (43, .iastore, 1), (44, .aload_n 0, 1), (45, .getfield 25, 3), (48, .iload_n 2, 1), (49, .iconst 0, 1), (50, .iastore, 1), (51, .aload_n 0, 1), (52, .getfield 28, 3), (55, .iload_n 2, 1), (56, .aload_n 1, 1), (57, .getfield 38, 3), (60, .iload_n 2, 1), (61, .iaload, 1), (62, .iastore, 1), (63, .iinc 2 1, 3), (66, .goto (-54), 3), (69, .return_, 1)] := dq_s 20 38 (by decide +kernel)
theorem dX7_begin_38 : decode cX7_begin 38 = .ok (.getfield 37, 3) := dq_h dzX7_begin_38
theorem dX7_begin_41 : decode cX7_begin 41 = .ok (.iload_n 2, 1) := dq_h (dq_t dzX7_begin_38)
theorem dX7_begin_42 : decode cX7_begin 42 = .ok (.iaload, 1) := dq_h (dq_t (dq_t dzX7_begin_38))
theorem dX7_begin_43 : decode cX7_begin 43 = .ok (.iastore, 1) := dq_h (dq_t (dq_t (dq_t dzX7_begin_38)))
theorem dX7_begin_44 : decode cX7_begin 44 = .ok (.aload_n 0, 1) := dq_h (dq_t (dq_t (dq_t (dq_t dzX7_begin_38))))
theorem dX7_begin_45 : decode cX7_begin 45 = .ok (.getfield 25, 3) := dq_h (dq_t (dq_t (dq_t (dq_t (dq_t dzX7_begin_38)))))
theorem dX7_begin_48 : decode cX7_begin 48 = .ok (.iload_n 2, 1) := dq_h (dq_t (dq_t (dq_t (dq_t (dq_t (dq_t dzX7_begin_38))))))
theorem dX7_begin_49 : decode cX7_begin 49 = .ok (.iconst 0, 1) := dq_h (dq_t (dq_t (dq_t (dq_t (dq_t (dq_t (dq_t dzX7_begin_38)))))))
theorem dX7_begin_50 : decode cX7_begin 50 = .ok (.iastore, 1) := dq_h (dq_t (dq_t (dq_t (dq_t (dq_t (dq_t (dq_t (dq_t dzX7_begin_38))))))))
theorem dX7_begin_51 : decode cX7_begin 51 = .ok (.aload_n 0, 1) := dq_h (dq_t (dq_t (dq_t (dq_t (dq_t (dq_t (dq_t (dq_t (dq_t dzX7_begin_38)))))))))
theorem dX7_begin_52 : decode cX7_begin 52 = .ok (.getfield 28, 3) := dq_h (dq_t (dq_t (dq_t (dq_t (dq_t (dq_t (dq_t (dq_t (dq_t (dq_t dzX7_begin_38))))))))))
theorem dX7_begin_55 : decode cX7_begin 55 = .ok (.iload_n 2, 1) := dq_h (dq_t (dq_t (dq_t (dq_t (dq_t (dq_t (dq_t (dq_t (dq_t (dq_t (dq_t dzX7_begin_38)))))))))))
theorem dX7_begin_56 : decode cX7_begin 56 = .ok (.aload_n 1, 1) := dq_h (dq_t (dq_t (dq_t (dq_t (dq_t (dq_t (dq_t (dq_t (dq_t (dq_t (dq_t (dq_t dzX7_begin_38))))))))))))
theorem dX7_begin_57 : decode cX7_begin 57 = .ok (.getfield 38, 3) := dq_h (dq_t (dq_t (dq_t (dq_t (dq_t (dq_t (dq_t (dq_t (dq_t (dq_t (dq_t (dq_t (dq_t dzX7_begin_38)))))))))))))
theorem dX7_begin_60 : decode cX7_begin 60 = .ok (.iload_n 2, 1) := dq_h (dq_t (dq_t (dq_t (dq_t (dq_t (dq_t (dq_t (dq_t (dq_t (dq_t (dq_t (dq_t (dq_t (dq_t dzX7_begin_38))))))))))))))
theorem dX7_begin_61 : decode cX7_begin 61 = .ok (.iaload, 1) := dq_h (dq_t (dq_t (dq_t (dq_t (dq_t (dq_t (dq_t (dq_t (dq_t (dq_t (dq_t (dq_t (dq_t (dq_t (dq_t dzX7_begin_38)))))))))))))))
theorem dX7_begin_62 : decode cX7_begin 62 = .ok (.iastore, 1) := dq_h (dq_t (dq_t (dq_t (dq_t (dq_t (dq_t (dq_t (dq_t (dq_t (dq_t (dq_t (dq_t (dq_t (dq_t (dq_t (dq_t dzX7_begin_38))))))))))))))))
theorem dX7_begin_63 : decode cX7_begin 63 = .ok (.iinc 2 1, 3) := dq_h (dq_t (dq_t (dq_t (dq_t (dq_t (dq_t (dq_t (dq_t (dq_t (dq_t (dq_t (dq_t (dq_t (dq_t (dq_t (dq_t (dq_t dzX7_begin_38)))))))))))))))))
theorem dX7_begin_66 : decode cX7_begin 66 = .ok (.goto (-54), 3) := dq_h (dq_t (dq_t (dq_t (dq_t (dq_t (dq_t (dq_t (dq_t (dq_t (dq_t (dq_t (dq_t (dq_t (dq_t (dq_t (dq_t (dq_t (dq_t dzX7_begin_38))))))))))))))))))
theorem dX7_begin_69 : decode cX7_begin 69 = .ok (.return_, 1) := dq_h (dq_t (dq_t (dq_t (dq_t (dq_t (dq_t (dq_t (dq_t (dq_t (dq_t (dq_t (dq_t (dq_t (dq_t (dq_t (dq_t (dq_t (dq_t (dq_t dzX7_begin_38)))))))))))))))))))
theorem dzX7_copy_0 : dq_F cX7_copy [(0, .aload_n 0, 1), (1, .aload_n 1, 1), (2, .getfield 9, 3), (5, .putfield 9, 3), (8, .aload_n 0, 1), (9, .aload_n 1, 1), (10, .getfield 15, 3), (13, .putfield 15, 3), (16, .iconst 0, 1), (17, .istore_n 2, 1), (18, .iload_n 2, 1), (19, .bipush 6, 2), (21, .if_icmp .ge 57, 3), (24, .aload_n 0, 1), (25, .getfield 18, 3), (28, .iload_n 2, 1), (29, .aload_n 1, 1), (30, .getfield 18, 3), (33, .iload_n 2, 1), (34, .iaload, 1), (35, .iastore, 1), (36, .aload_n 0, 1), (37, .getfield 22, 3), (40, .iload_n 2, 1)] := dq_s 24 0 (by decide +kernel)
theorem dX7_copy_0 : decode cX7_copy 0 = .ok (.aload_n 0, 1) := dq_h dzX7_copy_0
theorem dX7_copy_1 : decode cX7_copy 1 = .ok (.aload_n 1, 1) := dq_h (dq_t dzX7_copy_0)
theorem dX7_copy_2 : decode cX7_copy 2 = .ok (.getfield 9, 3) := dq_h (dq_t (dq_t dzX7_copy_0))
theorem dX7_copy_5 : decode cX7_copy 5 = .ok (.putfield 9, 3) := dq_h (dq_t (dq_t (dq_t dzX7_copy_0)))
theorem dX7_copy_8 : decode cX7_copy 8 = .ok (.aload_n 0, 1) := dq_h (dq_t (dq_t (dq_t (dq_t dzX7_copy_0))))
theorem dX7_copy_9 : decode cX7_copy 9 = .ok (.aload_n 1, 1) := dq_h (dq_t (dq_t (dq_t (dq_t (dq_t dzX7_copy_0)))))
theorem dX7_copy_10 : decode cX7_copy 10 = .ok (.getfield 15, 3) := dq_h (dq_t (dq_t (dq_t (dq_t (dq_t (dq_t dzX7_copy_0))))))
theorem dX7_copy_13 : decode cX7_copy 13 = .ok (.putfield 15, 3) := dq_h (dq_t (dq_t (dq_t (dq_t (dq_t (dq_t (dq_t dzX7_copy_0)))))))
theorem dX7_copy_16 : decode cX7_copy 16 = .ok (.iconst 0, 1) := dq_h (dq_t (dq_t (dq_t (dq_t (dq_t (dq_t (dq_t (dq_t dzX7_copy_0))))))))
theorem dX7_copy_17 : decode cX7_copy 17 = .ok (.istore_n 2, 1) := dq_h (dq_t (dq_t (dq_t (dq_t (dq_t (dq_t (dq_t (dq_t (dq_t dzX7_copy_0)))))))))
theorem dX7_copy_18 : decode cX7_copy 18 = .ok (.iload_n 2, 1) := dq_h (dq_t (dq_t (dq_t (dq_t (dq_t (dq_t (dq_t (dq_t (dq_t (dq_t dzX7_copy_0))))))))))
theorem dX7_copy_19 : decode cX7_copy 19 = .ok (.bipush 6, 2) := dq_h (dq_t (dq_t (dq_t (dq_t (dq_t (dq_t (dq_t (dq_t (dq_t (dq_t (dq_t dzX7_copy_0)))))))))))
theorem dX7_copy_21 : decode cX7_copy 21 = .ok (.if_icmp .ge 57, 3) := dq_h (dq_t (dq_t (dq_t (dq_t (dq_t (dq_t (dq_t (dq_t (dq_t (dq_t (dq_t (dq_t dzX7_copy_0))))))))))))
theorem dX7_copy_24 : decode cX7_copy 24 = .ok (.aload_n 0, 1) := dq_h (dq_t (dq_t (dq_t (dq_t (dq_t (dq_t (dq_t (dq_t (dq_t (dq_t (dq_t (dq_t (dq_t dzX7_copy_0)))))))))))))
theorem dX7_copy_25 : decode cX7_copy 25 = .ok (.getfield 18, 3) := dq_h (dq_t (dq_t (dq_t (dq_t (dq_t (dq_t (dq_t (dq_t (dq_t (dq_t (dq_t (dq_t (dq_t (dq_t dzX7_copy_0))))))))))))))
theorem dX7_copy_28 : decode cX7_copy 28 = .ok (.iload_n 2, 1) := dq_h (dq_t (dq_t (dq_t (dq_t (dq_t (dq_t (dq_t (dq_t (dq_t (dq_t (dq_t (dq_t (dq_t (dq_t (dq_t dzX7_copy_0)))))))))))))))
theorem dX7_copy_29 : decode cX7_copy 29 = .ok (.aload_n 1, 1) := dq_h (dq_t (dq_t (dq_t (dq_t (dq_t (dq_t (dq_t (dq_t (dq_t (dq_t (dq_t (dq_t (dq_t (dq_t (dq_t (dq_t dzX7_copy_0))))))))))))))))
theorem dX7_copy_30 : decode cX7_copy 30 = .ok (.getfield 18, 3) := dq_h (dq_t (dq_t (dq_t (dq_t (dq_t (dq_t (dq_t (dq_t (dq_t (dq_t (dq_t (dq_t (dq_t (dq_t (dq_t (dq_t (dq_t dzX7_copy_0)))))))))))))))))
theorem dX7_copy_33 : decode cX7_copy 33 = .ok (.iload_n 2, 1) := dq_h (dq_t (dq_t (dq_t (dq_t (dq_t (dq_t (dq_t (dq_t (dq_t (dq_t (dq_t (dq_t (dq_t (dq_t (dq_t (dq_t (dq_t (dq_t dzX7_copy_0))))))))))))))))))
theorem dX7_copy_34 : decode cX7_copy 34 = .ok (.iaload, 1) := dq_h (dq_t (dq_t (dq_t (dq_t (dq_t (dq_t (dq_t (dq_t (dq_t (dq_t (dq_t (dq_t (dq_t (dq_t (dq_t (dq_t (dq_t (dq_t (dq_t dzX7_copy_0)))))))))))))))))))
theorem dX7_copy_35 : decode cX7_copy 35 = .ok (.iastore, 1) := dq_h (dq_t (dq_t (dq_t (dq_t (dq_t (dq_t (dq_t (dq_t (dq_t (dq_t (dq_t (dq_t (dq_t (dq_t (dq_t (dq_t (dq_t (dq_t (dq_t (dq_t dzX7_copy_0))))))))))))))))))))
theorem dX7_copy_36 : decode cX7_copy 36 = .ok (.aload_n 0, 1) := dq_h (dq_t (dq_t (dq_t (dq_t (dq_t (dq_t (dq_t (dq_t (dq_t (dq_t (dq_t (dq_t (dq_t (dq_t (dq_t (dq_t (dq_t (dq_t (dq_t (dq_t (dq_t dzX7_copy_0)))))))))))))))))))))
theorem dX7_copy_37 : decode cX7_copy 37 = .ok (.getfield 22, 3) := dq_h (dq_t (dq_t (dq_t (dq_t (dq_t (dq_t (dq_t (dq_t (dq_t (dq_t (dq_t (dq_t (dq_t (dq_t (dq_t (dq_t (dq_t (dq_t (dq_t (dq_t (dq_t (dq_t dzX7_copy_0))))))))))))))))))))))
theorem dX7_copy_40 : decode cX7_copy 40 = .ok (.iload_n 2, 1) := dq_h (dq_t (dq_t (dq_t (dq_t (dq_t (dq_t (dq_t (dq_t (dq_t (dq_t (dq_t (dq_t (dq_t (dq_t (dq_t (dq_t (dq_t (dq_t (dq_t (dq_t (dq_t (dq_t (dq_t dzX7_copy_0)))))))))))))))))))))))
theorem dzX7_copy_41 : dq_F cX7_copy [(41, .aload_n 1, 1), (42, .getfield 22, 3), (45, .iload_n 2, 1), (46, .iaload, 1), (47, .iastore, 1), (48, .aload_n 0, 1), (49, .getfield 25, 3), (52, .iload_n 2, 1), (53, .aload_n 1, 1), (54, .getfield 25, 3), (57, .iload_n 2, 1), (58, .iaload, 1), (59, .iastore, 1), (60, .aload_n 0, 1), (61, .getfield 28, 3), (64, .iload_n 2, 1), (65, .aload_n 1, 1), (66, .getfield 28, 3), (69, .iload_n 2, 1), (70, .iaload, 1), (71, .iastore, 1), (72, .iinc 2 1, 3), (75, .goto (-57), 3), (78, .return_, 1)] := dq_s 24 41 (by decide +kernel)
theorem dX7_copy_41 : decode cX7_copy 41 = .ok (.aload_n 1, 1) := dq_h dzX7_copy_41
theorem dX7_copy_42 : decode cX7_copy 42 = .ok (.getfield 22, 3) := dq_h (dq_t dzX7_copy_41)
theorem dX7_copy_45 : decode cX7_copy 45 = .ok (.iload_n 2, 1) := dq_h (dq_t (dq_t dzX7_copy_41))
theorem dX7_copy_46 : decode cX7_copy 46 = .ok (.iaload, 1) := dq_h (dq_t (dq_t (dq_t dzX7_copy_41)))
theorem dX7_copy_47 : decode cX7_copy 47 = .ok (.iastore, 1) := dq_h (dq_t (dq_t (dq_t (dq_t dzX7_copy_41))))
theorem dX7_copy_48 : decode cX7_copy 48 = .ok (.aload_n 0, 1) := dq_h (dq_t (dq_t (dq_t (dq_t (dq_t dzX7_copy_41)))))
theorem dX7_copy_49 : decode cX7_copy 49 = .ok (.getfield 25, 3) := dq_h (dq_t (dq_t (dq_t (dq_t (dq_t (dq_t dzX7_copy_41))))))
theorem dX7_copy_52 : decode cX7_copy 52 = .ok (.iload_n 2, 1) := dq_h (dq_t (dq_t (dq_t (dq_t (dq_t (dq_t (dq_t dzX7_copy_41)))))))
theorem dX7_copy_53 : decode cX7_copy 53 = .ok (.aload_n 1, 1) := dq_h (dq_t (dq_t (dq_t (dq_t (dq_t (dq_t (dq_t (dq_t dzX7_copy_41))))))))
theorem dX7_copy_54 : decode cX7_copy 54 = .ok (.getfield 25, 3) := dq_h (dq_t (dq_t (dq_t (dq_t (dq_t (dq_t (dq_t (dq_t (dq_t dzX7_copy_41)))))))))
theorem dX7_copy_57 : decode cX7_copy 57 = .ok (.iload_n 2, 1) := dq_h (dq_t (dq_t (dq_t (dq_t (dq_t (dq_t (dq_t (dq_t (dq_t (dq_t dzX7_copy_41))))))))))
theorem dX7_copy_58 : decode cX7_copy 58 = .ok (.iaload, 1) := dq_h (dq_t (dq_t (dq_t (dq_t (dq_t (dq_t (dq_t (dq_t (dq_t (dq_t (dq_t dzX7_copy_41)))))))))))
theorem dX7_copy_59 : decode cX7_copy 59 = .ok (.iastore, 1) := dq_h (dq_t (dq_t (dq_t (dq_t (dq_t (dq_t (dq_t (dq_t (dq_t (dq_t (dq_t (dq_t dzX7_copy_41))))))))))))
theorem dX7_copy_60 : decode cX7_copy 60 = .ok (.aload_n 0, 1) := dq_h (dq_t (dq_t (dq_t (dq_t (dq_t (dq_t (dq_t (dq_t (dq_t (dq_t (dq_t (dq_t (dq_t dzX7_copy_41)))))))))))))
theorem dX7_copy_61 : decode cX7_copy 61 = .ok (.getfield 28, 3) := dq_h (dq_t (dq_t (dq_t (dq_t (dq_t (dq_t (dq_t (dq_t (dq_t (dq_t (dq_t (dq_t (dq_t (dq_t dzX7_copy_41))))))))))))))
theorem dX7_copy_64 : decode cX7_copy 64 = .ok (.iload_n 2, 1) := dq_h (dq_t (dq_t (dq_t (dq_t (dq_t (dq_t (dq_t (dq_t (dq_t (dq_t (dq_t (dq_t (dq_t (dq_t (dq_t dzX7_copy_41)))))))))))))))
theorem dX7_copy_65 : decode cX7_copy 65 = .ok (.aload_n 1, 1) := dq_h (dq_t (dq_t (dq_t (dq_t (dq_t (dq_t (dq_t (dq_t (dq_t (dq_t (dq_t (dq_t (dq_t (dq_t (dq_t (dq_t dzX7_copy_41))))))))))))))))
theorem dX7_copy_66 : decode cX7_copy 66 = .ok (.getfield 28, 3) := dq_h (dq_t (dq_t (dq_t (dq_t (dq_t (dq_t (dq_t (dq_t (dq_t (dq_t (dq_t (dq_t (dq_t (dq_t (dq_t (dq_t (dq_t dzX7_copy_41)))))))))))))))))
theorem dX7_copy_69 : decode cX7_copy 69 = .ok (.iload_n 2, 1) := dq_h (dq_t (dq_t (dq_t (dq_t (dq_t (dq_t (dq_t (dq_t (dq_t (dq_t (dq_t (dq_t (dq_t (dq_t (dq_t (dq_t (dq_t (dq_t dzX7_copy_41))))))))))))))))))
theorem dX7_copy_70 : decode cX7_copy 70 = .ok (.iaload, 1) := dq_h (dq_t (dq_t (dq_t (dq_t (dq_t (dq_t (dq_t (dq_t (dq_t (dq_t (dq_t (dq_t (dq_t (dq_t (dq_t (dq_t (dq_t (dq_t (dq_t dzX7_copy_41)))))))))))))))))))
theorem dX7_copy_71 : decode cX7_copy 71 = .ok (.iastore, 1) := dq_h (dq_t (dq_t (dq_t (dq_t (dq_t (dq_t (dq_t (dq_t (dq_t (dq_t (dq_t (dq_t (dq_t (dq_t (dq_t (dq_t (dq_t (dq_t (dq_t (dq_t dzX7_copy_41))))))))))))))))))))
theorem dX7_copy_72 : decode cX7_copy 72 = .ok (.iinc 2 1, 3) := dq_h (dq_t (dq_t (dq_t (dq_t (dq_t (dq_t (dq_t (dq_t (dq_t (dq_t (dq_t (dq_t (dq_t (dq_t (dq_t (dq_t (dq_t (dq_t (dq_t (dq_t (dq_t dzX7_copy_41)))))))))))))))))))))
theorem dX7_copy_75 : decode cX7_copy 75 = .ok (.goto (-57), 3) := dq_h (dq_t (dq_t (dq_t (dq_t (dq_t (dq_t (dq_t (dq_t (dq_t (dq_t (dq_t (dq_t (dq_t (dq_t (dq_t (dq_t (dq_t (dq_t (dq_t (dq_t (dq_t (dq_t dzX7_copy_41))))))))))))))))))))))
theorem dX7_copy_78 : decode cX7_copy 78 = .ok (.return_, 1) := dq_h (dq_t (dq_t (dq_t (dq_t (dq_t (dq_t (dq_t (dq_t (dq_t (dq_t (dq_t (dq_t (dq_t (dq_t (dq_t (dq_t (dq_t (dq_t (dq_t (dq_t (dq_t (dq_t (dq_t dzX7_copy_41)))))))))))))))))))))))
theorem dzX7_write_0 : dq_F cX7_write [(0, .iload_n 2, 1), (1, .ifCond .lt 12, 3), (4, .iload_n 2, 1), (5, .bipush 26, 2), (7, .iadd, 1), (8, .aload_n 1, 1), (9, .arraylength, 1), (10, .if_icmp .le 4, 3), (13, .return_, 1), (14, .aload_n 1, 1), (15, .iload_n 2, 1), (16, .aload_n 0, 1), (17, .getfield 9, 3), (20, .iastore, 1), (21, .aload_n 1, 1), (22, .iload_n 2, 1), (23, .iconst 1, 1), (24, .iadd, 1), (25, .aload_n 0, 1), (26, .getfield 15, 3), (29, .iastore, 1), (30, .iconst 0, 1), (31, .istore_n 3, 1), (32, .iload_n 3, 1)] := dq_s 24 0 (by decide +kernel)
theorem dX7_write_0 : decode cX7_write 0 = .ok (.iload_n 2, 1) := dq_h dzX7_write_0
theorem dX7_write_1 : decode cX7_write 1 = .ok (.ifCond .lt 12, 3) := dq_h (dq_t dzX7_write_0)
theorem dX7_write_4 : decode cX7_write 4 = .ok (.iload_n 2, 1) := dq_h (dq_t (dq_t dzX7_write_0))
theorem dX7_write_5 : decode cX7_write 5 = .ok (.bipush 26, 2) := dq_h (dq_t (dq_t (dq_t dzX7_write_0)))
theorem dX7_write_7 : decode cX7_write 7 = .ok (.iadd, 1) := dq_h (dq_t (dq_t (dq_t (dq_t dzX7_write_0))))
theorem dX7_write_8 : decode cX7_write 8 = .ok (.aload_n 1, 1) := dq_h (dq_t (dq_t (dq_t (dq_t (dq_t dzX7_write_0)))))
theorem dX7_write_9 : decode cX7_write 9 = .ok (.arraylength, 1) := dq_h (dq_t (dq_t (dq_t (dq_t (dq_t (dq_t dzX7_write_0))))))
theorem dX7_write_10 : decode cX7_write 10 = .ok (.if_icmp .le 4, 3) := dq_h (dq_t (dq_t (dq_t (dq_t (dq_t (dq_t (dq_t dzX7_write_0)))))))
theorem dX7_write_13 : decode cX7_write 13 = .ok (.return_, 1) := dq_h (dq_t (dq_t (dq_t (dq_t (dq_t (dq_t (dq_t (dq_t dzX7_write_0))))))))
theorem dX7_write_14 : decode cX7_write 14 = .ok (.aload_n 1, 1) := dq_h (dq_t (dq_t (dq_t (dq_t (dq_t (dq_t (dq_t (dq_t (dq_t dzX7_write_0)))))))))
theorem dX7_write_15 : decode cX7_write 15 = .ok (.iload_n 2, 1) := dq_h (dq_t (dq_t (dq_t (dq_t (dq_t (dq_t (dq_t (dq_t (dq_t (dq_t dzX7_write_0))))))))))
theorem dX7_write_16 : decode cX7_write 16 = .ok (.aload_n 0, 1) := dq_h (dq_t (dq_t (dq_t (dq_t (dq_t (dq_t (dq_t (dq_t (dq_t (dq_t (dq_t dzX7_write_0)))))))))))
theorem dX7_write_17 : decode cX7_write 17 = .ok (.getfield 9, 3) := dq_h (dq_t (dq_t (dq_t (dq_t (dq_t (dq_t (dq_t (dq_t (dq_t (dq_t (dq_t (dq_t dzX7_write_0))))))))))))
theorem dX7_write_20 : decode cX7_write 20 = .ok (.iastore, 1) := dq_h (dq_t (dq_t (dq_t (dq_t (dq_t (dq_t (dq_t (dq_t (dq_t (dq_t (dq_t (dq_t (dq_t dzX7_write_0)))))))))))))
theorem dX7_write_21 : decode cX7_write 21 = .ok (.aload_n 1, 1) := dq_h (dq_t (dq_t (dq_t (dq_t (dq_t (dq_t (dq_t (dq_t (dq_t (dq_t (dq_t (dq_t (dq_t (dq_t dzX7_write_0))))))))))))))
theorem dX7_write_22 : decode cX7_write 22 = .ok (.iload_n 2, 1) := dq_h (dq_t (dq_t (dq_t (dq_t (dq_t (dq_t (dq_t (dq_t (dq_t (dq_t (dq_t (dq_t (dq_t (dq_t (dq_t dzX7_write_0)))))))))))))))
theorem dX7_write_23 : decode cX7_write 23 = .ok (.iconst 1, 1) := dq_h (dq_t (dq_t (dq_t (dq_t (dq_t (dq_t (dq_t (dq_t (dq_t (dq_t (dq_t (dq_t (dq_t (dq_t (dq_t (dq_t dzX7_write_0))))))))))))))))
theorem dX7_write_24 : decode cX7_write 24 = .ok (.iadd, 1) := dq_h (dq_t (dq_t (dq_t (dq_t (dq_t (dq_t (dq_t (dq_t (dq_t (dq_t (dq_t (dq_t (dq_t (dq_t (dq_t (dq_t (dq_t dzX7_write_0)))))))))))))))))
theorem dX7_write_25 : decode cX7_write 25 = .ok (.aload_n 0, 1) := dq_h (dq_t (dq_t (dq_t (dq_t (dq_t (dq_t (dq_t (dq_t (dq_t (dq_t (dq_t (dq_t (dq_t (dq_t (dq_t (dq_t (dq_t (dq_t dzX7_write_0))))))))))))))))))
theorem dX7_write_26 : decode cX7_write 26 = .ok (.getfield 15, 3) := dq_h (dq_t (dq_t (dq_t (dq_t (dq_t (dq_t (dq_t (dq_t (dq_t (dq_t (dq_t (dq_t (dq_t (dq_t (dq_t (dq_t (dq_t (dq_t (dq_t dzX7_write_0)))))))))))))))))))
theorem dX7_write_29 : decode cX7_write 29 = .ok (.iastore, 1) := dq_h (dq_t (dq_t (dq_t (dq_t (dq_t (dq_t (dq_t (dq_t (dq_t (dq_t (dq_t (dq_t (dq_t (dq_t (dq_t (dq_t (dq_t (dq_t (dq_t (dq_t dzX7_write_0))))))))))))))))))))
theorem dX7_write_30 : decode cX7_write 30 = .ok (.iconst 0, 1) := dq_h (dq_t (dq_t (dq_t (dq_t (dq_t (dq_t (dq_t (dq_t (dq_t (dq_t (dq_t (dq_t (dq_t (dq_t (dq_t (dq_t (dq_t (dq_t (dq_t (dq_t (dq_t dzX7_write_0)))))))))))))))))))))
theorem dX7_write_31 : decode cX7_write 31 = .ok (.istore_n 3, 1) := dq_h (dq_t (dq_t (dq_t (dq_t (dq_t (dq_t (dq_t (dq_t (dq_t (dq_t (dq_t (dq_t (dq_t (dq_t (dq_t (dq_t (dq_t (dq_t (dq_t (dq_t (dq_t (dq_t dzX7_write_0))))))))))))))))))))))
theorem dX7_write_32 : decode cX7_write 32 = .ok (.iload_n 3, 1) := dq_h (dq_t (dq_t (dq_t (dq_t (dq_t (dq_t (dq_t (dq_t (dq_t (dq_t (dq_t (dq_t (dq_t (dq_t (dq_t (dq_t (dq_t (dq_t (dq_t (dq_t (dq_t (dq_t (dq_t dzX7_write_0)))))))))))))))))))))))
theorem dzX7_write_33 : dq_F cX7_write [(33, .bipush 6, 2), (35, .if_icmp .ge 64, 3), (38, .iload_n 2, 1), (39, .iconst 2, 1), (40, .iadd, 1), (41, .iconst 4, 1), (42, .iload_n 3, 1), (43, .imul, 1), (44, .iadd, 1), (45, .istore 4, 2), (47, .aload_n 1, 1), (48, .iload 4, 2), (50, .aload_n 0, 1), (51, .getfield 18, 3), (54, .iload_n 3, 1), (55, .iaload, 1), (56, .iastore, 1), (57, .aload_n 1, 1), (58, .iload 4, 2), (60, .iconst 1, 1), (61, .iadd, 1), (62, .aload_n 0, 1), (63, .getfield 22, 3), (66, .iload_n 3, 1)] := dq_s 24 33 (by decide +kernel)
theorem dX7_write_33 : decode cX7_write 33 = .ok (.bipush 6, 2) := dq_h dzX7_write_33
theorem dX7_write_35 : decode cX7_write 35 = .ok (.if_icmp .ge 64, 3) := dq_h (dq_t dzX7_write_33)
theorem dX7_write_38 : decode cX7_write 38 = .ok (.iload_n 2, 1) := dq_h (dq_t (dq_t dzX7_write_33))
theorem dX7_write_39 : decode cX7_write 39 = .ok (.iconst 2, 1) := dq_h (dq_t (dq_t (dq_t dzX7_write_33)))
theorem dX7_write_40 : decode cX7_write 40 = .ok (.iadd, 1) := dq_h (dq_t (dq_t (dq_t (dq_t dzX7_write_33))))
theorem dX7_write_41 : decode cX7_write 41 = .ok (.iconst 4, 1) := dq_h (dq_t (dq_t (dq_t (dq_t (dq_t dzX7_write_33)))))
theorem dX7_write_42 : decode cX7_write 42 = .ok (.iload_n 3, 1) := dq_h (dq_t (dq_t (dq_t (dq_t (dq_t (dq_t dzX7_write_33))))))
theorem dX7_write_43 : decode cX7_write 43 = .ok (.imul, 1) := dq_h (dq_t (dq_t (dq_t (dq_t (dq_t (dq_t (dq_t dzX7_write_33)))))))
theorem dX7_write_44 : decode cX7_write 44 = .ok (.iadd, 1) := dq_h (dq_t (dq_t (dq_t (dq_t (dq_t (dq_t (dq_t (dq_t dzX7_write_33))))))))
theorem dX7_write_45 : decode cX7_write 45 = .ok (.istore 4, 2) := dq_h (dq_t (dq_t (dq_t (dq_t (dq_t (dq_t (dq_t (dq_t (dq_t dzX7_write_33)))))))))
theorem dX7_write_47 : decode cX7_write 47 = .ok (.aload_n 1, 1) := dq_h (dq_t (dq_t (dq_t (dq_t (dq_t (dq_t (dq_t (dq_t (dq_t (dq_t dzX7_write_33))))))))))
theorem dX7_write_48 : decode cX7_write 48 = .ok (.iload 4, 2) := dq_h (dq_t (dq_t (dq_t (dq_t (dq_t (dq_t (dq_t (dq_t (dq_t (dq_t (dq_t dzX7_write_33)))))))))))
theorem dX7_write_50 : decode cX7_write 50 = .ok (.aload_n 0, 1) := dq_h (dq_t (dq_t (dq_t (dq_t (dq_t (dq_t (dq_t (dq_t (dq_t (dq_t (dq_t (dq_t dzX7_write_33))))))))))))
theorem dX7_write_51 : decode cX7_write 51 = .ok (.getfield 18, 3) := dq_h (dq_t (dq_t (dq_t (dq_t (dq_t (dq_t (dq_t (dq_t (dq_t (dq_t (dq_t (dq_t (dq_t dzX7_write_33)))))))))))))
theorem dX7_write_54 : decode cX7_write 54 = .ok (.iload_n 3, 1) := dq_h (dq_t (dq_t (dq_t (dq_t (dq_t (dq_t (dq_t (dq_t (dq_t (dq_t (dq_t (dq_t (dq_t (dq_t dzX7_write_33))))))))))))))
theorem dX7_write_55 : decode cX7_write 55 = .ok (.iaload, 1) := dq_h (dq_t (dq_t (dq_t (dq_t (dq_t (dq_t (dq_t (dq_t (dq_t (dq_t (dq_t (dq_t (dq_t (dq_t (dq_t dzX7_write_33)))))))))))))))
theorem dX7_write_56 : decode cX7_write 56 = .ok (.iastore, 1) := dq_h (dq_t (dq_t (dq_t (dq_t (dq_t (dq_t (dq_t (dq_t (dq_t (dq_t (dq_t (dq_t (dq_t (dq_t (dq_t (dq_t dzX7_write_33))))))))))))))))
theorem dX7_write_57 : decode cX7_write 57 = .ok (.aload_n 1, 1) := dq_h (dq_t (dq_t (dq_t (dq_t (dq_t (dq_t (dq_t (dq_t (dq_t (dq_t (dq_t (dq_t (dq_t (dq_t (dq_t (dq_t (dq_t dzX7_write_33)))))))))))))))))
theorem dX7_write_58 : decode cX7_write 58 = .ok (.iload 4, 2) := dq_h (dq_t (dq_t (dq_t (dq_t (dq_t (dq_t (dq_t (dq_t (dq_t (dq_t (dq_t (dq_t (dq_t (dq_t (dq_t (dq_t (dq_t (dq_t dzX7_write_33))))))))))))))))))
theorem dX7_write_60 : decode cX7_write 60 = .ok (.iconst 1, 1) := dq_h (dq_t (dq_t (dq_t (dq_t (dq_t (dq_t (dq_t (dq_t (dq_t (dq_t (dq_t (dq_t (dq_t (dq_t (dq_t (dq_t (dq_t (dq_t (dq_t dzX7_write_33)))))))))))))))))))
theorem dX7_write_61 : decode cX7_write 61 = .ok (.iadd, 1) := dq_h (dq_t (dq_t (dq_t (dq_t (dq_t (dq_t (dq_t (dq_t (dq_t (dq_t (dq_t (dq_t (dq_t (dq_t (dq_t (dq_t (dq_t (dq_t (dq_t (dq_t dzX7_write_33))))))))))))))))))))
theorem dX7_write_62 : decode cX7_write 62 = .ok (.aload_n 0, 1) := dq_h (dq_t (dq_t (dq_t (dq_t (dq_t (dq_t (dq_t (dq_t (dq_t (dq_t (dq_t (dq_t (dq_t (dq_t (dq_t (dq_t (dq_t (dq_t (dq_t (dq_t (dq_t dzX7_write_33)))))))))))))))))))))
theorem dX7_write_63 : decode cX7_write 63 = .ok (.getfield 22, 3) := dq_h (dq_t (dq_t (dq_t (dq_t (dq_t (dq_t (dq_t (dq_t (dq_t (dq_t (dq_t (dq_t (dq_t (dq_t (dq_t (dq_t (dq_t (dq_t (dq_t (dq_t (dq_t (dq_t dzX7_write_33))))))))))))))))))))))
theorem dX7_write_66 : decode cX7_write 66 = .ok (.iload_n 3, 1) := dq_h (dq_t (dq_t (dq_t (dq_t (dq_t (dq_t (dq_t (dq_t (dq_t (dq_t (dq_t (dq_t (dq_t (dq_t (dq_t (dq_t (dq_t (dq_t (dq_t (dq_t (dq_t (dq_t (dq_t dzX7_write_33)))))))))))))))))))))))
theorem dzX7_write_67 : dq_F cX7_write [(67, .iaload, 1), (68, .iastore, 1), (69, .aload_n 1, 1), (70, .iload 4, 2), (72, .iconst 2, 1), (73, .iadd, 1), (74, .aload_n 0, 1), (75, .getfield 25, 3), (78, .iload_n 3, 1), (79, .iaload, 1), (80, .iastore, 1), (81, .aload_n 1, 1), (82, .iload 4, 2), (84, .iconst 3, 1), (85, .iadd, 1), (86, .aload_n 0, 1), (87, .getfield 28, 3), (90, .iload_n 3, 1), (91, .iaload, 1), (92, .iastore, 1), (93, .iinc 3 1, 3), (96, .goto (-64), 3), (99, .return_, 1)] := dq_s 23 67 (by decide +kernel)
theorem dX7_write_67 : decode cX7_write 67 = .ok (.iaload, 1) := dq_h dzX7_write_67
theorem dX7_write_68 : decode cX7_write 68 = .ok (.iastore, 1) := dq_h (dq_t dzX7_write_67)
theorem dX7_write_69 : decode cX7_write 69 = .ok (.aload_n 1, 1) := dq_h (dq_t (dq_t dzX7_write_67))
theorem dX7_write_70 : decode cX7_write 70 = .ok (.iload 4, 2) := dq_h (dq_t (dq_t (dq_t dzX7_write_67)))
theorem dX7_write_72 : decode cX7_write 72 = .ok (.iconst 2, 1) := dq_h (dq_t (dq_t (dq_t (dq_t dzX7_write_67))))
theorem dX7_write_73 : decode cX7_write 73 = .ok (.iadd, 1) := dq_h (dq_t (dq_t (dq_t (dq_t (dq_t dzX7_write_67)))))
theorem dX7_write_74 : decode cX7_write 74 = .ok (.aload_n 0, 1) := dq_h (dq_t (dq_t (dq_t (dq_t (dq_t (dq_t dzX7_write_67))))))
theorem dX7_write_75 : decode cX7_write 75 = .ok (.getfield 25, 3) := dq_h (dq_t (dq_t (dq_t (dq_t (dq_t (dq_t (dq_t dzX7_write_67)))))))
theorem dX7_write_78 : decode cX7_write 78 = .ok (.iload_n 3, 1) := dq_h (dq_t (dq_t (dq_t (dq_t (dq_t (dq_t (dq_t (dq_t dzX7_write_67))))))))
theorem dX7_write_79 : decode cX7_write 79 = .ok (.iaload, 1) := dq_h (dq_t (dq_t (dq_t (dq_t (dq_t (dq_t (dq_t (dq_t (dq_t dzX7_write_67)))))))))
theorem dX7_write_80 : decode cX7_write 80 = .ok (.iastore, 1) := dq_h (dq_t (dq_t (dq_t (dq_t (dq_t (dq_t (dq_t (dq_t (dq_t (dq_t dzX7_write_67))))))))))
theorem dX7_write_81 : decode cX7_write 81 = .ok (.aload_n 1, 1) := dq_h (dq_t (dq_t (dq_t (dq_t (dq_t (dq_t (dq_t (dq_t (dq_t (dq_t (dq_t dzX7_write_67)))))))))))
theorem dX7_write_82 : decode cX7_write 82 = .ok (.iload 4, 2) := dq_h (dq_t (dq_t (dq_t (dq_t (dq_t (dq_t (dq_t (dq_t (dq_t (dq_t (dq_t (dq_t dzX7_write_67))))))))))))
theorem dX7_write_84 : decode cX7_write 84 = .ok (.iconst 3, 1) := dq_h (dq_t (dq_t (dq_t (dq_t (dq_t (dq_t (dq_t (dq_t (dq_t (dq_t (dq_t (dq_t (dq_t dzX7_write_67)))))))))))))
theorem dX7_write_85 : decode cX7_write 85 = .ok (.iadd, 1) := dq_h (dq_t (dq_t (dq_t (dq_t (dq_t (dq_t (dq_t (dq_t (dq_t (dq_t (dq_t (dq_t (dq_t (dq_t dzX7_write_67))))))))))))))
theorem dX7_write_86 : decode cX7_write 86 = .ok (.aload_n 0, 1) := dq_h (dq_t (dq_t (dq_t (dq_t (dq_t (dq_t (dq_t (dq_t (dq_t (dq_t (dq_t (dq_t (dq_t (dq_t (dq_t dzX7_write_67)))))))))))))))
theorem dX7_write_87 : decode cX7_write 87 = .ok (.getfield 28, 3) := dq_h (dq_t (dq_t (dq_t (dq_t (dq_t (dq_t (dq_t (dq_t (dq_t (dq_t (dq_t (dq_t (dq_t (dq_t (dq_t (dq_t dzX7_write_67))))))))))))))))
theorem dX7_write_90 : decode cX7_write 90 = .ok (.iload_n 3, 1) := dq_h (dq_t (dq_t (dq_t (dq_t (dq_t (dq_t (dq_t (dq_t (dq_t (dq_t (dq_t (dq_t (dq_t (dq_t (dq_t (dq_t (dq_t dzX7_write_67)))))))))))))))))
theorem dX7_write_91 : decode cX7_write 91 = .ok (.iaload, 1) := dq_h (dq_t (dq_t (dq_t (dq_t (dq_t (dq_t (dq_t (dq_t (dq_t (dq_t (dq_t (dq_t (dq_t (dq_t (dq_t (dq_t (dq_t (dq_t dzX7_write_67))))))))))))))))))
theorem dX7_write_92 : decode cX7_write 92 = .ok (.iastore, 1) := dq_h (dq_t (dq_t (dq_t (dq_t (dq_t (dq_t (dq_t (dq_t (dq_t (dq_t (dq_t (dq_t (dq_t (dq_t (dq_t (dq_t (dq_t (dq_t (dq_t dzX7_write_67)))))))))))))))))))
theorem dX7_write_93 : decode cX7_write 93 = .ok (.iinc 3 1, 3) := dq_h (dq_t (dq_t (dq_t (dq_t (dq_t (dq_t (dq_t (dq_t (dq_t (dq_t (dq_t (dq_t (dq_t (dq_t (dq_t (dq_t (dq_t (dq_t (dq_t (dq_t dzX7_write_67))))))))))))))))))))
theorem dX7_write_96 : decode cX7_write 96 = .ok (.goto (-64), 3) := dq_h (dq_t (dq_t (dq_t (dq_t (dq_t (dq_t (dq_t (dq_t (dq_t (dq_t (dq_t (dq_t (dq_t (dq_t (dq_t (dq_t (dq_t (dq_t (dq_t (dq_t (dq_t dzX7_write_67)))))))))))))))))))))
theorem dX7_write_99 : decode cX7_write 99 = .ok (.return_, 1) := dq_h (dq_t (dq_t (dq_t (dq_t (dq_t (dq_t (dq_t (dq_t (dq_t (dq_t (dq_t (dq_t (dq_t (dq_t (dq_t (dq_t (dq_t (dq_t (dq_t (dq_t (dq_t (dq_t dzX7_write_67))))))))))))))))))))))
theorem dzX7_read_0 : dq_F cX7_read [(0, .iload_n 2, 1), (1, .ifCond .lt 12, 3), (4, .iload_n 2, 1), (5, .bipush 26, 2), (7, .iadd, 1), (8, .aload_n 1, 1), (9, .arraylength, 1), (10, .if_icmp .le 4, 3), (13, .return_, 1), (14, .aload_n 0, 1), (15, .aload_n 1, 1), (16, .iload_n 2, 1), (17, .iaload, 1), (18, .putfield 9, 3), (21, .aload_n 0, 1), (22, .aload_n 1, 1), (23, .iload_n 2, 1), (24, .iconst 1, 1), (25, .iadd, 1), (26, .iaload, 1), (27, .putfield 15, 3), (30, .iconst 0, 1), (31, .istore_n 3, 1), (32, .iload_n 3, 1)] := dq_s 24 0 (by decide +kernel)
theorem dX7_read_0 : decode cX7_read 0 = .ok (.iload_n 2, 1) := dq_h dzX7_read_0
theorem dX7_read_1 : decode cX7_read 1 = .ok (.ifCond .lt 12, 3) := dq_h (dq_t dzX7_read_0)
theorem dX7_read_4 : decode cX7_read 4 = .ok (.iload_n 2, 1) := dq_h (dq_t (dq_t dzX7_read_0))
theorem dX7_read_5 : decode cX7_read 5 = .ok (.bipush 26, 2) := dq_h (dq_t (dq_t (dq_t dzX7_read_0)))
theorem dX7_read_7 : decode cX7_read 7 = .ok (.iadd, 1) := dq_h (dq_t (dq_t (dq_t (dq_t dzX7_read_0))))
theorem dX7_read_8 : decode cX7_read 8 = .ok (.aload_n 1, 1) := dq_h (dq_t (dq_t (dq_t (dq_t (dq_t dzX7_read_0)))))
theorem dX7_read_9 : decode cX7_read 9 = .ok (.arraylength, 1) := dq_h (dq_t (dq_t (dq_t (dq_t (dq_t (dq_t dzX7_read_0))))))
theorem dX7_read_10 : decode cX7_read 10 = .ok (.if_icmp .le 4, 3) := dq_h (dq_t (dq_t (dq_t (dq_t (dq_t (dq_t (dq_t dzX7_read_0)))))))
theorem dX7_read_13 : decode cX7_read 13 = .ok (.return_, 1) := dq_h (dq_t (dq_t (dq_t (dq_t (dq_t (dq_t (dq_t (dq_t dzX7_read_0))))))))
theorem dX7_read_14 : decode cX7_read 14 = .ok (.aload_n 0, 1) := dq_h (dq_t (dq_t (dq_t (dq_t (dq_t (dq_t (dq_t (dq_t (dq_t dzX7_read_0)))))))))
theorem dX7_read_15 : decode cX7_read 15 = .ok (.aload_n 1, 1) := dq_h (dq_t (dq_t (dq_t (dq_t (dq_t (dq_t (dq_t (dq_t (dq_t (dq_t dzX7_read_0))))))))))
theorem dX7_read_16 : decode cX7_read 16 = .ok (.iload_n 2, 1) := dq_h (dq_t (dq_t (dq_t (dq_t (dq_t (dq_t (dq_t (dq_t (dq_t (dq_t (dq_t dzX7_read_0)))))))))))
theorem dX7_read_17 : decode cX7_read 17 = .ok (.iaload, 1) := dq_h (dq_t (dq_t (dq_t (dq_t (dq_t (dq_t (dq_t (dq_t (dq_t (dq_t (dq_t (dq_t dzX7_read_0))))))))))))
theorem dX7_read_18 : decode cX7_read 18 = .ok (.putfield 9, 3) := dq_h (dq_t (dq_t (dq_t (dq_t (dq_t (dq_t (dq_t (dq_t (dq_t (dq_t (dq_t (dq_t (dq_t dzX7_read_0)))))))))))))
theorem dX7_read_21 : decode cX7_read 21 = .ok (.aload_n 0, 1) := dq_h (dq_t (dq_t (dq_t (dq_t (dq_t (dq_t (dq_t (dq_t (dq_t (dq_t (dq_t (dq_t (dq_t (dq_t dzX7_read_0))))))))))))))
theorem dX7_read_22 : decode cX7_read 22 = .ok (.aload_n 1, 1) := dq_h (dq_t (dq_t (dq_t (dq_t (dq_t (dq_t (dq_t (dq_t (dq_t (dq_t (dq_t (dq_t (dq_t (dq_t (dq_t dzX7_read_0)))))))))))))))
theorem dX7_read_23 : decode cX7_read 23 = .ok (.iload_n 2, 1) := dq_h (dq_t (dq_t (dq_t (dq_t (dq_t (dq_t (dq_t (dq_t (dq_t (dq_t (dq_t (dq_t (dq_t (dq_t (dq_t (dq_t dzX7_read_0))))))))))))))))
theorem dX7_read_24 : decode cX7_read 24 = .ok (.iconst 1, 1) := dq_h (dq_t (dq_t (dq_t (dq_t (dq_t (dq_t (dq_t (dq_t (dq_t (dq_t (dq_t (dq_t (dq_t (dq_t (dq_t (dq_t (dq_t dzX7_read_0)))))))))))))))))
theorem dX7_read_25 : decode cX7_read 25 = .ok (.iadd, 1) := dq_h (dq_t (dq_t (dq_t (dq_t (dq_t (dq_t (dq_t (dq_t (dq_t (dq_t (dq_t (dq_t (dq_t (dq_t (dq_t (dq_t (dq_t (dq_t dzX7_read_0))))))))))))))))))
theorem dX7_read_26 : decode cX7_read 26 = .ok (.iaload, 1) := dq_h (dq_t (dq_t (dq_t (dq_t (dq_t (dq_t (dq_t (dq_t (dq_t (dq_t (dq_t (dq_t (dq_t (dq_t (dq_t (dq_t (dq_t (dq_t (dq_t dzX7_read_0)))))))))))))))))))
theorem dX7_read_27 : decode cX7_read 27 = .ok (.putfield 15, 3) := dq_h (dq_t (dq_t (dq_t (dq_t (dq_t (dq_t (dq_t (dq_t (dq_t (dq_t (dq_t (dq_t (dq_t (dq_t (dq_t (dq_t (dq_t (dq_t (dq_t (dq_t dzX7_read_0))))))))))))))))))))
theorem dX7_read_30 : decode cX7_read 30 = .ok (.iconst 0, 1) := dq_h (dq_t (dq_t (dq_t (dq_t (dq_t (dq_t (dq_t (dq_t (dq_t (dq_t (dq_t (dq_t (dq_t (dq_t (dq_t (dq_t (dq_t (dq_t (dq_t (dq_t (dq_t dzX7_read_0)))))))))))))))))))))
theorem dX7_read_31 : decode cX7_read 31 = .ok (.istore_n 3, 1) := dq_h (dq_t (dq_t (dq_t (dq_t (dq_t (dq_t (dq_t (dq_t (dq_t (dq_t (dq_t (dq_t (dq_t (dq_t (dq_t (dq_t (dq_t (dq_t (dq_t (dq_t (dq_t (dq_t dzX7_read_0))))))))))))))))))))))
theorem dX7_read_32 : decode cX7_read 32 = .ok (.iload_n 3, 1) := dq_h (dq_t (dq_t (dq_t (dq_t (dq_t (dq_t (dq_t (dq_t (dq_t (dq_t (dq_t (dq_t (dq_t (dq_t (dq_t (dq_t (dq_t (dq_t (dq_t (dq_t (dq_t (dq_t (dq_t dzX7_read_0)))))))))))))))))))))))
theorem dzX7_read_33 : dq_F cX7_read [(33, .bipush 6, 2), (35, .if_icmp .ge 64, 3), (38, .iload_n 2, 1), (39, .iconst 2, 1), (40, .iadd, 1), (41, .iconst 4, 1), (42, .iload_n 3, 1), (43, .imul, 1), (44, .iadd, 1), (45, .istore 4, 2), (47, .aload_n 0, 1), (48, .getfield 18, 3), (51, .iload_n 3, 1), (52, .aload_n 1, 1), (53, .iload 4, 2), (55, .iaload, 1), (56, .iastore, 1), (57, .aload_n 0, 1), (58, .getfield 22, 3), (61, .iload_n 3, 1), (62, .aload_n 1, 1), (63, .iload 4, 2), (65, .iconst 1, 1), (66, .iadd, 1)] := dq_s 24 33 (by decide +kernel)
theorem dX7_read_33 : decode cX7_read 33 = .ok (.bipush 6, 2) := dq_h dzX7_read_33
theorem dX7_read_35 : decode cX7_read 35 = .ok (.if_icmp .ge 64, 3) := dq_h (dq_t dzX7_read_33)
theorem dX7_read_38 : decode cX7_read 38 = .ok (.iload_n 2, 1) := dq_h (dq_t (dq_t dzX7_read_33))
theorem dX7_read_39 : decode cX7_read 39 = .ok (.iconst 2, 1) := dq_h (dq_t (dq_t (dq_t dzX7_read_33)))
theorem dX7_read_40 : decode cX7_read 40 = .ok (.iadd, 1) := dq_h (dq_t (dq_t (dq_t (dq_t dzX7_read_33))))
theorem dX7_read_41 : decode cX7_read 41 = .ok (.iconst 4, 1) := dq_h (dq_t (dq_t (dq_t (dq_t (dq_t dzX7_read_33)))))
theorem dX7_read_42 : decode cX7_read 42 = .ok (.iload_n 3, 1) := dq_h (dq_t (dq_t (dq_t (dq_t (dq_t (dq_t dzX7_read_33))))))
theorem dX7_read_43 : decode cX7_read 43 = .ok (.imul, 1) := dq_h (dq_t (dq_t (dq_t (dq_t (dq_t (dq_t (dq_t dzX7_read_33)))))))
theorem dX7_read_44 : decode cX7_read 44 = .ok (.iadd, 1) := dq_h (dq_t (dq_t (dq_t (dq_t (dq_t (dq_t (dq_t (dq_t dzX7_read_33))))))))
theorem dX7_read_45 : decode cX7_read 45 = .ok (.istore 4, 2) := dq_h (dq_t (dq_t (dq_t (dq_t (dq_t (dq_t (dq_t (dq_t (dq_t dzX7_read_33)))))))))
theorem dX7_read_47 : decode cX7_read 47 = .ok (.aload_n 0, 1) := dq_h (dq_t (dq_t (dq_t (dq_t (dq_t (dq_t (dq_t (dq_t (dq_t (dq_t dzX7_read_33))))))))))
theorem dX7_read_48 : decode cX7_read 48 = .ok (.getfield 18, 3) := dq_h (dq_t (dq_t (dq_t (dq_t (dq_t (dq_t (dq_t (dq_t (dq_t (dq_t (dq_t dzX7_read_33)))))))))))
theorem dX7_read_51 : decode cX7_read 51 = .ok (.iload_n 3, 1) := dq_h (dq_t (dq_t (dq_t (dq_t (dq_t (dq_t (dq_t (dq_t (dq_t (dq_t (dq_t (dq_t dzX7_read_33))))))))))))
theorem dX7_read_52 : decode cX7_read 52 = .ok (.aload_n 1, 1) := dq_h (dq_t (dq_t (dq_t (dq_t (dq_t (dq_t (dq_t (dq_t (dq_t (dq_t (dq_t (dq_t (dq_t dzX7_read_33)))))))))))))
theorem dX7_read_53 : decode cX7_read 53 = .ok (.iload 4, 2) := dq_h (dq_t (dq_t (dq_t (dq_t (dq_t (dq_t (dq_t (dq_t (dq_t (dq_t (dq_t (dq_t (dq_t (dq_t dzX7_read_33))))))))))))))
theorem dX7_read_55 : decode cX7_read 55 = .ok (.iaload, 1) := dq_h (dq_t (dq_t (dq_t (dq_t (dq_t (dq_t (dq_t (dq_t (dq_t (dq_t (dq_t (dq_t (dq_t (dq_t (dq_t dzX7_read_33)))))))))))))))
theorem dX7_read_56 : decode cX7_read 56 = .ok (.iastore, 1) := dq_h (dq_t (dq_t (dq_t (dq_t (dq_t (dq_t (dq_t (dq_t (dq_t (dq_t (dq_t (dq_t (dq_t (dq_t (dq_t (dq_t dzX7_read_33))))))))))))))))
theorem dX7_read_57 : decode cX7_read 57 = .ok (.aload_n 0, 1) := dq_h (dq_t (dq_t (dq_t (dq_t (dq_t (dq_t (dq_t (dq_t (dq_t (dq_t (dq_t (dq_t (dq_t (dq_t (dq_t (dq_t (dq_t dzX7_read_33)))))))))))))))))
theorem dX7_read_58 : decode cX7_read 58 = .ok (.getfield 22, 3) := dq_h (dq_t (dq_t (dq_t (dq_t (dq_t (dq_t (dq_t (dq_t (dq_t (dq_t (dq_t (dq_t (dq_t (dq_t (dq_t (dq_t (dq_t (dq_t dzX7_read_33))))))))))))))))))
theorem dX7_read_61 : decode cX7_read 61 = .ok (.iload_n 3, 1) := dq_h (dq_t (dq_t (dq_t (dq_t (dq_t (dq_t (dq_t (dq_t (dq_t (dq_t (dq_t (dq_t (dq_t (dq_t (dq_t (dq_t (dq_t (dq_t (dq_t dzX7_read_33)))))))))))))))))))
theorem dX7_read_62 : decode cX7_read 62 = .ok (.aload_n 1, 1) := dq_h (dq_t (dq_t (dq_t (dq_t (dq_t (dq_t (dq_t (dq_t (dq_t (dq_t (dq_t (dq_t (dq_t (dq_t (dq_t (dq_t (dq_t (dq_t (dq_t (dq_t dzX7_read_33))))))))))))))))))))
theorem dX7_read_63 : decode cX7_read 63 = .ok (.iload 4, 2) := dq_h (dq_t (dq_t (dq_t (dq_t (dq_t (dq_t (dq_t (dq_t (dq_t (dq_t (dq_t (dq_t (dq_t (dq_t (dq_t (dq_t (dq_t (dq_t (dq_t (dq_t (dq_t dzX7_read_33)))))))))))))))))))))
theorem dX7_read_65 : decode cX7_read 65 = .ok (.iconst 1, 1) := dq_h (dq_t (dq_t (dq_t (dq_t (dq_t (dq_t (dq_t (dq_t (dq_t (dq_t (dq_t (dq_t (dq_t (dq_t (dq_t (dq_t (dq_t (dq_t (dq_t (dq_t (dq_t (dq_t dzX7_read_33))))))))))))))))))))))
theorem dX7_read_66 : decode cX7_read 66 = .ok (.iadd, 1) := dq_h (dq_t (dq_t (dq_t (dq_t (dq_t (dq_t (dq_t (dq_t (dq_t (dq_t (dq_t (dq_t (dq_t (dq_t (dq_t (dq_t (dq_t (dq_t (dq_t (dq_t (dq_t (dq_t (dq_t dzX7_read_33)))))))))))))))))))))))
theorem dzX7_read_67 : dq_F cX7_read [(67, .iaload, 1), (68, .iastore, 1), (69, .aload_n 0, 1), (70, .getfield 25, 3), (73, .iload_n 3, 1), (74, .aload_n 1, 1), (75, .iload 4, 2), (77, .iconst 2, 1), (78, .iadd, 1), (79, .iaload, 1), (80, .iastore, 1), (81, .aload_n 0, 1), (82, .getfield 28, 3), (85, .iload_n 3, 1), (86, .aload_n 1, 1), (87, .iload 4, 2), (89, .iconst 3, 1), (90, .iadd, 1), (91, .iaload, 1), (92, .iastore, 1), (93, .iinc 3 1, 3), (96, .goto (-64), 3), (99, .return_, 1)] := dq_s 23 67 (by decide +kernel)
theorem dX7_read_67 : decode cX7_read 67 = .ok (.iaload, 1) := dq_h dzX7_read_67
theorem dX7_read_68 : decode cX7_read 68 = .ok (.iastore, 1) := dq_h (dq_t dzX7_read_67)
theorem dX7_read_69 : decode cX7_read 69 = .ok (.aload_n 0, 1) := dq_h (dq_t (dq_t dzX7_read_67))
theorem dX7_read_70 : decode cX7_read 70 = .ok (.getfield 25, 3) := dq_h (dq_t (dq_t (dq_t dzX7_read_67)))
theorem dX7_read_73 : decode cX7_read 73 = .ok (.iload_n 3, 1) := dq_h (dq_t (dq_t (dq_t (dq_t dzX7_read_67))))
theorem dX7_read_74 : decode cX7_read 74 = .ok (.aload_n 1, 1) := dq_h (dq_t (dq_t (dq_t (dq_t (dq_t dzX7_read_67)))))
theorem dX7_read_75 : decode cX7_read 75 = .ok (.iload 4, 2) := dq_h (dq_t (dq_t (dq_t (dq_t (dq_t (dq_t dzX7_read_67))))))
theorem dX7_read_77 : decode cX7_read 77 = .ok (.iconst 2, 1) := dq_h (dq_t (dq_t (dq_t (dq_t (dq_t (dq_t (dq_t dzX7_read_67)))))))
theorem dX7_read_78 : decode cX7_read 78 = .ok (.iadd, 1) := dq_h (dq_t (dq_t (dq_t (dq_t (dq_t (dq_t (dq_t (dq_t dzX7_read_67))))))))
theorem dX7_read_79 : decode cX7_read 79 = .ok (.iaload, 1) := dq_h (dq_t (dq_t (dq_t (dq_t (dq_t (dq_t (dq_t (dq_t (dq_t dzX7_read_67)))))))))
theorem dX7_read_80 : decode cX7_read 80 = .ok (.iastore, 1) := dq_h (dq_t (dq_t (dq_t (dq_t (dq_t (dq_t (dq_t (dq_t (dq_t (dq_t dzX7_read_67))))))))))
theorem dX7_read_81 : decode cX7_read 81 = .ok (.aload_n 0, 1) := dq_h (dq_t (dq_t (dq_t (dq_t (dq_t (dq_t (dq_t (dq_t (dq_t (dq_t (dq_t dzX7_read_67)))))))))))
theorem dX7_read_82 : decode cX7_read 82 = .ok (.getfield 28, 3) := dq_h (dq_t (dq_t (dq_t (dq_t (dq_t (dq_t (dq_t (dq_t (dq_t (dq_t (dq_t (dq_t dzX7_read_67))))))))))))
theorem dX7_read_85 : decode cX7_read 85 = .ok (.iload_n 3, 1) := dq_h (dq_t (dq_t (dq_t (dq_t (dq_t (dq_t (dq_t (dq_t (dq_t (dq_t (dq_t (dq_t (dq_t dzX7_read_67)))))))))))))
theorem dX7_read_86 : decode cX7_read 86 = .ok (.aload_n 1, 1) := dq_h (dq_t (dq_t (dq_t (dq_t (dq_t (dq_t (dq_t (dq_t (dq_t (dq_t (dq_t (dq_t (dq_t (dq_t dzX7_read_67))))))))))))))
theorem dX7_read_87 : decode cX7_read 87 = .ok (.iload 4, 2) := dq_h (dq_t (dq_t (dq_t (dq_t (dq_t (dq_t (dq_t (dq_t (dq_t (dq_t (dq_t (dq_t (dq_t (dq_t (dq_t dzX7_read_67)))))))))))))))
theorem dX7_read_89 : decode cX7_read 89 = .ok (.iconst 3, 1) := dq_h (dq_t (dq_t (dq_t (dq_t (dq_t (dq_t (dq_t (dq_t (dq_t (dq_t (dq_t (dq_t (dq_t (dq_t (dq_t (dq_t dzX7_read_67))))))))))))))))
theorem dX7_read_90 : decode cX7_read 90 = .ok (.iadd, 1) := dq_h (dq_t (dq_t (dq_t (dq_t (dq_t (dq_t (dq_t (dq_t (dq_t (dq_t (dq_t (dq_t (dq_t (dq_t (dq_t (dq_t (dq_t dzX7_read_67)))))))))))))))))
theorem dX7_read_91 : decode cX7_read 91 = .ok (.iaload, 1) := dq_h (dq_t (dq_t (dq_t (dq_t (dq_t (dq_t (dq_t (dq_t (dq_t (dq_t (dq_t (dq_t (dq_t (dq_t (dq_t (dq_t (dq_t (dq_t dzX7_read_67))))))))))))))))))
theorem dX7_read_92 : decode cX7_read 92 = .ok (.iastore, 1) := dq_h (dq_t (dq_t (dq_t (dq_t (dq_t (dq_t (dq_t (dq_t (dq_t (dq_t (dq_t (dq_t (dq_t (dq_t (dq_t (dq_t (dq_t (dq_t (dq_t dzX7_read_67)))))))))))))))))))
theorem dX7_read_93 : decode cX7_read 93 = .ok (.iinc 3 1, 3) := dq_h (dq_t (dq_t (dq_t (dq_t (dq_t (dq_t (dq_t (dq_t (dq_t (dq_t (dq_t (dq_t (dq_t (dq_t (dq_t (dq_t (dq_t (dq_t (dq_t (dq_t dzX7_read_67))))))))))))))))))))
theorem dX7_read_96 : decode cX7_read 96 = .ok (.goto (-64), 3) := dq_h (dq_t (dq_t (dq_t (dq_t (dq_t (dq_t (dq_t (dq_t (dq_t (dq_t (dq_t (dq_t (dq_t (dq_t (dq_t (dq_t (dq_t (dq_t (dq_t (dq_t (dq_t dzX7_read_67)))))))))))))))))))))
theorem dX7_read_99 : decode cX7_read 99 = .ok (.return_, 1) := dq_h (dq_t (dq_t (dq_t (dq_t (dq_t (dq_t (dq_t (dq_t (dq_t (dq_t (dq_t (dq_t (dq_t (dq_t (dq_t (dq_t (dq_t (dq_t (dq_t (dq_t (dq_t (dq_t dzX7_read_67))))))))))))))))))))))
theorem dzX7_isDrained_0 : dq_F cX7_isDrained [(0, .aload_n 0, 1), (1, .getfield 15, 3), (4, .iload_n 1, 1), (5, .invokestatic 39, 3), (8, .ireturn, 1)] := dq_s 5 0 (by decide +kernel)
theorem dX7_isDrained_0 : decode cX7_isDrained 0 = .ok (.aload_n 0, 1) := dq_h dzX7_isDrained_0
theorem dX7_isDrained_1 : decode cX7_isDrained 1 = .ok (.getfield 15, 3) := dq_h (dq_t dzX7_isDrained_0)
theorem dX7_isDrained_4 : decode cX7_isDrained 4 = .ok (.iload_n 1, 1) := dq_h (dq_t (dq_t dzX7_isDrained_0))
theorem dX7_isDrained_5 : decode cX7_isDrained 5 = .ok (.invokestatic 39, 3) := dq_h (dq_t (dq_t (dq_t dzX7_isDrained_0)))
theorem dX7_isDrained_8 : decode cX7_isDrained 8 = .ok (.ireturn, 1) := dq_h (dq_t (dq_t (dq_t (dq_t dzX7_isDrained_0))))
theorem dzX7_turn_0 : dq_F cX7_turn [(0, .aload_n 0, 1), (1, .dup, 1), (2, .getfield 15, 3), (5, .iconst 1, 1), (6, .iload_n 1, 1), (7, .ishl, 1), (8, .ixor, 1), (9, .putfield 15, 3), (12, .return_, 1)] := dq_s 9 0 (by decide +kernel)
theorem dX7_turn_0 : decode cX7_turn 0 = .ok (.aload_n 0, 1) := dq_h dzX7_turn_0
theorem dX7_turn_1 : decode cX7_turn 1 = .ok (.dup, 1) := dq_h (dq_t dzX7_turn_0)
theorem dX7_turn_2 : decode cX7_turn 2 = .ok (.getfield 15, 3) := dq_h (dq_t (dq_t dzX7_turn_0))
theorem dX7_turn_5 : decode cX7_turn 5 = .ok (.iconst 1, 1) := dq_h (dq_t (dq_t (dq_t dzX7_turn_0)))
theorem dX7_turn_6 : decode cX7_turn 6 = .ok (.iload_n 1, 1) := dq_h (dq_t (dq_t (dq_t (dq_t dzX7_turn_0))))
theorem dX7_turn_7 : decode cX7_turn 7 = .ok (.ishl, 1) := dq_h (dq_t (dq_t (dq_t (dq_t (dq_t dzX7_turn_0)))))
theorem dX7_turn_8 : decode cX7_turn 8 = .ok (.ixor, 1) := dq_h (dq_t (dq_t (dq_t (dq_t (dq_t (dq_t dzX7_turn_0))))))
theorem dX7_turn_9 : decode cX7_turn 9 = .ok (.putfield 15, 3) := dq_h (dq_t (dq_t (dq_t (dq_t (dq_t (dq_t (dq_t dzX7_turn_0)))))))
theorem dX7_turn_12 : decode cX7_turn 12 = .ok (.return_, 1) := dq_h (dq_t (dq_t (dq_t (dq_t (dq_t (dq_t (dq_t (dq_t dzX7_turn_0))))))))
theorem dzX7_enrich_0 : dq_F cX7_enrich [(0, .iload_n 1, 1), (1, .ifCond .lt 32, 3), (4, .iload_n 1, 1), (5, .aload_n 0, 1), (6, .getfield 22, 3), (9, .arraylength, 1), (10, .if_icmp .ge 23, 3), (13, .aload_n 0, 1), (14, .getfield 22, 3), (17, .iload_n 1, 1), (18, .sipush 999, 3), (21, .aload_n 0, 1), (22, .getfield 22, 3), (25, .iload_n 1, 1), (26, .iaload, 1), (27, .iload_n 2, 1), (28, .iadd, 1), (29, .invokestatic 43, 3), (32, .iastore, 1), (33, .return_, 1)] := dq_s 20 0 (by decide +kernel)
theorem dX7_enrich_0 : decode cX7_enrich 0 = .ok (.iload_n 1, 1) := dq_h dzX7_enrich_0
theorem dX7_enrich_1 : decode cX7_enrich 1 = .ok (.ifCond .lt 32, 3) := dq_h (dq_t dzX7_enrich_0)
theorem dX7_enrich_4 : decode cX7_enrich 4 = .ok (.iload_n 1, 1) := dq_h (dq_t (dq_t dzX7_enrich_0))
theorem dX7_enrich_5 : decode cX7_enrich 5 = .ok (.aload_n 0, 1) := dq_h (dq_t (dq_t (dq_t dzX7_enrich_0)))
theorem dX7_enrich_6 : decode cX7_enrich 6 = .ok (.getfield 22, 3) := dq_h (dq_t (dq_t (dq_t (dq_t dzX7_enrich_0))))
theorem dX7_enrich_9 : decode cX7_enrich 9 = .ok (.arraylength, 1) := dq_h (dq_t (dq_t (dq_t (dq_t (dq_t dzX7_enrich_0)))))
theorem dX7_enrich_10 : decode cX7_enrich 10 = .ok (.if_icmp .ge 23, 3) := dq_h (dq_t (dq_t (dq_t (dq_t (dq_t (dq_t dzX7_enrich_0))))))
theorem dX7_enrich_13 : decode cX7_enrich 13 = .ok (.aload_n 0, 1) := dq_h (dq_t (dq_t (dq_t (dq_t (dq_t (dq_t (dq_t dzX7_enrich_0)))))))
theorem dX7_enrich_14 : decode cX7_enrich 14 = .ok (.getfield 22, 3) := dq_h (dq_t (dq_t (dq_t (dq_t (dq_t (dq_t (dq_t (dq_t dzX7_enrich_0))))))))
theorem dX7_enrich_17 : decode cX7_enrich 17 = .ok (.iload_n 1, 1) := dq_h (dq_t (dq_t (dq_t (dq_t (dq_t (dq_t (dq_t (dq_t (dq_t dzX7_enrich_0)))))))))
theorem dX7_enrich_18 : decode cX7_enrich 18 = .ok (.sipush 999, 3) := dq_h (dq_t (dq_t (dq_t (dq_t (dq_t (dq_t (dq_t (dq_t (dq_t (dq_t dzX7_enrich_0))))))))))
theorem dX7_enrich_21 : decode cX7_enrich 21 = .ok (.aload_n 0, 1) := dq_h (dq_t (dq_t (dq_t (dq_t (dq_t (dq_t (dq_t (dq_t (dq_t (dq_t (dq_t dzX7_enrich_0)))))))))))
theorem dX7_enrich_22 : decode cX7_enrich 22 = .ok (.getfield 22, 3) := dq_h (dq_t (dq_t (dq_t (dq_t (dq_t (dq_t (dq_t (dq_t (dq_t (dq_t (dq_t (dq_t dzX7_enrich_0))))))))))))
theorem dX7_enrich_25 : decode cX7_enrich 25 = .ok (.iload_n 1, 1) := dq_h (dq_t (dq_t (dq_t (dq_t (dq_t (dq_t (dq_t (dq_t (dq_t (dq_t (dq_t (dq_t (dq_t dzX7_enrich_0)))))))))))))
theorem dX7_enrich_26 : decode cX7_enrich 26 = .ok (.iaload, 1) := dq_h (dq_t (dq_t (dq_t (dq_t (dq_t (dq_t (dq_t (dq_t (dq_t (dq_t (dq_t (dq_t (dq_t (dq_t dzX7_enrich_0))))))))))))))
theorem dX7_enrich_27 : decode cX7_enrich 27 = .ok (.iload_n 2, 1) := dq_h (dq_t (dq_t (dq_t (dq_t (dq_t (dq_t (dq_t (dq_t (dq_t (dq_t (dq_t (dq_t (dq_t (dq_t (dq_t dzX7_enrich_0)))))))))))))))
theorem dX7_enrich_28 : decode cX7_enrich 28 = .ok (.iadd, 1) := dq_h (dq_t (dq_t (dq_t (dq_t (dq_t (dq_t (dq_t (dq_t (dq_t (dq_t (dq_t (dq_t (dq_t (dq_t (dq_t (dq_t dzX7_enrich_0))))))))))))))))
theorem dX7_enrich_29 : decode cX7_enrich 29 = .ok (.invokestatic 43, 3) := dq_h (dq_t (dq_t (dq_t (dq_t (dq_t (dq_t (dq_t (dq_t (dq_t (dq_t (dq_t (dq_t (dq_t (dq_t (dq_t (dq_t (dq_t dzX7_enrich_0)))))))))))))))))
theorem dX7_enrich_32 : decode cX7_enrich 32 = .ok (.iastore, 1) := dq_h (dq_t (dq_t (dq_t (dq_t (dq_t (dq_t (dq_t (dq_t (dq_t (dq_t (dq_t (dq_t (dq_t (dq_t (dq_t (dq_t (dq_t (dq_t dzX7_enrich_0))))))))))))))))))
theorem dX7_enrich_33 : decode cX7_enrich 33 = .ok (.return_, 1) := dq_h (dq_t (dq_t (dq_t (dq_t (dq_t (dq_t (dq_t (dq_t (dq_t (dq_t (dq_t (dq_t (dq_t (dq_t (dq_t (dq_t (dq_t (dq_t (dq_t dzX7_enrich_0)))))))))))))))))))
theorem dzX7_holderOf_0 : dq_F cX7_holderOf [(0, .iconst 0, 1), (1, .istore_n 3, 1), (2, .iload_n 3, 1), (3, .aload_n 1, 1), (4, .getfield 31, 3), (7, .if_icmp .ge 21, 3), (10, .aload_n 0, 1), (11, .getfield 28, 3), (14, .iload_n 3, 1), (15, .iaload, 1), (16, .iload_n 2, 1), (17, .if_icmp .ne 5, 3), (20, .iload_n 3, 1), (21, .ireturn, 1), (22, .iinc 3 1, 3), (25, .goto (-23), 3), (28, .iconst (-1), 1), (29, .ireturn, 1)] := dq_s 18 0 (by decide +kernel)
theorem dX7_holderOf_0 : decode cX7_holderOf 0 = .ok (.iconst 0, 1) := dq_h dzX7_holderOf_0
theorem dX7_holderOf_1 : decode cX7_holderOf 1 = .ok (.istore_n 3, 1) := dq_h (dq_t dzX7_holderOf_0)
theorem dX7_holderOf_2 : decode cX7_holderOf 2 = .ok (.iload_n 3, 1) := dq_h (dq_t (dq_t dzX7_holderOf_0))
theorem dX7_holderOf_3 : decode cX7_holderOf 3 = .ok (.aload_n 1, 1) := dq_h (dq_t (dq_t (dq_t dzX7_holderOf_0)))
theorem dX7_holderOf_4 : decode cX7_holderOf 4 = .ok (.getfield 31, 3) := dq_h (dq_t (dq_t (dq_t (dq_t dzX7_holderOf_0))))
theorem dX7_holderOf_7 : decode cX7_holderOf 7 = .ok (.if_icmp .ge 21, 3) := dq_h (dq_t (dq_t (dq_t (dq_t (dq_t dzX7_holderOf_0)))))
theorem dX7_holderOf_10 : decode cX7_holderOf 10 = .ok (.aload_n 0, 1) := dq_h (dq_t (dq_t (dq_t (dq_t (dq_t (dq_t dzX7_holderOf_0))))))
theorem dX7_holderOf_11 : decode cX7_holderOf 11 = .ok (.getfield 28, 3) := dq_h (dq_t (dq_t (dq_t (dq_t (dq_t (dq_t (dq_t dzX7_holderOf_0)))))))
theorem dX7_holderOf_14 : decode cX7_holderOf 14 = .ok (.iload_n 3, 1) := dq_h (dq_t (dq_t (dq_t (dq_t (dq_t (dq_t (dq_t (dq_t dzX7_holderOf_0))))))))
theorem dX7_holderOf_15 : decode cX7_holderOf 15 = .ok (.iaload, 1) := dq_h (dq_t (dq_t (dq_t (dq_t (dq_t (dq_t (dq_t (dq_t (dq_t dzX7_holderOf_0)))))))))
theorem dX7_holderOf_16 : decode cX7_holderOf 16 = .ok (.iload_n 2, 1) := dq_h (dq_t (dq_t (dq_t (dq_t (dq_t (dq_t (dq_t (dq_t (dq_t (dq_t dzX7_holderOf_0))))))))))
theorem dX7_holderOf_17 : decode cX7_holderOf 17 = .ok (.if_icmp .ne 5, 3) := dq_h (dq_t (dq_t (dq_t (dq_t (dq_t (dq_t (dq_t (dq_t (dq_t (dq_t (dq_t dzX7_holderOf_0)))))))))))
theorem dX7_holderOf_20 : decode cX7_holderOf 20 = .ok (.iload_n 3, 1) := dq_h (dq_t (dq_t (dq_t (dq_t (dq_t (dq_t (dq_t (dq_t (dq_t (dq_t (dq_t (dq_t dzX7_holderOf_0))))))))))))
theorem dX7_holderOf_21 : decode cX7_holderOf 21 = .ok (.ireturn, 1) := dq_h (dq_t (dq_t (dq_t (dq_t (dq_t (dq_t (dq_t (dq_t (dq_t (dq_t (dq_t (dq_t (dq_t dzX7_holderOf_0)))))))))))))
theorem dX7_holderOf_22 : decode cX7_holderOf 22 = .ok (.iinc 3 1, 3) := dq_h (dq_t (dq_t (dq_t (dq_t (dq_t (dq_t (dq_t (dq_t (dq_t (dq_t (dq_t (dq_t (dq_t (dq_t dzX7_holderOf_0))))))))))))))
theorem dX7_holderOf_25 : decode cX7_holderOf 25 = .ok (.goto (-23), 3) := dq_h (dq_t (dq_t (dq_t (dq_t (dq_t (dq_t (dq_t (dq_t (dq_t (dq_t (dq_t (dq_t (dq_t (dq_t (dq_t dzX7_holderOf_0)))))))))))))))
theorem dX7_holderOf_28 : decode cX7_holderOf 28 = .ok (.iconst (-1), 1) := dq_h (dq_t (dq_t (dq_t (dq_t (dq_t (dq_t (dq_t (dq_t (dq_t (dq_t (dq_t (dq_t (dq_t (dq_t (dq_t (dq_t dzX7_holderOf_0))))))))))))))))
theorem dX7_holderOf_29 : decode cX7_holderOf 29 = .ok (.ireturn, 1) := dq_h (dq_t (dq_t (dq_t (dq_t (dq_t (dq_t (dq_t (dq_t (dq_t (dq_t (dq_t (dq_t (dq_t (dq_t (dq_t (dq_t (dq_t dzX7_holderOf_0)))))))))))))))))
theorem dzX7_hiredBits_0 : dq_F cX7_hiredBits [(0, .iconst 0, 1), (1, .istore_n 2, 1), (2, .iconst 0, 1), (3, .istore_n 3, 1), (4, .iload_n 3, 1), (5, .aload_n 1, 1), (6, .getfield 31, 3), (9, .if_icmp .ge 30, 3), (12, .aload_n 0, 1), (13, .getfield 28, 3), (16, .iload_n 3, 1), (17, .iaload, 1), (18, .iconst (-1), 1), (19, .if_icmp .eq 14, 3), (22, .iload_n 2, 1), (23, .iconst 1, 1), (24, .aload_n 0, 1), (25, .getfield 28, 3), (28, .iload_n 3, 1), (29, .iaload, 1), (30, .ishl, 1), (31, .ior, 1), (32, .istore_n 2, 1), (33, .iinc 3 1, 3)] := dq_s 24 0 (by decide +kernel)
theorem dX7_hiredBits_0 : decode cX7_hiredBits 0 = .ok (.iconst 0, 1) := dq_h dzX7_hiredBits_0
theorem dX7_hiredBits_1 : decode cX7_hiredBits 1 = .ok (.istore_n 2, 1) := dq_h (dq_t dzX7_hiredBits_0)
theorem dX7_hiredBits_2 : decode cX7_hiredBits 2 = .ok (.iconst 0, 1) := dq_h (dq_t (dq_t dzX7_hiredBits_0))
theorem dX7_hiredBits_3 : decode cX7_hiredBits 3 = .ok (.istore_n 3, 1) := dq_h (dq_t (dq_t (dq_t dzX7_hiredBits_0)))
theorem dX7_hiredBits_4 : decode cX7_hiredBits 4 = .ok (.iload_n 3, 1) := dq_h (dq_t (dq_t (dq_t (dq_t dzX7_hiredBits_0))))
theorem dX7_hiredBits_5 : decode cX7_hiredBits 5 = .ok (.aload_n 1, 1) := dq_h (dq_t (dq_t (dq_t (dq_t (dq_t dzX7_hiredBits_0)))))
theorem dX7_hiredBits_6 : decode cX7_hiredBits 6 = .ok (.getfield 31, 3) := dq_h (dq_t (dq_t (dq_t (dq_t (dq_t (dq_t dzX7_hiredBits_0))))))
theorem dX7_hiredBits_9 : decode cX7_hiredBits 9 = .ok (.if_icmp .ge 30, 3) := dq_h (dq_t (dq_t (dq_t (dq_t (dq_t (dq_t (dq_t dzX7_hiredBits_0)))))))
theorem dX7_hiredBits_12 : decode cX7_hiredBits 12 = .ok (.aload_n 0, 1) := dq_h (dq_t (dq_t (dq_t (dq_t (dq_t (dq_t (dq_t (dq_t dzX7_hiredBits_0))))))))
theorem dX7_hiredBits_13 : decode cX7_hiredBits 13 = .ok (.getfield 28, 3) := dq_h (dq_t (dq_t (dq_t (dq_t (dq_t (dq_t (dq_t (dq_t (dq_t dzX7_hiredBits_0)))))))))
theorem dX7_hiredBits_16 : decode cX7_hiredBits 16 = .ok (.iload_n 3, 1) := dq_h (dq_t (dq_t (dq_t (dq_t (dq_t (dq_t (dq_t (dq_t (dq_t (dq_t dzX7_hiredBits_0))))))))))
theorem dX7_hiredBits_17 : decode cX7_hiredBits 17 = .ok (.iaload, 1) := dq_h (dq_t (dq_t (dq_t (dq_t (dq_t (dq_t (dq_t (dq_t (dq_t (dq_t (dq_t dzX7_hiredBits_0)))))))))))
theorem dX7_hiredBits_18 : decode cX7_hiredBits 18 = .ok (.iconst (-1), 1) := dq_h (dq_t (dq_t (dq_t (dq_t (dq_t (dq_t (dq_t (dq_t (dq_t (dq_t (dq_t (dq_t dzX7_hiredBits_0))))))))))))
theorem dX7_hiredBits_19 : decode cX7_hiredBits 19 = .ok (.if_icmp .eq 14, 3) := dq_h (dq_t (dq_t (dq_t (dq_t (dq_t (dq_t (dq_t (dq_t (dq_t (dq_t (dq_t (dq_t (dq_t dzX7_hiredBits_0)))))))))))))
theorem dX7_hiredBits_22 : decode cX7_hiredBits 22 = .ok (.iload_n 2, 1) := dq_h (dq_t (dq_t (dq_t (dq_t (dq_t (dq_t (dq_t (dq_t (dq_t (dq_t (dq_t (dq_t (dq_t (dq_t dzX7_hiredBits_0))))))))))))))
theorem dX7_hiredBits_23 : decode cX7_hiredBits 23 = .ok (.iconst 1, 1) := dq_h (dq_t (dq_t (dq_t (dq_t (dq_t (dq_t (dq_t (dq_t (dq_t (dq_t (dq_t (dq_t (dq_t (dq_t (dq_t dzX7_hiredBits_0)))))))))))))))
theorem dX7_hiredBits_24 : decode cX7_hiredBits 24 = .ok (.aload_n 0, 1) := dq_h (dq_t (dq_t (dq_t (dq_t (dq_t (dq_t (dq_t (dq_t (dq_t (dq_t (dq_t (dq_t (dq_t (dq_t (dq_t (dq_t dzX7_hiredBits_0))))))))))))))))
theorem dX7_hiredBits_25 : decode cX7_hiredBits 25 = .ok (.getfield 28, 3) := dq_h (dq_t (dq_t (dq_t (dq_t (dq_t (dq_t (dq_t (dq_t (dq_t (dq_t (dq_t (dq_t (dq_t (dq_t (dq_t (dq_t (dq_t dzX7_hiredBits_0)))))))))))))))))
theorem dX7_hiredBits_28 : decode cX7_hiredBits 28 = .ok (.iload_n 3, 1) := dq_h (dq_t (dq_t (dq_t (dq_t (dq_t (dq_t (dq_t (dq_t (dq_t (dq_t (dq_t (dq_t (dq_t (dq_t (dq_t (dq_t (dq_t (dq_t dzX7_hiredBits_0))))))))))))))))))
theorem dX7_hiredBits_29 : decode cX7_hiredBits 29 = .ok (.iaload, 1) := dq_h (dq_t (dq_t (dq_t (dq_t (dq_t (dq_t (dq_t (dq_t (dq_t (dq_t (dq_t (dq_t (dq_t (dq_t (dq_t (dq_t (dq_t (dq_t (dq_t dzX7_hiredBits_0)))))))))))))))))))
theorem dX7_hiredBits_30 : decode cX7_hiredBits 30 = .ok (.ishl, 1) := dq_h (dq_t (dq_t (dq_t (dq_t (dq_t (dq_t (dq_t (dq_t (dq_t (dq_t (dq_t (dq_t (dq_t (dq_t (dq_t (dq_t (dq_t (dq_t (dq_t (dq_t dzX7_hiredBits_0))))))))))))))))))))
theorem dX7_hiredBits_31 : decode cX7_hiredBits 31 = .ok (.ior, 1) := dq_h (dq_t (dq_t (dq_t (dq_t (dq_t (dq_t (dq_t (dq_t (dq_t (dq_t (dq_t (dq_t (dq_t (dq_t (dq_t (dq_t (dq_t (dq_t (dq_t (dq_t (dq_t dzX7_hiredBits_0)))))))))))))))))))))
theorem dX7_hiredBits_32 : decode cX7_hiredBits 32 = .ok (.istore_n 2, 1) := dq_h (dq_t (dq_t (dq_t (dq_t (dq_t (dq_t (dq_t (dq_t (dq_t (dq_t (dq_t (dq_t (dq_t (dq_t (dq_t (dq_t (dq_t (dq_t (dq_t (dq_t (dq_t (dq_t dzX7_hiredBits_0))))))))))))))))))))))
theorem dX7_hiredBits_33 : decode cX7_hiredBits 33 = .ok (.iinc 3 1, 3) := dq_h (dq_t (dq_t (dq_t (dq_t (dq_t (dq_t (dq_t (dq_t (dq_t (dq_t (dq_t (dq_t (dq_t (dq_t (dq_t (dq_t (dq_t (dq_t (dq_t (dq_t (dq_t (dq_t (dq_t dzX7_hiredBits_0)))))))))))))))))))))))
theorem dzX7_hiredBits_36 : dq_F cX7_hiredBits [(36, .goto (-32), 3), (39, .iload_n 2, 1), (40, .ireturn, 1)] := dq_s 3 36 (by decide +kernel)
theorem dX7_hiredBits_36 : decode cX7_hiredBits 36 = .ok (.goto (-32), 3) := dq_h dzX7_hiredBits_36
theorem dX7_hiredBits_39 : decode cX7_hiredBits 39 = .ok (.iload_n 2, 1) := dq_h (dq_t dzX7_hiredBits_36)
theorem dX7_hiredBits_40 : decode cX7_hiredBits 40 = .ok (.ireturn, 1) := dq_h (dq_t (dq_t dzX7_hiredBits_36))
theorem dzX7_purses_0 : dq_F cX7_purses [(0, .iconst 0, 1), (1, .istore_n 2, 1), (2, .iconst 0, 1), (3, .istore_n 3, 1), (4, .iload_n 3, 1), (5, .aload_n 1, 1), (6, .getfield 31, 3), (9, .if_icmp .ge 18, 3), (12, .iload_n 2, 1), (13, .aload_n 0, 1), (14, .getfield 22, 3), (17, .iload_n 3, 1), (18, .iaload, 1), (19, .iadd, 1), (20, .istore_n 2, 1), (21, .iinc 3 1, 3), (24, .goto (-20), 3), (27, .iload_n 2, 1), (28, .ireturn, 1)] := dq_s 19 0 (by decide +kernel)
theorem dX7_purses_0 : decode cX7_purses 0 = .ok (.iconst 0, 1) := dq_h dzX7_purses_0
theorem dX7_purses_1 : decode cX7_purses 1 = .ok (.istore_n 2, 1) := dq_h (dq_t dzX7_purses_0)
theorem dX7_purses_2 : decode cX7_purses 2 = .ok (.iconst 0, 1) := dq_h (dq_t (dq_t dzX7_purses_0))
theorem dX7_purses_3 : decode cX7_purses 3 = .ok (.istore_n 3, 1) := dq_h (dq_t (dq_t (dq_t dzX7_purses_0)))
theorem dX7_purses_4 : decode cX7_purses 4 = .ok (.iload_n 3, 1) := dq_h (dq_t (dq_t (dq_t (dq_t dzX7_purses_0))))
theorem dX7_purses_5 : decode cX7_purses 5 = .ok (.aload_n 1, 1) := dq_h (dq_t (dq_t (dq_t (dq_t (dq_t dzX7_purses_0)))))
theorem dX7_purses_6 : decode cX7_purses 6 = .ok (.getfield 31, 3) := dq_h (dq_t (dq_t (dq_t (dq_t (dq_t (dq_t dzX7_purses_0))))))
theorem dX7_purses_9 : decode cX7_purses 9 = .ok (.if_icmp .ge 18, 3) := dq_h (dq_t (dq_t (dq_t (dq_t (dq_t (dq_t (dq_t dzX7_purses_0)))))))
theorem dX7_purses_12 : decode cX7_purses 12 = .ok (.iload_n 2, 1) := dq_h (dq_t (dq_t (dq_t (dq_t (dq_t (dq_t (dq_t (dq_t dzX7_purses_0))))))))
theorem dX7_purses_13 : decode cX7_purses 13 = .ok (.aload_n 0, 1) := dq_h (dq_t (dq_t (dq_t (dq_t (dq_t (dq_t (dq_t (dq_t (dq_t dzX7_purses_0)))))))))
theorem dX7_purses_14 : decode cX7_purses 14 = .ok (.getfield 22, 3) := dq_h (dq_t (dq_t (dq_t (dq_t (dq_t (dq_t (dq_t (dq_t (dq_t (dq_t dzX7_purses_0))))))))))
theorem dX7_purses_17 : decode cX7_purses 17 = .ok (.iload_n 3, 1) := dq_h (dq_t (dq_t (dq_t (dq_t (dq_t (dq_t (dq_t (dq_t (dq_t (dq_t (dq_t dzX7_purses_0)))))))))))
theorem dX7_purses_18 : decode cX7_purses 18 = .ok (.iaload, 1) := dq_h (dq_t (dq_t (dq_t (dq_t (dq_t (dq_t (dq_t (dq_t (dq_t (dq_t (dq_t (dq_t dzX7_purses_0))))))))))))
theorem dX7_purses_19 : decode cX7_purses 19 = .ok (.iadd, 1) := dq_h (dq_t (dq_t (dq_t (dq_t (dq_t (dq_t (dq_t (dq_t (dq_t (dq_t (dq_t (dq_t (dq_t dzX7_purses_0)))))))))))))
theorem dX7_purses_20 : decode cX7_purses 20 = .ok (.istore_n 2, 1) := dq_h (dq_t (dq_t (dq_t (dq_t (dq_t (dq_t (dq_t (dq_t (dq_t (dq_t (dq_t (dq_t (dq_t (dq_t dzX7_purses_0))))))))))))))
theorem dX7_purses_21 : decode cX7_purses 21 = .ok (.iinc 3 1, 3) := dq_h (dq_t (dq_t (dq_t (dq_t (dq_t (dq_t (dq_t (dq_t (dq_t (dq_t (dq_t (dq_t (dq_t (dq_t (dq_t dzX7_purses_0)))))))))))))))
theorem dX7_purses_24 : decode cX7_purses 24 = .ok (.goto (-20), 3) := dq_h (dq_t (dq_t (dq_t (dq_t (dq_t (dq_t (dq_t (dq_t (dq_t (dq_t (dq_t (dq_t (dq_t (dq_t (dq_t (dq_t dzX7_purses_0))))))))))))))))
theorem dX7_purses_27 : decode cX7_purses 27 = .ok (.iload_n 2, 1) := dq_h (dq_t (dq_t (dq_t (dq_t (dq_t (dq_t (dq_t (dq_t (dq_t (dq_t (dq_t (dq_t (dq_t (dq_t (dq_t (dq_t (dq_t dzX7_purses_0)))))))))))))))))
theorem dX7_purses_28 : decode cX7_purses 28 = .ok (.ireturn, 1) := dq_h (dq_t (dq_t (dq_t (dq_t (dq_t (dq_t (dq_t (dq_t (dq_t (dq_t (dq_t (dq_t (dq_t (dq_t (dq_t (dq_t (dq_t (dq_t dzX7_purses_0))))))))))))))))))
theorem dzX7_sins_0 : dq_F cX7_sins [(0, .iconst 0, 1), (1, .istore_n 2, 1), (2, .iconst 0, 1), (3, .istore_n 3, 1), (4, .iload_n 3, 1), (5, .aload_n 1, 1), (6, .getfield 31, 3), (9, .if_icmp .ge 18, 3), (12, .iload_n 2, 1), (13, .aload_n 0, 1), (14, .getfield 18, 3), (17, .iload_n 3, 1), (18, .iaload, 1), (19, .iadd, 1), (20, .istore_n 2, 1), (21, .iinc 3 1, 3), (24, .goto (-20), 3), (27, .iload_n 2, 1), (28, .ireturn, 1)] := dq_s 19 0 (by decide +kernel)
theorem dX7_sins_0 : decode cX7_sins 0 = .ok (.iconst 0, 1) := dq_h dzX7_sins_0
theorem dX7_sins_1 : decode cX7_sins 1 = .ok (.istore_n 2, 1) := dq_h (dq_t dzX7_sins_0)
theorem dX7_sins_2 : decode cX7_sins 2 = .ok (.iconst 0, 1) := dq_h (dq_t (dq_t dzX7_sins_0))
theorem dX7_sins_3 : decode cX7_sins 3 = .ok (.istore_n 3, 1) := dq_h (dq_t (dq_t (dq_t dzX7_sins_0)))
theorem dX7_sins_4 : decode cX7_sins 4 = .ok (.iload_n 3, 1) := dq_h (dq_t (dq_t (dq_t (dq_t dzX7_sins_0))))
theorem dX7_sins_5 : decode cX7_sins 5 = .ok (.aload_n 1, 1) := dq_h (dq_t (dq_t (dq_t (dq_t (dq_t dzX7_sins_0)))))
theorem dX7_sins_6 : decode cX7_sins 6 = .ok (.getfield 31, 3) := dq_h (dq_t (dq_t (dq_t (dq_t (dq_t (dq_t dzX7_sins_0))))))
theorem dX7_sins_9 : decode cX7_sins 9 = .ok (.if_icmp .ge 18, 3) := dq_h (dq_t (dq_t (dq_t (dq_t (dq_t (dq_t (dq_t dzX7_sins_0)))))))
theorem dX7_sins_12 : decode cX7_sins 12 = .ok (.iload_n 2, 1) := dq_h (dq_t (dq_t (dq_t (dq_t (dq_t (dq_t (dq_t (dq_t dzX7_sins_0))))))))
theorem dX7_sins_13 : decode cX7_sins 13 = .ok (.aload_n 0, 1) := dq_h (dq_t (dq_t (dq_t (dq_t (dq_t (dq_t (dq_t (dq_t (dq_t dzX7_sins_0)))))))))
theorem dX7_sins_14 : decode cX7_sins 14 = .ok (.getfield 18, 3) := dq_h (dq_t (dq_t (dq_t (dq_t (dq_t (dq_t (dq_t (dq_t (dq_t (dq_t dzX7_sins_0))))))))))
theorem dX7_sins_17 : decode cX7_sins 17 = .ok (.iload_n 3, 1) := dq_h (dq_t (dq_t (dq_t (dq_t (dq_t (dq_t (dq_t (dq_t (dq_t (dq_t (dq_t dzX7_sins_0)))))))))))
theorem dX7_sins_18 : decode cX7_sins 18 = .ok (.iaload, 1) := dq_h (dq_t (dq_t (dq_t (dq_t (dq_t (dq_t (dq_t (dq_t (dq_t (dq_t (dq_t (dq_t dzX7_sins_0))))))))))))
theorem dX7_sins_19 : decode cX7_sins 19 = .ok (.iadd, 1) := dq_h (dq_t (dq_t (dq_t (dq_t (dq_t (dq_t (dq_t (dq_t (dq_t (dq_t (dq_t (dq_t (dq_t dzX7_sins_0)))))))))))))
theorem dX7_sins_20 : decode cX7_sins 20 = .ok (.istore_n 2, 1) := dq_h (dq_t (dq_t (dq_t (dq_t (dq_t (dq_t (dq_t (dq_t (dq_t (dq_t (dq_t (dq_t (dq_t (dq_t dzX7_sins_0))))))))))))))
theorem dX7_sins_21 : decode cX7_sins 21 = .ok (.iinc 3 1, 3) := dq_h (dq_t (dq_t (dq_t (dq_t (dq_t (dq_t (dq_t (dq_t (dq_t (dq_t (dq_t (dq_t (dq_t (dq_t (dq_t dzX7_sins_0)))))))))))))))
theorem dX7_sins_24 : decode cX7_sins 24 = .ok (.goto (-20), 3) := dq_h (dq_t (dq_t (dq_t (dq_t (dq_t (dq_t (dq_t (dq_t (dq_t (dq_t (dq_t (dq_t (dq_t (dq_t (dq_t (dq_t dzX7_sins_0))))))))))))))))
theorem dX7_sins_27 : decode cX7_sins 27 = .ok (.iload_n 2, 1) := dq_h (dq_t (dq_t (dq_t (dq_t (dq_t (dq_t (dq_t (dq_t (dq_t (dq_t (dq_t (dq_t (dq_t (dq_t (dq_t (dq_t (dq_t dzX7_sins_0)))))))))))))))))
theorem dX7_sins_28 : decode cX7_sins 28 = .ok (.ireturn, 1) := dq_h (dq_t (dq_t (dq_t (dq_t (dq_t (dq_t (dq_t (dq_t (dq_t (dq_t (dq_t (dq_t (dq_t (dq_t (dq_t (dq_t (dq_t (dq_t dzX7_sins_0))))))))))))))))))
theorem dzX8_init_0 : dq_F cX8_init [(0, .aload_n 0, 1), (1, .invokespecial 3, 3), (4, .aload_n 0, 1), (5, .sipush 700, 3)] := dq_s 4 0 (by decide +kernel)
theorem dX8_init_0 : decode cX8_init 0 = .ok (.aload_n 0, 1) := dq_h dzX8_init_0
theorem dX8_init_1 : decode cX8_init 1 = .ok (.invokespecial 3, 3) := dq_h (dq_t dzX8_init_0)
theorem dX8_init_4 : decode cX8_init 4 = .ok (.aload_n 0, 1) := dq_h (dq_t (dq_t dzX8_init_0))
theorem dX8_init_5 : decode cX8_init 5 = .ok (.sipush 700, 3) := dq_h (dq_t (dq_t (dq_t dzX8_init_0)))
theorem dX8_init_8 : decode cX8_init 8 = .ok (.newarray .byte, 2) := by decide +kernel
theorem dzX8_init_10 : dq_F cX8_init [(10, .putfield 9, 3), (13, .aload_n 0, 1), (14, .iconst 0, 1), (15, .putfield 15, 3), (18, .aload_n 0, 1), (19, .iconst 0, 1), (20, .putfield 19, 3), (23, .aload_n 0, 1), (24, .iconst 0, 1), (25, .putfield 22, 3), (28, .aload_n 0, 1), (29, .iconst 0, 1), (30, .putfield 25, 3), (33, .aload_n 0, 1), (34, .iconst 0, 1), (35, .putfield 28, 3), (38, .aload_n 0, 1), (39, .iconst 0, 1), (40, .putfield 31, 3), (43, .return_, 1)] := dq_s 20 10 (by decide +kernel)
theorem dX8_init_10 : decode cX8_init 10 = .ok (.putfield 9, 3) := dq_h dzX8_init_10
theorem dX8_init_13 : decode cX8_init 13 = .ok (.aload_n 0, 1) := dq_h (dq_t dzX8_init_10)
theorem dX8_init_14 : decode cX8_init 14 = .ok (.iconst 0, 1) := dq_h (dq_t (dq_t dzX8_init_10))
theorem dX8_init_15 : decode cX8_init 15 = .ok (.putfield 15, 3) := dq_h (dq_t (dq_t (dq_t dzX8_init_10)))
theorem dX8_init_18 : decode cX8_init 18 = .ok (.aload_n 0, 1) := dq_h (dq_t (dq_t (dq_t (dq_t dzX8_init_10))))
theorem dX8_init_19 : decode cX8_init 19 = .ok (.iconst 0, 1) := dq_h (dq_t (dq_t (dq_t (dq_t (dq_t dzX8_init_10)))))
theorem dX8_init_20 : decode cX8_init 20 = .ok (.putfield 19, 3) := dq_h (dq_t (dq_t (dq_t (dq_t (dq_t (dq_t dzX8_init_10))))))
theorem dX8_init_23 : decode cX8_init 23 = .ok (.aload_n 0, 1) := dq_h (dq_t (dq_t (dq_t (dq_t (dq_t (dq_t (dq_t dzX8_init_10)))))))
theorem dX8_init_24 : decode cX8_init 24 = .ok (.iconst 0, 1) := dq_h (dq_t (dq_t (dq_t (dq_t (dq_t (dq_t (dq_t (dq_t dzX8_init_10))))))))
theorem dX8_init_25 : decode cX8_init 25 = .ok (.putfield 22, 3) := dq_h (dq_t (dq_t (dq_t (dq_t (dq_t (dq_t (dq_t (dq_t (dq_t dzX8_init_10)))))))))
theorem dX8_init_28 : decode cX8_init 28 = .ok (.aload_n 0, 1) := dq_h (dq_t (dq_t (dq_t (dq_t (dq_t (dq_t (dq_t (dq_t (dq_t (dq_t dzX8_init_10))))))))))
theorem dX8_init_29 : decode cX8_init 29 = .ok (.iconst 0, 1) := dq_h (dq_t (dq_t (dq_t (dq_t (dq_t (dq_t (dq_t (dq_t (dq_t (dq_t (dq_t dzX8_init_10)))))))))))
theorem dX8_init_30 : decode cX8_init 30 = .ok (.putfield 25, 3) := dq_h (dq_t (dq_t (dq_t (dq_t (dq_t (dq_t (dq_t (dq_t (dq_t (dq_t (dq_t (dq_t dzX8_init_10))))))))))))
theorem dX8_init_33 : decode cX8_init 33 = .ok (.aload_n 0, 1) := dq_h (dq_t (dq_t (dq_t (dq_t (dq_t (dq_t (dq_t (dq_t (dq_t (dq_t (dq_t (dq_t (dq_t dzX8_init_10)))))))))))))
theorem dX8_init_34 : decode cX8_init 34 = .ok (.iconst 0, 1) := dq_h (dq_t (dq_t (dq_t (dq_t (dq_t (dq_t (dq_t (dq_t (dq_t (dq_t (dq_t (dq_t (dq_t (dq_t dzX8_init_10))))))))))))))
theorem dX8_init_35 : decode cX8_init 35 = .ok (.putfield 28, 3) := dq_h (dq_t (dq_t (dq_t (dq_t (dq_t (dq_t (dq_t (dq_t (dq_t (dq_t (dq_t (dq_t (dq_t (dq_t (dq_t dzX8_init_10)))))))))))))))
theorem dX8_init_38 : decode cX8_init 38 = .ok (.aload_n 0, 1) := dq_h (dq_t (dq_t (dq_t (dq_t (dq_t (dq_t (dq_t (dq_t (dq_t (dq_t (dq_t (dq_t (dq_t (dq_t (dq_t (dq_t dzX8_init_10))))))))))))))))
theorem dX8_init_39 : decode cX8_init 39 = .ok (.iconst 0, 1) := dq_h (dq_t (dq_t (dq_t (dq_t (dq_t (dq_t (dq_t (dq_t (dq_t (dq_t (dq_t (dq_t (dq_t (dq_t (dq_t (dq_t (dq_t dzX8_init_10)))))))))))))))))
theorem dX8_init_40 : decode cX8_init 40 = .ok (.putfield 31, 3) := dq_h (dq_t (dq_t (dq_t (dq_t (dq_t (dq_t (dq_t (dq_t (dq_t (dq_t (dq_t (dq_t (dq_t (dq_t (dq_t (dq_t (dq_t (dq_t dzX8_init_10))))))))))))))))))
theorem dX8_init_43 : decode cX8_init 43 = .ok (.return_, 1) := dq_h (dq_t (dq_t (dq_t (dq_t (dq_t (dq_t (dq_t (dq_t (dq_t (dq_t (dq_t (dq_t (dq_t (dq_t (dq_t (dq_t (dq_t (dq_t (dq_t dzX8_init_10)))))))))))))))))))
theorem dzX8_add_0 : dq_F cX8_add [(0, .bipush 24, 2), (2, .istore_n 2, 1), (3, .iload_n 2, 1), (4, .ifCond .lt 44, 3), (7, .aload_n 0, 1), (8, .getfield 15, 3), (11, .aload_n 0, 1), (12, .getfield 9, 3), (15, .arraylength, 1), (16, .if_icmp .ge 26, 3), (19, .aload_n 0, 1), (20, .getfield 9, 3), (23, .aload_n 0, 1), (24, .getfield 15, 3), (27, .iload_n 1, 1), (28, .iload_n 2, 1), (29, .ishr, 1), (30, .i2b, 1), (31, .bastore, 1), (32, .aload_n 0, 1), (33, .dup, 1), (34, .getfield 15, 3), (37, .iconst 1, 1), (38, .iadd, 1)] := dq_s 24 0 (by decide +kernel)
theorem dX8_add_0 : decode cX8_add 0 = .ok (.bipush 24, 2) := dq_h dzX8_add_0
theorem dX8_add_2 : decode cX8_add 2 = .ok (.istore_n 2, 1) := dq_h (dq_t dzX8_add_0)
theorem dX8_add_3 : decode cX8_add 3 = .ok (.iload_n 2, 1) := dq_h (dq_t (dq_t dzX8_add_0))
theorem dX8_add_4 : decode cX8_add 4 = .ok (.ifCond .lt 44, 3) := dq_h (dq_t (dq_t (dq_t dzX8_add_0)))
theorem dX8_add_7 : decode cX8_add 7 = .ok (.aload_n 0, 1) := dq_h (dq_t (dq_t (dq_t (dq_t dzX8_add_0))))
theorem dX8_add_8 : decode cX8_add 8 = .ok (.getfield 15, 3) := dq_h (dq_t (dq_t (dq_t (dq_t (dq_t dzX8_add_0)))))
theorem dX8_add_11 : decode cX8_add 11 = .ok (.aload_n 0, 1) := dq_h (dq_t (dq_t (dq_t (dq_t (dq_t (dq_t dzX8_add_0))))))
theorem dX8_add_12 : decode cX8_add 12 = .ok (.getfield 9, 3) := dq_h (dq_t (dq_t (dq_t (dq_t (dq_t (dq_t (dq_t dzX8_add_0)))))))
theorem dX8_add_15 : decode cX8_add 15 = .ok (.arraylength, 1) := dq_h (dq_t (dq_t (dq_t (dq_t (dq_t (dq_t (dq_t (dq_t dzX8_add_0))))))))
theorem dX8_add_16 : decode cX8_add 16 = .ok (.if_icmp .ge 26, 3) := dq_h (dq_t (dq_t (dq_t (dq_t (dq_t (dq_t (dq_t (dq_t (dq_t dzX8_add_0)))))))))
theorem dX8_add_19 : decode cX8_add 19 = .ok (.aload_n 0, 1) := dq_h (dq_t (dq_t (dq_t (dq_t (dq_t (dq_t (dq_t (dq_t (dq_t (dq_t dzX8_add_0))))))))))
theorem dX8_add_20 : decode cX8_add 20 = .ok (.getfield 9, 3) := dq_h (dq_t (dq_t (dq_t (dq_t (dq_t (dq_t (dq_t (dq_t (dq_t (dq_t (dq_t dzX8_add_0)))))))))))
theorem dX8_add_23 : decode cX8_add 23 = .ok (.aload_n 0, 1) := dq_h (dq_t (dq_t (dq_t (dq_t (dq_t (dq_t (dq_t (dq_t (dq_t (dq_t (dq_t (dq_t dzX8_add_0))))))))))))
theorem dX8_add_24 : decode cX8_add 24 = .ok (.getfield 15, 3) := dq_h (dq_t (dq_t (dq_t (dq_t (dq_t (dq_t (dq_t (dq_t (dq_t (dq_t (dq_t (dq_t (dq_t dzX8_add_0)))))))))))))
theorem dX8_add_27 : decode cX8_add 27 = .ok (.iload_n 1, 1) := dq_h (dq_t (dq_t (dq_t (dq_t (dq_t (dq_t (dq_t (dq_t (dq_t (dq_t (dq_t (dq_t (dq_t (dq_t dzX8_add_0))))))))))))))
theorem dX8_add_28 : decode cX8_add 28 = .ok (.iload_n 2, 1) := dq_h (dq_t (dq_t (dq_t (dq_t (dq_t (dq_t (dq_t (dq_t (dq_t (dq_t (dq_t (dq_t (dq_t (dq_t (dq_t dzX8_add_0)))))))))))))))
theorem dX8_add_29 : decode cX8_add 29 = .ok (.ishr, 1) := dq_h (dq_t (dq_t (dq_t (dq_t (dq_t (dq_t (dq_t (dq_t (dq_t (dq_t (dq_t (dq_t (dq_t (dq_t (dq_t (dq_t dzX8_add_0))))))))))))))))
theorem dX8_add_30 : decode cX8_add 30 = .ok (.i2b, 1) := dq_h (dq_t (dq_t (dq_t (dq_t (dq_t (dq_t (dq_t (dq_t (dq_t (dq_t (dq_t (dq_t (dq_t (dq_t (dq_t (dq_t (dq_t dzX8_add_0)))))))))))))))))
theorem dX8_add_31 : decode cX8_add 31 = .ok (.bastore, 1) := dq_h (dq_t (dq_t (dq_t (dq_t (dq_t (dq_t (dq_t (dq_t (dq_t (dq_t (dq_t (dq_t (dq_t (dq_t (dq_t (dq_t (dq_t (dq_t dzX8_add_0))))))))))))))))))
theorem dX8_add_32 : decode cX8_add 32 = .ok (.aload_n 0, 1) := dq_h (dq_t (dq_t (dq_t (dq_t (dq_t (dq_t (dq_t (dq_t (dq_t (dq_t (dq_t (dq_t (dq_t (dq_t (dq_t (dq_t (dq_t (dq_t (dq_t dzX8_add_0)))))))))))))))))))
theorem dX8_add_33 : decode cX8_add 33 = .ok (.dup, 1) := dq_h (dq_t (dq_t (dq_t (dq_t (dq_t (dq_t (dq_t (dq_t (dq_t (dq_t (dq_t (dq_t (dq_t (dq_t (dq_t (dq_t (dq_t (dq_t (dq_t (dq_t dzX8_add_0))))))))))))))))))))
theorem dX8_add_34 : decode cX8_add 34 = .ok (.getfield 15, 3) := dq_h (dq_t (dq_t (dq_t (dq_t (dq_t (dq_t (dq_t (dq_t (dq_t (dq_t (dq_t (dq_t (dq_t (dq_t (dq_t (dq_t (dq_t (dq_t (dq_t (dq_t (dq_t dzX8_add_0)))))))))))))))))))))
theorem dX8_add_37 : decode cX8_add 37 = .ok (.iconst 1, 1) := dq_h (dq_t (dq_t (dq_t (dq_t (dq_t (dq_t (dq_t (dq_t (dq_t (dq_t (dq_t (dq_t (dq_t (dq_t (dq_t (dq_t (dq_t (dq_t (dq_t (dq_t (dq_t (dq_t dzX8_add_0))))))))))))))))))))))
theorem dX8_add_38 : decode cX8_add 38 = .ok (.iadd, 1) := dq_h (dq_t (dq_t (dq_t (dq_t (dq_t (dq_t (dq_t (dq_t (dq_t (dq_t (dq_t (dq_t (dq_t (dq_t (dq_t (dq_t (dq_t (dq_t (dq_t (dq_t (dq_t (dq_t (dq_t dzX8_add_0)))))))))))))))))))))))
theorem dzX8_add_39 : dq_F cX8_add [(39, .putfield 15, 3), (42, .iinc 2 (-8), 3), (45, .goto (-42), 3), (48, .return_, 1)] := dq_s 4 39 (by decide +kernel)
theorem dX8_add_39 : decode cX8_add 39 = .ok (.putfield 15, 3) := dq_h dzX8_add_39
theorem dX8_add_42 : decode cX8_add 42 = .ok (.iinc 2 (-8), 3) := dq_h (dq_t dzX8_add_39)
theorem dX8_add_45 : decode cX8_add 45 = .ok (.goto (-42), 3) := dq_h (dq_t (dq_t dzX8_add_39))
theorem dX8_add_48 : decode cX8_add 48 = .ok (.return_, 1) := dq_h (dq_t (dq_t (dq_t dzX8_add_39)))
theorem dzX8_open_0 : dq_F cX8_open [(0, .aload_n 0, 1), (1, .iload_n 1, 1), (2, .aload_n 0, 1), (3, .getfield 15, 3), (6, .invokestatic 34, 3), (9, .putfield 19, 3), (12, .aload_n 0, 1), (13, .iconst 0, 1), (14, .putfield 22, 3), (17, .aload_n 0, 1), (18, .invokevirtual 40, 3), (21, .return_, 1)] := dq_s 12 0 (by decide +kernel)
theorem dX8_open_0 : decode cX8_open 0 = .ok (.aload_n 0, 1) := dq_h dzX8_open_0
theorem dX8_open_1 : decode cX8_open 1 = .ok (.iload_n 1, 1) := dq_h (dq_t dzX8_open_0)
theorem dX8_open_2 : decode cX8_open 2 = .ok (.aload_n 0, 1) := dq_h (dq_t (dq_t dzX8_open_0))
theorem dX8_open_3 : decode cX8_open 3 = .ok (.getfield 15, 3) := dq_h (dq_t (dq_t (dq_t dzX8_open_0)))
theorem dX8_open_6 : decode cX8_open 6 = .ok (.invokestatic 34, 3) := dq_h (dq_t (dq_t (dq_t (dq_t dzX8_open_0))))
theorem dX8_open_9 : decode cX8_open 9 = .ok (.putfield 19, 3) := dq_h (dq_t (dq_t (dq_t (dq_t (dq_t dzX8_open_0)))))
theorem dX8_open_12 : decode cX8_open 12 = .ok (.aload_n 0, 1) := dq_h (dq_t (dq_t (dq_t (dq_t (dq_t (dq_t dzX8_open_0))))))
theorem dX8_open_13 : decode cX8_open 13 = .ok (.iconst 0, 1) := dq_h (dq_t (dq_t (dq_t (dq_t (dq_t (dq_t (dq_t dzX8_open_0)))))))
theorem dX8_open_14 : decode cX8_open 14 = .ok (.putfield 22, 3) := dq_h (dq_t (dq_t (dq_t (dq_t (dq_t (dq_t (dq_t (dq_t dzX8_open_0))))))))
theorem dX8_open_17 : decode cX8_open 17 = .ok (.aload_n 0, 1) := dq_h (dq_t (dq_t (dq_t (dq_t (dq_t (dq_t (dq_t (dq_t (dq_t dzX8_open_0)))))))))
theorem dX8_open_18 : decode cX8_open 18 = .ok (.invokevirtual 40, 3) := dq_h (dq_t (dq_t (dq_t (dq_t (dq_t (dq_t (dq_t (dq_t (dq_t (dq_t dzX8_open_0))))))))))
theorem dX8_open_21 : decode cX8_open 21 = .ok (.return_, 1) := dq_h (dq_t (dq_t (dq_t (dq_t (dq_t (dq_t (dq_t (dq_t (dq_t (dq_t (dq_t dzX8_open_0)))))))))))
theorem dzX8_advance_0 : dq_F cX8_advance [(0, .aload_n 0, 1), (1, .getfield 22, 3), (4, .aload_n 0, 1), (5, .getfield 19, 3), (8, .if_icmp .ge 31, 3), (11, .aload_n 0, 1), (12, .aload_n 0, 1), (13, .getfield 22, 3), (16, .invokevirtual 43, 3), (19, .invokestatic 47, 3), (22, .iconst 5, 1), (23, .if_icmp .ne 16, 3), (26, .aload_n 0, 1), (27, .dup, 1), (28, .getfield 22, 3), (31, .iconst 1, 1), (32, .iadd, 1), (33, .putfield 22, 3), (36, .goto (-36), 3), (39, .aload_n 0, 1), (40, .aload_n 0, 1), (41, .getfield 22, 3), (44, .putfield 28, 3), (47, .aload_n 0, 1)] := dq_s 24 0 (by decide +kernel)
theorem dX8_advance_0 : decode cX8_advance 0 = .ok (.aload_n 0, 1) := dq_h dzX8_advance_0
theorem dX8_advance_1 : decode cX8_advance 1 = .ok (.getfield 22, 3) := dq_h (dq_t dzX8_advance_0)
theorem dX8_advance_4 : decode cX8_advance 4 = .ok (.aload_n 0, 1) := dq_h (dq_t (dq_t dzX8_advance_0))
theorem dX8_advance_5 : decode cX8_advance 5 = .ok (.getfield 19, 3) := dq_h (dq_t (dq_t (dq_t dzX8_advance_0)))
theorem dX8_advance_8 : decode cX8_advance 8 = .ok (.if_icmp .ge 31, 3) := dq_h (dq_t (dq_t (dq_t (dq_t dzX8_advance_0))))
theorem dX8_advance_11 : decode cX8_advance 11 = .ok (.aload_n 0, 1) := dq_h (dq_t (dq_t (dq_t (dq_t (dq_t dzX8_advance_0)))))
theorem dX8_advance_12 : decode cX8_advance 12 = .ok (.aload_n 0, 1) := dq_h (dq_t (dq_t (dq_t (dq_t (dq_t (dq_t dzX8_advance_0))))))
theorem dX8_advance_13 : decode cX8_advance 13 = .ok (.getfield 22, 3) := dq_h (dq_t (dq_t (dq_t (dq_t (dq_t (dq_t (dq_t dzX8_advance_0)))))))
theorem dX8_advance_16 : decode cX8_advance 16 = .ok (.invokevirtual 43, 3) := dq_h (dq_t (dq_t (dq_t (dq_t (dq_t (dq_t (dq_t (dq_t dzX8_advance_0))))))))
theorem dX8_advance_19 : decode cX8_advance 19 = .ok (.invokestatic 47, 3) := dq_h (dq_t (dq_t (dq_t (dq_t (dq_t (dq_t (dq_t (dq_t (dq_t dzX8_advance_0)))))))))
theorem dX8_advance_22 : decode cX8_advance 22 = .ok (.iconst 5, 1) := dq_h (dq_t (dq_t (dq_t (dq_t (dq_t (dq_t (dq_t (dq_t (dq_t (dq_t dzX8_advance_0))))))))))
theorem dX8_advance_23 : decode cX8_advance 23 = .ok (.if_icmp .ne 16, 3) := dq_h (dq_t (dq_t (dq_t (dq_t (dq_t (dq_t (dq_t (dq_t (dq_t (dq_t (dq_t dzX8_advance_0)))))))))))
theorem dX8_advance_26 : decode cX8_advance 26 = .ok (.aload_n 0, 1) := dq_h (dq_t (dq_t (dq_t (dq_t (dq_t (dq_t (dq_t (dq_t (dq_t (dq_t (dq_t (dq_t dzX8_advance_0))))))))))))
theorem dX8_advance_27 : decode cX8_advance 27 = .ok (.dup, 1) := dq_h (dq_t (dq_t (dq_t (dq_t (dq_t (dq_t (dq_t (dq_t (dq_t (dq_t (dq_t (dq_t (dq_t dzX8_advance_0)))))))))))))
theorem dX8_advance_28 : decode cX8_advance 28 = .ok (.getfield 22, 3) := dq_h (dq_t (dq_t (dq_t (dq_t (dq_t (dq_t (dq_t (dq_t (dq_t (dq_t (dq_t (dq_t (dq_t (dq_t dzX8_advance_0))))))))))))))
theorem dX8_advance_31 : decode cX8_advance 31 = .ok (.iconst 1, 1) := dq_h (dq_t (dq_t (dq_t (dq_t (dq_t (dq_t (dq_t (dq_t (dq_t (dq_t (dq_t (dq_t (dq_t (dq_t (dq_t dzX8_advance_0)))))))))))))))
theorem dX8_advance_32 : decode cX8_advance 32 = .ok (.iadd, 1) := dq_h (dq_t (dq_t (dq_t (dq_t (dq_t (dq_t (dq_t (dq_t (dq_t (dq_t (dq_t (dq_t (dq_t (dq_t (dq_t (dq_t dzX8_advance_0))))))))))))))))
theorem dX8_advance_33 : decode cX8_advance 33 = .ok (.putfield 22, 3) := dq_h (dq_t (dq_t (dq_t (dq_t (dq_t (dq_t (dq_t (dq_t (dq_t (dq_t (dq_t (dq_t (dq_t (dq_t (dq_t (dq_t (dq_t dzX8_advance_0)))))))))))))))))
theorem dX8_advance_36 : decode cX8_advance 36 = .ok (.goto (-36), 3) := dq_h (dq_t (dq_t (dq_t (dq_t (dq_t (dq_t (dq_t (dq_t (dq_t (dq_t (dq_t (dq_t (dq_t (dq_t (dq_t (dq_t (dq_t (dq_t dzX8_advance_0))))))))))))))))))
theorem dX8_advance_39 : decode cX8_advance 39 = .ok (.aload_n 0, 1) := dq_h (dq_t (dq_t (dq_t (dq_t (dq_t (dq_t (dq_t (dq_t (dq_t (dq_t (dq_t (dq_t (dq_t (dq_t (dq_t (dq_t (dq_t (dq_t (dq_t dzX8_advance_0)))))))))))))))))))
theorem dX8_advance_40 : decode cX8_advance 40 = .ok (.aload_n 0, 1) := dq_h (dq_t (dq_t (dq_t (dq_t (dq_t (dq_t (dq_t (dq_t (dq_t (dq_t (dq_t (dq_t (dq_t (dq_t (dq_t (dq_t (dq_t (dq_t (dq_t (dq_t dzX8_advance_0))))))))))))))))))))
theorem dX8_advance_41 : decode cX8_advance 41 = .ok (.getfield 22, 3) := dq_h (dq_t (dq_t (dq_t (dq_t (dq_t (dq_t (dq_t (dq_t (dq_t (dq_t (dq_t (dq_t (dq_t (dq_t (dq_t (dq_t (dq_t (dq_t (dq_t (dq_t (dq_t dzX8_advance_0)))))))))))))))))))))
theorem dX8_advance_44 : decode cX8_advance 44 = .ok (.putfield 28, 3) := dq_h (dq_t (dq_t (dq_t (dq_t (dq_t (dq_t (dq_t (dq_t (dq_t (dq_t (dq_t (dq_t (dq_t (dq_t (dq_t (dq_t (dq_t (dq_t (dq_t (dq_t (dq_t (dq_t dzX8_advance_0))))))))))))))))))))))
theorem dX8_advance_47 : decode cX8_advance 47 = .ok (.aload_n 0, 1) := dq_h (dq_t (dq_t (dq_t (dq_t (dq_t (dq_t (dq_t (dq_t (dq_t (dq_t (dq_t (dq_t (dq_t (dq_t (dq_t (dq_t (dq_t (dq_t (dq_t (dq_t (dq_t (dq_t (dq_t dzX8_advance_0)))))))))))))))))))))))
theorem dzX8_advance_48 : dq_F cX8_advance [(48, .aload_n 0, 1), (49, .getfield 22, 3), (52, .aload_n 0, 1), (53, .getfield 19, 3), (56, .if_icmp .ge 17, 3), (59, .aload_n 0, 1), (60, .aload_n 0, 1), (61, .getfield 22, 3), (64, .invokevirtual 43, 3), (67, .invokestatic 47, 3), (70, .goto 4, 3), (73, .iconst 0, 1), (74, .putfield 25, 3), (77, .aload_n 0, 1), (78, .getfield 25, 3), (81, .iconst 1, 1), (82, .if_icmp .eq 11, 3), (85, .aload_n 0, 1), (86, .getfield 25, 3), (89, .iconst 2, 1), (90, .if_icmp .ne 7, 3), (93, .iconst 1, 1), (94, .goto 4, 3), (97, .iconst 0, 1)] := dq_s 24 48 (by decide +kernel)
theorem dX8_advance_48 : decode cX8_advance 48 = .ok (.aload_n 0, 1) := dq_h dzX8_advance_48
theorem dX8_advance_49 : decode cX8_advance 49 = .ok (.getfield 22, 3) := dq_h (dq_t dzX8_advance_48)
theorem dX8_advance_52 : decode cX8_advance 52 = .ok (.aload_n 0, 1) := dq_h (dq_t (dq_t dzX8_advance_48))
theorem dX8_advance_53 : decode cX8_advance 53 = .ok (.getfield 19, 3) := dq_h (dq_t (dq_t (dq_t dzX8_advance_48)))
theorem dX8_advance_56 : decode cX8_advance 56 = .ok (.if_icmp .ge 17, 3) := dq_h (dq_t (dq_t (dq_t (dq_t dzX8_advance_48))))
theorem dX8_advance_59 : decode cX8_advance 59 = .ok (.aload_n 0, 1) := dq_h (dq_t (dq_t (dq_t (dq_t (dq_t dzX8_advance_48)))))
theorem dX8_advance_60 : decode cX8_advance 60 = .ok (.aload_n 0, 1) := dq_h (dq_t (dq_t (dq_t (dq_t (dq_t (dq_t dzX8_advance_48))))))
theorem dX8_advance_61 : decode cX8_advance 61 = .ok (.getfield 22, 3) := dq_h (dq_t (dq_t (dq_t (dq_t (dq_t (dq_t (dq_t dzX8_advance_48)))))))
theorem dX8_advance_64 : decode cX8_advance 64 = .ok (.invokevirtual 43, 3) := dq_h (dq_t (dq_t (dq_t (dq_t (dq_t (dq_t (dq_t (dq_t dzX8_advance_48))))))))
theorem dX8_advance_67 : decode cX8_advance 67 = .ok (.invokestatic 47, 3) := dq_h (dq_t (dq_t (dq_t (dq_t (dq_t (dq_t (dq_t (dq_t (dq_t dzX8_advance_48)))))))))
theorem dX8_advance_70 : decode cX8_advance 70 = .ok (.goto 4, 3) := dq_h (dq_t (dq_t (dq_t (dq_t (dq_t (dq_t (dq_t (dq_t (dq_t (dq_t dzX8_advance_48))))))))))
theorem dX8_advance_73 : decode cX8_advance 73 = .ok (.iconst 0, 1) := dq_h (dq_t (dq_t (dq_t (dq_t (dq_t (dq_t (dq_t (dq_t (dq_t (dq_t (dq_t dzX8_advance_48)))))))))))
theorem dX8_advance_74 : decode cX8_advance 74 = .ok (.putfield 25, 3) := dq_h (dq_t (dq_t (dq_t (dq_t (dq_t (dq_t (dq_t (dq_t (dq_t (dq_t (dq_t (dq_t dzX8_advance_48))))))))))))
theorem dX8_advance_77 : decode cX8_advance 77 = .ok (.aload_n 0, 1) := dq_h (dq_t (dq_t (dq_t (dq_t (dq_t (dq_t (dq_t (dq_t (dq_t (dq_t (dq_t (dq_t (dq_t dzX8_advance_48)))))))))))))
theorem dX8_advance_78 : decode cX8_advance 78 = .ok (.getfield 25, 3) := dq_h (dq_t (dq_t (dq_t (dq_t (dq_t (dq_t (dq_t (dq_t (dq_t (dq_t (dq_t (dq_t (dq_t (dq_t dzX8_advance_48))))))))))))))
theorem dX8_advance_81 : decode cX8_advance 81 = .ok (.iconst 1, 1) := dq_h (dq_t (dq_t (dq_t (dq_t (dq_t (dq_t (dq_t (dq_t (dq_t (dq_t (dq_t (dq_t (dq_t (dq_t (dq_t dzX8_advance_48)))))))))))))))
theorem dX8_advance_82 : decode cX8_advance 82 = .ok (.if_icmp .eq 11, 3) := dq_h (dq_t (dq_t (dq_t (dq_t (dq_t (dq_t (dq_t (dq_t (dq_t (dq_t (dq_t (dq_t (dq_t (dq_t (dq_t (dq_t dzX8_advance_48))))))))))))))))
theorem dX8_advance_85 : decode cX8_advance 85 = .ok (.aload_n 0, 1) := dq_h (dq_t (dq_t (dq_t (dq_t (dq_t (dq_t (dq_t (dq_t (dq_t (dq_t (dq_t (dq_t (dq_t (dq_t (dq_t (dq_t (dq_t dzX8_advance_48)))))))))))))))))
theorem dX8_advance_86 : decode cX8_advance 86 = .ok (.getfield 25, 3) := dq_h (dq_t (dq_t (dq_t (dq_t (dq_t (dq_t (dq_t (dq_t (dq_t (dq_t (dq_t (dq_t (dq_t (dq_t (dq_t (dq_t (dq_t (dq_t dzX8_advance_48))))))))))))))))))
theorem dX8_advance_89 : decode cX8_advance 89 = .ok (.iconst 2, 1) := dq_h (dq_t (dq_t (dq_t (dq_t (dq_t (dq_t (dq_t (dq_t (dq_t (dq_t (dq_t (dq_t (dq_t (dq_t (dq_t (dq_t (dq_t (dq_t (dq_t dzX8_advance_48)))))))))))))))))))
theorem dX8_advance_90 : decode cX8_advance 90 = .ok (.if_icmp .ne 7, 3) := dq_h (dq_t (dq_t (dq_t (dq_t (dq_t (dq_t (dq_t (dq_t (dq_t (dq_t (dq_t (dq_t (dq_t (dq_t (dq_t (dq_t (dq_t (dq_t (dq_t (dq_t dzX8_advance_48))))))))))))))))))))
theorem dX8_advance_93 : decode cX8_advance 93 = .ok (.iconst 1, 1) := dq_h (dq_t (dq_t (dq_t (dq_t (dq_t (dq_t (dq_t (dq_t (dq_t (dq_t (dq_t (dq_t (dq_t (dq_t (dq_t (dq_t (dq_t (dq_t (dq_t (dq_t (dq_t dzX8_advance_48)))))))))))))))))))))
theorem dX8_advance_94 : decode cX8_advance 94 = .ok (.goto 4, 3) := dq_h (dq_t (dq_t (dq_t (dq_t (dq_t (dq_t (dq_t (dq_t (dq_t (dq_t (dq_t (dq_t (dq_t (dq_t (dq_t (dq_t (dq_t (dq_t (dq_t (dq_t (dq_t (dq_t dzX8_advance_48))))))))))))))))))))))
theorem dX8_advance_97 : decode cX8_advance 97 = .ok (.iconst 0, 1) := dq_h (dq_t (dq_t (dq_t (dq_t (dq_t (dq_t (dq_t (dq_t (dq_t (dq_t (dq_t (dq_t (dq_t (dq_t (dq_t (dq_t (dq_t (dq_t (dq_t (dq_t (dq_t (dq_t (dq_t dzX8_advance_48)))))))))))))))))))))))
theorem dzX8_advance_98 : dq_F cX8_advance [(98, .istore_n 1, 1), (99, .aload_n 0, 1), (100, .iconst 0, 1), (101, .putfield 31, 3), (104, .aload_n 0, 1), (105, .getfield 22, 3), (108, .aload_n 0, 1), (109, .getfield 19, 3), (112, .if_icmp .ge 78, 3), (115, .aload_n 0, 1), (116, .getfield 22, 3), (119, .aload_n 0, 1), (120, .getfield 28, 3), (123, .if_icmp .eq 25, 3), (126, .iload_n 1, 1), (127, .ifCond .eq 63, 3), (130, .aload_n 0, 1), (131, .aload_n 0, 1), (132, .getfield 22, 3), (135, .invokevirtual 43, 3), (138, .invokestatic 47, 3), (141, .aload_n 0, 1), (142, .getfield 25, 3), (145, .if_icmp .ne 45, 3)] := dq_s 24 98 (by decide +kernel)
theorem dX8_advance_98 : decode cX8_advance 98 = .ok (.istore_n 1, 1) := dq_h dzX8_advance_98
theorem dX8_advance_99 : decode cX8_advance 99 = .ok (.aload_n 0, 1) := dq_h (dq_t dzX8_advance_98)
theorem dX8_advance_100 : decode cX8_advance 100 = .ok (.iconst 0, 1) := dq_h (dq_t (dq_t dzX8_advance_98))
theorem dX8_advance_101 : decode cX8_advance 101 = .ok (.putfield 31, 3) := dq_h (dq_t (dq_t (dq_t dzX8_advance_98)))
theorem dX8_advance_104 : decode cX8_advance 104 = .ok (.aload_n 0, 1) := dq_h (dq_t (dq_t (dq_t (dq_t dzX8_advance_98))))
theorem dX8_advance_105 : decode cX8_advance 105 = .ok (.getfield 22, 3) := dq_h (dq_t (dq_t (dq_t (dq_t (dq_t dzX8_advance_98)))))
theorem dX8_advance_108 : decode cX8_advance 108 = .ok (.aload_n 0, 1) := dq_h (dq_t (dq_t (dq_t (dq_t (dq_t (dq_t dzX8_advance_98))))))
theorem dX8_advance_109 : decode cX8_advance 109 = .ok (.getfield 19, 3) := dq_h (dq_t (dq_t (dq_t (dq_t (dq_t (dq_t (dq_t dzX8_advance_98)))))))
theorem dX8_advance_112 : decode cX8_advance 112 = .ok (.if_icmp .ge 78, 3) := dq_h (dq_t (dq_t (dq_t (dq_t (dq_t (dq_t (dq_t (dq_t dzX8_advance_98))))))))
theorem dX8_advance_115 : decode cX8_advance 115 = .ok (.aload_n 0, 1) := dq_h (dq_t (dq_t (dq_t (dq_t (dq_t (dq_t (dq_t (dq_t (dq_t dzX8_advance_98)))))))))
theorem dX8_advance_116 : decode cX8_advance 116 = .ok (.getfield 22, 3) := dq_h (dq_t (dq_t (dq_t (dq_t (dq_t (dq_t (dq_t (dq_t (dq_t (dq_t dzX8_advance_98))))))))))
theorem dX8_advance_119 : decode cX8_advance 119 = .ok (.aload_n 0, 1) := dq_h (dq_t (dq_t (dq_t (dq_t (dq_t (dq_t (dq_t (dq_t (dq_t (dq_t (dq_t dzX8_advance_98)))))))))))
theorem dX8_advance_120 : decode cX8_advance 120 = .ok (.getfield 28, 3) := dq_h (dq_t (dq_t (dq_t (dq_t (dq_t (dq_t (dq_t (dq_t (dq_t (dq_t (dq_t (dq_t dzX8_advance_98))))))))))))
theorem dX8_advance_123 : decode cX8_advance 123 = .ok (.if_icmp .eq 25, 3) := dq_h (dq_t (dq_t (dq_t (dq_t (dq_t (dq_t (dq_t (dq_t (dq_t (dq_t (dq_t (dq_t (dq_t dzX8_advance_98)))))))))))))
theorem dX8_advance_126 : decode cX8_advance 126 = .ok (.iload_n 1, 1) := dq_h (dq_t (dq_t (dq_t (dq_t (dq_t (dq_t (dq_t (dq_t (dq_t (dq_t (dq_t (dq_t (dq_t (dq_t dzX8_advance_98))))))))))))))
theorem dX8_advance_127 : decode cX8_advance 127 = .ok (.ifCond .eq 63, 3) := dq_h (dq_t (dq_t (dq_t (dq_t (dq_t (dq_t (dq_t (dq_t (dq_t (dq_t (dq_t (dq_t (dq_t (dq_t (dq_t dzX8_advance_98)))))))))))))))
theorem dX8_advance_130 : decode cX8_advance 130 = .ok (.aload_n 0, 1) := dq_h (dq_t (dq_t (dq_t (dq_t (dq_t (dq_t (dq_t (dq_t (dq_t (dq_t (dq_t (dq_t (dq_t (dq_t (dq_t (dq_t dzX8_advance_98))))))))))))))))
theorem dX8_advance_131 : decode cX8_advance 131 = .ok (.aload_n 0, 1) := dq_h (dq_t (dq_t (dq_t (dq_t (dq_t (dq_t (dq_t (dq_t (dq_t (dq_t (dq_t (dq_t (dq_t (dq_t (dq_t (dq_t (dq_t dzX8_advance_98)))))))))))))))))
theorem dX8_advance_132 : decode cX8_advance 132 = .ok (.getfield 22, 3) := dq_h (dq_t (dq_t (dq_t (dq_t (dq_t (dq_t (dq_t (dq_t (dq_t (dq_t (dq_t (dq_t (dq_t (dq_t (dq_t (dq_t (dq_t (dq_t dzX8_advance_98))))))))))))))))))
theorem dX8_advance_135 : decode cX8_advance 135 = .ok (.invokevirtual 43, 3) := dq_h (dq_t (dq_t (dq_t (dq_t (dq_t (dq_t (dq_t (dq_t (dq_t (dq_t (dq_t (dq_t (dq_t (dq_t (dq_t (dq_t (dq_t (dq_t (dq_t dzX8_advance_98)))))))))))))))))))
theorem dX8_advance_138 : decode cX8_advance 138 = .ok (.invokestatic 47, 3) := dq_h (dq_t (dq_t (dq_t (dq_t (dq_t (dq_t (dq_t (dq_t (dq_t (dq_t (dq_t (dq_t (dq_t (dq_t (dq_t (dq_t (dq_t (dq_t (dq_t (dq_t dzX8_advance_98))))))))))))))))))))
theorem dX8_advance_141 : decode cX8_advance 141 = .ok (.aload_n 0, 1) := dq_h (dq_t (dq_t (dq_t (dq_t (dq_t (dq_t (dq_t (dq_t (dq_t (dq_t (dq_t (dq_t (dq_t (dq_t (dq_t (dq_t (dq_t (dq_t (dq_t (dq_t (dq_t dzX8_advance_98)))))))))))))))))))))
theorem dX8_advance_142 : decode cX8_advance 142 = .ok (.getfield 25, 3) := dq_h (dq_t (dq_t (dq_t (dq_t (dq_t (dq_t (dq_t (dq_t (dq_t (dq_t (dq_t (dq_t (dq_t (dq_t (dq_t (dq_t (dq_t (dq_t (dq_t (dq_t (dq_t (dq_t dzX8_advance_98))))))))))))))))))))))
theorem dX8_advance_145 : decode cX8_advance 145 = .ok (.if_icmp .ne 45, 3) := dq_h (dq_t (dq_t (dq_t (dq_t (dq_t (dq_t (dq_t (dq_t (dq_t (dq_t (dq_t (dq_t (dq_t (dq_t (dq_t (dq_t (dq_t (dq_t (dq_t (dq_t (dq_t (dq_t (dq_t dzX8_advance_98)))))))))))))))))))))))
theorem dzX8_advance_148 : dq_F cX8_advance [(148, .aload_n 0, 1), (149, .sipush 9999, 3), (152, .aload_n 0, 1), (153, .getfield 31, 3), (156, .invokestatic 34, 3), (159, .bipush 10, 2), (161, .imul, 1), (162, .aload_n 0, 1), (163, .aload_n 0, 1), (164, .getfield 22, 3), (167, .invokevirtual 43, 3), (170, .iadd, 1), (171, .bipush 48, 2), (173, .isub, 1), (174, .putfield 31, 3), (177, .aload_n 0, 1), (178, .dup, 1), (179, .getfield 22, 3), (182, .iconst 1, 1), (183, .iadd, 1), (184, .putfield 22, 3), (187, .goto (-83), 3), (190, .aload_n 0, 1), (191, .getfield 22, 3)] := dq_s 24 148 (by decide +kernel)
theorem dX8_advance_148 : decode cX8_advance 148 = .ok (.aload_n 0, 1) := dq_h dzX8_advance_148
theorem dX8_advance_149 : decode cX8_advance 149 = .ok (.sipush 9999, 3) := dq_h (dq_t dzX8_advance_148)
theorem dX8_advance_152 : decode cX8_advance 152 = .ok (.aload_n 0, 1) := dq_h (dq_t (dq_t dzX8_advance_148))
theorem dX8_advance_153 : decode cX8_advance 153 = .ok (.getfield 31, 3) := dq_h (dq_t (dq_t (dq_t dzX8_advance_148)))
theorem dX8_advance_156 : decode cX8_advance 156 = .ok (.invokestatic 34, 3) := dq_h (dq_t (dq_t (dq_t (dq_t dzX8_advance_148))))
theorem dX8_advance_159 : decode cX8_advance 159 = .ok (.bipush 10, 2) := dq_h (dq_t (dq_t (dq_t (dq_t (dq_t dzX8_advance_148)))))
theorem dX8_advance_161 : decode cX8_advance 161 = .ok (.imul, 1) := dq_h (dq_t (dq_t (dq_t (dq_t (dq_t (dq_t dzX8_advance_148))))))
theorem dX8_advance_162 : decode cX8_advance 162 = .ok (.aload_n 0, 1) := dq_h (dq_t (dq_t (dq_t (dq_t (dq_t (dq_t (dq_t dzX8_advance_148)))))))
theorem dX8_advance_163 : decode cX8_advance 163 = .ok (.aload_n 0, 1) := dq_h (dq_t (dq_t (dq_t (dq_t (dq_t (dq_t (dq_t (dq_t dzX8_advance_148))))))))
theorem dX8_advance_164 : decode cX8_advance 164 = .ok (.getfield 22, 3) := dq_h (dq_t (dq_t (dq_t (dq_t (dq_t (dq_t (dq_t (dq_t (dq_t dzX8_advance_148)))))))))
theorem dX8_advance_167 : decode cX8_advance 167 = .ok (.invokevirtual 43, 3) := dq_h (dq_t (dq_t (dq_t (dq_t (dq_t (dq_t (dq_t (dq_t (dq_t (dq_t dzX8_advance_148))))))))))
theorem dX8_advance_170 : decode cX8_advance 170 = .ok (.iadd, 1) := dq_h (dq_t (dq_t (dq_t (dq_t (dq_t (dq_t (dq_t (dq_t (dq_t (dq_t (dq_t dzX8_advance_148)))))))))))
theorem dX8_advance_171 : decode cX8_advance 171 = .ok (.bipush 48, 2) := dq_h (dq_t (dq_t (dq_t (dq_t (dq_t (dq_t (dq_t (dq_t (dq_t (dq_t (dq_t (dq_t dzX8_advance_148))))))))))))
theorem dX8_advance_173 : decode cX8_advance 173 = .ok (.isub, 1) := dq_h (dq_t (dq_t (dq_t (dq_t (dq_t (dq_t (dq_t (dq_t (dq_t (dq_t (dq_t (dq_t (dq_t dzX8_advance_148)))))))))))))
theorem dX8_advance_174 : decode cX8_advance 174 = .ok (.putfield 31, 3) := dq_h (dq_t (dq_t (dq_t (dq_t (dq_t (dq_t (dq_t (dq_t (dq_t (dq_t (dq_t (dq_t (dq_t (dq_t dzX8_advance_148))))))))))))))
theorem dX8_advance_177 : decode cX8_advance 177 = .ok (.aload_n 0, 1) := dq_h (dq_t (dq_t (dq_t (dq_t (dq_t (dq_t (dq_t (dq_t (dq_t (dq_t (dq_t (dq_t (dq_t (dq_t (dq_t dzX8_advance_148)))))))))))))))
theorem dX8_advance_178 : decode cX8_advance 178 = .ok (.dup, 1) := dq_h (dq_t (dq_t (dq_t (dq_t (dq_t (dq_t (dq_t (dq_t (dq_t (dq_t (dq_t (dq_t (dq_t (dq_t (dq_t (dq_t dzX8_advance_148))))))))))))))))
theorem dX8_advance_179 : decode cX8_advance 179 = .ok (.getfield 22, 3) := dq_h (dq_t (dq_t (dq_t (dq_t (dq_t (dq_t (dq_t (dq_t (dq_t (dq_t (dq_t (dq_t (dq_t (dq_t (dq_t (dq_t (dq_t dzX8_advance_148)))))))))))))))))
theorem dX8_advance_182 : decode cX8_advance 182 = .ok (.iconst 1, 1) := dq_h (dq_t (dq_t (dq_t (dq_t (dq_t (dq_t (dq_t (dq_t (dq_t (dq_t (dq_t (dq_t (dq_t (dq_t (dq_t (dq_t (dq_t (dq_t dzX8_advance_148))))))))))))))))))
theorem dX8_advance_183 : decode cX8_advance 183 = .ok (.iadd, 1) := dq_h (dq_t (dq_t (dq_t (dq_t (dq_t (dq_t (dq_t (dq_t (dq_t (dq_t (dq_t (dq_t (dq_t (dq_t (dq_t (dq_t (dq_t (dq_t (dq_t dzX8_advance_148)))))))))))))))))))
theorem dX8_advance_184 : decode cX8_advance 184 = .ok (.putfield 22, 3) := dq_h (dq_t (dq_t (dq_t (dq_t (dq_t (dq_t (dq_t (dq_t (dq_t (dq_t (dq_t (dq_t (dq_t (dq_t (dq_t (dq_t (dq_t (dq_t (dq_t (dq_t dzX8_advance_148))))))))))))))))))))
theorem dX8_advance_187 : decode cX8_advance 187 = .ok (.goto (-83), 3) := dq_h (dq_t (dq_t (dq_t (dq_t (dq_t (dq_t (dq_t (dq_t (dq_t (dq_t (dq_t (dq_t (dq_t (dq_t (dq_t (dq_t (dq_t (dq_t (dq_t (dq_t (dq_t dzX8_advance_148)))))))))))))))))))))
theorem dX8_advance_190 : decode cX8_advance 190 = .ok (.aload_n 0, 1) := dq_h (dq_t (dq_t (dq_t (dq_t (dq_t (dq_t (dq_t (dq_t (dq_t (dq_t (dq_t (dq_t (dq_t (dq_t (dq_t (dq_t (dq_t (dq_t (dq_t (dq_t (dq_t (dq_t dzX8_advance_148))))))))))))))))))))))
theorem dX8_advance_191 : decode cX8_advance 191 = .ok (.getfield 22, 3) := dq_h (dq_t (dq_t (dq_t (dq_t (dq_t (dq_t (dq_t (dq_t (dq_t (dq_t (dq_t (dq_t (dq_t (dq_t (dq_t (dq_t (dq_t (dq_t (dq_t (dq_t (dq_t (dq_t (dq_t dzX8_advance_148)))))))))))))))))))))))
theorem dzX8_advance_194 : dq_F cX8_advance [(194, .aload_n 0, 1), (195, .getfield 28, 3), (198, .isub, 1), (199, .iconst 4, 1), (200, .if_icmp .le 10, 3), (203, .aload_n 0, 1), (204, .sipush 10000, 3), (207, .putfield 31, 3), (210, .return_, 1)] := dq_s 9 194 (by decide +kernel)
theorem dX8_advance_194 : decode cX8_advance 194 = .ok (.aload_n 0, 1) := dq_h dzX8_advance_194
theorem dX8_advance_195 : decode cX8_advance 195 = .ok (.getfield 28, 3) := dq_h (dq_t dzX8_advance_194)
theorem dX8_advance_198 : decode cX8_advance 198 = .ok (.isub, 1) := dq_h (dq_t (dq_t dzX8_advance_194))
theorem dX8_advance_199 : decode cX8_advance 199 = .ok (.iconst 4, 1) := dq_h (dq_t (dq_t (dq_t dzX8_advance_194)))
theorem dX8_advance_200 : decode cX8_advance 200 = .ok (.if_icmp .le 10, 3) := dq_h (dq_t (dq_t (dq_t (dq_t dzX8_advance_194))))
theorem dX8_advance_203 : decode cX8_advance 203 = .ok (.aload_n 0, 1) := dq_h (dq_t (dq_t (dq_t (dq_t (dq_t dzX8_advance_194)))))
theorem dX8_advance_204 : decode cX8_advance 204 = .ok (.sipush 10000, 3) := dq_h (dq_t (dq_t (dq_t (dq_t (dq_t (dq_t dzX8_advance_194))))))
theorem dX8_advance_207 : decode cX8_advance 207 = .ok (.putfield 31, 3) := dq_h (dq_t (dq_t (dq_t (dq_t (dq_t (dq_t (dq_t dzX8_advance_194)))))))
theorem dX8_advance_210 : decode cX8_advance 210 = .ok (.return_, 1) := dq_h (dq_t (dq_t (dq_t (dq_t (dq_t (dq_t (dq_t (dq_t dzX8_advance_194))))))))
theorem dzX8_isAtWord_0 : dq_F cX8_isAtWord [(0, .aload_n 0, 1), (1, .getfield 25, 3), (4, .iconst 1, 1), (5, .if_icmp .ne 19, 3), (8, .aload_n 0, 1), (9, .getfield 22, 3), (12, .aload_n 0, 1), (13, .getfield 28, 3), (16, .isub, 1), (17, .aload_n 1, 1), (18, .invokevirtual 50, 3), (21, .if_icmp .eq 5, 3), (24, .iconst 0, 1), (25, .ireturn, 1), (26, .iconst 0, 1), (27, .istore_n 2, 1), (28, .iload_n 2, 1), (29, .aload_n 1, 1), (30, .invokevirtual 50, 3), (33, .if_icmp .ge 29, 3), (36, .aload_n 0, 1), (37, .aload_n 0, 1), (38, .getfield 28, 3), (41, .iload_n 2, 1)] := dq_s 24 0 (by decide +kernel)
theorem dX8_isAtWord_0 : decode cX8_isAtWord 0 = .ok (.aload_n 0, 1) := dq_h dzX8_isAtWord_0
theorem dX8_isAtWord_1 : decode cX8_isAtWord 1 = .ok (.getfield 25, 3) := dq_h (dq_t dzX8_isAtWord_0)
theorem dX8_isAtWord_4 : decode cX8_isAtWord 4 = .ok (.iconst 1, 1) := dq_h (dq_t (dq_t dzX8_isAtWord_0))
theorem dX8_isAtWord_5 : decode cX8_isAtWord 5 = .ok (.if_icmp .ne 19, 3) := dq_h (dq_t (dq_t (dq_t dzX8_isAtWord_0)))
theorem dX8_isAtWord_8 : decode cX8_isAtWord 8 = .ok (.aload_n 0, 1) := dq_h (dq_t (dq_t (dq_t (dq_t dzX8_isAtWord_0))))
theorem dX8_isAtWord_9 : decode cX8_isAtWord 9 = .ok (.getfield 22, 3) := dq_h (dq_t (dq_t (dq_t (dq_t (dq_t dzX8_isAtWord_0)))))
theorem dX8_isAtWord_12 : decode cX8_isAtWord 12 = .ok (.aload_n 0, 1) := dq_h (dq_t (dq_t (dq_t (dq_t (dq_t (dq_t dzX8_isAtWord_0))))))
theorem dX8_isAtWord_13 : decode cX8_isAtWord 13 = .ok (.getfield 28, 3) := dq_h (dq_t (dq_t (dq_t (dq_t (dq_t (dq_t (dq_t dzX8_isAtWord_0)))))))
theorem dX8_isAtWord_16 : decode cX8_isAtWord 16 = .ok (.isub, 1) := dq_h (dq_t (dq_t (dq_t (dq_t (dq_t (dq_t (dq_t (dq_t dzX8_isAtWord_0))))))))
theorem dX8_isAtWord_17 : decode cX8_isAtWord 17 = .ok (.aload_n 1, 1) := dq_h (dq_t (dq_t (dq_t (dq_t (dq_t (dq_t (dq_t (dq_t (dq_t dzX8_isAtWord_0)))))))))
theorem dX8_isAtWord_18 : decode cX8_isAtWord 18 = .ok (.invokevirtual 50, 3) := dq_h (dq_t (dq_t (dq_t (dq_t (dq_t (dq_t (dq_t (dq_t (dq_t (dq_t dzX8_isAtWord_0))))))))))
theorem dX8_isAtWord_21 : decode cX8_isAtWord 21 = .ok (.if_icmp .eq 5, 3) := dq_h (dq_t (dq_t (dq_t (dq_t (dq_t (dq_t (dq_t (dq_t (dq_t (dq_t (dq_t dzX8_isAtWord_0)))))))))))
theorem dX8_isAtWord_24 : decode cX8_isAtWord 24 = .ok (.iconst 0, 1) := dq_h (dq_t (dq_t (dq_t (dq_t (dq_t (dq_t (dq_t (dq_t (dq_t (dq_t (dq_t (dq_t dzX8_isAtWord_0))))))))))))
theorem dX8_isAtWord_25 : decode cX8_isAtWord 25 = .ok (.ireturn, 1) := dq_h (dq_t (dq_t (dq_t (dq_t (dq_t (dq_t (dq_t (dq_t (dq_t (dq_t (dq_t (dq_t (dq_t dzX8_isAtWord_0)))))))))))))
theorem dX8_isAtWord_26 : decode cX8_isAtWord 26 = .ok (.iconst 0, 1) := dq_h (dq_t (dq_t (dq_t (dq_t (dq_t (dq_t (dq_t (dq_t (dq_t (dq_t (dq_t (dq_t (dq_t (dq_t dzX8_isAtWord_0))))))))))))))
theorem dX8_isAtWord_27 : decode cX8_isAtWord 27 = .ok (.istore_n 2, 1) := dq_h (dq_t (dq_t (dq_t (dq_t (dq_t (dq_t (dq_t (dq_t (dq_t (dq_t (dq_t (dq_t (dq_t (dq_t (dq_t dzX8_isAtWord_0)))))))))))))))
theorem dX8_isAtWord_28 : decode cX8_isAtWord 28 = .ok (.iload_n 2, 1) := dq_h (dq_t (dq_t (dq_t (dq_t (dq_t (dq_t (dq_t (dq_t (dq_t (dq_t (dq_t (dq_t (dq_t (dq_t (dq_t (dq_t dzX8_isAtWord_0))))))))))))))))
theorem dX8_isAtWord_29 : decode cX8_isAtWord 29 = .ok (.aload_n 1, 1) := dq_h (dq_t (dq_t (dq_t (dq_t (dq_t (dq_t (dq_t (dq_t (dq_t (dq_t (dq_t (dq_t (dq_t (dq_t (dq_t (dq_t (dq_t dzX8_isAtWord_0)))))))))))))))))
theorem dX8_isAtWord_30 : decode cX8_isAtWord 30 = .ok (.invokevirtual 50, 3) := dq_h (dq_t (dq_t (dq_t (dq_t (dq_t (dq_t (dq_t (dq_t (dq_t (dq_t (dq_t (dq_t (dq_t (dq_t (dq_t (dq_t (dq_t (dq_t dzX8_isAtWord_0))))))))))))))))))
theorem dX8_isAtWord_33 : decode cX8_isAtWord 33 = .ok (.if_icmp .ge 29, 3) := dq_h (dq_t (dq_t (dq_t (dq_t (dq_t (dq_t (dq_t (dq_t (dq_t (dq_t (dq_t (dq_t (dq_t (dq_t (dq_t (dq_t (dq_t (dq_t (dq_t dzX8_isAtWord_0)))))))))))))))))))
theorem dX8_isAtWord_36 : decode cX8_isAtWord 36 = .ok (.aload_n 0, 1) := dq_h (dq_t (dq_t (dq_t (dq_t (dq_t (dq_t (dq_t (dq_t (dq_t (dq_t (dq_t (dq_t (dq_t (dq_t (dq_t (dq_t (dq_t (dq_t (dq_t (dq_t dzX8_isAtWord_0))))))))))))))))))))
theorem dX8_isAtWord_37 : decode cX8_isAtWord 37 = .ok (.aload_n 0, 1) := dq_h (dq_t (dq_t (dq_t (dq_t (dq_t (dq_t (dq_t (dq_t (dq_t (dq_t (dq_t (dq_t (dq_t (dq_t (dq_t (dq_t (dq_t (dq_t (dq_t (dq_t (dq_t dzX8_isAtWord_0)))))))))))))))))))))
theorem dX8_isAtWord_38 : decode cX8_isAtWord 38 = .ok (.getfield 28, 3) := dq_h (dq_t (dq_t (dq_t (dq_t (dq_t (dq_t (dq_t (dq_t (dq_t (dq_t (dq_t (dq_t (dq_t (dq_t (dq_t (dq_t (dq_t (dq_t (dq_t (dq_t (dq_t (dq_t dzX8_isAtWord_0))))))))))))))))))))))
theorem dX8_isAtWord_41 : decode cX8_isAtWord 41 = .ok (.iload_n 2, 1) := dq_h (dq_t (dq_t (dq_t (dq_t (dq_t (dq_t (dq_t (dq_t (dq_t (dq_t (dq_t (dq_t (dq_t (dq_t (dq_t (dq_t (dq_t (dq_t (dq_t (dq_t (dq_t (dq_t (dq_t dzX8_isAtWord_0)))))))))))))))))))))))
theorem dzX8_isAtWord_42 : dq_F cX8_isAtWord [(42, .iadd, 1), (43, .invokevirtual 43, 3), (46, .aload_n 1, 1), (47, .iload_n 2, 1), (48, .invokevirtual 55, 3), (51, .if_icmp .eq 5, 3), (54, .iconst 0, 1), (55, .ireturn, 1), (56, .iinc 2 1, 3), (59, .goto (-31), 3), (62, .iconst 1, 1), (63, .ireturn, 1)] := dq_s 12 42 (by decide +kernel)
theorem dX8_isAtWord_42 : decode cX8_isAtWord 42 = .ok (.iadd, 1) := dq_h dzX8_isAtWord_42
theorem dX8_isAtWord_43 : decode cX8_isAtWord 43 = .ok (.invokevirtual 43, 3) := dq_h (dq_t dzX8_isAtWord_42)
theorem dX8_isAtWord_46 : decode cX8_isAtWord 46 = .ok (.aload_n 1, 1) := dq_h (dq_t (dq_t dzX8_isAtWord_42))
theorem dX8_isAtWord_47 : decode cX8_isAtWord 47 = .ok (.iload_n 2, 1) := dq_h (dq_t (dq_t (dq_t dzX8_isAtWord_42)))
theorem dX8_isAtWord_48 : decode cX8_isAtWord 48 = .ok (.invokevirtual 55, 3) := dq_h (dq_t (dq_t (dq_t (dq_t dzX8_isAtWord_42))))
theorem dX8_isAtWord_51 : decode cX8_isAtWord 51 = .ok (.if_icmp .eq 5, 3) := dq_h (dq_t (dq_t (dq_t (dq_t (dq_t dzX8_isAtWord_42)))))
theorem dX8_isAtWord_54 : decode cX8_isAtWord 54 = .ok (.iconst 0, 1) := dq_h (dq_t (dq_t (dq_t (dq_t (dq_t (dq_t dzX8_isAtWord_42))))))
theorem dX8_isAtWord_55 : decode cX8_isAtWord 55 = .ok (.ireturn, 1) := dq_h (dq_t (dq_t (dq_t (dq_t (dq_t (dq_t (dq_t dzX8_isAtWord_42)))))))
theorem dX8_isAtWord_56 : decode cX8_isAtWord 56 = .ok (.iinc 2 1, 3) := dq_h (dq_t (dq_t (dq_t (dq_t (dq_t (dq_t (dq_t (dq_t dzX8_isAtWord_42))))))))
theorem dX8_isAtWord_59 : decode cX8_isAtWord 59 = .ok (.goto (-31), 3) := dq_h (dq_t (dq_t (dq_t (dq_t (dq_t (dq_t (dq_t (dq_t (dq_t dzX8_isAtWord_42)))))))))
theorem dX8_isAtWord_62 : decode cX8_isAtWord 62 = .ok (.iconst 1, 1) := dq_h (dq_t (dq_t (dq_t (dq_t (dq_t (dq_t (dq_t (dq_t (dq_t (dq_t dzX8_isAtWord_42))))))))))
theorem dX8_isAtWord_63 : decode cX8_isAtWord 63 = .ok (.ireturn, 1) := dq_h (dq_t (dq_t (dq_t (dq_t (dq_t (dq_t (dq_t (dq_t (dq_t (dq_t (dq_t dzX8_isAtWord_42)))))))))))
theorem dzX8_isAtSign_0 : dq_F cX8_isAtSign [(0, .aload_n 0, 1), (1, .getfield 25, 3), (4, .iconst 3, 1), (5, .if_icmp .ne 19, 3), (8, .aload_n 0, 1), (9, .aload_n 0, 1), (10, .getfield 28, 3), (13, .invokevirtual 43, 3), (16, .iload_n 1, 1), (17, .if_icmp .ne 7, 3), (20, .iconst 1, 1), (21, .goto 4, 3), (24, .iconst 0, 1), (25, .ireturn, 1)] := dq_s 14 0 (by decide +kernel)
theorem dX8_isAtSign_0 : decode cX8_isAtSign 0 = .ok (.aload_n 0, 1) := dq_h dzX8_isAtSign_0
theorem dX8_isAtSign_1 : decode cX8_isAtSign 1 = .ok (.getfield 25, 3) := dq_h (dq_t dzX8_isAtSign_0)
theorem dX8_isAtSign_4 : decode cX8_isAtSign 4 = .ok (.iconst 3, 1) := dq_h (dq_t (dq_t dzX8_isAtSign_0))
theorem dX8_isAtSign_5 : decode cX8_isAtSign 5 = .ok (.if_icmp .ne 19, 3) := dq_h (dq_t (dq_t (dq_t dzX8_isAtSign_0)))
theorem dX8_isAtSign_8 : decode cX8_isAtSign 8 = .ok (.aload_n 0, 1) := dq_h (dq_t (dq_t (dq_t (dq_t dzX8_isAtSign_0))))
theorem dX8_isAtSign_9 : decode cX8_isAtSign 9 = .ok (.aload_n 0, 1) := dq_h (dq_t (dq_t (dq_t (dq_t (dq_t dzX8_isAtSign_0)))))
theorem dX8_isAtSign_10 : decode cX8_isAtSign 10 = .ok (.getfield 28, 3) := dq_h (dq_t (dq_t (dq_t (dq_t (dq_t (dq_t dzX8_isAtSign_0))))))
theorem dX8_isAtSign_13 : decode cX8_isAtSign 13 = .ok (.invokevirtual 43, 3) := dq_h (dq_t (dq_t (dq_t (dq_t (dq_t (dq_t (dq_t dzX8_isAtSign_0)))))))
theorem dX8_isAtSign_16 : decode cX8_isAtSign 16 = .ok (.iload_n 1, 1) := dq_h (dq_t (dq_t (dq_t (dq_t (dq_t (dq_t (dq_t (dq_t dzX8_isAtSign_0))))))))
theorem dX8_isAtSign_17 : decode cX8_isAtSign 17 = .ok (.if_icmp .ne 7, 3) := dq_h (dq_t (dq_t (dq_t (dq_t (dq_t (dq_t (dq_t (dq_t (dq_t dzX8_isAtSign_0)))))))))
theorem dX8_isAtSign_20 : decode cX8_isAtSign 20 = .ok (.iconst 1, 1) := dq_h (dq_t (dq_t (dq_t (dq_t (dq_t (dq_t (dq_t (dq_t (dq_t (dq_t dzX8_isAtSign_0))))))))))
theorem dX8_isAtSign_21 : decode cX8_isAtSign 21 = .ok (.goto 4, 3) := dq_h (dq_t (dq_t (dq_t (dq_t (dq_t (dq_t (dq_t (dq_t (dq_t (dq_t (dq_t dzX8_isAtSign_0)))))))))))
theorem dX8_isAtSign_24 : decode cX8_isAtSign 24 = .ok (.iconst 0, 1) := dq_h (dq_t (dq_t (dq_t (dq_t (dq_t (dq_t (dq_t (dq_t (dq_t (dq_t (dq_t (dq_t dzX8_isAtSign_0))))))))))))
theorem dX8_isAtSign_25 : decode cX8_isAtSign 25 = .ok (.ireturn, 1) := dq_h (dq_t (dq_t (dq_t (dq_t (dq_t (dq_t (dq_t (dq_t (dq_t (dq_t (dq_t (dq_t (dq_t dzX8_isAtSign_0)))))))))))))
theorem dzX8_at_0 : dq_F cX8_at [(0, .iload_n 1, 1), (1, .ifCond .lt 25, 3), (4, .iload_n 1, 1), (5, .aload_n 0, 1), (6, .getfield 9, 3), (9, .arraylength, 1), (10, .if_icmp .ge 16, 3), (13, .aload_n 0, 1), (14, .getfield 9, 3), (17, .iload_n 1, 1), (18, .baload, 1), (19, .sipush 255, 3), (22, .iand, 1), (23, .goto 4, 3), (26, .iconst 0, 1), (27, .ireturn, 1)] := dq_s 16 0 (by decide +kernel)
theorem dX8_at_0 : decode cX8_at 0 = .ok (.iload_n 1, 1) := dq_h dzX8_at_0
theorem dX8_at_1 : decode cX8_at 1 = .ok (.ifCond .lt 25, 3) := dq_h (dq_t dzX8_at_0)
theorem dX8_at_4 : decode cX8_at 4 = .ok (.iload_n 1, 1) := dq_h (dq_t (dq_t dzX8_at_0))
theorem dX8_at_5 : decode cX8_at 5 = .ok (.aload_n 0, 1) := dq_h (dq_t (dq_t (dq_t dzX8_at_0)))
theorem dX8_at_6 : decode cX8_at 6 = .ok (.getfield 9, 3) := dq_h (dq_t (dq_t (dq_t (dq_t dzX8_at_0))))
theorem dX8_at_9 : decode cX8_at 9 = .ok (.arraylength, 1) := dq_h (dq_t (dq_t (dq_t (dq_t (dq_t dzX8_at_0)))))
theorem dX8_at_10 : decode cX8_at 10 = .ok (.if_icmp .ge 16, 3) := dq_h (dq_t (dq_t (dq_t (dq_t (dq_t (dq_t dzX8_at_0))))))
theorem dX8_at_13 : decode cX8_at 13 = .ok (.aload_n 0, 1) := dq_h (dq_t (dq_t (dq_t (dq_t (dq_t (dq_t (dq_t dzX8_at_0)))))))
theorem dX8_at_14 : decode cX8_at 14 = .ok (.getfield 9, 3) := dq_h (dq_t (dq_t (dq_t (dq_t (dq_t (dq_t (dq_t (dq_t dzX8_at_0))))))))
theorem dX8_at_17 : decode cX8_at 17 = .ok (.iload_n 1, 1) := dq_h (dq_t (dq_t (dq_t (dq_t (dq_t (dq_t (dq_t (dq_t (dq_t dzX8_at_0)))))))))
theorem dX8_at_18 : decode cX8_at 18 = .ok (.baload, 1) := dq_h (dq_t (dq_t (dq_t (dq_t (dq_t (dq_t (dq_t (dq_t (dq_t (dq_t dzX8_at_0))))))))))
theorem dX8_at_19 : decode cX8_at 19 = .ok (.sipush 255, 3) := dq_h (dq_t (dq_t (dq_t (dq_t (dq_t (dq_t (dq_t (dq_t (dq_t (dq_t (dq_t dzX8_at_0)))))))))))
theorem dX8_at_22 : decode cX8_at 22 = .ok (.iand, 1) := dq_h (dq_t (dq_t (dq_t (dq_t (dq_t (dq_t (dq_t (dq_t (dq_t (dq_t (dq_t (dq_t dzX8_at_0))))))))))))
theorem dX8_at_23 : decode cX8_at 23 = .ok (.goto 4, 3) := dq_h (dq_t (dq_t (dq_t (dq_t (dq_t (dq_t (dq_t (dq_t (dq_t (dq_t (dq_t (dq_t (dq_t dzX8_at_0)))))))))))))
theorem dX8_at_26 : decode cX8_at 26 = .ok (.iconst 0, 1) := dq_h (dq_t (dq_t (dq_t (dq_t (dq_t (dq_t (dq_t (dq_t (dq_t (dq_t (dq_t (dq_t (dq_t (dq_t dzX8_at_0))))))))))))))
theorem dX8_at_27 : decode cX8_at 27 = .ok (.ireturn, 1) := dq_h (dq_t (dq_t (dq_t (dq_t (dq_t (dq_t (dq_t (dq_t (dq_t (dq_t (dq_t (dq_t (dq_t (dq_t (dq_t dzX8_at_0)))))))))))))))
theorem dzX8_kindOf_0 : dq_F cX8_kindOf [(0, .iload_n 0, 1), (1, .bipush 32, 2), (3, .if_icmp .eq 9, 3), (6, .iload_n 0, 1), (7, .bipush 10, 2), (9, .if_icmp .ne 5, 3), (12, .iconst 5, 1), (13, .ireturn, 1), (14, .iload_n 0, 1), (15, .bipush 97, 2), (17, .if_icmp .lt 11, 3), (20, .iload_n 0, 1), (21, .bipush 122, 2), (23, .if_icmp .gt 5, 3), (26, .iconst 1, 1), (27, .ireturn, 1), (28, .iload_n 0, 1), (29, .bipush 48, 2), (31, .if_icmp .lt 11, 3), (34, .iload_n 0, 1), (35, .bipush 57, 2), (37, .if_icmp .gt 5, 3), (40, .iconst 2, 1), (41, .ireturn, 1)] := dq_s 24 0 (by decide +kernel)
theorem dX8_kindOf_0 : decode cX8_kindOf 0 = .ok (.iload_n 0, 1) := dq_h dzX8_kindOf_0
theorem dX8_kindOf_1 : decode cX8_kindOf 1 = .ok (.bipush 32, 2) := dq_h (dq_t dzX8_kindOf_0)
theorem dX8_kindOf_3 : decode cX8_kindOf 3 = .ok (.if_icmp .eq 9, 3) := dq_h (dq_t (dq_t dzX8_kindOf_0))
theorem dX8_kindOf_6 : decode cX8_kindOf 6 = .ok (.iload_n 0, 1) := dq_h (dq_t (dq_t (dq_t dzX8_kindOf_0)))
theorem dX8_kindOf_7 : decode cX8_kindOf 7 = .ok (.bipush 10, 2) := dq_h (dq_t (dq_t (dq_t (dq_t dzX8_kindOf_0))))
theorem dX8_kindOf_9 : decode cX8_kindOf 9 = .ok (.if_icmp .ne 5, 3) := dq_h (dq_t (dq_t (dq_t (dq_t (dq_t dzX8_kindOf_0)))))
theorem dX8_kindOf_12 : decode cX8_kindOf 12 = .ok (.iconst 5, 1) := dq_h (dq_t (dq_t (dq_t (dq_t (dq_t (dq_t dzX8_kindOf_0))))))
theorem dX8_kindOf_13 : decode cX8_kindOf 13 = .ok (.ireturn, 1) := dq_h (dq_t (dq_t (dq_t (dq_t (dq_t (dq_t (dq_t dzX8_kindOf_0)))))))
theorem dX8_kindOf_14 : decode cX8_kindOf 14 = .ok (.iload_n 0, 1) := dq_h (dq_t (dq_t (dq_t (dq_t (dq_t (dq_t (dq_t (dq_t dzX8_kindOf_0))))))))
theorem dX8_kindOf_15 : decode cX8_kindOf 15 = .ok (.bipush 97, 2) := dq_h (dq_t (dq_t (dq_t (dq_t (dq_t (dq_t (dq_t (dq_t (dq_t dzX8_kindOf_0)))))))))
theorem dX8_kindOf_17 : decode cX8_kindOf 17 = .ok (.if_icmp .lt 11, 3) := dq_h (dq_t (dq_t (dq_t (dq_t (dq_t (dq_t (dq_t (dq_t (dq_t (dq_t dzX8_kindOf_0))))))))))
theorem dX8_kindOf_20 : decode cX8_kindOf 20 = .ok (.iload_n 0, 1) := dq_h (dq_t (dq_t (dq_t (dq_t (dq_t (dq_t (dq_t (dq_t (dq_t (dq_t (dq_t dzX8_kindOf_0)))))))))))
theorem dX8_kindOf_21 : decode cX8_kindOf 21 = .ok (.bipush 122, 2) := dq_h (dq_t (dq_t (dq_t (dq_t (dq_t (dq_t (dq_t (dq_t (dq_t (dq_t (dq_t (dq_t dzX8_kindOf_0))))))))))))
theorem dX8_kindOf_23 : decode cX8_kindOf 23 = .ok (.if_icmp .gt 5, 3) := dq_h (dq_t (dq_t (dq_t (dq_t (dq_t (dq_t (dq_t (dq_t (dq_t (dq_t (dq_t (dq_t (dq_t dzX8_kindOf_0)))))))))))))
theorem dX8_kindOf_26 : decode cX8_kindOf 26 = .ok (.iconst 1, 1) := dq_h (dq_t (dq_t (dq_t (dq_t (dq_t (dq_t (dq_t (dq_t (dq_t (dq_t (dq_t (dq_t (dq_t (dq_t dzX8_kindOf_0))))))))))))))
theorem dX8_kindOf_27 : decode cX8_kindOf 27 = .ok (.ireturn, 1) := dq_h (dq_t (dq_t (dq_t (dq_t (dq_t (dq_t (dq_t (dq_t (dq_t (dq_t (dq_t (dq_t (dq_t (dq_t (dq_t dzX8_kindOf_0)))))))))))))))
theorem dX8_kindOf_28 : decode cX8_kindOf 28 = .ok (.iload_n 0, 1) := dq_h (dq_t (dq_t (dq_t (dq_t (dq_t (dq_t (dq_t (dq_t (dq_t (dq_t (dq_t (dq_t (dq_t (dq_t (dq_t (dq_t dzX8_kindOf_0))))))))))))))))
theorem dX8_kindOf_29 : decode cX8_kindOf 29 = .ok (.bipush 48, 2) := dq_h (dq_t (dq_t (dq_t (dq_t (dq_t (dq_t (dq_t (dq_t (dq_t (dq_t (dq_t (dq_t (dq_t (dq_t (dq_t (dq_t (dq_t dzX8_kindOf_0)))))))))))))))))
theorem dX8_kindOf_31 : decode cX8_kindOf 31 = .ok (.if_icmp .lt 11, 3) := dq_h (dq_t (dq_t (dq_t (dq_t (dq_t (dq_t (dq_t (dq_t (dq_t (dq_t (dq_t (dq_t (dq_t (dq_t (dq_t (dq_t (dq_t (dq_t dzX8_kindOf_0))))))))))))))))))
theorem dX8_kindOf_34 : decode cX8_kindOf 34 = .ok (.iload_n 0, 1) := dq_h (dq_t (dq_t (dq_t (dq_t (dq_t (dq_t (dq_t (dq_t (dq_t (dq_t (dq_t (dq_t (dq_t (dq_t (dq_t (dq_t (dq_t (dq_t (dq_t dzX8_kindOf_0)))))))))))))))))))
theorem dX8_kindOf_35 : decode cX8_kindOf 35 = .ok (.bipush 57, 2) := dq_h (dq_t (dq_t (dq_t (dq_t (dq_t (dq_t (dq_t (dq_t (dq_t (dq_t (dq_t (dq_t (dq_t (dq_t (dq_t (dq_t (dq_t (dq_t (dq_t (dq_t dzX8_kindOf_0))))))))))))))))))))
theorem dX8_kindOf_37 : decode cX8_kindOf 37 = .ok (.if_icmp .gt 5, 3) := dq_h (dq_t (dq_t (dq_t (dq_t (dq_t (dq_t (dq_t (dq_t (dq_t (dq_t (dq_t (dq_t (dq_t (dq_t (dq_t (dq_t (dq_t (dq_t (dq_t (dq_t (dq_t dzX8_kindOf_0)))))))))))))))))))))
theorem dX8_kindOf_40 : decode cX8_kindOf 40 = .ok (.iconst 2, 1) := dq_h (dq_t (dq_t (dq_t (dq_t (dq_t (dq_t (dq_t (dq_t (dq_t (dq_t (dq_t (dq_t (dq_t (dq_t (dq_t (dq_t (dq_t (dq_t (dq_t (dq_t (dq_t (dq_t dzX8_kindOf_0))))))))))))))))))))))
theorem dX8_kindOf_41 : decode cX8_kindOf 41 = .ok (.ireturn, 1) := dq_h (dq_t (dq_t (dq_t (dq_t (dq_t (dq_t (dq_t (dq_t (dq_t (dq_t (dq_t (dq_t (dq_t (dq_t (dq_t (dq_t (dq_t (dq_t (dq_t (dq_t (dq_t (dq_t (dq_t dzX8_kindOf_0)))))))))))))))))))))))
theorem dzX8_kindOf_42 : dq_F cX8_kindOf [(42, .ldc 59, 2), (44, .iload_n 0, 1), (45, .i2c, 1), (46, .invokevirtual 61, 3), (49, .ifCond .lt 7, 3), (52, .iconst 3, 1), (53, .goto 4, 3), (56, .iconst 4, 1), (57, .ireturn, 1)] := dq_s 9 42 (by decide +kernel)
theorem dX8_kindOf_42 : decode cX8_kindOf 42 = .ok (.ldc 59, 2) := dq_h dzX8_kindOf_42
theorem dX8_kindOf_44 : decode cX8_kindOf 44 = .ok (.iload_n 0, 1) := dq_h (dq_t dzX8_kindOf_42)
theorem dX8_kindOf_45 : decode cX8_kindOf 45 = .ok (.i2c, 1) := dq_h (dq_t (dq_t dzX8_kindOf_42))
theorem dX8_kindOf_46 : decode cX8_kindOf 46 = .ok (.invokevirtual 61, 3) := dq_h (dq_t (dq_t (dq_t dzX8_kindOf_42)))
theorem dX8_kindOf_49 : decode cX8_kindOf 49 = .ok (.ifCond .lt 7, 3) := dq_h (dq_t (dq_t (dq_t (dq_t dzX8_kindOf_42))))
theorem dX8_kindOf_52 : decode cX8_kindOf 52 = .ok (.iconst 3, 1) := dq_h (dq_t (dq_t (dq_t (dq_t (dq_t dzX8_kindOf_42)))))
theorem dX8_kindOf_53 : decode cX8_kindOf 53 = .ok (.goto 4, 3) := dq_h (dq_t (dq_t (dq_t (dq_t (dq_t (dq_t dzX8_kindOf_42))))))
theorem dX8_kindOf_56 : decode cX8_kindOf 56 = .ok (.iconst 4, 1) := dq_h (dq_t (dq_t (dq_t (dq_t (dq_t (dq_t (dq_t dzX8_kindOf_42)))))))
theorem dX8_kindOf_57 : decode cX8_kindOf 57 = .ok (.ireturn, 1) := dq_h (dq_t (dq_t (dq_t (dq_t (dq_t (dq_t (dq_t (dq_t dzX8_kindOf_42))))))))
theorem dzX9_init_0 : dq_F cX9_init [(0, .aload_n 0, 1), (1, .invokespecial 3, 3), (4, .aload_n 0, 1), (5, .iconst 0, 1), (6, .putfield 9, 3), (9, .aload_n 0, 1), (10, .bipush 8, 2)] := dq_s 7 0 (by decide +kernel)
theorem dX9_init_0 : decode cX9_init 0 = .ok (.aload_n 0, 1) := dq_h dzX9_init_0
theorem dX9_init_1 : decode cX9_init 1 = .ok (.invokespecial 3, 3) := dq_h (dq_t dzX9_init_0)
theorem dX9_init_4 : decode cX9_init 4 = .ok (.aload_n 0, 1) := dq_h (dq_t (dq_t dzX9_init_0))
theorem dX9_init_5 : decode cX9_init 5 = .ok (.iconst 0, 1) := dq_h (dq_t (dq_t (dq_t dzX9_init_0)))
theorem dX9_init_6 : decode cX9_init 6 = .ok (.putfield 9, 3) := dq_h (dq_t (dq_t (dq_t (dq_t dzX9_init_0))))
theorem dX9_init_9 : decode cX9_init 9 = .ok (.aload_n 0, 1) := dq_h (dq_t (dq_t (dq_t (dq_t (dq_t dzX9_init_0)))))
theorem dX9_init_10 : decode cX9_init 10 = .ok (.bipush 8, 2) := dq_h (dq_t (dq_t (dq_t (dq_t (dq_t (dq_t dzX9_init_0))))))
theorem dX9_init_12 : decode cX9_init 12 = .ok (.newarray .int, 2) := by decide +kernel
theorem dzX9_init_14 : dq_F cX9_init [(14, .putfield 15, 3), (17, .aload_n 0, 1), (18, .bipush 8, 2)] := dq_s 3 14 (by decide +kernel)
theorem dX9_init_14 : decode cX9_init 14 = .ok (.putfield 15, 3) := dq_h dzX9_init_14
theorem dX9_init_17 : decode cX9_init 17 = .ok (.aload_n 0, 1) := dq_h (dq_t dzX9_init_14)
theorem dX9_init_18 : decode cX9_init 18 = .ok (.bipush 8, 2) := dq_h (dq_t (dq_t dzX9_init_14))
theorem dX9_init_20 : decode cX9_init 20 = .ok (.newarray .int, 2) := by decide +kernel
theorem dzX9_init_22 : dq_F cX9_init [(22, .putfield 19, 3), (25, .aload_n 0, 1), (26, .bipush 8, 2)] := dq_s 3 22 (by decide +kernel)
theorem dX9_init_22 : decode cX9_init 22 = .ok (.putfield 19, 3) := dq_h dzX9_init_22
theorem dX9_init_25 : decode cX9_init 25 = .ok (.aload_n 0, 1) := dq_h (dq_t dzX9_init_22)
theorem dX9_init_26 : decode cX9_init 26 = .ok (.bipush 8, 2) := dq_h (dq_t (dq_t dzX9_init_22))
theorem dX9_init_28 : decode cX9_init 28 = .ok (.newarray .int, 2) := by decide +kernel
theorem dzX9_init_30 : dq_F cX9_init [(30, .putfield 22, 3), (33, .aload_n 0, 1), (34, .bipush 8, 2)] := dq_s 3 30 (by decide +kernel)
theorem dX9_init_30 : decode cX9_init 30 = .ok (.putfield 22, 3) := dq_h dzX9_init_30
theorem dX9_init_33 : decode cX9_init 33 = .ok (.aload_n 0, 1) := dq_h (dq_t dzX9_init_30)
theorem dX9_init_34 : decode cX9_init 34 = .ok (.bipush 8, 2) := dq_h (dq_t (dq_t dzX9_init_30))
theorem dX9_init_36 : decode cX9_init 36 = .ok (.newarray .boolean, 2) := by decide +kernel
theorem dzX9_init_38 : dq_F cX9_init [(38, .putfield 25, 3), (41, .aload_n 0, 1), (42, .iconst 0, 1), (43, .putfield 29, 3), (46, .aload_n 0, 1), (47, .bipush 6, 2)] := dq_s 6 38 (by decide +kernel)
theorem dX9_init_38 : decode cX9_init 38 = .ok (.putfield 25, 3) := dq_h dzX9_init_38
theorem dX9_init_41 : decode cX9_init 41 = .ok (.aload_n 0, 1) := dq_h (dq_t dzX9_init_38)
theorem dX9_init_42 : decode cX9_init 42 = .ok (.iconst 0, 1) := dq_h (dq_t (dq_t dzX9_init_38))
theorem dX9_init_43 : decode cX9_init 43 = .ok (.putfield 29, 3) := dq_h (dq_t (dq_t (dq_t dzX9_init_38)))
theorem dX9_init_46 : decode cX9_init 46 = .ok (.aload_n 0, 1) := dq_h (dq_t (dq_t (dq_t (dq_t dzX9_init_38))))
theorem dX9_init_47 : decode cX9_init 47 = .ok (.bipush 6, 2) := dq_h (dq_t (dq_t (dq_t (dq_t (dq_t dzX9_init_38)))))
theorem dX9_init_49 : decode cX9_init 49 = .ok (.newarray .int, 2) := by decide +kernel
theorem dzX9_init_51 : dq_F cX9_init [(51, .putfield 32, 3), (54, .aload_n 0, 1), (55, .bipush 6, 2)] := dq_s 3 51 (by decide +kernel)
theorem dX9_init_51 : decode cX9_init 51 = .ok (.putfield 32, 3) := dq_h dzX9_init_51
theorem dX9_init_54 : decode cX9_init 54 = .ok (.aload_n 0, 1) := dq_h (dq_t dzX9_init_51)
theorem dX9_init_55 : decode cX9_init 55 = .ok (.bipush 6, 2) := dq_h (dq_t (dq_t dzX9_init_51))
theorem dX9_init_57 : decode cX9_init 57 = .ok (.newarray .int, 2) := by decide +kernel
theorem dzX9_init_59 : dq_F cX9_init [(59, .putfield 35, 3), (62, .aload_n 0, 1), (63, .bipush 6, 2)] := dq_s 3 59 (by decide +kernel)
theorem dX9_init_59 : decode cX9_init 59 = .ok (.putfield 35, 3) := dq_h dzX9_init_59
theorem dX9_init_62 : decode cX9_init 62 = .ok (.aload_n 0, 1) := dq_h (dq_t dzX9_init_59)
theorem dX9_init_63 : decode cX9_init 63 = .ok (.bipush 6, 2) := dq_h (dq_t (dq_t dzX9_init_59))
theorem dX9_init_65 : decode cX9_init 65 = .ok (.newarray .int, 2) := by decide +kernel
theorem dzX9_init_67 : dq_F cX9_init [(67, .putfield 38, 3), (70, .aload_n 0, 1), (71, .bipush 6, 2)] := dq_s 3 67 (by decide +kernel)
theorem dX9_init_67 : decode cX9_init 67 = .ok (.putfield 38, 3) := dq_h dzX9_init_67
theorem dX9_init_70 : decode cX9_init 70 = .ok (.aload_n 0, 1) := dq_h (dq_t dzX9_init_67)
theorem dX9_init_71 : decode cX9_init 71 = .ok (.bipush 6, 2) := dq_h (dq_t (dq_t dzX9_init_67))
theorem dX9_init_73 : decode cX9_init 73 = .ok (.newarray .int, 2) := by decide +kernel
theorem dzX9_init_75 : dq_F cX9_init [(75, .putfield 41, 3), (78, .aload_n 0, 1), (79, .iconst 0, 1), (80, .putfield 44, 3), (83, .aload_n 0, 1), (84, .bipush 8, 2)] := dq_s 6 75 (by decide +kernel)
theorem dX9_init_75 : decode cX9_init 75 = .ok (.putfield 41, 3) := dq_h dzX9_init_75
theorem dX9_init_78 : decode cX9_init 78 = .ok (.aload_n 0, 1) := dq_h (dq_t dzX9_init_75)
theorem dX9_init_79 : decode cX9_init 79 = .ok (.iconst 0, 1) := dq_h (dq_t (dq_t dzX9_init_75))
theorem dX9_init_80 : decode cX9_init 80 = .ok (.putfield 44, 3) := dq_h (dq_t (dq_t (dq_t dzX9_init_75)))
theorem dX9_init_83 : decode cX9_init 83 = .ok (.aload_n 0, 1) := dq_h (dq_t (dq_t (dq_t (dq_t dzX9_init_75))))
theorem dX9_init_84 : decode cX9_init 84 = .ok (.bipush 8, 2) := dq_h (dq_t (dq_t (dq_t (dq_t (dq_t dzX9_init_75)))))
theorem dX9_init_86 : decode cX9_init 86 = .ok (.newarray .int, 2) := by decide +kernel
theorem dzX9_init_88 : dq_F cX9_init [(88, .putfield 47, 3), (91, .aload_n 0, 1), (92, .iconst 0, 1), (93, .putfield 50, 3), (96, .aload_n 0, 1), (97, .new 53, 3), (100, .dup, 1), (101, .iconst 0, 1), (102, .invokespecial 55, 3), (105, .putfield 58, 3), (108, .aload_n 0, 1), (109, .new 53, 3), (112, .dup, 1), (113, .iconst 1, 1), (114, .invokespecial 55, 3), (117, .putfield 62, 3), (120, .return_, 1)] := dq_s 17 88 (by decide +kernel)
theorem dX9_init_88 : decode cX9_init 88 = .ok (.putfield 47, 3) := dq_h dzX9_init_88
theorem dX9_init_91 : decode cX9_init 91 = .ok (.aload_n 0, 1) := dq_h (dq_t dzX9_init_88)
theorem dX9_init_92 : decode cX9_init 92 = .ok (.iconst 0, 1) := dq_h (dq_t (dq_t dzX9_init_88))
theorem dX9_init_93 : decode cX9_init 93 = .ok (.putfield 50, 3) := dq_h (dq_t (dq_t (dq_t dzX9_init_88)))
theorem dX9_init_96 : decode cX9_init 96 = .ok (.aload_n 0, 1) := dq_h (dq_t (dq_t (dq_t (dq_t dzX9_init_88))))
theorem dX9_init_97 : decode cX9_init 97 = .ok (.new 53, 3) := dq_h (dq_t (dq_t (dq_t (dq_t (dq_t dzX9_init_88)))))
theorem dX9_init_100 : decode cX9_init 100 = .ok (.dup, 1) := dq_h (dq_t (dq_t (dq_t (dq_t (dq_t (dq_t dzX9_init_88))))))
theorem dX9_init_101 : decode cX9_init 101 = .ok (.iconst 0, 1) := dq_h (dq_t (dq_t (dq_t (dq_t (dq_t (dq_t (dq_t dzX9_init_88)))))))
theorem dX9_init_102 : decode cX9_init 102 = .ok (.invokespecial 55, 3) := dq_h (dq_t (dq_t (dq_t (dq_t (dq_t (dq_t (dq_t (dq_t dzX9_init_88))))))))
theorem dX9_init_105 : decode cX9_init 105 = .ok (.putfield 58, 3) := dq_h (dq_t (dq_t (dq_t (dq_t (dq_t (dq_t (dq_t (dq_t (dq_t dzX9_init_88)))))))))
theorem dX9_init_108 : decode cX9_init 108 = .ok (.aload_n 0, 1) := dq_h (dq_t (dq_t (dq_t (dq_t (dq_t (dq_t (dq_t (dq_t (dq_t (dq_t dzX9_init_88))))))))))
theorem dX9_init_109 : decode cX9_init 109 = .ok (.new 53, 3) := dq_h (dq_t (dq_t (dq_t (dq_t (dq_t (dq_t (dq_t (dq_t (dq_t (dq_t (dq_t dzX9_init_88)))))))))))
theorem dX9_init_112 : decode cX9_init 112 = .ok (.dup, 1) := dq_h (dq_t (dq_t (dq_t (dq_t (dq_t (dq_t (dq_t (dq_t (dq_t (dq_t (dq_t (dq_t dzX9_init_88))))))))))))
theorem dX9_init_113 : decode cX9_init 113 = .ok (.iconst 1, 1) := dq_h (dq_t (dq_t (dq_t (dq_t (dq_t (dq_t (dq_t (dq_t (dq_t (dq_t (dq_t (dq_t (dq_t dzX9_init_88)))))))))))))
theorem dX9_init_114 : decode cX9_init 114 = .ok (.invokespecial 55, 3) := dq_h (dq_t (dq_t (dq_t (dq_t (dq_t (dq_t (dq_t (dq_t (dq_t (dq_t (dq_t (dq_t (dq_t (dq_t dzX9_init_88))))))))))))))
theorem dX9_init_117 : decode cX9_init 117 = .ok (.putfield 62, 3) := dq_h (dq_t (dq_t (dq_t (dq_t (dq_t (dq_t (dq_t (dq_t (dq_t (dq_t (dq_t (dq_t (dq_t (dq_t (dq_t dzX9_init_88)))))))))))))))
theorem dX9_init_120 : decode cX9_init 120 = .ok (.return_, 1) := dq_h (dq_t (dq_t (dq_t (dq_t (dq_t (dq_t (dq_t (dq_t (dq_t (dq_t (dq_t (dq_t (dq_t (dq_t (dq_t (dq_t dzX9_init_88))))))))))))))))
theorem dzX9_clear_0 : dq_F cX9_clear [(0, .aload_n 0, 1), (1, .iconst 0, 1), (2, .putfield 9, 3), (5, .aload_n 0, 1), (6, .iconst 0, 1), (7, .putfield 29, 3), (10, .aload_n 0, 1), (11, .iconst 0, 1), (12, .putfield 44, 3), (15, .aload_n 0, 1), (16, .iconst 0, 1), (17, .putfield 50, 3), (20, .aload_n 0, 1), (21, .getfield 58, 3), (24, .invokevirtual 65, 3), (27, .aload_n 0, 1), (28, .getfield 62, 3), (31, .invokevirtual 65, 3), (34, .return_, 1)] := dq_s 19 0 (by decide +kernel)
theorem dX9_clear_0 : decode cX9_clear 0 = .ok (.aload_n 0, 1) := dq_h dzX9_clear_0
theorem dX9_clear_1 : decode cX9_clear 1 = .ok (.iconst 0, 1) := dq_h (dq_t dzX9_clear_0)
theorem dX9_clear_2 : decode cX9_clear 2 = .ok (.putfield 9, 3) := dq_h (dq_t (dq_t dzX9_clear_0))
theorem dX9_clear_5 : decode cX9_clear 5 = .ok (.aload_n 0, 1) := dq_h (dq_t (dq_t (dq_t dzX9_clear_0)))
theorem dX9_clear_6 : decode cX9_clear 6 = .ok (.iconst 0, 1) := dq_h (dq_t (dq_t (dq_t (dq_t dzX9_clear_0))))
theorem dX9_clear_7 : decode cX9_clear 7 = .ok (.putfield 29, 3) := dq_h (dq_t (dq_t (dq_t (dq_t (dq_t dzX9_clear_0)))))
theorem dX9_clear_10 : decode cX9_clear 10 = .ok (.aload_n 0, 1) := dq_h (dq_t (dq_t (dq_t (dq_t (dq_t (dq_t dzX9_clear_0))))))
theorem dX9_clear_11 : decode cX9_clear 11 = .ok (.iconst 0, 1) := dq_h (dq_t (dq_t (dq_t (dq_t (dq_t (dq_t (dq_t dzX9_clear_0)))))))
theorem dX9_clear_12 : decode cX9_clear 12 = .ok (.putfield 44, 3) := dq_h (dq_t (dq_t (dq_t (dq_t (dq_t (dq_t (dq_t (dq_t dzX9_clear_0))))))))
theorem dX9_clear_15 : decode cX9_clear 15 = .ok (.aload_n 0, 1) := dq_h (dq_t (dq_t (dq_t (dq_t (dq_t (dq_t (dq_t (dq_t (dq_t dzX9_clear_0)))))))))
theorem dX9_clear_16 : decode cX9_clear 16 = .ok (.iconst 0, 1) := dq_h (dq_t (dq_t (dq_t (dq_t (dq_t (dq_t (dq_t (dq_t (dq_t (dq_t dzX9_clear_0))))))))))
theorem dX9_clear_17 : decode cX9_clear 17 = .ok (.putfield 50, 3) := dq_h (dq_t (dq_t (dq_t (dq_t (dq_t (dq_t (dq_t (dq_t (dq_t (dq_t (dq_t dzX9_clear_0)))))))))))
theorem dX9_clear_20 : decode cX9_clear 20 = .ok (.aload_n 0, 1) := dq_h (dq_t (dq_t (dq_t (dq_t (dq_t (dq_t (dq_t (dq_t (dq_t (dq_t (dq_t (dq_t dzX9_clear_0))))))))))))
theorem dX9_clear_21 : decode cX9_clear 21 = .ok (.getfield 58, 3) := dq_h (dq_t (dq_t (dq_t (dq_t (dq_t (dq_t (dq_t (dq_t (dq_t (dq_t (dq_t (dq_t (dq_t dzX9_clear_0)))))))))))))
theorem dX9_clear_24 : decode cX9_clear 24 = .ok (.invokevirtual 65, 3) := dq_h (dq_t (dq_t (dq_t (dq_t (dq_t (dq_t (dq_t (dq_t (dq_t (dq_t (dq_t (dq_t (dq_t (dq_t dzX9_clear_0))))))))))))))
theorem dX9_clear_27 : decode cX9_clear 27 = .ok (.aload_n 0, 1) := dq_h (dq_t (dq_t (dq_t (dq_t (dq_t (dq_t (dq_t (dq_t (dq_t (dq_t (dq_t (dq_t (dq_t (dq_t (dq_t dzX9_clear_0)))))))))))))))
theorem dX9_clear_28 : decode cX9_clear 28 = .ok (.getfield 62, 3) := dq_h (dq_t (dq_t (dq_t (dq_t (dq_t (dq_t (dq_t (dq_t (dq_t (dq_t (dq_t (dq_t (dq_t (dq_t (dq_t (dq_t dzX9_clear_0))))))))))))))))
theorem dX9_clear_31 : decode cX9_clear 31 = .ok (.invokevirtual 65, 3) := dq_h (dq_t (dq_t (dq_t (dq_t (dq_t (dq_t (dq_t (dq_t (dq_t (dq_t (dq_t (dq_t (dq_t (dq_t (dq_t (dq_t (dq_t dzX9_clear_0)))))))))))))))))
theorem dX9_clear_34 : decode cX9_clear 34 = .ok (.return_, 1) := dq_h (dq_t (dq_t (dq_t (dq_t (dq_t (dq_t (dq_t (dq_t (dq_t (dq_t (dq_t (dq_t (dq_t (dq_t (dq_t (dq_t (dq_t (dq_t dzX9_clear_0))))))))))))))))))
theorem dzX9_isGrotto_0 : dq_F cX9_isGrotto [(0, .iload_n 1, 1), (1, .ifCond .lt 15, 3), (4, .iload_n 1, 1), (5, .aload_n 0, 1), (6, .getfield 9, 3), (9, .if_icmp .ge 7, 3), (12, .iconst 1, 1), (13, .goto 4, 3), (16, .iconst 0, 1), (17, .ireturn, 1)] := dq_s 10 0 (by decide +kernel)
theorem dX9_isGrotto_0 : decode cX9_isGrotto 0 = .ok (.iload_n 1, 1) := dq_h dzX9_isGrotto_0
theorem dX9_isGrotto_1 : decode cX9_isGrotto 1 = .ok (.ifCond .lt 15, 3) := dq_h (dq_t dzX9_isGrotto_0)
theorem dX9_isGrotto_4 : decode cX9_isGrotto 4 = .ok (.iload_n 1, 1) := dq_h (dq_t (dq_t dzX9_isGrotto_0))
theorem dX9_isGrotto_5 : decode cX9_isGrotto 5 = .ok (.aload_n 0, 1) := dq_h (dq_t (dq_t (dq_t dzX9_isGrotto_0)))
theorem dX9_isGrotto_6 : decode cX9_isGrotto 6 = .ok (.getfield 9, 3) := dq_h (dq_t (dq_t (dq_t (dq_t dzX9_isGrotto_0))))
theorem dX9_isGrotto_9 : decode cX9_isGrotto 9 = .ok (.if_icmp .ge 7, 3) := dq_h (dq_t (dq_t (dq_t (dq_t (dq_t dzX9_isGrotto_0)))))
theorem dX9_isGrotto_12 : decode cX9_isGrotto 12 = .ok (.iconst 1, 1) := dq_h (dq_t (dq_t (dq_t (dq_t (dq_t (dq_t dzX9_isGrotto_0))))))
theorem dX9_isGrotto_13 : decode cX9_isGrotto 13 = .ok (.goto 4, 3) := dq_h (dq_t (dq_t (dq_t (dq_t (dq_t (dq_t (dq_t dzX9_isGrotto_0)))))))
theorem dX9_isGrotto_16 : decode cX9_isGrotto 16 = .ok (.iconst 0, 1) := dq_h (dq_t (dq_t (dq_t (dq_t (dq_t (dq_t (dq_t (dq_t dzX9_isGrotto_0))))))))
theorem dX9_isGrotto_17 : decode cX9_isGrotto 17 = .ok (.ireturn, 1) := dq_h (dq_t (dq_t (dq_t (dq_t (dq_t (dq_t (dq_t (dq_t (dq_t dzX9_isGrotto_0)))))))))
theorem dzX9_isGuild_0 : dq_F cX9_isGuild [(0, .iload_n 1, 1), (1, .ifCond .lt 15, 3), (4, .iload_n 1, 1), (5, .aload_n 0, 1), (6, .getfield 29, 3), (9, .if_icmp .ge 7, 3), (12, .iconst 1, 1), (13, .goto 4, 3), (16, .iconst 0, 1), (17, .ireturn, 1)] := dq_s 10 0 (by decide +kernel)
theorem dX9_isGuild_0 : decode cX9_isGuild 0 = .ok (.iload_n 1, 1) := dq_h dzX9_isGuild_0
theorem dX9_isGuild_1 : decode cX9_isGuild 1 = .ok (.ifCond .lt 15, 3) := dq_h (dq_t dzX9_isGuild_0)
theorem dX9_isGuild_4 : decode cX9_isGuild 4 = .ok (.iload_n 1, 1) := dq_h (dq_t (dq_t dzX9_isGuild_0))
theorem dX9_isGuild_5 : decode cX9_isGuild 5 = .ok (.aload_n 0, 1) := dq_h (dq_t (dq_t (dq_t dzX9_isGuild_0)))
theorem dX9_isGuild_6 : decode cX9_isGuild 6 = .ok (.getfield 29, 3) := dq_h (dq_t (dq_t (dq_t (dq_t dzX9_isGuild_0))))
theorem dX9_isGuild_9 : decode cX9_isGuild 9 = .ok (.if_icmp .ge 7, 3) := dq_h (dq_t (dq_t (dq_t (dq_t (dq_t dzX9_isGuild_0)))))
theorem dX9_isGuild_12 : decode cX9_isGuild 12 = .ok (.iconst 1, 1) := dq_h (dq_t (dq_t (dq_t (dq_t (dq_t (dq_t dzX9_isGuild_0))))))
theorem dX9_isGuild_13 : decode cX9_isGuild 13 = .ok (.goto 4, 3) := dq_h (dq_t (dq_t (dq_t (dq_t (dq_t (dq_t (dq_t dzX9_isGuild_0)))))))
theorem dX9_isGuild_16 : decode cX9_isGuild 16 = .ok (.iconst 0, 1) := dq_h (dq_t (dq_t (dq_t (dq_t (dq_t (dq_t (dq_t (dq_t dzX9_isGuild_0))))))))
theorem dX9_isGuild_17 : decode cX9_isGuild 17 = .ok (.ireturn, 1) := dq_h (dq_t (dq_t (dq_t (dq_t (dq_t (dq_t (dq_t (dq_t (dq_t dzX9_isGuild_0)))))))))
theorem dzX9_isBoundTold_0 : dq_F cX9_isBoundTold [(0, .aload_n 0, 1), (1, .getfield 50, 3), (4, .ifCond .eq 7, 3), (7, .iconst 1, 1), (8, .goto 4, 3), (11, .iconst 0, 1), (12, .ireturn, 1)] := dq_s 7 0 (by decide +kernel)
theorem dX9_isBoundTold_0 : decode cX9_isBoundTold 0 = .ok (.aload_n 0, 1) := dq_h dzX9_isBoundTold_0
theorem dX9_isBoundTold_1 : decode cX9_isBoundTold 1 = .ok (.getfield 50, 3) := dq_h (dq_t dzX9_isBoundTold_0)
theorem dX9_isBoundTold_4 : decode cX9_isBoundTold 4 = .ok (.ifCond .eq 7, 3) := dq_h (dq_t (dq_t dzX9_isBoundTold_0))
theorem dX9_isBoundTold_7 : decode cX9_isBoundTold 7 = .ok (.iconst 1, 1) := dq_h (dq_t (dq_t (dq_t dzX9_isBoundTold_0)))
theorem dX9_isBoundTold_8 : decode cX9_isBoundTold 8 = .ok (.goto 4, 3) := dq_h (dq_t (dq_t (dq_t (dq_t dzX9_isBoundTold_0))))
theorem dX9_isBoundTold_11 : decode cX9_isBoundTold 11 = .ok (.iconst 0, 1) := dq_h (dq_t (dq_t (dq_t (dq_t (dq_t dzX9_isBoundTold_0)))))
theorem dX9_isBoundTold_12 : decode cX9_isBoundTold 12 = .ok (.ireturn, 1) := dq_h (dq_t (dq_t (dq_t (dq_t (dq_t (dq_t dzX9_isBoundTold_0))))))
theorem dzX9_mostSin_0 : dq_F cX9_mostSin [(0, .aload_n 0, 1), (1, .invokevirtual 68, 3), (4, .ifCond .eq 10, 3), (7, .aload_n 0, 1), (8, .getfield 50, 3), (11, .goto 5, 3), (14, .bipush 70, 2), (16, .ireturn, 1)] := dq_s 8 0 (by decide +kernel)
theorem dX9_mostSin_0 : decode cX9_mostSin 0 = .ok (.aload_n 0, 1) := dq_h dzX9_mostSin_0
theorem dX9_mostSin_1 : decode cX9_mostSin 1 = .ok (.invokevirtual 68, 3) := dq_h (dq_t dzX9_mostSin_0)
theorem dX9_mostSin_4 : decode cX9_mostSin 4 = .ok (.ifCond .eq 10, 3) := dq_h (dq_t (dq_t dzX9_mostSin_0))
theorem dX9_mostSin_7 : decode cX9_mostSin 7 = .ok (.aload_n 0, 1) := dq_h (dq_t (dq_t (dq_t dzX9_mostSin_0)))
theorem dX9_mostSin_8 : decode cX9_mostSin 8 = .ok (.getfield 50, 3) := dq_h (dq_t (dq_t (dq_t (dq_t dzX9_mostSin_0))))
theorem dX9_mostSin_11 : decode cX9_mostSin 11 = .ok (.goto 5, 3) := dq_h (dq_t (dq_t (dq_t (dq_t (dq_t dzX9_mostSin_0)))))
theorem dX9_mostSin_14 : decode cX9_mostSin 14 = .ok (.bipush 70, 2) := dq_h (dq_t (dq_t (dq_t (dq_t (dq_t (dq_t dzX9_mostSin_0))))))
theorem dX9_mostSin_16 : decode cX9_mostSin 16 = .ok (.ireturn, 1) := dq_h (dq_t (dq_t (dq_t (dq_t (dq_t (dq_t (dq_t dzX9_mostSin_0)))))))
theorem dzX9_wetOf_0 : dq_F cX9_wetOf [(0, .aload_n 0, 1), (1, .getfield 44, 3), (4, .iconst 1, 1), (5, .if_icmp .lt 7, 3), (8, .iload_n 1, 1), (9, .ifCond .ge 7, 3), (12, .iconst 5, 1), (13, .goto 14, 3), (16, .aload_n 0, 1), (17, .getfield 47, 3), (20, .iload_n 1, 1), (21, .aload_n 0, 1), (22, .getfield 44, 3), (25, .irem, 1), (26, .iaload, 1), (27, .ireturn, 1)] := dq_s 16 0 (by decide +kernel)
theorem dX9_wetOf_0 : decode cX9_wetOf 0 = .ok (.aload_n 0, 1) := dq_h dzX9_wetOf_0
theorem dX9_wetOf_1 : decode cX9_wetOf 1 = .ok (.getfield 44, 3) := dq_h (dq_t dzX9_wetOf_0)
theorem dX9_wetOf_4 : decode cX9_wetOf 4 = .ok (.iconst 1, 1) := dq_h (dq_t (dq_t dzX9_wetOf_0))
theorem dX9_wetOf_5 : decode cX9_wetOf 5 = .ok (.if_icmp .lt 7, 3) := dq_h (dq_t (dq_t (dq_t dzX9_wetOf_0)))
theorem dX9_wetOf_8 : decode cX9_wetOf 8 = .ok (.iload_n 1, 1) := dq_h (dq_t (dq_t (dq_t (dq_t dzX9_wetOf_0))))
theorem dX9_wetOf_9 : decode cX9_wetOf 9 = .ok (.ifCond .ge 7, 3) := dq_h (dq_t (dq_t (dq_t (dq_t (dq_t dzX9_wetOf_0)))))
theorem dX9_wetOf_12 : decode cX9_wetOf 12 = .ok (.iconst 5, 1) := dq_h (dq_t (dq_t (dq_t (dq_t (dq_t (dq_t dzX9_wetOf_0))))))
theorem dX9_wetOf_13 : decode cX9_wetOf 13 = .ok (.goto 14, 3) := dq_h (dq_t (dq_t (dq_t (dq_t (dq_t (dq_t (dq_t dzX9_wetOf_0)))))))
theorem dX9_wetOf_16 : decode cX9_wetOf 16 = .ok (.aload_n 0, 1) := dq_h (dq_t (dq_t (dq_t (dq_t (dq_t (dq_t (dq_t (dq_t dzX9_wetOf_0))))))))
theorem dX9_wetOf_17 : decode cX9_wetOf 17 = .ok (.getfield 47, 3) := dq_h (dq_t (dq_t (dq_t (dq_t (dq_t (dq_t (dq_t (dq_t (dq_t dzX9_wetOf_0)))))))))
theorem dX9_wetOf_20 : decode cX9_wetOf 20 = .ok (.iload_n 1, 1) := dq_h (dq_t (dq_t (dq_t (dq_t (dq_t (dq_t (dq_t (dq_t (dq_t (dq_t dzX9_wetOf_0))))))))))
theorem dX9_wetOf_21 : decode cX9_wetOf 21 = .ok (.aload_n 0, 1) := dq_h (dq_t (dq_t (dq_t (dq_t (dq_t (dq_t (dq_t (dq_t (dq_t (dq_t (dq_t dzX9_wetOf_0)))))))))))
theorem dX9_wetOf_22 : decode cX9_wetOf 22 = .ok (.getfield 44, 3) := dq_h (dq_t (dq_t (dq_t (dq_t (dq_t (dq_t (dq_t (dq_t (dq_t (dq_t (dq_t (dq_t dzX9_wetOf_0))))))))))))
theorem dX9_wetOf_25 : decode cX9_wetOf 25 = .ok (.irem, 1) := dq_h (dq_t (dq_t (dq_t (dq_t (dq_t (dq_t (dq_t (dq_t (dq_t (dq_t (dq_t (dq_t (dq_t dzX9_wetOf_0)))))))))))))
theorem dX9_wetOf_26 : decode cX9_wetOf 26 = .ok (.iaload, 1) := dq_h (dq_t (dq_t (dq_t (dq_t (dq_t (dq_t (dq_t (dq_t (dq_t (dq_t (dq_t (dq_t (dq_t (dq_t dzX9_wetOf_0))))))))))))))
theorem dX9_wetOf_27 : decode cX9_wetOf 27 = .ok (.ireturn, 1) := dq_h (dq_t (dq_t (dq_t (dq_t (dq_t (dq_t (dq_t (dq_t (dq_t (dq_t (dq_t (dq_t (dq_t (dq_t (dq_t dzX9_wetOf_0)))))))))))))))
theorem dzX9_comesRound_0 : dq_F cX9_comesRound [(0, .aload_n 0, 1), (1, .iload_n 1, 1), (2, .invokevirtual 72, 3), (5, .ifCond .eq 35, 3), (8, .aload_n 0, 1), (9, .getfield 15, 3), (12, .iload_n 1, 1), (13, .iaload, 1), (14, .iconst 1, 1), (15, .if_icmp .lt 25, 3), (18, .iload_n 2, 1), (19, .aload_n 0, 1), (20, .getfield 19, 3), (23, .iload_n 1, 1), (24, .iaload, 1), (25, .iadd, 1), (26, .aload_n 0, 1), (27, .getfield 15, 3), (30, .iload_n 1, 1), (31, .iaload, 1), (32, .irem, 1), (33, .ifCond .ne 7, 3), (36, .iconst 1, 1), (37, .goto 4, 3)] := dq_s 24 0 (by decide +kernel)
theorem dX9_comesRound_0 : decode cX9_comesRound 0 = .ok (.aload_n 0, 1) := dq_h dzX9_comesRound_0
theorem dX9_comesRound_1 : decode cX9_comesRound 1 = .ok (.iload_n 1, 1) := dq_h (dq_t dzX9_comesRound_0)
theorem dX9_comesRound_2 : decode cX9_comesRound 2 = .ok (.invokevirtual 72, 3) := dq_h (dq_t (dq_t dzX9_comesRound_0))
theorem dX9_comesRound_5 : decode cX9_comesRound 5 = .ok (.ifCond .eq 35, 3) := dq_h (dq_t (dq_t (dq_t dzX9_comesRound_0)))
theorem dX9_comesRound_8 : decode cX9_comesRound 8 = .ok (.aload_n 0, 1) := dq_h (dq_t (dq_t (dq_t (dq_t dzX9_comesRound_0))))
theorem dX9_comesRound_9 : decode cX9_comesRound 9 = .ok (.getfield 15, 3) := dq_h (dq_t (dq_t (dq_t (dq_t (dq_t dzX9_comesRound_0)))))
theorem dX9_comesRound_12 : decode cX9_comesRound 12 = .ok (.iload_n 1, 1) := dq_h (dq_t (dq_t (dq_t (dq_t (dq_t (dq_t dzX9_comesRound_0))))))
theorem dX9_comesRound_13 : decode cX9_comesRound 13 = .ok (.iaload, 1) := dq_h (dq_t (dq_t (dq_t (dq_t (dq_t (dq_t (dq_t dzX9_comesRound_0)))))))
theorem dX9_comesRound_14 : decode cX9_comesRound 14 = .ok (.iconst 1, 1) := dq_h (dq_t (dq_t (dq_t (dq_t (dq_t (dq_t (dq_t (dq_t dzX9_comesRound_0))))))))
theorem dX9_comesRound_15 : decode cX9_comesRound 15 = .ok (.if_icmp .lt 25, 3) := dq_h (dq_t (dq_t (dq_t (dq_t (dq_t (dq_t (dq_t (dq_t (dq_t dzX9_comesRound_0)))))))))
theorem dX9_comesRound_18 : decode cX9_comesRound 18 = .ok (.iload_n 2, 1) := dq_h (dq_t (dq_t (dq_t (dq_t (dq_t (dq_t (dq_t (dq_t (dq_t (dq_t dzX9_comesRound_0))))))))))
theorem dX9_comesRound_19 : decode cX9_comesRound 19 = .ok (.aload_n 0, 1) := dq_h (dq_t (dq_t (dq_t (dq_t (dq_t (dq_t (dq_t (dq_t (dq_t (dq_t (dq_t dzX9_comesRound_0)))))))))))
theorem dX9_comesRound_20 : decode cX9_comesRound 20 = .ok (.getfield 19, 3) := dq_h (dq_t (dq_t (dq_t (dq_t (dq_t (dq_t (dq_t (dq_t (dq_t (dq_t (dq_t (dq_t dzX9_comesRound_0))))))))))))
theorem dX9_comesRound_23 : decode cX9_comesRound 23 = .ok (.iload_n 1, 1) := dq_h (dq_t (dq_t (dq_t (dq_t (dq_t (dq_t (dq_t (dq_t (dq_t (dq_t (dq_t (dq_t (dq_t dzX9_comesRound_0)))))))))))))
theorem dX9_comesRound_24 : decode cX9_comesRound 24 = .ok (.iaload, 1) := dq_h (dq_t (dq_t (dq_t (dq_t (dq_t (dq_t (dq_t (dq_t (dq_t (dq_t (dq_t (dq_t (dq_t (dq_t dzX9_comesRound_0))))))))))))))
theorem dX9_comesRound_25 : decode cX9_comesRound 25 = .ok (.iadd, 1) := dq_h (dq_t (dq_t (dq_t (dq_t (dq_t (dq_t (dq_t (dq_t (dq_t (dq_t (dq_t (dq_t (dq_t (dq_t (dq_t dzX9_comesRound_0)))))))))))))))
theorem dX9_comesRound_26 : decode cX9_comesRound 26 = .ok (.aload_n 0, 1) := dq_h (dq_t (dq_t (dq_t (dq_t (dq_t (dq_t (dq_t (dq_t (dq_t (dq_t (dq_t (dq_t (dq_t (dq_t (dq_t (dq_t dzX9_comesRound_0))))))))))))))))
theorem dX9_comesRound_27 : decode cX9_comesRound 27 = .ok (.getfield 15, 3) := dq_h (dq_t (dq_t (dq_t (dq_t (dq_t (dq_t (dq_t (dq_t (dq_t (dq_t (dq_t (dq_t (dq_t (dq_t (dq_t (dq_t (dq_t dzX9_comesRound_0)))))))))))))))))
theorem dX9_comesRound_30 : decode cX9_comesRound 30 = .ok (.iload_n 1, 1) := dq_h (dq_t (dq_t (dq_t (dq_t (dq_t (dq_t (dq_t (dq_t (dq_t (dq_t (dq_t (dq_t (dq_t (dq_t (dq_t (dq_t (dq_t (dq_t dzX9_comesRound_0))))))))))))))))))
theorem dX9_comesRound_31 : decode cX9_comesRound 31 = .ok (.iaload, 1) := dq_h (dq_t (dq_t (dq_t (dq_t (dq_t (dq_t (dq_t (dq_t (dq_t (dq_t (dq_t (dq_t (dq_t (dq_t (dq_t (dq_t (dq_t (dq_t (dq_t dzX9_comesRound_0)))))))))))))))))))
theorem dX9_comesRound_32 : decode cX9_comesRound 32 = .ok (.irem, 1) := dq_h (dq_t (dq_t (dq_t (dq_t (dq_t (dq_t (dq_t (dq_t (dq_t (dq_t (dq_t (dq_t (dq_t (dq_t (dq_t (dq_t (dq_t (dq_t (dq_t (dq_t dzX9_comesRound_0))))))))))))))))))))
theorem dX9_comesRound_33 : decode cX9_comesRound 33 = .ok (.ifCond .ne 7, 3) := dq_h (dq_t (dq_t (dq_t (dq_t (dq_t (dq_t (dq_t (dq_t (dq_t (dq_t (dq_t (dq_t (dq_t (dq_t (dq_t (dq_t (dq_t (dq_t (dq_t (dq_t (dq_t dzX9_comesRound_0)))))))))))))))))))))
theorem dX9_comesRound_36 : decode cX9_comesRound 36 = .ok (.iconst 1, 1) := dq_h (dq_t (dq_t (dq_t (dq_t (dq_t (dq_t (dq_t (dq_t (dq_t (dq_t (dq_t (dq_t (dq_t (dq_t (dq_t (dq_t (dq_t (dq_t (dq_t (dq_t (dq_t (dq_t dzX9_comesRound_0))))))))))))))))))))))
theorem dX9_comesRound_37 : decode cX9_comesRound 37 = .ok (.goto 4, 3) := dq_h (dq_t (dq_t (dq_t (dq_t (dq_t (dq_t (dq_t (dq_t (dq_t (dq_t (dq_t (dq_t (dq_t (dq_t (dq_t (dq_t (dq_t (dq_t (dq_t (dq_t (dq_t (dq_t (dq_t dzX9_comesRound_0)))))))))))))))))))))))
theorem dzX9_comesRound_40 : dq_F cX9_comesRound [(40, .iconst 0, 1), (41, .ireturn, 1)] := dq_s 2 40 (by decide +kernel)
theorem dX9_comesRound_40 : decode cX9_comesRound 40 = .ok (.iconst 0, 1) := dq_h dzX9_comesRound_40
theorem dX9_comesRound_41 : decode cX9_comesRound 41 = .ok (.ireturn, 1) := dq_h (dq_t dzX9_comesRound_40)
theorem dzX9_drips_0 : dq_F cX9_drips [(0, .iload_n 3, 1), (1, .ifCond .eq 25, 3), (4, .iload 4, 2), (6, .iload_n 1, 1), (7, .invokestatic 76, 3), (10, .ifCond .ne 16, 3), (13, .aload_n 0, 1), (14, .iload_n 1, 1), (15, .iload_n 2, 1), (16, .invokevirtual 80, 3), (19, .ifCond .eq 7, 3), (22, .iconst 1, 1), (23, .goto 4, 3), (26, .iconst 0, 1), (27, .ireturn, 1)] := dq_s 15 0 (by decide +kernel)
theorem dX9_drips_0 : decode cX9_drips 0 = .ok (.iload_n 3, 1) := dq_h dzX9_drips_0
theorem dX9_drips_1 : decode cX9_drips 1 = .ok (.ifCond .eq 25, 3) := dq_h (dq_t dzX9_drips_0)
theorem dX9_drips_4 : decode cX9_drips 4 = .ok (.iload 4, 2) := dq_h (dq_t (dq_t dzX9_drips_0))
theorem dX9_drips_6 : decode cX9_drips 6 = .ok (.iload_n 1, 1) := dq_h (dq_t (dq_t (dq_t dzX9_drips_0)))
theorem dX9_drips_7 : decode cX9_drips 7 = .ok (.invokestatic 76, 3) := dq_h (dq_t (dq_t (dq_t (dq_t dzX9_drips_0))))
theorem dX9_drips_10 : decode cX9_drips 10 = .ok (.ifCond .ne 16, 3) := dq_h (dq_t (dq_t (dq_t (dq_t (dq_t dzX9_drips_0)))))
theorem dX9_drips_13 : decode cX9_drips 13 = .ok (.aload_n 0, 1) := dq_h (dq_t (dq_t (dq_t (dq_t (dq_t (dq_t dzX9_drips_0))))))
theorem dX9_drips_14 : decode cX9_drips 14 = .ok (.iload_n 1, 1) := dq_h (dq_t (dq_t (dq_t (dq_t (dq_t (dq_t (dq_t dzX9_drips_0)))))))
theorem dX9_drips_15 : decode cX9_drips 15 = .ok (.iload_n 2, 1) := dq_h (dq_t (dq_t (dq_t (dq_t (dq_t (dq_t (dq_t (dq_t dzX9_drips_0))))))))
theorem dX9_drips_16 : decode cX9_drips 16 = .ok (.invokevirtual 80, 3) := dq_h (dq_t (dq_t (dq_t (dq_t (dq_t (dq_t (dq_t (dq_t (dq_t dzX9_drips_0)))))))))
theorem dX9_drips_19 : decode cX9_drips 19 = .ok (.ifCond .eq 7, 3) := dq_h (dq_t (dq_t (dq_t (dq_t (dq_t (dq_t (dq_t (dq_t (dq_t (dq_t dzX9_drips_0))))))))))
theorem dX9_drips_22 : decode cX9_drips 22 = .ok (.iconst 1, 1) := dq_h (dq_t (dq_t (dq_t (dq_t (dq_t (dq_t (dq_t (dq_t (dq_t (dq_t (dq_t dzX9_drips_0)))))))))))
theorem dX9_drips_23 : decode cX9_drips 23 = .ok (.goto 4, 3) := dq_h (dq_t (dq_t (dq_t (dq_t (dq_t (dq_t (dq_t (dq_t (dq_t (dq_t (dq_t (dq_t dzX9_drips_0))))))))))))
theorem dX9_drips_26 : decode cX9_drips 26 = .ok (.iconst 0, 1) := dq_h (dq_t (dq_t (dq_t (dq_t (dq_t (dq_t (dq_t (dq_t (dq_t (dq_t (dq_t (dq_t (dq_t dzX9_drips_0)))))))))))))
theorem dX9_drips_27 : decode cX9_drips 27 = .ok (.ireturn, 1) := dq_h (dq_t (dq_t (dq_t (dq_t (dq_t (dq_t (dq_t (dq_t (dq_t (dq_t (dq_t (dq_t (dq_t (dq_t dzX9_drips_0))))))))))))))
theorem dzX9_isHired_0 : dq_F cX9_isHired [(0, .iconst 0, 1), (1, .istore_n 2, 1), (2, .iload_n 2, 1), (3, .aload_n 0, 1), (4, .getfield 29, 3), (7, .if_icmp .ge 21, 3), (10, .aload_n 0, 1), (11, .getfield 41, 3), (14, .iload_n 2, 1), (15, .iaload, 1), (16, .iload_n 1, 1), (17, .if_icmp .ne 5, 3), (20, .iconst 1, 1), (21, .ireturn, 1), (22, .iinc 2 1, 3), (25, .goto (-23), 3), (28, .iconst 0, 1), (29, .ireturn, 1)] := dq_s 18 0 (by decide +kernel)
theorem dX9_isHired_0 : decode cX9_isHired 0 = .ok (.iconst 0, 1) := dq_h dzX9_isHired_0
theorem dX9_isHired_1 : decode cX9_isHired 1 = .ok (.istore_n 2, 1) := dq_h (dq_t dzX9_isHired_0)
theorem dX9_isHired_2 : decode cX9_isHired 2 = .ok (.iload_n 2, 1) := dq_h (dq_t (dq_t dzX9_isHired_0))
theorem dX9_isHired_3 : decode cX9_isHired 3 = .ok (.aload_n 0, 1) := dq_h (dq_t (dq_t (dq_t dzX9_isHired_0)))
theorem dX9_isHired_4 : decode cX9_isHired 4 = .ok (.getfield 29, 3) := dq_h (dq_t (dq_t (dq_t (dq_t dzX9_isHired_0))))
theorem dX9_isHired_7 : decode cX9_isHired 7 = .ok (.if_icmp .ge 21, 3) := dq_h (dq_t (dq_t (dq_t (dq_t (dq_t dzX9_isHired_0)))))
theorem dX9_isHired_10 : decode cX9_isHired 10 = .ok (.aload_n 0, 1) := dq_h (dq_t (dq_t (dq_t (dq_t (dq_t (dq_t dzX9_isHired_0))))))
theorem dX9_isHired_11 : decode cX9_isHired 11 = .ok (.getfield 41, 3) := dq_h (dq_t (dq_t (dq_t (dq_t (dq_t (dq_t (dq_t dzX9_isHired_0)))))))
theorem dX9_isHired_14 : decode cX9_isHired 14 = .ok (.iload_n 2, 1) := dq_h (dq_t (dq_t (dq_t (dq_t (dq_t (dq_t (dq_t (dq_t dzX9_isHired_0))))))))
theorem dX9_isHired_15 : decode cX9_isHired 15 = .ok (.iaload, 1) := dq_h (dq_t (dq_t (dq_t (dq_t (dq_t (dq_t (dq_t (dq_t (dq_t dzX9_isHired_0)))))))))
theorem dX9_isHired_16 : decode cX9_isHired 16 = .ok (.iload_n 1, 1) := dq_h (dq_t (dq_t (dq_t (dq_t (dq_t (dq_t (dq_t (dq_t (dq_t (dq_t dzX9_isHired_0))))))))))
theorem dX9_isHired_17 : decode cX9_isHired 17 = .ok (.if_icmp .ne 5, 3) := dq_h (dq_t (dq_t (dq_t (dq_t (dq_t (dq_t (dq_t (dq_t (dq_t (dq_t (dq_t dzX9_isHired_0)))))))))))
theorem dX9_isHired_20 : decode cX9_isHired 20 = .ok (.iconst 1, 1) := dq_h (dq_t (dq_t (dq_t (dq_t (dq_t (dq_t (dq_t (dq_t (dq_t (dq_t (dq_t (dq_t dzX9_isHired_0))))))))))))
theorem dX9_isHired_21 : decode cX9_isHired 21 = .ok (.ireturn, 1) := dq_h (dq_t (dq_t (dq_t (dq_t (dq_t (dq_t (dq_t (dq_t (dq_t (dq_t (dq_t (dq_t (dq_t dzX9_isHired_0)))))))))))))
theorem dX9_isHired_22 : decode cX9_isHired 22 = .ok (.iinc 2 1, 3) := dq_h (dq_t (dq_t (dq_t (dq_t (dq_t (dq_t (dq_t (dq_t (dq_t (dq_t (dq_t (dq_t (dq_t (dq_t dzX9_isHired_0))))))))))))))
theorem dX9_isHired_25 : decode cX9_isHired 25 = .ok (.goto (-23), 3) := dq_h (dq_t (dq_t (dq_t (dq_t (dq_t (dq_t (dq_t (dq_t (dq_t (dq_t (dq_t (dq_t (dq_t (dq_t (dq_t dzX9_isHired_0)))))))))))))))
theorem dX9_isHired_28 : decode cX9_isHired 28 = .ok (.iconst 0, 1) := dq_h (dq_t (dq_t (dq_t (dq_t (dq_t (dq_t (dq_t (dq_t (dq_t (dq_t (dq_t (dq_t (dq_t (dq_t (dq_t (dq_t dzX9_isHired_0))))))))))))))))
theorem dX9_isHired_29 : decode cX9_isHired 29 = .ok (.ireturn, 1) := dq_h (dq_t (dq_t (dq_t (dq_t (dq_t (dq_t (dq_t (dq_t (dq_t (dq_t (dq_t (dq_t (dq_t (dq_t (dq_t (dq_t (dq_t dzX9_isHired_0)))))))))))))))))
theorem dzX10_init_0 : dq_F cX10_init [(0, .aload_n 0, 1), (1, .invokespecial 3, 3), (4, .aload_n 0, 1), (5, .iconst 0, 1), (6, .putfield 9, 3), (9, .aload_n 0, 1), (10, .iconst 0, 1), (11, .putfield 15, 3), (14, .aload_n 0, 1), (15, .iconst 0, 1), (16, .putfield 18, 3), (19, .aload_n 0, 1), (20, .iconst 0, 1), (21, .putfield 21, 3), (24, .aload_n 0, 1), (25, .iconst (-1), 1), (26, .putfield 24, 3), (29, .aload_n 0, 1), (30, .iconst 0, 1), (31, .putfield 27, 3), (34, .aload_n 0, 1), (35, .iconst 0, 1), (36, .putfield 30, 3), (39, .aload_n 0, 1)] := dq_s 24 0 (by decide +kernel)
theorem dX10_init_0 : decode cX10_init 0 = .ok (.aload_n 0, 1) := dq_h dzX10_init_0
theorem dX10_init_1 : decode cX10_init 1 = .ok (.invokespecial 3, 3) := dq_h (dq_t dzX10_init_0)
theorem dX10_init_4 : decode cX10_init 4 = .ok (.aload_n 0, 1) := dq_h (dq_t (dq_t dzX10_init_0))
theorem dX10_init_5 : decode cX10_init 5 = .ok (.iconst 0, 1) := dq_h (dq_t (dq_t (dq_t dzX10_init_0)))
theorem dX10_init_6 : decode cX10_init 6 = .ok (.putfield 9, 3) := dq_h (dq_t (dq_t (dq_t (dq_t dzX10_init_0))))
theorem dX10_init_9 : decode cX10_init 9 = .ok (.aload_n 0, 1) := dq_h (dq_t (dq_t (dq_t (dq_t (dq_t dzX10_init_0)))))
theorem dX10_init_10 : decode cX10_init 10 = .ok (.iconst 0, 1) := dq_h (dq_t (dq_t (dq_t (dq_t (dq_t (dq_t dzX10_init_0))))))
theorem dX10_init_11 : decode cX10_init 11 = .ok (.putfield 15, 3) := dq_h (dq_t (dq_t (dq_t (dq_t (dq_t (dq_t (dq_t dzX10_init_0)))))))
theorem dX10_init_14 : decode cX10_init 14 = .ok (.aload_n 0, 1) := dq_h (dq_t (dq_t (dq_t (dq_t (dq_t (dq_t (dq_t (dq_t dzX10_init_0))))))))
theorem dX10_init_15 : decode cX10_init 15 = .ok (.iconst 0, 1) := dq_h (dq_t (dq_t (dq_t (dq_t (dq_t (dq_t (dq_t (dq_t (dq_t dzX10_init_0)))))))))
theorem dX10_init_16 : decode cX10_init 16 = .ok (.putfield 18, 3) := dq_h (dq_t (dq_t (dq_t (dq_t (dq_t (dq_t (dq_t (dq_t (dq_t (dq_t dzX10_init_0))))))))))
theorem dX10_init_19 : decode cX10_init 19 = .ok (.aload_n 0, 1) := dq_h (dq_t (dq_t (dq_t (dq_t (dq_t (dq_t (dq_t (dq_t (dq_t (dq_t (dq_t dzX10_init_0)))))))))))
theorem dX10_init_20 : decode cX10_init 20 = .ok (.iconst 0, 1) := dq_h (dq_t (dq_t (dq_t (dq_t (dq_t (dq_t (dq_t (dq_t (dq_t (dq_t (dq_t (dq_t dzX10_init_0))))))))))))
theorem dX10_init_21 : decode cX10_init 21 = .ok (.putfield 21, 3) := dq_h (dq_t (dq_t (dq_t (dq_t (dq_t (dq_t (dq_t (dq_t (dq_t (dq_t (dq_t (dq_t (dq_t dzX10_init_0)))))))))))))
theorem dX10_init_24 : decode cX10_init 24 = .ok (.aload_n 0, 1) := dq_h (dq_t (dq_t (dq_t (dq_t (dq_t (dq_t (dq_t (dq_t (dq_t (dq_t (dq_t (dq_t (dq_t (dq_t dzX10_init_0))))))))))))))
theorem dX10_init_25 : decode cX10_init 25 = .ok (.iconst (-1), 1) := dq_h (dq_t (dq_t (dq_t (dq_t (dq_t (dq_t (dq_t (dq_t (dq_t (dq_t (dq_t (dq_t (dq_t (dq_t (dq_t dzX10_init_0)))))))))))))))
theorem dX10_init_26 : decode cX10_init 26 = .ok (.putfield 24, 3) := dq_h (dq_t (dq_t (dq_t (dq_t (dq_t (dq_t (dq_t (dq_t (dq_t (dq_t (dq_t (dq_t (dq_t (dq_t (dq_t (dq_t dzX10_init_0))))))))))))))))
theorem dX10_init_29 : decode cX10_init 29 = .ok (.aload_n 0, 1) := dq_h (dq_t (dq_t (dq_t (dq_t (dq_t (dq_t (dq_t (dq_t (dq_t (dq_t (dq_t (dq_t (dq_t (dq_t (dq_t (dq_t (dq_t dzX10_init_0)))))))))))))))))
theorem dX10_init_30 : decode cX10_init 30 = .ok (.iconst 0, 1) := dq_h (dq_t (dq_t (dq_t (dq_t (dq_t (dq_t (dq_t (dq_t (dq_t (dq_t (dq_t (dq_t (dq_t (dq_t (dq_t (dq_t (dq_t (dq_t dzX10_init_0))))))))))))))))))
theorem dX10_init_31 : decode cX10_init 31 = .ok (.putfield 27, 3) := dq_h (dq_t (dq_t (dq_t (dq_t (dq_t (dq_t (dq_t (dq_t (dq_t (dq_t (dq_t (dq_t (dq_t (dq_t (dq_t (dq_t (dq_t (dq_t (dq_t dzX10_init_0)))))))))))))))))))
theorem dX10_init_34 : decode cX10_init 34 = .ok (.aload_n 0, 1) := dq_h (dq_t (dq_t (dq_t (dq_t (dq_t (dq_t (dq_t (dq_t (dq_t (dq_t (dq_t (dq_t (dq_t (dq_t (dq_t (dq_t (dq_t (dq_t (dq_t (dq_t dzX10_init_0))))))))))))))))))))
theorem dX10_init_35 : decode cX10_init 35 = .ok (.iconst 0, 1) := dq_h (dq_t (dq_t (dq_t (dq_t (dq_t (dq_t (dq_t (dq_t (dq_t (dq_t (dq_t (dq_t (dq_t (dq_t (dq_t (dq_t (dq_t (dq_t (dq_t (dq_t (dq_t dzX10_init_0)))))))))))))))))))))
theorem dX10_init_36 : decode cX10_init 36 = .ok (.putfield 30, 3) := dq_h (dq_t (dq_t (dq_t (dq_t (dq_t (dq_t (dq_t (dq_t (dq_t (dq_t (dq_t (dq_t (dq_t (dq_t (dq_t (dq_t (dq_t (dq_t (dq_t (dq_t (dq_t (dq_t dzX10_init_0))))))))))))))))))))))
theorem dX10_init_39 : decode cX10_init 39 = .ok (.aload_n 0, 1) := dq_h (dq_t (dq_t (dq_t (dq_t (dq_t (dq_t (dq_t (dq_t (dq_t (dq_t (dq_t (dq_t (dq_t (dq_t (dq_t (dq_t (dq_t (dq_t (dq_t (dq_t (dq_t (dq_t (dq_t dzX10_init_0)))))))))))))))))))))))
theorem dzX10_init_40 : dq_F cX10_init [(40, .iconst 0, 1), (41, .putfield 33, 3), (44, .return_, 1)] := dq_s 3 40 (by decide +kernel)
theorem dX10_init_40 : decode cX10_init 40 = .ok (.iconst 0, 1) := dq_h dzX10_init_40
theorem dX10_init_41 : decode cX10_init 41 = .ok (.putfield 33, 3) := dq_h (dq_t dzX10_init_40)
theorem dX10_init_44 : decode cX10_init 44 = .ok (.return_, 1) := dq_h (dq_t (dq_t dzX10_init_40))
theorem dzX10_begin_0 : dq_F cX10_begin [(0, .aload_n 1, 1), (1, .iload_n 3, 1), (2, .invokevirtual 36, 3), (5, .ifCond .ne 4, 3)] := dq_s 4 0 (by decide +kernel)
theorem dX10_begin_0 : decode cX10_begin 0 = .ok (.aload_n 1, 1) := dq_h dzX10_begin_0
theorem dX10_begin_1 : decode cX10_begin 1 = .ok (.iload_n 3, 1) := dq_h (dq_t dzX10_begin_0)
theorem dX10_begin_2 : decode cX10_begin 2 = .ok (.invokevirtual 36, 3) := dq_h (dq_t (dq_t dzX10_begin_0))
theorem dX10_begin_5 : decode cX10_begin 5 = .ok (.ifCond .ne 4, 3) := dq_h (dq_t (dq_t (dq_t dzX10_begin_0)))
end

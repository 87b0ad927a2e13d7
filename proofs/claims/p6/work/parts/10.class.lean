/-! THE CLASS: its world, its rows (printed by wip/whole/mkclass.py) -/
noncomputable def xkl : List Nat := [11, 3, 8, 21, 9, 20, 20, 20, 22, 20, 20, 20, 20, 20, 4, 20, 20, 4, 20, 20, 1, 7, 20, 20, 20, 20, 0, 20, 5, 20, 20, 20, 20, 1, 7, 20, 20, 20, 20, 0, 20, 5, 20, 20, 20, 20, 7, 20, 20, 20, 20, 10, 6, 23, 20, 20, 20, 20, 20, 20, 20, 20, 2, 23, 20, 20, 20, 20, 20, 20, 20, 20, 9, 20, 20, 20, 22, 20, 20, 20, 20, 20, 4, 20, 20, 4, 20, 20]
noncomputable def xnl : List Nat := [0, 0, 0, 700, 0, 8, 8, 8, 8, 6, 6, 6, 6, 8, 0, 700, 31, 0, 700, 31, 0, 0, 6, 6, 6, 6, 0, 1040, 0, 8, 8, 8, 3, 0, 0, 6, 6, 6, 6, 0, 1040, 0, 8, 8, 8, 3, 0, 6, 6, 6, 6, 0, 0, 7, 256, 256, 256, 256, 256, 256, 256, 6, 0, 6, 21, 21, 21, 21, 21, 21, 21, 21, 0, 8, 8, 8, 8, 6, 6, 6, 6, 8, 0, 700, 31, 0, 700, 31]
noncomputable def xk (k : Nat) : Nat := xkl.getD k 99
noncomputable def xN (k : Nat) : Nat := xnl.getD k 0
noncomputable def xord : List Nat := List.range 88
noncomputable def xtw (S : gS) : Nat := if S 0 7 = 0 then 72 else 4
noncomputable def xdr (S : gS) : Nat := if S 1 1 = 0 then 4 else 72
noncomputable def xfl (g : Nat → Nat) (c j : Nat) (f : Nat → Int32) : List Value := match c with
  | 0 => [.ref (g (j + 1)), .int (f 1)]
  | 1 => [.ref (g (j + 1)), .ref (g (j + 6)), .ref (g (j + 8)), .ref (g (j + 12))]
  | 2 => [.ref (g (j + 1)), .ref (g (j + 8)), .ref (g (j + 9)), .int (f 3), .int (f 4), .int (f 5)]
  | 3 => [.ref (g (j + 1)), .ref (g (if f 1 = 0 then 4 else 72)), .int (f 2), .int (f 3)]
  | 4 => [.ref (g (j + 1)), .ref (g (j + 2)), .int (f 2), .int (f 3)]
  | 5 => [.ref (g (j + 1)), .ref (g (j + 2)), .ref (g (j + 3)), .int (f 3)]
  | 6 => [.ref (g (j + 1)), .ref (g (j + 9)), .int (f 2), .int (f 3)]
  | 7 => [.int (f 0), .int (f 1), .ref (g (j + 1)), .ref (g (j + 2)), .ref (g (j + 3)), .ref (g (j + 4))]
  | 8 => [.ref (g (j + 1)), .int (f 1), .int (f 2), .int (f 3), .int (f 4), .int (f 5), .int (f 6)]
  | 9 => [.int (f 0), .ref (g (j + 1)), .ref (g (j + 2)), .ref (g (j + 3)), .ref (g (j + 4)), .int (f 5), .ref (g (j + 5)), .ref (g (j + 6)), .ref (g (j + 7)), .ref (g (j + 8)), .int (f 10), .ref (g (j + 9)), .int (f 12), .ref (g (j + 10)), .ref (g (j + 13))]
  | 10 => [.int (f 0), .int (f 1), .int (f 2), .int (f 3), .int (f 4), .int (f 5), .int (f 6), .int (f 7)]
  | 11 => [.ref (g (j + 1)), .ref (g (j + 20)), .ref (g (j + 33)), .ref (g (j + 46)), .ref (g (j + 51)), .ref (g (j + 52)), .ref (g (j + 62)), .ref (g (if f 7 = 0 then 72 else 4)), .int (f 8), .int (f 9)]
  | _ => []
noncomputable def xE (g : Nat → Nat) (cI cB cZ cQ : ClassId) (f : Nat → Int32) (j : Nat) : va_E :=
  if xk j = 20 then .inl (cI, xN j, .inl f) else if xk j = 21 then .inl (cB, xN j, .inl f) else if xk j = 22 then .inl (cZ, xN j, .inl f) else if xk j = 23 then .inl (cQ, xN j, .inr (.inr (.inr (.inr (fun i => if i < xN j then some (g (j + 1 + i)) else none))))) else .inr (xk j, xfl g (xk j) j f)
noncomputable def xcell (g : Nat → Nat) (cI cB cZ cQ : ClassId) (S : gS) (j : Nat) : Nat × va_E := (g j, xE g cI cB cZ cQ (S j) j)
abbrev xtys (cI cB cZ cQ : ClassId) : List (ClassId × FieldType) := [(cI, .int), (cB, .byte), (cZ, .boolean), (cQ, .array .int)]
noncomputable def xNest : List Cond := [Cond.methodLinkNest RX11 11 yX3_init "GrottoHours", Cond.methodLinkNest RX3 11 yX8_init "GrottoHours", Cond.fieldLinkNest RX11 73 "GrottoHours$Tape" "length" "I" "GrottoHours", Cond.fieldLinkNest RX3 43 "GrottoHours$Tape" "kind" "I" "GrottoHours", Cond.fieldLinkNest RX3 53 "GrottoHours$Tape" "start" "I" "GrottoHours", Cond.fieldLinkNest RX3 66 "GrottoHours$Tape" "number" "I" "GrottoHours", Cond.methodLinkNest RX3 20 yX9_init "GrottoHours", Cond.fieldLinkNest RX3 217 "GrottoHours$Rule" "knowsGreed" "Z" "GrottoHours", Cond.fieldLinkNest RX6 32 "GrottoHours$Town" "grottoes" "I" "GrottoHours", Cond.fieldLinkNest RX11 108 "GrottoHours$Town" "grottoes" "I" "GrottoHours", Cond.fieldLinkNest RX3 113 "GrottoHours$Town" "grottoes" "I" "GrottoHours", Cond.fieldLinkNest RX11 165 "GrottoHours$Town" "drip" "[I" "GrottoHours", Cond.fieldLinkNest RX3 116 "GrottoHours$Town" "drip" "[I" "GrottoHours", Cond.fieldLinkNest RX10 114 "GrottoHours$Town" "drip" "[I" "GrottoHours", Cond.fieldLinkNest RX11 168 "GrottoHours$Town" "phase" "[I" "GrottoHours", Cond.fieldLinkNest RX3 124 "GrottoHours$Town" "phase" "[I" "GrottoHours", Cond.fieldLinkNest RX6 52 "GrottoHours$Town" "price" "[I" "GrottoHours", Cond.fieldLinkNest RX11 171 "GrottoHours$Town" "price" "[I" "GrottoHours", Cond.fieldLinkNest RX10 108 "GrottoHours$Town" "price" "[I" "GrottoHours", Cond.fieldLinkNest RX3 127 "GrottoHours$Town" "price" "[I" "GrottoHours", Cond.fieldLinkNest RX10 76 "GrottoHours$Town" "hollow" "[Z" "GrottoHours", Cond.fieldLinkNest RX11 174 "GrottoHours$Town" "hollow" "[Z" "GrottoHours", Cond.fieldLinkNest RX3 130 "GrottoHours$Town" "hollow" "[Z" "GrottoHours", Cond.fieldLinkNest RX6 27 "GrottoHours$Town" "guilds" "I" "GrottoHours", Cond.fieldLinkNest RX7 31 "GrottoHours$Town" "guilds" "I" "GrottoHours", Cond.fieldLinkNest RX2 34 "GrottoHours$Town" "guilds" "I" "GrottoHours", Cond.fieldLinkNest RX11 111 "GrottoHours$Town" "guilds" "I" "GrottoHours", Cond.fieldLinkNest RX3 133 "GrottoHours$Town" "guilds" "I" "GrottoHours", Cond.fieldLinkNest RX10 42 "GrottoHours$Town" "greed" "[I" "GrottoHours", Cond.fieldLinkNest RX2 76 "GrottoHours$Town" "greed" "[I" "GrottoHours", Cond.fieldLinkNest RX11 194 "GrottoHours$Town" "greed" "[I" "GrottoHours", Cond.fieldLinkNest RX3 136 "GrottoHours$Town" "greed" "[I" "GrottoHours", Cond.fieldLinkNest RX7 36 "GrottoHours$Town" "sin" "[I" "GrottoHours", Cond.fieldLinkNest RX3 139 "GrottoHours$Town" "sin" "[I" "GrottoHours", Cond.fieldLinkNest RX7 37 "GrottoHours$Town" "purse" "[I" "GrottoHours", Cond.fieldLinkNest RX3 142 "GrottoHours$Town" "purse" "[I" "GrottoHours", Cond.fieldLinkNest RX7 38 "GrottoHours$Town" "hired" "[I" "GrottoHours", Cond.fieldLinkNest RX3 145 "GrottoHours$Town" "hired" "[I" "GrottoHours", Cond.fieldLinkNest RX3 161 "GrottoHours$Town" "wets" "I" "GrottoHours", Cond.fieldLinkNest RX3 164 "GrottoHours$Town" "wet" "[I" "GrottoHours", Cond.fieldLinkNest RX3 169 "GrottoHours$Town" "bound" "I" "GrottoHours", Cond.fieldLinkNest RX3 102 "GrottoHours$Town" "prays" "LGrottoHours$Rule;" "GrottoHours", Cond.fieldLinkNest RX10 117 "GrottoHours$Town" "prays" "LGrottoHours$Rule;" "GrottoHours", Cond.fieldLinkNest RX11 304 "GrottoHours$Town" "prays" "LGrottoHours$Rule;" "GrottoHours", Cond.fieldLinkNest RX10 94 "GrottoHours$Town" "costs" "LGrottoHours$Rule;" "GrottoHours", Cond.fieldLinkNest RX3 111 "GrottoHours$Town" "costs" "LGrottoHours$Rule;" "GrottoHours", Cond.fieldLinkNest RX11 313 "GrottoHours$Town" "costs" "LGrottoHours$Rule;" "GrottoHours", Cond.fieldLinkNest RX11 69 "GrottoHours$Reader" "tape" "LGrottoHours$Tape;" "GrottoHours", Cond.fieldLinkNest RX11 96 "GrottoHours$Reader" "draft" "LGrottoHours$Town;" "GrottoHours", Cond.fieldLinkNest RX11 102 "GrottoHours$Reader" "faultPlace" "I" "GrottoHours", Cond.methodLinkNest RX11 18 yX1_init "GrottoHours", Cond.methodLinkNest RX1 11 yX7_init "GrottoHours", Cond.fieldLinkNest RX10 55 "GrottoHours$State" "hour" "I" "GrottoHours", Cond.fieldLinkNest RX11 114 "GrottoHours$State" "hour" "I" "GrottoHours", Cond.fieldLinkNest RX10 60 "GrottoHours$State" "drained" "I" "GrottoHours", Cond.fieldLinkNest RX11 128 "GrottoHours$State" "drained" "I" "GrottoHours", Cond.fieldLinkNest RX10 45 "GrottoHours$State" "sin" "[I" "GrottoHours", Cond.fieldLinkNest RX11 197 "GrottoHours$State" "sin" "[I" "GrottoHours", Cond.fieldLinkNest RX10 49 "GrottoHours$State" "purse" "[I" "GrottoHours", Cond.fieldLinkNest RX6 77 "GrottoHours$State" "purse" "[I" "GrottoHours", Cond.fieldLinkNest RX11 200 "GrottoHours$State" "purse" "[I" "GrottoHours", Cond.fieldLinkNest RX10 51 "GrottoHours$State" "silences" "[I" "GrottoHours", Cond.fieldLinkNest RX11 203 "GrottoHours$State" "silences" "[I" "GrottoHours", Cond.fieldLinkNest RX10 53 "GrottoHours$State" "hired" "[I" "GrottoHours", Cond.fieldLinkNest RX11 206 "GrottoHours$State" "hired" "[I" "GrottoHours", Cond.methodLinkNest RX1 20 yX0_init "GrottoHours", Cond.fieldLinkNest RX1 40 "GrottoHours$Acts" "many" "I" "GrottoHours", Cond.fieldLinkNest RX11 141 "GrottoHours$Acts" "many" "I" "GrottoHours", Cond.methodLinkNest RX1 27 yX5_init "GrottoHours", Cond.fieldLinkNest RX1 44 "GrottoHours$Seen" "many" "I" "GrottoHours", Cond.fieldLinkNest RX11 150 "GrottoHours$Seen" "many" "I" "GrottoHours", Cond.fieldLinkNest RX2 39 "GrottoHours$Book" "state" "LGrottoHours$State;" "GrottoHours", Cond.fieldLinkNest RX11 105 "GrottoHours$Book" "state" "LGrottoHours$State;" "GrottoHours", Cond.fieldLinkNest RX11 137 "GrottoHours$Book" "acts" "LGrottoHours$Acts;" "GrottoHours", Cond.fieldLinkNest RX2 55 "GrottoHours$Book" "seen" "LGrottoHours$Seen;" "GrottoHours", Cond.fieldLinkNest RX11 146 "GrottoHours$Book" "seen" "LGrottoHours$Seen;" "GrottoHours", Cond.fieldLinkNest RX11 153 "GrottoHours$Book" "refused" "[I" "GrottoHours", Cond.methodLinkNest RX11 28 yX7_init "GrottoHours", Cond.methodLinkNest RX11 35 yX10_init "GrottoHours", Cond.fieldLinkNest RX2 79 "GrottoHours$Walk" "greed" "I" "GrottoHours", Cond.fieldLinkNest RX2 91 "GrottoHours$Walk" "sin" "I" "GrottoHours", Cond.fieldLinkNest RX11 250 "GrottoHours$Walk" "sin" "I" "GrottoHours", Cond.fieldLinkNest RX11 252 "GrottoHours$Walk" "purse" "I" "GrottoHours", Cond.fieldLinkNest RX11 254 "GrottoHours$Walk" "silences" "I" "GrottoHours", Cond.fieldLinkNest RX11 256 "GrottoHours$Walk" "hired" "I" "GrottoHours", Cond.fieldLinkNest RX2 94 "GrottoHours$Walk" "hour" "I" "GrottoHours", Cond.fieldLinkNest RX11 261 "GrottoHours$Walk" "hour" "I" "GrottoHours", Cond.methodLinkNest RX11 42 yX6_init "GrottoHours", Cond.fieldLinkNest RX11 301 "GrottoHours$Sharing" "row" "[I" "GrottoHours", Cond.fieldLinkNest RX11 297 "GrottoHours$Sharing" "many" "I" "GrottoHours", Cond.fieldLinkNest RX11 298 "GrottoHours$Sharing" "much" "I" "GrottoHours", Cond.methodLinkNest RX11 49 yX2_init "GrottoHours", Cond.fieldLinkNest RX11 331 "GrottoHours$Guess" "many" "I" "GrottoHours", Cond.fieldLinkNest RX11 332 "GrottoHours$Guess" "earliest" "I" "GrottoHours", Cond.fieldLinkNest RX11 335 "GrottoHours$Guess" "isSoWithout" "Z" "GrottoHours", Cond.methodLinkNest RX11 56 yX9_init "GrottoHours", Cond.methodLinkNest RX9 76 yX11_isOneOf "GrottoHours", Cond.methodLinkNest RX3 69 yX11_isWithin "GrottoHours", Cond.methodLinkNest RX7 39 yX11_isOneOf "GrottoHours", Cond.methodLinkNest RX6 73 yX11_isOneOf "GrottoHours"]
def xO (g : Nat → Nat) (cI cB cZ cQ : ClassId) (Am : (Nat → Prop) → State → Heap → Prop) : Prop := gO (xcell g cI cB cZ cQ) xord g ∧ ∀ (A : Nat → Prop) (U : State) (H : Heap), Am A U H → ∀ w ∈ xNest, va_Nw w U
theorem x_lt {k c : Nat} (h : xk k = c) (hc : c ≠ 99) : k < 88 := by
  rcases Nat.lt_or_ge k 88 with q | q
  · exact q
  · exfalso
    apply hc
    rw [← h]
    show (xkl[k]?).getD 99 = 99
    rw [List.getElem?_eq_none (show xkl.length ≤ k from q)]
    rfl
theorem x_pos {k c : Nat} (h : xk k = c) (hc : c ≠ 99) : xord[k]? = some k := by
  unfold xord
  rw [List.getElem?_range (x_lt h hc)]
theorem x_all {P : Nat → Prop} {c k : Nat} (hP : ∀ k : Fin 88, xk k.val = c → P k.val) (hc : c ≠ 99) (h : xk k = c) : P k := hP ⟨k, x_lt h hc⟩ h
theorem xtw_k {S : gS} {T : Nat} (h : T = xtw S) : xk T = 9 := by
  subst h
  unfold xtw
  split <;> decide
theorem xdr_k {S : gS} {T : Nat} (h : T = xdr S) : xk T = 9 := by
  subst h
  unfold xdr
  split <;> decide
theorem x_cI (g : Nat → Nat) (cI cB cZ cQ : ClassId) (S : gS) {k : Nat} (h : xk k = 20) : xcell g cI cB cZ cQ S k = (g k, .inl (cI, xN k, .inl (S k))) := by
  unfold xcell xE
  rw [if_pos h]
theorem x_cB (g : Nat → Nat) (cI cB cZ cQ : ClassId) (S : gS) {k : Nat} (h : xk k = 21) : xcell g cI cB cZ cQ S k = (g k, .inl (cB, xN k, .inl (S k))) := by
  unfold xcell xE
  rw [h]
  rfl
theorem x_cZ (g : Nat → Nat) (cI cB cZ cQ : ClassId) (S : gS) {k : Nat} (h : xk k = 22) : xcell g cI cB cZ cQ S k = (g k, .inl (cZ, xN k, .inl (S k))) := by
  unfold xcell xE
  rw [h]
  rfl
theorem x_cQ (g : Nat → Nat) (cI cB cZ cQ : ClassId) (S : gS) {k : Nat} (h : xk k = 23) : xcell g cI cB cZ cQ S k = (g k, .inl (cQ, xN k, .inr (.inr (.inr (.inr (fun i => if i < xN k then some (g (k + 1 + i)) else none)))))) := by
  unfold xcell xE
  rw [h]
  rfl
theorem x_c0 (g : Nat → Nat) (cI cB cZ cQ : ClassId) (S : gS) {k : Nat} (h : xk k = 0) : xcell g cI cB cZ cQ S k = (g k, .inr (0, xfl g 0 k (S k))) := by
  unfold xcell xE
  rw [h]
  rfl
set_option maxRecDepth 100000 in
theorem x_in0 : ∀ w ∈ u_ws RX0 TX0 2, w ∈ gT := gT_places [363, 365] (by decide +kernel) (by decide +kernel)
theorem x_c1 (g : Nat → Nat) (cI cB cZ cQ : ClassId) (S : gS) {k : Nat} (h : xk k = 1) : xcell g cI cB cZ cQ S k = (g k, .inr (1, xfl g 1 k (S k))) := by
  unfold xcell xE
  rw [h]
  rfl
set_option maxRecDepth 100000 in
theorem x_in1 : ∀ w ∈ u_ws RX1 TX1 4, w ∈ gT := gT_places [399, 401, 403, 405] (by decide +kernel) (by decide +kernel)
theorem x_c2 (g : Nat → Nat) (cI cB cZ cQ : ClassId) (S : gS) {k : Nat} (h : xk k = 2) : xcell g cI cB cZ cQ S k = (g k, .inr (2, xfl g 2 k (S k))) := by
  unfold xcell xE
  rw [h]
  rfl
set_option maxRecDepth 100000 in
theorem x_in2 : ∀ w ∈ u_ws RX2 TX2 6, w ∈ gT := gT_places [489, 491, 493, 495, 497, 499] (by decide +kernel) (by decide +kernel)
theorem x_c3 (g : Nat → Nat) (cI cB cZ cQ : ClassId) (S : gS) {k : Nat} (h : xk k = 3) : xcell g cI cB cZ cQ S k = (g k, .inr (3, xfl g 3 k (S k))) := by
  unfold xcell xE
  rw [h]
  rfl
set_option maxRecDepth 100000 in
theorem x_in3 : ∀ w ∈ u_ws RX3 TX3 4, w ∈ gT := gT_places [300, 302, 304, 306] (by decide +kernel) (by decide +kernel)
theorem x_c4 (g : Nat → Nat) (cI cB cZ cQ : ClassId) (S : gS) {k : Nat} (h : xk k = 4) : xcell g cI cB cZ cQ S k = (g k, .inr (4, xfl g 4 k (S k))) := by
  unfold xcell xE
  rw [h]
  rfl
set_option maxRecDepth 100000 in
theorem x_in4 : ∀ w ∈ u_ws RX4 TX4 4, w ∈ gT := gT_places [197, 199, 201, 203] (by decide +kernel) (by decide +kernel)
theorem x_c5 (g : Nat → Nat) (cI cB cZ cQ : ClassId) (S : gS) {k : Nat} (h : xk k = 5) : xcell g cI cB cZ cQ S k = (g k, .inr (5, xfl g 5 k (S k))) := by
  unfold xcell xE
  rw [h]
  rfl
set_option maxRecDepth 100000 in
theorem x_in5 : ∀ w ∈ u_ws RX5 TX5 4, w ∈ gT := gT_places [380, 382, 384, 386] (by decide +kernel) (by decide +kernel)
theorem x_c6 (g : Nat → Nat) (cI cB cZ cQ : ClassId) (S : gS) {k : Nat} (h : xk k = 6) : xcell g cI cB cZ cQ S k = (g k, .inr (6, xfl g 6 k (S k))) := by
  unfold xcell xE
  rw [h]
  rfl
set_option maxRecDepth 100000 in
theorem x_in6 : ∀ w ∈ u_ws RX6 TX6 4, w ∈ gT := gT_places [464, 466, 468, 470] (by decide +kernel) (by decide +kernel)
theorem x_c7 (g : Nat → Nat) (cI cB cZ cQ : ClassId) (S : gS) {k : Nat} (h : xk k = 7) : xcell g cI cB cZ cQ S k = (g k, .inr (7, xfl g 7 k (S k))) := by
  unfold xcell xE
  rw [h]
  rfl
set_option maxRecDepth 100000 in
theorem x_in7 : ∀ w ∈ u_ws RX7 TX7 6, w ∈ gT := gT_places [340, 342, 344, 346, 348, 350] (by decide +kernel) (by decide +kernel)
theorem x_c8 (g : Nat → Nat) (cI cB cZ cQ : ClassId) (S : gS) {k : Nat} (h : xk k = 8) : xcell g cI cB cZ cQ S k = (g k, .inr (8, xfl g 8 k (S k))) := by
  unfold xcell xE
  rw [h]
  rfl
set_option maxRecDepth 100000 in
theorem x_in8 : ∀ w ∈ u_ws RX8 TX8 7, w ∈ gT := gT_places [164, 166, 168, 170, 172, 174, 176] (by decide +kernel) (by decide +kernel)
theorem x_c9 (g : Nat → Nat) (cI cB cZ cQ : ClassId) (S : gS) {k : Nat} (h : xk k = 9) : xcell g cI cB cZ cQ S k = (g k, .inr (9, xfl g 9 k (S k))) := by
  unfold xcell xE
  rw [h]
  rfl
set_option maxRecDepth 100000 in
theorem x_in9 : ∀ w ∈ u_ws RX9 TX9 15, w ∈ gT := gT_places [262, 264, 266, 268, 270, 272, 274, 276, 278, 280, 282, 284, 286, 288, 290] (by decide +kernel) (by decide +kernel)
theorem x_c10 (g : Nat → Nat) (cI cB cZ cQ : ClassId) (S : gS) {k : Nat} (h : xk k = 10) : xcell g cI cB cZ cQ S k = (g k, .inr (10, xfl g 10 k (S k))) := by
  unfold xcell xE
  rw [h]
  rfl
set_option maxRecDepth 100000 in
theorem x_in10 : ∀ w ∈ u_ws RX10 TX10 8, w ∈ gT := gT_places [432, 434, 436, 438, 440, 442, 444, 446] (by decide +kernel) (by decide +kernel)
theorem x_c11 (g : Nat → Nat) (cI cB cZ cQ : ClassId) (S : gS) {k : Nat} (h : xk k = 11) : xcell g cI cB cZ cQ S k = (g k, .inr (11, xfl g 11 k (S k))) := by
  unfold xcell xE
  rw [h]
  rfl
set_option maxRecDepth 100000 in
theorem x_in11 : ∀ w ∈ u_ws RX11 TX11 10, w ∈ gT := gT_places [514, 516, 518, 520, 522, 524, 526, 528, 530, 532] (by decide +kernel) (by decide +kernel)
theorem xs_0_0 {k : Nat} (h : xk k = 0) : xk (k + 1) = 20 ∧ xN (k + 1) = 1040 := x_all (P := fun k => xk (k + 1) = 20 ∧ xN (k + 1) = 1040) (by decide) (by decide) h
theorem xs_1_0 {k : Nat} (h : xk k = 1) : xk (k + 1) = 7 := x_all (P := fun k => xk (k + 1) = 7) (by decide) (by decide) h
theorem xs_1_1 {k : Nat} (h : xk k = 1) : xk (k + 6) = 0 := x_all (P := fun k => xk (k + 6) = 0) (by decide) (by decide) h
theorem xs_1_2 {k : Nat} (h : xk k = 1) : xk (k + 8) = 5 := x_all (P := fun k => xk (k + 8) = 5) (by decide) (by decide) h
theorem xs_1_3 {k : Nat} (h : xk k = 1) : xk (k + 12) = 20 ∧ xN (k + 12) = 3 := x_all (P := fun k => xk (k + 12) = 20 ∧ xN (k + 12) = 3) (by decide) (by decide) h
theorem xs_2_0 {k : Nat} (h : xk k = 2) : xk (k + 1) = 23 ∧ xN (k + 1) = 6 := x_all (P := fun k => xk (k + 1) = 23 ∧ xN (k + 1) = 6) (by decide) (by decide) h
theorem xs_2_1 {k : Nat} (h : xk k = 2) : xk (k + 8) = 20 ∧ xN (k + 8) = 21 := x_all (P := fun k => xk (k + 8) = 20 ∧ xN (k + 8) = 21) (by decide) (by decide) h
theorem xs_2_2 {k : Nat} (h : xk k = 2) : xk (k + 9) = 20 ∧ xN (k + 9) = 21 := x_all (P := fun k => xk (k + 9) = 20 ∧ xN (k + 9) = 21) (by decide) (by decide) h
theorem xs_3_0 {k : Nat} (h : xk k = 3) : xk (k + 1) = 8 := x_all (P := fun k => xk (k + 1) = 8) (by decide) (by decide) h
theorem xs_4_0 {k : Nat} (h : xk k = 4) : xk (k + 1) = 20 ∧ xN (k + 1) = 700 := x_all (P := fun k => xk (k + 1) = 20 ∧ xN (k + 1) = 700) (by decide) (by decide) h
theorem xs_4_1 {k : Nat} (h : xk k = 4) : xk (k + 2) = 20 ∧ xN (k + 2) = 31 := x_all (P := fun k => xk (k + 2) = 20 ∧ xN (k + 2) = 31) (by decide) (by decide) h
theorem xs_5_0 {k : Nat} (h : xk k = 5) : xk (k + 1) = 20 ∧ xN (k + 1) = 8 := x_all (P := fun k => xk (k + 1) = 20 ∧ xN (k + 1) = 8) (by decide) (by decide) h
theorem xs_5_1 {k : Nat} (h : xk k = 5) : xk (k + 2) = 20 ∧ xN (k + 2) = 8 := x_all (P := fun k => xk (k + 2) = 20 ∧ xN (k + 2) = 8) (by decide) (by decide) h
theorem xs_5_2 {k : Nat} (h : xk k = 5) : xk (k + 3) = 20 ∧ xN (k + 3) = 8 := x_all (P := fun k => xk (k + 3) = 20 ∧ xN (k + 3) = 8) (by decide) (by decide) h
theorem xs_6_0 {k : Nat} (h : xk k = 6) : xk (k + 1) = 23 ∧ xN (k + 1) = 7 := x_all (P := fun k => xk (k + 1) = 23 ∧ xN (k + 1) = 7) (by decide) (by decide) h
theorem xs_6_1 {k : Nat} (h : xk k = 6) : xk (k + 9) = 20 ∧ xN (k + 9) = 6 := x_all (P := fun k => xk (k + 9) = 20 ∧ xN (k + 9) = 6) (by decide) (by decide) h
theorem xs_7_2 {k : Nat} (h : xk k = 7) : xk (k + 1) = 20 ∧ xN (k + 1) = 6 := x_all (P := fun k => xk (k + 1) = 20 ∧ xN (k + 1) = 6) (by decide) (by decide) h
theorem xs_7_3 {k : Nat} (h : xk k = 7) : xk (k + 2) = 20 ∧ xN (k + 2) = 6 := x_all (P := fun k => xk (k + 2) = 20 ∧ xN (k + 2) = 6) (by decide) (by decide) h
theorem xs_7_4 {k : Nat} (h : xk k = 7) : xk (k + 3) = 20 ∧ xN (k + 3) = 6 := x_all (P := fun k => xk (k + 3) = 20 ∧ xN (k + 3) = 6) (by decide) (by decide) h
theorem xs_7_5 {k : Nat} (h : xk k = 7) : xk (k + 4) = 20 ∧ xN (k + 4) = 6 := x_all (P := fun k => xk (k + 4) = 20 ∧ xN (k + 4) = 6) (by decide) (by decide) h
theorem xs_8_0 {k : Nat} (h : xk k = 8) : xk (k + 1) = 21 ∧ xN (k + 1) = 700 := x_all (P := fun k => xk (k + 1) = 21 ∧ xN (k + 1) = 700) (by decide) (by decide) h
theorem xs_9_1 {k : Nat} (h : xk k = 9) : xk (k + 1) = 20 ∧ xN (k + 1) = 8 := x_all (P := fun k => xk (k + 1) = 20 ∧ xN (k + 1) = 8) (by decide) (by decide) h
theorem xs_9_2 {k : Nat} (h : xk k = 9) : xk (k + 2) = 20 ∧ xN (k + 2) = 8 := x_all (P := fun k => xk (k + 2) = 20 ∧ xN (k + 2) = 8) (by decide) (by decide) h
theorem xs_9_3 {k : Nat} (h : xk k = 9) : xk (k + 3) = 20 ∧ xN (k + 3) = 8 := x_all (P := fun k => xk (k + 3) = 20 ∧ xN (k + 3) = 8) (by decide) (by decide) h
theorem xs_9_4 {k : Nat} (h : xk k = 9) : xk (k + 4) = 22 ∧ xN (k + 4) = 8 := x_all (P := fun k => xk (k + 4) = 22 ∧ xN (k + 4) = 8) (by decide) (by decide) h
theorem xs_9_6 {k : Nat} (h : xk k = 9) : xk (k + 5) = 20 ∧ xN (k + 5) = 6 := x_all (P := fun k => xk (k + 5) = 20 ∧ xN (k + 5) = 6) (by decide) (by decide) h
theorem xs_9_7 {k : Nat} (h : xk k = 9) : xk (k + 6) = 20 ∧ xN (k + 6) = 6 := x_all (P := fun k => xk (k + 6) = 20 ∧ xN (k + 6) = 6) (by decide) (by decide) h
theorem xs_9_8 {k : Nat} (h : xk k = 9) : xk (k + 7) = 20 ∧ xN (k + 7) = 6 := x_all (P := fun k => xk (k + 7) = 20 ∧ xN (k + 7) = 6) (by decide) (by decide) h
theorem xs_9_9 {k : Nat} (h : xk k = 9) : xk (k + 8) = 20 ∧ xN (k + 8) = 6 := x_all (P := fun k => xk (k + 8) = 20 ∧ xN (k + 8) = 6) (by decide) (by decide) h
theorem xs_9_11 {k : Nat} (h : xk k = 9) : xk (k + 9) = 20 ∧ xN (k + 9) = 8 := x_all (P := fun k => xk (k + 9) = 20 ∧ xN (k + 9) = 8) (by decide) (by decide) h
theorem xs_9_13 {k : Nat} (h : xk k = 9) : xk (k + 10) = 4 := x_all (P := fun k => xk (k + 10) = 4) (by decide) (by decide) h
theorem xs_9_14 {k : Nat} (h : xk k = 9) : xk (k + 13) = 4 := x_all (P := fun k => xk (k + 13) = 4) (by decide) (by decide) h
theorem xs_11_0 {k : Nat} (h : xk k = 11) : xk (k + 1) = 3 := x_all (P := fun k => xk (k + 1) = 3) (by decide) (by decide) h
theorem xs_11_1 {k : Nat} (h : xk k = 11) : xk (k + 20) = 1 := x_all (P := fun k => xk (k + 20) = 1) (by decide) (by decide) h
theorem xs_11_2 {k : Nat} (h : xk k = 11) : xk (k + 33) = 1 := x_all (P := fun k => xk (k + 33) = 1) (by decide) (by decide) h
theorem xs_11_3 {k : Nat} (h : xk k = 11) : xk (k + 46) = 7 := x_all (P := fun k => xk (k + 46) = 7) (by decide) (by decide) h
theorem xs_11_4 {k : Nat} (h : xk k = 11) : xk (k + 51) = 10 := x_all (P := fun k => xk (k + 51) = 10) (by decide) (by decide) h
theorem xs_11_5 {k : Nat} (h : xk k = 11) : xk (k + 52) = 6 := x_all (P := fun k => xk (k + 52) = 6) (by decide) (by decide) h
theorem xs_11_6 {k : Nat} (h : xk k = 11) : xk (k + 62) = 2 := x_all (P := fun k => xk (k + 62) = 2) (by decide) (by decide) h
theorem xs_rows {k i : Nat} (h : xk k = 23) (hi : i < xN k) : xk (k + 1 + i) = 20 := by
  have := x_all (P := fun k => ∀ i : Fin 7, i.val < xN k → xk (k + 1 + i.val) = 20) (by decide) (by decide) h
  have h7 : xN k ≤ 7 := x_all (P := fun k => xN k ≤ 7) (by decide) (by decide) h
  exact this ⟨i, by omega⟩ hi
theorem xq_53 {i : Int32} {T : Nat} (h : vp_in i 7) (e : T = 53 + 1 + Int32.toNatClampNeg i) : xk T = 20 ∧ xN T = 256 := by
  have hlt : i.toNatClampNeg < 7 := Nat.not_le.mp fun z => h (Or.inr z)
  subst e
  exact (show ∀ j : Fin 7, xk (53 + 1 + j.val) = 20 ∧ xN (53 + 1 + j.val) = 256 by decide) ⟨_, hlt⟩
theorem xq_63 {i : Int32} {T : Nat} (h : vp_in i 6) (e : T = 63 + 1 + Int32.toNatClampNeg i) : xk T = 20 ∧ xN T = 21 := by
  have hlt : i.toNatClampNeg < 6 := Nat.not_le.mp fun z => h (Or.inr z)
  subst e
  exact (show ∀ j : Fin 6, xk (63 + 1 + j.val) = 20 ∧ xN (63 + 1 + j.val) = 21 by decide) ⟨_, hlt⟩
section XROWS
variable {p : Program} {l : Launch} {e : Env} {R : Room} {s : State} {m : MethodId} {args : Array Value} {below : List Frame} {meth : Method} {c : Code} {H : Heap} {locs : List Loc} {cs sl : Nat} {Q : State → Prop} {Am : (Nat → Prop) → State → Heap → Prop} {cc : ByteArray} {nL pc : Nat} {ret : Option FieldType} {own : String} {D : va_G} {g : Nat → Nat} {cI cB cZ cQ : ClassId} {S S' : gS} {ls : Array Slot} {rest : List Value} {k : Nat}
theorem xl_X8_9 : Cond.fieldLink RX8 9 "GrottoHours$Tape" "bytes" "[B" ∈ gT := gT_c1 47 rfl rfl
theorem xg_X8_9 (C : gC p s m args meth c cc nL RX8 ret D (xtys cI cB cZ cQ) xord g Am) (O : xO g cI cB cZ cQ Am) (X : gX D (xcell g cI cB cZ cQ) xord g S s H locs) (hk : xk k = 8) {j : Nat} (hj : k + 1 = j) (hdg : decode cc pc = .ok (.getfield 9, 3)) (kk : W p l e R s m args below meth c H locs cs sl Q (F0 m (pc + 3) ls (.ref (g j) :: rest))) : W p l e R s m args below meth c H locs cs sl Q (F0 m pc ls (.ref (g k) :: rest)) := by
  subst hj
  exact g_get C X (q := k) (k := k) (x_pos hk (by decide)) (x_c8 g cI cB cZ cQ S hk) (ci := 8) rfl x_in8 0 (by decide) xl_X8_9 rfl hdg kk
theorem xl_X8_15 : Cond.fieldLink RX8 15 "GrottoHours$Tape" "length" "I" ∈ gT := gT_c1 48 rfl rfl
theorem xg_X8_15 (C : gC p s m args meth c cc nL RX8 ret D (xtys cI cB cZ cQ) xord g Am) (O : xO g cI cB cZ cQ Am) (X : gX D (xcell g cI cB cZ cQ) xord g S s H locs) (hk : xk k = 8) (hdg : decode cc pc = .ok (.getfield 15, 3)) (kk : W p l e R s m args below meth c H locs cs sl Q (F0 m (pc + 3) ls (.int (S k 1) :: rest))) : W p l e R s m args below meth c H locs cs sl Q (F0 m pc ls (.ref (g k) :: rest)) :=
  g_get C X (q := k) (k := k) (x_pos hk (by decide)) (x_c8 g cI cB cZ cQ S hk) (ci := 8) rfl x_in8 1 (by decide) xl_X8_15 rfl hdg kk
theorem xp_X8_15 (C : gC p s m args meth c cc nL RX8 ret D (xtys cI cB cZ cQ) xord g Am) (O : xO g cI cB cZ cQ Am) (X : gX D (xcell g cI cB cZ cQ) xord g S s H locs) (hk : xk k = 8) {x : Int32} (hS : S' = sU S k 1 x) (hdg : decode cc pc = .ok (.putfield 15, 3)) (kk : ∀ (H1 : Heap) (locs1 : List Loc), gX D (xcell g cI cB cZ cQ) xord g S' s H1 locs1 → W p l e R s m args below meth c H1 locs1 cs sl Q (F0 m (pc + 3) ls rest)) : W p l e R s m args below meth c H locs cs sl Q (F0 m pc ls (.int x :: .ref (g k) :: rest)) := by
  subst hS
  exact g_put C O.1 X (q := k) (k := k) (x_pos hk (by decide)) (x_c8 g cI cB cZ cQ S hk) (ci := 8) rfl x_in8 tyX8 tyX8_ok nmX8 1 (by decide) xl_X8_15 rfl rfl rfl (Nat.le_of_ble_eq_true rfl) (fun i h => sU_ne h) (by rw [x_c8 g cI cB cZ cQ _ hk, sU_eq]; rfl) hdg kk
theorem xl_X11_73 : Cond.fieldLinkNest RX11 73 "GrottoHours$Tape" "length" "I" "GrottoHours" ∈ xNest := List.mem_of_getElem? (i := 2) rfl
theorem xg_X11_73 (C : gC p s m args meth c cc nL RX11 ret D (xtys cI cB cZ cQ) xord g Am) (O : xO g cI cB cZ cQ Am) (X : gX D (xcell g cI cB cZ cQ) xord g S s H locs) (hk : xk k = 8) (hdg : decode cc pc = .ok (.getfield 73, 3)) (kk : W p l e R s m args below meth c H locs cs sl Q (F0 m (pc + 3) ls (.int (S k 1) :: rest))) : W p l e R s m args below meth c H locs cs sl Q (F0 m pc ls (.ref (g k) :: rest)) :=
  g_getN C X (q := k) (k := k) (x_pos hk (by decide)) (x_c8 g cI cB cZ cQ S hk) (ci := 8) rfl x_in8 1 (by decide) (O.2 _ _ _ C.2.2.2.2.2 _ xl_X11_73) rfl hdg kk
theorem xp_X11_73 (C : gC p s m args meth c cc nL RX11 ret D (xtys cI cB cZ cQ) xord g Am) (O : xO g cI cB cZ cQ Am) (X : gX D (xcell g cI cB cZ cQ) xord g S s H locs) (hk : xk k = 8) {x : Int32} (hS : S' = sU S k 1 x) (hdg : decode cc pc = .ok (.putfield 73, 3)) (kk : ∀ (H1 : Heap) (locs1 : List Loc), gX D (xcell g cI cB cZ cQ) xord g S' s H1 locs1 → W p l e R s m args below meth c H1 locs1 cs sl Q (F0 m (pc + 3) ls rest)) : W p l e R s m args below meth c H locs cs sl Q (F0 m pc ls (.int x :: .ref (g k) :: rest)) := by
  subst hS
  exact g_putN C O.1 X (q := k) (k := k) (x_pos hk (by decide)) (x_c8 g cI cB cZ cQ S hk) (ci := 8) rfl x_in8 tyX8 tyX8_ok nmX8 1 (by decide) (O.2 _ _ _ C.2.2.2.2.2 _ xl_X11_73) rfl rfl rfl (Nat.le_of_ble_eq_true rfl) (fun i h => sU_ne h) (by rw [x_c8 g cI cB cZ cQ _ hk, sU_eq]; rfl) hdg kk
theorem xl_X8_19 : Cond.fieldLink RX8 19 "GrottoHours$Tape" "end" "I" ∈ gT := gT_c1 50 rfl rfl
theorem xg_X8_19 (C : gC p s m args meth c cc nL RX8 ret D (xtys cI cB cZ cQ) xord g Am) (O : xO g cI cB cZ cQ Am) (X : gX D (xcell g cI cB cZ cQ) xord g S s H locs) (hk : xk k = 8) (hdg : decode cc pc = .ok (.getfield 19, 3)) (kk : W p l e R s m args below meth c H locs cs sl Q (F0 m (pc + 3) ls (.int (S k 2) :: rest))) : W p l e R s m args below meth c H locs cs sl Q (F0 m pc ls (.ref (g k) :: rest)) :=
  g_get C X (q := k) (k := k) (x_pos hk (by decide)) (x_c8 g cI cB cZ cQ S hk) (ci := 8) rfl x_in8 2 (by decide) xl_X8_19 rfl hdg kk
theorem xp_X8_19 (C : gC p s m args meth c cc nL RX8 ret D (xtys cI cB cZ cQ) xord g Am) (O : xO g cI cB cZ cQ Am) (X : gX D (xcell g cI cB cZ cQ) xord g S s H locs) (hk : xk k = 8) {x : Int32} (hS : S' = sU S k 2 x) (hdg : decode cc pc = .ok (.putfield 19, 3)) (kk : ∀ (H1 : Heap) (locs1 : List Loc), gX D (xcell g cI cB cZ cQ) xord g S' s H1 locs1 → W p l e R s m args below meth c H1 locs1 cs sl Q (F0 m (pc + 3) ls rest)) : W p l e R s m args below meth c H locs cs sl Q (F0 m pc ls (.int x :: .ref (g k) :: rest)) := by
  subst hS
  exact g_put C O.1 X (q := k) (k := k) (x_pos hk (by decide)) (x_c8 g cI cB cZ cQ S hk) (ci := 8) rfl x_in8 tyX8 tyX8_ok nmX8 2 (by decide) xl_X8_19 rfl rfl rfl (Nat.le_of_ble_eq_true rfl) (fun i h => sU_ne h) (by rw [x_c8 g cI cB cZ cQ _ hk, sU_eq]; rfl) hdg kk
theorem xl_X8_22 : Cond.fieldLink RX8 22 "GrottoHours$Tape" "place" "I" ∈ gT := gT_c1 51 rfl rfl
theorem xg_X8_22 (C : gC p s m args meth c cc nL RX8 ret D (xtys cI cB cZ cQ) xord g Am) (O : xO g cI cB cZ cQ Am) (X : gX D (xcell g cI cB cZ cQ) xord g S s H locs) (hk : xk k = 8) (hdg : decode cc pc = .ok (.getfield 22, 3)) (kk : W p l e R s m args below meth c H locs cs sl Q (F0 m (pc + 3) ls (.int (S k 3) :: rest))) : W p l e R s m args below meth c H locs cs sl Q (F0 m pc ls (.ref (g k) :: rest)) :=
  g_get C X (q := k) (k := k) (x_pos hk (by decide)) (x_c8 g cI cB cZ cQ S hk) (ci := 8) rfl x_in8 3 (by decide) xl_X8_22 rfl hdg kk
theorem xp_X8_22 (C : gC p s m args meth c cc nL RX8 ret D (xtys cI cB cZ cQ) xord g Am) (O : xO g cI cB cZ cQ Am) (X : gX D (xcell g cI cB cZ cQ) xord g S s H locs) (hk : xk k = 8) {x : Int32} (hS : S' = sU S k 3 x) (hdg : decode cc pc = .ok (.putfield 22, 3)) (kk : ∀ (H1 : Heap) (locs1 : List Loc), gX D (xcell g cI cB cZ cQ) xord g S' s H1 locs1 → W p l e R s m args below meth c H1 locs1 cs sl Q (F0 m (pc + 3) ls rest)) : W p l e R s m args below meth c H locs cs sl Q (F0 m pc ls (.int x :: .ref (g k) :: rest)) := by
  subst hS
  exact g_put C O.1 X (q := k) (k := k) (x_pos hk (by decide)) (x_c8 g cI cB cZ cQ S hk) (ci := 8) rfl x_in8 tyX8 tyX8_ok nmX8 3 (by decide) xl_X8_22 rfl rfl rfl (Nat.le_of_ble_eq_true rfl) (fun i h => sU_ne h) (by rw [x_c8 g cI cB cZ cQ _ hk, sU_eq]; rfl) hdg kk
theorem xl_X8_25 : Cond.fieldLink RX8 25 "GrottoHours$Tape" "kind" "I" ∈ gT := gT_c1 52 rfl rfl
theorem xg_X8_25 (C : gC p s m args meth c cc nL RX8 ret D (xtys cI cB cZ cQ) xord g Am) (O : xO g cI cB cZ cQ Am) (X : gX D (xcell g cI cB cZ cQ) xord g S s H locs) (hk : xk k = 8) (hdg : decode cc pc = .ok (.getfield 25, 3)) (kk : W p l e R s m args below meth c H locs cs sl Q (F0 m (pc + 3) ls (.int (S k 4) :: rest))) : W p l e R s m args below meth c H locs cs sl Q (F0 m pc ls (.ref (g k) :: rest)) :=
  g_get C X (q := k) (k := k) (x_pos hk (by decide)) (x_c8 g cI cB cZ cQ S hk) (ci := 8) rfl x_in8 4 (by decide) xl_X8_25 rfl hdg kk
theorem xp_X8_25 (C : gC p s m args meth c cc nL RX8 ret D (xtys cI cB cZ cQ) xord g Am) (O : xO g cI cB cZ cQ Am) (X : gX D (xcell g cI cB cZ cQ) xord g S s H locs) (hk : xk k = 8) {x : Int32} (hS : S' = sU S k 4 x) (hdg : decode cc pc = .ok (.putfield 25, 3)) (kk : ∀ (H1 : Heap) (locs1 : List Loc), gX D (xcell g cI cB cZ cQ) xord g S' s H1 locs1 → W p l e R s m args below meth c H1 locs1 cs sl Q (F0 m (pc + 3) ls rest)) : W p l e R s m args below meth c H locs cs sl Q (F0 m pc ls (.int x :: .ref (g k) :: rest)) := by
  subst hS
  exact g_put C O.1 X (q := k) (k := k) (x_pos hk (by decide)) (x_c8 g cI cB cZ cQ S hk) (ci := 8) rfl x_in8 tyX8 tyX8_ok nmX8 4 (by decide) xl_X8_25 rfl rfl rfl (Nat.le_of_ble_eq_true rfl) (fun i h => sU_ne h) (by rw [x_c8 g cI cB cZ cQ _ hk, sU_eq]; rfl) hdg kk
theorem xl_X3_43 : Cond.fieldLinkNest RX3 43 "GrottoHours$Tape" "kind" "I" "GrottoHours" ∈ xNest := List.mem_of_getElem? (i := 3) rfl
theorem xg_X3_43 (C : gC p s m args meth c cc nL RX3 ret D (xtys cI cB cZ cQ) xord g Am) (O : xO g cI cB cZ cQ Am) (X : gX D (xcell g cI cB cZ cQ) xord g S s H locs) (hk : xk k = 8) (hdg : decode cc pc = .ok (.getfield 43, 3)) (kk : W p l e R s m args below meth c H locs cs sl Q (F0 m (pc + 3) ls (.int (S k 4) :: rest))) : W p l e R s m args below meth c H locs cs sl Q (F0 m pc ls (.ref (g k) :: rest)) :=
  g_getN C X (q := k) (k := k) (x_pos hk (by decide)) (x_c8 g cI cB cZ cQ S hk) (ci := 8) rfl x_in8 4 (by decide) (O.2 _ _ _ C.2.2.2.2.2 _ xl_X3_43) rfl hdg kk
theorem xp_X3_43 (C : gC p s m args meth c cc nL RX3 ret D (xtys cI cB cZ cQ) xord g Am) (O : xO g cI cB cZ cQ Am) (X : gX D (xcell g cI cB cZ cQ) xord g S s H locs) (hk : xk k = 8) {x : Int32} (hS : S' = sU S k 4 x) (hdg : decode cc pc = .ok (.putfield 43, 3)) (kk : ∀ (H1 : Heap) (locs1 : List Loc), gX D (xcell g cI cB cZ cQ) xord g S' s H1 locs1 → W p l e R s m args below meth c H1 locs1 cs sl Q (F0 m (pc + 3) ls rest)) : W p l e R s m args below meth c H locs cs sl Q (F0 m pc ls (.int x :: .ref (g k) :: rest)) := by
  subst hS
  exact g_putN C O.1 X (q := k) (k := k) (x_pos hk (by decide)) (x_c8 g cI cB cZ cQ S hk) (ci := 8) rfl x_in8 tyX8 tyX8_ok nmX8 4 (by decide) (O.2 _ _ _ C.2.2.2.2.2 _ xl_X3_43) rfl rfl rfl (Nat.le_of_ble_eq_true rfl) (fun i h => sU_ne h) (by rw [x_c8 g cI cB cZ cQ _ hk, sU_eq]; rfl) hdg kk
theorem xl_X8_28 : Cond.fieldLink RX8 28 "GrottoHours$Tape" "start" "I" ∈ gT := gT_c1 54 rfl rfl
theorem xg_X8_28 (C : gC p s m args meth c cc nL RX8 ret D (xtys cI cB cZ cQ) xord g Am) (O : xO g cI cB cZ cQ Am) (X : gX D (xcell g cI cB cZ cQ) xord g S s H locs) (hk : xk k = 8) (hdg : decode cc pc = .ok (.getfield 28, 3)) (kk : W p l e R s m args below meth c H locs cs sl Q (F0 m (pc + 3) ls (.int (S k 5) :: rest))) : W p l e R s m args below meth c H locs cs sl Q (F0 m pc ls (.ref (g k) :: rest)) :=
  g_get C X (q := k) (k := k) (x_pos hk (by decide)) (x_c8 g cI cB cZ cQ S hk) (ci := 8) rfl x_in8 5 (by decide) xl_X8_28 rfl hdg kk
theorem xp_X8_28 (C : gC p s m args meth c cc nL RX8 ret D (xtys cI cB cZ cQ) xord g Am) (O : xO g cI cB cZ cQ Am) (X : gX D (xcell g cI cB cZ cQ) xord g S s H locs) (hk : xk k = 8) {x : Int32} (hS : S' = sU S k 5 x) (hdg : decode cc pc = .ok (.putfield 28, 3)) (kk : ∀ (H1 : Heap) (locs1 : List Loc), gX D (xcell g cI cB cZ cQ) xord g S' s H1 locs1 → W p l e R s m args below meth c H1 locs1 cs sl Q (F0 m (pc + 3) ls rest)) : W p l e R s m args below meth c H locs cs sl Q (F0 m pc ls (.int x :: .ref (g k) :: rest)) := by
  subst hS
  exact g_put C O.1 X (q := k) (k := k) (x_pos hk (by decide)) (x_c8 g cI cB cZ cQ S hk) (ci := 8) rfl x_in8 tyX8 tyX8_ok nmX8 5 (by decide) xl_X8_28 rfl rfl rfl (Nat.le_of_ble_eq_true rfl) (fun i h => sU_ne h) (by rw [x_c8 g cI cB cZ cQ _ hk, sU_eq]; rfl) hdg kk
theorem xl_X3_53 : Cond.fieldLinkNest RX3 53 "GrottoHours$Tape" "start" "I" "GrottoHours" ∈ xNest := List.mem_of_getElem? (i := 4) rfl
theorem xg_X3_53 (C : gC p s m args meth c cc nL RX3 ret D (xtys cI cB cZ cQ) xord g Am) (O : xO g cI cB cZ cQ Am) (X : gX D (xcell g cI cB cZ cQ) xord g S s H locs) (hk : xk k = 8) (hdg : decode cc pc = .ok (.getfield 53, 3)) (kk : W p l e R s m args below meth c H locs cs sl Q (F0 m (pc + 3) ls (.int (S k 5) :: rest))) : W p l e R s m args below meth c H locs cs sl Q (F0 m pc ls (.ref (g k) :: rest)) :=
  g_getN C X (q := k) (k := k) (x_pos hk (by decide)) (x_c8 g cI cB cZ cQ S hk) (ci := 8) rfl x_in8 5 (by decide) (O.2 _ _ _ C.2.2.2.2.2 _ xl_X3_53) rfl hdg kk
theorem xp_X3_53 (C : gC p s m args meth c cc nL RX3 ret D (xtys cI cB cZ cQ) xord g Am) (O : xO g cI cB cZ cQ Am) (X : gX D (xcell g cI cB cZ cQ) xord g S s H locs) (hk : xk k = 8) {x : Int32} (hS : S' = sU S k 5 x) (hdg : decode cc pc = .ok (.putfield 53, 3)) (kk : ∀ (H1 : Heap) (locs1 : List Loc), gX D (xcell g cI cB cZ cQ) xord g S' s H1 locs1 → W p l e R s m args below meth c H1 locs1 cs sl Q (F0 m (pc + 3) ls rest)) : W p l e R s m args below meth c H locs cs sl Q (F0 m pc ls (.int x :: .ref (g k) :: rest)) := by
  subst hS
  exact g_putN C O.1 X (q := k) (k := k) (x_pos hk (by decide)) (x_c8 g cI cB cZ cQ S hk) (ci := 8) rfl x_in8 tyX8 tyX8_ok nmX8 5 (by decide) (O.2 _ _ _ C.2.2.2.2.2 _ xl_X3_53) rfl rfl rfl (Nat.le_of_ble_eq_true rfl) (fun i h => sU_ne h) (by rw [x_c8 g cI cB cZ cQ _ hk, sU_eq]; rfl) hdg kk
theorem xl_X8_31 : Cond.fieldLink RX8 31 "GrottoHours$Tape" "number" "I" ∈ gT := gT_c1 56 rfl rfl
theorem xg_X8_31 (C : gC p s m args meth c cc nL RX8 ret D (xtys cI cB cZ cQ) xord g Am) (O : xO g cI cB cZ cQ Am) (X : gX D (xcell g cI cB cZ cQ) xord g S s H locs) (hk : xk k = 8) (hdg : decode cc pc = .ok (.getfield 31, 3)) (kk : W p l e R s m args below meth c H locs cs sl Q (F0 m (pc + 3) ls (.int (S k 6) :: rest))) : W p l e R s m args below meth c H locs cs sl Q (F0 m pc ls (.ref (g k) :: rest)) :=
  g_get C X (q := k) (k := k) (x_pos hk (by decide)) (x_c8 g cI cB cZ cQ S hk) (ci := 8) rfl x_in8 6 (by decide) xl_X8_31 rfl hdg kk
theorem xp_X8_31 (C : gC p s m args meth c cc nL RX8 ret D (xtys cI cB cZ cQ) xord g Am) (O : xO g cI cB cZ cQ Am) (X : gX D (xcell g cI cB cZ cQ) xord g S s H locs) (hk : xk k = 8) {x : Int32} (hS : S' = sU S k 6 x) (hdg : decode cc pc = .ok (.putfield 31, 3)) (kk : ∀ (H1 : Heap) (locs1 : List Loc), gX D (xcell g cI cB cZ cQ) xord g S' s H1 locs1 → W p l e R s m args below meth c H1 locs1 cs sl Q (F0 m (pc + 3) ls rest)) : W p l e R s m args below meth c H locs cs sl Q (F0 m pc ls (.int x :: .ref (g k) :: rest)) := by
  subst hS
  exact g_put C O.1 X (q := k) (k := k) (x_pos hk (by decide)) (x_c8 g cI cB cZ cQ S hk) (ci := 8) rfl x_in8 tyX8 tyX8_ok nmX8 6 (by decide) xl_X8_31 rfl rfl rfl (Nat.le_of_ble_eq_true rfl) (fun i h => sU_ne h) (by rw [x_c8 g cI cB cZ cQ _ hk, sU_eq]; rfl) hdg kk
theorem xl_X3_66 : Cond.fieldLinkNest RX3 66 "GrottoHours$Tape" "number" "I" "GrottoHours" ∈ xNest := List.mem_of_getElem? (i := 5) rfl
theorem xg_X3_66 (C : gC p s m args meth c cc nL RX3 ret D (xtys cI cB cZ cQ) xord g Am) (O : xO g cI cB cZ cQ Am) (X : gX D (xcell g cI cB cZ cQ) xord g S s H locs) (hk : xk k = 8) (hdg : decode cc pc = .ok (.getfield 66, 3)) (kk : W p l e R s m args below meth c H locs cs sl Q (F0 m (pc + 3) ls (.int (S k 6) :: rest))) : W p l e R s m args below meth c H locs cs sl Q (F0 m pc ls (.ref (g k) :: rest)) :=
  g_getN C X (q := k) (k := k) (x_pos hk (by decide)) (x_c8 g cI cB cZ cQ S hk) (ci := 8) rfl x_in8 6 (by decide) (O.2 _ _ _ C.2.2.2.2.2 _ xl_X3_66) rfl hdg kk
theorem xp_X3_66 (C : gC p s m args meth c cc nL RX3 ret D (xtys cI cB cZ cQ) xord g Am) (O : xO g cI cB cZ cQ Am) (X : gX D (xcell g cI cB cZ cQ) xord g S s H locs) (hk : xk k = 8) {x : Int32} (hS : S' = sU S k 6 x) (hdg : decode cc pc = .ok (.putfield 66, 3)) (kk : ∀ (H1 : Heap) (locs1 : List Loc), gX D (xcell g cI cB cZ cQ) xord g S' s H1 locs1 → W p l e R s m args below meth c H1 locs1 cs sl Q (F0 m (pc + 3) ls rest)) : W p l e R s m args below meth c H locs cs sl Q (F0 m pc ls (.int x :: .ref (g k) :: rest)) := by
  subst hS
  exact g_putN C O.1 X (q := k) (k := k) (x_pos hk (by decide)) (x_c8 g cI cB cZ cQ S hk) (ci := 8) rfl x_in8 tyX8 tyX8_ok nmX8 6 (by decide) (O.2 _ _ _ C.2.2.2.2.2 _ xl_X3_66) rfl rfl rfl (Nat.le_of_ble_eq_true rfl) (fun i h => sU_ne h) (by rw [x_c8 g cI cB cZ cQ _ hk, sU_eq]; rfl) hdg kk
theorem xl_X4_9 : Cond.fieldLink RX4 9 "GrottoHours$Rule" "codes" "[I" ∈ gT := gT_c1 86 rfl rfl
theorem xg_X4_9 (C : gC p s m args meth c cc nL RX4 ret D (xtys cI cB cZ cQ) xord g Am) (O : xO g cI cB cZ cQ Am) (X : gX D (xcell g cI cB cZ cQ) xord g S s H locs) (hk : xk k = 4) {j : Nat} (hj : k + 1 = j) (hdg : decode cc pc = .ok (.getfield 9, 3)) (kk : W p l e R s m args below meth c H locs cs sl Q (F0 m (pc + 3) ls (.ref (g j) :: rest))) : W p l e R s m args below meth c H locs cs sl Q (F0 m pc ls (.ref (g k) :: rest)) := by
  subst hj
  exact g_get C X (q := k) (k := k) (x_pos hk (by decide)) (x_c4 g cI cB cZ cQ S hk) (ci := 4) rfl x_in4 0 (by decide) xl_X4_9 rfl hdg kk
theorem xl_X4_15 : Cond.fieldLink RX4 15 "GrottoHours$Rule" "held" "[I" ∈ gT := gT_c1 87 rfl rfl
theorem xg_X4_15 (C : gC p s m args meth c cc nL RX4 ret D (xtys cI cB cZ cQ) xord g Am) (O : xO g cI cB cZ cQ Am) (X : gX D (xcell g cI cB cZ cQ) xord g S s H locs) (hk : xk k = 4) {j : Nat} (hj : k + 2 = j) (hdg : decode cc pc = .ok (.getfield 15, 3)) (kk : W p l e R s m args below meth c H locs cs sl Q (F0 m (pc + 3) ls (.ref (g j) :: rest))) : W p l e R s m args below meth c H locs cs sl Q (F0 m pc ls (.ref (g k) :: rest)) := by
  subst hj
  exact g_get C X (q := k) (k := k) (x_pos hk (by decide)) (x_c4 g cI cB cZ cQ S hk) (ci := 4) rfl x_in4 1 (by decide) xl_X4_15 rfl hdg kk
theorem xl_X4_22 : Cond.fieldLink RX4 22 "GrottoHours$Rule" "knowsGreed" "Z" ∈ gT := gT_c1 88 rfl rfl
theorem xg_X4_22 (C : gC p s m args meth c cc nL RX4 ret D (xtys cI cB cZ cQ) xord g Am) (O : xO g cI cB cZ cQ Am) (X : gX D (xcell g cI cB cZ cQ) xord g S s H locs) (hk : xk k = 4) (hdg : decode cc pc = .ok (.getfield 22, 3)) (kk : W p l e R s m args below meth c H locs cs sl Q (F0 m (pc + 3) ls (.int (S k 2) :: rest))) : W p l e R s m args below meth c H locs cs sl Q (F0 m pc ls (.ref (g k) :: rest)) :=
  g_get C X (q := k) (k := k) (x_pos hk (by decide)) (x_c4 g cI cB cZ cQ S hk) (ci := 4) rfl x_in4 2 (by decide) xl_X4_22 rfl hdg kk
theorem xl_X3_217 : Cond.fieldLinkNest RX3 217 "GrottoHours$Rule" "knowsGreed" "Z" "GrottoHours" ∈ xNest := List.mem_of_getElem? (i := 7) rfl
theorem xg_X3_217 (C : gC p s m args meth c cc nL RX3 ret D (xtys cI cB cZ cQ) xord g Am) (O : xO g cI cB cZ cQ Am) (X : gX D (xcell g cI cB cZ cQ) xord g S s H locs) (hk : xk k = 4) (hdg : decode cc pc = .ok (.getfield 217, 3)) (kk : W p l e R s m args below meth c H locs cs sl Q (F0 m (pc + 3) ls (.int (S k 2) :: rest))) : W p l e R s m args below meth c H locs cs sl Q (F0 m pc ls (.ref (g k) :: rest)) :=
  g_getN C X (q := k) (k := k) (x_pos hk (by decide)) (x_c4 g cI cB cZ cQ S hk) (ci := 4) rfl x_in4 2 (by decide) (O.2 _ _ _ C.2.2.2.2.2 _ xl_X3_217) rfl hdg kk
theorem xl_X4_18 : Cond.fieldLink RX4 18 "GrottoHours$Rule" "length" "I" ∈ gT := gT_c1 90 rfl rfl
theorem xg_X4_18 (C : gC p s m args meth c cc nL RX4 ret D (xtys cI cB cZ cQ) xord g Am) (O : xO g cI cB cZ cQ Am) (X : gX D (xcell g cI cB cZ cQ) xord g S s H locs) (hk : xk k = 4) (hdg : decode cc pc = .ok (.getfield 18, 3)) (kk : W p l e R s m args below meth c H locs cs sl Q (F0 m (pc + 3) ls (.int (S k 3) :: rest))) : W p l e R s m args below meth c H locs cs sl Q (F0 m pc ls (.ref (g k) :: rest)) :=
  g_get C X (q := k) (k := k) (x_pos hk (by decide)) (x_c4 g cI cB cZ cQ S hk) (ci := 4) rfl x_in4 3 (by decide) xl_X4_18 rfl hdg kk
theorem xp_X4_18 (C : gC p s m args meth c cc nL RX4 ret D (xtys cI cB cZ cQ) xord g Am) (O : xO g cI cB cZ cQ Am) (X : gX D (xcell g cI cB cZ cQ) xord g S s H locs) (hk : xk k = 4) {x : Int32} (hS : S' = sU S k 3 x) (hdg : decode cc pc = .ok (.putfield 18, 3)) (kk : ∀ (H1 : Heap) (locs1 : List Loc), gX D (xcell g cI cB cZ cQ) xord g S' s H1 locs1 → W p l e R s m args below meth c H1 locs1 cs sl Q (F0 m (pc + 3) ls rest)) : W p l e R s m args below meth c H locs cs sl Q (F0 m pc ls (.int x :: .ref (g k) :: rest)) := by
  subst hS
  exact g_put C O.1 X (q := k) (k := k) (x_pos hk (by decide)) (x_c4 g cI cB cZ cQ S hk) (ci := 4) rfl x_in4 tyX4 tyX4_ok nmX4 3 (by decide) xl_X4_18 rfl rfl rfl (Nat.le_of_ble_eq_true rfl) (fun i h => sU_ne h) (by rw [x_c4 g cI cB cZ cQ _ hk, sU_eq]; rfl) hdg kk
theorem xl_X9_9 : Cond.fieldLink RX9 9 "GrottoHours$Town" "grottoes" "I" ∈ gT := gT_c1 102 rfl rfl
theorem xg_X9_9 (C : gC p s m args meth c cc nL RX9 ret D (xtys cI cB cZ cQ) xord g Am) (O : xO g cI cB cZ cQ Am) (X : gX D (xcell g cI cB cZ cQ) xord g S s H locs) (hk : xk k = 9) (hdg : decode cc pc = .ok (.getfield 9, 3)) (kk : W p l e R s m args below meth c H locs cs sl Q (F0 m (pc + 3) ls (.int (S k 0) :: rest))) : W p l e R s m args below meth c H locs cs sl Q (F0 m pc ls (.ref (g k) :: rest)) :=
  g_get C X (q := k) (k := k) (x_pos hk (by decide)) (x_c9 g cI cB cZ cQ S hk) (ci := 9) rfl x_in9 0 (by decide) xl_X9_9 rfl hdg kk
theorem xp_X9_9 (C : gC p s m args meth c cc nL RX9 ret D (xtys cI cB cZ cQ) xord g Am) (O : xO g cI cB cZ cQ Am) (X : gX D (xcell g cI cB cZ cQ) xord g S s H locs) (hk : xk k = 9) {x : Int32} (hS : S' = sU S k 0 x) (hdg : decode cc pc = .ok (.putfield 9, 3)) (kk : ∀ (H1 : Heap) (locs1 : List Loc), gX D (xcell g cI cB cZ cQ) xord g S' s H1 locs1 → W p l e R s m args below meth c H1 locs1 cs sl Q (F0 m (pc + 3) ls rest)) : W p l e R s m args below meth c H locs cs sl Q (F0 m pc ls (.int x :: .ref (g k) :: rest)) := by
  subst hS
  exact g_put C O.1 X (q := k) (k := k) (x_pos hk (by decide)) (x_c9 g cI cB cZ cQ S hk) (ci := 9) rfl x_in9 tyX9 tyX9_ok nmX9 0 (by decide) xl_X9_9 rfl rfl rfl (Nat.le_of_ble_eq_true rfl) (fun i h => sU_ne h) (by rw [x_c9 g cI cB cZ cQ _ hk, sU_eq]; rfl) hdg kk
theorem xl_X6_32 : Cond.fieldLinkNest RX6 32 "GrottoHours$Town" "grottoes" "I" "GrottoHours" ∈ xNest := List.mem_of_getElem? (i := 8) rfl
theorem xg_X6_32 (C : gC p s m args meth c cc nL RX6 ret D (xtys cI cB cZ cQ) xord g Am) (O : xO g cI cB cZ cQ Am) (X : gX D (xcell g cI cB cZ cQ) xord g S s H locs) (hk : xk k = 9) (hdg : decode cc pc = .ok (.getfield 32, 3)) (kk : W p l e R s m args below meth c H locs cs sl Q (F0 m (pc + 3) ls (.int (S k 0) :: rest))) : W p l e R s m args below meth c H locs cs sl Q (F0 m pc ls (.ref (g k) :: rest)) :=
  g_getN C X (q := k) (k := k) (x_pos hk (by decide)) (x_c9 g cI cB cZ cQ S hk) (ci := 9) rfl x_in9 0 (by decide) (O.2 _ _ _ C.2.2.2.2.2 _ xl_X6_32) rfl hdg kk
theorem xp_X6_32 (C : gC p s m args meth c cc nL RX6 ret D (xtys cI cB cZ cQ) xord g Am) (O : xO g cI cB cZ cQ Am) (X : gX D (xcell g cI cB cZ cQ) xord g S s H locs) (hk : xk k = 9) {x : Int32} (hS : S' = sU S k 0 x) (hdg : decode cc pc = .ok (.putfield 32, 3)) (kk : ∀ (H1 : Heap) (locs1 : List Loc), gX D (xcell g cI cB cZ cQ) xord g S' s H1 locs1 → W p l e R s m args below meth c H1 locs1 cs sl Q (F0 m (pc + 3) ls rest)) : W p l e R s m args below meth c H locs cs sl Q (F0 m pc ls (.int x :: .ref (g k) :: rest)) := by
  subst hS
  exact g_putN C O.1 X (q := k) (k := k) (x_pos hk (by decide)) (x_c9 g cI cB cZ cQ S hk) (ci := 9) rfl x_in9 tyX9 tyX9_ok nmX9 0 (by decide) (O.2 _ _ _ C.2.2.2.2.2 _ xl_X6_32) rfl rfl rfl (Nat.le_of_ble_eq_true rfl) (fun i h => sU_ne h) (by rw [x_c9 g cI cB cZ cQ _ hk, sU_eq]; rfl) hdg kk
theorem xl_X11_108 : Cond.fieldLinkNest RX11 108 "GrottoHours$Town" "grottoes" "I" "GrottoHours" ∈ xNest := List.mem_of_getElem? (i := 9) rfl
theorem xg_X11_108 (C : gC p s m args meth c cc nL RX11 ret D (xtys cI cB cZ cQ) xord g Am) (O : xO g cI cB cZ cQ Am) (X : gX D (xcell g cI cB cZ cQ) xord g S s H locs) (hk : xk k = 9) (hdg : decode cc pc = .ok (.getfield 108, 3)) (kk : W p l e R s m args below meth c H locs cs sl Q (F0 m (pc + 3) ls (.int (S k 0) :: rest))) : W p l e R s m args below meth c H locs cs sl Q (F0 m pc ls (.ref (g k) :: rest)) :=
  g_getN C X (q := k) (k := k) (x_pos hk (by decide)) (x_c9 g cI cB cZ cQ S hk) (ci := 9) rfl x_in9 0 (by decide) (O.2 _ _ _ C.2.2.2.2.2 _ xl_X11_108) rfl hdg kk
theorem xp_X11_108 (C : gC p s m args meth c cc nL RX11 ret D (xtys cI cB cZ cQ) xord g Am) (O : xO g cI cB cZ cQ Am) (X : gX D (xcell g cI cB cZ cQ) xord g S s H locs) (hk : xk k = 9) {x : Int32} (hS : S' = sU S k 0 x) (hdg : decode cc pc = .ok (.putfield 108, 3)) (kk : ∀ (H1 : Heap) (locs1 : List Loc), gX D (xcell g cI cB cZ cQ) xord g S' s H1 locs1 → W p l e R s m args below meth c H1 locs1 cs sl Q (F0 m (pc + 3) ls rest)) : W p l e R s m args below meth c H locs cs sl Q (F0 m pc ls (.int x :: .ref (g k) :: rest)) := by
  subst hS
  exact g_putN C O.1 X (q := k) (k := k) (x_pos hk (by decide)) (x_c9 g cI cB cZ cQ S hk) (ci := 9) rfl x_in9 tyX9 tyX9_ok nmX9 0 (by decide) (O.2 _ _ _ C.2.2.2.2.2 _ xl_X11_108) rfl rfl rfl (Nat.le_of_ble_eq_true rfl) (fun i h => sU_ne h) (by rw [x_c9 g cI cB cZ cQ _ hk, sU_eq]; rfl) hdg kk
theorem xl_X3_113 : Cond.fieldLinkNest RX3 113 "GrottoHours$Town" "grottoes" "I" "GrottoHours" ∈ xNest := List.mem_of_getElem? (i := 10) rfl
theorem xg_X3_113 (C : gC p s m args meth c cc nL RX3 ret D (xtys cI cB cZ cQ) xord g Am) (O : xO g cI cB cZ cQ Am) (X : gX D (xcell g cI cB cZ cQ) xord g S s H locs) (hk : xk k = 9) (hdg : decode cc pc = .ok (.getfield 113, 3)) (kk : W p l e R s m args below meth c H locs cs sl Q (F0 m (pc + 3) ls (.int (S k 0) :: rest))) : W p l e R s m args below meth c H locs cs sl Q (F0 m pc ls (.ref (g k) :: rest)) :=
  g_getN C X (q := k) (k := k) (x_pos hk (by decide)) (x_c9 g cI cB cZ cQ S hk) (ci := 9) rfl x_in9 0 (by decide) (O.2 _ _ _ C.2.2.2.2.2 _ xl_X3_113) rfl hdg kk
theorem xp_X3_113 (C : gC p s m args meth c cc nL RX3 ret D (xtys cI cB cZ cQ) xord g Am) (O : xO g cI cB cZ cQ Am) (X : gX D (xcell g cI cB cZ cQ) xord g S s H locs) (hk : xk k = 9) {x : Int32} (hS : S' = sU S k 0 x) (hdg : decode cc pc = .ok (.putfield 113, 3)) (kk : ∀ (H1 : Heap) (locs1 : List Loc), gX D (xcell g cI cB cZ cQ) xord g S' s H1 locs1 → W p l e R s m args below meth c H1 locs1 cs sl Q (F0 m (pc + 3) ls rest)) : W p l e R s m args below meth c H locs cs sl Q (F0 m pc ls (.int x :: .ref (g k) :: rest)) := by
  subst hS
  exact g_putN C O.1 X (q := k) (k := k) (x_pos hk (by decide)) (x_c9 g cI cB cZ cQ S hk) (ci := 9) rfl x_in9 tyX9 tyX9_ok nmX9 0 (by decide) (O.2 _ _ _ C.2.2.2.2.2 _ xl_X3_113) rfl rfl rfl (Nat.le_of_ble_eq_true rfl) (fun i h => sU_ne h) (by rw [x_c9 g cI cB cZ cQ _ hk, sU_eq]; rfl) hdg kk
theorem xl_X9_15 : Cond.fieldLink RX9 15 "GrottoHours$Town" "drip" "[I" ∈ gT := gT_c1 106 rfl rfl
theorem xg_X9_15 (C : gC p s m args meth c cc nL RX9 ret D (xtys cI cB cZ cQ) xord g Am) (O : xO g cI cB cZ cQ Am) (X : gX D (xcell g cI cB cZ cQ) xord g S s H locs) (hk : xk k = 9) {j : Nat} (hj : k + 1 = j) (hdg : decode cc pc = .ok (.getfield 15, 3)) (kk : W p l e R s m args below meth c H locs cs sl Q (F0 m (pc + 3) ls (.ref (g j) :: rest))) : W p l e R s m args below meth c H locs cs sl Q (F0 m pc ls (.ref (g k) :: rest)) := by
  subst hj
  exact g_get C X (q := k) (k := k) (x_pos hk (by decide)) (x_c9 g cI cB cZ cQ S hk) (ci := 9) rfl x_in9 1 (by decide) xl_X9_15 rfl hdg kk
theorem xl_X11_165 : Cond.fieldLinkNest RX11 165 "GrottoHours$Town" "drip" "[I" "GrottoHours" ∈ xNest := List.mem_of_getElem? (i := 11) rfl
theorem xg_X11_165 (C : gC p s m args meth c cc nL RX11 ret D (xtys cI cB cZ cQ) xord g Am) (O : xO g cI cB cZ cQ Am) (X : gX D (xcell g cI cB cZ cQ) xord g S s H locs) (hk : xk k = 9) {j : Nat} (hj : k + 1 = j) (hdg : decode cc pc = .ok (.getfield 165, 3)) (kk : W p l e R s m args below meth c H locs cs sl Q (F0 m (pc + 3) ls (.ref (g j) :: rest))) : W p l e R s m args below meth c H locs cs sl Q (F0 m pc ls (.ref (g k) :: rest)) := by
  subst hj
  exact g_getN C X (q := k) (k := k) (x_pos hk (by decide)) (x_c9 g cI cB cZ cQ S hk) (ci := 9) rfl x_in9 1 (by decide) (O.2 _ _ _ C.2.2.2.2.2 _ xl_X11_165) rfl hdg kk
theorem xl_X3_116 : Cond.fieldLinkNest RX3 116 "GrottoHours$Town" "drip" "[I" "GrottoHours" ∈ xNest := List.mem_of_getElem? (i := 12) rfl
theorem xg_X3_116 (C : gC p s m args meth c cc nL RX3 ret D (xtys cI cB cZ cQ) xord g Am) (O : xO g cI cB cZ cQ Am) (X : gX D (xcell g cI cB cZ cQ) xord g S s H locs) (hk : xk k = 9) {j : Nat} (hj : k + 1 = j) (hdg : decode cc pc = .ok (.getfield 116, 3)) (kk : W p l e R s m args below meth c H locs cs sl Q (F0 m (pc + 3) ls (.ref (g j) :: rest))) : W p l e R s m args below meth c H locs cs sl Q (F0 m pc ls (.ref (g k) :: rest)) := by
  subst hj
  exact g_getN C X (q := k) (k := k) (x_pos hk (by decide)) (x_c9 g cI cB cZ cQ S hk) (ci := 9) rfl x_in9 1 (by decide) (O.2 _ _ _ C.2.2.2.2.2 _ xl_X3_116) rfl hdg kk
theorem xl_X10_114 : Cond.fieldLinkNest RX10 114 "GrottoHours$Town" "drip" "[I" "GrottoHours" ∈ xNest := List.mem_of_getElem? (i := 13) rfl
theorem xg_X10_114 (C : gC p s m args meth c cc nL RX10 ret D (xtys cI cB cZ cQ) xord g Am) (O : xO g cI cB cZ cQ Am) (X : gX D (xcell g cI cB cZ cQ) xord g S s H locs) (hk : xk k = 9) {j : Nat} (hj : k + 1 = j) (hdg : decode cc pc = .ok (.getfield 114, 3)) (kk : W p l e R s m args below meth c H locs cs sl Q (F0 m (pc + 3) ls (.ref (g j) :: rest))) : W p l e R s m args below meth c H locs cs sl Q (F0 m pc ls (.ref (g k) :: rest)) := by
  subst hj
  exact g_getN C X (q := k) (k := k) (x_pos hk (by decide)) (x_c9 g cI cB cZ cQ S hk) (ci := 9) rfl x_in9 1 (by decide) (O.2 _ _ _ C.2.2.2.2.2 _ xl_X10_114) rfl hdg kk
theorem xl_X9_19 : Cond.fieldLink RX9 19 "GrottoHours$Town" "phase" "[I" ∈ gT := gT_c1 110 rfl rfl
theorem xg_X9_19 (C : gC p s m args meth c cc nL RX9 ret D (xtys cI cB cZ cQ) xord g Am) (O : xO g cI cB cZ cQ Am) (X : gX D (xcell g cI cB cZ cQ) xord g S s H locs) (hk : xk k = 9) {j : Nat} (hj : k + 2 = j) (hdg : decode cc pc = .ok (.getfield 19, 3)) (kk : W p l e R s m args below meth c H locs cs sl Q (F0 m (pc + 3) ls (.ref (g j) :: rest))) : W p l e R s m args below meth c H locs cs sl Q (F0 m pc ls (.ref (g k) :: rest)) := by
  subst hj
  exact g_get C X (q := k) (k := k) (x_pos hk (by decide)) (x_c9 g cI cB cZ cQ S hk) (ci := 9) rfl x_in9 2 (by decide) xl_X9_19 rfl hdg kk
theorem xl_X11_168 : Cond.fieldLinkNest RX11 168 "GrottoHours$Town" "phase" "[I" "GrottoHours" ∈ xNest := List.mem_of_getElem? (i := 14) rfl
theorem xg_X11_168 (C : gC p s m args meth c cc nL RX11 ret D (xtys cI cB cZ cQ) xord g Am) (O : xO g cI cB cZ cQ Am) (X : gX D (xcell g cI cB cZ cQ) xord g S s H locs) (hk : xk k = 9) {j : Nat} (hj : k + 2 = j) (hdg : decode cc pc = .ok (.getfield 168, 3)) (kk : W p l e R s m args below meth c H locs cs sl Q (F0 m (pc + 3) ls (.ref (g j) :: rest))) : W p l e R s m args below meth c H locs cs sl Q (F0 m pc ls (.ref (g k) :: rest)) := by
  subst hj
  exact g_getN C X (q := k) (k := k) (x_pos hk (by decide)) (x_c9 g cI cB cZ cQ S hk) (ci := 9) rfl x_in9 2 (by decide) (O.2 _ _ _ C.2.2.2.2.2 _ xl_X11_168) rfl hdg kk
theorem xl_X3_124 : Cond.fieldLinkNest RX3 124 "GrottoHours$Town" "phase" "[I" "GrottoHours" ∈ xNest := List.mem_of_getElem? (i := 15) rfl
theorem xg_X3_124 (C : gC p s m args meth c cc nL RX3 ret D (xtys cI cB cZ cQ) xord g Am) (O : xO g cI cB cZ cQ Am) (X : gX D (xcell g cI cB cZ cQ) xord g S s H locs) (hk : xk k = 9) {j : Nat} (hj : k + 2 = j) (hdg : decode cc pc = .ok (.getfield 124, 3)) (kk : W p l e R s m args below meth c H locs cs sl Q (F0 m (pc + 3) ls (.ref (g j) :: rest))) : W p l e R s m args below meth c H locs cs sl Q (F0 m pc ls (.ref (g k) :: rest)) := by
  subst hj
  exact g_getN C X (q := k) (k := k) (x_pos hk (by decide)) (x_c9 g cI cB cZ cQ S hk) (ci := 9) rfl x_in9 2 (by decide) (O.2 _ _ _ C.2.2.2.2.2 _ xl_X3_124) rfl hdg kk
theorem xl_X9_22 : Cond.fieldLink RX9 22 "GrottoHours$Town" "price" "[I" ∈ gT := gT_c1 113 rfl rfl
theorem xg_X9_22 (C : gC p s m args meth c cc nL RX9 ret D (xtys cI cB cZ cQ) xord g Am) (O : xO g cI cB cZ cQ Am) (X : gX D (xcell g cI cB cZ cQ) xord g S s H locs) (hk : xk k = 9) {j : Nat} (hj : k + 3 = j) (hdg : decode cc pc = .ok (.getfield 22, 3)) (kk : W p l e R s m args below meth c H locs cs sl Q (F0 m (pc + 3) ls (.ref (g j) :: rest))) : W p l e R s m args below meth c H locs cs sl Q (F0 m pc ls (.ref (g k) :: rest)) := by
  subst hj
  exact g_get C X (q := k) (k := k) (x_pos hk (by decide)) (x_c9 g cI cB cZ cQ S hk) (ci := 9) rfl x_in9 3 (by decide) xl_X9_22 rfl hdg kk
theorem xl_X6_52 : Cond.fieldLinkNest RX6 52 "GrottoHours$Town" "price" "[I" "GrottoHours" ∈ xNest := List.mem_of_getElem? (i := 16) rfl
theorem xg_X6_52 (C : gC p s m args meth c cc nL RX6 ret D (xtys cI cB cZ cQ) xord g Am) (O : xO g cI cB cZ cQ Am) (X : gX D (xcell g cI cB cZ cQ) xord g S s H locs) (hk : xk k = 9) {j : Nat} (hj : k + 3 = j) (hdg : decode cc pc = .ok (.getfield 52, 3)) (kk : W p l e R s m args below meth c H locs cs sl Q (F0 m (pc + 3) ls (.ref (g j) :: rest))) : W p l e R s m args below meth c H locs cs sl Q (F0 m pc ls (.ref (g k) :: rest)) := by
  subst hj
  exact g_getN C X (q := k) (k := k) (x_pos hk (by decide)) (x_c9 g cI cB cZ cQ S hk) (ci := 9) rfl x_in9 3 (by decide) (O.2 _ _ _ C.2.2.2.2.2 _ xl_X6_52) rfl hdg kk
theorem xl_X11_171 : Cond.fieldLinkNest RX11 171 "GrottoHours$Town" "price" "[I" "GrottoHours" ∈ xNest := List.mem_of_getElem? (i := 17) rfl
theorem xg_X11_171 (C : gC p s m args meth c cc nL RX11 ret D (xtys cI cB cZ cQ) xord g Am) (O : xO g cI cB cZ cQ Am) (X : gX D (xcell g cI cB cZ cQ) xord g S s H locs) (hk : xk k = 9) {j : Nat} (hj : k + 3 = j) (hdg : decode cc pc = .ok (.getfield 171, 3)) (kk : W p l e R s m args below meth c H locs cs sl Q (F0 m (pc + 3) ls (.ref (g j) :: rest))) : W p l e R s m args below meth c H locs cs sl Q (F0 m pc ls (.ref (g k) :: rest)) := by
  subst hj
  exact g_getN C X (q := k) (k := k) (x_pos hk (by decide)) (x_c9 g cI cB cZ cQ S hk) (ci := 9) rfl x_in9 3 (by decide) (O.2 _ _ _ C.2.2.2.2.2 _ xl_X11_171) rfl hdg kk
theorem xl_X10_108 : Cond.fieldLinkNest RX10 108 "GrottoHours$Town" "price" "[I" "GrottoHours" ∈ xNest := List.mem_of_getElem? (i := 18) rfl
theorem xg_X10_108 (C : gC p s m args meth c cc nL RX10 ret D (xtys cI cB cZ cQ) xord g Am) (O : xO g cI cB cZ cQ Am) (X : gX D (xcell g cI cB cZ cQ) xord g S s H locs) (hk : xk k = 9) {j : Nat} (hj : k + 3 = j) (hdg : decode cc pc = .ok (.getfield 108, 3)) (kk : W p l e R s m args below meth c H locs cs sl Q (F0 m (pc + 3) ls (.ref (g j) :: rest))) : W p l e R s m args below meth c H locs cs sl Q (F0 m pc ls (.ref (g k) :: rest)) := by
  subst hj
  exact g_getN C X (q := k) (k := k) (x_pos hk (by decide)) (x_c9 g cI cB cZ cQ S hk) (ci := 9) rfl x_in9 3 (by decide) (O.2 _ _ _ C.2.2.2.2.2 _ xl_X10_108) rfl hdg kk
theorem xl_X3_127 : Cond.fieldLinkNest RX3 127 "GrottoHours$Town" "price" "[I" "GrottoHours" ∈ xNest := List.mem_of_getElem? (i := 19) rfl
theorem xg_X3_127 (C : gC p s m args meth c cc nL RX3 ret D (xtys cI cB cZ cQ) xord g Am) (O : xO g cI cB cZ cQ Am) (X : gX D (xcell g cI cB cZ cQ) xord g S s H locs) (hk : xk k = 9) {j : Nat} (hj : k + 3 = j) (hdg : decode cc pc = .ok (.getfield 127, 3)) (kk : W p l e R s m args below meth c H locs cs sl Q (F0 m (pc + 3) ls (.ref (g j) :: rest))) : W p l e R s m args below meth c H locs cs sl Q (F0 m pc ls (.ref (g k) :: rest)) := by
  subst hj
  exact g_getN C X (q := k) (k := k) (x_pos hk (by decide)) (x_c9 g cI cB cZ cQ S hk) (ci := 9) rfl x_in9 3 (by decide) (O.2 _ _ _ C.2.2.2.2.2 _ xl_X3_127) rfl hdg kk
theorem xl_X9_25 : Cond.fieldLink RX9 25 "GrottoHours$Town" "hollow" "[Z" ∈ gT := gT_c1 118 rfl rfl
theorem xg_X9_25 (C : gC p s m args meth c cc nL RX9 ret D (xtys cI cB cZ cQ) xord g Am) (O : xO g cI cB cZ cQ Am) (X : gX D (xcell g cI cB cZ cQ) xord g S s H locs) (hk : xk k = 9) {j : Nat} (hj : k + 4 = j) (hdg : decode cc pc = .ok (.getfield 25, 3)) (kk : W p l e R s m args below meth c H locs cs sl Q (F0 m (pc + 3) ls (.ref (g j) :: rest))) : W p l e R s m args below meth c H locs cs sl Q (F0 m pc ls (.ref (g k) :: rest)) := by
  subst hj
  exact g_get C X (q := k) (k := k) (x_pos hk (by decide)) (x_c9 g cI cB cZ cQ S hk) (ci := 9) rfl x_in9 4 (by decide) xl_X9_25 rfl hdg kk
theorem xl_X10_76 : Cond.fieldLinkNest RX10 76 "GrottoHours$Town" "hollow" "[Z" "GrottoHours" ∈ xNest := List.mem_of_getElem? (i := 20) rfl
theorem xg_X10_76 (C : gC p s m args meth c cc nL RX10 ret D (xtys cI cB cZ cQ) xord g Am) (O : xO g cI cB cZ cQ Am) (X : gX D (xcell g cI cB cZ cQ) xord g S s H locs) (hk : xk k = 9) {j : Nat} (hj : k + 4 = j) (hdg : decode cc pc = .ok (.getfield 76, 3)) (kk : W p l e R s m args below meth c H locs cs sl Q (F0 m (pc + 3) ls (.ref (g j) :: rest))) : W p l e R s m args below meth c H locs cs sl Q (F0 m pc ls (.ref (g k) :: rest)) := by
  subst hj
  exact g_getN C X (q := k) (k := k) (x_pos hk (by decide)) (x_c9 g cI cB cZ cQ S hk) (ci := 9) rfl x_in9 4 (by decide) (O.2 _ _ _ C.2.2.2.2.2 _ xl_X10_76) rfl hdg kk
theorem xl_X11_174 : Cond.fieldLinkNest RX11 174 "GrottoHours$Town" "hollow" "[Z" "GrottoHours" ∈ xNest := List.mem_of_getElem? (i := 21) rfl
theorem xg_X11_174 (C : gC p s m args meth c cc nL RX11 ret D (xtys cI cB cZ cQ) xord g Am) (O : xO g cI cB cZ cQ Am) (X : gX D (xcell g cI cB cZ cQ) xord g S s H locs) (hk : xk k = 9) {j : Nat} (hj : k + 4 = j) (hdg : decode cc pc = .ok (.getfield 174, 3)) (kk : W p l e R s m args below meth c H locs cs sl Q (F0 m (pc + 3) ls (.ref (g j) :: rest))) : W p l e R s m args below meth c H locs cs sl Q (F0 m pc ls (.ref (g k) :: rest)) := by
  subst hj
  exact g_getN C X (q := k) (k := k) (x_pos hk (by decide)) (x_c9 g cI cB cZ cQ S hk) (ci := 9) rfl x_in9 4 (by decide) (O.2 _ _ _ C.2.2.2.2.2 _ xl_X11_174) rfl hdg kk
theorem xl_X3_130 : Cond.fieldLinkNest RX3 130 "GrottoHours$Town" "hollow" "[Z" "GrottoHours" ∈ xNest := List.mem_of_getElem? (i := 22) rfl
theorem xg_X3_130 (C : gC p s m args meth c cc nL RX3 ret D (xtys cI cB cZ cQ) xord g Am) (O : xO g cI cB cZ cQ Am) (X : gX D (xcell g cI cB cZ cQ) xord g S s H locs) (hk : xk k = 9) {j : Nat} (hj : k + 4 = j) (hdg : decode cc pc = .ok (.getfield 130, 3)) (kk : W p l e R s m args below meth c H locs cs sl Q (F0 m (pc + 3) ls (.ref (g j) :: rest))) : W p l e R s m args below meth c H locs cs sl Q (F0 m pc ls (.ref (g k) :: rest)) := by
  subst hj
  exact g_getN C X (q := k) (k := k) (x_pos hk (by decide)) (x_c9 g cI cB cZ cQ S hk) (ci := 9) rfl x_in9 4 (by decide) (O.2 _ _ _ C.2.2.2.2.2 _ xl_X3_130) rfl hdg kk
theorem xl_X9_29 : Cond.fieldLink RX9 29 "GrottoHours$Town" "guilds" "I" ∈ gT := gT_c1 122 rfl rfl
theorem xg_X9_29 (C : gC p s m args meth c cc nL RX9 ret D (xtys cI cB cZ cQ) xord g Am) (O : xO g cI cB cZ cQ Am) (X : gX D (xcell g cI cB cZ cQ) xord g S s H locs) (hk : xk k = 9) (hdg : decode cc pc = .ok (.getfield 29, 3)) (kk : W p l e R s m args below meth c H locs cs sl Q (F0 m (pc + 3) ls (.int (S k 5) :: rest))) : W p l e R s m args below meth c H locs cs sl Q (F0 m pc ls (.ref (g k) :: rest)) :=
  g_get C X (q := k) (k := k) (x_pos hk (by decide)) (x_c9 g cI cB cZ cQ S hk) (ci := 9) rfl x_in9 5 (by decide) xl_X9_29 rfl hdg kk
theorem xp_X9_29 (C : gC p s m args meth c cc nL RX9 ret D (xtys cI cB cZ cQ) xord g Am) (O : xO g cI cB cZ cQ Am) (X : gX D (xcell g cI cB cZ cQ) xord g S s H locs) (hk : xk k = 9) {x : Int32} (hS : S' = sU S k 5 x) (hdg : decode cc pc = .ok (.putfield 29, 3)) (kk : ∀ (H1 : Heap) (locs1 : List Loc), gX D (xcell g cI cB cZ cQ) xord g S' s H1 locs1 → W p l e R s m args below meth c H1 locs1 cs sl Q (F0 m (pc + 3) ls rest)) : W p l e R s m args below meth c H locs cs sl Q (F0 m pc ls (.int x :: .ref (g k) :: rest)) := by
  subst hS
  exact g_put C O.1 X (q := k) (k := k) (x_pos hk (by decide)) (x_c9 g cI cB cZ cQ S hk) (ci := 9) rfl x_in9 tyX9 tyX9_ok nmX9 5 (by decide) xl_X9_29 rfl rfl rfl (Nat.le_of_ble_eq_true rfl) (fun i h => sU_ne h) (by rw [x_c9 g cI cB cZ cQ _ hk, sU_eq]; rfl) hdg kk
theorem xl_X6_27 : Cond.fieldLinkNest RX6 27 "GrottoHours$Town" "guilds" "I" "GrottoHours" ∈ xNest := List.mem_of_getElem? (i := 23) rfl
theorem xg_X6_27 (C : gC p s m args meth c cc nL RX6 ret D (xtys cI cB cZ cQ) xord g Am) (O : xO g cI cB cZ cQ Am) (X : gX D (xcell g cI cB cZ cQ) xord g S s H locs) (hk : xk k = 9) (hdg : decode cc pc = .ok (.getfield 27, 3)) (kk : W p l e R s m args below meth c H locs cs sl Q (F0 m (pc + 3) ls (.int (S k 5) :: rest))) : W p l e R s m args below meth c H locs cs sl Q (F0 m pc ls (.ref (g k) :: rest)) :=
  g_getN C X (q := k) (k := k) (x_pos hk (by decide)) (x_c9 g cI cB cZ cQ S hk) (ci := 9) rfl x_in9 5 (by decide) (O.2 _ _ _ C.2.2.2.2.2 _ xl_X6_27) rfl hdg kk
theorem xp_X6_27 (C : gC p s m args meth c cc nL RX6 ret D (xtys cI cB cZ cQ) xord g Am) (O : xO g cI cB cZ cQ Am) (X : gX D (xcell g cI cB cZ cQ) xord g S s H locs) (hk : xk k = 9) {x : Int32} (hS : S' = sU S k 5 x) (hdg : decode cc pc = .ok (.putfield 27, 3)) (kk : ∀ (H1 : Heap) (locs1 : List Loc), gX D (xcell g cI cB cZ cQ) xord g S' s H1 locs1 → W p l e R s m args below meth c H1 locs1 cs sl Q (F0 m (pc + 3) ls rest)) : W p l e R s m args below meth c H locs cs sl Q (F0 m pc ls (.int x :: .ref (g k) :: rest)) := by
  subst hS
  exact g_putN C O.1 X (q := k) (k := k) (x_pos hk (by decide)) (x_c9 g cI cB cZ cQ S hk) (ci := 9) rfl x_in9 tyX9 tyX9_ok nmX9 5 (by decide) (O.2 _ _ _ C.2.2.2.2.2 _ xl_X6_27) rfl rfl rfl (Nat.le_of_ble_eq_true rfl) (fun i h => sU_ne h) (by rw [x_c9 g cI cB cZ cQ _ hk, sU_eq]; rfl) hdg kk
theorem xl_X7_31 : Cond.fieldLinkNest RX7 31 "GrottoHours$Town" "guilds" "I" "GrottoHours" ∈ xNest := List.mem_of_getElem? (i := 24) rfl
theorem xg_X7_31 (C : gC p s m args meth c cc nL RX7 ret D (xtys cI cB cZ cQ) xord g Am) (O : xO g cI cB cZ cQ Am) (X : gX D (xcell g cI cB cZ cQ) xord g S s H locs) (hk : xk k = 9) (hdg : decode cc pc = .ok (.getfield 31, 3)) (kk : W p l e R s m args below meth c H locs cs sl Q (F0 m (pc + 3) ls (.int (S k 5) :: rest))) : W p l e R s m args below meth c H locs cs sl Q (F0 m pc ls (.ref (g k) :: rest)) :=
  g_getN C X (q := k) (k := k) (x_pos hk (by decide)) (x_c9 g cI cB cZ cQ S hk) (ci := 9) rfl x_in9 5 (by decide) (O.2 _ _ _ C.2.2.2.2.2 _ xl_X7_31) rfl hdg kk
theorem xp_X7_31 (C : gC p s m args meth c cc nL RX7 ret D (xtys cI cB cZ cQ) xord g Am) (O : xO g cI cB cZ cQ Am) (X : gX D (xcell g cI cB cZ cQ) xord g S s H locs) (hk : xk k = 9) {x : Int32} (hS : S' = sU S k 5 x) (hdg : decode cc pc = .ok (.putfield 31, 3)) (kk : ∀ (H1 : Heap) (locs1 : List Loc), gX D (xcell g cI cB cZ cQ) xord g S' s H1 locs1 → W p l e R s m args below meth c H1 locs1 cs sl Q (F0 m (pc + 3) ls rest)) : W p l e R s m args below meth c H locs cs sl Q (F0 m pc ls (.int x :: .ref (g k) :: rest)) := by
  subst hS
  exact g_putN C O.1 X (q := k) (k := k) (x_pos hk (by decide)) (x_c9 g cI cB cZ cQ S hk) (ci := 9) rfl x_in9 tyX9 tyX9_ok nmX9 5 (by decide) (O.2 _ _ _ C.2.2.2.2.2 _ xl_X7_31) rfl rfl rfl (Nat.le_of_ble_eq_true rfl) (fun i h => sU_ne h) (by rw [x_c9 g cI cB cZ cQ _ hk, sU_eq]; rfl) hdg kk
theorem xl_X2_34 : Cond.fieldLinkNest RX2 34 "GrottoHours$Town" "guilds" "I" "GrottoHours" ∈ xNest := List.mem_of_getElem? (i := 25) rfl
theorem xg_X2_34 (C : gC p s m args meth c cc nL RX2 ret D (xtys cI cB cZ cQ) xord g Am) (O : xO g cI cB cZ cQ Am) (X : gX D (xcell g cI cB cZ cQ) xord g S s H locs) (hk : xk k = 9) (hdg : decode cc pc = .ok (.getfield 34, 3)) (kk : W p l e R s m args below meth c H locs cs sl Q (F0 m (pc + 3) ls (.int (S k 5) :: rest))) : W p l e R s m args below meth c H locs cs sl Q (F0 m pc ls (.ref (g k) :: rest)) :=
  g_getN C X (q := k) (k := k) (x_pos hk (by decide)) (x_c9 g cI cB cZ cQ S hk) (ci := 9) rfl x_in9 5 (by decide) (O.2 _ _ _ C.2.2.2.2.2 _ xl_X2_34) rfl hdg kk
theorem xp_X2_34 (C : gC p s m args meth c cc nL RX2 ret D (xtys cI cB cZ cQ) xord g Am) (O : xO g cI cB cZ cQ Am) (X : gX D (xcell g cI cB cZ cQ) xord g S s H locs) (hk : xk k = 9) {x : Int32} (hS : S' = sU S k 5 x) (hdg : decode cc pc = .ok (.putfield 34, 3)) (kk : ∀ (H1 : Heap) (locs1 : List Loc), gX D (xcell g cI cB cZ cQ) xord g S' s H1 locs1 → W p l e R s m args below meth c H1 locs1 cs sl Q (F0 m (pc + 3) ls rest)) : W p l e R s m args below meth c H locs cs sl Q (F0 m pc ls (.int x :: .ref (g k) :: rest)) := by
  subst hS
  exact g_putN C O.1 X (q := k) (k := k) (x_pos hk (by decide)) (x_c9 g cI cB cZ cQ S hk) (ci := 9) rfl x_in9 tyX9 tyX9_ok nmX9 5 (by decide) (O.2 _ _ _ C.2.2.2.2.2 _ xl_X2_34) rfl rfl rfl (Nat.le_of_ble_eq_true rfl) (fun i h => sU_ne h) (by rw [x_c9 g cI cB cZ cQ _ hk, sU_eq]; rfl) hdg kk
theorem xl_X11_111 : Cond.fieldLinkNest RX11 111 "GrottoHours$Town" "guilds" "I" "GrottoHours" ∈ xNest := List.mem_of_getElem? (i := 26) rfl
theorem xg_X11_111 (C : gC p s m args meth c cc nL RX11 ret D (xtys cI cB cZ cQ) xord g Am) (O : xO g cI cB cZ cQ Am) (X : gX D (xcell g cI cB cZ cQ) xord g S s H locs) (hk : xk k = 9) (hdg : decode cc pc = .ok (.getfield 111, 3)) (kk : W p l e R s m args below meth c H locs cs sl Q (F0 m (pc + 3) ls (.int (S k 5) :: rest))) : W p l e R s m args below meth c H locs cs sl Q (F0 m pc ls (.ref (g k) :: rest)) :=
  g_getN C X (q := k) (k := k) (x_pos hk (by decide)) (x_c9 g cI cB cZ cQ S hk) (ci := 9) rfl x_in9 5 (by decide) (O.2 _ _ _ C.2.2.2.2.2 _ xl_X11_111) rfl hdg kk
theorem xp_X11_111 (C : gC p s m args meth c cc nL RX11 ret D (xtys cI cB cZ cQ) xord g Am) (O : xO g cI cB cZ cQ Am) (X : gX D (xcell g cI cB cZ cQ) xord g S s H locs) (hk : xk k = 9) {x : Int32} (hS : S' = sU S k 5 x) (hdg : decode cc pc = .ok (.putfield 111, 3)) (kk : ∀ (H1 : Heap) (locs1 : List Loc), gX D (xcell g cI cB cZ cQ) xord g S' s H1 locs1 → W p l e R s m args below meth c H1 locs1 cs sl Q (F0 m (pc + 3) ls rest)) : W p l e R s m args below meth c H locs cs sl Q (F0 m pc ls (.int x :: .ref (g k) :: rest)) := by
  subst hS
  exact g_putN C O.1 X (q := k) (k := k) (x_pos hk (by decide)) (x_c9 g cI cB cZ cQ S hk) (ci := 9) rfl x_in9 tyX9 tyX9_ok nmX9 5 (by decide) (O.2 _ _ _ C.2.2.2.2.2 _ xl_X11_111) rfl rfl rfl (Nat.le_of_ble_eq_true rfl) (fun i h => sU_ne h) (by rw [x_c9 g cI cB cZ cQ _ hk, sU_eq]; rfl) hdg kk
theorem xl_X3_133 : Cond.fieldLinkNest RX3 133 "GrottoHours$Town" "guilds" "I" "GrottoHours" ∈ xNest := List.mem_of_getElem? (i := 27) rfl
theorem xg_X3_133 (C : gC p s m args meth c cc nL RX3 ret D (xtys cI cB cZ cQ) xord g Am) (O : xO g cI cB cZ cQ Am) (X : gX D (xcell g cI cB cZ cQ) xord g S s H locs) (hk : xk k = 9) (hdg : decode cc pc = .ok (.getfield 133, 3)) (kk : W p l e R s m args below meth c H locs cs sl Q (F0 m (pc + 3) ls (.int (S k 5) :: rest))) : W p l e R s m args below meth c H locs cs sl Q (F0 m pc ls (.ref (g k) :: rest)) :=
  g_getN C X (q := k) (k := k) (x_pos hk (by decide)) (x_c9 g cI cB cZ cQ S hk) (ci := 9) rfl x_in9 5 (by decide) (O.2 _ _ _ C.2.2.2.2.2 _ xl_X3_133) rfl hdg kk
theorem xp_X3_133 (C : gC p s m args meth c cc nL RX3 ret D (xtys cI cB cZ cQ) xord g Am) (O : xO g cI cB cZ cQ Am) (X : gX D (xcell g cI cB cZ cQ) xord g S s H locs) (hk : xk k = 9) {x : Int32} (hS : S' = sU S k 5 x) (hdg : decode cc pc = .ok (.putfield 133, 3)) (kk : ∀ (H1 : Heap) (locs1 : List Loc), gX D (xcell g cI cB cZ cQ) xord g S' s H1 locs1 → W p l e R s m args below meth c H1 locs1 cs sl Q (F0 m (pc + 3) ls rest)) : W p l e R s m args below meth c H locs cs sl Q (F0 m pc ls (.int x :: .ref (g k) :: rest)) := by
  subst hS
  exact g_putN C O.1 X (q := k) (k := k) (x_pos hk (by decide)) (x_c9 g cI cB cZ cQ S hk) (ci := 9) rfl x_in9 tyX9 tyX9_ok nmX9 5 (by decide) (O.2 _ _ _ C.2.2.2.2.2 _ xl_X3_133) rfl rfl rfl (Nat.le_of_ble_eq_true rfl) (fun i h => sU_ne h) (by rw [x_c9 g cI cB cZ cQ _ hk, sU_eq]; rfl) hdg kk
theorem xl_X9_32 : Cond.fieldLink RX9 32 "GrottoHours$Town" "greed" "[I" ∈ gT := gT_c1 128 rfl rfl
theorem xg_X9_32 (C : gC p s m args meth c cc nL RX9 ret D (xtys cI cB cZ cQ) xord g Am) (O : xO g cI cB cZ cQ Am) (X : gX D (xcell g cI cB cZ cQ) xord g S s H locs) (hk : xk k = 9) {j : Nat} (hj : k + 5 = j) (hdg : decode cc pc = .ok (.getfield 32, 3)) (kk : W p l e R s m args below meth c H locs cs sl Q (F0 m (pc + 3) ls (.ref (g j) :: rest))) : W p l e R s m args below meth c H locs cs sl Q (F0 m pc ls (.ref (g k) :: rest)) := by
  subst hj
  exact g_get C X (q := k) (k := k) (x_pos hk (by decide)) (x_c9 g cI cB cZ cQ S hk) (ci := 9) rfl x_in9 6 (by decide) xl_X9_32 rfl hdg kk
theorem xl_X10_42 : Cond.fieldLinkNest RX10 42 "GrottoHours$Town" "greed" "[I" "GrottoHours" ∈ xNest := List.mem_of_getElem? (i := 28) rfl
theorem xg_X10_42 (C : gC p s m args meth c cc nL RX10 ret D (xtys cI cB cZ cQ) xord g Am) (O : xO g cI cB cZ cQ Am) (X : gX D (xcell g cI cB cZ cQ) xord g S s H locs) (hk : xk k = 9) {j : Nat} (hj : k + 5 = j) (hdg : decode cc pc = .ok (.getfield 42, 3)) (kk : W p l e R s m args below meth c H locs cs sl Q (F0 m (pc + 3) ls (.ref (g j) :: rest))) : W p l e R s m args below meth c H locs cs sl Q (F0 m pc ls (.ref (g k) :: rest)) := by
  subst hj
  exact g_getN C X (q := k) (k := k) (x_pos hk (by decide)) (x_c9 g cI cB cZ cQ S hk) (ci := 9) rfl x_in9 6 (by decide) (O.2 _ _ _ C.2.2.2.2.2 _ xl_X10_42) rfl hdg kk
theorem xl_X2_76 : Cond.fieldLinkNest RX2 76 "GrottoHours$Town" "greed" "[I" "GrottoHours" ∈ xNest := List.mem_of_getElem? (i := 29) rfl
theorem xg_X2_76 (C : gC p s m args meth c cc nL RX2 ret D (xtys cI cB cZ cQ) xord g Am) (O : xO g cI cB cZ cQ Am) (X : gX D (xcell g cI cB cZ cQ) xord g S s H locs) (hk : xk k = 9) {j : Nat} (hj : k + 5 = j) (hdg : decode cc pc = .ok (.getfield 76, 3)) (kk : W p l e R s m args below meth c H locs cs sl Q (F0 m (pc + 3) ls (.ref (g j) :: rest))) : W p l e R s m args below meth c H locs cs sl Q (F0 m pc ls (.ref (g k) :: rest)) := by
  subst hj
  exact g_getN C X (q := k) (k := k) (x_pos hk (by decide)) (x_c9 g cI cB cZ cQ S hk) (ci := 9) rfl x_in9 6 (by decide) (O.2 _ _ _ C.2.2.2.2.2 _ xl_X2_76) rfl hdg kk
theorem xl_X11_194 : Cond.fieldLinkNest RX11 194 "GrottoHours$Town" "greed" "[I" "GrottoHours" ∈ xNest := List.mem_of_getElem? (i := 30) rfl
theorem xg_X11_194 (C : gC p s m args meth c cc nL RX11 ret D (xtys cI cB cZ cQ) xord g Am) (O : xO g cI cB cZ cQ Am) (X : gX D (xcell g cI cB cZ cQ) xord g S s H locs) (hk : xk k = 9) {j : Nat} (hj : k + 5 = j) (hdg : decode cc pc = .ok (.getfield 194, 3)) (kk : W p l e R s m args below meth c H locs cs sl Q (F0 m (pc + 3) ls (.ref (g j) :: rest))) : W p l e R s m args below meth c H locs cs sl Q (F0 m pc ls (.ref (g k) :: rest)) := by
  subst hj
  exact g_getN C X (q := k) (k := k) (x_pos hk (by decide)) (x_c9 g cI cB cZ cQ S hk) (ci := 9) rfl x_in9 6 (by decide) (O.2 _ _ _ C.2.2.2.2.2 _ xl_X11_194) rfl hdg kk
theorem xl_X3_136 : Cond.fieldLinkNest RX3 136 "GrottoHours$Town" "greed" "[I" "GrottoHours" ∈ xNest := List.mem_of_getElem? (i := 31) rfl
theorem xg_X3_136 (C : gC p s m args meth c cc nL RX3 ret D (xtys cI cB cZ cQ) xord g Am) (O : xO g cI cB cZ cQ Am) (X : gX D (xcell g cI cB cZ cQ) xord g S s H locs) (hk : xk k = 9) {j : Nat} (hj : k + 5 = j) (hdg : decode cc pc = .ok (.getfield 136, 3)) (kk : W p l e R s m args below meth c H locs cs sl Q (F0 m (pc + 3) ls (.ref (g j) :: rest))) : W p l e R s m args below meth c H locs cs sl Q (F0 m pc ls (.ref (g k) :: rest)) := by
  subst hj
  exact g_getN C X (q := k) (k := k) (x_pos hk (by decide)) (x_c9 g cI cB cZ cQ S hk) (ci := 9) rfl x_in9 6 (by decide) (O.2 _ _ _ C.2.2.2.2.2 _ xl_X3_136) rfl hdg kk
theorem xl_X9_35 : Cond.fieldLink RX9 35 "GrottoHours$Town" "sin" "[I" ∈ gT := gT_c1 133 rfl rfl
theorem xg_X9_35 (C : gC p s m args meth c cc nL RX9 ret D (xtys cI cB cZ cQ) xord g Am) (O : xO g cI cB cZ cQ Am) (X : gX D (xcell g cI cB cZ cQ) xord g S s H locs) (hk : xk k = 9) {j : Nat} (hj : k + 6 = j) (hdg : decode cc pc = .ok (.getfield 35, 3)) (kk : W p l e R s m args below meth c H locs cs sl Q (F0 m (pc + 3) ls (.ref (g j) :: rest))) : W p l e R s m args below meth c H locs cs sl Q (F0 m pc ls (.ref (g k) :: rest)) := by
  subst hj
  exact g_get C X (q := k) (k := k) (x_pos hk (by decide)) (x_c9 g cI cB cZ cQ S hk) (ci := 9) rfl x_in9 7 (by decide) xl_X9_35 rfl hdg kk
theorem xl_X7_36 : Cond.fieldLinkNest RX7 36 "GrottoHours$Town" "sin" "[I" "GrottoHours" ∈ xNest := List.mem_of_getElem? (i := 32) rfl
theorem xg_X7_36 (C : gC p s m args meth c cc nL RX7 ret D (xtys cI cB cZ cQ) xord g Am) (O : xO g cI cB cZ cQ Am) (X : gX D (xcell g cI cB cZ cQ) xord g S s H locs) (hk : xk k = 9) {j : Nat} (hj : k + 6 = j) (hdg : decode cc pc = .ok (.getfield 36, 3)) (kk : W p l e R s m args below meth c H locs cs sl Q (F0 m (pc + 3) ls (.ref (g j) :: rest))) : W p l e R s m args below meth c H locs cs sl Q (F0 m pc ls (.ref (g k) :: rest)) := by
  subst hj
  exact g_getN C X (q := k) (k := k) (x_pos hk (by decide)) (x_c9 g cI cB cZ cQ S hk) (ci := 9) rfl x_in9 7 (by decide) (O.2 _ _ _ C.2.2.2.2.2 _ xl_X7_36) rfl hdg kk
theorem xl_X3_139 : Cond.fieldLinkNest RX3 139 "GrottoHours$Town" "sin" "[I" "GrottoHours" ∈ xNest := List.mem_of_getElem? (i := 33) rfl
theorem xg_X3_139 (C : gC p s m args meth c cc nL RX3 ret D (xtys cI cB cZ cQ) xord g Am) (O : xO g cI cB cZ cQ Am) (X : gX D (xcell g cI cB cZ cQ) xord g S s H locs) (hk : xk k = 9) {j : Nat} (hj : k + 6 = j) (hdg : decode cc pc = .ok (.getfield 139, 3)) (kk : W p l e R s m args below meth c H locs cs sl Q (F0 m (pc + 3) ls (.ref (g j) :: rest))) : W p l e R s m args below meth c H locs cs sl Q (F0 m pc ls (.ref (g k) :: rest)) := by
  subst hj
  exact g_getN C X (q := k) (k := k) (x_pos hk (by decide)) (x_c9 g cI cB cZ cQ S hk) (ci := 9) rfl x_in9 7 (by decide) (O.2 _ _ _ C.2.2.2.2.2 _ xl_X3_139) rfl hdg kk
theorem xl_X9_38 : Cond.fieldLink RX9 38 "GrottoHours$Town" "purse" "[I" ∈ gT := gT_c1 136 rfl rfl
theorem xg_X9_38 (C : gC p s m args meth c cc nL RX9 ret D (xtys cI cB cZ cQ) xord g Am) (O : xO g cI cB cZ cQ Am) (X : gX D (xcell g cI cB cZ cQ) xord g S s H locs) (hk : xk k = 9) {j : Nat} (hj : k + 7 = j) (hdg : decode cc pc = .ok (.getfield 38, 3)) (kk : W p l e R s m args below meth c H locs cs sl Q (F0 m (pc + 3) ls (.ref (g j) :: rest))) : W p l e R s m args below meth c H locs cs sl Q (F0 m pc ls (.ref (g k) :: rest)) := by
  subst hj
  exact g_get C X (q := k) (k := k) (x_pos hk (by decide)) (x_c9 g cI cB cZ cQ S hk) (ci := 9) rfl x_in9 8 (by decide) xl_X9_38 rfl hdg kk
theorem xl_X7_37 : Cond.fieldLinkNest RX7 37 "GrottoHours$Town" "purse" "[I" "GrottoHours" ∈ xNest := List.mem_of_getElem? (i := 34) rfl
theorem xg_X7_37 (C : gC p s m args meth c cc nL RX7 ret D (xtys cI cB cZ cQ) xord g Am) (O : xO g cI cB cZ cQ Am) (X : gX D (xcell g cI cB cZ cQ) xord g S s H locs) (hk : xk k = 9) {j : Nat} (hj : k + 7 = j) (hdg : decode cc pc = .ok (.getfield 37, 3)) (kk : W p l e R s m args below meth c H locs cs sl Q (F0 m (pc + 3) ls (.ref (g j) :: rest))) : W p l e R s m args below meth c H locs cs sl Q (F0 m pc ls (.ref (g k) :: rest)) := by
  subst hj
  exact g_getN C X (q := k) (k := k) (x_pos hk (by decide)) (x_c9 g cI cB cZ cQ S hk) (ci := 9) rfl x_in9 8 (by decide) (O.2 _ _ _ C.2.2.2.2.2 _ xl_X7_37) rfl hdg kk
theorem xl_X3_142 : Cond.fieldLinkNest RX3 142 "GrottoHours$Town" "purse" "[I" "GrottoHours" ∈ xNest := List.mem_of_getElem? (i := 35) rfl
theorem xg_X3_142 (C : gC p s m args meth c cc nL RX3 ret D (xtys cI cB cZ cQ) xord g Am) (O : xO g cI cB cZ cQ Am) (X : gX D (xcell g cI cB cZ cQ) xord g S s H locs) (hk : xk k = 9) {j : Nat} (hj : k + 7 = j) (hdg : decode cc pc = .ok (.getfield 142, 3)) (kk : W p l e R s m args below meth c H locs cs sl Q (F0 m (pc + 3) ls (.ref (g j) :: rest))) : W p l e R s m args below meth c H locs cs sl Q (F0 m pc ls (.ref (g k) :: rest)) := by
  subst hj
  exact g_getN C X (q := k) (k := k) (x_pos hk (by decide)) (x_c9 g cI cB cZ cQ S hk) (ci := 9) rfl x_in9 8 (by decide) (O.2 _ _ _ C.2.2.2.2.2 _ xl_X3_142) rfl hdg kk
theorem xl_X9_41 : Cond.fieldLink RX9 41 "GrottoHours$Town" "hired" "[I" ∈ gT := gT_c1 139 rfl rfl
theorem xg_X9_41 (C : gC p s m args meth c cc nL RX9 ret D (xtys cI cB cZ cQ) xord g Am) (O : xO g cI cB cZ cQ Am) (X : gX D (xcell g cI cB cZ cQ) xord g S s H locs) (hk : xk k = 9) {j : Nat} (hj : k + 8 = j) (hdg : decode cc pc = .ok (.getfield 41, 3)) (kk : W p l e R s m args below meth c H locs cs sl Q (F0 m (pc + 3) ls (.ref (g j) :: rest))) : W p l e R s m args below meth c H locs cs sl Q (F0 m pc ls (.ref (g k) :: rest)) := by
  subst hj
  exact g_get C X (q := k) (k := k) (x_pos hk (by decide)) (x_c9 g cI cB cZ cQ S hk) (ci := 9) rfl x_in9 9 (by decide) xl_X9_41 rfl hdg kk
theorem xl_X7_38 : Cond.fieldLinkNest RX7 38 "GrottoHours$Town" "hired" "[I" "GrottoHours" ∈ xNest := List.mem_of_getElem? (i := 36) rfl
theorem xg_X7_38 (C : gC p s m args meth c cc nL RX7 ret D (xtys cI cB cZ cQ) xord g Am) (O : xO g cI cB cZ cQ Am) (X : gX D (xcell g cI cB cZ cQ) xord g S s H locs) (hk : xk k = 9) {j : Nat} (hj : k + 8 = j) (hdg : decode cc pc = .ok (.getfield 38, 3)) (kk : W p l e R s m args below meth c H locs cs sl Q (F0 m (pc + 3) ls (.ref (g j) :: rest))) : W p l e R s m args below meth c H locs cs sl Q (F0 m pc ls (.ref (g k) :: rest)) := by
  subst hj
  exact g_getN C X (q := k) (k := k) (x_pos hk (by decide)) (x_c9 g cI cB cZ cQ S hk) (ci := 9) rfl x_in9 9 (by decide) (O.2 _ _ _ C.2.2.2.2.2 _ xl_X7_38) rfl hdg kk
theorem xl_X3_145 : Cond.fieldLinkNest RX3 145 "GrottoHours$Town" "hired" "[I" "GrottoHours" ∈ xNest := List.mem_of_getElem? (i := 37) rfl
theorem xg_X3_145 (C : gC p s m args meth c cc nL RX3 ret D (xtys cI cB cZ cQ) xord g Am) (O : xO g cI cB cZ cQ Am) (X : gX D (xcell g cI cB cZ cQ) xord g S s H locs) (hk : xk k = 9) {j : Nat} (hj : k + 8 = j) (hdg : decode cc pc = .ok (.getfield 145, 3)) (kk : W p l e R s m args below meth c H locs cs sl Q (F0 m (pc + 3) ls (.ref (g j) :: rest))) : W p l e R s m args below meth c H locs cs sl Q (F0 m pc ls (.ref (g k) :: rest)) := by
  subst hj
  exact g_getN C X (q := k) (k := k) (x_pos hk (by decide)) (x_c9 g cI cB cZ cQ S hk) (ci := 9) rfl x_in9 9 (by decide) (O.2 _ _ _ C.2.2.2.2.2 _ xl_X3_145) rfl hdg kk
theorem xl_X9_44 : Cond.fieldLink RX9 44 "GrottoHours$Town" "wets" "I" ∈ gT := gT_c1 142 rfl rfl
theorem xg_X9_44 (C : gC p s m args meth c cc nL RX9 ret D (xtys cI cB cZ cQ) xord g Am) (O : xO g cI cB cZ cQ Am) (X : gX D (xcell g cI cB cZ cQ) xord g S s H locs) (hk : xk k = 9) (hdg : decode cc pc = .ok (.getfield 44, 3)) (kk : W p l e R s m args below meth c H locs cs sl Q (F0 m (pc + 3) ls (.int (S k 10) :: rest))) : W p l e R s m args below meth c H locs cs sl Q (F0 m pc ls (.ref (g k) :: rest)) :=
  g_get C X (q := k) (k := k) (x_pos hk (by decide)) (x_c9 g cI cB cZ cQ S hk) (ci := 9) rfl x_in9 10 (by decide) xl_X9_44 rfl hdg kk
theorem xp_X9_44 (C : gC p s m args meth c cc nL RX9 ret D (xtys cI cB cZ cQ) xord g Am) (O : xO g cI cB cZ cQ Am) (X : gX D (xcell g cI cB cZ cQ) xord g S s H locs) (hk : xk k = 9) {x : Int32} (hS : S' = sU S k 10 x) (hdg : decode cc pc = .ok (.putfield 44, 3)) (kk : ∀ (H1 : Heap) (locs1 : List Loc), gX D (xcell g cI cB cZ cQ) xord g S' s H1 locs1 → W p l e R s m args below meth c H1 locs1 cs sl Q (F0 m (pc + 3) ls rest)) : W p l e R s m args below meth c H locs cs sl Q (F0 m pc ls (.int x :: .ref (g k) :: rest)) := by
  subst hS
  exact g_put C O.1 X (q := k) (k := k) (x_pos hk (by decide)) (x_c9 g cI cB cZ cQ S hk) (ci := 9) rfl x_in9 tyX9 tyX9_ok nmX9 10 (by decide) xl_X9_44 rfl rfl rfl (Nat.le_of_ble_eq_true rfl) (fun i h => sU_ne h) (by rw [x_c9 g cI cB cZ cQ _ hk, sU_eq]; rfl) hdg kk
theorem xl_X3_161 : Cond.fieldLinkNest RX3 161 "GrottoHours$Town" "wets" "I" "GrottoHours" ∈ xNest := List.mem_of_getElem? (i := 38) rfl
theorem xg_X3_161 (C : gC p s m args meth c cc nL RX3 ret D (xtys cI cB cZ cQ) xord g Am) (O : xO g cI cB cZ cQ Am) (X : gX D (xcell g cI cB cZ cQ) xord g S s H locs) (hk : xk k = 9) (hdg : decode cc pc = .ok (.getfield 161, 3)) (kk : W p l e R s m args below meth c H locs cs sl Q (F0 m (pc + 3) ls (.int (S k 10) :: rest))) : W p l e R s m args below meth c H locs cs sl Q (F0 m pc ls (.ref (g k) :: rest)) :=
  g_getN C X (q := k) (k := k) (x_pos hk (by decide)) (x_c9 g cI cB cZ cQ S hk) (ci := 9) rfl x_in9 10 (by decide) (O.2 _ _ _ C.2.2.2.2.2 _ xl_X3_161) rfl hdg kk
theorem xp_X3_161 (C : gC p s m args meth c cc nL RX3 ret D (xtys cI cB cZ cQ) xord g Am) (O : xO g cI cB cZ cQ Am) (X : gX D (xcell g cI cB cZ cQ) xord g S s H locs) (hk : xk k = 9) {x : Int32} (hS : S' = sU S k 10 x) (hdg : decode cc pc = .ok (.putfield 161, 3)) (kk : ∀ (H1 : Heap) (locs1 : List Loc), gX D (xcell g cI cB cZ cQ) xord g S' s H1 locs1 → W p l e R s m args below meth c H1 locs1 cs sl Q (F0 m (pc + 3) ls rest)) : W p l e R s m args below meth c H locs cs sl Q (F0 m pc ls (.int x :: .ref (g k) :: rest)) := by
  subst hS
  exact g_putN C O.1 X (q := k) (k := k) (x_pos hk (by decide)) (x_c9 g cI cB cZ cQ S hk) (ci := 9) rfl x_in9 tyX9 tyX9_ok nmX9 10 (by decide) (O.2 _ _ _ C.2.2.2.2.2 _ xl_X3_161) rfl rfl rfl (Nat.le_of_ble_eq_true rfl) (fun i h => sU_ne h) (by rw [x_c9 g cI cB cZ cQ _ hk, sU_eq]; rfl) hdg kk
theorem xl_X9_47 : Cond.fieldLink RX9 47 "GrottoHours$Town" "wet" "[I" ∈ gT := gT_c1 144 rfl rfl
theorem xg_X9_47 (C : gC p s m args meth c cc nL RX9 ret D (xtys cI cB cZ cQ) xord g Am) (O : xO g cI cB cZ cQ Am) (X : gX D (xcell g cI cB cZ cQ) xord g S s H locs) (hk : xk k = 9) {j : Nat} (hj : k + 9 = j) (hdg : decode cc pc = .ok (.getfield 47, 3)) (kk : W p l e R s m args below meth c H locs cs sl Q (F0 m (pc + 3) ls (.ref (g j) :: rest))) : W p l e R s m args below meth c H locs cs sl Q (F0 m pc ls (.ref (g k) :: rest)) := by
  subst hj
  exact g_get C X (q := k) (k := k) (x_pos hk (by decide)) (x_c9 g cI cB cZ cQ S hk) (ci := 9) rfl x_in9 11 (by decide) xl_X9_47 rfl hdg kk
theorem xl_X3_164 : Cond.fieldLinkNest RX3 164 "GrottoHours$Town" "wet" "[I" "GrottoHours" ∈ xNest := List.mem_of_getElem? (i := 39) rfl
theorem xg_X3_164 (C : gC p s m args meth c cc nL RX3 ret D (xtys cI cB cZ cQ) xord g Am) (O : xO g cI cB cZ cQ Am) (X : gX D (xcell g cI cB cZ cQ) xord g S s H locs) (hk : xk k = 9) {j : Nat} (hj : k + 9 = j) (hdg : decode cc pc = .ok (.getfield 164, 3)) (kk : W p l e R s m args below meth c H locs cs sl Q (F0 m (pc + 3) ls (.ref (g j) :: rest))) : W p l e R s m args below meth c H locs cs sl Q (F0 m pc ls (.ref (g k) :: rest)) := by
  subst hj
  exact g_getN C X (q := k) (k := k) (x_pos hk (by decide)) (x_c9 g cI cB cZ cQ S hk) (ci := 9) rfl x_in9 11 (by decide) (O.2 _ _ _ C.2.2.2.2.2 _ xl_X3_164) rfl hdg kk
theorem xl_X9_50 : Cond.fieldLink RX9 50 "GrottoHours$Town" "bound" "I" ∈ gT := gT_c1 146 rfl rfl
theorem xg_X9_50 (C : gC p s m args meth c cc nL RX9 ret D (xtys cI cB cZ cQ) xord g Am) (O : xO g cI cB cZ cQ Am) (X : gX D (xcell g cI cB cZ cQ) xord g S s H locs) (hk : xk k = 9) (hdg : decode cc pc = .ok (.getfield 50, 3)) (kk : W p l e R s m args below meth c H locs cs sl Q (F0 m (pc + 3) ls (.int (S k 12) :: rest))) : W p l e R s m args below meth c H locs cs sl Q (F0 m pc ls (.ref (g k) :: rest)) :=
  g_get C X (q := k) (k := k) (x_pos hk (by decide)) (x_c9 g cI cB cZ cQ S hk) (ci := 9) rfl x_in9 12 (by decide) xl_X9_50 rfl hdg kk
theorem xp_X9_50 (C : gC p s m args meth c cc nL RX9 ret D (xtys cI cB cZ cQ) xord g Am) (O : xO g cI cB cZ cQ Am) (X : gX D (xcell g cI cB cZ cQ) xord g S s H locs) (hk : xk k = 9) {x : Int32} (hS : S' = sU S k 12 x) (hdg : decode cc pc = .ok (.putfield 50, 3)) (kk : ∀ (H1 : Heap) (locs1 : List Loc), gX D (xcell g cI cB cZ cQ) xord g S' s H1 locs1 → W p l e R s m args below meth c H1 locs1 cs sl Q (F0 m (pc + 3) ls rest)) : W p l e R s m args below meth c H locs cs sl Q (F0 m pc ls (.int x :: .ref (g k) :: rest)) := by
  subst hS
  exact g_put C O.1 X (q := k) (k := k) (x_pos hk (by decide)) (x_c9 g cI cB cZ cQ S hk) (ci := 9) rfl x_in9 tyX9 tyX9_ok nmX9 12 (by decide) xl_X9_50 rfl rfl rfl (Nat.le_of_ble_eq_true rfl) (fun i h => sU_ne h) (by rw [x_c9 g cI cB cZ cQ _ hk, sU_eq]; rfl) hdg kk
theorem xl_X3_169 : Cond.fieldLinkNest RX3 169 "GrottoHours$Town" "bound" "I" "GrottoHours" ∈ xNest := List.mem_of_getElem? (i := 40) rfl
theorem xg_X3_169 (C : gC p s m args meth c cc nL RX3 ret D (xtys cI cB cZ cQ) xord g Am) (O : xO g cI cB cZ cQ Am) (X : gX D (xcell g cI cB cZ cQ) xord g S s H locs) (hk : xk k = 9) (hdg : decode cc pc = .ok (.getfield 169, 3)) (kk : W p l e R s m args below meth c H locs cs sl Q (F0 m (pc + 3) ls (.int (S k 12) :: rest))) : W p l e R s m args below meth c H locs cs sl Q (F0 m pc ls (.ref (g k) :: rest)) :=
  g_getN C X (q := k) (k := k) (x_pos hk (by decide)) (x_c9 g cI cB cZ cQ S hk) (ci := 9) rfl x_in9 12 (by decide) (O.2 _ _ _ C.2.2.2.2.2 _ xl_X3_169) rfl hdg kk
theorem xp_X3_169 (C : gC p s m args meth c cc nL RX3 ret D (xtys cI cB cZ cQ) xord g Am) (O : xO g cI cB cZ cQ Am) (X : gX D (xcell g cI cB cZ cQ) xord g S s H locs) (hk : xk k = 9) {x : Int32} (hS : S' = sU S k 12 x) (hdg : decode cc pc = .ok (.putfield 169, 3)) (kk : ∀ (H1 : Heap) (locs1 : List Loc), gX D (xcell g cI cB cZ cQ) xord g S' s H1 locs1 → W p l e R s m args below meth c H1 locs1 cs sl Q (F0 m (pc + 3) ls rest)) : W p l e R s m args below meth c H locs cs sl Q (F0 m pc ls (.int x :: .ref (g k) :: rest)) := by
  subst hS
  exact g_putN C O.1 X (q := k) (k := k) (x_pos hk (by decide)) (x_c9 g cI cB cZ cQ S hk) (ci := 9) rfl x_in9 tyX9 tyX9_ok nmX9 12 (by decide) (O.2 _ _ _ C.2.2.2.2.2 _ xl_X3_169) rfl rfl rfl (Nat.le_of_ble_eq_true rfl) (fun i h => sU_ne h) (by rw [x_c9 g cI cB cZ cQ _ hk, sU_eq]; rfl) hdg kk
theorem xl_X9_58 : Cond.fieldLink RX9 58 "GrottoHours$Town" "prays" "LGrottoHours$Rule;" ∈ gT := gT_c1 148 rfl rfl
theorem xg_X9_58 (C : gC p s m args meth c cc nL RX9 ret D (xtys cI cB cZ cQ) xord g Am) (O : xO g cI cB cZ cQ Am) (X : gX D (xcell g cI cB cZ cQ) xord g S s H locs) (hk : xk k = 9) {j : Nat} (hj : k + 10 = j) (hdg : decode cc pc = .ok (.getfield 58, 3)) (kk : W p l e R s m args below meth c H locs cs sl Q (F0 m (pc + 3) ls (.ref (g j) :: rest))) : W p l e R s m args below meth c H locs cs sl Q (F0 m pc ls (.ref (g k) :: rest)) := by
  subst hj
  exact g_get C X (q := k) (k := k) (x_pos hk (by decide)) (x_c9 g cI cB cZ cQ S hk) (ci := 9) rfl x_in9 13 (by decide) xl_X9_58 rfl hdg kk
theorem xl_X3_102 : Cond.fieldLinkNest RX3 102 "GrottoHours$Town" "prays" "LGrottoHours$Rule;" "GrottoHours" ∈ xNest := List.mem_of_getElem? (i := 41) rfl
theorem xg_X3_102 (C : gC p s m args meth c cc nL RX3 ret D (xtys cI cB cZ cQ) xord g Am) (O : xO g cI cB cZ cQ Am) (X : gX D (xcell g cI cB cZ cQ) xord g S s H locs) (hk : xk k = 9) {j : Nat} (hj : k + 10 = j) (hdg : decode cc pc = .ok (.getfield 102, 3)) (kk : W p l e R s m args below meth c H locs cs sl Q (F0 m (pc + 3) ls (.ref (g j) :: rest))) : W p l e R s m args below meth c H locs cs sl Q (F0 m pc ls (.ref (g k) :: rest)) := by
  subst hj
  exact g_getN C X (q := k) (k := k) (x_pos hk (by decide)) (x_c9 g cI cB cZ cQ S hk) (ci := 9) rfl x_in9 13 (by decide) (O.2 _ _ _ C.2.2.2.2.2 _ xl_X3_102) rfl hdg kk
theorem xl_X10_117 : Cond.fieldLinkNest RX10 117 "GrottoHours$Town" "prays" "LGrottoHours$Rule;" "GrottoHours" ∈ xNest := List.mem_of_getElem? (i := 42) rfl
theorem xg_X10_117 (C : gC p s m args meth c cc nL RX10 ret D (xtys cI cB cZ cQ) xord g Am) (O : xO g cI cB cZ cQ Am) (X : gX D (xcell g cI cB cZ cQ) xord g S s H locs) (hk : xk k = 9) {j : Nat} (hj : k + 10 = j) (hdg : decode cc pc = .ok (.getfield 117, 3)) (kk : W p l e R s m args below meth c H locs cs sl Q (F0 m (pc + 3) ls (.ref (g j) :: rest))) : W p l e R s m args below meth c H locs cs sl Q (F0 m pc ls (.ref (g k) :: rest)) := by
  subst hj
  exact g_getN C X (q := k) (k := k) (x_pos hk (by decide)) (x_c9 g cI cB cZ cQ S hk) (ci := 9) rfl x_in9 13 (by decide) (O.2 _ _ _ C.2.2.2.2.2 _ xl_X10_117) rfl hdg kk
theorem xl_X11_304 : Cond.fieldLinkNest RX11 304 "GrottoHours$Town" "prays" "LGrottoHours$Rule;" "GrottoHours" ∈ xNest := List.mem_of_getElem? (i := 43) rfl
theorem xg_X11_304 (C : gC p s m args meth c cc nL RX11 ret D (xtys cI cB cZ cQ) xord g Am) (O : xO g cI cB cZ cQ Am) (X : gX D (xcell g cI cB cZ cQ) xord g S s H locs) (hk : xk k = 9) {j : Nat} (hj : k + 10 = j) (hdg : decode cc pc = .ok (.getfield 304, 3)) (kk : W p l e R s m args below meth c H locs cs sl Q (F0 m (pc + 3) ls (.ref (g j) :: rest))) : W p l e R s m args below meth c H locs cs sl Q (F0 m pc ls (.ref (g k) :: rest)) := by
  subst hj
  exact g_getN C X (q := k) (k := k) (x_pos hk (by decide)) (x_c9 g cI cB cZ cQ S hk) (ci := 9) rfl x_in9 13 (by decide) (O.2 _ _ _ C.2.2.2.2.2 _ xl_X11_304) rfl hdg kk
theorem xl_X9_62 : Cond.fieldLink RX9 62 "GrottoHours$Town" "costs" "LGrottoHours$Rule;" ∈ gT := gT_c1 152 rfl rfl
theorem xg_X9_62 (C : gC p s m args meth c cc nL RX9 ret D (xtys cI cB cZ cQ) xord g Am) (O : xO g cI cB cZ cQ Am) (X : gX D (xcell g cI cB cZ cQ) xord g S s H locs) (hk : xk k = 9) {j : Nat} (hj : k + 13 = j) (hdg : decode cc pc = .ok (.getfield 62, 3)) (kk : W p l e R s m args below meth c H locs cs sl Q (F0 m (pc + 3) ls (.ref (g j) :: rest))) : W p l e R s m args below meth c H locs cs sl Q (F0 m pc ls (.ref (g k) :: rest)) := by
  subst hj
  exact g_get C X (q := k) (k := k) (x_pos hk (by decide)) (x_c9 g cI cB cZ cQ S hk) (ci := 9) rfl x_in9 14 (by decide) xl_X9_62 rfl hdg kk
theorem xl_X10_94 : Cond.fieldLinkNest RX10 94 "GrottoHours$Town" "costs" "LGrottoHours$Rule;" "GrottoHours" ∈ xNest := List.mem_of_getElem? (i := 44) rfl
theorem xg_X10_94 (C : gC p s m args meth c cc nL RX10 ret D (xtys cI cB cZ cQ) xord g Am) (O : xO g cI cB cZ cQ Am) (X : gX D (xcell g cI cB cZ cQ) xord g S s H locs) (hk : xk k = 9) {j : Nat} (hj : k + 13 = j) (hdg : decode cc pc = .ok (.getfield 94, 3)) (kk : W p l e R s m args below meth c H locs cs sl Q (F0 m (pc + 3) ls (.ref (g j) :: rest))) : W p l e R s m args below meth c H locs cs sl Q (F0 m pc ls (.ref (g k) :: rest)) := by
  subst hj
  exact g_getN C X (q := k) (k := k) (x_pos hk (by decide)) (x_c9 g cI cB cZ cQ S hk) (ci := 9) rfl x_in9 14 (by decide) (O.2 _ _ _ C.2.2.2.2.2 _ xl_X10_94) rfl hdg kk
theorem xl_X3_111 : Cond.fieldLinkNest RX3 111 "GrottoHours$Town" "costs" "LGrottoHours$Rule;" "GrottoHours" ∈ xNest := List.mem_of_getElem? (i := 45) rfl
theorem xg_X3_111 (C : gC p s m args meth c cc nL RX3 ret D (xtys cI cB cZ cQ) xord g Am) (O : xO g cI cB cZ cQ Am) (X : gX D (xcell g cI cB cZ cQ) xord g S s H locs) (hk : xk k = 9) {j : Nat} (hj : k + 13 = j) (hdg : decode cc pc = .ok (.getfield 111, 3)) (kk : W p l e R s m args below meth c H locs cs sl Q (F0 m (pc + 3) ls (.ref (g j) :: rest))) : W p l e R s m args below meth c H locs cs sl Q (F0 m pc ls (.ref (g k) :: rest)) := by
  subst hj
  exact g_getN C X (q := k) (k := k) (x_pos hk (by decide)) (x_c9 g cI cB cZ cQ S hk) (ci := 9) rfl x_in9 14 (by decide) (O.2 _ _ _ C.2.2.2.2.2 _ xl_X3_111) rfl hdg kk
theorem xl_X11_313 : Cond.fieldLinkNest RX11 313 "GrottoHours$Town" "costs" "LGrottoHours$Rule;" "GrottoHours" ∈ xNest := List.mem_of_getElem? (i := 46) rfl
theorem xg_X11_313 (C : gC p s m args meth c cc nL RX11 ret D (xtys cI cB cZ cQ) xord g Am) (O : xO g cI cB cZ cQ Am) (X : gX D (xcell g cI cB cZ cQ) xord g S s H locs) (hk : xk k = 9) {j : Nat} (hj : k + 13 = j) (hdg : decode cc pc = .ok (.getfield 313, 3)) (kk : W p l e R s m args below meth c H locs cs sl Q (F0 m (pc + 3) ls (.ref (g j) :: rest))) : W p l e R s m args below meth c H locs cs sl Q (F0 m pc ls (.ref (g k) :: rest)) := by
  subst hj
  exact g_getN C X (q := k) (k := k) (x_pos hk (by decide)) (x_c9 g cI cB cZ cQ S hk) (ci := 9) rfl x_in9 14 (by decide) (O.2 _ _ _ C.2.2.2.2.2 _ xl_X11_313) rfl hdg kk
theorem xl_X3_12 : Cond.fieldLink RX3 12 "GrottoHours$Reader" "tape" "LGrottoHours$Tape;" ∈ gT := gT_c1 187 rfl rfl
theorem xg_X3_12 (C : gC p s m args meth c cc nL RX3 ret D (xtys cI cB cZ cQ) xord g Am) (O : xO g cI cB cZ cQ Am) (X : gX D (xcell g cI cB cZ cQ) xord g S s H locs) (hk : xk k = 3) {j : Nat} (hj : k + 1 = j) (hdg : decode cc pc = .ok (.getfield 12, 3)) (kk : W p l e R s m args below meth c H locs cs sl Q (F0 m (pc + 3) ls (.ref (g j) :: rest))) : W p l e R s m args below meth c H locs cs sl Q (F0 m pc ls (.ref (g k) :: rest)) := by
  subst hj
  exact g_get C X (q := k) (k := k) (x_pos hk (by decide)) (x_c3 g cI cB cZ cQ S hk) (ci := 3) rfl x_in3 0 (by decide) xl_X3_12 rfl hdg kk
theorem xl_X11_69 : Cond.fieldLinkNest RX11 69 "GrottoHours$Reader" "tape" "LGrottoHours$Tape;" "GrottoHours" ∈ xNest := List.mem_of_getElem? (i := 47) rfl
theorem xg_X11_69 (C : gC p s m args meth c cc nL RX11 ret D (xtys cI cB cZ cQ) xord g Am) (O : xO g cI cB cZ cQ Am) (X : gX D (xcell g cI cB cZ cQ) xord g S s H locs) (hk : xk k = 3) {j : Nat} (hj : k + 1 = j) (hdg : decode cc pc = .ok (.getfield 69, 3)) (kk : W p l e R s m args below meth c H locs cs sl Q (F0 m (pc + 3) ls (.ref (g j) :: rest))) : W p l e R s m args below meth c H locs cs sl Q (F0 m pc ls (.ref (g k) :: rest)) := by
  subst hj
  exact g_getN C X (q := k) (k := k) (x_pos hk (by decide)) (x_c3 g cI cB cZ cQ S hk) (ci := 3) rfl x_in3 0 (by decide) (O.2 _ _ _ C.2.2.2.2.2 _ xl_X11_69) rfl hdg kk
theorem xl_X3_21 : Cond.fieldLink RX3 21 "GrottoHours$Reader" "draft" "LGrottoHours$Town;" ∈ gT := gT_c1 189 rfl rfl
theorem xg_X3_21 (C : gC p s m args meth c cc nL RX3 ret D (xtys cI cB cZ cQ) xord g Am) (O : xO g cI cB cZ cQ Am) (X : gX D (xcell g cI cB cZ cQ) xord g S s H locs) {T : Nat} (hT : T = xdr S) (hk : xk k = 3) (hdg : decode cc pc = .ok (.getfield 21, 3)) (kk : W p l e R s m args below meth c H locs cs sl Q (F0 m (pc + 3) ls (.ref (g T) :: rest))) : W p l e R s m args below meth c H locs cs sl Q (F0 m pc ls (.ref (g k) :: rest)) := by
  have hk0 : k = 1 := x_all (P := fun k => k = 1) (by decide) (by decide) hk
  subst hk0
  subst hT
  exact g_get C X (q := 1) (k := 1) rfl (x_c3 g cI cB cZ cQ S (k := 1) rfl) (ci := 3) rfl x_in3 1 (by decide) xl_X3_21 rfl hdg kk
theorem xp_X3_21 (C : gC p s m args meth c cc nL RX3 ret D (xtys cI cB cZ cQ) xord g Am) (O : xO g cI cB cZ cQ Am) (X : gX D (xcell g cI cB cZ cQ) xord g S s H locs) {T : Nat} (hT : xk T = 9) (hk : xk k = 3) (hS : S' = sU S 1 1 (if T = 4 then 0 else 1)) (hdg : decode cc pc = .ok (.putfield 21, 3)) (kk : ∀ (H1 : Heap) (locs1 : List Loc), gX D (xcell g cI cB cZ cQ) xord g S' s H1 locs1 → W p l e R s m args below meth c H1 locs1 cs sl Q (F0 m (pc + 3) ls rest)) : W p l e R s m args below meth c H locs cs sl Q (F0 m pc ls (.ref (g T) :: .ref (g k) :: rest)) := by
  have hk0 : k = 1 := x_all (P := fun k => k = 1) (by decide) (by decide) hk
  subst hk0
  subst hS
  have hT2 : T = 4 ∨ T = 72 := x_all (P := fun k => k = 4 ∨ k = 72) (by decide) (by decide) hT
  rcases hT2 with rfl | rfl
  · exact g_put C O.1 X (q := 1) (k := 1) rfl (x_c3 g cI cB cZ cQ S (k := 1) rfl) (ci := 3) rfl x_in3 tyX3 tyX3_ok nmX3 1 (by decide) xl_X3_21 rfl rfl rfl (Nat.le_of_ble_eq_true rfl) (fun i h => sU_ne h) rfl hdg kk
  · exact g_put C O.1 X (q := 1) (k := 1) rfl (x_c3 g cI cB cZ cQ S (k := 1) rfl) (ci := 3) rfl x_in3 tyX3 tyX3_ok nmX3 1 (by decide) xl_X3_21 rfl rfl rfl (Nat.le_of_ble_eq_true rfl) (fun i h => sU_ne h) rfl hdg kk
theorem xl_X11_96 : Cond.fieldLinkNest RX11 96 "GrottoHours$Reader" "draft" "LGrottoHours$Town;" "GrottoHours" ∈ xNest := List.mem_of_getElem? (i := 48) rfl
theorem xg_X11_96 (C : gC p s m args meth c cc nL RX11 ret D (xtys cI cB cZ cQ) xord g Am) (O : xO g cI cB cZ cQ Am) (X : gX D (xcell g cI cB cZ cQ) xord g S s H locs) {T : Nat} (hT : T = xdr S) (hk : xk k = 3) (hdg : decode cc pc = .ok (.getfield 96, 3)) (kk : W p l e R s m args below meth c H locs cs sl Q (F0 m (pc + 3) ls (.ref (g T) :: rest))) : W p l e R s m args below meth c H locs cs sl Q (F0 m pc ls (.ref (g k) :: rest)) := by
  have hk0 : k = 1 := x_all (P := fun k => k = 1) (by decide) (by decide) hk
  subst hk0
  subst hT
  exact g_getN C X (q := 1) (k := 1) rfl (x_c3 g cI cB cZ cQ S (k := 1) rfl) (ci := 3) rfl x_in3 1 (by decide) (O.2 _ _ _ C.2.2.2.2.2 _ xl_X11_96) rfl hdg kk
theorem xp_X11_96 (C : gC p s m args meth c cc nL RX11 ret D (xtys cI cB cZ cQ) xord g Am) (O : xO g cI cB cZ cQ Am) (X : gX D (xcell g cI cB cZ cQ) xord g S s H locs) {T : Nat} (hT : xk T = 9) (hk : xk k = 3) (hS : S' = sU S 1 1 (if T = 4 then 0 else 1)) (hdg : decode cc pc = .ok (.putfield 96, 3)) (kk : ∀ (H1 : Heap) (locs1 : List Loc), gX D (xcell g cI cB cZ cQ) xord g S' s H1 locs1 → W p l e R s m args below meth c H1 locs1 cs sl Q (F0 m (pc + 3) ls rest)) : W p l e R s m args below meth c H locs cs sl Q (F0 m pc ls (.ref (g T) :: .ref (g k) :: rest)) := by
  have hk0 : k = 1 := x_all (P := fun k => k = 1) (by decide) (by decide) hk
  subst hk0
  subst hS
  have hT2 : T = 4 ∨ T = 72 := x_all (P := fun k => k = 4 ∨ k = 72) (by decide) (by decide) hT
  rcases hT2 with rfl | rfl
  · exact g_putN C O.1 X (q := 1) (k := 1) rfl (x_c3 g cI cB cZ cQ S (k := 1) rfl) (ci := 3) rfl x_in3 tyX3 tyX3_ok nmX3 1 (by decide) (O.2 _ _ _ C.2.2.2.2.2 _ xl_X11_96) rfl rfl rfl (Nat.le_of_ble_eq_true rfl) (fun i h => sU_ne h) rfl hdg kk
  · exact g_putN C O.1 X (q := 1) (k := 1) rfl (x_c3 g cI cB cZ cQ S (k := 1) rfl) (ci := 3) rfl x_in3 tyX3 tyX3_ok nmX3 1 (by decide) (O.2 _ _ _ C.2.2.2.2.2 _ xl_X11_96) rfl rfl rfl (Nat.le_of_ble_eq_true rfl) (fun i h => sU_ne h) rfl hdg kk
theorem xl_X3_25 : Cond.fieldLink RX3 25 "GrottoHours$Reader" "faultKind" "I" ∈ gT := gT_c1 191 rfl rfl
theorem xg_X3_25 (C : gC p s m args meth c cc nL RX3 ret D (xtys cI cB cZ cQ) xord g Am) (O : xO g cI cB cZ cQ Am) (X : gX D (xcell g cI cB cZ cQ) xord g S s H locs) (hk : xk k = 3) (hdg : decode cc pc = .ok (.getfield 25, 3)) (kk : W p l e R s m args below meth c H locs cs sl Q (F0 m (pc + 3) ls (.int (S k 2) :: rest))) : W p l e R s m args below meth c H locs cs sl Q (F0 m pc ls (.ref (g k) :: rest)) :=
  g_get C X (q := k) (k := k) (x_pos hk (by decide)) (x_c3 g cI cB cZ cQ S hk) (ci := 3) rfl x_in3 2 (by decide) xl_X3_25 rfl hdg kk
theorem xp_X3_25 (C : gC p s m args meth c cc nL RX3 ret D (xtys cI cB cZ cQ) xord g Am) (O : xO g cI cB cZ cQ Am) (X : gX D (xcell g cI cB cZ cQ) xord g S s H locs) (hk : xk k = 3) {x : Int32} (hS : S' = sU S k 2 x) (hdg : decode cc pc = .ok (.putfield 25, 3)) (kk : ∀ (H1 : Heap) (locs1 : List Loc), gX D (xcell g cI cB cZ cQ) xord g S' s H1 locs1 → W p l e R s m args below meth c H1 locs1 cs sl Q (F0 m (pc + 3) ls rest)) : W p l e R s m args below meth c H locs cs sl Q (F0 m pc ls (.int x :: .ref (g k) :: rest)) := by
  subst hS
  exact g_put C O.1 X (q := k) (k := k) (x_pos hk (by decide)) (x_c3 g cI cB cZ cQ S hk) (ci := 3) rfl x_in3 tyX3 tyX3_ok nmX3 2 (by decide) xl_X3_25 rfl rfl rfl (Nat.le_of_ble_eq_true rfl) (fun i h => sU_ne h) (by rw [x_c3 g cI cB cZ cQ _ hk, sU_eq]; rfl) hdg kk
theorem xl_X3_29 : Cond.fieldLink RX3 29 "GrottoHours$Reader" "faultPlace" "I" ∈ gT := gT_c1 192 rfl rfl
theorem xg_X3_29 (C : gC p s m args meth c cc nL RX3 ret D (xtys cI cB cZ cQ) xord g Am) (O : xO g cI cB cZ cQ Am) (X : gX D (xcell g cI cB cZ cQ) xord g S s H locs) (hk : xk k = 3) (hdg : decode cc pc = .ok (.getfield 29, 3)) (kk : W p l e R s m args below meth c H locs cs sl Q (F0 m (pc + 3) ls (.int (S k 3) :: rest))) : W p l e R s m args below meth c H locs cs sl Q (F0 m pc ls (.ref (g k) :: rest)) :=
  g_get C X (q := k) (k := k) (x_pos hk (by decide)) (x_c3 g cI cB cZ cQ S hk) (ci := 3) rfl x_in3 3 (by decide) xl_X3_29 rfl hdg kk
theorem xp_X3_29 (C : gC p s m args meth c cc nL RX3 ret D (xtys cI cB cZ cQ) xord g Am) (O : xO g cI cB cZ cQ Am) (X : gX D (xcell g cI cB cZ cQ) xord g S s H locs) (hk : xk k = 3) {x : Int32} (hS : S' = sU S k 3 x) (hdg : decode cc pc = .ok (.putfield 29, 3)) (kk : ∀ (H1 : Heap) (locs1 : List Loc), gX D (xcell g cI cB cZ cQ) xord g S' s H1 locs1 → W p l e R s m args below meth c H1 locs1 cs sl Q (F0 m (pc + 3) ls rest)) : W p l e R s m args below meth c H locs cs sl Q (F0 m pc ls (.int x :: .ref (g k) :: rest)) := by
  subst hS
  exact g_put C O.1 X (q := k) (k := k) (x_pos hk (by decide)) (x_c3 g cI cB cZ cQ S hk) (ci := 3) rfl x_in3 tyX3 tyX3_ok nmX3 3 (by decide) xl_X3_29 rfl rfl rfl (Nat.le_of_ble_eq_true rfl) (fun i h => sU_ne h) (by rw [x_c3 g cI cB cZ cQ _ hk, sU_eq]; rfl) hdg kk
theorem xl_X11_102 : Cond.fieldLinkNest RX11 102 "GrottoHours$Reader" "faultPlace" "I" "GrottoHours" ∈ xNest := List.mem_of_getElem? (i := 49) rfl
theorem xg_X11_102 (C : gC p s m args meth c cc nL RX11 ret D (xtys cI cB cZ cQ) xord g Am) (O : xO g cI cB cZ cQ Am) (X : gX D (xcell g cI cB cZ cQ) xord g S s H locs) (hk : xk k = 3) (hdg : decode cc pc = .ok (.getfield 102, 3)) (kk : W p l e R s m args below meth c H locs cs sl Q (F0 m (pc + 3) ls (.int (S k 3) :: rest))) : W p l e R s m args below meth c H locs cs sl Q (F0 m pc ls (.ref (g k) :: rest)) :=
  g_getN C X (q := k) (k := k) (x_pos hk (by decide)) (x_c3 g cI cB cZ cQ S hk) (ci := 3) rfl x_in3 3 (by decide) (O.2 _ _ _ C.2.2.2.2.2 _ xl_X11_102) rfl hdg kk
theorem xp_X11_102 (C : gC p s m args meth c cc nL RX11 ret D (xtys cI cB cZ cQ) xord g Am) (O : xO g cI cB cZ cQ Am) (X : gX D (xcell g cI cB cZ cQ) xord g S s H locs) (hk : xk k = 3) {x : Int32} (hS : S' = sU S k 3 x) (hdg : decode cc pc = .ok (.putfield 102, 3)) (kk : ∀ (H1 : Heap) (locs1 : List Loc), gX D (xcell g cI cB cZ cQ) xord g S' s H1 locs1 → W p l e R s m args below meth c H1 locs1 cs sl Q (F0 m (pc + 3) ls rest)) : W p l e R s m args below meth c H locs cs sl Q (F0 m pc ls (.int x :: .ref (g k) :: rest)) := by
  subst hS
  exact g_putN C O.1 X (q := k) (k := k) (x_pos hk (by decide)) (x_c3 g cI cB cZ cQ S hk) (ci := 3) rfl x_in3 tyX3 tyX3_ok nmX3 3 (by decide) (O.2 _ _ _ C.2.2.2.2.2 _ xl_X11_102) rfl rfl rfl (Nat.le_of_ble_eq_true rfl) (fun i h => sU_ne h) (by rw [x_c3 g cI cB cZ cQ _ hk, sU_eq]; rfl) hdg kk
theorem xl_X7_9 : Cond.fieldLink RX7 9 "GrottoHours$State" "hour" "I" ∈ gT := gT_c1 215 rfl rfl
theorem xg_X7_9 (C : gC p s m args meth c cc nL RX7 ret D (xtys cI cB cZ cQ) xord g Am) (O : xO g cI cB cZ cQ Am) (X : gX D (xcell g cI cB cZ cQ) xord g S s H locs) (hk : xk k = 7) (hdg : decode cc pc = .ok (.getfield 9, 3)) (kk : W p l e R s m args below meth c H locs cs sl Q (F0 m (pc + 3) ls (.int (S k 0) :: rest))) : W p l e R s m args below meth c H locs cs sl Q (F0 m pc ls (.ref (g k) :: rest)) :=
  g_get C X (q := k) (k := k) (x_pos hk (by decide)) (x_c7 g cI cB cZ cQ S hk) (ci := 7) rfl x_in7 0 (by decide) xl_X7_9 rfl hdg kk
theorem xp_X7_9 (C : gC p s m args meth c cc nL RX7 ret D (xtys cI cB cZ cQ) xord g Am) (O : xO g cI cB cZ cQ Am) (X : gX D (xcell g cI cB cZ cQ) xord g S s H locs) (hk : xk k = 7) {x : Int32} (hS : S' = sU S k 0 x) (hdg : decode cc pc = .ok (.putfield 9, 3)) (kk : ∀ (H1 : Heap) (locs1 : List Loc), gX D (xcell g cI cB cZ cQ) xord g S' s H1 locs1 → W p l e R s m args below meth c H1 locs1 cs sl Q (F0 m (pc + 3) ls rest)) : W p l e R s m args below meth c H locs cs sl Q (F0 m pc ls (.int x :: .ref (g k) :: rest)) := by
  subst hS
  exact g_put C O.1 X (q := k) (k := k) (x_pos hk (by decide)) (x_c7 g cI cB cZ cQ S hk) (ci := 7) rfl x_in7 tyX7 tyX7_ok nmX7 0 (by decide) xl_X7_9 rfl rfl rfl (Nat.le_of_ble_eq_true rfl) (fun i h => sU_ne h) (by rw [x_c7 g cI cB cZ cQ _ hk, sU_eq]; rfl) hdg kk
theorem xl_X10_55 : Cond.fieldLinkNest RX10 55 "GrottoHours$State" "hour" "I" "GrottoHours" ∈ xNest := List.mem_of_getElem? (i := 52) rfl
theorem xg_X10_55 (C : gC p s m args meth c cc nL RX10 ret D (xtys cI cB cZ cQ) xord g Am) (O : xO g cI cB cZ cQ Am) (X : gX D (xcell g cI cB cZ cQ) xord g S s H locs) (hk : xk k = 7) (hdg : decode cc pc = .ok (.getfield 55, 3)) (kk : W p l e R s m args below meth c H locs cs sl Q (F0 m (pc + 3) ls (.int (S k 0) :: rest))) : W p l e R s m args below meth c H locs cs sl Q (F0 m pc ls (.ref (g k) :: rest)) :=
  g_getN C X (q := k) (k := k) (x_pos hk (by decide)) (x_c7 g cI cB cZ cQ S hk) (ci := 7) rfl x_in7 0 (by decide) (O.2 _ _ _ C.2.2.2.2.2 _ xl_X10_55) rfl hdg kk
theorem xp_X10_55 (C : gC p s m args meth c cc nL RX10 ret D (xtys cI cB cZ cQ) xord g Am) (O : xO g cI cB cZ cQ Am) (X : gX D (xcell g cI cB cZ cQ) xord g S s H locs) (hk : xk k = 7) {x : Int32} (hS : S' = sU S k 0 x) (hdg : decode cc pc = .ok (.putfield 55, 3)) (kk : ∀ (H1 : Heap) (locs1 : List Loc), gX D (xcell g cI cB cZ cQ) xord g S' s H1 locs1 → W p l e R s m args below meth c H1 locs1 cs sl Q (F0 m (pc + 3) ls rest)) : W p l e R s m args below meth c H locs cs sl Q (F0 m pc ls (.int x :: .ref (g k) :: rest)) := by
  subst hS
  exact g_putN C O.1 X (q := k) (k := k) (x_pos hk (by decide)) (x_c7 g cI cB cZ cQ S hk) (ci := 7) rfl x_in7 tyX7 tyX7_ok nmX7 0 (by decide) (O.2 _ _ _ C.2.2.2.2.2 _ xl_X10_55) rfl rfl rfl (Nat.le_of_ble_eq_true rfl) (fun i h => sU_ne h) (by rw [x_c7 g cI cB cZ cQ _ hk, sU_eq]; rfl) hdg kk
theorem xl_X11_114 : Cond.fieldLinkNest RX11 114 "GrottoHours$State" "hour" "I" "GrottoHours" ∈ xNest := List.mem_of_getElem? (i := 53) rfl
theorem xg_X11_114 (C : gC p s m args meth c cc nL RX11 ret D (xtys cI cB cZ cQ) xord g Am) (O : xO g cI cB cZ cQ Am) (X : gX D (xcell g cI cB cZ cQ) xord g S s H locs) (hk : xk k = 7) (hdg : decode cc pc = .ok (.getfield 114, 3)) (kk : W p l e R s m args below meth c H locs cs sl Q (F0 m (pc + 3) ls (.int (S k 0) :: rest))) : W p l e R s m args below meth c H locs cs sl Q (F0 m pc ls (.ref (g k) :: rest)) :=
  g_getN C X (q := k) (k := k) (x_pos hk (by decide)) (x_c7 g cI cB cZ cQ S hk) (ci := 7) rfl x_in7 0 (by decide) (O.2 _ _ _ C.2.2.2.2.2 _ xl_X11_114) rfl hdg kk
theorem xp_X11_114 (C : gC p s m args meth c cc nL RX11 ret D (xtys cI cB cZ cQ) xord g Am) (O : xO g cI cB cZ cQ Am) (X : gX D (xcell g cI cB cZ cQ) xord g S s H locs) (hk : xk k = 7) {x : Int32} (hS : S' = sU S k 0 x) (hdg : decode cc pc = .ok (.putfield 114, 3)) (kk : ∀ (H1 : Heap) (locs1 : List Loc), gX D (xcell g cI cB cZ cQ) xord g S' s H1 locs1 → W p l e R s m args below meth c H1 locs1 cs sl Q (F0 m (pc + 3) ls rest)) : W p l e R s m args below meth c H locs cs sl Q (F0 m pc ls (.int x :: .ref (g k) :: rest)) := by
  subst hS
  exact g_putN C O.1 X (q := k) (k := k) (x_pos hk (by decide)) (x_c7 g cI cB cZ cQ S hk) (ci := 7) rfl x_in7 tyX7 tyX7_ok nmX7 0 (by decide) (O.2 _ _ _ C.2.2.2.2.2 _ xl_X11_114) rfl rfl rfl (Nat.le_of_ble_eq_true rfl) (fun i h => sU_ne h) (by rw [x_c7 g cI cB cZ cQ _ hk, sU_eq]; rfl) hdg kk
theorem xl_X7_15 : Cond.fieldLink RX7 15 "GrottoHours$State" "drained" "I" ∈ gT := gT_c1 218 rfl rfl
theorem xg_X7_15 (C : gC p s m args meth c cc nL RX7 ret D (xtys cI cB cZ cQ) xord g Am) (O : xO g cI cB cZ cQ Am) (X : gX D (xcell g cI cB cZ cQ) xord g S s H locs) (hk : xk k = 7) (hdg : decode cc pc = .ok (.getfield 15, 3)) (kk : W p l e R s m args below meth c H locs cs sl Q (F0 m (pc + 3) ls (.int (S k 1) :: rest))) : W p l e R s m args below meth c H locs cs sl Q (F0 m pc ls (.ref (g k) :: rest)) :=
  g_get C X (q := k) (k := k) (x_pos hk (by decide)) (x_c7 g cI cB cZ cQ S hk) (ci := 7) rfl x_in7 1 (by decide) xl_X7_15 rfl hdg kk
theorem xp_X7_15 (C : gC p s m args meth c cc nL RX7 ret D (xtys cI cB cZ cQ) xord g Am) (O : xO g cI cB cZ cQ Am) (X : gX D (xcell g cI cB cZ cQ) xord g S s H locs) (hk : xk k = 7) {x : Int32} (hS : S' = sU S k 1 x) (hdg : decode cc pc = .ok (.putfield 15, 3)) (kk : ∀ (H1 : Heap) (locs1 : List Loc), gX D (xcell g cI cB cZ cQ) xord g S' s H1 locs1 → W p l e R s m args below meth c H1 locs1 cs sl Q (F0 m (pc + 3) ls rest)) : W p l e R s m args below meth c H locs cs sl Q (F0 m pc ls (.int x :: .ref (g k) :: rest)) := by
  subst hS
  exact g_put C O.1 X (q := k) (k := k) (x_pos hk (by decide)) (x_c7 g cI cB cZ cQ S hk) (ci := 7) rfl x_in7 tyX7 tyX7_ok nmX7 1 (by decide) xl_X7_15 rfl rfl rfl (Nat.le_of_ble_eq_true rfl) (fun i h => sU_ne h) (by rw [x_c7 g cI cB cZ cQ _ hk, sU_eq]; rfl) hdg kk
theorem xl_X10_60 : Cond.fieldLinkNest RX10 60 "GrottoHours$State" "drained" "I" "GrottoHours" ∈ xNest := List.mem_of_getElem? (i := 54) rfl
theorem xg_X10_60 (C : gC p s m args meth c cc nL RX10 ret D (xtys cI cB cZ cQ) xord g Am) (O : xO g cI cB cZ cQ Am) (X : gX D (xcell g cI cB cZ cQ) xord g S s H locs) (hk : xk k = 7) (hdg : decode cc pc = .ok (.getfield 60, 3)) (kk : W p l e R s m args below meth c H locs cs sl Q (F0 m (pc + 3) ls (.int (S k 1) :: rest))) : W p l e R s m args below meth c H locs cs sl Q (F0 m pc ls (.ref (g k) :: rest)) :=
  g_getN C X (q := k) (k := k) (x_pos hk (by decide)) (x_c7 g cI cB cZ cQ S hk) (ci := 7) rfl x_in7 1 (by decide) (O.2 _ _ _ C.2.2.2.2.2 _ xl_X10_60) rfl hdg kk
theorem xp_X10_60 (C : gC p s m args meth c cc nL RX10 ret D (xtys cI cB cZ cQ) xord g Am) (O : xO g cI cB cZ cQ Am) (X : gX D (xcell g cI cB cZ cQ) xord g S s H locs) (hk : xk k = 7) {x : Int32} (hS : S' = sU S k 1 x) (hdg : decode cc pc = .ok (.putfield 60, 3)) (kk : ∀ (H1 : Heap) (locs1 : List Loc), gX D (xcell g cI cB cZ cQ) xord g S' s H1 locs1 → W p l e R s m args below meth c H1 locs1 cs sl Q (F0 m (pc + 3) ls rest)) : W p l e R s m args below meth c H locs cs sl Q (F0 m pc ls (.int x :: .ref (g k) :: rest)) := by
  subst hS
  exact g_putN C O.1 X (q := k) (k := k) (x_pos hk (by decide)) (x_c7 g cI cB cZ cQ S hk) (ci := 7) rfl x_in7 tyX7 tyX7_ok nmX7 1 (by decide) (O.2 _ _ _ C.2.2.2.2.2 _ xl_X10_60) rfl rfl rfl (Nat.le_of_ble_eq_true rfl) (fun i h => sU_ne h) (by rw [x_c7 g cI cB cZ cQ _ hk, sU_eq]; rfl) hdg kk
theorem xl_X11_128 : Cond.fieldLinkNest RX11 128 "GrottoHours$State" "drained" "I" "GrottoHours" ∈ xNest := List.mem_of_getElem? (i := 55) rfl
theorem xg_X11_128 (C : gC p s m args meth c cc nL RX11 ret D (xtys cI cB cZ cQ) xord g Am) (O : xO g cI cB cZ cQ Am) (X : gX D (xcell g cI cB cZ cQ) xord g S s H locs) (hk : xk k = 7) (hdg : decode cc pc = .ok (.getfield 128, 3)) (kk : W p l e R s m args below meth c H locs cs sl Q (F0 m (pc + 3) ls (.int (S k 1) :: rest))) : W p l e R s m args below meth c H locs cs sl Q (F0 m pc ls (.ref (g k) :: rest)) :=
  g_getN C X (q := k) (k := k) (x_pos hk (by decide)) (x_c7 g cI cB cZ cQ S hk) (ci := 7) rfl x_in7 1 (by decide) (O.2 _ _ _ C.2.2.2.2.2 _ xl_X11_128) rfl hdg kk
theorem xp_X11_128 (C : gC p s m args meth c cc nL RX11 ret D (xtys cI cB cZ cQ) xord g Am) (O : xO g cI cB cZ cQ Am) (X : gX D (xcell g cI cB cZ cQ) xord g S s H locs) (hk : xk k = 7) {x : Int32} (hS : S' = sU S k 1 x) (hdg : decode cc pc = .ok (.putfield 128, 3)) (kk : ∀ (H1 : Heap) (locs1 : List Loc), gX D (xcell g cI cB cZ cQ) xord g S' s H1 locs1 → W p l e R s m args below meth c H1 locs1 cs sl Q (F0 m (pc + 3) ls rest)) : W p l e R s m args below meth c H locs cs sl Q (F0 m pc ls (.int x :: .ref (g k) :: rest)) := by
  subst hS
  exact g_putN C O.1 X (q := k) (k := k) (x_pos hk (by decide)) (x_c7 g cI cB cZ cQ S hk) (ci := 7) rfl x_in7 tyX7 tyX7_ok nmX7 1 (by decide) (O.2 _ _ _ C.2.2.2.2.2 _ xl_X11_128) rfl rfl rfl (Nat.le_of_ble_eq_true rfl) (fun i h => sU_ne h) (by rw [x_c7 g cI cB cZ cQ _ hk, sU_eq]; rfl) hdg kk
theorem xl_X7_18 : Cond.fieldLink RX7 18 "GrottoHours$State" "sin" "[I" ∈ gT := gT_c1 221 rfl rfl
theorem xg_X7_18 (C : gC p s m args meth c cc nL RX7 ret D (xtys cI cB cZ cQ) xord g Am) (O : xO g cI cB cZ cQ Am) (X : gX D (xcell g cI cB cZ cQ) xord g S s H locs) (hk : xk k = 7) {j : Nat} (hj : k + 1 = j) (hdg : decode cc pc = .ok (.getfield 18, 3)) (kk : W p l e R s m args below meth c H locs cs sl Q (F0 m (pc + 3) ls (.ref (g j) :: rest))) : W p l e R s m args below meth c H locs cs sl Q (F0 m pc ls (.ref (g k) :: rest)) := by
  subst hj
  exact g_get C X (q := k) (k := k) (x_pos hk (by decide)) (x_c7 g cI cB cZ cQ S hk) (ci := 7) rfl x_in7 2 (by decide) xl_X7_18 rfl hdg kk
theorem xl_X10_45 : Cond.fieldLinkNest RX10 45 "GrottoHours$State" "sin" "[I" "GrottoHours" ∈ xNest := List.mem_of_getElem? (i := 56) rfl
theorem xg_X10_45 (C : gC p s m args meth c cc nL RX10 ret D (xtys cI cB cZ cQ) xord g Am) (O : xO g cI cB cZ cQ Am) (X : gX D (xcell g cI cB cZ cQ) xord g S s H locs) (hk : xk k = 7) {j : Nat} (hj : k + 1 = j) (hdg : decode cc pc = .ok (.getfield 45, 3)) (kk : W p l e R s m args below meth c H locs cs sl Q (F0 m (pc + 3) ls (.ref (g j) :: rest))) : W p l e R s m args below meth c H locs cs sl Q (F0 m pc ls (.ref (g k) :: rest)) := by
  subst hj
  exact g_getN C X (q := k) (k := k) (x_pos hk (by decide)) (x_c7 g cI cB cZ cQ S hk) (ci := 7) rfl x_in7 2 (by decide) (O.2 _ _ _ C.2.2.2.2.2 _ xl_X10_45) rfl hdg kk
theorem xl_X11_197 : Cond.fieldLinkNest RX11 197 "GrottoHours$State" "sin" "[I" "GrottoHours" ∈ xNest := List.mem_of_getElem? (i := 57) rfl
theorem xg_X11_197 (C : gC p s m args meth c cc nL RX11 ret D (xtys cI cB cZ cQ) xord g Am) (O : xO g cI cB cZ cQ Am) (X : gX D (xcell g cI cB cZ cQ) xord g S s H locs) (hk : xk k = 7) {j : Nat} (hj : k + 1 = j) (hdg : decode cc pc = .ok (.getfield 197, 3)) (kk : W p l e R s m args below meth c H locs cs sl Q (F0 m (pc + 3) ls (.ref (g j) :: rest))) : W p l e R s m args below meth c H locs cs sl Q (F0 m pc ls (.ref (g k) :: rest)) := by
  subst hj
  exact g_getN C X (q := k) (k := k) (x_pos hk (by decide)) (x_c7 g cI cB cZ cQ S hk) (ci := 7) rfl x_in7 2 (by decide) (O.2 _ _ _ C.2.2.2.2.2 _ xl_X11_197) rfl hdg kk
theorem xl_X7_22 : Cond.fieldLink RX7 22 "GrottoHours$State" "purse" "[I" ∈ gT := gT_c1 224 rfl rfl
theorem xg_X7_22 (C : gC p s m args meth c cc nL RX7 ret D (xtys cI cB cZ cQ) xord g Am) (O : xO g cI cB cZ cQ Am) (X : gX D (xcell g cI cB cZ cQ) xord g S s H locs) (hk : xk k = 7) {j : Nat} (hj : k + 2 = j) (hdg : decode cc pc = .ok (.getfield 22, 3)) (kk : W p l e R s m args below meth c H locs cs sl Q (F0 m (pc + 3) ls (.ref (g j) :: rest))) : W p l e R s m args below meth c H locs cs sl Q (F0 m pc ls (.ref (g k) :: rest)) := by
  subst hj
  exact g_get C X (q := k) (k := k) (x_pos hk (by decide)) (x_c7 g cI cB cZ cQ S hk) (ci := 7) rfl x_in7 3 (by decide) xl_X7_22 rfl hdg kk
theorem xl_X10_49 : Cond.fieldLinkNest RX10 49 "GrottoHours$State" "purse" "[I" "GrottoHours" ∈ xNest := List.mem_of_getElem? (i := 58) rfl
theorem xg_X10_49 (C : gC p s m args meth c cc nL RX10 ret D (xtys cI cB cZ cQ) xord g Am) (O : xO g cI cB cZ cQ Am) (X : gX D (xcell g cI cB cZ cQ) xord g S s H locs) (hk : xk k = 7) {j : Nat} (hj : k + 2 = j) (hdg : decode cc pc = .ok (.getfield 49, 3)) (kk : W p l e R s m args below meth c H locs cs sl Q (F0 m (pc + 3) ls (.ref (g j) :: rest))) : W p l e R s m args below meth c H locs cs sl Q (F0 m pc ls (.ref (g k) :: rest)) := by
  subst hj
  exact g_getN C X (q := k) (k := k) (x_pos hk (by decide)) (x_c7 g cI cB cZ cQ S hk) (ci := 7) rfl x_in7 3 (by decide) (O.2 _ _ _ C.2.2.2.2.2 _ xl_X10_49) rfl hdg kk
theorem xl_X6_77 : Cond.fieldLinkNest RX6 77 "GrottoHours$State" "purse" "[I" "GrottoHours" ∈ xNest := List.mem_of_getElem? (i := 59) rfl
theorem xg_X6_77 (C : gC p s m args meth c cc nL RX6 ret D (xtys cI cB cZ cQ) xord g Am) (O : xO g cI cB cZ cQ Am) (X : gX D (xcell g cI cB cZ cQ) xord g S s H locs) (hk : xk k = 7) {j : Nat} (hj : k + 2 = j) (hdg : decode cc pc = .ok (.getfield 77, 3)) (kk : W p l e R s m args below meth c H locs cs sl Q (F0 m (pc + 3) ls (.ref (g j) :: rest))) : W p l e R s m args below meth c H locs cs sl Q (F0 m pc ls (.ref (g k) :: rest)) := by
  subst hj
  exact g_getN C X (q := k) (k := k) (x_pos hk (by decide)) (x_c7 g cI cB cZ cQ S hk) (ci := 7) rfl x_in7 3 (by decide) (O.2 _ _ _ C.2.2.2.2.2 _ xl_X6_77) rfl hdg kk
theorem xl_X11_200 : Cond.fieldLinkNest RX11 200 "GrottoHours$State" "purse" "[I" "GrottoHours" ∈ xNest := List.mem_of_getElem? (i := 60) rfl
theorem xg_X11_200 (C : gC p s m args meth c cc nL RX11 ret D (xtys cI cB cZ cQ) xord g Am) (O : xO g cI cB cZ cQ Am) (X : gX D (xcell g cI cB cZ cQ) xord g S s H locs) (hk : xk k = 7) {j : Nat} (hj : k + 2 = j) (hdg : decode cc pc = .ok (.getfield 200, 3)) (kk : W p l e R s m args below meth c H locs cs sl Q (F0 m (pc + 3) ls (.ref (g j) :: rest))) : W p l e R s m args below meth c H locs cs sl Q (F0 m pc ls (.ref (g k) :: rest)) := by
  subst hj
  exact g_getN C X (q := k) (k := k) (x_pos hk (by decide)) (x_c7 g cI cB cZ cQ S hk) (ci := 7) rfl x_in7 3 (by decide) (O.2 _ _ _ C.2.2.2.2.2 _ xl_X11_200) rfl hdg kk
theorem xl_X7_25 : Cond.fieldLink RX7 25 "GrottoHours$State" "silences" "[I" ∈ gT := gT_c1 228 rfl rfl
theorem xg_X7_25 (C : gC p s m args meth c cc nL RX7 ret D (xtys cI cB cZ cQ) xord g Am) (O : xO g cI cB cZ cQ Am) (X : gX D (xcell g cI cB cZ cQ) xord g S s H locs) (hk : xk k = 7) {j : Nat} (hj : k + 3 = j) (hdg : decode cc pc = .ok (.getfield 25, 3)) (kk : W p l e R s m args below meth c H locs cs sl Q (F0 m (pc + 3) ls (.ref (g j) :: rest))) : W p l e R s m args below meth c H locs cs sl Q (F0 m pc ls (.ref (g k) :: rest)) := by
  subst hj
  exact g_get C X (q := k) (k := k) (x_pos hk (by decide)) (x_c7 g cI cB cZ cQ S hk) (ci := 7) rfl x_in7 4 (by decide) xl_X7_25 rfl hdg kk
theorem xl_X10_51 : Cond.fieldLinkNest RX10 51 "GrottoHours$State" "silences" "[I" "GrottoHours" ∈ xNest := List.mem_of_getElem? (i := 61) rfl
theorem xg_X10_51 (C : gC p s m args meth c cc nL RX10 ret D (xtys cI cB cZ cQ) xord g Am) (O : xO g cI cB cZ cQ Am) (X : gX D (xcell g cI cB cZ cQ) xord g S s H locs) (hk : xk k = 7) {j : Nat} (hj : k + 3 = j) (hdg : decode cc pc = .ok (.getfield 51, 3)) (kk : W p l e R s m args below meth c H locs cs sl Q (F0 m (pc + 3) ls (.ref (g j) :: rest))) : W p l e R s m args below meth c H locs cs sl Q (F0 m pc ls (.ref (g k) :: rest)) := by
  subst hj
  exact g_getN C X (q := k) (k := k) (x_pos hk (by decide)) (x_c7 g cI cB cZ cQ S hk) (ci := 7) rfl x_in7 4 (by decide) (O.2 _ _ _ C.2.2.2.2.2 _ xl_X10_51) rfl hdg kk
theorem xl_X11_203 : Cond.fieldLinkNest RX11 203 "GrottoHours$State" "silences" "[I" "GrottoHours" ∈ xNest := List.mem_of_getElem? (i := 62) rfl
theorem xg_X11_203 (C : gC p s m args meth c cc nL RX11 ret D (xtys cI cB cZ cQ) xord g Am) (O : xO g cI cB cZ cQ Am) (X : gX D (xcell g cI cB cZ cQ) xord g S s H locs) (hk : xk k = 7) {j : Nat} (hj : k + 3 = j) (hdg : decode cc pc = .ok (.getfield 203, 3)) (kk : W p l e R s m args below meth c H locs cs sl Q (F0 m (pc + 3) ls (.ref (g j) :: rest))) : W p l e R s m args below meth c H locs cs sl Q (F0 m pc ls (.ref (g k) :: rest)) := by
  subst hj
  exact g_getN C X (q := k) (k := k) (x_pos hk (by decide)) (x_c7 g cI cB cZ cQ S hk) (ci := 7) rfl x_in7 4 (by decide) (O.2 _ _ _ C.2.2.2.2.2 _ xl_X11_203) rfl hdg kk
theorem xl_X7_28 : Cond.fieldLink RX7 28 "GrottoHours$State" "hired" "[I" ∈ gT := gT_c1 231 rfl rfl
theorem xg_X7_28 (C : gC p s m args meth c cc nL RX7 ret D (xtys cI cB cZ cQ) xord g Am) (O : xO g cI cB cZ cQ Am) (X : gX D (xcell g cI cB cZ cQ) xord g S s H locs) (hk : xk k = 7) {j : Nat} (hj : k + 4 = j) (hdg : decode cc pc = .ok (.getfield 28, 3)) (kk : W p l e R s m args below meth c H locs cs sl Q (F0 m (pc + 3) ls (.ref (g j) :: rest))) : W p l e R s m args below meth c H locs cs sl Q (F0 m pc ls (.ref (g k) :: rest)) := by
  subst hj
  exact g_get C X (q := k) (k := k) (x_pos hk (by decide)) (x_c7 g cI cB cZ cQ S hk) (ci := 7) rfl x_in7 5 (by decide) xl_X7_28 rfl hdg kk
theorem xl_X10_53 : Cond.fieldLinkNest RX10 53 "GrottoHours$State" "hired" "[I" "GrottoHours" ∈ xNest := List.mem_of_getElem? (i := 63) rfl
theorem xg_X10_53 (C : gC p s m args meth c cc nL RX10 ret D (xtys cI cB cZ cQ) xord g Am) (O : xO g cI cB cZ cQ Am) (X : gX D (xcell g cI cB cZ cQ) xord g S s H locs) (hk : xk k = 7) {j : Nat} (hj : k + 4 = j) (hdg : decode cc pc = .ok (.getfield 53, 3)) (kk : W p l e R s m args below meth c H locs cs sl Q (F0 m (pc + 3) ls (.ref (g j) :: rest))) : W p l e R s m args below meth c H locs cs sl Q (F0 m pc ls (.ref (g k) :: rest)) := by
  subst hj
  exact g_getN C X (q := k) (k := k) (x_pos hk (by decide)) (x_c7 g cI cB cZ cQ S hk) (ci := 7) rfl x_in7 5 (by decide) (O.2 _ _ _ C.2.2.2.2.2 _ xl_X10_53) rfl hdg kk
theorem xl_X11_206 : Cond.fieldLinkNest RX11 206 "GrottoHours$State" "hired" "[I" "GrottoHours" ∈ xNest := List.mem_of_getElem? (i := 64) rfl
theorem xg_X11_206 (C : gC p s m args meth c cc nL RX11 ret D (xtys cI cB cZ cQ) xord g Am) (O : xO g cI cB cZ cQ Am) (X : gX D (xcell g cI cB cZ cQ) xord g S s H locs) (hk : xk k = 7) {j : Nat} (hj : k + 4 = j) (hdg : decode cc pc = .ok (.getfield 206, 3)) (kk : W p l e R s m args below meth c H locs cs sl Q (F0 m (pc + 3) ls (.ref (g j) :: rest))) : W p l e R s m args below meth c H locs cs sl Q (F0 m pc ls (.ref (g k) :: rest)) := by
  subst hj
  exact g_getN C X (q := k) (k := k) (x_pos hk (by decide)) (x_c7 g cI cB cZ cQ S hk) (ci := 7) rfl x_in7 5 (by decide) (O.2 _ _ _ C.2.2.2.2.2 _ xl_X11_206) rfl hdg kk
theorem xl_X0_11 : Cond.fieldLink RX0 11 "GrottoHours$Acts" "cells" "[I" ∈ gT := gT_c2 13 rfl rfl
theorem xg_X0_11 (C : gC p s m args meth c cc nL RX0 ret D (xtys cI cB cZ cQ) xord g Am) (O : xO g cI cB cZ cQ Am) (X : gX D (xcell g cI cB cZ cQ) xord g S s H locs) (hk : xk k = 0) {j : Nat} (hj : k + 1 = j) (hdg : decode cc pc = .ok (.getfield 11, 3)) (kk : W p l e R s m args below meth c H locs cs sl Q (F0 m (pc + 3) ls (.ref (g j) :: rest))) : W p l e R s m args below meth c H locs cs sl Q (F0 m pc ls (.ref (g k) :: rest)) := by
  subst hj
  exact g_get C X (q := k) (k := k) (x_pos hk (by decide)) (x_c0 g cI cB cZ cQ S hk) (ci := 0) rfl x_in0 0 (by decide) xl_X0_11 rfl hdg kk
theorem xl_X0_17 : Cond.fieldLink RX0 17 "GrottoHours$Acts" "many" "I" ∈ gT := gT_c2 14 rfl rfl
theorem xg_X0_17 (C : gC p s m args meth c cc nL RX0 ret D (xtys cI cB cZ cQ) xord g Am) (O : xO g cI cB cZ cQ Am) (X : gX D (xcell g cI cB cZ cQ) xord g S s H locs) (hk : xk k = 0) (hdg : decode cc pc = .ok (.getfield 17, 3)) (kk : W p l e R s m args below meth c H locs cs sl Q (F0 m (pc + 3) ls (.int (S k 1) :: rest))) : W p l e R s m args below meth c H locs cs sl Q (F0 m pc ls (.ref (g k) :: rest)) :=
  g_get C X (q := k) (k := k) (x_pos hk (by decide)) (x_c0 g cI cB cZ cQ S hk) (ci := 0) rfl x_in0 1 (by decide) xl_X0_17 rfl hdg kk
theorem xp_X0_17 (C : gC p s m args meth c cc nL RX0 ret D (xtys cI cB cZ cQ) xord g Am) (O : xO g cI cB cZ cQ Am) (X : gX D (xcell g cI cB cZ cQ) xord g S s H locs) (hk : xk k = 0) {x : Int32} (hS : S' = sU S k 1 x) (hdg : decode cc pc = .ok (.putfield 17, 3)) (kk : ∀ (H1 : Heap) (locs1 : List Loc), gX D (xcell g cI cB cZ cQ) xord g S' s H1 locs1 → W p l e R s m args below meth c H1 locs1 cs sl Q (F0 m (pc + 3) ls rest)) : W p l e R s m args below meth c H locs cs sl Q (F0 m pc ls (.int x :: .ref (g k) :: rest)) := by
  subst hS
  exact g_put C O.1 X (q := k) (k := k) (x_pos hk (by decide)) (x_c0 g cI cB cZ cQ S hk) (ci := 0) rfl x_in0 tyX0 tyX0_ok nmX0 1 (by decide) xl_X0_17 rfl rfl rfl (Nat.le_of_ble_eq_true rfl) (fun i h => sU_ne h) (by rw [x_c0 g cI cB cZ cQ _ hk, sU_eq]; rfl) hdg kk
theorem xl_X1_40 : Cond.fieldLinkNest RX1 40 "GrottoHours$Acts" "many" "I" "GrottoHours" ∈ xNest := List.mem_of_getElem? (i := 66) rfl
theorem xg_X1_40 (C : gC p s m args meth c cc nL RX1 ret D (xtys cI cB cZ cQ) xord g Am) (O : xO g cI cB cZ cQ Am) (X : gX D (xcell g cI cB cZ cQ) xord g S s H locs) (hk : xk k = 0) (hdg : decode cc pc = .ok (.getfield 40, 3)) (kk : W p l e R s m args below meth c H locs cs sl Q (F0 m (pc + 3) ls (.int (S k 1) :: rest))) : W p l e R s m args below meth c H locs cs sl Q (F0 m pc ls (.ref (g k) :: rest)) :=
  g_getN C X (q := k) (k := k) (x_pos hk (by decide)) (x_c0 g cI cB cZ cQ S hk) (ci := 0) rfl x_in0 1 (by decide) (O.2 _ _ _ C.2.2.2.2.2 _ xl_X1_40) rfl hdg kk
theorem xp_X1_40 (C : gC p s m args meth c cc nL RX1 ret D (xtys cI cB cZ cQ) xord g Am) (O : xO g cI cB cZ cQ Am) (X : gX D (xcell g cI cB cZ cQ) xord g S s H locs) (hk : xk k = 0) {x : Int32} (hS : S' = sU S k 1 x) (hdg : decode cc pc = .ok (.putfield 40, 3)) (kk : ∀ (H1 : Heap) (locs1 : List Loc), gX D (xcell g cI cB cZ cQ) xord g S' s H1 locs1 → W p l e R s m args below meth c H1 locs1 cs sl Q (F0 m (pc + 3) ls rest)) : W p l e R s m args below meth c H locs cs sl Q (F0 m pc ls (.int x :: .ref (g k) :: rest)) := by
  subst hS
  exact g_putN C O.1 X (q := k) (k := k) (x_pos hk (by decide)) (x_c0 g cI cB cZ cQ S hk) (ci := 0) rfl x_in0 tyX0 tyX0_ok nmX0 1 (by decide) (O.2 _ _ _ C.2.2.2.2.2 _ xl_X1_40) rfl rfl rfl (Nat.le_of_ble_eq_true rfl) (fun i h => sU_ne h) (by rw [x_c0 g cI cB cZ cQ _ hk, sU_eq]; rfl) hdg kk
theorem xl_X11_141 : Cond.fieldLinkNest RX11 141 "GrottoHours$Acts" "many" "I" "GrottoHours" ∈ xNest := List.mem_of_getElem? (i := 67) rfl
theorem xg_X11_141 (C : gC p s m args meth c cc nL RX11 ret D (xtys cI cB cZ cQ) xord g Am) (O : xO g cI cB cZ cQ Am) (X : gX D (xcell g cI cB cZ cQ) xord g S s H locs) (hk : xk k = 0) (hdg : decode cc pc = .ok (.getfield 141, 3)) (kk : W p l e R s m args below meth c H locs cs sl Q (F0 m (pc + 3) ls (.int (S k 1) :: rest))) : W p l e R s m args below meth c H locs cs sl Q (F0 m pc ls (.ref (g k) :: rest)) :=
  g_getN C X (q := k) (k := k) (x_pos hk (by decide)) (x_c0 g cI cB cZ cQ S hk) (ci := 0) rfl x_in0 1 (by decide) (O.2 _ _ _ C.2.2.2.2.2 _ xl_X11_141) rfl hdg kk
theorem xp_X11_141 (C : gC p s m args meth c cc nL RX11 ret D (xtys cI cB cZ cQ) xord g Am) (O : xO g cI cB cZ cQ Am) (X : gX D (xcell g cI cB cZ cQ) xord g S s H locs) (hk : xk k = 0) {x : Int32} (hS : S' = sU S k 1 x) (hdg : decode cc pc = .ok (.putfield 141, 3)) (kk : ∀ (H1 : Heap) (locs1 : List Loc), gX D (xcell g cI cB cZ cQ) xord g S' s H1 locs1 → W p l e R s m args below meth c H1 locs1 cs sl Q (F0 m (pc + 3) ls rest)) : W p l e R s m args below meth c H locs cs sl Q (F0 m pc ls (.int x :: .ref (g k) :: rest)) := by
  subst hS
  exact g_putN C O.1 X (q := k) (k := k) (x_pos hk (by decide)) (x_c0 g cI cB cZ cQ S hk) (ci := 0) rfl x_in0 tyX0 tyX0_ok nmX0 1 (by decide) (O.2 _ _ _ C.2.2.2.2.2 _ xl_X11_141) rfl rfl rfl (Nat.le_of_ble_eq_true rfl) (fun i h => sU_ne h) (by rw [x_c0 g cI cB cZ cQ _ hk, sU_eq]; rfl) hdg kk
theorem xl_X5_9 : Cond.fieldLink RX5 9 "GrottoHours$Seen" "guilds" "[I" ∈ gT := gT_c2 28 rfl rfl
theorem xg_X5_9 (C : gC p s m args meth c cc nL RX5 ret D (xtys cI cB cZ cQ) xord g Am) (O : xO g cI cB cZ cQ Am) (X : gX D (xcell g cI cB cZ cQ) xord g S s H locs) (hk : xk k = 5) {j : Nat} (hj : k + 1 = j) (hdg : decode cc pc = .ok (.getfield 9, 3)) (kk : W p l e R s m args below meth c H locs cs sl Q (F0 m (pc + 3) ls (.ref (g j) :: rest))) : W p l e R s m args below meth c H locs cs sl Q (F0 m pc ls (.ref (g k) :: rest)) := by
  subst hj
  exact g_get C X (q := k) (k := k) (x_pos hk (by decide)) (x_c5 g cI cB cZ cQ S hk) (ci := 5) rfl x_in5 0 (by decide) xl_X5_9 rfl hdg kk
theorem xl_X5_15 : Cond.fieldLink RX5 15 "GrottoHours$Seen" "behind" "[I" ∈ gT := gT_c2 29 rfl rfl
theorem xg_X5_15 (C : gC p s m args meth c cc nL RX5 ret D (xtys cI cB cZ cQ) xord g Am) (O : xO g cI cB cZ cQ Am) (X : gX D (xcell g cI cB cZ cQ) xord g S s H locs) (hk : xk k = 5) {j : Nat} (hj : k + 2 = j) (hdg : decode cc pc = .ok (.getfield 15, 3)) (kk : W p l e R s m args below meth c H locs cs sl Q (F0 m (pc + 3) ls (.ref (g j) :: rest))) : W p l e R s m args below meth c H locs cs sl Q (F0 m pc ls (.ref (g k) :: rest)) := by
  subst hj
  exact g_get C X (q := k) (k := k) (x_pos hk (by decide)) (x_c5 g cI cB cZ cQ S hk) (ci := 5) rfl x_in5 1 (by decide) xl_X5_15 rfl hdg kk
theorem xl_X5_18 : Cond.fieldLink RX5 18 "GrottoHours$Seen" "sins" "[I" ∈ gT := gT_c2 30 rfl rfl
theorem xg_X5_18 (C : gC p s m args meth c cc nL RX5 ret D (xtys cI cB cZ cQ) xord g Am) (O : xO g cI cB cZ cQ Am) (X : gX D (xcell g cI cB cZ cQ) xord g S s H locs) (hk : xk k = 5) {j : Nat} (hj : k + 3 = j) (hdg : decode cc pc = .ok (.getfield 18, 3)) (kk : W p l e R s m args below meth c H locs cs sl Q (F0 m (pc + 3) ls (.ref (g j) :: rest))) : W p l e R s m args below meth c H locs cs sl Q (F0 m pc ls (.ref (g k) :: rest)) := by
  subst hj
  exact g_get C X (q := k) (k := k) (x_pos hk (by decide)) (x_c5 g cI cB cZ cQ S hk) (ci := 5) rfl x_in5 2 (by decide) xl_X5_18 rfl hdg kk
theorem xl_X5_21 : Cond.fieldLink RX5 21 "GrottoHours$Seen" "many" "I" ∈ gT := gT_c2 31 rfl rfl
theorem xg_X5_21 (C : gC p s m args meth c cc nL RX5 ret D (xtys cI cB cZ cQ) xord g Am) (O : xO g cI cB cZ cQ Am) (X : gX D (xcell g cI cB cZ cQ) xord g S s H locs) (hk : xk k = 5) (hdg : decode cc pc = .ok (.getfield 21, 3)) (kk : W p l e R s m args below meth c H locs cs sl Q (F0 m (pc + 3) ls (.int (S k 3) :: rest))) : W p l e R s m args below meth c H locs cs sl Q (F0 m pc ls (.ref (g k) :: rest)) :=
  g_get C X (q := k) (k := k) (x_pos hk (by decide)) (x_c5 g cI cB cZ cQ S hk) (ci := 5) rfl x_in5 3 (by decide) xl_X5_21 rfl hdg kk
theorem xp_X5_21 (C : gC p s m args meth c cc nL RX5 ret D (xtys cI cB cZ cQ) xord g Am) (O : xO g cI cB cZ cQ Am) (X : gX D (xcell g cI cB cZ cQ) xord g S s H locs) (hk : xk k = 5) {x : Int32} (hS : S' = sU S k 3 x) (hdg : decode cc pc = .ok (.putfield 21, 3)) (kk : ∀ (H1 : Heap) (locs1 : List Loc), gX D (xcell g cI cB cZ cQ) xord g S' s H1 locs1 → W p l e R s m args below meth c H1 locs1 cs sl Q (F0 m (pc + 3) ls rest)) : W p l e R s m args below meth c H locs cs sl Q (F0 m pc ls (.int x :: .ref (g k) :: rest)) := by
  subst hS
  exact g_put C O.1 X (q := k) (k := k) (x_pos hk (by decide)) (x_c5 g cI cB cZ cQ S hk) (ci := 5) rfl x_in5 tyX5 tyX5_ok nmX5 3 (by decide) xl_X5_21 rfl rfl rfl (Nat.le_of_ble_eq_true rfl) (fun i h => sU_ne h) (by rw [x_c5 g cI cB cZ cQ _ hk, sU_eq]; rfl) hdg kk
theorem xl_X1_44 : Cond.fieldLinkNest RX1 44 "GrottoHours$Seen" "many" "I" "GrottoHours" ∈ xNest := List.mem_of_getElem? (i := 69) rfl
theorem xg_X1_44 (C : gC p s m args meth c cc nL RX1 ret D (xtys cI cB cZ cQ) xord g Am) (O : xO g cI cB cZ cQ Am) (X : gX D (xcell g cI cB cZ cQ) xord g S s H locs) (hk : xk k = 5) (hdg : decode cc pc = .ok (.getfield 44, 3)) (kk : W p l e R s m args below meth c H locs cs sl Q (F0 m (pc + 3) ls (.int (S k 3) :: rest))) : W p l e R s m args below meth c H locs cs sl Q (F0 m pc ls (.ref (g k) :: rest)) :=
  g_getN C X (q := k) (k := k) (x_pos hk (by decide)) (x_c5 g cI cB cZ cQ S hk) (ci := 5) rfl x_in5 3 (by decide) (O.2 _ _ _ C.2.2.2.2.2 _ xl_X1_44) rfl hdg kk
theorem xp_X1_44 (C : gC p s m args meth c cc nL RX1 ret D (xtys cI cB cZ cQ) xord g Am) (O : xO g cI cB cZ cQ Am) (X : gX D (xcell g cI cB cZ cQ) xord g S s H locs) (hk : xk k = 5) {x : Int32} (hS : S' = sU S k 3 x) (hdg : decode cc pc = .ok (.putfield 44, 3)) (kk : ∀ (H1 : Heap) (locs1 : List Loc), gX D (xcell g cI cB cZ cQ) xord g S' s H1 locs1 → W p l e R s m args below meth c H1 locs1 cs sl Q (F0 m (pc + 3) ls rest)) : W p l e R s m args below meth c H locs cs sl Q (F0 m pc ls (.int x :: .ref (g k) :: rest)) := by
  subst hS
  exact g_putN C O.1 X (q := k) (k := k) (x_pos hk (by decide)) (x_c5 g cI cB cZ cQ S hk) (ci := 5) rfl x_in5 tyX5 tyX5_ok nmX5 3 (by decide) (O.2 _ _ _ C.2.2.2.2.2 _ xl_X1_44) rfl rfl rfl (Nat.le_of_ble_eq_true rfl) (fun i h => sU_ne h) (by rw [x_c5 g cI cB cZ cQ _ hk, sU_eq]; rfl) hdg kk
theorem xl_X11_150 : Cond.fieldLinkNest RX11 150 "GrottoHours$Seen" "many" "I" "GrottoHours" ∈ xNest := List.mem_of_getElem? (i := 70) rfl
theorem xg_X11_150 (C : gC p s m args meth c cc nL RX11 ret D (xtys cI cB cZ cQ) xord g Am) (O : xO g cI cB cZ cQ Am) (X : gX D (xcell g cI cB cZ cQ) xord g S s H locs) (hk : xk k = 5) (hdg : decode cc pc = .ok (.getfield 150, 3)) (kk : W p l e R s m args below meth c H locs cs sl Q (F0 m (pc + 3) ls (.int (S k 3) :: rest))) : W p l e R s m args below meth c H locs cs sl Q (F0 m pc ls (.ref (g k) :: rest)) :=
  g_getN C X (q := k) (k := k) (x_pos hk (by decide)) (x_c5 g cI cB cZ cQ S hk) (ci := 5) rfl x_in5 3 (by decide) (O.2 _ _ _ C.2.2.2.2.2 _ xl_X11_150) rfl hdg kk
theorem xp_X11_150 (C : gC p s m args meth c cc nL RX11 ret D (xtys cI cB cZ cQ) xord g Am) (O : xO g cI cB cZ cQ Am) (X : gX D (xcell g cI cB cZ cQ) xord g S s H locs) (hk : xk k = 5) {x : Int32} (hS : S' = sU S k 3 x) (hdg : decode cc pc = .ok (.putfield 150, 3)) (kk : ∀ (H1 : Heap) (locs1 : List Loc), gX D (xcell g cI cB cZ cQ) xord g S' s H1 locs1 → W p l e R s m args below meth c H1 locs1 cs sl Q (F0 m (pc + 3) ls rest)) : W p l e R s m args below meth c H locs cs sl Q (F0 m pc ls (.int x :: .ref (g k) :: rest)) := by
  subst hS
  exact g_putN C O.1 X (q := k) (k := k) (x_pos hk (by decide)) (x_c5 g cI cB cZ cQ S hk) (ci := 5) rfl x_in5 tyX5 tyX5_ok nmX5 3 (by decide) (O.2 _ _ _ C.2.2.2.2.2 _ xl_X11_150) rfl rfl rfl (Nat.le_of_ble_eq_true rfl) (fun i h => sU_ne h) (by rw [x_c5 g cI cB cZ cQ _ hk, sU_eq]; rfl) hdg kk
theorem xl_X1_12 : Cond.fieldLink RX1 12 "GrottoHours$Book" "state" "LGrottoHours$State;" ∈ gT := gT_c2 43 rfl rfl
theorem xg_X1_12 (C : gC p s m args meth c cc nL RX1 ret D (xtys cI cB cZ cQ) xord g Am) (O : xO g cI cB cZ cQ Am) (X : gX D (xcell g cI cB cZ cQ) xord g S s H locs) (hk : xk k = 1) {j : Nat} (hj : k + 1 = j) (hdg : decode cc pc = .ok (.getfield 12, 3)) (kk : W p l e R s m args below meth c H locs cs sl Q (F0 m (pc + 3) ls (.ref (g j) :: rest))) : W p l e R s m args below meth c H locs cs sl Q (F0 m pc ls (.ref (g k) :: rest)) := by
  subst hj
  exact g_get C X (q := k) (k := k) (x_pos hk (by decide)) (x_c1 g cI cB cZ cQ S hk) (ci := 1) rfl x_in1 0 (by decide) xl_X1_12 rfl hdg kk
theorem xl_X2_39 : Cond.fieldLinkNest RX2 39 "GrottoHours$Book" "state" "LGrottoHours$State;" "GrottoHours" ∈ xNest := List.mem_of_getElem? (i := 71) rfl
theorem xg_X2_39 (C : gC p s m args meth c cc nL RX2 ret D (xtys cI cB cZ cQ) xord g Am) (O : xO g cI cB cZ cQ Am) (X : gX D (xcell g cI cB cZ cQ) xord g S s H locs) (hk : xk k = 1) {j : Nat} (hj : k + 1 = j) (hdg : decode cc pc = .ok (.getfield 39, 3)) (kk : W p l e R s m args below meth c H locs cs sl Q (F0 m (pc + 3) ls (.ref (g j) :: rest))) : W p l e R s m args below meth c H locs cs sl Q (F0 m pc ls (.ref (g k) :: rest)) := by
  subst hj
  exact g_getN C X (q := k) (k := k) (x_pos hk (by decide)) (x_c1 g cI cB cZ cQ S hk) (ci := 1) rfl x_in1 0 (by decide) (O.2 _ _ _ C.2.2.2.2.2 _ xl_X2_39) rfl hdg kk
theorem xl_X11_105 : Cond.fieldLinkNest RX11 105 "GrottoHours$Book" "state" "LGrottoHours$State;" "GrottoHours" ∈ xNest := List.mem_of_getElem? (i := 72) rfl
theorem xg_X11_105 (C : gC p s m args meth c cc nL RX11 ret D (xtys cI cB cZ cQ) xord g Am) (O : xO g cI cB cZ cQ Am) (X : gX D (xcell g cI cB cZ cQ) xord g S s H locs) (hk : xk k = 1) {j : Nat} (hj : k + 1 = j) (hdg : decode cc pc = .ok (.getfield 105, 3)) (kk : W p l e R s m args below meth c H locs cs sl Q (F0 m (pc + 3) ls (.ref (g j) :: rest))) : W p l e R s m args below meth c H locs cs sl Q (F0 m pc ls (.ref (g k) :: rest)) := by
  subst hj
  exact g_getN C X (q := k) (k := k) (x_pos hk (by decide)) (x_c1 g cI cB cZ cQ S hk) (ci := 1) rfl x_in1 0 (by decide) (O.2 _ _ _ C.2.2.2.2.2 _ xl_X11_105) rfl hdg kk
theorem xl_X1_21 : Cond.fieldLink RX1 21 "GrottoHours$Book" "acts" "LGrottoHours$Acts;" ∈ gT := gT_c2 46 rfl rfl
theorem xg_X1_21 (C : gC p s m args meth c cc nL RX1 ret D (xtys cI cB cZ cQ) xord g Am) (O : xO g cI cB cZ cQ Am) (X : gX D (xcell g cI cB cZ cQ) xord g S s H locs) (hk : xk k = 1) {j : Nat} (hj : k + 6 = j) (hdg : decode cc pc = .ok (.getfield 21, 3)) (kk : W p l e R s m args below meth c H locs cs sl Q (F0 m (pc + 3) ls (.ref (g j) :: rest))) : W p l e R s m args below meth c H locs cs sl Q (F0 m pc ls (.ref (g k) :: rest)) := by
  subst hj
  exact g_get C X (q := k) (k := k) (x_pos hk (by decide)) (x_c1 g cI cB cZ cQ S hk) (ci := 1) rfl x_in1 1 (by decide) xl_X1_21 rfl hdg kk
theorem xl_X11_137 : Cond.fieldLinkNest RX11 137 "GrottoHours$Book" "acts" "LGrottoHours$Acts;" "GrottoHours" ∈ xNest := List.mem_of_getElem? (i := 73) rfl
theorem xg_X11_137 (C : gC p s m args meth c cc nL RX11 ret D (xtys cI cB cZ cQ) xord g Am) (O : xO g cI cB cZ cQ Am) (X : gX D (xcell g cI cB cZ cQ) xord g S s H locs) (hk : xk k = 1) {j : Nat} (hj : k + 6 = j) (hdg : decode cc pc = .ok (.getfield 137, 3)) (kk : W p l e R s m args below meth c H locs cs sl Q (F0 m (pc + 3) ls (.ref (g j) :: rest))) : W p l e R s m args below meth c H locs cs sl Q (F0 m pc ls (.ref (g k) :: rest)) := by
  subst hj
  exact g_getN C X (q := k) (k := k) (x_pos hk (by decide)) (x_c1 g cI cB cZ cQ S hk) (ci := 1) rfl x_in1 1 (by decide) (O.2 _ _ _ C.2.2.2.2.2 _ xl_X11_137) rfl hdg kk
theorem xl_X1_28 : Cond.fieldLink RX1 28 "GrottoHours$Book" "seen" "LGrottoHours$Seen;" ∈ gT := gT_c2 48 rfl rfl
theorem xg_X1_28 (C : gC p s m args meth c cc nL RX1 ret D (xtys cI cB cZ cQ) xord g Am) (O : xO g cI cB cZ cQ Am) (X : gX D (xcell g cI cB cZ cQ) xord g S s H locs) (hk : xk k = 1) {j : Nat} (hj : k + 8 = j) (hdg : decode cc pc = .ok (.getfield 28, 3)) (kk : W p l e R s m args below meth c H locs cs sl Q (F0 m (pc + 3) ls (.ref (g j) :: rest))) : W p l e R s m args below meth c H locs cs sl Q (F0 m pc ls (.ref (g k) :: rest)) := by
  subst hj
  exact g_get C X (q := k) (k := k) (x_pos hk (by decide)) (x_c1 g cI cB cZ cQ S hk) (ci := 1) rfl x_in1 2 (by decide) xl_X1_28 rfl hdg kk
theorem xl_X2_55 : Cond.fieldLinkNest RX2 55 "GrottoHours$Book" "seen" "LGrottoHours$Seen;" "GrottoHours" ∈ xNest := List.mem_of_getElem? (i := 74) rfl
theorem xg_X2_55 (C : gC p s m args meth c cc nL RX2 ret D (xtys cI cB cZ cQ) xord g Am) (O : xO g cI cB cZ cQ Am) (X : gX D (xcell g cI cB cZ cQ) xord g S s H locs) (hk : xk k = 1) {j : Nat} (hj : k + 8 = j) (hdg : decode cc pc = .ok (.getfield 55, 3)) (kk : W p l e R s m args below meth c H locs cs sl Q (F0 m (pc + 3) ls (.ref (g j) :: rest))) : W p l e R s m args below meth c H locs cs sl Q (F0 m pc ls (.ref (g k) :: rest)) := by
  subst hj
  exact g_getN C X (q := k) (k := k) (x_pos hk (by decide)) (x_c1 g cI cB cZ cQ S hk) (ci := 1) rfl x_in1 2 (by decide) (O.2 _ _ _ C.2.2.2.2.2 _ xl_X2_55) rfl hdg kk
theorem xl_X11_146 : Cond.fieldLinkNest RX11 146 "GrottoHours$Book" "seen" "LGrottoHours$Seen;" "GrottoHours" ∈ xNest := List.mem_of_getElem? (i := 75) rfl
theorem xg_X11_146 (C : gC p s m args meth c cc nL RX11 ret D (xtys cI cB cZ cQ) xord g Am) (O : xO g cI cB cZ cQ Am) (X : gX D (xcell g cI cB cZ cQ) xord g S s H locs) (hk : xk k = 1) {j : Nat} (hj : k + 8 = j) (hdg : decode cc pc = .ok (.getfield 146, 3)) (kk : W p l e R s m args below meth c H locs cs sl Q (F0 m (pc + 3) ls (.ref (g j) :: rest))) : W p l e R s m args below meth c H locs cs sl Q (F0 m pc ls (.ref (g k) :: rest)) := by
  subst hj
  exact g_getN C X (q := k) (k := k) (x_pos hk (by decide)) (x_c1 g cI cB cZ cQ S hk) (ci := 1) rfl x_in1 2 (by decide) (O.2 _ _ _ C.2.2.2.2.2 _ xl_X11_146) rfl hdg kk
theorem xl_X1_32 : Cond.fieldLink RX1 32 "GrottoHours$Book" "refused" "[I" ∈ gT := gT_c2 51 rfl rfl
theorem xg_X1_32 (C : gC p s m args meth c cc nL RX1 ret D (xtys cI cB cZ cQ) xord g Am) (O : xO g cI cB cZ cQ Am) (X : gX D (xcell g cI cB cZ cQ) xord g S s H locs) (hk : xk k = 1) {j : Nat} (hj : k + 12 = j) (hdg : decode cc pc = .ok (.getfield 32, 3)) (kk : W p l e R s m args below meth c H locs cs sl Q (F0 m (pc + 3) ls (.ref (g j) :: rest))) : W p l e R s m args below meth c H locs cs sl Q (F0 m pc ls (.ref (g k) :: rest)) := by
  subst hj
  exact g_get C X (q := k) (k := k) (x_pos hk (by decide)) (x_c1 g cI cB cZ cQ S hk) (ci := 1) rfl x_in1 3 (by decide) xl_X1_32 rfl hdg kk
theorem xl_X11_153 : Cond.fieldLinkNest RX11 153 "GrottoHours$Book" "refused" "[I" "GrottoHours" ∈ xNest := List.mem_of_getElem? (i := 76) rfl
theorem xg_X11_153 (C : gC p s m args meth c cc nL RX11 ret D (xtys cI cB cZ cQ) xord g Am) (O : xO g cI cB cZ cQ Am) (X : gX D (xcell g cI cB cZ cQ) xord g S s H locs) (hk : xk k = 1) {j : Nat} (hj : k + 12 = j) (hdg : decode cc pc = .ok (.getfield 153, 3)) (kk : W p l e R s m args below meth c H locs cs sl Q (F0 m (pc + 3) ls (.ref (g j) :: rest))) : W p l e R s m args below meth c H locs cs sl Q (F0 m pc ls (.ref (g k) :: rest)) := by
  subst hj
  exact g_getN C X (q := k) (k := k) (x_pos hk (by decide)) (x_c1 g cI cB cZ cQ S hk) (ci := 1) rfl x_in1 3 (by decide) (O.2 _ _ _ C.2.2.2.2.2 _ xl_X11_153) rfl hdg kk
theorem xl_X10_9 : Cond.fieldLink RX10 9 "GrottoHours$Walk" "greed" "I" ∈ gT := gT_c2 70 rfl rfl
theorem xg_X10_9 (C : gC p s m args meth c cc nL RX10 ret D (xtys cI cB cZ cQ) xord g Am) (O : xO g cI cB cZ cQ Am) (X : gX D (xcell g cI cB cZ cQ) xord g S s H locs) (hk : xk k = 10) (hdg : decode cc pc = .ok (.getfield 9, 3)) (kk : W p l e R s m args below meth c H locs cs sl Q (F0 m (pc + 3) ls (.int (S k 0) :: rest))) : W p l e R s m args below meth c H locs cs sl Q (F0 m pc ls (.ref (g k) :: rest)) :=
  g_get C X (q := k) (k := k) (x_pos hk (by decide)) (x_c10 g cI cB cZ cQ S hk) (ci := 10) rfl x_in10 0 (by decide) xl_X10_9 rfl hdg kk
theorem xp_X10_9 (C : gC p s m args meth c cc nL RX10 ret D (xtys cI cB cZ cQ) xord g Am) (O : xO g cI cB cZ cQ Am) (X : gX D (xcell g cI cB cZ cQ) xord g S s H locs) (hk : xk k = 10) {x : Int32} (hS : S' = sU S k 0 x) (hdg : decode cc pc = .ok (.putfield 9, 3)) (kk : ∀ (H1 : Heap) (locs1 : List Loc), gX D (xcell g cI cB cZ cQ) xord g S' s H1 locs1 → W p l e R s m args below meth c H1 locs1 cs sl Q (F0 m (pc + 3) ls rest)) : W p l e R s m args below meth c H locs cs sl Q (F0 m pc ls (.int x :: .ref (g k) :: rest)) := by
  subst hS
  exact g_put C O.1 X (q := k) (k := k) (x_pos hk (by decide)) (x_c10 g cI cB cZ cQ S hk) (ci := 10) rfl x_in10 tyX10 tyX10_ok nmX10 0 (by decide) xl_X10_9 rfl rfl rfl (Nat.le_of_ble_eq_true rfl) (fun i h => sU_ne h) (by rw [x_c10 g cI cB cZ cQ _ hk, sU_eq]; rfl) hdg kk
theorem xl_X2_79 : Cond.fieldLinkNest RX2 79 "GrottoHours$Walk" "greed" "I" "GrottoHours" ∈ xNest := List.mem_of_getElem? (i := 79) rfl
theorem xg_X2_79 (C : gC p s m args meth c cc nL RX2 ret D (xtys cI cB cZ cQ) xord g Am) (O : xO g cI cB cZ cQ Am) (X : gX D (xcell g cI cB cZ cQ) xord g S s H locs) (hk : xk k = 10) (hdg : decode cc pc = .ok (.getfield 79, 3)) (kk : W p l e R s m args below meth c H locs cs sl Q (F0 m (pc + 3) ls (.int (S k 0) :: rest))) : W p l e R s m args below meth c H locs cs sl Q (F0 m pc ls (.ref (g k) :: rest)) :=
  g_getN C X (q := k) (k := k) (x_pos hk (by decide)) (x_c10 g cI cB cZ cQ S hk) (ci := 10) rfl x_in10 0 (by decide) (O.2 _ _ _ C.2.2.2.2.2 _ xl_X2_79) rfl hdg kk
theorem xp_X2_79 (C : gC p s m args meth c cc nL RX2 ret D (xtys cI cB cZ cQ) xord g Am) (O : xO g cI cB cZ cQ Am) (X : gX D (xcell g cI cB cZ cQ) xord g S s H locs) (hk : xk k = 10) {x : Int32} (hS : S' = sU S k 0 x) (hdg : decode cc pc = .ok (.putfield 79, 3)) (kk : ∀ (H1 : Heap) (locs1 : List Loc), gX D (xcell g cI cB cZ cQ) xord g S' s H1 locs1 → W p l e R s m args below meth c H1 locs1 cs sl Q (F0 m (pc + 3) ls rest)) : W p l e R s m args below meth c H locs cs sl Q (F0 m pc ls (.int x :: .ref (g k) :: rest)) := by
  subst hS
  exact g_putN C O.1 X (q := k) (k := k) (x_pos hk (by decide)) (x_c10 g cI cB cZ cQ S hk) (ci := 10) rfl x_in10 tyX10 tyX10_ok nmX10 0 (by decide) (O.2 _ _ _ C.2.2.2.2.2 _ xl_X2_79) rfl rfl rfl (Nat.le_of_ble_eq_true rfl) (fun i h => sU_ne h) (by rw [x_c10 g cI cB cZ cQ _ hk, sU_eq]; rfl) hdg kk
theorem xl_X10_15 : Cond.fieldLink RX10 15 "GrottoHours$Walk" "sin" "I" ∈ gT := gT_c2 72 rfl rfl
theorem xg_X10_15 (C : gC p s m args meth c cc nL RX10 ret D (xtys cI cB cZ cQ) xord g Am) (O : xO g cI cB cZ cQ Am) (X : gX D (xcell g cI cB cZ cQ) xord g S s H locs) (hk : xk k = 10) (hdg : decode cc pc = .ok (.getfield 15, 3)) (kk : W p l e R s m args below meth c H locs cs sl Q (F0 m (pc + 3) ls (.int (S k 1) :: rest))) : W p l e R s m args below meth c H locs cs sl Q (F0 m pc ls (.ref (g k) :: rest)) :=
  g_get C X (q := k) (k := k) (x_pos hk (by decide)) (x_c10 g cI cB cZ cQ S hk) (ci := 10) rfl x_in10 1 (by decide) xl_X10_15 rfl hdg kk
theorem xp_X10_15 (C : gC p s m args meth c cc nL RX10 ret D (xtys cI cB cZ cQ) xord g Am) (O : xO g cI cB cZ cQ Am) (X : gX D (xcell g cI cB cZ cQ) xord g S s H locs) (hk : xk k = 10) {x : Int32} (hS : S' = sU S k 1 x) (hdg : decode cc pc = .ok (.putfield 15, 3)) (kk : ∀ (H1 : Heap) (locs1 : List Loc), gX D (xcell g cI cB cZ cQ) xord g S' s H1 locs1 → W p l e R s m args below meth c H1 locs1 cs sl Q (F0 m (pc + 3) ls rest)) : W p l e R s m args below meth c H locs cs sl Q (F0 m pc ls (.int x :: .ref (g k) :: rest)) := by
  subst hS
  exact g_put C O.1 X (q := k) (k := k) (x_pos hk (by decide)) (x_c10 g cI cB cZ cQ S hk) (ci := 10) rfl x_in10 tyX10 tyX10_ok nmX10 1 (by decide) xl_X10_15 rfl rfl rfl (Nat.le_of_ble_eq_true rfl) (fun i h => sU_ne h) (by rw [x_c10 g cI cB cZ cQ _ hk, sU_eq]; rfl) hdg kk
theorem xl_X2_91 : Cond.fieldLinkNest RX2 91 "GrottoHours$Walk" "sin" "I" "GrottoHours" ∈ xNest := List.mem_of_getElem? (i := 80) rfl
theorem xg_X2_91 (C : gC p s m args meth c cc nL RX2 ret D (xtys cI cB cZ cQ) xord g Am) (O : xO g cI cB cZ cQ Am) (X : gX D (xcell g cI cB cZ cQ) xord g S s H locs) (hk : xk k = 10) (hdg : decode cc pc = .ok (.getfield 91, 3)) (kk : W p l e R s m args below meth c H locs cs sl Q (F0 m (pc + 3) ls (.int (S k 1) :: rest))) : W p l e R s m args below meth c H locs cs sl Q (F0 m pc ls (.ref (g k) :: rest)) :=
  g_getN C X (q := k) (k := k) (x_pos hk (by decide)) (x_c10 g cI cB cZ cQ S hk) (ci := 10) rfl x_in10 1 (by decide) (O.2 _ _ _ C.2.2.2.2.2 _ xl_X2_91) rfl hdg kk
theorem xp_X2_91 (C : gC p s m args meth c cc nL RX2 ret D (xtys cI cB cZ cQ) xord g Am) (O : xO g cI cB cZ cQ Am) (X : gX D (xcell g cI cB cZ cQ) xord g S s H locs) (hk : xk k = 10) {x : Int32} (hS : S' = sU S k 1 x) (hdg : decode cc pc = .ok (.putfield 91, 3)) (kk : ∀ (H1 : Heap) (locs1 : List Loc), gX D (xcell g cI cB cZ cQ) xord g S' s H1 locs1 → W p l e R s m args below meth c H1 locs1 cs sl Q (F0 m (pc + 3) ls rest)) : W p l e R s m args below meth c H locs cs sl Q (F0 m pc ls (.int x :: .ref (g k) :: rest)) := by
  subst hS
  exact g_putN C O.1 X (q := k) (k := k) (x_pos hk (by decide)) (x_c10 g cI cB cZ cQ S hk) (ci := 10) rfl x_in10 tyX10 tyX10_ok nmX10 1 (by decide) (O.2 _ _ _ C.2.2.2.2.2 _ xl_X2_91) rfl rfl rfl (Nat.le_of_ble_eq_true rfl) (fun i h => sU_ne h) (by rw [x_c10 g cI cB cZ cQ _ hk, sU_eq]; rfl) hdg kk
theorem xl_X11_250 : Cond.fieldLinkNest RX11 250 "GrottoHours$Walk" "sin" "I" "GrottoHours" ∈ xNest := List.mem_of_getElem? (i := 81) rfl
theorem xg_X11_250 (C : gC p s m args meth c cc nL RX11 ret D (xtys cI cB cZ cQ) xord g Am) (O : xO g cI cB cZ cQ Am) (X : gX D (xcell g cI cB cZ cQ) xord g S s H locs) (hk : xk k = 10) (hdg : decode cc pc = .ok (.getfield 250, 3)) (kk : W p l e R s m args below meth c H locs cs sl Q (F0 m (pc + 3) ls (.int (S k 1) :: rest))) : W p l e R s m args below meth c H locs cs sl Q (F0 m pc ls (.ref (g k) :: rest)) :=
  g_getN C X (q := k) (k := k) (x_pos hk (by decide)) (x_c10 g cI cB cZ cQ S hk) (ci := 10) rfl x_in10 1 (by decide) (O.2 _ _ _ C.2.2.2.2.2 _ xl_X11_250) rfl hdg kk
theorem xp_X11_250 (C : gC p s m args meth c cc nL RX11 ret D (xtys cI cB cZ cQ) xord g Am) (O : xO g cI cB cZ cQ Am) (X : gX D (xcell g cI cB cZ cQ) xord g S s H locs) (hk : xk k = 10) {x : Int32} (hS : S' = sU S k 1 x) (hdg : decode cc pc = .ok (.putfield 250, 3)) (kk : ∀ (H1 : Heap) (locs1 : List Loc), gX D (xcell g cI cB cZ cQ) xord g S' s H1 locs1 → W p l e R s m args below meth c H1 locs1 cs sl Q (F0 m (pc + 3) ls rest)) : W p l e R s m args below meth c H locs cs sl Q (F0 m pc ls (.int x :: .ref (g k) :: rest)) := by
  subst hS
  exact g_putN C O.1 X (q := k) (k := k) (x_pos hk (by decide)) (x_c10 g cI cB cZ cQ S hk) (ci := 10) rfl x_in10 tyX10 tyX10_ok nmX10 1 (by decide) (O.2 _ _ _ C.2.2.2.2.2 _ xl_X11_250) rfl rfl rfl (Nat.le_of_ble_eq_true rfl) (fun i h => sU_ne h) (by rw [x_c10 g cI cB cZ cQ _ hk, sU_eq]; rfl) hdg kk
theorem xl_X10_18 : Cond.fieldLink RX10 18 "GrottoHours$Walk" "purse" "I" ∈ gT := gT_c2 75 rfl rfl
theorem xg_X10_18 (C : gC p s m args meth c cc nL RX10 ret D (xtys cI cB cZ cQ) xord g Am) (O : xO g cI cB cZ cQ Am) (X : gX D (xcell g cI cB cZ cQ) xord g S s H locs) (hk : xk k = 10) (hdg : decode cc pc = .ok (.getfield 18, 3)) (kk : W p l e R s m args below meth c H locs cs sl Q (F0 m (pc + 3) ls (.int (S k 2) :: rest))) : W p l e R s m args below meth c H locs cs sl Q (F0 m pc ls (.ref (g k) :: rest)) :=
  g_get C X (q := k) (k := k) (x_pos hk (by decide)) (x_c10 g cI cB cZ cQ S hk) (ci := 10) rfl x_in10 2 (by decide) xl_X10_18 rfl hdg kk
theorem xp_X10_18 (C : gC p s m args meth c cc nL RX10 ret D (xtys cI cB cZ cQ) xord g Am) (O : xO g cI cB cZ cQ Am) (X : gX D (xcell g cI cB cZ cQ) xord g S s H locs) (hk : xk k = 10) {x : Int32} (hS : S' = sU S k 2 x) (hdg : decode cc pc = .ok (.putfield 18, 3)) (kk : ∀ (H1 : Heap) (locs1 : List Loc), gX D (xcell g cI cB cZ cQ) xord g S' s H1 locs1 → W p l e R s m args below meth c H1 locs1 cs sl Q (F0 m (pc + 3) ls rest)) : W p l e R s m args below meth c H locs cs sl Q (F0 m pc ls (.int x :: .ref (g k) :: rest)) := by
  subst hS
  exact g_put C O.1 X (q := k) (k := k) (x_pos hk (by decide)) (x_c10 g cI cB cZ cQ S hk) (ci := 10) rfl x_in10 tyX10 tyX10_ok nmX10 2 (by decide) xl_X10_18 rfl rfl rfl (Nat.le_of_ble_eq_true rfl) (fun i h => sU_ne h) (by rw [x_c10 g cI cB cZ cQ _ hk, sU_eq]; rfl) hdg kk
theorem xl_X11_252 : Cond.fieldLinkNest RX11 252 "GrottoHours$Walk" "purse" "I" "GrottoHours" ∈ xNest := List.mem_of_getElem? (i := 82) rfl
theorem xg_X11_252 (C : gC p s m args meth c cc nL RX11 ret D (xtys cI cB cZ cQ) xord g Am) (O : xO g cI cB cZ cQ Am) (X : gX D (xcell g cI cB cZ cQ) xord g S s H locs) (hk : xk k = 10) (hdg : decode cc pc = .ok (.getfield 252, 3)) (kk : W p l e R s m args below meth c H locs cs sl Q (F0 m (pc + 3) ls (.int (S k 2) :: rest))) : W p l e R s m args below meth c H locs cs sl Q (F0 m pc ls (.ref (g k) :: rest)) :=
  g_getN C X (q := k) (k := k) (x_pos hk (by decide)) (x_c10 g cI cB cZ cQ S hk) (ci := 10) rfl x_in10 2 (by decide) (O.2 _ _ _ C.2.2.2.2.2 _ xl_X11_252) rfl hdg kk
theorem xp_X11_252 (C : gC p s m args meth c cc nL RX11 ret D (xtys cI cB cZ cQ) xord g Am) (O : xO g cI cB cZ cQ Am) (X : gX D (xcell g cI cB cZ cQ) xord g S s H locs) (hk : xk k = 10) {x : Int32} (hS : S' = sU S k 2 x) (hdg : decode cc pc = .ok (.putfield 252, 3)) (kk : ∀ (H1 : Heap) (locs1 : List Loc), gX D (xcell g cI cB cZ cQ) xord g S' s H1 locs1 → W p l e R s m args below meth c H1 locs1 cs sl Q (F0 m (pc + 3) ls rest)) : W p l e R s m args below meth c H locs cs sl Q (F0 m pc ls (.int x :: .ref (g k) :: rest)) := by
  subst hS
  exact g_putN C O.1 X (q := k) (k := k) (x_pos hk (by decide)) (x_c10 g cI cB cZ cQ S hk) (ci := 10) rfl x_in10 tyX10 tyX10_ok nmX10 2 (by decide) (O.2 _ _ _ C.2.2.2.2.2 _ xl_X11_252) rfl rfl rfl (Nat.le_of_ble_eq_true rfl) (fun i h => sU_ne h) (by rw [x_c10 g cI cB cZ cQ _ hk, sU_eq]; rfl) hdg kk
theorem xl_X10_21 : Cond.fieldLink RX10 21 "GrottoHours$Walk" "silences" "I" ∈ gT := gT_c2 77 rfl rfl
theorem xg_X10_21 (C : gC p s m args meth c cc nL RX10 ret D (xtys cI cB cZ cQ) xord g Am) (O : xO g cI cB cZ cQ Am) (X : gX D (xcell g cI cB cZ cQ) xord g S s H locs) (hk : xk k = 10) (hdg : decode cc pc = .ok (.getfield 21, 3)) (kk : W p l e R s m args below meth c H locs cs sl Q (F0 m (pc + 3) ls (.int (S k 3) :: rest))) : W p l e R s m args below meth c H locs cs sl Q (F0 m pc ls (.ref (g k) :: rest)) :=
  g_get C X (q := k) (k := k) (x_pos hk (by decide)) (x_c10 g cI cB cZ cQ S hk) (ci := 10) rfl x_in10 3 (by decide) xl_X10_21 rfl hdg kk
theorem xp_X10_21 (C : gC p s m args meth c cc nL RX10 ret D (xtys cI cB cZ cQ) xord g Am) (O : xO g cI cB cZ cQ Am) (X : gX D (xcell g cI cB cZ cQ) xord g S s H locs) (hk : xk k = 10) {x : Int32} (hS : S' = sU S k 3 x) (hdg : decode cc pc = .ok (.putfield 21, 3)) (kk : ∀ (H1 : Heap) (locs1 : List Loc), gX D (xcell g cI cB cZ cQ) xord g S' s H1 locs1 → W p l e R s m args below meth c H1 locs1 cs sl Q (F0 m (pc + 3) ls rest)) : W p l e R s m args below meth c H locs cs sl Q (F0 m pc ls (.int x :: .ref (g k) :: rest)) := by
  subst hS
  exact g_put C O.1 X (q := k) (k := k) (x_pos hk (by decide)) (x_c10 g cI cB cZ cQ S hk) (ci := 10) rfl x_in10 tyX10 tyX10_ok nmX10 3 (by decide) xl_X10_21 rfl rfl rfl (Nat.le_of_ble_eq_true rfl) (fun i h => sU_ne h) (by rw [x_c10 g cI cB cZ cQ _ hk, sU_eq]; rfl) hdg kk
theorem xl_X11_254 : Cond.fieldLinkNest RX11 254 "GrottoHours$Walk" "silences" "I" "GrottoHours" ∈ xNest := List.mem_of_getElem? (i := 83) rfl
theorem xg_X11_254 (C : gC p s m args meth c cc nL RX11 ret D (xtys cI cB cZ cQ) xord g Am) (O : xO g cI cB cZ cQ Am) (X : gX D (xcell g cI cB cZ cQ) xord g S s H locs) (hk : xk k = 10) (hdg : decode cc pc = .ok (.getfield 254, 3)) (kk : W p l e R s m args below meth c H locs cs sl Q (F0 m (pc + 3) ls (.int (S k 3) :: rest))) : W p l e R s m args below meth c H locs cs sl Q (F0 m pc ls (.ref (g k) :: rest)) :=
  g_getN C X (q := k) (k := k) (x_pos hk (by decide)) (x_c10 g cI cB cZ cQ S hk) (ci := 10) rfl x_in10 3 (by decide) (O.2 _ _ _ C.2.2.2.2.2 _ xl_X11_254) rfl hdg kk
theorem xp_X11_254 (C : gC p s m args meth c cc nL RX11 ret D (xtys cI cB cZ cQ) xord g Am) (O : xO g cI cB cZ cQ Am) (X : gX D (xcell g cI cB cZ cQ) xord g S s H locs) (hk : xk k = 10) {x : Int32} (hS : S' = sU S k 3 x) (hdg : decode cc pc = .ok (.putfield 254, 3)) (kk : ∀ (H1 : Heap) (locs1 : List Loc), gX D (xcell g cI cB cZ cQ) xord g S' s H1 locs1 → W p l e R s m args below meth c H1 locs1 cs sl Q (F0 m (pc + 3) ls rest)) : W p l e R s m args below meth c H locs cs sl Q (F0 m pc ls (.int x :: .ref (g k) :: rest)) := by
  subst hS
  exact g_putN C O.1 X (q := k) (k := k) (x_pos hk (by decide)) (x_c10 g cI cB cZ cQ S hk) (ci := 10) rfl x_in10 tyX10 tyX10_ok nmX10 3 (by decide) (O.2 _ _ _ C.2.2.2.2.2 _ xl_X11_254) rfl rfl rfl (Nat.le_of_ble_eq_true rfl) (fun i h => sU_ne h) (by rw [x_c10 g cI cB cZ cQ _ hk, sU_eq]; rfl) hdg kk
theorem xl_X10_24 : Cond.fieldLink RX10 24 "GrottoHours$Walk" "hired" "I" ∈ gT := gT_c2 79 rfl rfl
theorem xg_X10_24 (C : gC p s m args meth c cc nL RX10 ret D (xtys cI cB cZ cQ) xord g Am) (O : xO g cI cB cZ cQ Am) (X : gX D (xcell g cI cB cZ cQ) xord g S s H locs) (hk : xk k = 10) (hdg : decode cc pc = .ok (.getfield 24, 3)) (kk : W p l e R s m args below meth c H locs cs sl Q (F0 m (pc + 3) ls (.int (S k 4) :: rest))) : W p l e R s m args below meth c H locs cs sl Q (F0 m pc ls (.ref (g k) :: rest)) :=
  g_get C X (q := k) (k := k) (x_pos hk (by decide)) (x_c10 g cI cB cZ cQ S hk) (ci := 10) rfl x_in10 4 (by decide) xl_X10_24 rfl hdg kk
theorem xp_X10_24 (C : gC p s m args meth c cc nL RX10 ret D (xtys cI cB cZ cQ) xord g Am) (O : xO g cI cB cZ cQ Am) (X : gX D (xcell g cI cB cZ cQ) xord g S s H locs) (hk : xk k = 10) {x : Int32} (hS : S' = sU S k 4 x) (hdg : decode cc pc = .ok (.putfield 24, 3)) (kk : ∀ (H1 : Heap) (locs1 : List Loc), gX D (xcell g cI cB cZ cQ) xord g S' s H1 locs1 → W p l e R s m args below meth c H1 locs1 cs sl Q (F0 m (pc + 3) ls rest)) : W p l e R s m args below meth c H locs cs sl Q (F0 m pc ls (.int x :: .ref (g k) :: rest)) := by
  subst hS
  exact g_put C O.1 X (q := k) (k := k) (x_pos hk (by decide)) (x_c10 g cI cB cZ cQ S hk) (ci := 10) rfl x_in10 tyX10 tyX10_ok nmX10 4 (by decide) xl_X10_24 rfl rfl rfl (Nat.le_of_ble_eq_true rfl) (fun i h => sU_ne h) (by rw [x_c10 g cI cB cZ cQ _ hk, sU_eq]; rfl) hdg kk
theorem xl_X11_256 : Cond.fieldLinkNest RX11 256 "GrottoHours$Walk" "hired" "I" "GrottoHours" ∈ xNest := List.mem_of_getElem? (i := 84) rfl
theorem xg_X11_256 (C : gC p s m args meth c cc nL RX11 ret D (xtys cI cB cZ cQ) xord g Am) (O : xO g cI cB cZ cQ Am) (X : gX D (xcell g cI cB cZ cQ) xord g S s H locs) (hk : xk k = 10) (hdg : decode cc pc = .ok (.getfield 256, 3)) (kk : W p l e R s m args below meth c H locs cs sl Q (F0 m (pc + 3) ls (.int (S k 4) :: rest))) : W p l e R s m args below meth c H locs cs sl Q (F0 m pc ls (.ref (g k) :: rest)) :=
  g_getN C X (q := k) (k := k) (x_pos hk (by decide)) (x_c10 g cI cB cZ cQ S hk) (ci := 10) rfl x_in10 4 (by decide) (O.2 _ _ _ C.2.2.2.2.2 _ xl_X11_256) rfl hdg kk
theorem xp_X11_256 (C : gC p s m args meth c cc nL RX11 ret D (xtys cI cB cZ cQ) xord g Am) (O : xO g cI cB cZ cQ Am) (X : gX D (xcell g cI cB cZ cQ) xord g S s H locs) (hk : xk k = 10) {x : Int32} (hS : S' = sU S k 4 x) (hdg : decode cc pc = .ok (.putfield 256, 3)) (kk : ∀ (H1 : Heap) (locs1 : List Loc), gX D (xcell g cI cB cZ cQ) xord g S' s H1 locs1 → W p l e R s m args below meth c H1 locs1 cs sl Q (F0 m (pc + 3) ls rest)) : W p l e R s m args below meth c H locs cs sl Q (F0 m pc ls (.int x :: .ref (g k) :: rest)) := by
  subst hS
  exact g_putN C O.1 X (q := k) (k := k) (x_pos hk (by decide)) (x_c10 g cI cB cZ cQ S hk) (ci := 10) rfl x_in10 tyX10 tyX10_ok nmX10 4 (by decide) (O.2 _ _ _ C.2.2.2.2.2 _ xl_X11_256) rfl rfl rfl (Nat.le_of_ble_eq_true rfl) (fun i h => sU_ne h) (by rw [x_c10 g cI cB cZ cQ _ hk, sU_eq]; rfl) hdg kk
theorem xl_X10_27 : Cond.fieldLink RX10 27 "GrottoHours$Walk" "hour" "I" ∈ gT := gT_c2 81 rfl rfl
theorem xg_X10_27 (C : gC p s m args meth c cc nL RX10 ret D (xtys cI cB cZ cQ) xord g Am) (O : xO g cI cB cZ cQ Am) (X : gX D (xcell g cI cB cZ cQ) xord g S s H locs) (hk : xk k = 10) (hdg : decode cc pc = .ok (.getfield 27, 3)) (kk : W p l e R s m args below meth c H locs cs sl Q (F0 m (pc + 3) ls (.int (S k 5) :: rest))) : W p l e R s m args below meth c H locs cs sl Q (F0 m pc ls (.ref (g k) :: rest)) :=
  g_get C X (q := k) (k := k) (x_pos hk (by decide)) (x_c10 g cI cB cZ cQ S hk) (ci := 10) rfl x_in10 5 (by decide) xl_X10_27 rfl hdg kk
theorem xp_X10_27 (C : gC p s m args meth c cc nL RX10 ret D (xtys cI cB cZ cQ) xord g Am) (O : xO g cI cB cZ cQ Am) (X : gX D (xcell g cI cB cZ cQ) xord g S s H locs) (hk : xk k = 10) {x : Int32} (hS : S' = sU S k 5 x) (hdg : decode cc pc = .ok (.putfield 27, 3)) (kk : ∀ (H1 : Heap) (locs1 : List Loc), gX D (xcell g cI cB cZ cQ) xord g S' s H1 locs1 → W p l e R s m args below meth c H1 locs1 cs sl Q (F0 m (pc + 3) ls rest)) : W p l e R s m args below meth c H locs cs sl Q (F0 m pc ls (.int x :: .ref (g k) :: rest)) := by
  subst hS
  exact g_put C O.1 X (q := k) (k := k) (x_pos hk (by decide)) (x_c10 g cI cB cZ cQ S hk) (ci := 10) rfl x_in10 tyX10 tyX10_ok nmX10 5 (by decide) xl_X10_27 rfl rfl rfl (Nat.le_of_ble_eq_true rfl) (fun i h => sU_ne h) (by rw [x_c10 g cI cB cZ cQ _ hk, sU_eq]; rfl) hdg kk
theorem xl_X2_94 : Cond.fieldLinkNest RX2 94 "GrottoHours$Walk" "hour" "I" "GrottoHours" ∈ xNest := List.mem_of_getElem? (i := 85) rfl
theorem xg_X2_94 (C : gC p s m args meth c cc nL RX2 ret D (xtys cI cB cZ cQ) xord g Am) (O : xO g cI cB cZ cQ Am) (X : gX D (xcell g cI cB cZ cQ) xord g S s H locs) (hk : xk k = 10) (hdg : decode cc pc = .ok (.getfield 94, 3)) (kk : W p l e R s m args below meth c H locs cs sl Q (F0 m (pc + 3) ls (.int (S k 5) :: rest))) : W p l e R s m args below meth c H locs cs sl Q (F0 m pc ls (.ref (g k) :: rest)) :=
  g_getN C X (q := k) (k := k) (x_pos hk (by decide)) (x_c10 g cI cB cZ cQ S hk) (ci := 10) rfl x_in10 5 (by decide) (O.2 _ _ _ C.2.2.2.2.2 _ xl_X2_94) rfl hdg kk
theorem xp_X2_94 (C : gC p s m args meth c cc nL RX2 ret D (xtys cI cB cZ cQ) xord g Am) (O : xO g cI cB cZ cQ Am) (X : gX D (xcell g cI cB cZ cQ) xord g S s H locs) (hk : xk k = 10) {x : Int32} (hS : S' = sU S k 5 x) (hdg : decode cc pc = .ok (.putfield 94, 3)) (kk : ∀ (H1 : Heap) (locs1 : List Loc), gX D (xcell g cI cB cZ cQ) xord g S' s H1 locs1 → W p l e R s m args below meth c H1 locs1 cs sl Q (F0 m (pc + 3) ls rest)) : W p l e R s m args below meth c H locs cs sl Q (F0 m pc ls (.int x :: .ref (g k) :: rest)) := by
  subst hS
  exact g_putN C O.1 X (q := k) (k := k) (x_pos hk (by decide)) (x_c10 g cI cB cZ cQ S hk) (ci := 10) rfl x_in10 tyX10 tyX10_ok nmX10 5 (by decide) (O.2 _ _ _ C.2.2.2.2.2 _ xl_X2_94) rfl rfl rfl (Nat.le_of_ble_eq_true rfl) (fun i h => sU_ne h) (by rw [x_c10 g cI cB cZ cQ _ hk, sU_eq]; rfl) hdg kk
theorem xl_X11_261 : Cond.fieldLinkNest RX11 261 "GrottoHours$Walk" "hour" "I" "GrottoHours" ∈ xNest := List.mem_of_getElem? (i := 86) rfl
theorem xg_X11_261 (C : gC p s m args meth c cc nL RX11 ret D (xtys cI cB cZ cQ) xord g Am) (O : xO g cI cB cZ cQ Am) (X : gX D (xcell g cI cB cZ cQ) xord g S s H locs) (hk : xk k = 10) (hdg : decode cc pc = .ok (.getfield 261, 3)) (kk : W p l e R s m args below meth c H locs cs sl Q (F0 m (pc + 3) ls (.int (S k 5) :: rest))) : W p l e R s m args below meth c H locs cs sl Q (F0 m pc ls (.ref (g k) :: rest)) :=
  g_getN C X (q := k) (k := k) (x_pos hk (by decide)) (x_c10 g cI cB cZ cQ S hk) (ci := 10) rfl x_in10 5 (by decide) (O.2 _ _ _ C.2.2.2.2.2 _ xl_X11_261) rfl hdg kk
theorem xp_X11_261 (C : gC p s m args meth c cc nL RX11 ret D (xtys cI cB cZ cQ) xord g Am) (O : xO g cI cB cZ cQ Am) (X : gX D (xcell g cI cB cZ cQ) xord g S s H locs) (hk : xk k = 10) {x : Int32} (hS : S' = sU S k 5 x) (hdg : decode cc pc = .ok (.putfield 261, 3)) (kk : ∀ (H1 : Heap) (locs1 : List Loc), gX D (xcell g cI cB cZ cQ) xord g S' s H1 locs1 → W p l e R s m args below meth c H1 locs1 cs sl Q (F0 m (pc + 3) ls rest)) : W p l e R s m args below meth c H locs cs sl Q (F0 m pc ls (.int x :: .ref (g k) :: rest)) := by
  subst hS
  exact g_putN C O.1 X (q := k) (k := k) (x_pos hk (by decide)) (x_c10 g cI cB cZ cQ S hk) (ci := 10) rfl x_in10 tyX10 tyX10_ok nmX10 5 (by decide) (O.2 _ _ _ C.2.2.2.2.2 _ xl_X11_261) rfl rfl rfl (Nat.le_of_ble_eq_true rfl) (fun i h => sU_ne h) (by rw [x_c10 g cI cB cZ cQ _ hk, sU_eq]; rfl) hdg kk
theorem xl_X10_30 : Cond.fieldLink RX10 30 "GrottoHours$Walk" "wet" "I" ∈ gT := gT_c2 84 rfl rfl
theorem xg_X10_30 (C : gC p s m args meth c cc nL RX10 ret D (xtys cI cB cZ cQ) xord g Am) (O : xO g cI cB cZ cQ Am) (X : gX D (xcell g cI cB cZ cQ) xord g S s H locs) (hk : xk k = 10) (hdg : decode cc pc = .ok (.getfield 30, 3)) (kk : W p l e R s m args below meth c H locs cs sl Q (F0 m (pc + 3) ls (.int (S k 6) :: rest))) : W p l e R s m args below meth c H locs cs sl Q (F0 m pc ls (.ref (g k) :: rest)) :=
  g_get C X (q := k) (k := k) (x_pos hk (by decide)) (x_c10 g cI cB cZ cQ S hk) (ci := 10) rfl x_in10 6 (by decide) xl_X10_30 rfl hdg kk
theorem xp_X10_30 (C : gC p s m args meth c cc nL RX10 ret D (xtys cI cB cZ cQ) xord g Am) (O : xO g cI cB cZ cQ Am) (X : gX D (xcell g cI cB cZ cQ) xord g S s H locs) (hk : xk k = 10) {x : Int32} (hS : S' = sU S k 6 x) (hdg : decode cc pc = .ok (.putfield 30, 3)) (kk : ∀ (H1 : Heap) (locs1 : List Loc), gX D (xcell g cI cB cZ cQ) xord g S' s H1 locs1 → W p l e R s m args below meth c H1 locs1 cs sl Q (F0 m (pc + 3) ls rest)) : W p l e R s m args below meth c H locs cs sl Q (F0 m pc ls (.int x :: .ref (g k) :: rest)) := by
  subst hS
  exact g_put C O.1 X (q := k) (k := k) (x_pos hk (by decide)) (x_c10 g cI cB cZ cQ S hk) (ci := 10) rfl x_in10 tyX10 tyX10_ok nmX10 6 (by decide) xl_X10_30 rfl rfl rfl (Nat.le_of_ble_eq_true rfl) (fun i h => sU_ne h) (by rw [x_c10 g cI cB cZ cQ _ hk, sU_eq]; rfl) hdg kk
theorem xl_X10_33 : Cond.fieldLink RX10 33 "GrottoHours$Walk" "drained" "I" ∈ gT := gT_c2 85 rfl rfl
theorem xg_X10_33 (C : gC p s m args meth c cc nL RX10 ret D (xtys cI cB cZ cQ) xord g Am) (O : xO g cI cB cZ cQ Am) (X : gX D (xcell g cI cB cZ cQ) xord g S s H locs) (hk : xk k = 10) (hdg : decode cc pc = .ok (.getfield 33, 3)) (kk : W p l e R s m args below meth c H locs cs sl Q (F0 m (pc + 3) ls (.int (S k 7) :: rest))) : W p l e R s m args below meth c H locs cs sl Q (F0 m pc ls (.ref (g k) :: rest)) :=
  g_get C X (q := k) (k := k) (x_pos hk (by decide)) (x_c10 g cI cB cZ cQ S hk) (ci := 10) rfl x_in10 7 (by decide) xl_X10_33 rfl hdg kk
theorem xp_X10_33 (C : gC p s m args meth c cc nL RX10 ret D (xtys cI cB cZ cQ) xord g Am) (O : xO g cI cB cZ cQ Am) (X : gX D (xcell g cI cB cZ cQ) xord g S s H locs) (hk : xk k = 10) {x : Int32} (hS : S' = sU S k 7 x) (hdg : decode cc pc = .ok (.putfield 33, 3)) (kk : ∀ (H1 : Heap) (locs1 : List Loc), gX D (xcell g cI cB cZ cQ) xord g S' s H1 locs1 → W p l e R s m args below meth c H1 locs1 cs sl Q (F0 m (pc + 3) ls rest)) : W p l e R s m args below meth c H locs cs sl Q (F0 m pc ls (.int x :: .ref (g k) :: rest)) := by
  subst hS
  exact g_put C O.1 X (q := k) (k := k) (x_pos hk (by decide)) (x_c10 g cI cB cZ cQ S hk) (ci := 10) rfl x_in10 tyX10 tyX10_ok nmX10 7 (by decide) xl_X10_33 rfl rfl rfl (Nat.le_of_ble_eq_true rfl) (fun i h => sU_ne h) (by rw [x_c10 g cI cB cZ cQ _ hk, sU_eq]; rfl) hdg kk
theorem xl_X6_13 : Cond.fieldLink RX6 13 "GrottoHours$Sharing" "best" "[[I" ∈ gT := gT_c2 111 rfl rfl
theorem xg_X6_13 (C : gC p s m args meth c cc nL RX6 ret D (xtys cI cB cZ cQ) xord g Am) (O : xO g cI cB cZ cQ Am) (X : gX D (xcell g cI cB cZ cQ) xord g S s H locs) (hk : xk k = 6) {j : Nat} (hj : k + 1 = j) (hdg : decode cc pc = .ok (.getfield 13, 3)) (kk : W p l e R s m args below meth c H locs cs sl Q (F0 m (pc + 3) ls (.ref (g j) :: rest))) : W p l e R s m args below meth c H locs cs sl Q (F0 m pc ls (.ref (g k) :: rest)) := by
  subst hj
  exact g_get C X (q := k) (k := k) (x_pos hk (by decide)) (x_c6 g cI cB cZ cQ S hk) (ci := 6) rfl x_in6 0 (by decide) xl_X6_13 rfl hdg kk
theorem xl_X6_16 : Cond.fieldLink RX6 16 "GrottoHours$Sharing" "row" "[I" ∈ gT := gT_c2 112 rfl rfl
theorem xg_X6_16 (C : gC p s m args meth c cc nL RX6 ret D (xtys cI cB cZ cQ) xord g Am) (O : xO g cI cB cZ cQ Am) (X : gX D (xcell g cI cB cZ cQ) xord g S s H locs) (hk : xk k = 6) {j : Nat} (hj : k + 9 = j) (hdg : decode cc pc = .ok (.getfield 16, 3)) (kk : W p l e R s m args below meth c H locs cs sl Q (F0 m (pc + 3) ls (.ref (g j) :: rest))) : W p l e R s m args below meth c H locs cs sl Q (F0 m pc ls (.ref (g k) :: rest)) := by
  subst hj
  exact g_get C X (q := k) (k := k) (x_pos hk (by decide)) (x_c6 g cI cB cZ cQ S hk) (ci := 6) rfl x_in6 1 (by decide) xl_X6_16 rfl hdg kk
theorem xl_X11_301 : Cond.fieldLinkNest RX11 301 "GrottoHours$Sharing" "row" "[I" "GrottoHours" ∈ xNest := List.mem_of_getElem? (i := 88) rfl
theorem xg_X11_301 (C : gC p s m args meth c cc nL RX11 ret D (xtys cI cB cZ cQ) xord g Am) (O : xO g cI cB cZ cQ Am) (X : gX D (xcell g cI cB cZ cQ) xord g S s H locs) (hk : xk k = 6) {j : Nat} (hj : k + 9 = j) (hdg : decode cc pc = .ok (.getfield 301, 3)) (kk : W p l e R s m args below meth c H locs cs sl Q (F0 m (pc + 3) ls (.ref (g j) :: rest))) : W p l e R s m args below meth c H locs cs sl Q (F0 m pc ls (.ref (g k) :: rest)) := by
  subst hj
  exact g_getN C X (q := k) (k := k) (x_pos hk (by decide)) (x_c6 g cI cB cZ cQ S hk) (ci := 6) rfl x_in6 1 (by decide) (O.2 _ _ _ C.2.2.2.2.2 _ xl_X11_301) rfl hdg kk
theorem xl_X6_20 : Cond.fieldLink RX6 20 "GrottoHours$Sharing" "many" "I" ∈ gT := gT_c2 114 rfl rfl
theorem xg_X6_20 (C : gC p s m args meth c cc nL RX6 ret D (xtys cI cB cZ cQ) xord g Am) (O : xO g cI cB cZ cQ Am) (X : gX D (xcell g cI cB cZ cQ) xord g S s H locs) (hk : xk k = 6) (hdg : decode cc pc = .ok (.getfield 20, 3)) (kk : W p l e R s m args below meth c H locs cs sl Q (F0 m (pc + 3) ls (.int (S k 2) :: rest))) : W p l e R s m args below meth c H locs cs sl Q (F0 m pc ls (.ref (g k) :: rest)) :=
  g_get C X (q := k) (k := k) (x_pos hk (by decide)) (x_c6 g cI cB cZ cQ S hk) (ci := 6) rfl x_in6 2 (by decide) xl_X6_20 rfl hdg kk
theorem xp_X6_20 (C : gC p s m args meth c cc nL RX6 ret D (xtys cI cB cZ cQ) xord g Am) (O : xO g cI cB cZ cQ Am) (X : gX D (xcell g cI cB cZ cQ) xord g S s H locs) (hk : xk k = 6) {x : Int32} (hS : S' = sU S k 2 x) (hdg : decode cc pc = .ok (.putfield 20, 3)) (kk : ∀ (H1 : Heap) (locs1 : List Loc), gX D (xcell g cI cB cZ cQ) xord g S' s H1 locs1 → W p l e R s m args below meth c H1 locs1 cs sl Q (F0 m (pc + 3) ls rest)) : W p l e R s m args below meth c H locs cs sl Q (F0 m pc ls (.int x :: .ref (g k) :: rest)) := by
  subst hS
  exact g_put C O.1 X (q := k) (k := k) (x_pos hk (by decide)) (x_c6 g cI cB cZ cQ S hk) (ci := 6) rfl x_in6 tyX6 tyX6_ok nmX6 2 (by decide) xl_X6_20 rfl rfl rfl (Nat.le_of_ble_eq_true rfl) (fun i h => sU_ne h) (by rw [x_c6 g cI cB cZ cQ _ hk, sU_eq]; rfl) hdg kk
theorem xl_X11_297 : Cond.fieldLinkNest RX11 297 "GrottoHours$Sharing" "many" "I" "GrottoHours" ∈ xNest := List.mem_of_getElem? (i := 89) rfl
theorem xg_X11_297 (C : gC p s m args meth c cc nL RX11 ret D (xtys cI cB cZ cQ) xord g Am) (O : xO g cI cB cZ cQ Am) (X : gX D (xcell g cI cB cZ cQ) xord g S s H locs) (hk : xk k = 6) (hdg : decode cc pc = .ok (.getfield 297, 3)) (kk : W p l e R s m args below meth c H locs cs sl Q (F0 m (pc + 3) ls (.int (S k 2) :: rest))) : W p l e R s m args below meth c H locs cs sl Q (F0 m pc ls (.ref (g k) :: rest)) :=
  g_getN C X (q := k) (k := k) (x_pos hk (by decide)) (x_c6 g cI cB cZ cQ S hk) (ci := 6) rfl x_in6 2 (by decide) (O.2 _ _ _ C.2.2.2.2.2 _ xl_X11_297) rfl hdg kk
theorem xp_X11_297 (C : gC p s m args meth c cc nL RX11 ret D (xtys cI cB cZ cQ) xord g Am) (O : xO g cI cB cZ cQ Am) (X : gX D (xcell g cI cB cZ cQ) xord g S s H locs) (hk : xk k = 6) {x : Int32} (hS : S' = sU S k 2 x) (hdg : decode cc pc = .ok (.putfield 297, 3)) (kk : ∀ (H1 : Heap) (locs1 : List Loc), gX D (xcell g cI cB cZ cQ) xord g S' s H1 locs1 → W p l e R s m args below meth c H1 locs1 cs sl Q (F0 m (pc + 3) ls rest)) : W p l e R s m args below meth c H locs cs sl Q (F0 m pc ls (.int x :: .ref (g k) :: rest)) := by
  subst hS
  exact g_putN C O.1 X (q := k) (k := k) (x_pos hk (by decide)) (x_c6 g cI cB cZ cQ S hk) (ci := 6) rfl x_in6 tyX6 tyX6_ok nmX6 2 (by decide) (O.2 _ _ _ C.2.2.2.2.2 _ xl_X11_297) rfl rfl rfl (Nat.le_of_ble_eq_true rfl) (fun i h => sU_ne h) (by rw [x_c6 g cI cB cZ cQ _ hk, sU_eq]; rfl) hdg kk
theorem xl_X6_24 : Cond.fieldLink RX6 24 "GrottoHours$Sharing" "much" "I" ∈ gT := gT_c2 116 rfl rfl
theorem xg_X6_24 (C : gC p s m args meth c cc nL RX6 ret D (xtys cI cB cZ cQ) xord g Am) (O : xO g cI cB cZ cQ Am) (X : gX D (xcell g cI cB cZ cQ) xord g S s H locs) (hk : xk k = 6) (hdg : decode cc pc = .ok (.getfield 24, 3)) (kk : W p l e R s m args below meth c H locs cs sl Q (F0 m (pc + 3) ls (.int (S k 3) :: rest))) : W p l e R s m args below meth c H locs cs sl Q (F0 m pc ls (.ref (g k) :: rest)) :=
  g_get C X (q := k) (k := k) (x_pos hk (by decide)) (x_c6 g cI cB cZ cQ S hk) (ci := 6) rfl x_in6 3 (by decide) xl_X6_24 rfl hdg kk
theorem xp_X6_24 (C : gC p s m args meth c cc nL RX6 ret D (xtys cI cB cZ cQ) xord g Am) (O : xO g cI cB cZ cQ Am) (X : gX D (xcell g cI cB cZ cQ) xord g S s H locs) (hk : xk k = 6) {x : Int32} (hS : S' = sU S k 3 x) (hdg : decode cc pc = .ok (.putfield 24, 3)) (kk : ∀ (H1 : Heap) (locs1 : List Loc), gX D (xcell g cI cB cZ cQ) xord g S' s H1 locs1 → W p l e R s m args below meth c H1 locs1 cs sl Q (F0 m (pc + 3) ls rest)) : W p l e R s m args below meth c H locs cs sl Q (F0 m pc ls (.int x :: .ref (g k) :: rest)) := by
  subst hS
  exact g_put C O.1 X (q := k) (k := k) (x_pos hk (by decide)) (x_c6 g cI cB cZ cQ S hk) (ci := 6) rfl x_in6 tyX6 tyX6_ok nmX6 3 (by decide) xl_X6_24 rfl rfl rfl (Nat.le_of_ble_eq_true rfl) (fun i h => sU_ne h) (by rw [x_c6 g cI cB cZ cQ _ hk, sU_eq]; rfl) hdg kk
theorem xl_X11_298 : Cond.fieldLinkNest RX11 298 "GrottoHours$Sharing" "much" "I" "GrottoHours" ∈ xNest := List.mem_of_getElem? (i := 90) rfl
theorem xg_X11_298 (C : gC p s m args meth c cc nL RX11 ret D (xtys cI cB cZ cQ) xord g Am) (O : xO g cI cB cZ cQ Am) (X : gX D (xcell g cI cB cZ cQ) xord g S s H locs) (hk : xk k = 6) (hdg : decode cc pc = .ok (.getfield 298, 3)) (kk : W p l e R s m args below meth c H locs cs sl Q (F0 m (pc + 3) ls (.int (S k 3) :: rest))) : W p l e R s m args below meth c H locs cs sl Q (F0 m pc ls (.ref (g k) :: rest)) :=
  g_getN C X (q := k) (k := k) (x_pos hk (by decide)) (x_c6 g cI cB cZ cQ S hk) (ci := 6) rfl x_in6 3 (by decide) (O.2 _ _ _ C.2.2.2.2.2 _ xl_X11_298) rfl hdg kk
theorem xp_X11_298 (C : gC p s m args meth c cc nL RX11 ret D (xtys cI cB cZ cQ) xord g Am) (O : xO g cI cB cZ cQ Am) (X : gX D (xcell g cI cB cZ cQ) xord g S s H locs) (hk : xk k = 6) {x : Int32} (hS : S' = sU S k 3 x) (hdg : decode cc pc = .ok (.putfield 298, 3)) (kk : ∀ (H1 : Heap) (locs1 : List Loc), gX D (xcell g cI cB cZ cQ) xord g S' s H1 locs1 → W p l e R s m args below meth c H1 locs1 cs sl Q (F0 m (pc + 3) ls rest)) : W p l e R s m args below meth c H locs cs sl Q (F0 m pc ls (.int x :: .ref (g k) :: rest)) := by
  subst hS
  exact g_putN C O.1 X (q := k) (k := k) (x_pos hk (by decide)) (x_c6 g cI cB cZ cQ S hk) (ci := 6) rfl x_in6 tyX6 tyX6_ok nmX6 3 (by decide) (O.2 _ _ _ C.2.2.2.2.2 _ xl_X11_298) rfl rfl rfl (Nat.le_of_ble_eq_true rfl) (fun i h => sU_ne h) (by rw [x_c6 g cI cB cZ cQ _ hk, sU_eq]; rfl) hdg kk
theorem xl_X2_11 : Cond.fieldLink RX2 11 "GrottoHours$Guess" "sins" "[[I" ∈ gT := gT_c2 134 rfl rfl
theorem xg_X2_11 (C : gC p s m args meth c cc nL RX2 ret D (xtys cI cB cZ cQ) xord g Am) (O : xO g cI cB cZ cQ Am) (X : gX D (xcell g cI cB cZ cQ) xord g S s H locs) (hk : xk k = 2) {j : Nat} (hj : k + 1 = j) (hdg : decode cc pc = .ok (.getfield 11, 3)) (kk : W p l e R s m args below meth c H locs cs sl Q (F0 m (pc + 3) ls (.ref (g j) :: rest))) : W p l e R s m args below meth c H locs cs sl Q (F0 m pc ls (.ref (g k) :: rest)) := by
  subst hj
  exact g_get C X (q := k) (k := k) (x_pos hk (by decide)) (x_c2 g cI cB cZ cQ S hk) (ci := 2) rfl x_in2 0 (by decide) xl_X2_11 rfl hdg kk
theorem xl_X2_16 : Cond.fieldLink RX2 16 "GrottoHours$Guess" "course" "[I" ∈ gT := gT_c2 135 rfl rfl
theorem xg_X2_16 (C : gC p s m args meth c cc nL RX2 ret D (xtys cI cB cZ cQ) xord g Am) (O : xO g cI cB cZ cQ Am) (X : gX D (xcell g cI cB cZ cQ) xord g S s H locs) (hk : xk k = 2) {j : Nat} (hj : k + 8 = j) (hdg : decode cc pc = .ok (.getfield 16, 3)) (kk : W p l e R s m args below meth c H locs cs sl Q (F0 m (pc + 3) ls (.ref (g j) :: rest))) : W p l e R s m args below meth c H locs cs sl Q (F0 m pc ls (.ref (g k) :: rest)) := by
  subst hj
  exact g_get C X (q := k) (k := k) (x_pos hk (by decide)) (x_c2 g cI cB cZ cQ S hk) (ci := 2) rfl x_in2 1 (by decide) xl_X2_16 rfl hdg kk
theorem xl_X2_20 : Cond.fieldLink RX2 20 "GrottoHours$Guess" "worstBits" "[I" ∈ gT := gT_c2 136 rfl rfl
theorem xg_X2_20 (C : gC p s m args meth c cc nL RX2 ret D (xtys cI cB cZ cQ) xord g Am) (O : xO g cI cB cZ cQ Am) (X : gX D (xcell g cI cB cZ cQ) xord g S s H locs) (hk : xk k = 2) {j : Nat} (hj : k + 9 = j) (hdg : decode cc pc = .ok (.getfield 20, 3)) (kk : W p l e R s m args below meth c H locs cs sl Q (F0 m (pc + 3) ls (.ref (g j) :: rest))) : W p l e R s m args below meth c H locs cs sl Q (F0 m pc ls (.ref (g k) :: rest)) := by
  subst hj
  exact g_get C X (q := k) (k := k) (x_pos hk (by decide)) (x_c2 g cI cB cZ cQ S hk) (ci := 2) rfl x_in2 2 (by decide) xl_X2_20 rfl hdg kk
theorem xl_X2_23 : Cond.fieldLink RX2 23 "GrottoHours$Guess" "many" "I" ∈ gT := gT_c2 137 rfl rfl
theorem xg_X2_23 (C : gC p s m args meth c cc nL RX2 ret D (xtys cI cB cZ cQ) xord g Am) (O : xO g cI cB cZ cQ Am) (X : gX D (xcell g cI cB cZ cQ) xord g S s H locs) (hk : xk k = 2) (hdg : decode cc pc = .ok (.getfield 23, 3)) (kk : W p l e R s m args below meth c H locs cs sl Q (F0 m (pc + 3) ls (.int (S k 3) :: rest))) : W p l e R s m args below meth c H locs cs sl Q (F0 m pc ls (.ref (g k) :: rest)) :=
  g_get C X (q := k) (k := k) (x_pos hk (by decide)) (x_c2 g cI cB cZ cQ S hk) (ci := 2) rfl x_in2 3 (by decide) xl_X2_23 rfl hdg kk
theorem xp_X2_23 (C : gC p s m args meth c cc nL RX2 ret D (xtys cI cB cZ cQ) xord g Am) (O : xO g cI cB cZ cQ Am) (X : gX D (xcell g cI cB cZ cQ) xord g S s H locs) (hk : xk k = 2) {x : Int32} (hS : S' = sU S k 3 x) (hdg : decode cc pc = .ok (.putfield 23, 3)) (kk : ∀ (H1 : Heap) (locs1 : List Loc), gX D (xcell g cI cB cZ cQ) xord g S' s H1 locs1 → W p l e R s m args below meth c H1 locs1 cs sl Q (F0 m (pc + 3) ls rest)) : W p l e R s m args below meth c H locs cs sl Q (F0 m pc ls (.int x :: .ref (g k) :: rest)) := by
  subst hS
  exact g_put C O.1 X (q := k) (k := k) (x_pos hk (by decide)) (x_c2 g cI cB cZ cQ S hk) (ci := 2) rfl x_in2 tyX2 tyX2_ok nmX2 3 (by decide) xl_X2_23 rfl rfl rfl (Nat.le_of_ble_eq_true rfl) (fun i h => sU_ne h) (by rw [x_c2 g cI cB cZ cQ _ hk, sU_eq]; rfl) hdg kk
theorem xl_X11_331 : Cond.fieldLinkNest RX11 331 "GrottoHours$Guess" "many" "I" "GrottoHours" ∈ xNest := List.mem_of_getElem? (i := 92) rfl
theorem xg_X11_331 (C : gC p s m args meth c cc nL RX11 ret D (xtys cI cB cZ cQ) xord g Am) (O : xO g cI cB cZ cQ Am) (X : gX D (xcell g cI cB cZ cQ) xord g S s H locs) (hk : xk k = 2) (hdg : decode cc pc = .ok (.getfield 331, 3)) (kk : W p l e R s m args below meth c H locs cs sl Q (F0 m (pc + 3) ls (.int (S k 3) :: rest))) : W p l e R s m args below meth c H locs cs sl Q (F0 m pc ls (.ref (g k) :: rest)) :=
  g_getN C X (q := k) (k := k) (x_pos hk (by decide)) (x_c2 g cI cB cZ cQ S hk) (ci := 2) rfl x_in2 3 (by decide) (O.2 _ _ _ C.2.2.2.2.2 _ xl_X11_331) rfl hdg kk
theorem xp_X11_331 (C : gC p s m args meth c cc nL RX11 ret D (xtys cI cB cZ cQ) xord g Am) (O : xO g cI cB cZ cQ Am) (X : gX D (xcell g cI cB cZ cQ) xord g S s H locs) (hk : xk k = 2) {x : Int32} (hS : S' = sU S k 3 x) (hdg : decode cc pc = .ok (.putfield 331, 3)) (kk : ∀ (H1 : Heap) (locs1 : List Loc), gX D (xcell g cI cB cZ cQ) xord g S' s H1 locs1 → W p l e R s m args below meth c H1 locs1 cs sl Q (F0 m (pc + 3) ls rest)) : W p l e R s m args below meth c H locs cs sl Q (F0 m pc ls (.int x :: .ref (g k) :: rest)) := by
  subst hS
  exact g_putN C O.1 X (q := k) (k := k) (x_pos hk (by decide)) (x_c2 g cI cB cZ cQ S hk) (ci := 2) rfl x_in2 tyX2 tyX2_ok nmX2 3 (by decide) (O.2 _ _ _ C.2.2.2.2.2 _ xl_X11_331) rfl rfl rfl (Nat.le_of_ble_eq_true rfl) (fun i h => sU_ne h) (by rw [x_c2 g cI cB cZ cQ _ hk, sU_eq]; rfl) hdg kk
theorem xl_X2_27 : Cond.fieldLink RX2 27 "GrottoHours$Guess" "earliest" "I" ∈ gT := gT_c2 139 rfl rfl
theorem xg_X2_27 (C : gC p s m args meth c cc nL RX2 ret D (xtys cI cB cZ cQ) xord g Am) (O : xO g cI cB cZ cQ Am) (X : gX D (xcell g cI cB cZ cQ) xord g S s H locs) (hk : xk k = 2) (hdg : decode cc pc = .ok (.getfield 27, 3)) (kk : W p l e R s m args below meth c H locs cs sl Q (F0 m (pc + 3) ls (.int (S k 4) :: rest))) : W p l e R s m args below meth c H locs cs sl Q (F0 m pc ls (.ref (g k) :: rest)) :=
  g_get C X (q := k) (k := k) (x_pos hk (by decide)) (x_c2 g cI cB cZ cQ S hk) (ci := 2) rfl x_in2 4 (by decide) xl_X2_27 rfl hdg kk
theorem xp_X2_27 (C : gC p s m args meth c cc nL RX2 ret D (xtys cI cB cZ cQ) xord g Am) (O : xO g cI cB cZ cQ Am) (X : gX D (xcell g cI cB cZ cQ) xord g S s H locs) (hk : xk k = 2) {x : Int32} (hS : S' = sU S k 4 x) (hdg : decode cc pc = .ok (.putfield 27, 3)) (kk : ∀ (H1 : Heap) (locs1 : List Loc), gX D (xcell g cI cB cZ cQ) xord g S' s H1 locs1 → W p l e R s m args below meth c H1 locs1 cs sl Q (F0 m (pc + 3) ls rest)) : W p l e R s m args below meth c H locs cs sl Q (F0 m pc ls (.int x :: .ref (g k) :: rest)) := by
  subst hS
  exact g_put C O.1 X (q := k) (k := k) (x_pos hk (by decide)) (x_c2 g cI cB cZ cQ S hk) (ci := 2) rfl x_in2 tyX2 tyX2_ok nmX2 4 (by decide) xl_X2_27 rfl rfl rfl (Nat.le_of_ble_eq_true rfl) (fun i h => sU_ne h) (by rw [x_c2 g cI cB cZ cQ _ hk, sU_eq]; rfl) hdg kk
theorem xl_X11_332 : Cond.fieldLinkNest RX11 332 "GrottoHours$Guess" "earliest" "I" "GrottoHours" ∈ xNest := List.mem_of_getElem? (i := 93) rfl
theorem xg_X11_332 (C : gC p s m args meth c cc nL RX11 ret D (xtys cI cB cZ cQ) xord g Am) (O : xO g cI cB cZ cQ Am) (X : gX D (xcell g cI cB cZ cQ) xord g S s H locs) (hk : xk k = 2) (hdg : decode cc pc = .ok (.getfield 332, 3)) (kk : W p l e R s m args below meth c H locs cs sl Q (F0 m (pc + 3) ls (.int (S k 4) :: rest))) : W p l e R s m args below meth c H locs cs sl Q (F0 m pc ls (.ref (g k) :: rest)) :=
  g_getN C X (q := k) (k := k) (x_pos hk (by decide)) (x_c2 g cI cB cZ cQ S hk) (ci := 2) rfl x_in2 4 (by decide) (O.2 _ _ _ C.2.2.2.2.2 _ xl_X11_332) rfl hdg kk
theorem xp_X11_332 (C : gC p s m args meth c cc nL RX11 ret D (xtys cI cB cZ cQ) xord g Am) (O : xO g cI cB cZ cQ Am) (X : gX D (xcell g cI cB cZ cQ) xord g S s H locs) (hk : xk k = 2) {x : Int32} (hS : S' = sU S k 4 x) (hdg : decode cc pc = .ok (.putfield 332, 3)) (kk : ∀ (H1 : Heap) (locs1 : List Loc), gX D (xcell g cI cB cZ cQ) xord g S' s H1 locs1 → W p l e R s m args below meth c H1 locs1 cs sl Q (F0 m (pc + 3) ls rest)) : W p l e R s m args below meth c H locs cs sl Q (F0 m pc ls (.int x :: .ref (g k) :: rest)) := by
  subst hS
  exact g_putN C O.1 X (q := k) (k := k) (x_pos hk (by decide)) (x_c2 g cI cB cZ cQ S hk) (ci := 2) rfl x_in2 tyX2 tyX2_ok nmX2 4 (by decide) (O.2 _ _ _ C.2.2.2.2.2 _ xl_X11_332) rfl rfl rfl (Nat.le_of_ble_eq_true rfl) (fun i h => sU_ne h) (by rw [x_c2 g cI cB cZ cQ _ hk, sU_eq]; rfl) hdg kk
theorem xl_X2_30 : Cond.fieldLink RX2 30 "GrottoHours$Guess" "isSoWithout" "Z" ∈ gT := gT_c2 141 rfl rfl
theorem xg_X2_30 (C : gC p s m args meth c cc nL RX2 ret D (xtys cI cB cZ cQ) xord g Am) (O : xO g cI cB cZ cQ Am) (X : gX D (xcell g cI cB cZ cQ) xord g S s H locs) (hk : xk k = 2) (hdg : decode cc pc = .ok (.getfield 30, 3)) (kk : W p l e R s m args below meth c H locs cs sl Q (F0 m (pc + 3) ls (.int (S k 5) :: rest))) : W p l e R s m args below meth c H locs cs sl Q (F0 m pc ls (.ref (g k) :: rest)) :=
  g_get C X (q := k) (k := k) (x_pos hk (by decide)) (x_c2 g cI cB cZ cQ S hk) (ci := 2) rfl x_in2 5 (by decide) xl_X2_30 rfl hdg kk
theorem xp_X2_30 (C : gC p s m args meth c cc nL RX2 ret D (xtys cI cB cZ cQ) xord g Am) (O : xO g cI cB cZ cQ Am) (X : gX D (xcell g cI cB cZ cQ) xord g S s H locs) (hk : xk k = 2) {x : Int32} (hz : zb x = true) (hS : S' = sU S k 5 x) (hdg : decode cc pc = .ok (.putfield 30, 3)) (kk : ∀ (H1 : Heap) (locs1 : List Loc), gX D (xcell g cI cB cZ cQ) xord g S' s H1 locs1 → W p l e R s m args below meth c H1 locs1 cs sl Q (F0 m (pc + 3) ls rest)) : W p l e R s m args below meth c H locs cs sl Q (F0 m pc ls (.int x :: .ref (g k) :: rest)) := by
  subst hS
  exact g_put C O.1 X (q := k) (k := k) (x_pos hk (by decide)) (x_c2 g cI cB cZ cQ S hk) (ci := 2) rfl x_in2 tyX2 tyX2_ok nmX2 5 (by decide) xl_X2_30 rfl (zb_narrow hz) (zb_fits hz) (Nat.le_of_ble_eq_true rfl) (fun i h => sU_ne h) (by rw [x_c2 g cI cB cZ cQ _ hk, sU_eq]; rfl) hdg kk
theorem xl_X11_335 : Cond.fieldLinkNest RX11 335 "GrottoHours$Guess" "isSoWithout" "Z" "GrottoHours" ∈ xNest := List.mem_of_getElem? (i := 94) rfl
theorem xg_X11_335 (C : gC p s m args meth c cc nL RX11 ret D (xtys cI cB cZ cQ) xord g Am) (O : xO g cI cB cZ cQ Am) (X : gX D (xcell g cI cB cZ cQ) xord g S s H locs) (hk : xk k = 2) (hdg : decode cc pc = .ok (.getfield 335, 3)) (kk : W p l e R s m args below meth c H locs cs sl Q (F0 m (pc + 3) ls (.int (S k 5) :: rest))) : W p l e R s m args below meth c H locs cs sl Q (F0 m pc ls (.ref (g k) :: rest)) :=
  g_getN C X (q := k) (k := k) (x_pos hk (by decide)) (x_c2 g cI cB cZ cQ S hk) (ci := 2) rfl x_in2 5 (by decide) (O.2 _ _ _ C.2.2.2.2.2 _ xl_X11_335) rfl hdg kk
theorem xp_X11_335 (C : gC p s m args meth c cc nL RX11 ret D (xtys cI cB cZ cQ) xord g Am) (O : xO g cI cB cZ cQ Am) (X : gX D (xcell g cI cB cZ cQ) xord g S s H locs) (hk : xk k = 2) {x : Int32} (hz : zb x = true) (hS : S' = sU S k 5 x) (hdg : decode cc pc = .ok (.putfield 335, 3)) (kk : ∀ (H1 : Heap) (locs1 : List Loc), gX D (xcell g cI cB cZ cQ) xord g S' s H1 locs1 → W p l e R s m args below meth c H1 locs1 cs sl Q (F0 m (pc + 3) ls rest)) : W p l e R s m args below meth c H locs cs sl Q (F0 m pc ls (.int x :: .ref (g k) :: rest)) := by
  subst hS
  exact g_putN C O.1 X (q := k) (k := k) (x_pos hk (by decide)) (x_c2 g cI cB cZ cQ S hk) (ci := 2) rfl x_in2 tyX2 tyX2_ok nmX2 5 (by decide) (O.2 _ _ _ C.2.2.2.2.2 _ xl_X11_335) rfl (zb_narrow hz) (zb_fits hz) (Nat.le_of_ble_eq_true rfl) (fun i h => sU_ne h) (by rw [x_c2 g cI cB cZ cQ _ hk, sU_eq]; rfl) hdg kk
theorem xl_X11_12 : Cond.fieldLink RX11 12 "GrottoHours" "reader" "LGrottoHours$Reader;" ∈ gT := gT_c2 158 rfl rfl
theorem xg_X11_12 (C : gC p s m args meth c cc nL RX11 ret D (xtys cI cB cZ cQ) xord g Am) (O : xO g cI cB cZ cQ Am) (X : gX D (xcell g cI cB cZ cQ) xord g S s H locs) (hk : xk k = 11) {j : Nat} (hj : k + 1 = j) (hdg : decode cc pc = .ok (.getfield 12, 3)) (kk : W p l e R s m args below meth c H locs cs sl Q (F0 m (pc + 3) ls (.ref (g j) :: rest))) : W p l e R s m args below meth c H locs cs sl Q (F0 m pc ls (.ref (g k) :: rest)) := by
  subst hj
  exact g_get C X (q := k) (k := k) (x_pos hk (by decide)) (x_c11 g cI cB cZ cQ S hk) (ci := 11) rfl x_in11 0 (by decide) xl_X11_12 rfl hdg kk
theorem xl_X11_19 : Cond.fieldLink RX11 19 "GrottoHours" "book" "LGrottoHours$Book;" ∈ gT := gT_c2 159 rfl rfl
theorem xg_X11_19 (C : gC p s m args meth c cc nL RX11 ret D (xtys cI cB cZ cQ) xord g Am) (O : xO g cI cB cZ cQ Am) (X : gX D (xcell g cI cB cZ cQ) xord g S s H locs) (hk : xk k = 11) {j : Nat} (hj : k + 20 = j) (hdg : decode cc pc = .ok (.getfield 19, 3)) (kk : W p l e R s m args below meth c H locs cs sl Q (F0 m (pc + 3) ls (.ref (g j) :: rest))) : W p l e R s m args below meth c H locs cs sl Q (F0 m pc ls (.ref (g k) :: rest)) := by
  subst hj
  exact g_get C X (q := k) (k := k) (x_pos hk (by decide)) (x_c11 g cI cB cZ cQ S hk) (ci := 11) rfl x_in11 1 (by decide) xl_X11_19 rfl hdg kk
theorem xl_X11_23 : Cond.fieldLink RX11 23 "GrottoHours" "kept" "LGrottoHours$Book;" ∈ gT := gT_c2 160 rfl rfl
theorem xg_X11_23 (C : gC p s m args meth c cc nL RX11 ret D (xtys cI cB cZ cQ) xord g Am) (O : xO g cI cB cZ cQ Am) (X : gX D (xcell g cI cB cZ cQ) xord g S s H locs) (hk : xk k = 11) {j : Nat} (hj : k + 33 = j) (hdg : decode cc pc = .ok (.getfield 23, 3)) (kk : W p l e R s m args below meth c H locs cs sl Q (F0 m (pc + 3) ls (.ref (g j) :: rest))) : W p l e R s m args below meth c H locs cs sl Q (F0 m pc ls (.ref (g k) :: rest)) := by
  subst hj
  exact g_get C X (q := k) (k := k) (x_pos hk (by decide)) (x_c11 g cI cB cZ cQ S hk) (ci := 11) rfl x_in11 2 (by decide) xl_X11_23 rfl hdg kk
theorem xl_X11_29 : Cond.fieldLink RX11 29 "GrottoHours" "draft" "LGrottoHours$State;" ∈ gT := gT_c2 161 rfl rfl
theorem xg_X11_29 (C : gC p s m args meth c cc nL RX11 ret D (xtys cI cB cZ cQ) xord g Am) (O : xO g cI cB cZ cQ Am) (X : gX D (xcell g cI cB cZ cQ) xord g S s H locs) (hk : xk k = 11) {j : Nat} (hj : k + 46 = j) (hdg : decode cc pc = .ok (.getfield 29, 3)) (kk : W p l e R s m args below meth c H locs cs sl Q (F0 m (pc + 3) ls (.ref (g j) :: rest))) : W p l e R s m args below meth c H locs cs sl Q (F0 m pc ls (.ref (g k) :: rest)) := by
  subst hj
  exact g_get C X (q := k) (k := k) (x_pos hk (by decide)) (x_c11 g cI cB cZ cQ S hk) (ci := 11) rfl x_in11 3 (by decide) xl_X11_29 rfl hdg kk
theorem xl_X11_36 : Cond.fieldLink RX11 36 "GrottoHours" "walk" "LGrottoHours$Walk;" ∈ gT := gT_c2 162 rfl rfl
theorem xg_X11_36 (C : gC p s m args meth c cc nL RX11 ret D (xtys cI cB cZ cQ) xord g Am) (O : xO g cI cB cZ cQ Am) (X : gX D (xcell g cI cB cZ cQ) xord g S s H locs) (hk : xk k = 11) {j : Nat} (hj : k + 51 = j) (hdg : decode cc pc = .ok (.getfield 36, 3)) (kk : W p l e R s m args below meth c H locs cs sl Q (F0 m (pc + 3) ls (.ref (g j) :: rest))) : W p l e R s m args below meth c H locs cs sl Q (F0 m pc ls (.ref (g k) :: rest)) := by
  subst hj
  exact g_get C X (q := k) (k := k) (x_pos hk (by decide)) (x_c11 g cI cB cZ cQ S hk) (ci := 11) rfl x_in11 4 (by decide) xl_X11_36 rfl hdg kk
theorem xl_X11_43 : Cond.fieldLink RX11 43 "GrottoHours" "sharing" "LGrottoHours$Sharing;" ∈ gT := gT_c2 163 rfl rfl
theorem xg_X11_43 (C : gC p s m args meth c cc nL RX11 ret D (xtys cI cB cZ cQ) xord g Am) (O : xO g cI cB cZ cQ Am) (X : gX D (xcell g cI cB cZ cQ) xord g S s H locs) (hk : xk k = 11) {j : Nat} (hj : k + 52 = j) (hdg : decode cc pc = .ok (.getfield 43, 3)) (kk : W p l e R s m args below meth c H locs cs sl Q (F0 m (pc + 3) ls (.ref (g j) :: rest))) : W p l e R s m args below meth c H locs cs sl Q (F0 m pc ls (.ref (g k) :: rest)) := by
  subst hj
  exact g_get C X (q := k) (k := k) (x_pos hk (by decide)) (x_c11 g cI cB cZ cQ S hk) (ci := 11) rfl x_in11 5 (by decide) xl_X11_43 rfl hdg kk
theorem xl_X11_50 : Cond.fieldLink RX11 50 "GrottoHours" "guess" "LGrottoHours$Guess;" ∈ gT := gT_c2 164 rfl rfl
theorem xg_X11_50 (C : gC p s m args meth c cc nL RX11 ret D (xtys cI cB cZ cQ) xord g Am) (O : xO g cI cB cZ cQ Am) (X : gX D (xcell g cI cB cZ cQ) xord g S s H locs) (hk : xk k = 11) {j : Nat} (hj : k + 62 = j) (hdg : decode cc pc = .ok (.getfield 50, 3)) (kk : W p l e R s m args below meth c H locs cs sl Q (F0 m (pc + 3) ls (.ref (g j) :: rest))) : W p l e R s m args below meth c H locs cs sl Q (F0 m pc ls (.ref (g k) :: rest)) := by
  subst hj
  exact g_get C X (q := k) (k := k) (x_pos hk (by decide)) (x_c11 g cI cB cZ cQ S hk) (ci := 11) rfl x_in11 6 (by decide) xl_X11_50 rfl hdg kk
theorem xl_X11_57 : Cond.fieldLink RX11 57 "GrottoHours" "town" "LGrottoHours$Town;" ∈ gT := gT_c2 165 rfl rfl
theorem xg_X11_57 (C : gC p s m args meth c cc nL RX11 ret D (xtys cI cB cZ cQ) xord g Am) (O : xO g cI cB cZ cQ Am) (X : gX D (xcell g cI cB cZ cQ) xord g S s H locs) {T : Nat} (hT : T = xtw S) (hk : xk k = 11) (hdg : decode cc pc = .ok (.getfield 57, 3)) (kk : W p l e R s m args below meth c H locs cs sl Q (F0 m (pc + 3) ls (.ref (g T) :: rest))) : W p l e R s m args below meth c H locs cs sl Q (F0 m pc ls (.ref (g k) :: rest)) := by
  have hk0 : k = 0 := x_all (P := fun k => k = 0) (by decide) (by decide) hk
  subst hk0
  subst hT
  exact g_get C X (q := 0) (k := 0) rfl (x_c11 g cI cB cZ cQ S (k := 0) rfl) (ci := 11) rfl x_in11 7 (by decide) xl_X11_57 rfl hdg kk
theorem xp_X11_57 (C : gC p s m args meth c cc nL RX11 ret D (xtys cI cB cZ cQ) xord g Am) (O : xO g cI cB cZ cQ Am) (X : gX D (xcell g cI cB cZ cQ) xord g S s H locs) {T : Nat} (hT : xk T = 9) (hk : xk k = 11) (hS : S' = sU S 0 7 (if T = 72 then 0 else 1)) (hdg : decode cc pc = .ok (.putfield 57, 3)) (kk : ∀ (H1 : Heap) (locs1 : List Loc), gX D (xcell g cI cB cZ cQ) xord g S' s H1 locs1 → W p l e R s m args below meth c H1 locs1 cs sl Q (F0 m (pc + 3) ls rest)) : W p l e R s m args below meth c H locs cs sl Q (F0 m pc ls (.ref (g T) :: .ref (g k) :: rest)) := by
  have hk0 : k = 0 := x_all (P := fun k => k = 0) (by decide) (by decide) hk
  subst hk0
  subst hS
  have hT2 : T = 4 ∨ T = 72 := x_all (P := fun k => k = 4 ∨ k = 72) (by decide) (by decide) hT
  rcases hT2 with rfl | rfl
  · exact g_put C O.1 X (q := 0) (k := 0) rfl (x_c11 g cI cB cZ cQ S (k := 0) rfl) (ci := 11) rfl x_in11 tyX11 tyX11_ok nmX11 7 (by decide) xl_X11_57 rfl rfl rfl (Nat.le_of_ble_eq_true rfl) (fun i h => sU_ne h) rfl hdg kk
  · exact g_put C O.1 X (q := 0) (k := 0) rfl (x_c11 g cI cB cZ cQ S (k := 0) rfl) (ci := 11) rfl x_in11 tyX11 tyX11_ok nmX11 7 (by decide) xl_X11_57 rfl rfl rfl (Nat.le_of_ble_eq_true rfl) (fun i h => sU_ne h) rfl hdg kk
theorem xl_X11_61 : Cond.fieldLink RX11 61 "GrottoHours" "isKept" "Z" ∈ gT := gT_c2 166 rfl rfl
theorem xg_X11_61 (C : gC p s m args meth c cc nL RX11 ret D (xtys cI cB cZ cQ) xord g Am) (O : xO g cI cB cZ cQ Am) (X : gX D (xcell g cI cB cZ cQ) xord g S s H locs) (hk : xk k = 11) (hdg : decode cc pc = .ok (.getfield 61, 3)) (kk : W p l e R s m args below meth c H locs cs sl Q (F0 m (pc + 3) ls (.int (S k 8) :: rest))) : W p l e R s m args below meth c H locs cs sl Q (F0 m pc ls (.ref (g k) :: rest)) :=
  g_get C X (q := k) (k := k) (x_pos hk (by decide)) (x_c11 g cI cB cZ cQ S hk) (ci := 11) rfl x_in11 8 (by decide) xl_X11_61 rfl hdg kk
theorem xp_X11_61 (C : gC p s m args meth c cc nL RX11 ret D (xtys cI cB cZ cQ) xord g Am) (O : xO g cI cB cZ cQ Am) (X : gX D (xcell g cI cB cZ cQ) xord g S s H locs) (hk : xk k = 11) {x : Int32} (hz : zb x = true) (hS : S' = sU S k 8 x) (hdg : decode cc pc = .ok (.putfield 61, 3)) (kk : ∀ (H1 : Heap) (locs1 : List Loc), gX D (xcell g cI cB cZ cQ) xord g S' s H1 locs1 → W p l e R s m args below meth c H1 locs1 cs sl Q (F0 m (pc + 3) ls rest)) : W p l e R s m args below meth c H locs cs sl Q (F0 m pc ls (.int x :: .ref (g k) :: rest)) := by
  subst hS
  exact g_put C O.1 X (q := k) (k := k) (x_pos hk (by decide)) (x_c11 g cI cB cZ cQ S hk) (ci := 11) rfl x_in11 tyX11 tyX11_ok nmX11 8 (by decide) xl_X11_61 rfl (zb_narrow hz) (zb_fits hz) (Nat.le_of_ble_eq_true rfl) (fun i h => sU_ne h) (by rw [x_c11 g cI cB cZ cQ _ hk, sU_eq]; rfl) hdg kk
theorem xl_X11_65 : Cond.fieldLink RX11 65 "GrottoHours" "seedNow" "I" ∈ gT := gT_c2 167 rfl rfl
theorem xg_X11_65 (C : gC p s m args meth c cc nL RX11 ret D (xtys cI cB cZ cQ) xord g Am) (O : xO g cI cB cZ cQ Am) (X : gX D (xcell g cI cB cZ cQ) xord g S s H locs) (hk : xk k = 11) (hdg : decode cc pc = .ok (.getfield 65, 3)) (kk : W p l e R s m args below meth c H locs cs sl Q (F0 m (pc + 3) ls (.int (S k 9) :: rest))) : W p l e R s m args below meth c H locs cs sl Q (F0 m pc ls (.ref (g k) :: rest)) :=
  g_get C X (q := k) (k := k) (x_pos hk (by decide)) (x_c11 g cI cB cZ cQ S hk) (ci := 11) rfl x_in11 9 (by decide) xl_X11_65 rfl hdg kk
theorem xp_X11_65 (C : gC p s m args meth c cc nL RX11 ret D (xtys cI cB cZ cQ) xord g Am) (O : xO g cI cB cZ cQ Am) (X : gX D (xcell g cI cB cZ cQ) xord g S s H locs) (hk : xk k = 11) {x : Int32} (hS : S' = sU S k 9 x) (hdg : decode cc pc = .ok (.putfield 65, 3)) (kk : ∀ (H1 : Heap) (locs1 : List Loc), gX D (xcell g cI cB cZ cQ) xord g S' s H1 locs1 → W p l e R s m args below meth c H1 locs1 cs sl Q (F0 m (pc + 3) ls rest)) : W p l e R s m args below meth c H locs cs sl Q (F0 m pc ls (.int x :: .ref (g k) :: rest)) := by
  subst hS
  exact g_put C O.1 X (q := k) (k := k) (x_pos hk (by decide)) (x_c11 g cI cB cZ cQ S hk) (ci := 11) rfl x_in11 tyX11 tyX11_ok nmX11 9 (by decide) xl_X11_65 rfl rfl rfl (Nat.le_of_ble_eq_true rfl) (fun i h => sU_ne h) (by rw [x_c11 g cI cB cZ cQ _ hk, sU_eq]; rfl) hdg kk
theorem x_rI (C : gC p s m args meth c cc nL own ret D (xtys cI cB cZ cQ) xord g Am) (X : gX D (xcell g cI cB cZ cQ) xord g S s H locs) (hk : xk k = 20) {n : Nat} (hn : xN k = n) {i : Int32} {j : Nat} (hin : vp_in i n) (hj : i.toNatClampNeg = j) (hdg : decode cc pc = .ok (.iaload, 1)) (kk : W p l e R s m args below meth c H locs cs sl Q (F0 m (pc + 1) ls (.int (S k j) :: rest))) : W p l e R s m args below meth c H locs cs sl Q (F0 m pc ls (.int i :: .ref (g k) :: rest)) := by
  subst hn
  exact g_iald C X (x_pos hk (by decide)) (x_cI g cI cB cZ cQ S hk) (t0 := 0) rfl hin hj hdg kk
theorem x_wI (C : gC p s m args meth c cc nL own ret D (xtys cI cB cZ cQ) xord g Am) (O : xO g cI cB cZ cQ Am) (X : gX D (xcell g cI cB cZ cQ) xord g S s H locs) (hk : xk k = 20) {n : Nat} (hn : xN k = n) {i x : Int32} {j : Nat} (hin : vp_in i n) (hj : i.toNatClampNeg = j) (hS : S' = sU S k j x) (hdg : decode cc pc = .ok (.iastore, 1)) (kk : ∀ (H1 : Heap) (locs1 : List Loc), gX D (xcell g cI cB cZ cQ) xord g S' s H1 locs1 → W p l e R s m args below meth c H1 locs1 cs sl Q (F0 m (pc + 1) ls rest)) : W p l e R s m args below meth c H locs cs sl Q (F0 m pc ls (.int x :: .int i :: .ref (g k) :: rest)) := by
  subst hn
  subst hS
  exact g_iast C O.1 X (x_pos hk (by decide)) (x_cI g cI cB cZ cQ S hk) (t0 := 0) rfl hin hj (fun i h => sU_ne h) (by rw [x_cI g cI cB cZ cQ _ hk, sU_eq]) hdg kk
theorem x_lI (C : gC p s m args meth c cc nL own ret D (xtys cI cB cZ cQ) xord g Am) (X : gX D (xcell g cI cB cZ cQ) xord g S s H locs) (hk : xk k = 20) {n : Nat} (hn : xN k = n) {x : Int32} (hx : Int32.ofNat n = x) (hdg : decode cc pc = .ok (.arraylength, 1)) (kk : W p l e R s m args below meth c H locs cs sl Q (F0 m (pc + 1) ls (.int x :: rest))) : W p l e R s m args below meth c H locs cs sl Q (F0 m pc ls (.ref (g k) :: rest)) := by
  subst hn
  exact g_alen C X (x_pos hk (by decide)) (x_cI g cI cB cZ cQ S hk) (t0 := 0) rfl hx hdg kk
theorem x_rB (C : gC p s m args meth c cc nL own ret D (xtys cI cB cZ cQ) xord g Am) (X : gX D (xcell g cI cB cZ cQ) xord g S s H locs) (hk : xk k = 21) {n : Nat} (hn : xN k = n) {i : Int32} {j : Nat} (hin : vp_in i n) (hj : i.toNatClampNeg = j) (hdg : decode cc pc = .ok (.baload, 1)) (kk : W p l e R s m args below meth c H locs cs sl Q (F0 m (pc + 1) ls (.int (S k j) :: rest))) : W p l e R s m args below meth c H locs cs sl Q (F0 m pc ls (.int i :: .ref (g k) :: rest)) := by
  subst hn
  exact g_bald C X (x_pos hk (by decide)) (x_cB g cI cB cZ cQ S hk) (t0 := 1) rfl hin hj hdg kk
theorem x_wB (C : gC p s m args meth c cc nL own ret D (xtys cI cB cZ cQ) xord g Am) (O : xO g cI cB cZ cQ Am) (X : gX D (xcell g cI cB cZ cQ) xord g S s H locs) (hk : xk k = 21) {n : Nat} (hn : xN k = n) {i x : Int32} {j : Nat} (hin : vp_in i n) (hj : i.toNatClampNeg = j) (hS : S' = sU S k j (vp_nar .byte x)) (hdg : decode cc pc = .ok (.bastore, 1)) (kk : ∀ (H1 : Heap) (locs1 : List Loc), gX D (xcell g cI cB cZ cQ) xord g S' s H1 locs1 → W p l e R s m args below meth c H1 locs1 cs sl Q (F0 m (pc + 1) ls rest)) : W p l e R s m args below meth c H locs cs sl Q (F0 m pc ls (.int x :: .int i :: .ref (g k) :: rest)) := by
  subst hn
  subst hS
  exact g_bast C O.1 X (x_pos hk (by decide)) (x_cB g cI cB cZ cQ S hk) (t0 := 1) rfl hin hj (fun i h => sU_ne h) (by rw [x_cB g cI cB cZ cQ _ hk, sU_eq]) hdg kk
theorem x_lB (C : gC p s m args meth c cc nL own ret D (xtys cI cB cZ cQ) xord g Am) (X : gX D (xcell g cI cB cZ cQ) xord g S s H locs) (hk : xk k = 21) {n : Nat} (hn : xN k = n) {x : Int32} (hx : Int32.ofNat n = x) (hdg : decode cc pc = .ok (.arraylength, 1)) (kk : W p l e R s m args below meth c H locs cs sl Q (F0 m (pc + 1) ls (.int x :: rest))) : W p l e R s m args below meth c H locs cs sl Q (F0 m pc ls (.ref (g k) :: rest)) := by
  subst hn
  exact g_alen C X (x_pos hk (by decide)) (x_cB g cI cB cZ cQ S hk) (t0 := 1) rfl hx hdg kk
theorem x_rZ (C : gC p s m args meth c cc nL own ret D (xtys cI cB cZ cQ) xord g Am) (X : gX D (xcell g cI cB cZ cQ) xord g S s H locs) (hk : xk k = 22) {n : Nat} (hn : xN k = n) {i : Int32} {j : Nat} (hin : vp_in i n) (hj : i.toNatClampNeg = j) (hdg : decode cc pc = .ok (.baload, 1)) (kk : W p l e R s m args below meth c H locs cs sl Q (F0 m (pc + 1) ls (.int (S k j) :: rest))) : W p l e R s m args below meth c H locs cs sl Q (F0 m pc ls (.int i :: .ref (g k) :: rest)) := by
  subst hn
  exact g_zald C X (x_pos hk (by decide)) (x_cZ g cI cB cZ cQ S hk) (t0 := 2) rfl hin hj hdg kk
theorem x_wZ (C : gC p s m args meth c cc nL own ret D (xtys cI cB cZ cQ) xord g Am) (O : xO g cI cB cZ cQ Am) (X : gX D (xcell g cI cB cZ cQ) xord g S s H locs) (hk : xk k = 22) {n : Nat} (hn : xN k = n) {i x : Int32} {j : Nat} (hin : vp_in i n) (hj : i.toNatClampNeg = j) (hS : S' = sU S k j (vp_nar .boolean x)) (hdg : decode cc pc = .ok (.bastore, 1)) (kk : ∀ (H1 : Heap) (locs1 : List Loc), gX D (xcell g cI cB cZ cQ) xord g S' s H1 locs1 → W p l e R s m args below meth c H1 locs1 cs sl Q (F0 m (pc + 1) ls rest)) : W p l e R s m args below meth c H locs cs sl Q (F0 m pc ls (.int x :: .int i :: .ref (g k) :: rest)) := by
  subst hn
  subst hS
  exact g_zast C O.1 X (x_pos hk (by decide)) (x_cZ g cI cB cZ cQ S hk) (t0 := 2) rfl hin hj (fun i h => sU_ne h) (by rw [x_cZ g cI cB cZ cQ _ hk, sU_eq]) hdg kk
theorem x_lZ (C : gC p s m args meth c cc nL own ret D (xtys cI cB cZ cQ) xord g Am) (X : gX D (xcell g cI cB cZ cQ) xord g S s H locs) (hk : xk k = 22) {n : Nat} (hn : xN k = n) {x : Int32} (hx : Int32.ofNat n = x) (hdg : decode cc pc = .ok (.arraylength, 1)) (kk : W p l e R s m args below meth c H locs cs sl Q (F0 m (pc + 1) ls (.int x :: rest))) : W p l e R s m args below meth c H locs cs sl Q (F0 m pc ls (.ref (g k) :: rest)) := by
  subst hn
  exact g_alen C X (x_pos hk (by decide)) (x_cZ g cI cB cZ cQ S hk) (t0 := 2) rfl hx hdg kk
theorem x_rQ (C : gC p s m args meth c cc nL own ret D (xtys cI cB cZ cQ) xord g Am) (X : gX D (xcell g cI cB cZ cQ) xord g S s H locs) (hk : xk k = 23) {n : Nat} (hn : xN k = n) {i : Int32} {j : Nat} (hin : vp_in i n) (hj : k + 1 + i.toNatClampNeg = j) (hdg : decode cc pc = .ok (.aaload, 1)) (kk : W p l e R s m args below meth c H locs cs sl Q (F0 m (pc + 1) ls (.ref (g j) :: rest))) : W p l e R s m args below meth c H locs cs sl Q (F0 m pc ls (.int i :: .ref (g k) :: rest)) := by
  subst hn
  subst hj
  have hlt : i.toNatClampNeg < xN k := Nat.not_le.mp fun q => hin (Or.inr q)
  exact g_aald C X (x_pos hk (by decide)) (x_cQ g cI cB cZ cQ S hk) (t0 := 3) rfl hin (if_pos hlt) hdg kk
theorem x_callV (C : gC p s m args meth c cc nL own ret D (xtys cI cB cZ cQ) xord g Am) (X : gX D (xcell g cI cB cZ cQ) xord g S s H locs) {y : MethodName} {cy : ByteArray} {mL n index d ci : Nat} {rt : Option FieldType} {As : List Value} {qc : vw_C} (w : gWV own index y cy mL rt n) (hk : xk k = ci) (hc : vwCl[ci]? = some qc) (hy : qc.1 = y.cls) (hc9 : ci < 12) (hM : gM l y cy mL rt d D (xtys cI cB cZ cQ) (xcell g cI cB cZ cQ) xord g Am (.ref (g k) :: As) S none S') (hR : d + 1 ≤ R.frames) (hR2 : 8 + (mL + 11) + (40 * d + 13) ≤ R.locals) (hcs : cs ≤ R.cells) (hsl : sl ≤ R.slots) (hn : As.length = n) (hls : ls.size = nL) {st : List Value} (hst : st = As.reverse ++ .ref (g k) :: rest) (hrest : (rest.map fun v => v.category).sum ≤ 8) (hdg : decode cc pc = .ok (.invokevirtual index, 3))
    (kk : ∀ (H1 : Heap) (locs1 : List Loc), gX D (xcell g cI cB cZ cQ) xord g S' s H1 locs1 → W p l e R s m args below meth c H1 locs1 cs sl Q (F0 m (pc + 3) ls rest)) : W p l e R s m args below meth c H locs cs sl Q (F0 m pc ls st) := by
  have he : ∃ fs, xcell g cI cB cZ cQ S k = (g k, .inr (ci, fs)) := by
    refine ⟨xfl g (xk k) k (S k), ?_⟩
    unfold xcell xE
    rw [if_neg (by omega), if_neg (by omega), if_neg (by omega), if_neg (by omega), hk]
  obtain ⟨fs, he⟩ := he
  exact g_callV C X w hc hy (gw_get (x_pos hk (by omega)) he) hM hR hR2 hcs hsl hn hls hst hrest hdg kk
theorem x_callVi (C : gC p s m args meth c cc nL own ret D (xtys cI cB cZ cQ) xord g Am) (X : gX D (xcell g cI cB cZ cQ) xord g S s H locs) {y : MethodName} {cy : ByteArray} {mL n index d ci : Nat} {rt : Option FieldType} {As : List Value} {qc : vw_C} {x : Int32} (w : gWV own index y cy mL rt n) (hk : xk k = ci) (hc : vwCl[ci]? = some qc) (hy : qc.1 = y.cls) (hc9 : ci < 12) (hM : gM l y cy mL rt d D (xtys cI cB cZ cQ) (xcell g cI cB cZ cQ) xord g Am (.ref (g k) :: As) S (some (.int x)) S') (hR : d + 1 ≤ R.frames) (hR2 : 8 + (mL + 11) + (40 * d + 13) ≤ R.locals) (hcs : cs ≤ R.cells) (hsl : sl ≤ R.slots) (hn : As.length = n) (hls : ls.size = nL) {st : List Value} (hst : st = As.reverse ++ .ref (g k) :: rest) (hrest : (rest.map fun v => v.category).sum ≤ 8) (hdg : decode cc pc = .ok (.invokevirtual index, 3))
    (kk : ∀ (H1 : Heap) (locs1 : List Loc), gX D (xcell g cI cB cZ cQ) xord g S' s H1 locs1 → W p l e R s m args below meth c H1 locs1 cs sl Q (F0 m (pc + 3) ls (.int x :: rest))) : W p l e R s m args below meth c H locs cs sl Q (F0 m pc ls st) := by
  have he : ∃ fs, xcell g cI cB cZ cQ S k = (g k, .inr (ci, fs)) := by
    refine ⟨xfl g (xk k) k (S k), ?_⟩
    unfold xcell xE
    rw [if_neg (by omega), if_neg (by omega), if_neg (by omega), if_neg (by omega), hk]
  obtain ⟨fs, he⟩ := he
  exact g_callVi C X w hc hy (gw_get (x_pos hk (by omega)) he) hM hR hR2 hcs hsl hn hls hst hrest hdg kk
end XROWS

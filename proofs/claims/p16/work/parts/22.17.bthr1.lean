/-! 'new NoSuchElementException(text)': its constructor hands its text on by the link 13 (the kit's rows for throwing know links at 7 alone) -/
abbrev tNS : String := "java/util/NoSuchElementException"
abbrev tRT : String := "java/lang/RuntimeException"
noncomputable def tRx : ByteArray := ⟨#[0x2a, 0x2b, 0xb7, 0x00, 0x0d, 0xb1]⟩
/-- the words that one throw of it needs -/
noncomputable def tX : List Cond := Bundle.throwableAtoms ++ (Bundle.throwableSAtoms ++ (Bundle.passSAtoms tNS tRT 13 tRx ++ (Bundle.chainSAtoms tRT ["java/lang/Exception"] ++
  [.methodLink RX11 161 (Bundle.initS tNS), .instantiable tNS 6, .castable tNS tNS, .selects tNS Bundle.tFill0 Bundle.tFill0, .selects tNS Bundle.tFill Bundle.tFill,
   .lays tNS Bundle.tN "cause" "Ljava/lang/Throwable;", .lays tNS Bundle.tN "stackTrace" Bundle.steD, .lays tNS Bundle.tN "suppressedExceptions" Bundle.listD, .lays tNS Bundle.tN "detailMessage" "Ljava/lang/String;",
   .isRef (.static Bundle.tN "UNASSIGNED_STACK" Bundle.steD), .isRef (.static Bundle.tN "SUPPRESSED_SENTINEL" Bundle.listD),
   .fieldLink Bundle.tN 198 Bundle.tN "backtrace" "Ljava/lang/Object;", .lays Bundle.tN Bundle.tN "backtrace" "Ljava/lang/Object;", .lays tNS Bundle.tN "backtrace" "Ljava/lang/Object;"])))
theorem tX_1 {w : Cond} (h : w ∈ Bundle.throwableAtoms) : w ∈ tX := List.mem_append_left _ h
theorem tX_2 {w : Cond} (h : w ∈ Bundle.throwableSAtoms) : w ∈ tX := List.mem_append_right _ (List.mem_append_left _ h)
theorem tX_3 {w : Cond} (h : w ∈ Bundle.passSAtoms tNS tRT 13 tRx) : w ∈ tX := List.mem_append_right _ (List.mem_append_right _ (List.mem_append_left _ h))
theorem tX_4 {w : Cond} (h : w ∈ Bundle.chainSAtoms tRT ["java/lang/Exception"]) : w ∈ tX := List.mem_append_right _ (List.mem_append_right _ (List.mem_append_right _ (List.mem_append_left _ h)))
theorem tX_5 {w : Cond} (i : Nat) (h : ([.methodLink RX11 161 (Bundle.initS tNS), .instantiable tNS 6, .castable tNS tNS, .selects tNS Bundle.tFill0 Bundle.tFill0, .selects tNS Bundle.tFill Bundle.tFill,
   .lays tNS Bundle.tN "cause" "Ljava/lang/Throwable;", .lays tNS Bundle.tN "stackTrace" Bundle.steD, .lays tNS Bundle.tN "suppressedExceptions" Bundle.listD, .lays tNS Bundle.tN "detailMessage" "Ljava/lang/String;",
   .isRef (.static Bundle.tN "UNASSIGNED_STACK" Bundle.steD), .isRef (.static Bundle.tN "SUPPRESSED_SENTINEL" Bundle.listD),
   .fieldLink Bundle.tN 198 Bundle.tN "backtrace" "Ljava/lang/Object;", .lays Bundle.tN Bundle.tN "backtrace" "Ljava/lang/Object;", .lays tNS Bundle.tN "backtrace" "Ljava/lang/Object;"] : List Cond)[i]? = some w) : w ∈ tX := List.mem_append_right _ (List.mem_append_right _ (List.mem_append_right _ (List.mem_append_right _ (List.mem_of_getElem? h))))
set_option maxRecDepth 100000 in
theorem tg1K : ∀ w ∈ tX, vx_no w = true → goodWord w = true → w ∈ lw_tbl := by
  show ∀ w ∈ ([.initialized Bundle.tN, .superclass Bundle.tN "java/lang/Object", .instanceMethod Bundle.tFill, .codeSync Bundle.tFill LibCode.Throwable.Fill.code 1 (some (.object Bundle.tN)), .instanceMethod Bundle.tFill0, .native Bundle.tFill0, .instanceMethod Bundle.tInit0, .code Bundle.tInit0 LibCode.Throwable.Init0.code 1 none, .instanceMethod Bundle.oInit, .code Bundle.oInit ⟨#[0xb1]⟩ 1 none, .methodLink Bundle.tN 1 Bundle.oInit, .methodLink Bundle.tN 27 Bundle.tFill, .methodLink Bundle.tN 202 Bundle.tFill0, .fieldLink Bundle.tN 7 Bundle.tN "cause" "Ljava/lang/Throwable;", .lays Bundle.tN Bundle.tN "cause" "Ljava/lang/Throwable;", .fieldLink Bundle.tN 17 Bundle.tN "stackTrace" Bundle.steD, .lays Bundle.tN Bundle.tN "stackTrace" Bundle.steD, .fieldLink Bundle.tN 24 Bundle.tN "suppressedExceptions" Bundle.listD, .lays Bundle.tN Bundle.tN "suppressedExceptions" Bundle.listD, .fieldLink Bundle.tN 13 Bundle.tN "UNASSIGNED_STACK" Bundle.steD, .laysStatic Bundle.tN "UNASSIGNED_STACK" Bundle.steD, .fieldLink Bundle.tN 20 Bundle.tN "SUPPRESSED_SENTINEL" Bundle.listD, .laysStatic Bundle.tN "SUPPRESSED_SENTINEL" Bundle.listD, .lays Bundle.tN Bundle.tN "detailMessage" "Ljava/lang/String;", .instanceMethod (Bundle.initS Bundle.tN), .code (Bundle.initS Bundle.tN) LibCode.Throwable.InitS.code 2 none, .fieldLink Bundle.tN 31 Bundle.tN "detailMessage" "Ljava/lang/String;", .lays Bundle.tN Bundle.tN "detailMessage" "Ljava/lang/String;", .instanceMethod (Bundle.initS tNS), .code (Bundle.initS tNS) tRx 2 none, .methodLink tNS 13 (Bundle.initS tRT), .instanceMethod (Bundle.initS tRT), .declares (Bundle.initS tRT), .instanceMethod (Bundle.initS tRT), .code (Bundle.initS tRT) Bundle.six 2 none, .methodLink tRT 7 (Bundle.initS "java/lang/Exception"), .instanceMethod (Bundle.initS "java/lang/Exception"), .declares (Bundle.initS "java/lang/Exception"), .instanceMethod (Bundle.initS "java/lang/Exception"), .code (Bundle.initS "java/lang/Exception") Bundle.six 2 none, .methodLink "java/lang/Exception" 7 (Bundle.initS Bundle.tN), .instanceMethod (Bundle.initS Bundle.tN), .declares (Bundle.initS Bundle.tN), .methodLink RX11 161 (Bundle.initS tNS), .instantiable tNS 6, .castable tNS tNS, .selects tNS Bundle.tFill0 Bundle.tFill0, .selects tNS Bundle.tFill Bundle.tFill, .lays tNS Bundle.tN "cause" "Ljava/lang/Throwable;", .lays tNS Bundle.tN "stackTrace" Bundle.steD, .lays tNS Bundle.tN "suppressedExceptions" Bundle.listD, .lays tNS Bundle.tN "detailMessage" "Ljava/lang/String;", .isRef (.static Bundle.tN "UNASSIGNED_STACK" Bundle.steD), .isRef (.static Bundle.tN "SUPPRESSED_SENTINEL" Bundle.listD), .fieldLink Bundle.tN 198 Bundle.tN "backtrace" "Ljava/lang/Object;", .lays Bundle.tN Bundle.tN "backtrace" "Ljava/lang/Object;", .lays tNS Bundle.tN "backtrace" "Ljava/lang/Object;"] : List Cond), vx_no w = true → goodWord w = true → w ∈ lw_tbl
  exact List.forall_mem_cons.mpr ⟨fun _ _ => List.mem_append_right _ (lw_c1 14 rfl),
    List.forall_mem_cons.mpr ⟨fun _ _ => List.mem_append_right _ (lw_c3 135 rfl),
    List.forall_mem_cons.mpr ⟨fun _ _ => List.mem_append_right _ (lw_c3 144 rfl),
    List.forall_mem_cons.mpr ⟨fun _ _ => List.mem_append_right _ (lw_c3 147 rfl),
    List.forall_mem_cons.mpr ⟨fun _ _ => List.mem_append_right _ (lw_c3 150 rfl),
    List.forall_mem_cons.mpr ⟨fun _ _ => List.mem_append_right _ (lw_c3 152 rfl),
    List.forall_mem_cons.mpr ⟨fun _ _ => List.mem_append_right _ (lw_c3 136 rfl),
    List.forall_mem_cons.mpr ⟨fun _ _ => List.mem_append_right _ (lw_c3 137 rfl),
    List.forall_mem_cons.mpr ⟨fun _ _ => List.mem_append_right _ (lw_c1 33 rfl),
    List.forall_mem_cons.mpr ⟨fun _ _ => List.mem_append_right _ (lw_c1 34 rfl),
    List.forall_mem_cons.mpr ⟨fun _ _ => List.mem_append_right _ (lw_c3 138 rfl),
    List.forall_mem_cons.mpr ⟨fun _ _ => List.mem_append_right _ (lw_c3 143 rfl),
    List.forall_mem_cons.mpr ⟨fun _ _ => List.mem_append_right _ (lw_c3 148 rfl),
    List.forall_mem_cons.mpr ⟨fun _ _ => List.mem_append_right _ (lw_c3 168 rfl),
    List.forall_mem_cons.mpr ⟨fun _ _ => List.mem_append_right _ (lw_c3 125 rfl),
    List.forall_mem_cons.mpr ⟨fun _ _ => List.mem_append_right _ (lw_c3 169 rfl),
    List.forall_mem_cons.mpr ⟨fun _ _ => List.mem_append_right _ (lw_c3 127 rfl),
    List.forall_mem_cons.mpr ⟨fun _ _ => List.mem_append_right _ (lw_c3 170 rfl),
    List.forall_mem_cons.mpr ⟨fun _ _ => List.mem_append_right _ (lw_c3 129 rfl),
    List.forall_mem_cons.mpr ⟨fun _ _ => List.mem_append_right _ (lw_c3 139 rfl),
    List.forall_mem_cons.mpr ⟨fun h _ => absurd h (by decide +kernel),
    List.forall_mem_cons.mpr ⟨fun _ _ => List.mem_append_right _ (lw_c3 141 rfl),
    List.forall_mem_cons.mpr ⟨fun h _ => absurd h (by decide +kernel),
    List.forall_mem_cons.mpr ⟨fun _ _ => List.mem_append_right _ (lw_c3 131 rfl),
    List.forall_mem_cons.mpr ⟨fun _ _ => List.mem_append_right _ (lw_c3 164 rfl),
    List.forall_mem_cons.mpr ⟨fun _ _ => List.mem_append_right _ (lw_c3 165 rfl),
    List.forall_mem_cons.mpr ⟨fun _ _ => List.mem_append_right _ (lw_c3 167 rfl),
    List.forall_mem_cons.mpr ⟨fun _ _ => List.mem_append_right _ (lw_c3 131 rfl),
    List.forall_mem_cons.mpr ⟨fun _ _ => List.mem_append_right _ (lw_c4 225 rfl),
    List.forall_mem_cons.mpr ⟨fun _ _ => List.mem_append_right _ (lw_c4 226 rfl),
    List.forall_mem_cons.mpr ⟨fun _ _ => List.mem_append_right _ (lw_c4 227 rfl),
    List.forall_mem_cons.mpr ⟨fun _ _ => List.mem_append_right _ (lw_c3 158 rfl),
    List.forall_mem_cons.mpr ⟨fun _ _ => List.mem_append_right _ (lw_c3 117 rfl),
    List.forall_mem_cons.mpr ⟨fun _ _ => List.mem_append_right _ (lw_c3 158 rfl),
    List.forall_mem_cons.mpr ⟨fun _ _ => List.mem_append_right _ (lw_c3 159 rfl),
    List.forall_mem_cons.mpr ⟨fun _ _ => List.mem_append_right _ (lw_c3 160 rfl),
    List.forall_mem_cons.mpr ⟨fun _ _ => List.mem_append_right _ (lw_c3 161 rfl),
    List.forall_mem_cons.mpr ⟨fun _ _ => List.mem_append_right _ (lw_c3 119 rfl),
    List.forall_mem_cons.mpr ⟨fun _ _ => List.mem_append_right _ (lw_c3 161 rfl),
    List.forall_mem_cons.mpr ⟨fun _ _ => List.mem_append_right _ (lw_c3 162 rfl),
    List.forall_mem_cons.mpr ⟨fun _ _ => List.mem_append_right _ (lw_c3 163 rfl),
    List.forall_mem_cons.mpr ⟨fun _ _ => List.mem_append_right _ (lw_c3 164 rfl),
    List.forall_mem_cons.mpr ⟨fun _ _ => List.mem_append_right _ (lw_c3 121 rfl),
    List.forall_mem_cons.mpr ⟨fun _ _ => List.mem_append_right _ (lw_c4 224 rfl),
    List.forall_mem_cons.mpr ⟨fun _ _ => List.mem_append_right _ (lw_c4 215 rfl),
    List.forall_mem_cons.mpr ⟨fun _ _ => List.mem_append_right _ (lw_c4 216 rfl),
    List.forall_mem_cons.mpr ⟨fun _ _ => List.mem_append_right _ (lw_c4 217 rfl),
    List.forall_mem_cons.mpr ⟨fun _ _ => List.mem_append_right _ (lw_c3 146 rfl),
    List.forall_mem_cons.mpr ⟨fun _ _ => List.mem_append_right _ (lw_c4 218 rfl),
    List.forall_mem_cons.mpr ⟨fun _ _ => List.mem_append_right _ (lw_c4 219 rfl),
    List.forall_mem_cons.mpr ⟨fun _ _ => List.mem_append_right _ (lw_c4 220 rfl),
    List.forall_mem_cons.mpr ⟨fun _ _ => List.mem_append_right _ (lw_c4 221 rfl),
    List.forall_mem_cons.mpr ⟨fun h _ => absurd h (by decide +kernel),
    List.forall_mem_cons.mpr ⟨fun h _ => absurd h (by decide +kernel),
    List.forall_mem_cons.mpr ⟨fun _ _ => List.mem_append_right _ (lw_c3 134 rfl),
    List.forall_mem_cons.mpr ⟨fun _ _ => List.mem_append_right _ (lw_c3 133 rfl),
    List.forall_mem_cons.mpr ⟨fun _ _ => List.mem_append_right _ (lw_c4 222 rfl),
    fun _ h => nomatch h⟩⟩⟩⟩⟩⟩⟩⟩⟩⟩⟩⟩⟩⟩⟩⟩⟩⟩⟩⟩⟩⟩⟩⟩⟩⟩⟩⟩⟩⟩⟩⟩⟩⟩⟩⟩⟩⟩⟩⟩⟩⟩⟩⟩⟩⟩⟩⟩⟩⟩⟩⟩⟩⟩⟩⟩⟩
theorem tg1 : ∀ w ∈ (tX.filter vx_no).filter goodWord, w ∈ lw_tbl := fun w h => tg1K w (List.mem_filter.mp (List.mem_filter.mp h).1).1 (List.mem_filter.mp (List.mem_filter.mp h).1).2 (List.mem_filter.mp h).2
theorem tb1 : ∀ w ∈ (tX.filter vx_no).filter (fun w => !goodWord w), w ∈ tB := by decide +kernel
theorem to1 : ∀ w ∈ Cond.classLink RX11 157 tNS :: Cond.initialized tNS :: tX.filter vx_no, vx_ot w = true := by decide +kernel

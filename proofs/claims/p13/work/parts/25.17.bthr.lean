/-! throwing: the two exceptions that the class makes -/
noncomputable def tNm : List String := ["java/lang/RuntimeException", "java/lang/Exception"]
set_option maxRecDepth 100000 in
theorem tg2K : ∀ w ∈ Bundle.ownAtoms RX11 86 "java/lang/IllegalArgumentException" tNm, vx_no w = true → goodWord w = true → w ∈ lw_tbl := by
  show ∀ w ∈ ([.initialized Bundle.tN, .superclass Bundle.tN "java/lang/Object", .instanceMethod Bundle.tFill, .codeSync Bundle.tFill LibCode.Throwable.Fill.code 1 (some (.object Bundle.tN)), .instanceMethod Bundle.tFill0, .native Bundle.tFill0, .instanceMethod Bundle.tInit0, .code Bundle.tInit0 LibCode.Throwable.Init0.code 1 none, .instanceMethod Bundle.oInit, .code Bundle.oInit ⟨#[0xb1]⟩ 1 none, .methodLink Bundle.tN 1 Bundle.oInit, .methodLink Bundle.tN 27 Bundle.tFill, .methodLink Bundle.tN 202 Bundle.tFill0, .fieldLink Bundle.tN 7 Bundle.tN "cause" "Ljava/lang/Throwable;", .lays Bundle.tN Bundle.tN "cause" "Ljava/lang/Throwable;", .fieldLink Bundle.tN 17 Bundle.tN "stackTrace" Bundle.steD, .lays Bundle.tN Bundle.tN "stackTrace" Bundle.steD, .fieldLink Bundle.tN 24 Bundle.tN "suppressedExceptions" Bundle.listD, .lays Bundle.tN Bundle.tN "suppressedExceptions" Bundle.listD, .fieldLink Bundle.tN 13 Bundle.tN "UNASSIGNED_STACK" Bundle.steD, .laysStatic Bundle.tN "UNASSIGNED_STACK" Bundle.steD, .fieldLink Bundle.tN 20 Bundle.tN "SUPPRESSED_SENTINEL" Bundle.listD, .laysStatic Bundle.tN "SUPPRESSED_SENTINEL" Bundle.listD, .lays Bundle.tN Bundle.tN "detailMessage" "Ljava/lang/String;", .instanceMethod (Bundle.initS Bundle.tN), .code (Bundle.initS Bundle.tN) LibCode.Throwable.InitS.code 2 none, .fieldLink Bundle.tN 31 Bundle.tN "detailMessage" "Ljava/lang/String;", .lays Bundle.tN Bundle.tN "detailMessage" "Ljava/lang/String;", .instanceMethod (Bundle.initS "java/lang/IllegalArgumentException"), .code (Bundle.initS "java/lang/IllegalArgumentException") Bundle.six 2 none, .methodLink "java/lang/IllegalArgumentException" 7 (Bundle.initS "java/lang/RuntimeException"), .instanceMethod (Bundle.initS "java/lang/RuntimeException"), .declares (Bundle.initS "java/lang/RuntimeException"), .instanceMethod (Bundle.initS "java/lang/RuntimeException"), .code (Bundle.initS "java/lang/RuntimeException") Bundle.six 2 none, .methodLink "java/lang/RuntimeException" 7 (Bundle.initS "java/lang/Exception"), .instanceMethod (Bundle.initS "java/lang/Exception"), .declares (Bundle.initS "java/lang/Exception"), .instanceMethod (Bundle.initS "java/lang/Exception"), .code (Bundle.initS "java/lang/Exception") Bundle.six 2 none, .methodLink "java/lang/Exception" 7 (Bundle.initS Bundle.tN), .instanceMethod (Bundle.initS Bundle.tN), .declares (Bundle.initS Bundle.tN), .methodLink RX11 86 (Bundle.initS "java/lang/IllegalArgumentException"), .instantiable "java/lang/IllegalArgumentException" 6, .castable "java/lang/IllegalArgumentException" "java/lang/IllegalArgumentException", .selects "java/lang/IllegalArgumentException" Bundle.tFill0 Bundle.tFill0, .selects "java/lang/IllegalArgumentException" Bundle.tFill Bundle.tFill, .lays "java/lang/IllegalArgumentException" Bundle.tN "cause" "Ljava/lang/Throwable;", .lays "java/lang/IllegalArgumentException" Bundle.tN "stackTrace" Bundle.steD, .lays "java/lang/IllegalArgumentException" Bundle.tN "suppressedExceptions" Bundle.listD, .lays "java/lang/IllegalArgumentException" Bundle.tN "detailMessage" "Ljava/lang/String;", .isRef (.static Bundle.tN "UNASSIGNED_STACK" Bundle.steD), .isRef (.static Bundle.tN "SUPPRESSED_SENTINEL" Bundle.listD), .fieldLink Bundle.tN 198 Bundle.tN "backtrace" "Ljava/lang/Object;", .lays Bundle.tN Bundle.tN "backtrace" "Ljava/lang/Object;", .lays "java/lang/IllegalArgumentException" Bundle.tN "backtrace" "Ljava/lang/Object;"] : List Cond), vx_no w = true → goodWord w = true → w ∈ lw_tbl
  exact List.forall_mem_cons.mpr ⟨fun _ _ => List.mem_append_right _ (lw_c1 14 rfl),
    List.forall_mem_cons.mpr ⟨fun _ _ => List.mem_append_right _ (lw_c3 135 rfl),
    List.forall_mem_cons.mpr ⟨fun _ _ => List.mem_append_right _ (lw_c3 144 rfl),
    List.forall_mem_cons.mpr ⟨fun _ _ => List.mem_append_right _ (lw_c3 147 rfl),
    List.forall_mem_cons.mpr ⟨fun _ _ => List.mem_append_right _ (lw_c3 150 rfl),
    List.forall_mem_cons.mpr ⟨fun _ _ => List.mem_append_right _ (lw_c3 152 rfl),
    List.forall_mem_cons.mpr ⟨fun _ _ => List.mem_append_right _ (lw_c3 136 rfl),
    List.forall_mem_cons.mpr ⟨fun _ _ => List.mem_append_right _ (lw_c3 137 rfl),
    List.forall_mem_cons.mpr ⟨fun _ _ => List.mem_append_right _ (lw_c1 33 rfl),
    List.forall_mem_cons.mpr ⟨fun _ _ => List.mem_append_right _ (lw_c1 34 rfl),
    List.forall_mem_cons.mpr ⟨fun _ _ => List.mem_append_right _ (lw_c3 138 rfl),
    List.forall_mem_cons.mpr ⟨fun _ _ => List.mem_append_right _ (lw_c3 143 rfl),
    List.forall_mem_cons.mpr ⟨fun _ _ => List.mem_append_right _ (lw_c3 148 rfl),
    List.forall_mem_cons.mpr ⟨fun _ _ => List.mem_append_right _ (lw_c3 168 rfl),
    List.forall_mem_cons.mpr ⟨fun _ _ => List.mem_append_right _ (lw_c3 125 rfl),
    List.forall_mem_cons.mpr ⟨fun _ _ => List.mem_append_right _ (lw_c3 169 rfl),
    List.forall_mem_cons.mpr ⟨fun _ _ => List.mem_append_right _ (lw_c3 127 rfl),
    List.forall_mem_cons.mpr ⟨fun _ _ => List.mem_append_right _ (lw_c3 170 rfl),
    List.forall_mem_cons.mpr ⟨fun _ _ => List.mem_append_right _ (lw_c3 129 rfl),
    List.forall_mem_cons.mpr ⟨fun _ _ => List.mem_append_right _ (lw_c3 139 rfl),
    List.forall_mem_cons.mpr ⟨fun h _ => absurd h (by decide +kernel),
    List.forall_mem_cons.mpr ⟨fun _ _ => List.mem_append_right _ (lw_c3 141 rfl),
    List.forall_mem_cons.mpr ⟨fun h _ => absurd h (by decide +kernel),
    List.forall_mem_cons.mpr ⟨fun _ _ => List.mem_append_right _ (lw_c3 131 rfl),
    List.forall_mem_cons.mpr ⟨fun _ _ => List.mem_append_right _ (lw_c3 164 rfl),
    List.forall_mem_cons.mpr ⟨fun _ _ => List.mem_append_right _ (lw_c3 165 rfl),
    List.forall_mem_cons.mpr ⟨fun _ _ => List.mem_append_right _ (lw_c3 167 rfl),
    List.forall_mem_cons.mpr ⟨fun _ _ => List.mem_append_right _ (lw_c3 131 rfl),
    List.forall_mem_cons.mpr ⟨fun _ _ => List.mem_append_right _ (lw_c3 155 rfl),
    List.forall_mem_cons.mpr ⟨fun _ _ => List.mem_append_right _ (lw_c3 156 rfl),
    List.forall_mem_cons.mpr ⟨fun _ _ => List.mem_append_right _ (lw_c3 157 rfl),
    List.forall_mem_cons.mpr ⟨fun _ _ => List.mem_append_right _ (lw_c3 158 rfl),
    List.forall_mem_cons.mpr ⟨fun _ _ => List.mem_append_right _ (lw_c3 117 rfl),
    List.forall_mem_cons.mpr ⟨fun _ _ => List.mem_append_right _ (lw_c3 158 rfl),
    List.forall_mem_cons.mpr ⟨fun _ _ => List.mem_append_right _ (lw_c3 159 rfl),
    List.forall_mem_cons.mpr ⟨fun _ _ => List.mem_append_right _ (lw_c3 160 rfl),
    List.forall_mem_cons.mpr ⟨fun _ _ => List.mem_append_right _ (lw_c3 161 rfl),
    List.forall_mem_cons.mpr ⟨fun _ _ => List.mem_append_right _ (lw_c3 119 rfl),
    List.forall_mem_cons.mpr ⟨fun _ _ => List.mem_append_right _ (lw_c3 161 rfl),
    List.forall_mem_cons.mpr ⟨fun _ _ => List.mem_append_right _ (lw_c3 162 rfl),
    List.forall_mem_cons.mpr ⟨fun _ _ => List.mem_append_right _ (lw_c3 163 rfl),
    List.forall_mem_cons.mpr ⟨fun _ _ => List.mem_append_right _ (lw_c3 164 rfl),
    List.forall_mem_cons.mpr ⟨fun _ _ => List.mem_append_right _ (lw_c3 121 rfl),
    List.forall_mem_cons.mpr ⟨fun _ _ => List.mem_append_right _ (lw_c3 154 rfl),
    List.forall_mem_cons.mpr ⟨fun _ _ => List.mem_append_right _ (lw_c3 114 rfl),
    List.forall_mem_cons.mpr ⟨fun _ _ => List.mem_append_right _ (lw_c3 115 rfl),
    List.forall_mem_cons.mpr ⟨fun _ _ => List.mem_append_right _ (lw_c3 122 rfl),
    List.forall_mem_cons.mpr ⟨fun _ _ => List.mem_append_right _ (lw_c3 123 rfl),
    List.forall_mem_cons.mpr ⟨fun _ _ => List.mem_append_right _ (lw_c3 124 rfl),
    List.forall_mem_cons.mpr ⟨fun _ _ => List.mem_append_right _ (lw_c3 126 rfl),
    List.forall_mem_cons.mpr ⟨fun _ _ => List.mem_append_right _ (lw_c3 128 rfl),
    List.forall_mem_cons.mpr ⟨fun _ _ => List.mem_append_right _ (lw_c3 130 rfl),
    List.forall_mem_cons.mpr ⟨fun h _ => absurd h (by decide +kernel),
    List.forall_mem_cons.mpr ⟨fun h _ => absurd h (by decide +kernel),
    List.forall_mem_cons.mpr ⟨fun _ _ => List.mem_append_right _ (lw_c3 134 rfl),
    List.forall_mem_cons.mpr ⟨fun _ _ => List.mem_append_right _ (lw_c3 133 rfl),
    List.forall_mem_cons.mpr ⟨fun _ _ => List.mem_append_right _ (lw_c3 132 rfl),
    fun _ h => nomatch h⟩⟩⟩⟩⟩⟩⟩⟩⟩⟩⟩⟩⟩⟩⟩⟩⟩⟩⟩⟩⟩⟩⟩⟩⟩⟩⟩⟩⟩⟩⟩⟩⟩⟩⟩⟩⟩⟩⟩⟩⟩⟩⟩⟩⟩⟩⟩⟩⟩⟩⟩⟩⟩⟩⟩⟩⟩
theorem tg2 : ∀ w ∈ (vx_atS RX11 86 "java/lang/IllegalArgumentException" tNm).filter goodWord, w ∈ lw_tbl := fun w h => tg2K w (List.mem_filter.mp (List.mem_filter.mp h).1).1 (List.mem_filter.mp (List.mem_filter.mp h).1).2 (List.mem_filter.mp h).2
noncomputable def tB : List Cond := tW ++ [.laysStatic Bundle.tN "UNASSIGNED_STACK" Bundle.steD, .laysStatic Bundle.tN "SUPPRESSED_SENTINEL" Bundle.listD]
theorem tb2 : ∀ w ∈ (vx_atS RX11 86 "java/lang/IllegalArgumentException" tNm).filter (fun w => !goodWord w), w ∈ tB := by decide +kernel
theorem to2 : ∀ w ∈ Cond.classLink RX11 82 "java/lang/IllegalArgumentException" :: Cond.initialized "java/lang/IllegalArgumentException" :: vx_atS RX11 86 "java/lang/IllegalArgumentException" tNm, vx_ot w = true := by decide +kernel
theorem tc1 : Cond.classLink RX11 157 "java/util/NoSuchElementException" ∈ gT ∧ Cond.initialized "java/util/NoSuchElementException" ∈ gT := ⟨gT_c4 214 rfl rfl, gT_c1 24 rfl rfl⟩
theorem tc2 : Cond.classLink RX11 82 "java/lang/IllegalArgumentException" ∈ gT ∧ Cond.initialized "java/lang/IllegalArgumentException" ∈ gT := ⟨gT_c3 113 rfl rfl, gT_c1 17 rfl rfl⟩
/-! 'new NoSuchElementException(text)': its constructor hands its text on by the link 13 (the kit's rows for throwing know links at 7 alone) -/
abbrev tNS : String := "java/util/NoSuchElementException"
abbrev tRT : String := "java/lang/RuntimeException"
noncomputable def tRx : ByteArray := ⟨#[0x2a, 0x2b, 0xb7, 0x00, 0x0d, 0xb1]⟩
/-- the words that one throw of it needs -/
noncomputable def tX : List Cond := Bundle.throwableAtoms ++ (Bundle.throwableSAtoms ++ (Bundle.passSAtoms tNS tRT 13 tRx ++ (Bundle.chainSAtoms tRT ["java/lang/Exception"] ++
  [.methodLink RX11 161 (Bundle.initS tNS), .instantiable tNS 6, .castable tNS tNS, .selects tNS Bundle.tFill0 Bundle.tFill0, .selects tNS Bundle.tFill Bundle.tFill,
   .lays tNS Bundle.tN "cause" "Ljava/lang/Throwable;", .lays tNS Bundle.tN "stackTrace" Bundle.steD, .lays tNS Bundle.tN "suppressedExceptions" Bundle.listD, .lays tNS Bundle.tN "detailMessage" "Ljava/lang/String;",
   .isRef (.static Bundle.tN "UNASSIGNED_STACK" Bundle.steD), .isRef (.static Bundle.tN "SUPPRESSED_SENTINEL" Bundle.listD),
   .fieldLink Bundle.tN 198 Bundle.tN "backtrace" "Ljava/lang/Object;", .lays Bundle.tN Bundle.tN "backtrace" "Ljava/lang/Object;", .lays tNS Bundle.tN "backtrace" "Ljava/lang/Object;"])))
theorem tX_1 {w : Cond} (h : w ∈ Bundle.throwableAtoms) : w ∈ tX := List.mem_append_left _ h
theorem tX_2 {w : Cond} (h : w ∈ Bundle.throwableSAtoms) : w ∈ tX := List.mem_append_right _ (List.mem_append_left _ h)
theorem tX_3 {w : Cond} (h : w ∈ Bundle.passSAtoms tNS tRT 13 tRx) : w ∈ tX := List.mem_append_right _ (List.mem_append_right _ (List.mem_append_left _ h))
theorem tX_4 {w : Cond} (h : w ∈ Bundle.chainSAtoms tRT ["java/lang/Exception"]) : w ∈ tX := List.mem_append_right _ (List.mem_append_right _ (List.mem_append_right _ (List.mem_append_left _ h)))
theorem tX_5 {w : Cond} (i : Nat) (h : ([.methodLink RX11 161 (Bundle.initS tNS), .instantiable tNS 6, .castable tNS tNS, .selects tNS Bundle.tFill0 Bundle.tFill0, .selects tNS Bundle.tFill Bundle.tFill,
   .lays tNS Bundle.tN "cause" "Ljava/lang/Throwable;", .lays tNS Bundle.tN "stackTrace" Bundle.steD, .lays tNS Bundle.tN "suppressedExceptions" Bundle.listD, .lays tNS Bundle.tN "detailMessage" "Ljava/lang/String;",
   .isRef (.static Bundle.tN "UNASSIGNED_STACK" Bundle.steD), .isRef (.static Bundle.tN "SUPPRESSED_SENTINEL" Bundle.listD),
   .fieldLink Bundle.tN 198 Bundle.tN "backtrace" "Ljava/lang/Object;", .lays Bundle.tN Bundle.tN "backtrace" "Ljava/lang/Object;", .lays tNS Bundle.tN "backtrace" "Ljava/lang/Object;"] : List Cond)[i]? = some w) : w ∈ tX := List.mem_append_right _ (List.mem_append_right _ (List.mem_append_right _ (List.mem_append_right _ (List.mem_of_getElem? h))))
set_option maxRecDepth 100000 in
theorem tg1K : ∀ w ∈ tX, vx_no w = true → goodWord w = true → w ∈ lw_tbl := by
  show ∀ w ∈ ([.initialized Bundle.tN, .superclass Bundle.tN "java/lang/Object", .instanceMethod Bundle.tFill, .codeSync Bundle.tFill LibCode.Throwable.Fill.code 1 (some (.object Bundle.tN)), .instanceMethod Bundle.tFill0, .native Bundle.tFill0, .instanceMethod Bundle.tInit0, .code Bundle.tInit0 LibCode.Throwable.Init0.code 1 none, .instanceMethod Bundle.oInit, .code Bundle.oInit ⟨#[0xb1]⟩ 1 none, .methodLink Bundle.tN 1 Bundle.oInit, .methodLink Bundle.tN 27 Bundle.tFill, .methodLink Bundle.tN 202 Bundle.tFill0, .fieldLink Bundle.tN 7 Bundle.tN "cause" "Ljava/lang/Throwable;", .lays Bundle.tN Bundle.tN "cause" "Ljava/lang/Throwable;", .fieldLink Bundle.tN 17 Bundle.tN "stackTrace" Bundle.steD, .lays Bundle.tN Bundle.tN "stackTrace" Bundle.steD, .fieldLink Bundle.tN 24 Bundle.tN "suppressedExceptions" Bundle.listD, .lays Bundle.tN Bundle.tN "suppressedExceptions" Bundle.listD, .fieldLink Bundle.tN 13 Bundle.tN "UNASSIGNED_STACK" Bundle.steD, .laysStatic Bundle.tN "UNASSIGNED_STACK" Bundle.steD, .fieldLink Bundle.tN 20 Bundle.tN "SUPPRESSED_SENTINEL" Bundle.listD, .laysStatic Bundle.tN "SUPPRESSED_SENTINEL" Bundle.listD, .lays Bundle.tN Bundle.tN "detailMessage" "Ljava/lang/String;", .instanceMethod (Bundle.initS Bundle.tN), .code (Bundle.initS Bundle.tN) LibCode.Throwable.InitS.code 2 none, .fieldLink Bundle.tN 31 Bundle.tN "detailMessage" "Ljava/lang/String;", .lays Bundle.tN Bundle.tN "detailMessage" "Ljava/lang/String;", .instanceMethod (Bundle.initS tNS), .code (Bundle.initS tNS) tRx 2 none, .methodLink tNS 13 (Bundle.initS tRT), .instanceMethod (Bundle.initS tRT), .declares (Bundle.initS tRT), .instanceMethod (Bundle.initS tRT), .code (Bundle.initS tRT) Bundle.six 2 none, .methodLink tRT 7 (Bundle.initS "java/lang/Exception"), .instanceMethod (Bundle.initS "java/lang/Exception"), .declares (Bundle.initS "java/lang/Exception"), .instanceMethod (Bundle.initS "java/lang/Exception"), .code (Bundle.initS "java/lang/Exception") Bundle.six 2 none, .methodLink "java/lang/Exception" 7 (Bundle.initS Bundle.tN), .instanceMethod (Bundle.initS Bundle.tN), .declares (Bundle.initS Bundle.tN), .methodLink RX11 161 (Bundle.initS tNS), .instantiable tNS 6, .castable tNS tNS, .selects tNS Bundle.tFill0 Bundle.tFill0, .selects tNS Bundle.tFill Bundle.tFill, .lays tNS Bundle.tN "cause" "Ljava/lang/Throwable;", .lays tNS Bundle.tN "stackTrace" Bundle.steD, .lays tNS Bundle.tN "suppressedExceptions" Bundle.listD, .lays tNS Bundle.tN "detailMessage" "Ljava/lang/String;", .isRef (.static Bundle.tN "UNASSIGNED_STACK" Bundle.steD), .isRef (.static Bundle.tN "SUPPRESSED_SENTINEL" Bundle.listD), .fieldLink Bundle.tN 198 Bundle.tN "backtrace" "Ljava/lang/Object;", .lays Bundle.tN Bundle.tN "backtrace" "Ljava/lang/Object;", .lays tNS Bundle.tN "backtrace" "Ljava/lang/Object;"] : List Cond), vx_no w = true → goodWord w = true → w ∈ lw_tbl
  exact List.forall_mem_cons.mpr ⟨fun _ _ => List.mem_append_right _ (lw_c1 14 rfl),
    List.forall_mem_cons.mpr ⟨fun _ _ => List.mem_append_right _ (lw_c3 135 rfl),
    List.forall_mem_cons.mpr ⟨fun _ _ => List.mem_append_right _ (lw_c3 144 rfl),
    List.forall_mem_cons.mpr ⟨fun _ _ => List.mem_append_right _ (lw_c3 147 rfl),
    List.forall_mem_cons.mpr ⟨fun _ _ => List.mem_append_right _ (lw_c3 150 rfl),
    List.forall_mem_cons.mpr ⟨fun _ _ => List.mem_append_right _ (lw_c3 152 rfl),
    List.forall_mem_cons.mpr ⟨fun _ _ => List.mem_append_right _ (lw_c3 136 rfl),
    List.forall_mem_cons.mpr ⟨fun _ _ => List.mem_append_right _ (lw_c3 137 rfl),
    List.forall_mem_cons.mpr ⟨fun _ _ => List.mem_append_right _ (lw_c1 33 rfl),
    List.forall_mem_cons.mpr ⟨fun _ _ => List.mem_append_right _ (lw_c1 34 rfl),
    List.forall_mem_cons.mpr ⟨fun _ _ => List.mem_append_right _ (lw_c3 138 rfl),
    List.forall_mem_cons.mpr ⟨fun _ _ => List.mem_append_right _ (lw_c3 143 rfl),
    List.forall_mem_cons.mpr ⟨fun _ _ => List.mem_append_right _ (lw_c3 148 rfl),
    List.forall_mem_cons.mpr ⟨fun _ _ => List.mem_append_right _ (lw_c3 168 rfl),
    List.forall_mem_cons.mpr ⟨fun _ _ => List.mem_append_right _ (lw_c3 125 rfl),
    List.forall_mem_cons.mpr ⟨fun _ _ => List.mem_append_right _ (lw_c3 169 rfl),
    List.forall_mem_cons.mpr ⟨fun _ _ => List.mem_append_right _ (lw_c3 127 rfl),
    List.forall_mem_cons.mpr ⟨fun _ _ => List.mem_append_right _ (lw_c3 170 rfl),
    List.forall_mem_cons.mpr ⟨fun _ _ => List.mem_append_right _ (lw_c3 129 rfl),
    List.forall_mem_cons.mpr ⟨fun _ _ => List.mem_append_right _ (lw_c3 139 rfl),
    List.forall_mem_cons.mpr ⟨fun h _ => absurd h (by decide +kernel),
    List.forall_mem_cons.mpr ⟨fun _ _ => List.mem_append_right _ (lw_c3 141 rfl),
    List.forall_mem_cons.mpr ⟨fun h _ => absurd h (by decide +kernel),
    List.forall_mem_cons.mpr ⟨fun _ _ => List.mem_append_right _ (lw_c3 131 rfl),
    List.forall_mem_cons.mpr ⟨fun _ _ => List.mem_append_right _ (lw_c3 164 rfl),
    List.forall_mem_cons.mpr ⟨fun _ _ => List.mem_append_right _ (lw_c3 165 rfl),
    List.forall_mem_cons.mpr ⟨fun _ _ => List.mem_append_right _ (lw_c3 167 rfl),
    List.forall_mem_cons.mpr ⟨fun _ _ => List.mem_append_right _ (lw_c3 131 rfl),
    List.forall_mem_cons.mpr ⟨fun _ _ => List.mem_append_right _ (lw_c4 225 rfl),
    List.forall_mem_cons.mpr ⟨fun _ _ => List.mem_append_right _ (lw_c4 226 rfl),
    List.forall_mem_cons.mpr ⟨fun _ _ => List.mem_append_right _ (lw_c4 227 rfl),
    List.forall_mem_cons.mpr ⟨fun _ _ => List.mem_append_right _ (lw_c3 158 rfl),
    List.forall_mem_cons.mpr ⟨fun _ _ => List.mem_append_right _ (lw_c3 117 rfl),
    List.forall_mem_cons.mpr ⟨fun _ _ => List.mem_append_right _ (lw_c3 158 rfl),
    List.forall_mem_cons.mpr ⟨fun _ _ => List.mem_append_right _ (lw_c3 159 rfl),
    List.forall_mem_cons.mpr ⟨fun _ _ => List.mem_append_right _ (lw_c3 160 rfl),
    List.forall_mem_cons.mpr ⟨fun _ _ => List.mem_append_right _ (lw_c3 161 rfl),
    List.forall_mem_cons.mpr ⟨fun _ _ => List.mem_append_right _ (lw_c3 119 rfl),
    List.forall_mem_cons.mpr ⟨fun _ _ => List.mem_append_right _ (lw_c3 161 rfl),
    List.forall_mem_cons.mpr ⟨fun _ _ => List.mem_append_right _ (lw_c3 162 rfl),
    List.forall_mem_cons.mpr ⟨fun _ _ => List.mem_append_right _ (lw_c3 163 rfl),
    List.forall_mem_cons.mpr ⟨fun _ _ => List.mem_append_right _ (lw_c3 164 rfl),
    List.forall_mem_cons.mpr ⟨fun _ _ => List.mem_append_right _ (lw_c3 121 rfl),
    List.forall_mem_cons.mpr ⟨fun _ _ => List.mem_append_right _ (lw_c4 224 rfl),
    List.forall_mem_cons.mpr ⟨fun _ _ => List.mem_append_right _ (lw_c4 215 rfl),
    List.forall_mem_cons.mpr ⟨fun _ _ => List.mem_append_right _ (lw_c4 216 rfl),
    List.forall_mem_cons.mpr ⟨fun _ _ => List.mem_append_right _ (lw_c4 217 rfl),
    List.forall_mem_cons.mpr ⟨fun _ _ => List.mem_append_right _ (lw_c3 146 rfl),
    List.forall_mem_cons.mpr ⟨fun _ _ => List.mem_append_right _ (lw_c4 218 rfl),
    List.forall_mem_cons.mpr ⟨fun _ _ => List.mem_append_right _ (lw_c4 219 rfl),
    List.forall_mem_cons.mpr ⟨fun _ _ => List.mem_append_right _ (lw_c4 220 rfl),
    List.forall_mem_cons.mpr ⟨fun _ _ => List.mem_append_right _ (lw_c4 221 rfl),
    List.forall_mem_cons.mpr ⟨fun h _ => absurd h (by decide +kernel),
    List.forall_mem_cons.mpr ⟨fun h _ => absurd h (by decide +kernel),
    List.forall_mem_cons.mpr ⟨fun _ _ => List.mem_append_right _ (lw_c3 134 rfl),
    List.forall_mem_cons.mpr ⟨fun _ _ => List.mem_append_right _ (lw_c3 133 rfl),
    List.forall_mem_cons.mpr ⟨fun _ _ => List.mem_append_right _ (lw_c4 222 rfl),
    fun _ h => nomatch h⟩⟩⟩⟩⟩⟩⟩⟩⟩⟩⟩⟩⟩⟩⟩⟩⟩⟩⟩⟩⟩⟩⟩⟩⟩⟩⟩⟩⟩⟩⟩⟩⟩⟩⟩⟩⟩⟩⟩⟩⟩⟩⟩⟩⟩⟩⟩⟩⟩⟩⟩⟩⟩⟩⟩⟩⟩
theorem tg1 : ∀ w ∈ (tX.filter vx_no).filter goodWord, w ∈ lw_tbl := fun w h => tg1K w (List.mem_filter.mp (List.mem_filter.mp h).1).1 (List.mem_filter.mp (List.mem_filter.mp h).1).2 (List.mem_filter.mp h).2
theorem tb1 : ∀ w ∈ (tX.filter vx_no).filter (fun w => !goodWord w), w ∈ tB := by decide +kernel
theorem to1 : ∀ w ∈ Cond.classLink RX11 157 tNS :: Cond.initialized tNS :: tX.filter vx_no, vx_ot w = true := by decide +kernel
section TCTOR
variable {p : Program} {l : Launch} {e : Env} {R : Room} {s : State} {m₀ : MethodId} {args : Array Value} {below : List Frame} {meth : Method} {c : Code} {W0 : State} {locs : List Loc} {cells slots : Nat}
set_option maxHeartbeats 1000000 in
theorem t_ctor (X : Stand p l e R s m₀ args below meth c W0 locs cells slots) (hexec : p.tables.exec = Jvm.exec) (htr : e.platform.stackTraces = false)
    (hown : s.vm.findClass RX11 = some m₀.cls) (h : ∀ a ∈ tX, a.before args s = true) (hlocs : ∀ x ∈ locs, ∀ cell, s.heap[x.base]? = some cell → cell.vm.isStatics = false)
    {a : Addr} {cX : ClassId} {kX : Class} (hfoundX : s.vm.findClass tNS = some cX) (hkX : s.vm.classes[cX]? = some kX) (hcell : W0.heap[a]? = some (freshCell cX kX)) (hnew : s.heap.size ≤ a)
    {msg : Value} (hmsg : msg.isRef = true) {g : JFrame} (hg : g.method = m₀) (hsize : g.locals.size = c.maxLocals) (hlocked : g.locked = none) (hentered : g.entered = []) {rest : List Value} (hstack : g.stack = msg :: .ref a :: .ref a :: rest)
    (hd6 : decode c.code g.pc = .ok (.invokespecial 161, 3)) (hd9 : decode c.code (g.pc + 3) = .ok (.athrow, 1)) (hout : ∀ x ∈ c.exceptionTable.toList, covers x (g.pc + 3) = false)
    (hRframes : 5 < R.frames) (hRlocals : 2 * g.monitorRoom + ((Value.ref a :: rest).map fun v => v.category).sum + 81 ≤ R.locals) (hlocks : meth.locks = false) :
    ∃ U : State, Steps p.tables e below (W0.setTop g) U ∧ U.status = .running ∧ Ended U below (.threw a) ∧ s.WarmedH U.vm ∧ s.sameButNew ({ U with vm := s.vm } : State) locs cells slots ∧ ∃ ce, U.heap[a]? = some ce ∧ ce.vm = .none ∧ s.vm.findClass tNS = some ce.cls := by
  have howns : e.platform.frameOwnsMonitors = true := by rw [X.admits.platform]
  have hfin : e.platform.finalization = false := by rw [X.admits.platform]
  have hpl : e.platform.magicAccessors = ({} : Platform).magicAccessors := by rw [X.admits.platform]
  obtain ⟨T, Z0, L, -, Y⟩ := ThrowableC.of_atoms (args := args) howns hfin hpl (fun x hx => h x (tX_1 hx))
  obtain ⟨Z, M, LZ, LM, hnZ⟩ := Init0T.ofS_atoms (args := args) hpl L Y (fun x hx => h x (tX_2 hx))
  obtain ⟨P1, L1, hP1m, hP1s⟩ := PassC.ofS_atoms (args := args) (s := s) hpl (X := tNS) (Y := tRT) (by decide) (by decide) (bytes := tRx) (index := 13) (by decide +kernel) (by decide +kernel) (by decide +kernel) (by decide +kernel) (fun x hx => h x (tX_3 hx))
  obtain ⟨P2, Ps, hlen, L2, hL, hP2m, hlink2, hlink⟩ := Bundle.chainS (args := args) hpl hnZ ["java/lang/Exception"] tRT (by decide) (by decide) (fun x hx => h x (tX_4 hx))
  have hlink1 : P1.sup = P2.m := Option.some.inj (hP1s.symm.trans hP2m)
  have hfound : s.vm.findClass tNS = some P1.m.cls := findClass_of_methodNamed hP1m
  cases Option.some.inj (hfoundX.symm.trans hfound)
  obtain ⟨c1, kX', hc1, hk, hord, -, -, hn6⟩ := Cond.instantiable_spec (h (.instantiable tNS 6) (tX_5 1 rfl))
  cases Option.some.inj (hc1.symm.trans hfound)
  cases Option.some.inj (hkX.symm.trans hk)
  have hsel0 : selectMethod e.platform s.vm P1.m.cls T.fill0 = .method T.fill0 := by
    obtain ⟨c2, r2, m2, q1, q2, q3, q4, -⟩ := Cond.selects_spec (h (.selects tNS Bundle.tFill0 Bundle.tFill0) (tX_5 3 rfl))
    cases Option.some.inj (q1.symm.trans hfound)
    cases Option.some.inj (q2.symm.trans (State.methodFound?_of_named Y.fill0 (by decide)))
    cases Option.some.inj (q3.symm.trans Y.fill0)
    rw [Launch.admits_selectMethod X.admits]; exact q4
  have hselF : selectMethod e.platform s.vm P1.m.cls T.fill = .method T.fill := by
    obtain ⟨c2, r2, m2, q1, q2, q3, q4, -⟩ := Cond.selects_spec (h (.selects tNS Bundle.tFill Bundle.tFill) (tX_5 4 rfl))
    cases Option.some.inj (q1.symm.trans hfound)
    cases Option.some.inj (q2.symm.trans (State.methodFound?_of_named Y.fill (by decide)))
    cases Option.some.inj (q3.symm.trans Y.fill)
    rw [Launch.admits_selectMethod X.admits]; exact q4
  obtain ⟨cellS0, hcS0, hiss⟩ := Y.statics
  obtain ⟨u0, hu0⟩ := Cond.staticRefV Y.unassigned L.unassignedStatic L.statics hcS0 hiss (h (.isRef (.static Bundle.tN "UNASSIGNED_STACK" Bundle.steD)) (tX_5 9 rfl))
  obtain ⟨sen, hsen⟩ := Cond.staticRefV Y.sentinel L.sentinelStatic L.statics hcS0 hiss (h (.isRef (.static Bundle.tN "SUPPRESSED_SENTINEL" Bundle.listD)) (tX_5 10 rfl))
  obtain ⟨ci198, i198, fB, hk198, hg198, ha198, hsB, -, hnB, htB, hffB⟩ := Cond.ownField (t := .object "java/lang/Object") Y.found L.cls (by decide +kernel) (h (.fieldLink Bundle.tN 198 Bundle.tN "backtrace" "Ljava/lang/Object;") (tX_5 11 rfl)) (h (.lays Bundle.tN Bundle.tN "backtrace" "Ljava/lang/Object;") (tX_5 12 rfl)) e.platform hpl
  obtain ⟨cellS, hcS', heS, -, hkeep⟩ := X.same.2.2.2.2.2 T.aS cellS0 hcS0
  have hcellS : W0.heap[T.aS]? = some cellS := hcS'
  have hout' : ∀ i, (⟨T.aS, i⟩ : Loc) ∉ locs := fun i hmem => by
    have := hlocs _ hmem cellS0 hcS0
    rewrite [hiss] at this; cases this
  have hknownS : cellS.vm ≠ .unknown := by
    rw [heS]; intro hu
    rewrite [show cellS0.vm = .unknown from hu] at hiss
    cases hiss
  have hneS : T.aS ≠ a := Nat.ne_of_lt (Nat.lt_of_lt_of_le (Array.getElem?_eq_some_iff.mp hcS0).1 hnew)
  obtain ⟨iM, hffM⟩ := Y.msg
  obtain ⟨tyC, dC, hdC, hdnC⟩ := Cond.laysAt hfound hk Y.cause (h (.lays tNS Bundle.tN "cause" "Ljava/lang/Throwable;") (tX_5 5 rfl))
  obtain ⟨tyS, dS, hdS, hdnS⟩ := Cond.laysAt hfound hk Y.stack (h (.lays tNS Bundle.tN "stackTrace" Bundle.steD) (tX_5 6 rfl))
  obtain ⟨tyP, dP, hdP, hdnP⟩ := Cond.laysAt hfound hk Y.supp (h (.lays tNS Bundle.tN "suppressedExceptions" Bundle.listD) (tX_5 7 rfl))
  obtain ⟨tyM, dM, hdM, hdnM⟩ := Cond.laysAt hfound hk hffM (h (.lays tNS Bundle.tN "detailMessage" "Ljava/lang/String;") (tX_5 8 rfl))
  obtain ⟨tyB, dB, hdB, hdnB⟩ := Cond.laysAt hfound hk hffB (h (.lays tNS Bundle.tN "backtrace" "Ljava/lang/Object;") (tX_5 13 rfl))
  have bC := Cond.laysApart hdB hdC hdnB hdnC (by rw [hnB, Y.causeName]; decide)
  have bS := Cond.laysApart hdB hdS hdnB hdnS (by rw [hnB, Y.stackName]; decide)
  have bP := Cond.laysApart hdB hdP hdnB hdnP (by rw [hnB, Y.suppName]; decide)
  have hskip : SkipFacts T e.platform s (fun u => u) u0 ((preparedCellV T.toThrowableT (freshCell P1.m.cls kX) a u0 sen).withEntry W0.cur) :=
    ⟨{ ci198 := ci198, i198 := i198, fBack := fB }, ⟨hk198, hg198, ha198, hsB⟩, by
      have := fresh_default (c := P1.m.cls) tyB
      rewrite [htB] at this
      simpa [preparedCellV, Cell.setSlot, Cell.withEntry, Array.getElem?_setIfInBounds, bC, bS, bP, bC.symm, bS.symm, bP.symm, defaultValue] using this, fun _ _ => rfl⟩
  obtain ⟨tm, methC, cdC, kC, vm₁, hnC, -, -, -, -, -, -, -, hW₁, st1⟩ := Steps.initColdS (tb := p.tables) (e := e) (below := below) (s := s) (U := W0) X.here hexec X.warmed hpl hown (t := Bundle.initS tNS) rfl rfl (by decide)
    (h (.methodLink RX11 161 (Bundle.initS tNS)) (tX_5 0 rfl)) (h (.instanceMethod (Bundle.initS tNS)) (tX_3 (by simp [Bundle.passSAtoms]))) (bytes := tRx) (maxL := 2) (h (.code (Bundle.initS tNS) tRx 2 none) (tX_3 (by simp [Bundle.passSAtoms])))
    (f := g) hg (a := a) (msg := msg) (rest := .ref a :: rest) hstack hd6
  cases Option.some.inj (hnC.symm.trans hP1m)
  have X₁ := X.noted hW₁
  obtain ⟨vm₂, X₂, st2⟩ := X₁.ctorMessageOffV hexec (g := { g with stack := .ref a :: rest }) hg hsize T L Z LZ M LM (P1 :: P2 :: Ps)
    (fun P hP => by
      rcases List.mem_cons.mp hP with rfl | hP
      · exact L1
      · rcases List.mem_cons.mp hP with rfl | hP
        · exact L2
        · exact hL P hP) ⟨hlink1, hlink2, hlink⟩ (u0 := u0) (sen := sen) (self := a) hmsg (cell := freshCell P1.m.cls kX) (cellS := cellS)
    hcell (fun _ => by simp) (by simp) rfl rfl hsel0 hselF hcellS hneS hknownS (by rw [hkeep _ (hout' _)]; exact hu0) (by rw [hkeep _ (hout' _)]; exact hsen)
    (Takes.of_laid hk hord tyC (by rw [Y.causeType]; rfl)) (Takes.of_laid hk hord tyS (by rw [Y.stackType]; exact fits_refV_array _ u0)) (Takes.of_laid hk hord tyP (by rw [Y.suppType]; exact fits_refV_object _ sen))
    (Takes.of_laid hk hord tyM (by rw [Y.msgType]; exact fits_refV_object _ ⟨msg, hmsg⟩)) Y.objLocals hskip htr [] hd6
    (by simp only [List.length_cons, hlen, List.length_nil]; omega) (by simp only [List.length_cons, hlen, List.length_nil]; omega)
  obtain ⟨hwalk, hrun, hended, hWU, hsame⟩ := X₂.athrowLeaves hexec (g := { g with stack := .ref a :: rest, pc := g.pc + 3 }) hg hlocked hentered hout (a := a) (rest := rest) rfl hd9
  have hlt : a < ((W0.setVm vm₁).setVm vm₂).heap.size := (Array.getElem?_eq_some_iff.mp hcell).1
  have hU := heapAt_setCell_self (s := (W0.setVm vm₁).setVm vm₂) (plainBareV T.toThrowableT (freshCell P1.m.cls kX) a u0 sen msg) hlt
  refine ⟨_, st1 _ (fun acts => ?_), hrun, hended, hWU, hsame.weaken (fun y hy hlt' => ?_) (Nat.le_refl _) (Nat.le_refl _), _, hU, rfl, hfound⟩
  · rw [doInvoke_state]
    exact st2 _ hwalk
  · rcases List.mem_append.mp hy with h1 | h1
    · exact h1
    · exfalso
      have hb : y.base = a := by
        simp only [List.mem_cons, List.not_mem_nil, or_false] at h1
        rcases h1 with rfl | rfl | rfl | rfl | rfl <;> rfl
      rewrite [hb] at hlt'
      exact Nat.not_lt.mpr hnew hlt'
end TCTOR
section TNEW
variable {p : Program} {l : Launch} {e : Env} {R : Room} {s : State} {m : MethodId} {args : Array Value} {below : List Frame} {meth : Method} {c : Code} {H : Heap} {locs : List Loc} {cs sl : Nat} {Am : (Nat → Prop) → State → Heap → Prop}
variable {cc : ByteArray} {nL pc u ii ist : Nat} {ret : Option FieldType} {D : va_G} {tys : List (ClassId × FieldType)} {g : Nat → Nat} {cI cB cZ cQ : ClassId} {S : gS} {ls : Array Slot} {rest : List Value} {vd : Bool} {aK aV : Nat → Nat} {tx : String}
theorem t_words {ic : Nat} {cls : String} (C : gC p s m args meth c cc nL RX11 ret D tys xord g Am) (O : tO l g cI cB cZ cQ Am aK aV) (hg : ∀ w ∈ (vx_atS RX11 ic cls tNm).filter goodWord, w ∈ lw_tbl) (hb : ∀ w ∈ (vx_atS RX11 ic cls tNm).filter (fun w => !goodWord w), w ∈ tB) : ∀ w ∈ vx_atS RX11 ic cls tNm, w.before args s = true := by
  have hA := O.2.1 _ _ _ C.2.2.2.2.2
  refine vx_hat (B := tB) (fun w hw => C.1.2.2.2.2 w (List.mem_filter.mpr ⟨hg w hw, (List.mem_filter.mp hw).2⟩)) hb ?_
  intro w hw
  rcases List.mem_append.mp hw with hw | hw
  · have h1 := hA.1 w hw
    simp only [tW, List.mem_cons, List.not_mem_nil, or_false] at hw
    rcases hw with rfl | rfl | rfl | rfl | rfl <;> exact va_Nw.use rfl h1
  · simp only [List.mem_cons, List.not_mem_nil, or_false] at hw
    rcases hw with rfl | rfl
    · exact hA.2.1.2.word
    · exact hA.2.2.2.word
theorem t_wordsX (C : gC p s m args meth c cc nL RX11 ret D tys xord g Am) (O : tO l g cI cB cZ cQ Am aK aV) : ∀ w ∈ tX.filter vx_no, w.before args s = true := by
  have hA := O.2.1 _ _ _ C.2.2.2.2.2
  refine vx_hat (B := tB) (fun w hw => C.1.2.2.2.2 w (List.mem_filter.mpr ⟨tg1 w hw, (List.mem_filter.mp hw).2⟩)) tb1 ?_
  intro w hw
  rcases List.mem_append.mp hw with hw | hw
  · have h1 := hA.1 w hw
    simp only [tW, List.mem_cons, List.not_mem_nil, or_false] at hw
    rcases hw with rfl | rfl | rfl | rfl | rfl <;> exact va_Nw.use rfl h1
  · simp only [List.mem_cons, List.not_mem_nil, or_false] at hw
    rcases hw with rfl | rfl
    · exact hA.2.1.2.word
    · exact hA.2.2.2.word
theorem t_x (C : gC p s m args meth c cc nL RX11 ret D tys xord g Am) (X : gX D (xcell g cI cB cZ cQ) xord g S s H locs) {n : Nat} (hn : n ≠ 0) {E : String} (hE : E = tE n) : ∀ t : State, s.vm.Alike t.vm → H.size ≤ t.heap.size → (∀ q : Nat, q < H.size → t.heap[q]? = H[q]?) → gXX D tys (xcell g cI cB cZ cQ) xord g s.heap.size (n, 0, S) E s t := by
  intro t hv hz hk
  refine ⟨hn, hE, X.1.kept (fun k q hq => hk q.1 (va_at.lt (X.1 k q hq))), va_K.moved hv C.2.1, Nat.le_trans X.2.1 hz, fun q h1 h2 => ?_⟩
  rw [hk q (Nat.lt_of_lt_of_le h1 X.2.1)]
  exact X.2.2.1 q h1 h2
theorem t_newN (C : gC p s m args meth c cc nL RX11 ret D tys xord g Am) (O : tO l g cI cB cZ cQ Am aK aV) (Tb : ∀ x ∈ c.exceptionTable.toList, False) (X : gX D (xcell g cI cB cZ cQ) xord g S s H locs) (hls : ls.size = nL) (hw : sW[ii]? = some (RX11, ist, tx)) (d0 : decode cc pc = .ok (.new 157, 3)) (d3 : decode cc (pc + 3) = .ok (.dup, 1)) (d4 : decode cc (pc + 4) = .ok (.ldc ist, 2)) (d6 : decode cc (pc + 6) = .ok (.invokespecial 161, 3)) (d9 : decode cc (pc + 9) = .ok (.athrow, 1))
    (hRf : 5 < R.frames) (hRl : (rest.map fun v => v.category).sum + 82 ≤ R.locals) (hRc : cs + 1 ≤ R.cells) (hRs : sl + 6 ≤ R.slots) (hc : cs + 1 ≤ u) (hs : sl + 6 ≤ 6 * u) : W p l e R s m args below meth c H locs cs sl (gEX below args s D tys (xcell g cI cB cZ cQ) xord g u vd (1, 0, S)) (F0 m pc ls rest) := by
  intro T hT X0
  have hat := t_wordsX C O
  have hA2 := O.2.1 _ _ _ C.2.2.2.2.2
  have hstr := (O.1.2 _ _ _ C.2.2.2.2.2).2.1 ii _ hw
  have htr : e.platform.stackTraces = false := (show e.platform.stackTraces = l.stackTraces by rw [X0.admits.platform]).trans O.2.2
  have Y := vx_rebase X0 (R' := { frames := R.frames, locals := R.locals, cells := 1, slots := 6 }) (Nat.le_refl _) (Nat.le_refl _) hRc hRs
  obtain ⟨s', hA⟩ : ∃ z, z = (T.setVm s.vm).setFrames (.invoking m args :: below) := ⟨_, rfl⟩
  rewrite [← hA] at Y
  have hvm : s'.vm = s.vm := by rw [hA]; rfl
  have hhp : s'.heap = H := by rw [hA]; exact hT
  have hW0 : s.WarmedH s'.vm := by rw [hvm]; exact State.WarmedH.refl s
  have hat' : ∀ w ∈ tX.filter vx_no, w.before args s' = true := fun w hw => vx_ot_at hW0 hvm.symm (to1 w (List.mem_cons_of_mem _ (List.mem_cons_of_mem _ hw))) (hat w hw)
  have hk' : (Cond.classLink RX11 157 tNS).before args s' = true := vx_ot_at hW0 hvm.symm (to1 _ List.mem_cons_self) (C.1.2.2.2.2 _ tc1.1)
  have hini' : (Cond.initialized tNS).before args s' = true := vx_ot_at hW0 hvm.symm (to1 _ (List.mem_cons_of_mem _ List.mem_cons_self)) (C.1.2.2.2.2 _ tc1.2)
  have hU' : vx_Zq Bundle.tN "UNASSIGNED_STACK" Bundle.steD (gA xord g s.heap.size) s' s'.heap := by rw [hhp]; exact vx_Zq.moved hW0.alike (hA2.2.1.kept X.2.2.1)
  have hN' : vx_Zq Bundle.tN "SUPPRESSED_SENTINEL" Bundle.listD (gA xord g s.heap.size) s' s'.heap := by rw [hhp]; exact vx_Zq.moved hW0.alike (hA2.2.2.kept X.2.2.1)
  have h : ∀ w ∈ tX, w.before args s' = true := vx_own hat' (vx_isRefq hU'.1) (vx_isRefq hN'.1) hU'.2.word hN'.2.word
  have hown' : s'.vm.findClass RX11 = some m.cls := by rw [hvm]; exact C.1.2.2.2.1
  obtain ⟨vm₁, cX, kX, hfX, hkX, -, -, X₁, st1⟩ := Y.newCold C.1.1 (own := RX11) (C := tNS) (index := 157) (n := 6) hown' hk' (h _ (tX_5 1 rfl)) hini'
    (g := F0 m pc ls rest) rfl (by rw [C.1.2.1]; exact d0) (Nat.le_refl _) (Nat.le_refl _)
  generalize hT1 : (T.setVm vm₁).pushCell { cls := cX, slots := kX.instanceTypes.map defaultValue, vm := .none } = T1 at X₁ st1
  have hcat : (Value.ref T.heap.size).category = 1 := rfl
  have hcellA : T1.heap[T.heap.size]? = some (freshCell cX kX) := by rw [← hT1]; exact State.heap_pushCell_size _ _
  have d3' : decode c.code (pc + 3) = .ok (.dup, 1) := by rw [C.1.2.1]; exact d3
  have d4' : decode c.code (pc + 4) = .ok (.ldc ist, 2) := by rw [C.1.2.1]; exact d4
  have hstr' : vk_R RX11 ist tx (aK ii) s' := vk_R.warm hW0 hstr
  obtain ⟨U, hsteps, hrun, hend, hW, hsame, ce, hce, hcv, hcf⟩ := t_ctor X₁ C.1.1 htr hown' h (fun x hx => nomatch hx) hfX hkX hcellA (by rw [hhp, hT]; exact Nat.le_refl _) (msg := .ref (aK ii)) rfl
    (g := { method := m, pc := pc + 6, locals := ls, stack := .ref (aK ii) :: .ref T.heap.size :: .ref T.heap.size :: rest, locked := none }) rfl (hls.trans C.1.2.2.1.symm) rfl rfl (rest := rest) rfl
    (by rw [C.1.2.1]; exact d6) (by rw [C.1.2.1]; exact d9) (fun x hx => (Tb x hx).elim) hRf (by simp only [List.map_cons, List.sum_cons, hcat]; show 2 * 0 + _ + 81 ≤ _; omega) C.2.2.2.1
  obtain ⟨f1, f2⟩ := vx_frame hsame
  rewrite [hhp] at f1 f2
  have hWs : s.WarmedH U.vm := State.WarmedH.trans hW0 hW
  have hcl : s.vm.findClass tNS = some ce.cls := by
    rewrite [hvm] at hcf
    exact hcf
  have hall : s.sameButNew ({ U with vm := s.vm } : State) locs u (6 * u) := by
    subst hA
    obtain ⟨e1, e2⟩ := hsame
    rewrite [State.setFrames_setFrames] at e1
    have h2 : (T.setVm s.vm).sameButNew ({ U with vm := s.vm } : State) [] (0 + 1) (0 + 6) := ⟨e1, e2⟩
    have h3 := X0.same.trans h2
    rewrite [List.append_nil] at h3
    exact h3.mono hc hs
  refine ⟨U, ?_, .threw T.heap.size, hrun, hend, Or.inr ⟨T.heap.size, rfl, tNS, ce, locs, t_x C X (by decide) rfl U hWs.alike f1 (fun q hq => f2 q hq (fun z hz => nomatch hz)), hce, hcv, hcl, hWs, hall, X.2.2.2⟩⟩
  refine st1 _ ?_
  show Steps p.tables e below (T1.setTop { method := m, pc := pc + 3, locals := ls, stack := .ref T.heap.size :: rest, locked := none }) _
  have hx := C.1.1
  jvm_step X₁.here [X₁.here.top, hx, d3', Value.category]
  exact X₁.ldcString C.1.1 (own := RX11) (text := tx) (index := ist) (a := aK ii) hown' hstr'.1 hstr'.2
    (g := { method := m, pc := pc + 4, locals := ls, stack := .ref T.heap.size :: .ref T.heap.size :: rest, locked := none }) rfl d4' _ hsteps
theorem t_newNW (C : gC p s m args meth c cc nL RX11 ret D tys xord g Am) (O : tO l g cI cB cZ cQ Am aK aV) (Tb : ∀ x ∈ c.exceptionTable.toList, False) (X : gX D (xcell g cI cB cZ cQ) xord g S s H locs) (hls : ls.size = nL) (hw : sW[ii]? = some (RX11, ist, tx)) (d0 : decode cc pc = .ok (.new 157, 3)) (d3 : decode cc (pc + 3) = .ok (.dup, 1)) (d4 : decode cc (pc + 4) = .ok (.ldc_w ist, 3)) (d6 : decode cc (pc + 7) = .ok (.invokespecial 161, 3)) (d9 : decode cc (pc + 10) = .ok (.athrow, 1))
    (hRf : 5 < R.frames) (hRl : (rest.map fun v => v.category).sum + 82 ≤ R.locals) (hRc : cs + 1 ≤ R.cells) (hRs : sl + 6 ≤ R.slots) (hc : cs + 1 ≤ u) (hs : sl + 6 ≤ 6 * u) : W p l e R s m args below meth c H locs cs sl (gEX below args s D tys (xcell g cI cB cZ cQ) xord g u vd (1, 0, S)) (F0 m pc ls rest) := by
  intro T hT X0
  have hat := t_wordsX C O
  have hA2 := O.2.1 _ _ _ C.2.2.2.2.2
  have hstr := (O.1.2 _ _ _ C.2.2.2.2.2).2.1 ii _ hw
  have htr : e.platform.stackTraces = false := (show e.platform.stackTraces = l.stackTraces by rw [X0.admits.platform]).trans O.2.2
  have Y := vx_rebase X0 (R' := { frames := R.frames, locals := R.locals, cells := 1, slots := 6 }) (Nat.le_refl _) (Nat.le_refl _) hRc hRs
  obtain ⟨s', hA⟩ : ∃ z, z = (T.setVm s.vm).setFrames (.invoking m args :: below) := ⟨_, rfl⟩
  rewrite [← hA] at Y
  have hvm : s'.vm = s.vm := by rw [hA]; rfl
  have hhp : s'.heap = H := by rw [hA]; exact hT
  have hW0 : s.WarmedH s'.vm := by rw [hvm]; exact State.WarmedH.refl s
  have hat' : ∀ w ∈ tX.filter vx_no, w.before args s' = true := fun w hw => vx_ot_at hW0 hvm.symm (to1 w (List.mem_cons_of_mem _ (List.mem_cons_of_mem _ hw))) (hat w hw)
  have hk' : (Cond.classLink RX11 157 tNS).before args s' = true := vx_ot_at hW0 hvm.symm (to1 _ List.mem_cons_self) (C.1.2.2.2.2 _ tc1.1)
  have hini' : (Cond.initialized tNS).before args s' = true := vx_ot_at hW0 hvm.symm (to1 _ (List.mem_cons_of_mem _ List.mem_cons_self)) (C.1.2.2.2.2 _ tc1.2)
  have hU' : vx_Zq Bundle.tN "UNASSIGNED_STACK" Bundle.steD (gA xord g s.heap.size) s' s'.heap := by rw [hhp]; exact vx_Zq.moved hW0.alike (hA2.2.1.kept X.2.2.1)
  have hN' : vx_Zq Bundle.tN "SUPPRESSED_SENTINEL" Bundle.listD (gA xord g s.heap.size) s' s'.heap := by rw [hhp]; exact vx_Zq.moved hW0.alike (hA2.2.2.kept X.2.2.1)
  have h : ∀ w ∈ tX, w.before args s' = true := vx_own hat' (vx_isRefq hU'.1) (vx_isRefq hN'.1) hU'.2.word hN'.2.word
  have hown' : s'.vm.findClass RX11 = some m.cls := by rw [hvm]; exact C.1.2.2.2.1
  obtain ⟨vm₁, cX, kX, hfX, hkX, -, -, X₁, st1⟩ := Y.newCold C.1.1 (own := RX11) (C := tNS) (index := 157) (n := 6) hown' hk' (h _ (tX_5 1 rfl)) hini'
    (g := F0 m pc ls rest) rfl (by rw [C.1.2.1]; exact d0) (Nat.le_refl _) (Nat.le_refl _)
  generalize hT1 : (T.setVm vm₁).pushCell { cls := cX, slots := kX.instanceTypes.map defaultValue, vm := .none } = T1 at X₁ st1
  have hcat : (Value.ref T.heap.size).category = 1 := rfl
  have hcellA : T1.heap[T.heap.size]? = some (freshCell cX kX) := by rw [← hT1]; exact State.heap_pushCell_size _ _
  have d3' : decode c.code (pc + 3) = .ok (.dup, 1) := by rw [C.1.2.1]; exact d3
  have d4' : decode c.code (pc + 4) = .ok (.ldc_w ist, 3) := by rw [C.1.2.1]; exact d4
  have hstr' : vk_R RX11 ist tx (aK ii) s' := vk_R.warm hW0 hstr
  obtain ⟨U, hsteps, hrun, hend, hW, hsame, ce, hce, hcv, hcf⟩ := t_ctor X₁ C.1.1 htr hown' h (fun x hx => nomatch hx) hfX hkX hcellA (by rw [hhp, hT]; exact Nat.le_refl _) (msg := .ref (aK ii)) rfl
    (g := { method := m, pc := pc + 7, locals := ls, stack := .ref (aK ii) :: .ref T.heap.size :: .ref T.heap.size :: rest, locked := none }) rfl (hls.trans C.1.2.2.1.symm) rfl rfl (rest := rest) rfl
    (by rw [C.1.2.1]; exact d6) (by rw [C.1.2.1]; exact d9) (fun x hx => (Tb x hx).elim) hRf (by simp only [List.map_cons, List.sum_cons, hcat]; show 2 * 0 + _ + 81 ≤ _; omega) C.2.2.2.1
  obtain ⟨f1, f2⟩ := vx_frame hsame
  rewrite [hhp] at f1 f2
  have hWs : s.WarmedH U.vm := State.WarmedH.trans hW0 hW
  have hcl : s.vm.findClass tNS = some ce.cls := by
    rewrite [hvm] at hcf
    exact hcf
  have hall : s.sameButNew ({ U with vm := s.vm } : State) locs u (6 * u) := by
    subst hA
    obtain ⟨e1, e2⟩ := hsame
    rewrite [State.setFrames_setFrames] at e1
    have h2 : (T.setVm s.vm).sameButNew ({ U with vm := s.vm } : State) [] (0 + 1) (0 + 6) := ⟨e1, e2⟩
    have h3 := X0.same.trans h2
    rewrite [List.append_nil] at h3
    exact h3.mono hc hs
  refine ⟨U, ?_, .threw T.heap.size, hrun, hend, Or.inr ⟨T.heap.size, rfl, tNS, ce, locs, t_x C X (by decide) rfl U hWs.alike f1 (fun q hq => f2 q hq (fun z hz => nomatch hz)), hce, hcv, hcl, hWs, hall, X.2.2.2⟩⟩
  refine st1 _ ?_
  show Steps p.tables e below (T1.setTop { method := m, pc := pc + 3, locals := ls, stack := .ref T.heap.size :: rest, locked := none }) _
  have hx := C.1.1
  jvm_step X₁.here [X₁.here.top, hx, d3', Value.category]
  exact X₁.ldcStringW C.1.1 (own := RX11) (text := tx) (index := ist) (a := aK ii) hown' hstr'.1 hstr'.2
    (g := { method := m, pc := pc + 4, locals := ls, stack := .ref T.heap.size :: .ref T.heap.size :: rest, locked := none }) rfl d4' _ hsteps
theorem t_newI (C : gC p s m args meth c cc nL RX11 ret D tys xord g Am) (O : tO l g cI cB cZ cQ Am aK aV) (Tb : ∀ x ∈ c.exceptionTable.toList, False) (X : gX D (xcell g cI cB cZ cQ) xord g S s H locs) (hls : ls.size = nL) (hw : sW[ii]? = some (RX11, ist, tx)) (d0 : decode cc pc = .ok (.new 82, 3)) (d3 : decode cc (pc + 3) = .ok (.dup, 1)) (d4 : decode cc (pc + 4) = .ok (.ldc ist, 2)) (d6 : decode cc (pc + 6) = .ok (.invokespecial 86, 3)) (d9 : decode cc (pc + 9) = .ok (.athrow, 1))
    (hRf : 5 < R.frames) (hRl : (rest.map fun v => v.category).sum + 82 ≤ R.locals) (hRc : cs + 1 ≤ R.cells) (hRs : sl + 6 ≤ R.slots) (hc : cs + 1 ≤ u) (hs : sl + 6 ≤ 6 * u) : W p l e R s m args below meth c H locs cs sl (gEX below args s D tys (xcell g cI cB cZ cQ) xord g u vd (2, 0, S)) (F0 m pc ls rest) :=
  have hstr := (O.1.2 _ _ _ C.2.2.2.2.2).2.1 ii _ hw
  vx_throwS (names := tNm) C.1.1 C.1.2.1 O.2.2 C.1.2.2.2.1 (by decide +kernel) (by decide +kernel) (C.1.2.2.2.2 _ tc2.1) (C.1.2.2.2.2 _ tc2.2) hstr (t_words C O tg2 tb2) to2 (O.2.1 _ _ _ C.2.2.2.2.2).2.1 (O.2.1 _ _ _ C.2.2.2.2.2).2.2 X.2 (hls.trans C.1.2.2.1.symm) d0 d3 d4 d6 d9 (fun x hx => (Tb x hx).elim) hRf hRl hRc hRs C.2.2.2.1 (t_x C X (by decide) rfl) X.2.2.2 hc hs
theorem t_newIW (C : gC p s m args meth c cc nL RX11 ret D tys xord g Am) (O : tO l g cI cB cZ cQ Am aK aV) (Tb : ∀ x ∈ c.exceptionTable.toList, False) (X : gX D (xcell g cI cB cZ cQ) xord g S s H locs) (hls : ls.size = nL) (hw : sW[ii]? = some (RX11, ist, tx)) (d0 : decode cc pc = .ok (.new 82, 3)) (d3 : decode cc (pc + 3) = .ok (.dup, 1)) (d4 : decode cc (pc + 4) = .ok (.ldc_w ist, 3)) (d6 : decode cc (pc + 7) = .ok (.invokespecial 86, 3)) (d9 : decode cc (pc + 10) = .ok (.athrow, 1))
    (hRf : 5 < R.frames) (hRl : (rest.map fun v => v.category).sum + 82 ≤ R.locals) (hRc : cs + 1 ≤ R.cells) (hRs : sl + 6 ≤ R.slots) (hc : cs + 1 ≤ u) (hs : sl + 6 ≤ 6 * u) : W p l e R s m args below meth c H locs cs sl (gEX below args s D tys (xcell g cI cB cZ cQ) xord g u vd (2, 0, S)) (F0 m pc ls rest) :=
  have hstr := (O.1.2 _ _ _ C.2.2.2.2.2).2.1 ii _ hw
  vx_throwSW (names := tNm) C.1.1 C.1.2.1 O.2.2 C.1.2.2.2.1 (by decide +kernel) (by decide +kernel) (C.1.2.2.2.2 _ tc2.1) (C.1.2.2.2.2 _ tc2.2) hstr (t_words C O tg2 tb2) to2 (O.2.1 _ _ _ C.2.2.2.2.2).2.1 (O.2.1 _ _ _ C.2.2.2.2.2).2.2 X.2 (hls.trans C.1.2.2.1.symm) d0 d3 d4 d6 d9 (fun x hx => (Tb x hx).elim) hRf hRl hRc hRs C.2.2.2.1 (t_x C X (by decide) rfl) X.2.2.2 hc hs
end TNEW

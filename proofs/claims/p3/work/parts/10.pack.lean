/-! part 01.tbl -/
section
-- ===== PART A: goes FIRST, ahead of the names: the tables' words, and 'selects' of the private methods out of them =====
/-- a private method of a class that the tables say can be made, by its rows of tables_1 -/
def lw_okq (q : MethodName × Nat) : Prop := (q.1.cls ≠ "java/lang/invoke/MethodHandle" ∧ q.1.cls ≠ "java/lang/invoke/VarHandle") ∧ Cond.instantiable q.1.cls q.2 ∈ tables_1 ∧ Cond.privateMethod q.1 ∈ tables_1 ∧ Cond.instanceMethod q.1 ∈ tables_1
theorem lw_c1 {w : Cond} (i : Nat) (h : tables_1_1[i]? = some w) : w ∈ tables_1 := List.mem_append_left _ (List.mem_of_getElem? h)
theorem lw_c2 {w : Cond} (i : Nat) (h : tables_1_2[i]? = some w) : w ∈ tables_1 := List.mem_append_right _ (List.mem_append_left _ (List.mem_of_getElem? h))
theorem lw_c3 {w : Cond} (i : Nat) (h : tables_1_3[i]? = some w) : w ∈ tables_1 := List.mem_append_right _ (List.mem_append_right _ (List.mem_append_left _ (List.mem_of_getElem? h)))
theorem lw_c4 {w : Cond} (i : Nat) (h : tables_1_4[i]? = some w) : w ∈ tables_1 := List.mem_append_right _ (List.mem_append_right _ (List.mem_append_right _ (List.mem_append_left _ (List.mem_of_getElem? h))))
theorem lw_c5 {w : Cond} (i : Nat) (h : tables_1_5[i]? = some w) : w ∈ tables_1 := List.mem_append_right _ (List.mem_append_right _ (List.mem_append_right _ (List.mem_append_right _ (List.mem_append_left _ (List.mem_of_getElem? h)))))
theorem lw_c6 {w : Cond} (i : Nat) (h : tables_1_6[i]? = some w) : w ∈ tables_1 := List.mem_append_right _ (List.mem_append_right _ (List.mem_append_right _ (List.mem_append_right _ (List.mem_append_right _ (List.mem_append_left _ (List.mem_of_getElem? h))))))
theorem lw_c7 {w : Cond} (i : Nat) (h : tables_1_7[i]? = some w) : w ∈ tables_1 := List.mem_append_right _ (List.mem_append_right _ (List.mem_append_right _ (List.mem_append_right _ (List.mem_append_right _ (List.mem_append_right _ (List.mem_append_left _ (List.mem_of_getElem? h)))))))
theorem lw_c8 {w : Cond} (i : Nat) (h : tables_1_8[i]? = some w) : w ∈ tables_1 := List.mem_append_right _ (List.mem_append_right _ (List.mem_append_right _ (List.mem_append_right _ (List.mem_append_right _ (List.mem_append_right _ (List.mem_append_right _ (List.mem_append_left _ (List.mem_of_getElem? h))))))))
theorem lw_c9 {w : Cond} (i : Nat) (h : tables_1_9[i]? = some w) : w ∈ tables_1 := List.mem_append_right _ (List.mem_append_right _ (List.mem_append_right _ (List.mem_append_right _ (List.mem_append_right _ (List.mem_append_right _ (List.mem_append_right _ (List.mem_append_right _ (List.mem_of_getElem? h))))))))
theorem lw_p0 : lw_okq (⟨"GrottoHours", "passHour", "(LGrottoHours$State;I)I"⟩, 10) := ⟨⟨by decide +kernel, by decide +kernel⟩, lw_c1 28 rfl, lw_c2 232 rfl, lw_c2 233 rfl⟩
theorem lw_p1 : lw_okq (⟨"GrottoHours$Walk", "pray", "(LGrottoHours$Town;)V"⟩, 8) := ⟨⟨by decide +kernel, by decide +kernel⟩, lw_c2 65 rfl, lw_c3 25 rfl, lw_c3 26 rfl⟩
theorem lw_p2 : lw_okq (⟨"java/lang/Throwable", "fillInStackTrace", "(I)Ljava/lang/Throwable;"⟩, 6) := ⟨⟨by decide +kernel, by decide +kernel⟩, lw_c3 151 rfl, lw_c3 149 rfl, lw_c3 150 rfl⟩
theorem lw_p3 : lw_okq (⟨"GrottoHours$Tape", "at", "(I)I"⟩, 7) := ⟨⟨by decide +kernel, by decide +kernel⟩, lw_c1 42 rfl, lw_c3 201 rfl, lw_c3 202 rfl⟩
theorem lw_p4 : lw_okq (⟨"GrottoHours$Reader", "isFine", "()Z"⟩, 4) := ⟨⟨by decide +kernel, by decide +kernel⟩, lw_c1 36 rfl, lw_c4 51 rfl, lw_c4 52 rfl⟩
theorem lw_p5 : lw_okq (⟨"GrottoHours$Reader", "readLine", "()V"⟩, 4) := ⟨⟨by decide +kernel, by decide +kernel⟩, lw_c1 36 rfl, lw_c4 55 rfl, lw_c4 56 rfl⟩
theorem lw_p6 : lw_okq (⟨"GrottoHours$Reader", "readGrotto", "(Z)V"⟩, 4) := ⟨⟨by decide +kernel, by decide +kernel⟩, lw_c1 36 rfl, lw_c4 85 rfl, lw_c4 86 rfl⟩
theorem lw_p7 : lw_okq (⟨"GrottoHours$Reader", "refuse", "(I)V"⟩, 4) := ⟨⟨by decide +kernel, by decide +kernel⟩, lw_c1 36 rfl, lw_c4 89 rfl, lw_c4 90 rfl⟩
theorem lw_p8 : lw_okq (⟨"GrottoHours$Reader", "readNumber", "(II)I"⟩, 4) := ⟨⟨by decide +kernel, by decide +kernel⟩, lw_c1 36 rfl, lw_c4 94 rfl, lw_c4 95 rfl⟩
theorem lw_p9 : lw_okq (⟨"GrottoHours$Reader", "readGuild", "()V"⟩, 4) := ⟨⟨by decide +kernel, by decide +kernel⟩, lw_c1 36 rfl, lw_c4 101 rfl, lw_c4 102 rfl⟩
theorem lw_p10 : lw_okq (⟨"GrottoHours$Reader", "readHired", "()I"⟩, 4) := ⟨⟨by decide +kernel, by decide +kernel⟩, lw_c1 36 rfl, lw_c4 106 rfl, lw_c4 107 rfl⟩
theorem lw_p11 : lw_okq (⟨"GrottoHours$Reader", "readWet", "()V"⟩, 4) := ⟨⟨by decide +kernel, by decide +kernel⟩, lw_c1 36 rfl, lw_c4 116 rfl, lw_c4 117 rfl⟩
theorem lw_p12 : lw_okq (⟨"GrottoHours$Reader", "readBound", "()V"⟩, 4) := ⟨⟨by decide +kernel, by decide +kernel⟩, lw_c1 36 rfl, lw_c4 121 rfl, lw_c4 122 rfl⟩
theorem lw_p13 : lw_okq (⟨"GrottoHours$Reader", "readRule", "(LGrottoHours$Rule;)V"⟩, 4) := ⟨⟨by decide +kernel, by decide +kernel⟩, lw_c1 36 rfl, lw_c4 127 rfl, lw_c4 128 rfl⟩
theorem lw_p14 : lw_okq (⟨"GrottoHours$Reader", "readExpr", "(LGrottoHours$Rule;I)V"⟩, 4) := ⟨⟨by decide +kernel, by decide +kernel⟩, lw_c1 36 rfl, lw_c4 132 rfl, lw_c4 133 rfl⟩
theorem lw_p15 : lw_okq (⟨"GrottoHours$Reader", "readAnd", "(LGrottoHours$Rule;I)V"⟩, 4) := ⟨⟨by decide +kernel, by decide +kernel⟩, lw_c1 36 rfl, lw_c4 140 rfl, lw_c4 141 rfl⟩
def lw_privs_1 : List (MethodName × Nat) := [(⟨"GrottoHours", "passHour", "(LGrottoHours$State;I)I"⟩, 10), (⟨"GrottoHours$Walk", "pray", "(LGrottoHours$Town;)V"⟩, 8), (⟨"java/lang/Throwable", "fillInStackTrace", "(I)Ljava/lang/Throwable;"⟩, 6), (⟨"GrottoHours$Tape", "at", "(I)I"⟩, 7), (⟨"GrottoHours$Reader", "isFine", "()Z"⟩, 4), (⟨"GrottoHours$Reader", "readLine", "()V"⟩, 4), (⟨"GrottoHours$Reader", "readGrotto", "(Z)V"⟩, 4), (⟨"GrottoHours$Reader", "refuse", "(I)V"⟩, 4), (⟨"GrottoHours$Reader", "readNumber", "(II)I"⟩, 4), (⟨"GrottoHours$Reader", "readGuild", "()V"⟩, 4), (⟨"GrottoHours$Reader", "readHired", "()I"⟩, 4), (⟨"GrottoHours$Reader", "readWet", "()V"⟩, 4), (⟨"GrottoHours$Reader", "readBound", "()V"⟩, 4), (⟨"GrottoHours$Reader", "readRule", "(LGrottoHours$Rule;)V"⟩, 4), (⟨"GrottoHours$Reader", "readExpr", "(LGrottoHours$Rule;I)V"⟩, 4), (⟨"GrottoHours$Reader", "readAnd", "(LGrottoHours$Rule;I)V"⟩, 4)]
theorem lw_r1 : ∀ q ∈ lw_privs_1, lw_okq q := List.forall_mem_cons.mpr ⟨lw_p0, List.forall_mem_cons.mpr ⟨lw_p1, List.forall_mem_cons.mpr ⟨lw_p2, List.forall_mem_cons.mpr ⟨lw_p3, List.forall_mem_cons.mpr ⟨lw_p4, List.forall_mem_cons.mpr ⟨lw_p5, List.forall_mem_cons.mpr ⟨lw_p6, List.forall_mem_cons.mpr ⟨lw_p7, List.forall_mem_cons.mpr ⟨lw_p8, List.forall_mem_cons.mpr ⟨lw_p9, List.forall_mem_cons.mpr ⟨lw_p10, List.forall_mem_cons.mpr ⟨lw_p11, List.forall_mem_cons.mpr ⟨lw_p12, List.forall_mem_cons.mpr ⟨lw_p13, List.forall_mem_cons.mpr ⟨lw_p14, List.forall_mem_cons.mpr ⟨lw_p15, fun _ h => absurd h List.not_mem_nil⟩⟩⟩⟩⟩⟩⟩⟩⟩⟩⟩⟩⟩⟩⟩⟩
theorem lw_p16 : lw_okq (⟨"GrottoHours$Reader", "readNot", "(LGrottoHours$Rule;I)V"⟩, 4) := ⟨⟨by decide +kernel, by decide +kernel⟩, lw_c1 36 rfl, lw_c4 144 rfl, lw_c4 145 rfl⟩
theorem lw_p17 : lw_okq (⟨"GrottoHours$Reader", "readTest", "(LGrottoHours$Rule;I)V"⟩, 4) := ⟨⟨by decide +kernel, by decide +kernel⟩, lw_c1 36 rfl, lw_c4 149 rfl, lw_c4 150 rfl⟩
theorem lw_p18 : lw_okq (⟨"GrottoHours$Reader", "readSum", "(LGrottoHours$Rule;I)V"⟩, 4) := ⟨⟨by decide +kernel, by decide +kernel⟩, lw_c1 36 rfl, lw_c4 153 rfl, lw_c4 154 rfl⟩
theorem lw_p19 : lw_okq (⟨"GrottoHours$Reader", "readProduct", "(LGrottoHours$Rule;I)V"⟩, 4) := ⟨⟨by decide +kernel, by decide +kernel⟩, lw_c1 36 rfl, lw_c4 157 rfl, lw_c4 158 rfl⟩
theorem lw_p20 : lw_okq (⟨"GrottoHours$Reader", "readPart", "(LGrottoHours$Rule;I)V"⟩, 4) := ⟨⟨by decide +kernel, by decide +kernel⟩, lw_c1 36 rfl, lw_c4 161 rfl, lw_c4 162 rfl⟩
theorem lw_p21 : lw_okq (⟨"GrottoHours$Reader", "skipSign", "(C)V"⟩, 4) := ⟨⟨by decide +kernel, by decide +kernel⟩, lw_c1 36 rfl, lw_c4 165 rfl, lw_c4 166 rfl⟩
theorem lw_p22 : lw_okq (⟨"GrottoHours$Reader", "valueCode", "(LGrottoHours$Rule;)I"⟩, 4) := ⟨⟨by decide +kernel, by decide +kernel⟩, lw_c1 36 rfl, lw_c4 173 rfl, lw_c4 174 rfl⟩
theorem lw_p23 : lw_okq (⟨"GrottoHours", "needGrotto", "(I)V"⟩, 10) := ⟨⟨by decide +kernel, by decide +kernel⟩, lw_c1 28 rfl, lw_c4 238 rfl, lw_c4 239 rfl⟩
theorem lw_p24 : lw_okq (⟨"GrottoHours", "nextDrip", "(I)I"⟩, 10) := ⟨⟨by decide +kernel, by decide +kernel⟩, lw_c1 28 rfl, lw_c5 13 rfl, lw_c5 14 rfl⟩
theorem lw_p25 : lw_okq (⟨"GrottoHours", "dripsAhead", "(II)Z"⟩, 10) := ⟨⟨by decide +kernel, by decide +kernel⟩, lw_c1 28 rfl, lw_c5 17 rfl, lw_c5 18 rfl⟩
theorem lw_p26 : lw_okq (⟨"GrottoHours", "needGuild", "(I)V"⟩, 10) := ⟨⟨by decide +kernel, by decide +kernel⟩, lw_c1 28 rfl, lw_c5 30 rfl, lw_c5 31 rfl⟩
theorem lw_p27 : lw_okq (⟨"GrottoHours", "costNow", "(I)I"⟩, 10) := ⟨⟨by decide +kernel, by decide +kernel⟩, lw_c1 28 rfl, lw_c5 36 rfl, lw_c5 37 rfl⟩
theorem lw_p28 : lw_okq (⟨"GrottoHours", "dripBits", "(I)I"⟩, 10) := ⟨⟨by decide +kernel, by decide +kernel⟩, lw_c1 28 rfl, lw_c5 113 rfl, lw_c5 114 rfl⟩
theorem lw_p29 : lw_okq (⟨"GrottoHours", "needGrottoes", "(I)V"⟩, 10) := ⟨⟨by decide +kernel, by decide +kernel⟩, lw_c1 28 rfl, lw_c5 166 rfl, lw_c5 167 rfl⟩
theorem lw_p30 : lw_okq (⟨"GrottoHours", "nextOf", "(III)I"⟩, 10) := ⟨⟨by decide +kernel, by decide +kernel⟩, lw_c1 28 rfl, lw_c5 172 rfl, lw_c5 173 rfl⟩
theorem lw_p31 : lw_okq (⟨"GrottoHours$Sharing", "bestOf", "(LGrottoHours$Town;LGrottoHours$State;II)I"⟩, 4) := ⟨⟨by decide +kernel, by decide +kernel⟩, lw_c2 104 rfl, lw_c5 213 rfl, lw_c5 214 rfl⟩
def lw_privs_2 : List (MethodName × Nat) := [(⟨"GrottoHours$Reader", "readNot", "(LGrottoHours$Rule;I)V"⟩, 4), (⟨"GrottoHours$Reader", "readTest", "(LGrottoHours$Rule;I)V"⟩, 4), (⟨"GrottoHours$Reader", "readSum", "(LGrottoHours$Rule;I)V"⟩, 4), (⟨"GrottoHours$Reader", "readProduct", "(LGrottoHours$Rule;I)V"⟩, 4), (⟨"GrottoHours$Reader", "readPart", "(LGrottoHours$Rule;I)V"⟩, 4), (⟨"GrottoHours$Reader", "skipSign", "(C)V"⟩, 4), (⟨"GrottoHours$Reader", "valueCode", "(LGrottoHours$Rule;)I"⟩, 4), (⟨"GrottoHours", "needGrotto", "(I)V"⟩, 10), (⟨"GrottoHours", "nextDrip", "(I)I"⟩, 10), (⟨"GrottoHours", "dripsAhead", "(II)Z"⟩, 10), (⟨"GrottoHours", "needGuild", "(I)V"⟩, 10), (⟨"GrottoHours", "costNow", "(I)I"⟩, 10), (⟨"GrottoHours", "dripBits", "(I)I"⟩, 10), (⟨"GrottoHours", "needGrottoes", "(I)V"⟩, 10), (⟨"GrottoHours", "nextOf", "(III)I"⟩, 10), (⟨"GrottoHours$Sharing", "bestOf", "(LGrottoHours$Town;LGrottoHours$State;II)I"⟩, 4)]
theorem lw_r2 : ∀ q ∈ lw_privs_2, lw_okq q := List.forall_mem_cons.mpr ⟨lw_p16, List.forall_mem_cons.mpr ⟨lw_p17, List.forall_mem_cons.mpr ⟨lw_p18, List.forall_mem_cons.mpr ⟨lw_p19, List.forall_mem_cons.mpr ⟨lw_p20, List.forall_mem_cons.mpr ⟨lw_p21, List.forall_mem_cons.mpr ⟨lw_p22, List.forall_mem_cons.mpr ⟨lw_p23, List.forall_mem_cons.mpr ⟨lw_p24, List.forall_mem_cons.mpr ⟨lw_p25, List.forall_mem_cons.mpr ⟨lw_p26, List.forall_mem_cons.mpr ⟨lw_p27, List.forall_mem_cons.mpr ⟨lw_p28, List.forall_mem_cons.mpr ⟨lw_p29, List.forall_mem_cons.mpr ⟨lw_p30, List.forall_mem_cons.mpr ⟨lw_p31, fun _ h => absurd h List.not_mem_nil⟩⟩⟩⟩⟩⟩⟩⟩⟩⟩⟩⟩⟩⟩⟩⟩
theorem lw_p32 : lw_okq (⟨"GrottoHours$Sharing", "behind", "(LGrottoHours$Town;II)I"⟩, 4) := ⟨⟨by decide +kernel, by decide +kernel⟩, lw_c2 104 rfl, lw_c5 217 rfl, lw_c5 218 rfl⟩
theorem lw_p33 : lw_okq (⟨"GrottoHours$Sharing", "worthOf", "(LGrottoHours$Town;III)I"⟩, 4) := ⟨⟨by decide +kernel, by decide +kernel⟩, lw_c2 104 rfl, lw_c5 225 rfl, lw_c5 226 rfl⟩
theorem lw_p34 : lw_okq (⟨"GrottoHours$Sharing", "choice", "(LGrottoHours$Town;LGrottoHours$State;II)I"⟩, 4) := ⟨⟨by decide +kernel, by decide +kernel⟩, lw_c2 104 rfl, lw_c5 230 rfl, lw_c5 231 rfl⟩
theorem lw_p35 : lw_okq (⟨"GrottoHours", "leastOfAllPurses", "(II)I"⟩, 10) := ⟨⟨by decide +kernel, by decide +kernel⟩, lw_c1 28 rfl, lw_c6 13 rfl, lw_c6 14 rfl⟩
theorem lw_p36 : lw_okq (⟨"GrottoHours", "keeps", "(III)Z"⟩, 10) := ⟨⟨by decide +kernel, by decide +kernel⟩, lw_c1 28 rfl, lw_c6 17 rfl, lw_c6 18 rfl⟩
theorem lw_p37 : lw_okq (⟨"GrottoHours", "leastByHalves", "(II)I"⟩, 10) := ⟨⟨by decide +kernel, by decide +kernel⟩, lw_c1 28 rfl, lw_c6 21 rfl, lw_c6 22 rfl⟩
theorem lw_p38 : lw_okq (⟨"GrottoHours$Guess", "doOthersSuit", "(LGrottoHours$Town;LGrottoHours$Seen;I)Z"⟩, 6) := ⟨⟨by decide +kernel, by decide +kernel⟩, lw_c2 128 rfl, lw_c6 64 rfl, lw_c6 65 rfl⟩
theorem lw_p39 : lw_okq (⟨"GrottoHours$Guess", "tryGreeds", "(LGrottoHours$Town;LGrottoHours$Book;LGrottoHours$Walk;I)V"⟩, 6) := ⟨⟨by decide +kernel, by decide +kernel⟩, lw_c2 128 rfl, lw_c6 72 rfl, lw_c6 73 rfl⟩
theorem lw_p40 : lw_okq (⟨"GrottoHours$Guess", "markWorst", "(LGrottoHours$Town;I)V"⟩, 6) := ⟨⟨by decide +kernel, by decide +kernel⟩, lw_c2 128 rfl, lw_c6 76 rfl, lw_c6 77 rfl⟩
theorem lw_p41 : lw_okq (⟨"GrottoHours", "mostChoice", "(I)I"⟩, 10) := ⟨⟨by decide +kernel, by decide +kernel⟩, lw_c1 28 rfl, lw_c6 112 rfl, lw_c6 113 rfl⟩
theorem lw_p42 : lw_okq (⟨"GrottoHours", "isContent", "(IIII)Z"⟩, 10) := ⟨⟨by decide +kernel, by decide +kernel⟩, lw_c1 28 rfl, lw_c6 116 rfl, lw_c6 117 rfl⟩
theorem lw_p43 : lw_okq (⟨"GrottoHours", "gain", "(IIII)I"⟩, 10) := ⟨⟨by decide +kernel, by decide +kernel⟩, lw_c1 28 rfl, lw_c6 120 rfl, lw_c6 121 rfl⟩
theorem lw_p44 : lw_okq (⟨"GrottoHours", "quietHours", "(II)I"⟩, 10) := ⟨⟨by decide +kernel, by decide +kernel⟩, lw_c1 28 rfl, lw_c6 124 rfl, lw_c6 125 rfl⟩
theorem lw_p45 : lw_okq (⟨"GrottoHours", "draw", "(I)I"⟩, 10) := ⟨⟨by decide +kernel, by decide +kernel⟩, lw_c1 28 rfl, lw_c6 136 rfl, lw_c6 137 rfl⟩
theorem lw_p46 : lw_okq (⟨"GrottoHours", "chance", "(I)V"⟩, 10) := ⟨⟨by decide +kernel, by decide +kernel⟩, lw_c1 28 rfl, lw_c6 141 rfl, lw_c6 142 rfl⟩
theorem lw_p47 : lw_okq (⟨"GrottoHoursModel", "fail", "(I)I"⟩, 66) := ⟨⟨by decide +kernel, by decide +kernel⟩, lw_c6 145 rfl, lw_c7 133 rfl, lw_c7 134 rfl⟩
def lw_privs_3 : List (MethodName × Nat) := [(⟨"GrottoHours$Sharing", "behind", "(LGrottoHours$Town;II)I"⟩, 4), (⟨"GrottoHours$Sharing", "worthOf", "(LGrottoHours$Town;III)I"⟩, 4), (⟨"GrottoHours$Sharing", "choice", "(LGrottoHours$Town;LGrottoHours$State;II)I"⟩, 4), (⟨"GrottoHours", "leastOfAllPurses", "(II)I"⟩, 10), (⟨"GrottoHours", "keeps", "(III)Z"⟩, 10), (⟨"GrottoHours", "leastByHalves", "(II)I"⟩, 10), (⟨"GrottoHours$Guess", "doOthersSuit", "(LGrottoHours$Town;LGrottoHours$Seen;I)Z"⟩, 6), (⟨"GrottoHours$Guess", "tryGreeds", "(LGrottoHours$Town;LGrottoHours$Book;LGrottoHours$Walk;I)V"⟩, 6), (⟨"GrottoHours$Guess", "markWorst", "(LGrottoHours$Town;I)V"⟩, 6), (⟨"GrottoHours", "mostChoice", "(I)I"⟩, 10), (⟨"GrottoHours", "isContent", "(IIII)Z"⟩, 10), (⟨"GrottoHours", "gain", "(IIII)I"⟩, 10), (⟨"GrottoHours", "quietHours", "(II)I"⟩, 10), (⟨"GrottoHours", "draw", "(I)I"⟩, 10), (⟨"GrottoHours", "chance", "(I)V"⟩, 10), (⟨"GrottoHoursModel", "fail", "(I)I"⟩, 66)]
theorem lw_r3 : ∀ q ∈ lw_privs_3, lw_okq q := List.forall_mem_cons.mpr ⟨lw_p32, List.forall_mem_cons.mpr ⟨lw_p33, List.forall_mem_cons.mpr ⟨lw_p34, List.forall_mem_cons.mpr ⟨lw_p35, List.forall_mem_cons.mpr ⟨lw_p36, List.forall_mem_cons.mpr ⟨lw_p37, List.forall_mem_cons.mpr ⟨lw_p38, List.forall_mem_cons.mpr ⟨lw_p39, List.forall_mem_cons.mpr ⟨lw_p40, List.forall_mem_cons.mpr ⟨lw_p41, List.forall_mem_cons.mpr ⟨lw_p42, List.forall_mem_cons.mpr ⟨lw_p43, List.forall_mem_cons.mpr ⟨lw_p44, List.forall_mem_cons.mpr ⟨lw_p45, List.forall_mem_cons.mpr ⟨lw_p46, List.forall_mem_cons.mpr ⟨lw_p47, fun _ h => absurd h List.not_mem_nil⟩⟩⟩⟩⟩⟩⟩⟩⟩⟩⟩⟩⟩⟩⟩⟩
theorem lw_p48 : lw_okq (⟨"GrottoHoursModel", "stepOn", "()V"⟩, 66) := ⟨⟨by decide +kernel, by decide +kernel⟩, lw_c6 145 rfl, lw_c7 137 rfl, lw_c7 138 rfl⟩
theorem lw_p49 : lw_okq (⟨"GrottoHoursModel", "byteAt", "(I)I"⟩, 66) := ⟨⟨by decide +kernel, by decide +kernel⟩, lw_c6 145 rfl, lw_c7 141 rfl, lw_c7 142 rfl⟩
theorem lw_p50 : lw_okq (⟨"GrottoHoursModel", "readLine", "(I)I"⟩, 66) := ⟨⟨by decide +kernel, by decide +kernel⟩, lw_c6 145 rfl, lw_c7 156 rfl, lw_c7 157 rfl⟩
theorem lw_p51 : lw_okq (⟨"GrottoHoursModel", "which", "([Ljava/lang/String;)I"⟩, 66) := ⟨⟨by decide +kernel, by decide +kernel⟩, lw_c6 145 rfl, lw_c7 160 rfl, lw_c7 161 rfl⟩
theorem lw_p52 : lw_okq (⟨"GrottoHoursModel", "is", "(Ljava/lang/String;)Z"⟩, 66) := ⟨⟨by decide +kernel, by decide +kernel⟩, lw_c6 145 rfl, lw_c7 164 rfl, lw_c7 165 rfl⟩
theorem lw_p53 : lw_okq (⟨"GrottoHoursModel", "wrong", "(I)V"⟩, 66) := ⟨⟨by decide +kernel, by decide +kernel⟩, lw_c6 145 rfl, lw_c7 173 rfl, lw_c7 174 rfl⟩
theorem lw_p54 : lw_okq (⟨"GrottoHoursModel", "sayOnce", "(I)V"⟩, 66) := ⟨⟨by decide +kernel, by decide +kernel⟩, lw_c6 145 rfl, lw_c7 177 rfl, lw_c7 178 rfl⟩
theorem lw_p55 : lw_okq (⟨"GrottoHoursModel", "sayWets", "()V"⟩, 66) := ⟨⟨by decide +kernel, by decide +kernel⟩, lw_c6 145 rfl, lw_c7 181 rfl, lw_c7 182 rfl⟩
theorem lw_p56 : lw_okq (⟨"GrottoHoursModel", "readNumber", "(II)I"⟩, 66) := ⟨⟨by decide +kernel, by decide +kernel⟩, lw_c6 145 rfl, lw_c7 185 rfl, lw_c7 186 rfl⟩
theorem lw_p57 : lw_okq (⟨"GrottoHoursModel", "numberNow", "(II)I"⟩, 66) := ⟨⟨by decide +kernel, by decide +kernel⟩, lw_c6 145 rfl, lw_c7 189 rfl, lw_c7 190 rfl⟩
theorem lw_p58 : lw_okq (⟨"GrottoHoursModel", "readExpression", "(I)V"⟩, 66) := ⟨⟨by decide +kernel, by decide +kernel⟩, lw_c6 145 rfl, lw_c7 193 rfl, lw_c7 194 rfl⟩
theorem lw_p59 : lw_okq (⟨"GrottoHoursModel", "isMarked", "(I)Z"⟩, 66) := ⟨⟨by decide +kernel, by decide +kernel⟩, lw_c6 145 rfl, lw_c7 197 rfl, lw_c7 198 rfl⟩
theorem lw_p60 : lw_okq (⟨"GrottoHoursModel", "readAnd", "(I)V"⟩, 66) := ⟨⟨by decide +kernel, by decide +kernel⟩, lw_c6 145 rfl, lw_c7 201 rfl, lw_c7 202 rfl⟩
theorem lw_p61 : lw_okq (⟨"GrottoHoursModel", "readNot", "(I)V"⟩, 66) := ⟨⟨by decide +kernel, by decide +kernel⟩, lw_c6 145 rfl, lw_c7 205 rfl, lw_c7 206 rfl⟩
theorem lw_p62 : lw_okq (⟨"GrottoHoursModel", "readSum", "(I)V"⟩, 66) := ⟨⟨by decide +kernel, by decide +kernel⟩, lw_c6 145 rfl, lw_c7 210 rfl, lw_c7 211 rfl⟩
theorem lw_p63 : lw_okq (⟨"GrottoHoursModel", "readProduct", "(I)V"⟩, 66) := ⟨⟨by decide +kernel, by decide +kernel⟩, lw_c6 145 rfl, lw_c7 214 rfl, lw_c7 215 rfl⟩
def lw_privs_4 : List (MethodName × Nat) := [(⟨"GrottoHoursModel", "stepOn", "()V"⟩, 66), (⟨"GrottoHoursModel", "byteAt", "(I)I"⟩, 66), (⟨"GrottoHoursModel", "readLine", "(I)I"⟩, 66), (⟨"GrottoHoursModel", "which", "([Ljava/lang/String;)I"⟩, 66), (⟨"GrottoHoursModel", "is", "(Ljava/lang/String;)Z"⟩, 66), (⟨"GrottoHoursModel", "wrong", "(I)V"⟩, 66), (⟨"GrottoHoursModel", "sayOnce", "(I)V"⟩, 66), (⟨"GrottoHoursModel", "sayWets", "()V"⟩, 66), (⟨"GrottoHoursModel", "readNumber", "(II)I"⟩, 66), (⟨"GrottoHoursModel", "numberNow", "(II)I"⟩, 66), (⟨"GrottoHoursModel", "readExpression", "(I)V"⟩, 66), (⟨"GrottoHoursModel", "isMarked", "(I)Z"⟩, 66), (⟨"GrottoHoursModel", "readAnd", "(I)V"⟩, 66), (⟨"GrottoHoursModel", "readNot", "(I)V"⟩, 66), (⟨"GrottoHoursModel", "readSum", "(I)V"⟩, 66), (⟨"GrottoHoursModel", "readProduct", "(I)V"⟩, 66)]
theorem lw_r4 : ∀ q ∈ lw_privs_4, lw_okq q := List.forall_mem_cons.mpr ⟨lw_p48, List.forall_mem_cons.mpr ⟨lw_p49, List.forall_mem_cons.mpr ⟨lw_p50, List.forall_mem_cons.mpr ⟨lw_p51, List.forall_mem_cons.mpr ⟨lw_p52, List.forall_mem_cons.mpr ⟨lw_p53, List.forall_mem_cons.mpr ⟨lw_p54, List.forall_mem_cons.mpr ⟨lw_p55, List.forall_mem_cons.mpr ⟨lw_p56, List.forall_mem_cons.mpr ⟨lw_p57, List.forall_mem_cons.mpr ⟨lw_p58, List.forall_mem_cons.mpr ⟨lw_p59, List.forall_mem_cons.mpr ⟨lw_p60, List.forall_mem_cons.mpr ⟨lw_p61, List.forall_mem_cons.mpr ⟨lw_p62, List.forall_mem_cons.mpr ⟨lw_p63, fun _ h => absurd h List.not_mem_nil⟩⟩⟩⟩⟩⟩⟩⟩⟩⟩⟩⟩⟩⟩⟩⟩
theorem lw_p64 : lw_okq (⟨"GrottoHoursModel", "readPart", "(I)V"⟩, 66) := ⟨⟨by decide +kernel, by decide +kernel⟩, lw_c6 145 rfl, lw_c7 218 rfl, lw_c7 219 rfl⟩
theorem lw_p65 : lw_okq (⟨"GrottoHoursModel", "lay", "(I)V"⟩, 66) := ⟨⟨by decide +kernel, by decide +kernel⟩, lw_c6 145 rfl, lw_c7 222 rfl, lw_c7 223 rfl⟩
theorem lw_p66 : lw_okq (⟨"GrottoHoursModel", "mark", "(I)V"⟩, 66) := ⟨⟨by decide +kernel, by decide +kernel⟩, lw_c6 145 rfl, lw_c7 226 rfl, lw_c7 227 rfl⟩
theorem lw_p67 : lw_okq (⟨"GrottoHoursModel", "sayCave", "(I)V"⟩, 66) := ⟨⟨by decide +kernel, by decide +kernel⟩, lw_c6 145 rfl, lw_c7 232 rfl, lw_c7 233 rfl⟩
theorem lw_p68 : lw_okq (⟨"GrottoHoursModel", "another", "(II)Z"⟩, 66) := ⟨⟨by decide +kernel, by decide +kernel⟩, lw_c6 145 rfl, lw_c7 236 rfl, lw_c7 237 rfl⟩
theorem lw_p69 : lw_okq (⟨"GrottoHoursModel", "sayGuild", "()V"⟩, 66) := ⟨⟨by decide +kernel, by decide +kernel⟩, lw_c6 145 rfl, lw_c8 1 rfl, lw_c8 2 rfl⟩
theorem lw_p70 : lw_okq (⟨"GrottoHoursModel", "takeOver", "()V"⟩, 66) := ⟨⟨by decide +kernel, by decide +kernel⟩, lw_c6 145 rfl, lw_c8 9 rfl, lw_c8 10 rfl⟩
theorem lw_p71 : lw_okq (⟨"GrottoHoursModel", "wetOf", "()I"⟩, 66) := ⟨⟨by decide +kernel, by decide +kernel⟩, lw_c6 145 rfl, lw_c8 24 rfl, lw_c8 25 rfl⟩
theorem lw_p72 : lw_okq (⟨"GrottoHoursModel", "hiredNow", "()I"⟩, 66) := ⟨⟨by decide +kernel, by decide +kernel⟩, lw_c6 145 rfl, lw_c8 28 rfl, lw_c8 29 rfl⟩
theorem lw_p73 : lw_okq (⟨"GrottoHoursModel", "sumOf", "([I)I"⟩, 66) := ⟨⟨by decide +kernel, by decide +kernel⟩, lw_c6 145 rfl, lw_c8 32 rfl, lw_c8 33 rfl⟩
theorem lw_p74 : lw_okq (⟨"GrottoHoursModel", "isGrotto", "(I)Z"⟩, 66) := ⟨⟨by decide +kernel, by decide +kernel⟩, lw_c6 145 rfl, lw_c8 40 rfl, lw_c8 41 rfl⟩
theorem lw_p75 : lw_okq (⟨"GrottoHoursModel", "hirerOf", "(I)I"⟩, 66) := ⟨⟨by decide +kernel, by decide +kernel⟩, lw_c6 145 rfl, lw_c8 47 rfl, lw_c8 48 rfl⟩
theorem lw_p76 : lw_okq (⟨"GrottoHoursModel", "nextDrip", "(I)I"⟩, 66) := ⟨⟨by decide +kernel, by decide +kernel⟩, lw_c6 145 rfl, lw_c8 51 rfl, lw_c8 52 rfl⟩
theorem lw_p77 : lw_okq (⟨"GrottoHoursModel", "pack", "([II)V"⟩, 66) := ⟨⟨by decide +kernel, by decide +kernel⟩, lw_c6 145 rfl, lw_c8 55 rfl, lw_c8 56 rfl⟩
theorem lw_p78 : lw_okq (⟨"GrottoHoursModel", "drippingNow", "()I"⟩, 66) := ⟨⟨by decide +kernel, by decide +kernel⟩, lw_c6 145 rfl, lw_c8 59 rfl, lw_c8 60 rfl⟩
theorem lw_p79 : lw_okq (⟨"GrottoHoursModel", "comesAt", "(II)Z"⟩, 66) := ⟨⟨by decide +kernel, by decide +kernel⟩, lw_c6 145 rfl, lw_c8 63 rfl, lw_c8 64 rfl⟩
def lw_privs_5 : List (MethodName × Nat) := [(⟨"GrottoHoursModel", "readPart", "(I)V"⟩, 66), (⟨"GrottoHoursModel", "lay", "(I)V"⟩, 66), (⟨"GrottoHoursModel", "mark", "(I)V"⟩, 66), (⟨"GrottoHoursModel", "sayCave", "(I)V"⟩, 66), (⟨"GrottoHoursModel", "another", "(II)Z"⟩, 66), (⟨"GrottoHoursModel", "sayGuild", "()V"⟩, 66), (⟨"GrottoHoursModel", "takeOver", "()V"⟩, 66), (⟨"GrottoHoursModel", "wetOf", "()I"⟩, 66), (⟨"GrottoHoursModel", "hiredNow", "()I"⟩, 66), (⟨"GrottoHoursModel", "sumOf", "([I)I"⟩, 66), (⟨"GrottoHoursModel", "isGrotto", "(I)Z"⟩, 66), (⟨"GrottoHoursModel", "hirerOf", "(I)I"⟩, 66), (⟨"GrottoHoursModel", "nextDrip", "(I)I"⟩, 66), (⟨"GrottoHoursModel", "pack", "([II)V"⟩, 66), (⟨"GrottoHoursModel", "drippingNow", "()I"⟩, 66), (⟨"GrottoHoursModel", "comesAt", "(II)Z"⟩, 66)]
theorem lw_r5 : ∀ q ∈ lw_privs_5, lw_okq q := List.forall_mem_cons.mpr ⟨lw_p64, List.forall_mem_cons.mpr ⟨lw_p65, List.forall_mem_cons.mpr ⟨lw_p66, List.forall_mem_cons.mpr ⟨lw_p67, List.forall_mem_cons.mpr ⟨lw_p68, List.forall_mem_cons.mpr ⟨lw_p69, List.forall_mem_cons.mpr ⟨lw_p70, List.forall_mem_cons.mpr ⟨lw_p71, List.forall_mem_cons.mpr ⟨lw_p72, List.forall_mem_cons.mpr ⟨lw_p73, List.forall_mem_cons.mpr ⟨lw_p74, List.forall_mem_cons.mpr ⟨lw_p75, List.forall_mem_cons.mpr ⟨lw_p76, List.forall_mem_cons.mpr ⟨lw_p77, List.forall_mem_cons.mpr ⟨lw_p78, List.forall_mem_cons.mpr ⟨lw_p79, fun _ h => absurd h List.not_mem_nil⟩⟩⟩⟩⟩⟩⟩⟩⟩⟩⟩⟩⟩⟩⟩⟩
theorem lw_p80 : lw_okq (⟨"GrottoHoursModel", "unpack", "([II)V"⟩, 66) := ⟨⟨by decide +kernel, by decide +kernel⟩, lw_c6 145 rfl, lw_c8 67 rfl, lw_c8 68 rfl⟩
theorem lw_p81 : lw_okq (⟨"GrottoHoursModel", "isGuild", "(I)Z"⟩, 66) := ⟨⟨by decide +kernel, by decide +kernel⟩, lw_c6 145 rfl, lw_c8 75 rfl, lw_c8 76 rfl⟩
theorem lw_p82 : lw_okq (⟨"GrottoHoursModel", "costsOf", "(I)I"⟩, 66) := ⟨⟨by decide +kernel, by decide +kernel⟩, lw_c6 145 rfl, lw_c8 79 rfl, lw_c8 80 rfl⟩
theorem lw_p83 : lw_okq (⟨"GrottoHoursModel", "ruleOf", "([III)I"⟩, 66) := ⟨⟨by decide +kernel, by decide +kernel⟩, lw_c6 145 rfl, lw_c8 83 rfl, lw_c8 84 rfl⟩
theorem lw_p84 : lw_okq (⟨"GrottoHoursModel", "valueNow", "([II)I"⟩, 66) := ⟨⟨by decide +kernel, by decide +kernel⟩, lw_c6 145 rfl, lw_c8 87 rfl, lw_c8 88 rfl⟩
theorem lw_p85 : lw_okq (⟨"GrottoHoursModel", "refuse", "(I)I"⟩, 66) := ⟨⟨by decide +kernel, by decide +kernel⟩, lw_c6 145 rfl, lw_c8 100 rfl, lw_c8 101 rfl⟩
theorem lw_p86 : lw_okq (⟨"GrottoHoursModel", "keep", "()V"⟩, 66) := ⟨⟨by decide +kernel, by decide +kernel⟩, lw_c6 145 rfl, lw_c8 104 rfl, lw_c8 105 rfl⟩
theorem lw_p87 : lw_okq (⟨"GrottoHoursModel", "goOn", "(I)V"⟩, 66) := ⟨⟨by decide +kernel, by decide +kernel⟩, lw_c6 145 rfl, lw_c8 108 rfl, lw_c8 109 rfl⟩
theorem lw_p88 : lw_okq (⟨"GrottoHoursModel", "anHour", "()V"⟩, 66) := ⟨⟨by decide +kernel, by decide +kernel⟩, lw_c6 145 rfl, lw_c8 112 rfl, lw_c8 113 rfl⟩
theorem lw_p89 : lw_okq (⟨"GrottoHoursModel", "pray", "(I)V"⟩, 66) := ⟨⟨by decide +kernel, by decide +kernel⟩, lw_c6 145 rfl, lw_c8 116 rfl, lw_c8 117 rfl⟩
theorem lw_p90 : lw_okq (⟨"GrottoHoursModel", "pay", "(I)V"⟩, 66) := ⟨⟨by decide +kernel, by decide +kernel⟩, lw_c6 145 rfl, lw_c8 120 rfl, lw_c8 121 rfl⟩
theorem lw_p91 : lw_okq (⟨"GrottoHoursModel", "failing", "(I)Z"⟩, 66) := ⟨⟨by decide +kernel, by decide +kernel⟩, lw_c6 145 rfl, lw_c8 128 rfl, lw_c8 129 rfl⟩
theorem lw_p92 : lw_okq (⟨"GrottoHoursModel", "refused", "()Z"⟩, 66) := ⟨⟨by decide +kernel, by decide +kernel⟩, lw_c6 145 rfl, lw_c8 132 rfl, lw_c8 133 rfl⟩
theorem lw_p93 : lw_okq (⟨"GrottoHoursModel", "canConfess", "(I)Z"⟩, 66) := ⟨⟨by decide +kernel, by decide +kernel⟩, lw_c6 145 rfl, lw_c8 144 rfl, lw_c8 145 rfl⟩
theorem lw_p94 : lw_okq (⟨"GrottoHoursModel", "doConfess", "(I)V"⟩, 66) := ⟨⟨by decide +kernel, by decide +kernel⟩, lw_c6 145 rfl, lw_c8 148 rfl, lw_c8 149 rfl⟩
theorem lw_p95 : lw_okq (⟨"GrottoHoursModel", "greatest", "([I)I"⟩, 66) := ⟨⟨by decide +kernel, by decide +kernel⟩, lw_c6 145 rfl, lw_c8 187 rfl, lw_c8 188 rfl⟩
def lw_privs_6 : List (MethodName × Nat) := [(⟨"GrottoHoursModel", "unpack", "([II)V"⟩, 66), (⟨"GrottoHoursModel", "isGuild", "(I)Z"⟩, 66), (⟨"GrottoHoursModel", "costsOf", "(I)I"⟩, 66), (⟨"GrottoHoursModel", "ruleOf", "([III)I"⟩, 66), (⟨"GrottoHoursModel", "valueNow", "([II)I"⟩, 66), (⟨"GrottoHoursModel", "refuse", "(I)I"⟩, 66), (⟨"GrottoHoursModel", "keep", "()V"⟩, 66), (⟨"GrottoHoursModel", "goOn", "(I)V"⟩, 66), (⟨"GrottoHoursModel", "anHour", "()V"⟩, 66), (⟨"GrottoHoursModel", "pray", "(I)V"⟩, 66), (⟨"GrottoHoursModel", "pay", "(I)V"⟩, 66), (⟨"GrottoHoursModel", "failing", "(I)Z"⟩, 66), (⟨"GrottoHoursModel", "refused", "()Z"⟩, 66), (⟨"GrottoHoursModel", "canConfess", "(I)Z"⟩, 66), (⟨"GrottoHoursModel", "doConfess", "(I)V"⟩, 66), (⟨"GrottoHoursModel", "greatest", "([I)I"⟩, 66)]
theorem lw_r6 : ∀ q ∈ lw_privs_6, lw_okq q := List.forall_mem_cons.mpr ⟨lw_p80, List.forall_mem_cons.mpr ⟨lw_p81, List.forall_mem_cons.mpr ⟨lw_p82, List.forall_mem_cons.mpr ⟨lw_p83, List.forall_mem_cons.mpr ⟨lw_p84, List.forall_mem_cons.mpr ⟨lw_p85, List.forall_mem_cons.mpr ⟨lw_p86, List.forall_mem_cons.mpr ⟨lw_p87, List.forall_mem_cons.mpr ⟨lw_p88, List.forall_mem_cons.mpr ⟨lw_p89, List.forall_mem_cons.mpr ⟨lw_p90, List.forall_mem_cons.mpr ⟨lw_p91, List.forall_mem_cons.mpr ⟨lw_p92, List.forall_mem_cons.mpr ⟨lw_p93, List.forall_mem_cons.mpr ⟨lw_p94, List.forall_mem_cons.mpr ⟨lw_p95, fun _ h => absurd h List.not_mem_nil⟩⟩⟩⟩⟩⟩⟩⟩⟩⟩⟩⟩⟩⟩⟩⟩
theorem lw_p96 : lw_okq (⟨"GrottoHoursModel", "isSome", "(I)Z"⟩, 66) := ⟨⟨by decide +kernel, by decide +kernel⟩, lw_c6 145 rfl, lw_c8 210 rfl, lw_c8 211 rfl⟩
theorem lw_p97 : lw_okq (⟨"GrottoHoursModel", "tellLeast", "()V"⟩, 66) := ⟨⟨by decide +kernel, by decide +kernel⟩, lw_c6 145 rfl, lw_c8 226 rfl, lw_c8 227 rfl⟩
theorem lw_p98 : lw_okq (⟨"GrottoHoursModel", "mayHave", "(III)Z"⟩, 66) := ⟨⟨by decide +kernel, by decide +kernel⟩, lw_c6 145 rfl, lw_c8 230 rfl, lw_c8 231 rfl⟩
theorem lw_p99 : lw_okq (⟨"GrottoHoursModel", "with", "(III)I"⟩, 66) := ⟨⟨by decide +kernel, by decide +kernel⟩, lw_c6 145 rfl, lw_c8 234 rfl, lw_c8 235 rfl⟩
theorem lw_p100 : lw_okq (⟨"GrottoHoursModel", "isAsSeen", "()Z"⟩, 66) := ⟨⟨by decide +kernel, by decide +kernel⟩, lw_c6 145 rfl, lw_c9 20 rfl, lw_c9 21 rfl⟩
theorem lw_p101 : lw_okq (⟨"GrottoHoursModel", "tellFits", "()V"⟩, 66) := ⟨⟨by decide +kernel, by decide +kernel⟩, lw_c6 145 rfl, lw_c9 24 rfl, lw_c9 25 rfl⟩
theorem lw_p102 : lw_okq (⟨"GrottoHoursModel", "unlike", "(I)I"⟩, 66) := ⟨⟨by decide +kernel, by decide +kernel⟩, lw_c6 145 rfl, lw_c9 32 rfl, lw_c9 33 rfl⟩
theorem lw_p103 : lw_okq (⟨"GrottoHoursModel", "tellGains", "(II)V"⟩, 66) := ⟨⟨by decide +kernel, by decide +kernel⟩, lw_c6 145 rfl, lw_c9 50 rfl, lw_c9 51 rfl⟩
theorem lw_p104 : lw_okq (⟨"GrottoHoursModel", "something", "()V"⟩, 66) := ⟨⟨by decide +kernel, by decide +kernel⟩, lw_c6 145 rfl, lw_c9 58 rfl, lw_c9 59 rfl⟩
theorem lw_p105 : lw_okq (⟨"GrottoHoursModel", "drawOf", "(I)I"⟩, 66) := ⟨⟨by decide +kernel, by decide +kernel⟩, lw_c6 145 rfl, lw_c9 62 rfl, lw_c9 63 rfl⟩
def lw_privs_7 : List (MethodName × Nat) := [(⟨"GrottoHoursModel", "isSome", "(I)Z"⟩, 66), (⟨"GrottoHoursModel", "tellLeast", "()V"⟩, 66), (⟨"GrottoHoursModel", "mayHave", "(III)Z"⟩, 66), (⟨"GrottoHoursModel", "with", "(III)I"⟩, 66), (⟨"GrottoHoursModel", "isAsSeen", "()Z"⟩, 66), (⟨"GrottoHoursModel", "tellFits", "()V"⟩, 66), (⟨"GrottoHoursModel", "unlike", "(I)I"⟩, 66), (⟨"GrottoHoursModel", "tellGains", "(II)V"⟩, 66), (⟨"GrottoHoursModel", "something", "()V"⟩, 66), (⟨"GrottoHoursModel", "drawOf", "(I)I"⟩, 66)]
theorem lw_r7 : ∀ q ∈ lw_privs_7, lw_okq q := List.forall_mem_cons.mpr ⟨lw_p96, List.forall_mem_cons.mpr ⟨lw_p97, List.forall_mem_cons.mpr ⟨lw_p98, List.forall_mem_cons.mpr ⟨lw_p99, List.forall_mem_cons.mpr ⟨lw_p100, List.forall_mem_cons.mpr ⟨lw_p101, List.forall_mem_cons.mpr ⟨lw_p102, List.forall_mem_cons.mpr ⟨lw_p103, List.forall_mem_cons.mpr ⟨lw_p104, List.forall_mem_cons.mpr ⟨lw_p105, fun _ h => absurd h List.not_mem_nil⟩⟩⟩⟩⟩⟩⟩⟩⟩⟩
def lw_privs : List (MethodName × Nat) := lw_privs_1 ++ (lw_privs_2 ++ (lw_privs_3 ++ (lw_privs_4 ++ (lw_privs_5 ++ (lw_privs_6 ++ (lw_privs_7))))))
def lw_tbl : List Cond := k2_sels lw_privs ++ tables_1
theorem lw_privs_ok : ∀ q ∈ lw_privs, lw_okq q := by
  show ∀ q ∈ lw_privs_1 ++ (lw_privs_2 ++ (lw_privs_3 ++ (lw_privs_4 ++ (lw_privs_5 ++ (lw_privs_6 ++ (lw_privs_7)))))), lw_okq q
  exact List.forall_mem_append.mpr ⟨lw_r1, List.forall_mem_append.mpr ⟨lw_r2, List.forall_mem_append.mpr ⟨lw_r3, List.forall_mem_append.mpr ⟨lw_r4, List.forall_mem_append.mpr ⟨lw_r5, List.forall_mem_append.mpr ⟨lw_r6, lw_r7⟩⟩⟩⟩⟩⟩
end

/-! part 02.laws -/
section
/-- an array over arrays of t: the word that va_mna asks for (the printed text names it without saying it) -/
def va_AOA (t : FieldType) (U : State) : Prop := (Cond.arrayOver (.array t)).before #[] U = true
theorem va_AOA.use {t : FieldType} {A : Array Value} {U : State} (h : va_AOA t U) : (Cond.arrayOver (.array t)).before A U = true := h
/-! ===== BEGIN words of one list among another's, by their places ===== -/
theorem goodIn_r {big : List Cond} (ws : List Cond) (ps : List Nat) (hp : ws = ps.filterMap (fun i => big[i]?)) (h : ws.all goodWord = true) : GoodIn big ws := by
  intro w hw
  have h1 := List.all_eq_true.mp h w hw
  rw [hp] at hw
  obtain ⟨i, -, hi⟩ := List.mem_filterMap.mp hw
  have hm : w ∈ big := by first | exact List.mem_of_getElem? hi | exact List.getElem?_mem hi
  exact ⟨hm, good_of_word h1⟩
theorem goodIn_app {big a b : List Cond} (ha : GoodIn big a) (hb : GoodIn big b) : GoodIn big (a ++ b) := fun w h => (List.mem_append.mp h).elim (ha w) (hb w)
theorem goodIn_ca {big a b : List Cond} {c : Cond} (ha : GoodIn big (c :: a)) (hb : GoodIn big b) : GoodIn big (c :: (a ++ b)) := fun w h => (List.mem_cons.mp h).elim (fun e => ha w (List.mem_cons.mpr (Or.inl e))) (fun h => (List.mem_append.mp h).elim (fun h => ha w (List.mem_cons.mpr (Or.inr h))) (hb w))
theorem goodIn_sub {big ws : List Cond} (hm : ∀ w ∈ ws, w ∈ big) (h : ws.all goodWord = true) : GoodIn big ws := fun w hw => ⟨hm w hw, good_of_word (List.all_eq_true.mp h w hw)⟩
/-! ===== END ===== -/

/-! ===== BEGIN new T[n][m]: the outer array a place, the inner ones among the pooled ===== -/
/-- f, but v at every address of l -/
def vr_up {α : Type} (f : Nat → α) (l : List Nat) (v : α) : Nat → α := fun a => if a ∈ l then v else f a
theorem vr_up_in {α : Type} {f : Nat → α} {l : List Nat} {v : α} {a : Nat} (h : a ∈ l) : vr_up f l v a = v := if_pos h
theorem vr_up_ne {α : Type} {f : Nat → α} {l : List Nat} {v : α} {a : Nat} (h : a ∉ l) : vr_up f l v a = f a := if_neg h
theorem vr_rows {L l : List Nat} {f : Nat → va_E} {e : va_E} (h : ∀ a, a ∈ l → a ∉ L) : va_pl L f ++ l.map (fun a => (a, e)) = va_pl (L ++ l) (vr_up f l e) := by
  unfold va_pl
  rw [List.map_append]
  congr 1
  · apply List.map_congr_left
    intro a ha
    rw [vr_up_ne (fun q => h a q ha)]
  · apply List.map_congr_left
    intro a ha
    rw [vr_up_in ha]
theorem vr_lay {X rows : va_W} {x : Nat × va_E} {pl : va_W} {D : va_G} {cl : List vw_C} {H : Heap} (hP : va_P D cl (((X ++ pl) ++ [x]) ++ rows) H) : va_P D cl ((X ++ [x]) ++ (pl ++ rows)) H := by
  rw [List.append_assoc (X ++ pl)] at hP
  have h := va_P.swap hP
  rw [← List.append_assoc X] at h
  have h2 := va_P.swap h
  rw [List.append_assoc (X ++ [x])] at h2
  exact h2
theorem vr_layD {X rows : va_W} {x : Nat × va_E} {pl : va_W} {A : Nat → Prop} (hD : va_D A (((X ++ pl) ++ [x]) ++ rows)) : va_D A ((X ++ [x]) ++ (pl ++ rows)) := by
  rw [List.append_assoc (X ++ pl)] at hD
  have h := va_D.swap hD
  rw [← List.append_assoc X] at h
  have h2 := va_D.swap h
  rw [List.append_assoc (X ++ [x])] at h2
  exact h2
theorem vr_outer (c : ClassId) (N h0 : Nat) : ∀ i : Nat, Jvm.Free.Multi.outerC c N h0 i = arrV c N (fun j => va_rf (if j < i then some (h0 + 1 + j) else none))
  | 0 => by
    show ({ cls := c, slots := Array.replicate N .null, vm := .none } : Cell) = _
    rw [arrV_new]
    refine congrArg (arrV c N) (funext fun j => ?_)
    simp [va_rf]
  | i + 1 => by
    show (Jvm.Free.Multi.outerC c N h0 i).setSlot i (.ref (h0 + 1 + i)) = _
    rw [vr_outer c N h0 i, arrV_store]
    refine congrArg (arrV c N) (funext fun j => ?_)
    by_cases e : j = i
    · subst e
      simp [updV, va_rf]
    · by_cases h : j < i
      · simp [updV, e, h, Nat.lt_succ_of_lt h]
      · simp [updV, e, h, show ¬ j < i + 1 by omega]
section VGM
variable {p : Program} {l : Launch} {e : Env} {R : Room} {s : State} {m : MethodId} {args : Array Value} {below : List Frame} {meth : Method} {c : Code} {H : Heap} {locs : List Loc} {cells slots : Nat} {Q : State → Prop}
variable {cc : ByteArray} {pc : Nat} {ls : Array Slot} {rest : List Value} {D : va_G} {cl : List vw_C} {A : Nat → Prop} {a : Nat} {tys : List (ClassId × FieldType)} {ws : va_W} {H0 : Heap}
theorem va_mna {X : va_W} {L : List Nat} {f : Nat → va_E} {cc : ByteArray} (hexec : p.tables.exec = Jvm.exec) (hb : c.code = cc) {own : String} {index : Nat} {ty : FieldType} {cy : ClassId} (hown : s.vm.findClass own = some m.cls) (hclink : (Cond.classLink own index ("[" ++ (FieldType.array ty).toString)).before args s = true) (hover : va_AOA ty s) (harr : (Cond.arrayClass ty).before args s = true) (hcy : s.vm.findClass (FieldType.array ty).toString = some cy)
    (hK : va_K D cl tys s) (hP : va_P D cl (X ++ va_pl L f) H) (hD : va_D A (X ++ va_pl L f)) (hS : va_S A H0 H locs) (hA : ∀ q, H0.size ≤ q → A q) {n k : Int32} {N' K' : Nat} {z : vp_A} (hn : ¬ n < 0) (hk : ¬ k < 0) (hN : n.toNatClampNeg = N') (hM : k.toNatClampNeg = K')
    (hb1 : N' * 4 ≤ 536870912) (hb2 : K' * componentBytes ty ≤ 536870912) (hb3 : K' ≤ 536870912) (hdf : fits ty (defaultValue ty) = true) (hdd : (defaultValue ty).isDefault = true) (hcells : cells + (1 + N') ≤ R.cells) (hslots : slots + (N' + N' * K') ≤ R.slots) (hz : ∀ c : ClassId, Jvm.Free.Multi.innerC c K' (defaultValue ty) = vp_cell c z) (hdg : decode cc pc = .ok (.multianewarray index 2, 4))
    (kk : ∀ (q : Nat) (r : Nat → Nat) (cA : ClassId) (H1 : Heap), (∀ i j : Nat, i < N' → j < N' → r i = r j → i = j) → (∀ i : Nat, i < N' → r i ∉ L) → va_K D cl (tys ++ [(cA, .array ty)]) s →
      va_P D cl ((X ++ [(q, .inl (cA, N', .inr (.inr (.inr (.inr (fun i => if i < N' then some (r i) else none))))))]) ++ va_pl (L ++ (List.range N').map r) (vr_up f ((List.range N').map r) (.inl (cy, z)))) H1 → va_D A ((X ++ [(q, .inl (cA, N', .inr (.inr (.inr (.inr (fun i => if i < N' then some (r i) else none))))))]) ++ va_pl (L ++ (List.range N').map r) (vr_up f ((List.range N').map r) (.inl (cy, z)))) → va_S A H0 H1 locs →
      W p l e R s m args below meth c H1 locs (cells + 1 + N') (slots + N' + N' * K') Q (F0 m (pc + 4) ls (.ref q :: rest))) : W p l e R s m args below meth c H locs cells slots Q (F0 m pc ls (.int k :: .int n :: rest)) := by
  subst hN
  subst hM
  intro T hT Xs
  obtain ⟨vm₁, cA, comp, -, fA, fC, hO, -, X', step⟩ := Xs.multianewarray2F hexec hown hclink (va_AOA.use hover) harr (g := F0 m pc ls (.int k :: .int n :: rest)) rfl (by rw [hb]; exact hdg) rfl hn hk hb1 hb2 hb3 hdf hdd hcells hslots
  have ec : some cy = some comp := hcy.symm.trans fC
  cases ec
  generalize hF : Jvm.Free.Multi.fill (T.setVm vm₁) cA cy n.toNatClampNeg k.toNatClampNeg (defaultValue ty) n.toNatClampNeg = F at X' step
  have hTh : (T.setVm vm₁).heap = H := hT
  obtain ⟨f1, f2, -, -⟩ := Jvm.Free.Multi.fill_facts (T.setVm vm₁) cA cy n.toNatClampNeg k.toNatClampNeg (defaultValue ty) n.toNatClampNeg
  rw [hF, hTh] at f1 f2
  have hold : ∀ x : Nat, x < H.size → F.heap[x]? = H[x]? := fun x hx => by
    have := Jvm.Free.Multi.fill_old (T.setVm vm₁) cA cy n.toNatClampNeg k.toNatClampNeg (defaultValue ty) (a := x) (by rw [hTh]; exact hx) n.toNatClampNeg
    rw [hF, hTh] at this
    exact this
  have hrow : ∀ j : Nat, j < n.toNatClampNeg → F.heap[H.size + 1 + j]? = some (vp_cell cy z) := fun j hj => by
    have := Jvm.Free.Multi.fill_inner (T.setVm vm₁) cA cy n.toNatClampNeg k.toNatClampNeg (defaultValue ty) n.toNatClampNeg j hj
    rw [hF, hTh, hz] at this
    exact this
  have hout : Jvm.Free.Multi.outerC cA n.toNatClampNeg H.size n.toNatClampNeg = vp_cell cA (n.toNatClampNeg, .inr (.inr (.inr (.inr (fun i => if i < n.toNatClampNeg then some (H.size + 1 + i) else none))))) := by
    rw [vp_cell_q]
    exact vr_outer cA n.toNatClampNeg H.size n.toNatClampNeg
  rw [hout] at f2
  have hlt : ∀ a, a ∈ L → a < H.size := fun a ha => by
    obtain ⟨k9, hk9⟩ := va_pl_get (X := X) (f := f) ha
    exact (hP k9 _ hk9).lt
  have hnl : ∀ i : Nat, i < n.toNatClampNeg → H.size + 1 + i ∉ L := fun i _ h => by
    have := hlt _ h
    omega
  have hnm : ∀ a, a ∈ (List.range n.toNatClampNeg).map (fun i => H.size + 1 + i) → a ∉ L := fun a ha h => by
    obtain ⟨i, -, rfl⟩ := List.mem_map.mp ha
    have := hlt _ h
    omega
  have hP0 : va_P D cl (X ++ va_pl L f) F.heap := hP.kept (fun k9 x hx => hold x.1 ((hP k9 x hx).lt))
  have hP1 : va_P D cl ((X ++ va_pl L f) ++ [(H.size, .inl (cA, n.toNatClampNeg, .inr (.inr (.inr (.inr (fun i => if i < n.toNatClampNeg then some (H.size + 1 + i) else none))))))]) F.heap := hP0.app (fun k9 x hx => by
    have h0 : k9 < 1 := (List.getElem?_eq_some_iff.mp hx).1
    rw [show k9 = 0 by omega] at hx
    cases hx
    exact f2)
  have hP2 : va_P D cl (((X ++ va_pl L f) ++ [(H.size, .inl (cA, n.toNatClampNeg, .inr (.inr (.inr (.inr (fun i => if i < n.toNatClampNeg then some (H.size + 1 + i) else none))))))]) ++ ((List.range n.toNatClampNeg).map (fun i => H.size + 1 + i)).map (fun a => (a, .inl (cy, z)))) F.heap := hP1.app (fun k9 x hx => by
    obtain ⟨a, ha, rfl⟩ := List.mem_map.mp (List.mem_of_getElem? hx)
    obtain ⟨i, hi, rfl⟩ := List.mem_map.mp ha
    exact hrow i (List.mem_range.mp hi))
  have hD2 : va_D A (((X ++ va_pl L f) ++ [(H.size, .inl (cA, n.toNatClampNeg, .inr (.inr (.inr (.inr (fun i => if i < n.toNatClampNeg then some (H.size + 1 + i) else none))))))]) ++ ((List.range n.toNatClampNeg).map (fun i => H.size + 1 + i)).map (fun a => (a, .inl (cy, z)))) := by
    have hD1 := hD.push (e := .inl (cA, n.toNatClampNeg, .inr (.inr (.inr (.inr (fun i => if i < n.toNatClampNeg then some (H.size + 1 + i) else none)))))) hP rfl (hA _ hS.1)
    generalize hW1 : (X ++ va_pl L f) ++ [(H.size, .inl (cA, n.toNatClampNeg, .inr (.inr (.inr (.inr (fun i => if i < n.toNatClampNeg then some (H.size + 1 + i) else none))))))] = W1 at hD1 hP1 ⊢
    have hle : ∀ (k9 : Nat) (x : Nat × va_E), W1[k9]? = some x → x.1 ≤ H.size := fun k9 x hx => by
      rw [← hW1] at hx
      by_cases hl : k9 < (X ++ va_pl L f).length
      · rw [List.getElem?_append_left hl] at hx
        exact Nat.le_of_lt ((hP k9 x hx).lt)
      · rw [List.getElem?_append_right (by omega)] at hx
        have h0 : k9 - (X ++ va_pl L f).length < 1 := (List.getElem?_eq_some_iff.mp hx).1
        rw [show k9 - (X ++ va_pl L f).length = 0 by omega] at hx
        cases hx
        exact Nat.le_refl _
    have hr : ∀ (k9 : Nat) (x : Nat × va_E), (((List.range n.toNatClampNeg).map (fun i => H.size + 1 + i)).map (fun a => ((a, .inl (cy, z)) : Nat × va_E)))[k9]? = some x → x.1 = H.size + 1 + k9 := fun k9 x hx => by
      rw [List.getElem?_map, List.getElem?_map] at hx
      by_cases h9 : k9 < n.toNatClampNeg
      · rw [List.getElem?_range h9] at hx
        cases hx
        rfl
      · have hn0 : (List.range n.toNatClampNeg)[k9]? = none := List.getElem?_eq_none (by rw [List.length_range]; omega)
        rw [hn0] at hx
        cases hx
    refine ⟨fun i j x y hi hj hxy => ?_, fun k9 x hx => ?_⟩
    · by_cases h1 : i < W1.length <;> by_cases h2 : j < W1.length
      · rw [List.getElem?_append_left h1] at hi
        rw [List.getElem?_append_left h2] at hj
        exact hD1.1 i j x y hi hj hxy
      · rw [List.getElem?_append_left h1] at hi
        rw [List.getElem?_append_right (by omega)] at hj
        have := hle _ _ hi
        have := hr _ _ hj
        omega
      · rw [List.getElem?_append_right (by omega)] at hi
        rw [List.getElem?_append_left h2] at hj
        have := hle _ _ hj
        have := hr _ _ hi
        omega
      · rw [List.getElem?_append_right (by omega)] at hi hj
        have := hr _ _ hi
        have := hr _ _ hj
        omega
    · by_cases h1 : k9 < W1.length
      · rw [List.getElem?_append_left h1] at hx
        exact hD1.2 k9 x hx
      · rw [List.getElem?_append_right (by omega)] at hx
        have := hr _ _ hx
        exact hA _ (by have := hS.1; omega)
  have hAr : ArrOfT s cA (.array ty) := fun N9 z9 => by
    obtain ⟨-, k9, hk9, cm9, hkk9⟩ := (hO 0 0 0).1
    exact ⟨(fun q hq => by cases hq), k9, hk9, cm9, hkk9⟩
  have hK2 : va_K D cl (tys ++ [(cA, .array ty)]) s := ⟨hK.1, fun k9 x hx => by
    by_cases hl : k9 < tys.length
    · rw [List.getElem?_append_left hl] at hx
      exact hK.2 k9 x hx
    · rw [List.getElem?_append_right (by omega)] at hx
      have h0 : k9 - tys.length < 1 := (List.getElem?_eq_some_iff.mp hx).1
      rw [show k9 - tys.length = 0 by omega] at hx
      cases hx
      exact ⟨hAr, fA⟩⟩
  obtain ⟨t, a1, b1⟩ := kk H.size (fun i => H.size + 1 + i) cA F.heap (fun i j _ _ h => by have h9 : H.size + 1 + i = H.size + 1 + j := h; omega) hnl hK2 (by rw [← vr_rows hnm]; exact vr_lay hP2) (by rw [← vr_rows hnm]; exact vr_layD hD2) ⟨by rw [f1]; have := hS.1; omega, fun x h1 h2 => (hold x (Nat.lt_of_lt_of_le h1 hS.1)).trans (hS.2.1 x h1 h2), hS.2.2⟩ F rfl X'
  refine ⟨t, step t ?_, b1⟩
  have e : T.heap.size = H.size := by rw [hT]
  rw [e]
  exact a1
end VGM
/-! ===== END ===== -/

/-! ===== BEGIN exceptions that leave a method, and their catching by the caller (launches without stack traces) ===== -/
section VXA
/-! The laws vx_back, vx_callV, vx_callS, vx_callSW, vx_throw0, vx_throwS follow proofs of the library, with one case more: JvmDerived/Free/Laws.lean (Back.of_free), Shelf42/LK1.lean (callV, callS), Shelf/KitTraced.lean (throwNew0V, throwNewS). -/
/-- where a method has thrown q: the class by its name, the cell, what was written, the world -/
def vx_T (XC : String → State → State → Prop) (st : State) (q : Addr) (t : State) (mc ms : Nat) (free : Addr → Prop) : Prop :=
  ∃ (E : String) (ce : Cell) (L : List Loc), XC E st t ∧ t.heap[q]? = some ce ∧ ce.vm = .none ∧ st.vm.findClass E = some ce.cls ∧ st.WarmedH t.vm ∧ st.sameButNew ({ t with vm := st.vm } : State) L mc ms ∧ ∀ z ∈ L, free z.base
def vx_Q (Qc : Array Value → State → Outcome → State → Prop) (XC : String → State → State → Prop) (mc ms : Nat) (free : Addr → Prop) : Array Value → State → Outcome → State → Prop := fun a st o t =>
  (Qc a st o t ∧ ∃ L, FrameEnd st o t L mc ms ∧ ∀ q ∈ L, free q.base) ∨ ∃ q, o = .threw q ∧ vx_T XC st q t mc ms free
/-- a callee that returns or throws -/
def vx_Met (l : Launch) (y : MethodName) (ws : List Cond) (rm : Room) (Pc : Array Value → State → Prop) (Qc : Array Value → State → Outcome → State → Prop) (XC : String → State → State → Prop) (mc ms : Nat) (free : Addr → Prop) : Prop :=
  MetFree l y (headSpec ws rm) Pc (fun _ _ _ _ _ => True) (vx_Q Qc XC mc ms free)
def vx_Post (XC : String → State → State → Prop) (mc ms : Nat) (free : Addr → Prop) : Pt → Array Value → Addr → Pt → Prop := fun A a q B =>
  ∃ (g : JFrame) (mk : MethodId) (t : State) (L : List Loc) (E : String) (ce : Cell), B.U.heap = t.heap ∧ B.U.vm = t.vm ∧ XC E (A.U.calling g mk a) t ∧ t.heap[q]? = some ce ∧ ce.vm = .none ∧ A.U.vm.findClass E = some ce.cls ∧ B.locs = A.locs ++ L ∧ (∀ z ∈ L, free z.base) ∧ B.cells = A.cells + mc ∧ B.slots = A.slots + ms
def vx_Back (l : Launch) (R : Room) (p : Program) (e : Env) (below : List Frame) (s : State) (sargs : Array Value) (y : MethodName) (len W9 : Nat)
    (Pre : Pt → Array Value → Prop) (Post : Pt → Array Value → Option Value → Pt → Prop) (PostX : Pt → Array Value → Addr → Pt → Prop) : Prop :=
  ∀ (m : MethodId) (meth : Method) (c : Code) (A : Pt) (g : JFrame) (ig : Instr) (mk : MethodId) (a : Array Value),
    Stand p l e R s m sargs below meth c A.U A.locs A.cells A.slots → g.method = m → g.locals.size = c.maxLocals → decode c.code g.pc = .ok (ig, len) →
    2 * g.monitorRoom + (g.stack.map fun v => v.category).sum ≤ W9 → A.U.methodNamed? y = some mk → Pre A a →
    (∃ (v : Option Value) (B : Pt), Stand p l e R s m sargs below meth c B.U B.locs B.cells B.slots ∧ Post A a v B ∧
      Steps p.tables e below (doInvoke e (A.U.setTop g) [] mk a).1 (B.U.setTop { g with pc := g.pc + len, stack := v.toList ++ g.stack })) ∨
    (∃ (q : Addr) (B : Pt), Stand p l e R s m sargs below meth c B.U B.locs B.cells B.slots ∧ PostX A a q B ∧
      Steps p.tables e below (doInvoke e (A.U.setTop g) [] mk a).1 ((B.U.setTop g).pushFrame (.throwing q)))
section Payer
variable {l : Launch} {R : Room} {p : Program} {e : Env} {below : List Frame} {s : State} {sargs : Array Value} {y : MethodName} {len W9 : Nat}
theorem vx_back {ws : List Cond} {rm : Room} {Pc : Array Value → State → Prop} {Qc : Array Value → State → Outcome → State → Prop} {XC : String → State → State → Prop} {mc ms : Nat} {free : Addr → Prop} {bytes : ByteArray} {maxL : Nat} {ret : Option FieldType}
    (hM : vx_Met l y ws rm Pc Qc XC mc ms free) (hblind : FrameBlind Pc) (hrc : rm.cells = mc) (hrs : rm.slots = ms)
    (hframes : rm.frames + 1 ≤ R.frames) (hlocals : W9 + (maxL + 11) + rm.locals ≤ R.locals)
    (hws : ∀ w ∈ ws, ∀ a' U, s.WarmedH U.vm → w.before a' U = true) (hcode : Cond.code y bytes maxL ret ∈ ws) (hinit : ∀ a' U, s.WarmedH U.vm → (Cond.initialized y.cls).before a' U = true) :
    vx_Back l R p e below s sargs y len W9 (PreOf R mc ms Pc) (PostOf Qc mc ms free) (vx_Post XC mc ms free) := by
  intro m meth c A g ig mk a X hg hsize hdg hW hn hp
  have h1 : (headSpec ws rm).pre.before a A.U = true := atoms_intro fun w hw => hws w hw _ _ X.warmed
  have h2 : (Cond.code y bytes maxL ret).before a A.U = true := hws _ hcode _ _ X.warmed
  have h3 : (Cond.initialized y.cls).before a A.U = true := hinit _ _ X.warmed
  have h4 : A.cells + (headSpec ws rm).room.cells ≤ R.cells := by rw [show (headSpec ws rm).room.cells = mc from hrc]; exact hp.1
  have h5 : A.slots + (headSpec ws rm).room.slots ≤ R.slots := by rw [show (headSpec ws rm).room.slots = ms from hrs]; exact hp.2.1
  have hPc : Pc a (A.U.calling g mk a) := hblind _ _ _ _ hp.2.2
  obtain ⟨U, Ls, c0, s0⟩ := A
  dsimp only [Pt.U, Pt.locs, Pt.cells, Pt.slots] at h1 h2 h3 h4 h5 X hn hPc ⊢
  obtain ⟨methY, cY, hmY, hcY, -, hlY, -, -, -, -⟩ := Cond.code_spec hn h2
  obtain ⟨kY, hkY, -⟩ := className_of_methodNamed hn
  have hinitY : kY.init = .initialized := Cond.initialized_spec (findClass_of_methodNamed hn) hkY h3
  have h : At U g.method c below := by rw [hg]; exact X.here
  have hlocals9 : W9 + (maxL + 11) + (headSpec ws rm).room.locals ≤ R.locals := hlocals
  have happ : (headSpec ws rm).appliesLoose y e.platform (U.calling g mk a) = true :=
    Spec.appliesLoose_calling (g := g) h hdg hn hkY hinitY
      (X.room_calling (g := g) (R' := (headSpec ws rm).room) hsize hmY hcY hframes (by rw [hlY]; omega) h4 h5) h1
  obtain ⟨mid, hmid⟩ := h.above
  have hfr : (U.setTop g).frames = (.java g :: mid) ++ below := by rw [State.frames_setTop' g h.top, hmid]; rfl
  obtain ⟨o, s₂, hsteps, -, hend, hq⟩ := Steps.callFree hM p X.admits X.cas X.clock (acts := []) hfr happ hPc trivial
  have hq' : vx_Q Qc XC mc ms free a (U.calling g mk a) o s₂ := hq
  rw [State.frames_setTop' g h.top] at hend
  obtain ⟨g₀, hg0⟩ := Option.isSome_iff_exists.mp h.top
  obtain ⟨r, hr⟩ := State.topJava?_eq_some.mp hg0
  have hr' : (({ U with heap := s₂.heap, slotsUsed := s₂.slotsUsed } : State).setVm s₂.vm).frames = .java g₀ :: r := hr
  rcases hq' with ⟨hqc, L, hfe, hL⟩ | ⟨q, rfl, E, ce, L, hx, hce, hcv, hcl, hW₂, hsm, hL⟩
  · obtain ⟨⟨v, rfl⟩, hW₂, e2, q2, q3, q4, q5, q6⟩ := id hfe
    have e3 : s₂ = ({ (U.calling g mk a).setFrames s₂.frames with heap := s₂.heap, slotsUsed := s₂.slotsUsed } : State).setVm s₂.vm := by
      have : s₂ = ({ s₂ with vm := (U.calling g mk a).vm } : State).setVm s₂.vm := rfl
      rw [e2] at this
      exact this
    obtain ⟨c₂, i₂, len₂, hc₂, hd₂, hf₂⟩ := hend
    have hW' : U.WarmedH s₂.vm := hW₂
    have hcc : c₂ = c := by
      have h1 : s₂.code? g.method = U.code? g.method := by
        rw [State.code?_eq, State.code?_eq, hW'.alike.method?]
      exact Option.some.inj (hc₂.symm.trans (h1.trans h.code))
    subst hcc
    have hlen : len₂ = len := by rw [hdg] at hd₂; cases hd₂; rfl
    subst hlen
    have hs₂ : s₂ = (({ U with heap := s₂.heap, slotsUsed := s₂.slotsUsed } : State).setVm s₂.vm).setTop { g with pc := g.pc + len₂, stack := v.toList ++ g.stack } := by
      refine e3.trans ?_
      rw [hf₂, State.calling_eq h.top, State.setFrames_setFrames, State.setTop_of_frames _ hr', hr]
      rfl
    have hsame : U.sameButNew ({ U with heap := s₂.heap, slotsUsed := s₂.slotsUsed } : State) L mc ms := by
      refine ⟨?_, q2, q3, q4, q5, q6⟩
      obtain ⟨t, ht, -⟩ := State.frames_cons hr
      show ({ U with heap := s₂.heap, slotsUsed := s₂.slotsUsed } : State) = { U.setFrames U.frames with heap := s₂.heap, slotsUsed := s₂.slotsUsed }
      rw [State.setFrames_self ht]
    subst hg
    refine Or.inl ⟨v, ⟨(({ U with heap := s₂.heap, slotsUsed := s₂.slotsUsed } : State).setVm s₂.vm), Ls ++ L, c0 + mc, s0 + ms⟩,
      ⟨X.admits, X.cas, X.clock, X.frames, X.room, X.hears, X.method, X.code, (X.here.setHeapUsed s₂.heap s₂.slotsUsed).setVm hW'.alike, X.tail, State.WarmedH.trans X.warmed hW', X.limits, X.bytes, X.same.trans (hsame.setVm s.vm)⟩,
      ⟨g, mk, s₂, L, rfl, rfl, hqc, rfl, hL, rfl, rfl⟩, ?_⟩
    show Steps p.tables e below _ ((({ U with heap := s₂.heap, slotsUsed := s₂.slotsUsed } : State).setVm s₂.vm).setTop { g with pc := g.pc + len₂, stack := v.toList ++ g.stack })
    rw [← hs₂]
    exact hsteps
  · obtain ⟨e2, q2, q3, q4, q5, q6⟩ := id hsm
    have e3 : s₂ = ({ (U.calling g mk a).setFrames s₂.frames with heap := s₂.heap, slotsUsed := s₂.slotsUsed } : State).setVm s₂.vm := by
      have : s₂ = ({ s₂ with vm := (U.calling g mk a).vm } : State).setVm s₂.vm := rfl
      rw [e2] at this
      exact this
    have hf₂ : s₂.frames = .throwing q :: .java g :: U.frames.tail := hend
    have hW' : U.WarmedH s₂.vm := hW₂
    have hs₂ : s₂ = ((({ U with heap := s₂.heap, slotsUsed := s₂.slotsUsed } : State).setVm s₂.vm).setTop g).pushFrame (.throwing q) := by
      refine e3.trans ?_
      rw [hf₂, State.calling_eq h.top, State.setFrames_setFrames, State.pushFrame, State.frames_setTop _ hr', State.setTop_of_frames _ hr', State.setFrames_setFrames, hr]
      rfl
    have hsame : U.sameButNew ({ U with heap := s₂.heap, slotsUsed := s₂.slotsUsed } : State) L mc ms := by
      refine ⟨?_, q2, q3, q4, q5, q6⟩
      obtain ⟨t, ht, -⟩ := State.frames_cons hr
      show ({ U with heap := s₂.heap, slotsUsed := s₂.slotsUsed } : State) = { U.setFrames U.frames with heap := s₂.heap, slotsUsed := s₂.slotsUsed }
      rw [State.setFrames_self ht]
    subst hg
    refine Or.inr ⟨q, ⟨(({ U with heap := s₂.heap, slotsUsed := s₂.slotsUsed } : State).setVm s₂.vm), Ls ++ L, c0 + mc, s0 + ms⟩,
      ⟨X.admits, X.cas, X.clock, X.frames, X.room, X.hears, X.method, X.code, (X.here.setHeapUsed s₂.heap s₂.slotsUsed).setVm hW'.alike, X.tail, State.WarmedH.trans X.warmed hW', X.limits, X.bytes, X.same.trans (hsame.setVm s.vm)⟩,
      ⟨g, mk, s₂, L, E, ce, rfl, rfl, hx, hce, hcv, hcl, rfl, hL, rfl, rfl⟩, ?_⟩
    show Steps p.tables e below _ (((({ U with heap := s₂.heap, slotsUsed := s₂.slotsUsed } : State).setVm s₂.vm).setTop g).pushFrame (.throwing q))
    rw [← hs₂]
    exact hsteps
end Payer
section Calls
variable {p : Program} {l : Launch} {e : Env} {R : Room} {s : State} {m : MethodId} {args : Array Value} {below : List Frame} {meth : Method} {c : Code} {T : State} {locs : List Loc} {cells slots : Nat}
theorem vx_callV (X : Stand p l e R s m args below meth c T locs cells slots) (hexec : p.tables.exec = Jvm.exec) {own C : String} {index : Nat} {y : MethodName} {bytes : ByteArray} {maxL : Nat} {ret : Option FieldType}
    (hown : s.vm.findClass own = some m.cls) (hlink : (Cond.methodLink own index y).before args s = true) (hinst : (Cond.instanceMethod y).before args s = true) (hsel : (Cond.selects C y y).before args s = true)
    (hcode : (Cond.code y bytes maxL ret).before args s = true) (hy : y.cls ≠ "java/lang/invoke/MethodHandle" ∧ y.cls ≠ "java/lang/invoke/VarHandle")
    {W9 : Nat} {Pre : Pt → Array Value → Prop} {Post : Pt → Array Value → Option Value → Pt → Prop} {PostX : Pt → Array Value → Addr → Pt → Prop} (hK : vx_Back l R p e below s args y 3 W9 Pre Post PostX)
    {b : Addr} {cellB : Cell} (hcell : T.heap[b]? = some cellB) (hobj : cellB.vm.isStatics = false) (hcls : s.vm.findClass C = some cellB.cls)
    {g : JFrame} (hg : g.method = m) (hsize : g.locals.size = c.maxLocals) {argsL rest : List Value} (hlen : ∀ sig, parseMethodDescriptor y.desc = some sig → argsL.length = sig.parameters.length)
    (hstack : g.stack = argsL.reverse ++ .ref b :: rest) (hW : 2 * g.monitorRoom + (rest.map fun v => v.category).sum ≤ W9) (hdg : decode c.code g.pc = .ok (.invokevirtual index, 3))
    (hpre : ∀ vm₁, s.WarmedH vm₁ → Pre ⟨T.setVm vm₁, locs, cells, slots⟩ (Value.ref b :: argsL).toArray) :
    (∃ (v : Option Value) (vm₁ : Vm) (B : Pt), s.WarmedH vm₁ ∧ Stand p l e R s m args below meth c B.U B.locs B.cells B.slots ∧ Post ⟨T.setVm vm₁, locs, cells, slots⟩ (Value.ref b :: argsL).toArray v B ∧
      ∀ target, Steps p.tables e below (B.U.setTop { g with pc := g.pc + 3, stack := v.toList ++ rest }) target → Steps p.tables e below (T.setTop g) target) ∨
    (∃ (q : Addr) (vm₁ : Vm) (B : Pt), s.WarmedH vm₁ ∧ Stand p l e R s m args below meth c B.U B.locs B.cells B.slots ∧ PostX ⟨T.setVm vm₁, locs, cells, slots⟩ (Value.ref b :: argsL).toArray q B ∧
      Steps p.tables e below (T.setTop g) ((B.U.setTop { g with stack := rest }).pushFrame (.throwing q))) := by
  obtain ⟨mk, methM, hnamed, hmethM, hstM, habM⟩ := Cond.instanceMethod_spec hinst
  obtain ⟨methM', cM, hmethM', -, -, -, -, -, -, hsigM⟩ := Cond.code_spec hnamed hcode
  cases hmethM.symm.trans hmethM'
  obtain ⟨c2, r2, m2, q1, q2, q3, q4, kP, hkP, hkPi⟩ := Cond.selects_spec hsel
  cases hcls.symm.trans q1
  cases (State.methodFound?_of_named hnamed hy).symm.trans q2
  cases hnamed.symm.trans q3
  have hselP : selectMethod e.platform s.vm cellB.cls mk = .method mk := by rw [Launch.admits_selectMethod X.admits]; exact q4
  obtain ⟨vm₁, X₁, hstep₁⟩ := X.invokevirtual hexec hown hlink hnamed hmethM hstM hkP hkPi hy (a := b) (cell := cellB) hcell
    (fun z h => by rw [h] at hobj; cases hobj) hselP hmethM habM hkP hkPi (g := g) hg (argsL := argsL) (rest := rest) (hlen _ hsigM) hstack hdg
  rcases hK m meth c ⟨T.setVm vm₁, locs, cells, slots⟩ { g with stack := rest } (.invokevirtual index) mk (Value.ref b :: argsL).toArray X₁ hg hsize hdg hW (X₁.named hnamed) (hpre vm₁ X₁.warmed) with ⟨v, B, X', hpost, hsteps⟩ | ⟨q, B, X', hpost, hsteps⟩
  · exact Or.inl ⟨v, vm₁, B, X₁.warmed, X', hpost, fun target h => hstep₁ _ fun acts => by rw [doInvoke_state]; exact hsteps.trans h⟩
  · exact Or.inr ⟨q, vm₁, B, X₁.warmed, X', hpost, hstep₁ _ fun acts => by rw [doInvoke_state]; exact hsteps⟩
theorem vx_callS (X : Stand p l e R s m args below meth c T locs cells slots) (hexec : p.tables.exec = Jvm.exec) {own : String} {index : Nat} {y : MethodName} {bytes : ByteArray} {maxL : Nat} {ret : Option FieldType}
    (hown : s.vm.findClass own = some m.cls) (hlink : (Cond.methodLink own index y).before args s = true) (hstat : (Cond.static y).before args s = true) (hinit : (Cond.initialized y.cls).before args s = true)
    (hcode : (Cond.code y bytes maxL ret).before args s = true) (hy : y.cls ≠ "java/lang/invoke/MethodHandle" ∧ y.cls ≠ "java/lang/invoke/VarHandle")
    {W9 : Nat} {Pre : Pt → Array Value → Prop} {Post : Pt → Array Value → Option Value → Pt → Prop} {PostX : Pt → Array Value → Addr → Pt → Prop} (hK : vx_Back l R p e below s args y 3 W9 Pre Post PostX)
    {g : JFrame} (hg : g.method = m) (hsize : g.locals.size = c.maxLocals) {argsL rest : List Value} (hlen : ∀ sig, parseMethodDescriptor y.desc = some sig → argsL.length = sig.parameters.length)
    (hstack : g.stack = argsL.reverse ++ rest) (hW : 2 * g.monitorRoom + (rest.map fun v => v.category).sum ≤ W9) (hdg : decode c.code g.pc = .ok (.invokestatic index, 3))
    (hpre : ∀ vm₁, s.WarmedH vm₁ → Pre ⟨T.setVm vm₁, locs, cells, slots⟩ argsL.toArray) :
    (∃ (v : Option Value) (vm₁ : Vm) (B : Pt), s.WarmedH vm₁ ∧ Stand p l e R s m args below meth c B.U B.locs B.cells B.slots ∧ Post ⟨T.setVm vm₁, locs, cells, slots⟩ argsL.toArray v B ∧
      ∀ target, Steps p.tables e below (B.U.setTop { g with pc := g.pc + 3, stack := v.toList ++ rest }) target → Steps p.tables e below (T.setTop g) target) ∨
    (∃ (q : Addr) (vm₁ : Vm) (B : Pt), s.WarmedH vm₁ ∧ Stand p l e R s m args below meth c B.U B.locs B.cells B.slots ∧ PostX ⟨T.setVm vm₁, locs, cells, slots⟩ argsL.toArray q B ∧
      Steps p.tables e below (T.setTop g) ((B.U.setTop { g with stack := rest }).pushFrame (.throwing q))) := by
  obtain ⟨mk, hnamed⟩ := Cond.code_named hcode
  obtain ⟨methM, cM, hmethM, -, -, -, -, -, -, hsigM⟩ := Cond.code_spec hnamed hcode
  have hstatic : methM.isStatic = true := Cond.static_spec hnamed hmethM hstat
  obtain ⟨kP, hkP, -⟩ := className_of_methodNamed hnamed
  have hinitP : kP.init = .initialized := Cond.initialized_spec (findClass_of_methodNamed hnamed) hkP hinit
  obtain ⟨vm₁, X₁, hstep₁⟩ := X.invokestatic hexec hown hlink hnamed hmethM hstatic hkP hinitP hy (g := g) hg (argsL := argsL) (rest := rest) (hlen _ hsigM) hstack hdg
  rcases hK m meth c ⟨T.setVm vm₁, locs, cells, slots⟩ { g with stack := rest } (.invokestatic index) mk argsL.toArray X₁ hg hsize hdg hW (X₁.named hnamed) (hpre vm₁ X₁.warmed) with ⟨v, B, X', hpost, hsteps⟩ | ⟨q, B, X', hpost, hsteps⟩
  · exact Or.inl ⟨v, vm₁, B, X₁.warmed, X', hpost, fun target h => hstep₁ _ fun acts => by rw [doInvoke_state]; exact hsteps.trans h⟩
  · exact Or.inr ⟨q, vm₁, B, X₁.warmed, X', hpost, hstep₁ _ fun acts => by rw [doInvoke_state]; exact hsteps⟩
end Calls
theorem vx_cls {s : State} {T : State} {vm₁ : Vm} {E : String} {k : ClassId} (hW : s.WarmedH vm₁) (h : (T.setVm vm₁).vm.findClass E = some k) : s.vm.findClass E = some k := by
  have h1 : vm₁.findClass E = some k := h
  rw [hW.alike.findClass] at h1
  exact h1
/-- the method's frame g, with q thrown over it -/
def vx_W (p : Program) (l : Launch) (e : Env) (R : Room) (s : State) (m : MethodId) (args : Array Value) (below : List Frame) (meth : Method) (c : Code) (H : Heap) (locs : List Loc) (cells slots : Nat) (Q : State → Prop) (g : JFrame) (q : Addr) : Prop :=
  ∀ T : State, T.heap = H → Stand p l e R s m args below meth c T locs cells slots → ∃ t, Steps p.tables e below ((T.setTop g).pushFrame (.throwing q)) t ∧ Q t
def vx_Run (p : Program) (l : Launch) (e : Env) (R : Room) (s : State) (m : MethodId) (args : Array Value) (below : List Frame) (meth : Method) (c : Code) (H : Heap) (locs : List Loc) (cells slots mc ms : Nat) (g : JFrame) (rest : List Value) (Qa : State → Outcome → State → Prop) (XC : String → State → State → Prop) (free : Addr → Prop) : Prop :=
  ∀ T : State, T.heap = H → Stand p l e R s m args below meth c T locs cells slots →
    (∃ (v : Option Value) (st₀ t T' : State) (L : List Loc), st₀.heap = H ∧ Stand p l e R s m args below meth c T' (locs ++ L) (cells + mc) (slots + ms) ∧ (∀ q ∈ L, free q.base) ∧ T'.heap = t.heap ∧ T'.vm = t.vm ∧ Qa st₀ (.returned v) t ∧
      Goes p e below T g T' { g with pc := g.pc + 3, stack := v.toList ++ rest }) ∨
    (∃ (q : Addr) (st₀ t T' : State) (L : List Loc) (E : String) (ce : Cell), st₀.heap = H ∧ Stand p l e R s m args below meth c T' (locs ++ L) (cells + mc) (slots + ms) ∧ (∀ z ∈ L, free z.base) ∧ T'.heap = t.heap ∧ T'.vm = t.vm ∧ XC E st₀ t ∧ t.heap[q]? = some ce ∧ ce.vm = .none ∧ s.vm.findClass E = some ce.cls ∧
      Steps p.tables e below (T.setTop g) ((T'.setTop { g with stack := rest }).pushFrame (.throwing q)))
def vx_X {S : Type} (px : S → Prop) (B : String → S → State → Prop) (A : Nat → Prop) : String → State → State → Prop := fun E st t => ∃ u : S, px u ∧ B E u t ∧ va_F A st t
section Runs
variable {p : Program} {l : Launch} {e : Env} {R : Room} {s : State} {m : MethodId} {args : Array Value} {below : List Frame} {meth : Method} {c : Code} {H : Heap} {locs : List Loc} {cells slots : Nat}
variable {y : MethodName} {bytes cc : ByteArray} {maxL nL mc ms n index : Nat} {ret : Option FieldType} {ws : List Cond} {rm : Room} {Pc : Array Value → State → Prop} {Qc : Array Value → State → Outcome → State → Prop} {XC : String → State → State → Prop} {free : Addr → Prop} {Ts : List Cond} {own C : String} {b : Addr} {As rest : List Value} {g : JFrame}
theorem vx_callBack (cb : CallB R s args own index y bytes maxL ret ws rm mc ms n) (hM : vx_Met l y ws rm Pc Qc XC mc ms free) (hbl : FrameBlind Pc) : vx_Back l R p e below s args y 3 8 (PreOf R mc ms Pc) (PostOf Qc mc ms free) (vx_Post XC mc ms free) := by
  obtain ⟨hrc, hrs, hfr, hlo, hws, hcw, -, hini, -⟩ := cb
  exact vx_back (bytes := bytes) (maxL := maxL) (ret := ret) hM hbl hrc hrs hfr hlo hws hcw (fun a' U hW => word_at hW (Or.inl (by first | rfl | simp [Cond.onTables, Cond.keeps, Cond.steady])) hini)
theorem vx_runV (S : CallFix p m c cc nL s args Ts own) (hM : vx_Met l y ws rm Pc Qc XC mc ms free) (cw : CallW R s args own C index y bytes maxL ret ws rm mc ms n) (hp : PreV s H C b Pc As)
    (hg : g.method = m) (hn : As.length = n) (hsize : g.locals.size = nL) (hstack : g.stack = As.reverse ++ .ref b :: rest) (hW : 2 * g.monitorRoom + (rest.map fun v => v.category).sum ≤ 8) (hdg : decode cc g.pc = .ok (.invokevirtual index, 3)) (hf : cells + mc ≤ R.cells ∧ slots + ms ≤ R.slots) :
    vx_Run p l e R s m args below meth c H locs cells slots mc ms g rest (Qc (Value.ref b :: As).toArray) XC free := by
  have hK : vx_Back l R p e below s args y 3 8 (PreOf R mc ms Pc) (PostOf Qc mc ms free) (vx_Post XC mc ms free) := vx_callBack cw.1 hM hp.1
  obtain ⟨⟨-, -, -, -, -, -, hcode, -, hy, hlen, hl⟩, hin, hse⟩ := cw
  obtain ⟨hx, hb, hml, ho, -⟩ := S
  obtain ⟨-, ⟨cellB, hcB, hoB, hclB⟩, hPc⟩ := hp
  intro T hT X
  rcases vx_callV X hx (C := C) (bytes := bytes) (maxL := maxL) (ret := ret) ho hl hin hse hcode hy hK (by rw [hT]; exact hcB) hoB hclB hg (hsize.trans hml.symm) (argsL := As) (rest := rest) (fun sig h => hn.trans (hlen sig h)) hstack hW (by rw [hb]; exact hdg)
    (fun vm₁ hW₁ => ⟨hf.1, hf.2, hPc (T.setVm vm₁) hT hW₁⟩) with ⟨v, vm₁, ⟨U', l2, c2, s2⟩, hW₁, X', ⟨g', mk, t, L, e1, e2, hq, h1, hL, h2, h3⟩, st⟩ | ⟨q, vm₁, ⟨U', l2, c2, s2⟩, hW₁, X', ⟨g', mk, t, L, E, ce, e1, e2, hq, hce, hcv, hcl, h1, hL, h2, h3⟩, st⟩
  · dsimp only [Pt.U, Pt.locs, Pt.cells, Pt.slots] at X' e1 e2 h1 h2 h3 st
    subst h1; subst h2; subst h3
    exact Or.inl ⟨v, (T.setVm vm₁).calling g' mk (Value.ref b :: As).toArray, t, U', L, hT, X', hL, e1, e2, hq, st⟩
  · dsimp only [Pt.U, Pt.locs, Pt.cells, Pt.slots] at X' e1 e2 h1 h2 h3 st hcl
    subst h1; subst h2; subst h3
    exact Or.inr ⟨q, (T.setVm vm₁).calling g' mk (Value.ref b :: As).toArray, t, U', L, E, ce, hT, X', hL, e1, e2, hq, hce, hcv, vx_cls hW₁ hcl, st⟩
theorem vx_runS (S : CallFix p m c cc nL s args Ts own) (hM : vx_Met l y ws rm Pc Qc XC mc ms free) (cw : CallB R s args own index y bytes maxL ret ws rm mc ms n ∧ (Cond.static y).before args s = true) (hp : PreS s H Pc As)
    (hg : g.method = m) (hn : As.length = n) (hsize : g.locals.size = nL) (hstack : g.stack = As.reverse ++ rest) (hW : 2 * g.monitorRoom + (rest.map fun v => v.category).sum ≤ 8) (hdg : decode cc g.pc = .ok (.invokestatic index, 3)) (hf : cells + mc ≤ R.cells ∧ slots + ms ≤ R.slots) :
    vx_Run p l e R s m args below meth c H locs cells slots mc ms g rest (Qc As.toArray) XC free := by
  have hK : vx_Back l R p e below s args y 3 8 (PreOf R mc ms Pc) (PostOf Qc mc ms free) (vx_Post XC mc ms free) := vx_callBack cw.1 hM hp.1
  obtain ⟨⟨-, -, -, -, -, -, hcode, hini, hy, hlen, hl⟩, hstt⟩ := cw
  obtain ⟨hx, hb, hml, ho, -⟩ := S
  intro T hT X
  rcases vx_callS X hx (bytes := bytes) (maxL := maxL) (ret := ret) ho hl hstt hini hcode hy hK hg (hsize.trans hml.symm) (argsL := As) (rest := rest) (fun sig h => hn.trans (hlen sig h)) hstack hW (by rw [hb]; exact hdg)
    (fun vm₁ hW₁ => ⟨hf.1, hf.2, hp.2 (T.setVm vm₁) hT hW₁⟩) with ⟨v, vm₁, ⟨U', l2, c2, s2⟩, hW₁, X', ⟨g', mk, t, L, e1, e2, hq, h1, hL, h2, h3⟩, st⟩ | ⟨q, vm₁, ⟨U', l2, c2, s2⟩, hW₁, X', ⟨g', mk, t, L, E, ce, e1, e2, hq, hce, hcv, hcl, h1, hL, h2, h3⟩, st⟩
  · dsimp only [Pt.U, Pt.locs, Pt.cells, Pt.slots] at X' e1 e2 h1 h2 h3 st
    subst h1; subst h2; subst h3
    exact Or.inl ⟨v, (T.setVm vm₁).calling g' mk As.toArray, t, U', L, hT, X', hL, e1, e2, hq, st⟩
  · dsimp only [Pt.U, Pt.locs, Pt.cells, Pt.slots] at X' e1 e2 h1 h2 h3 st hcl
    subst h1; subst h2; subst h3
    exact Or.inr ⟨q, (T.setVm vm₁).calling g' mk As.toArray, t, U', L, E, ce, hT, X', hL, e1, e2, hq, hce, hcv, vx_cls hW₁ hcl, st⟩
end Runs
section Rows
variable {p : Program} {l : Launch} {e : Env} {R : Room} {s : State} {m : MethodId} {args : Array Value} {below : List Frame} {meth : Method} {c : Code} {H : Heap} {locs : List Loc} {cells slots : Nat} {Q : State → Prop}
variable {mc ms : Nat} {free : Addr → Prop} {A0 A1 : Nat → Prop} {H0 : Heap} {a : Array Value} {pc : Nat} {ls : Array Slot} {st0 rest : List Value}
theorem vx_keep {st₀ t T' : State} {L : List Loc} (h0 : st₀.heap = H) (e1 : T'.heap = t.heap) (hS : va_S A0 H0 H locs) (hA : ∀ q, q < H.size → A1 q → A0 q) (hf : ∀ q, free q → A0 q) (hL : ∀ q ∈ L, free q.base) (hF : va_F A1 st₀ t) :
    H.size ≤ T'.heap.size ∧ (∀ q : Nat, q < H.size → ¬ A1 q → T'.heap[q]? = H[q]?) ∧ va_S A0 H0 T'.heap (locs ++ L) := by
  obtain ⟨hz, hk⟩ := hF
  rw [h0] at hz hk
  exact ⟨by rw [e1]; exact hz, fun q h1 h2 => by rw [e1]; exact hk q h1 h2,
    ⟨Nat.le_trans hS.1 (by rw [e1]; exact hz), fun q h1 h2 => by rw [e1, hk q (Nat.lt_of_lt_of_le h1 hS.1) (fun z => h2 (hA q (Nat.lt_of_lt_of_le h1 hS.1) z))]; exact hS.2.1 q h1 h2, fun q hq => by
      rcases List.mem_append.mp hq with h | h
      · exact hS.2.2 q h
      · exact hf _ (hL q h)⟩⟩
theorem vx_calli {S SX : Type} {post : Int32 → S → Prop} {px : SX → Prop} {B : S → State → Prop} {BX : String → SX → State → Prop} {AX : Nat → Prop} (hr : vx_Run p l e R s m args below meth c H locs cells slots mc ms (F0 m pc ls st0) rest (va_Qi post B A1 a) (vx_X px BX AX) free) (hS : va_S A0 H0 H locs) (hA : ∀ q, q < H.size → A1 q → A0 q) (hf : ∀ q, free q → A0 q) (hAX : ∀ q, q < H.size → AX q → A0 q)
    (kx : ∀ (E : String) (ce : Cell) (q9 : Addr) (u : SX) (t : State) (H1 : Heap) (locs1 : List Loc), t.heap = H1 → s.vm.Alike t.vm → px u → BX E u t → H.size ≤ H1.size → (∀ q : Nat, q < H.size → ¬ AX q → H1[q]? = H[q]?) → va_S A0 H0 H1 locs1 → H1[q9]? = some ce → ce.vm = .none → s.vm.findClass E = some ce.cls → vx_W p l e R s m args below meth c H1 locs1 (cells + mc) (slots + ms) Q (F0 m pc ls rest) q9)
    (kk : ∀ (r : Int32) (u : S) (t : State) (H1 : Heap) (locs1 : List Loc), t.heap = H1 → s.vm.Alike t.vm → post r u → B u t → H.size ≤ H1.size → (∀ q : Nat, q < H.size → ¬ A1 q → H1[q]? = H[q]?) → va_S A0 H0 H1 locs1 → W p l e R s m args below meth c H1 locs1 (cells + mc) (slots + ms) Q (F0 m (pc + 3) ls (.int r :: rest))) : W p l e R s m args below meth c H locs cells slots Q (F0 m pc ls st0) := by
  intro T hT X
  rcases hr T hT X with ⟨v, st₀, t, T', L, h0, X', hL, e1, e2, ⟨⟨r, u, hv, hp, hb⟩, hF⟩, st⟩ | ⟨q, st₀, t, T', L, E, ce, h0, X', hL, e1, e2, ⟨u, hp, hb, hF⟩, hce, hcv, hcl, st⟩
  · cases hv
    obtain ⟨k1, k2, k3⟩ := vx_keep h0 e1 hS hA hf hL hF
    obtain ⟨t2, a1, b1⟩ := kk r u t T'.heap (locs ++ L) e1.symm (by rw [← e2]; exact X'.warmed.alike) hp hb k1 k2 k3 T' rfl X'
    exact ⟨t2, st t2 a1, b1⟩
  · obtain ⟨k1, k2, k3⟩ := vx_keep h0 e1 hS hAX hf hL hF
    obtain ⟨t2, a1, b1⟩ := kx E ce q u t T'.heap (locs ++ L) e1.symm (by rw [← e2]; exact X'.warmed.alike) hp hb k1 k2 k3 (by rw [e1]; exact hce) hcv hcl T' rfl X'
    exact ⟨t2, st.trans a1, b1⟩
theorem vx_calll {S SX : Type} {post : Int64 → S → Prop} {px : SX → Prop} {B : S → State → Prop} {BX : String → SX → State → Prop} {AX : Nat → Prop} (hr : vx_Run p l e R s m args below meth c H locs cells slots mc ms (F0 m pc ls st0) rest (va_Ql post B A1 a) (vx_X px BX AX) free) (hS : va_S A0 H0 H locs) (hA : ∀ q, q < H.size → A1 q → A0 q) (hf : ∀ q, free q → A0 q) (hAX : ∀ q, q < H.size → AX q → A0 q)
    (kx : ∀ (E : String) (ce : Cell) (q9 : Addr) (u : SX) (t : State) (H1 : Heap) (locs1 : List Loc), t.heap = H1 → s.vm.Alike t.vm → px u → BX E u t → H.size ≤ H1.size → (∀ q : Nat, q < H.size → ¬ AX q → H1[q]? = H[q]?) → va_S A0 H0 H1 locs1 → H1[q9]? = some ce → ce.vm = .none → s.vm.findClass E = some ce.cls → vx_W p l e R s m args below meth c H1 locs1 (cells + mc) (slots + ms) Q (F0 m pc ls rest) q9)
    (kk : ∀ (r : Int64) (u : S) (t : State) (H1 : Heap) (locs1 : List Loc), t.heap = H1 → s.vm.Alike t.vm → post r u → B u t → H.size ≤ H1.size → (∀ q : Nat, q < H.size → ¬ A1 q → H1[q]? = H[q]?) → va_S A0 H0 H1 locs1 → W p l e R s m args below meth c H1 locs1 (cells + mc) (slots + ms) Q (F0 m (pc + 3) ls (.long r :: rest))) : W p l e R s m args below meth c H locs cells slots Q (F0 m pc ls st0) := by
  intro T hT X
  rcases hr T hT X with ⟨v, st₀, t, T', L, h0, X', hL, e1, e2, ⟨⟨r, u, hv, hp, hb⟩, hF⟩, st⟩ | ⟨q, st₀, t, T', L, E, ce, h0, X', hL, e1, e2, ⟨u, hp, hb, hF⟩, hce, hcv, hcl, st⟩
  · cases hv
    obtain ⟨k1, k2, k3⟩ := vx_keep h0 e1 hS hA hf hL hF
    obtain ⟨t2, a1, b1⟩ := kk r u t T'.heap (locs ++ L) e1.symm (by rw [← e2]; exact X'.warmed.alike) hp hb k1 k2 k3 T' rfl X'
    exact ⟨t2, st t2 a1, b1⟩
  · obtain ⟨k1, k2, k3⟩ := vx_keep h0 e1 hS hAX hf hL hF
    obtain ⟨t2, a1, b1⟩ := kx E ce q u t T'.heap (locs ++ L) e1.symm (by rw [← e2]; exact X'.warmed.alike) hp hb k1 k2 k3 (by rw [e1]; exact hce) hcv hcl T' rfl X'
    exact ⟨t2, st.trans a1, b1⟩
theorem vx_callf {S SX : Type} {post : UInt32 → S → Prop} {px : SX → Prop} {B : S → State → Prop} {BX : String → SX → State → Prop} {AX : Nat → Prop} (hr : vx_Run p l e R s m args below meth c H locs cells slots mc ms (F0 m pc ls st0) rest (va_Qf post B A1 a) (vx_X px BX AX) free) (hS : va_S A0 H0 H locs) (hA : ∀ q, q < H.size → A1 q → A0 q) (hf : ∀ q, free q → A0 q) (hAX : ∀ q, q < H.size → AX q → A0 q)
    (kx : ∀ (E : String) (ce : Cell) (q9 : Addr) (u : SX) (t : State) (H1 : Heap) (locs1 : List Loc), t.heap = H1 → s.vm.Alike t.vm → px u → BX E u t → H.size ≤ H1.size → (∀ q : Nat, q < H.size → ¬ AX q → H1[q]? = H[q]?) → va_S A0 H0 H1 locs1 → H1[q9]? = some ce → ce.vm = .none → s.vm.findClass E = some ce.cls → vx_W p l e R s m args below meth c H1 locs1 (cells + mc) (slots + ms) Q (F0 m pc ls rest) q9)
    (kk : ∀ (r : UInt32) (u : S) (t : State) (H1 : Heap) (locs1 : List Loc), t.heap = H1 → s.vm.Alike t.vm → post r u → B u t → H.size ≤ H1.size → (∀ q : Nat, q < H.size → ¬ A1 q → H1[q]? = H[q]?) → va_S A0 H0 H1 locs1 → W p l e R s m args below meth c H1 locs1 (cells + mc) (slots + ms) Q (F0 m (pc + 3) ls (.float r :: rest))) : W p l e R s m args below meth c H locs cells slots Q (F0 m pc ls st0) := by
  intro T hT X
  rcases hr T hT X with ⟨v, st₀, t, T', L, h0, X', hL, e1, e2, ⟨⟨r, u, hv, hp, hb⟩, hF⟩, st⟩ | ⟨q, st₀, t, T', L, E, ce, h0, X', hL, e1, e2, ⟨u, hp, hb, hF⟩, hce, hcv, hcl, st⟩
  · cases hv
    obtain ⟨k1, k2, k3⟩ := vx_keep h0 e1 hS hA hf hL hF
    obtain ⟨t2, a1, b1⟩ := kk r u t T'.heap (locs ++ L) e1.symm (by rw [← e2]; exact X'.warmed.alike) hp hb k1 k2 k3 T' rfl X'
    exact ⟨t2, st t2 a1, b1⟩
  · obtain ⟨k1, k2, k3⟩ := vx_keep h0 e1 hS hAX hf hL hF
    obtain ⟨t2, a1, b1⟩ := kx E ce q u t T'.heap (locs ++ L) e1.symm (by rw [← e2]; exact X'.warmed.alike) hp hb k1 k2 k3 (by rw [e1]; exact hce) hcv hcl T' rfl X'
    exact ⟨t2, st.trans a1, b1⟩
theorem vx_calld {S SX : Type} {post : UInt64 → S → Prop} {px : SX → Prop} {B : S → State → Prop} {BX : String → SX → State → Prop} {AX : Nat → Prop} (hr : vx_Run p l e R s m args below meth c H locs cells slots mc ms (F0 m pc ls st0) rest (va_Qd post B A1 a) (vx_X px BX AX) free) (hS : va_S A0 H0 H locs) (hA : ∀ q, q < H.size → A1 q → A0 q) (hf : ∀ q, free q → A0 q) (hAX : ∀ q, q < H.size → AX q → A0 q)
    (kx : ∀ (E : String) (ce : Cell) (q9 : Addr) (u : SX) (t : State) (H1 : Heap) (locs1 : List Loc), t.heap = H1 → s.vm.Alike t.vm → px u → BX E u t → H.size ≤ H1.size → (∀ q : Nat, q < H.size → ¬ AX q → H1[q]? = H[q]?) → va_S A0 H0 H1 locs1 → H1[q9]? = some ce → ce.vm = .none → s.vm.findClass E = some ce.cls → vx_W p l e R s m args below meth c H1 locs1 (cells + mc) (slots + ms) Q (F0 m pc ls rest) q9)
    (kk : ∀ (r : UInt64) (u : S) (t : State) (H1 : Heap) (locs1 : List Loc), t.heap = H1 → s.vm.Alike t.vm → post r u → B u t → H.size ≤ H1.size → (∀ q : Nat, q < H.size → ¬ A1 q → H1[q]? = H[q]?) → va_S A0 H0 H1 locs1 → W p l e R s m args below meth c H1 locs1 (cells + mc) (slots + ms) Q (F0 m (pc + 3) ls (.double r :: rest))) : W p l e R s m args below meth c H locs cells slots Q (F0 m pc ls st0) := by
  intro T hT X
  rcases hr T hT X with ⟨v, st₀, t, T', L, h0, X', hL, e1, e2, ⟨⟨r, u, hv, hp, hb⟩, hF⟩, st⟩ | ⟨q, st₀, t, T', L, E, ce, h0, X', hL, e1, e2, ⟨u, hp, hb, hF⟩, hce, hcv, hcl, st⟩
  · cases hv
    obtain ⟨k1, k2, k3⟩ := vx_keep h0 e1 hS hA hf hL hF
    obtain ⟨t2, a1, b1⟩ := kk r u t T'.heap (locs ++ L) e1.symm (by rw [← e2]; exact X'.warmed.alike) hp hb k1 k2 k3 T' rfl X'
    exact ⟨t2, st t2 a1, b1⟩
  · obtain ⟨k1, k2, k3⟩ := vx_keep h0 e1 hS hAX hf hL hF
    obtain ⟨t2, a1, b1⟩ := kx E ce q u t T'.heap (locs ++ L) e1.symm (by rw [← e2]; exact X'.warmed.alike) hp hb k1 k2 k3 (by rw [e1]; exact hce) hcv hcl T' rfl X'
    exact ⟨t2, st.trans a1, b1⟩
theorem vx_callv {S SX : Type} {post : S → Prop} {px : SX → Prop} {B : S → State → Prop} {BX : String → SX → State → Prop} {AX : Nat → Prop} (hr : vx_Run p l e R s m args below meth c H locs cells slots mc ms (F0 m pc ls st0) rest (va_Qv post B A1 a) (vx_X px BX AX) free) (hS : va_S A0 H0 H locs) (hA : ∀ q, q < H.size → A1 q → A0 q) (hf : ∀ q, free q → A0 q) (hAX : ∀ q, q < H.size → AX q → A0 q)
    (kx : ∀ (E : String) (ce : Cell) (q9 : Addr) (u : SX) (t : State) (H1 : Heap) (locs1 : List Loc), t.heap = H1 → s.vm.Alike t.vm → px u → BX E u t → H.size ≤ H1.size → (∀ q : Nat, q < H.size → ¬ AX q → H1[q]? = H[q]?) → va_S A0 H0 H1 locs1 → H1[q9]? = some ce → ce.vm = .none → s.vm.findClass E = some ce.cls → vx_W p l e R s m args below meth c H1 locs1 (cells + mc) (slots + ms) Q (F0 m pc ls rest) q9)
    (kk : ∀ (u : S) (t : State) (H1 : Heap) (locs1 : List Loc), t.heap = H1 → s.vm.Alike t.vm → post u → B u t → H.size ≤ H1.size → (∀ q : Nat, q < H.size → ¬ A1 q → H1[q]? = H[q]?) → va_S A0 H0 H1 locs1 → W p l e R s m args below meth c H1 locs1 (cells + mc) (slots + ms) Q (F0 m (pc + 3) ls (rest))) : W p l e R s m args below meth c H locs cells slots Q (F0 m pc ls st0) := by
  intro T hT X
  rcases hr T hT X with ⟨v, st₀, t, T', L, h0, X', hL, e1, e2, ⟨⟨u, hv, hp, hb⟩, hF⟩, st⟩ | ⟨q, st₀, t, T', L, E, ce, h0, X', hL, e1, e2, ⟨u, hp, hb, hF⟩, hce, hcv, hcl, st⟩
  · cases hv
    obtain ⟨k1, k2, k3⟩ := vx_keep h0 e1 hS hA hf hL hF
    obtain ⟨t2, a1, b1⟩ := kk u t T'.heap (locs ++ L) e1.symm (by rw [← e2]; exact X'.warmed.alike) hp hb k1 k2 k3 T' rfl X'
    exact ⟨t2, st t2 a1, b1⟩
  · obtain ⟨k1, k2, k3⟩ := vx_keep h0 e1 hS hAX hf hL hF
    obtain ⟨t2, a1, b1⟩ := kx E ce q u t T'.heap (locs ++ L) e1.symm (by rw [← e2]; exact X'.warmed.alike) hp hb k1 k2 k3 (by rw [e1]; exact hce) hcv hcl T' rfl X'
    exact ⟨t2, st.trans a1, b1⟩
/-- caught by the row x of this method's table; the rows ahead don't take it -/
theorem vx_catch {own name : String} {E : String} {ce : Cell} {q : Addr} (hown : s.vm.findClass own = some m.cls) (pre : List ExceptionTableEntry) (x : ExceptionTableEntry) (suf : List ExceptionTableEntry) (hsplit : c.exceptionTable.toList = pre ++ x :: suf)
    (hpass : ∀ z ∈ pre, covers z pc = false ∨ (z.catchType ≠ 0 ∧ ∃ nm : String, (Cond.classLink own z.catchType nm).before args s = true ∧ va_Nc E nm s)) (hx : covers x pc = true) (h0 : x.catchType ≠ 0)
    (hlink : (Cond.classLink own x.catchType name).before args s = true) (hcast : (Cond.castable E name).before args s = true) (hcell : H[q]? = some ce) (hv : ce.vm = .none) (hcl : s.vm.findClass E = some ce.cls)
    (kk : W p l e R s m args below meth c H locs cells slots Q (F0 m x.handlerPc ls [.ref q])) : vx_W p l e R s m args below meth c H locs cells slots Q (F0 m pc ls rest) q := by
  intro T hT X
  have hpl : e.platform.magicAccessors = ({} : Platform).magicAccessors := by rw [X.admits.platform]
  obtain ⟨c3, c4, hc3, hc4, hasg⟩ := Cond.castable_spec hcast
  cases Option.some.inj (hc3.symm.trans hcl)
  obtain ⟨c5, hc5, hcl5⟩ := Cond.classLink_spec hown hlink e.platform hpl
  cases Option.some.inj (hc4.symm.trans hc5)
  obtain ⟨vm', X', st⟩ := X.thenCaughtThrough q (g := F0 m pc ls rest) rfl (Steps.refl _) (by rw [hT]; exact hcell) (by rw [hv]; rfl) (by obtain ⟨k9, h9, -⟩ := Vm.findClass_spec hcl; exact ⟨k9, h9⟩) pre x suf hsplit
    (fun z hz => by
      rcases hpass z hz with h | ⟨hz0, nm, hl1, hn1⟩
      · exact Or.inl h
      · obtain ⟨c6, hc6, hcl6⟩ := Cond.classLink_spec hown hl1 e.platform hpl
        obtain ⟨a8, b8, h1, h2, h3⟩ := hn1
        cases Option.some.inj (h1.symm.trans hcl)
        cases Option.some.inj (h2.symm.trans hc6)
        exact Or.inr ⟨hz0, _, hcl6, h3⟩) hx (Or.inr ⟨h0, c4, hcl5, hasg⟩)
  obtain ⟨t, a1, b1⟩ := kk (T.setVm vm') hT X'
  exact ⟨t, st.trans a1, b1⟩
end Rows
section Ends
variable {p : Program} {l : Launch} {e : Env} {R : Room} {s : State} {m : MethodId} {args : Array Value} {below : List Frame} {meth : Method} {c : Code} {H : Heap} {locs : List Loc} {cells slots : Nat} {Q : State → Prop}
variable {mc ms : Nat} {free : Addr → Prop} {A0 A1 : Nat → Prop} {H0 : Heap} {a : Array Value} {ls : Array Slot} {st0 rest : List Value}
variable {Qc : Array Value → State → Outcome → State → Prop} {XC : String → State → State → Prop}
/-- what a body that may throw owes at its end -/
def vx_MQ (below : List Frame) (Qc : Array Value → State → Outcome → State → Prop) (XC : String → State → State → Prop) (a : Array Value) (s : State) (mc ms : Nat) (free : Addr → Prop) : State → Prop := fun t =>
  ∃ o, t.status = .running ∧ Ended t below o ∧ vx_Q Qc XC mc ms free a s o t
theorem vx_ret {g : JFrame} {mc ms : Nat} (k : W p l e R s m args below meth c H locs cells slots (MQ below Qc args s mc ms free) g) : W p l e R s m args below meth c H locs cells slots (vx_MQ below Qc XC args s mc ms free) g := by
  intro T hT X
  obtain ⟨t, a1, o, b1, b2, b3, b4⟩ := k T hT X
  exact ⟨t, a1, o, b1, b2, Or.inl ⟨b3, b4⟩⟩
/-- not caught here: it goes on to the caller -/
theorem vx_widen {g : JFrame} {q : Addr} {k n : Nat} (h1 : cells ≤ k) (h2 : slots ≤ n) (kk : vx_W p l e R s m args below meth c H locs k n Q g q) : vx_W p l e R s m args below meth c H locs cells slots Q g q := fun T hT X => kk T hT (stand_widen X h1 h2)
theorem vx_out {pc : Nat} {E : String} {ce : Cell} {q : Addr} {mc ms : Nat} (hout : ∀ x ∈ c.exceptionTable.toList, covers x pc = false) (hlocks : meth.locks = false) (hcell : H[q]? = some ce) (hv : ce.vm = .none) (hcl : s.vm.findClass E = some ce.cls)
    (hx : ∀ t : State, t.heap = H → s.vm.Alike t.vm → XC E s t) (hf : ∀ z ∈ locs, free z.base) (hc : cells ≤ mc) (hs : slots ≤ ms) :
    vx_W p l e R s m args below meth c H locs cells slots (vx_MQ below Qc XC args s mc ms free) (F0 m pc ls rest) q := by
  intro T hT X
  obtain ⟨st1, hrun, hend, hW, hsm⟩ := X.leaveThrown q (g := F0 m pc ls rest) rfl rfl rfl hout hlocks
  have hcell9 : (T.setFrames (.throwing q :: below)).heap[q]? = some ce := by
    show T.heap[q]? = some ce
    rw [hT]; exact hcell
  exact ⟨_, st1, .threw q, hrun, hend, Or.inr ⟨q, rfl, E, ce, locs, hx _ hT hW.alike, hcell9, hv, hcl, hW, hsm.mono hc hs, hf⟩⟩
theorem vx_frame {U : State} {k n : Nat} (h : s.sameButNew ({ U with vm := s.vm } : State) locs k n) : s.heap.size ≤ U.heap.size ∧ ∀ q : Nat, q < s.heap.size → (∀ z ∈ locs, z.base ≠ q) → U.heap[q]? = s.heap[q]? := by
  obtain ⟨-, h2, -, -, -, h6⟩ := h
  refine ⟨h2, fun q hq hz => ?_⟩
  obtain ⟨c9, e1, e2, e3, e4⟩ := h6 q _ (Array.getElem?_eq_getElem hq)
  have hs : c9.slots = (s.heap[q]).slots := Array.ext_getElem? fun i => e4 i fun hm => hz _ hm rfl
  have h9 : c9 = s.heap[q] := by
    rw [hs] at e2
    exact e2
  have e5 : U.heap[q]? = some c9 := e1
  rw [e5, h9, Array.getElem?_eq_getElem hq]
/-- the words of a throw but the four that speak of the heap -/
def vx_no (w : Cond) : Bool := decide (w ≠ .isRef (.static Bundle.tN "UNASSIGNED_STACK" Bundle.steD)) && decide (w ≠ .isRef (.static Bundle.tN "SUPPRESSED_SENTINEL" Bundle.listD)) && decide (w ≠ .laysStatic Bundle.tN "UNASSIGNED_STACK" Bundle.steD) && decide (w ≠ .laysStatic Bundle.tN "SUPPRESSED_SENTINEL" Bundle.listD)
def vx_at0 (own : String) (ic : Nat) (X : String) (names : List String) : List Cond := (Bundle.ownAtoms0 own ic X names).filter vx_no
def vx_atS (own : String) (ic : Nat) (X : String) (names : List String) : List Cond := (Bundle.ownAtoms own ic X names).filter vx_no
/-- a word that the tables alone decide, or a good one -/
def vx_ot (w : Cond) : Bool := w.onTables || goodWord w
theorem vx_ot_at {args a' : Array Value} {s U : State} {w : Cond} (hW : s.WarmedH U.vm) (hvm : s.vm = U.vm) (hg : vx_ot w = true) (h : w.before args s = true) : w.before a' U = true := by
  simp only [vx_ot, Bool.or_eq_true] at hg
  rcases hg with hg | hg
  · exact va_tabs hg hvm h
  · exact word_at hW (good_of_word hg) h
/-- a list's words: the good ones out of the method's own list, the others by premises of their own -/
theorem vx_hat {args : Array Value} {s : State} {L B : List Cond} (h1 : ∀ w ∈ L.filter goodWord, w.before args s = true) (h2 : ∀ w ∈ L.filter (fun w => !goodWord w), w ∈ B) (h3 : ∀ w ∈ B, w.before args s = true) : ∀ w ∈ L, w.before args s = true := by
  intro w hw
  by_cases g : goodWord w = true
  · exact h1 w (List.mem_filter.mpr ⟨hw, g⟩)
  · refine h3 w (h2 w (List.mem_filter.mpr ⟨hw, ?_⟩))
    show (!goodWord w) = true
    cases hgw : goodWord w
    · rfl
    · exact absurd hgw g
theorem vx_c {args : Array Value} {s : State} {w : Cond} {B : List Cond} (h : w.before args s = true) (t : ∀ w ∈ B, w.before args s = true) : ∀ w' ∈ w :: B, w'.before args s = true := fun w' h' => (List.mem_cons.mp h').elim (fun e => by rw [e]; exact h) (t w')
theorem vx_n {args : Array Value} {s : State} : ∀ w ∈ ([] : List Cond), w.before args s = true := fun _ h => nomatch h
theorem vx_own {args : Array Value} {s : State} {L : List Cond} (h1 : ∀ w ∈ L.filter vx_no, w.before args s = true)
    (hU : (Cond.isRef (.static Bundle.tN "UNASSIGNED_STACK" Bundle.steD)).before args s = true) (hN : (Cond.isRef (.static Bundle.tN "SUPPRESSED_SENTINEL" Bundle.listD)).before args s = true)
    (lU : (Cond.laysStatic Bundle.tN "UNASSIGNED_STACK" Bundle.steD).before args s = true) (lN : (Cond.laysStatic Bundle.tN "SUPPRESSED_SENTINEL" Bundle.listD).before args s = true) : ∀ w ∈ L, w.before args s = true := by
  intro w hw
  by_cases e1 : w = .isRef (.static Bundle.tN "UNASSIGNED_STACK" Bundle.steD)
  · rw [e1]; exact hU
  · by_cases e2 : w = .isRef (.static Bundle.tN "SUPPRESSED_SENTINEL" Bundle.listD)
    · rw [e2]; exact hN
    · by_cases e3 : w = .laysStatic Bundle.tN "UNASSIGNED_STACK" Bundle.steD
      · rw [e3]; exact lU
      · by_cases e4 : w = .laysStatic Bundle.tN "SUPPRESSED_SENTINEL" Bundle.listD
        · rw [e4]; exact lN
        · exact h1 w (List.mem_filter.mpr ⟨hw, by unfold vx_no; rw [decide_eq_true e1, decide_eq_true e2, decide_eq_true e3, decide_eq_true e4]; rfl⟩)
/-- where a static field lies, its class's statics cell in H -/
def vx_L (C n d : String) (A : Nat → Prop) (U : State) (H : Heap) : Prop := ∃ (c : ClassId) (k : Class) (i : Nat) (f : Field) (a : Nat) (cell : Cell), U.vm.findClass C = some c ∧ U.fieldFound? C n d = some (c, k, i, f) ∧ f.isStatic = true ∧ k.statics = some a ∧ H[a]? = some cell ∧ cell.vm.isStatics = true ∧ cell.cls = c ∧ f.slot < cell.slots.size ∧ k.staticTypes[f.slot]? = some f.type ∧ ¬ A a
theorem vx_L.moved {C n d : String} {A : Nat → Prop} {u U : State} {H : Heap} (hvm : u.vm.Alike U.vm) (h : vx_L C n d A u H) : vx_L C n d A U H := by
  obtain ⟨c, k, i, f, a, cell, h1, h2, h3, h4, h5, h6, h7, h8, h9, h10⟩ := h
  obtain ⟨k', hi', he⟩ := State.fieldFound?_setVm hvm h2
  exact ⟨c, k', i, f, a, cell, by rw [hvm.findClass]; exact h1, hi', h3, by rw [he]; exact h4, h5, h6, h7, h8, by rw [he]; exact h9, h10⟩
theorem vx_L.kept {C n d : String} {A : Nat → Prop} {U : State} {H H1 : Heap} (h : vx_L C n d A U H) (hq : ∀ a : Nat, a < H.size → ¬ A a → H1[a]? = H[a]?) : vx_L C n d A U H1 := by
  obtain ⟨c, k, i, f, a, cell, h1, h2, h3, h4, h5, h6, h7, h8, h9, h10⟩ := h
  exact ⟨c, k, i, f, a, cell, h1, h2, h3, h4, by rw [hq a (Array.getElem?_eq_some_iff.mp h5).1 h10]; exact h5, h6, h7, h8, h9, h10⟩
theorem vx_L.narrow {C n d : String} {A B : Nat → Prop} {U : State} {H : Heap} (h : vx_L C n d A U H) (hAB : ∀ q, B q → A q) : vx_L C n d B U H := by
  obtain ⟨c, k, i, f, a, cell, h1, h2, h3, h4, h5, h6, h7, h8, h9, h10⟩ := h
  exact ⟨c, k, i, f, a, cell, h1, h2, h3, h4, h5, h6, h7, h8, h9, fun z => h10 (hAB _ z)⟩
theorem vx_L.word {C n d : String} {A : Nat → Prop} {s : State} {args : Array Value} (h : vx_L C n d A s s.heap) : (Cond.laysStatic C n d).before args s = true := by
  obtain ⟨c, k, i, f, a, cell, h1, h2, h3, h4, h5, h6, h7, h8, h9, -⟩ := h
  show (Cond.laysStatic C n d).holds args s none s [] = true
  exact Cond.laysStatic_of h1 h2 h3 h4 h5 h6 h7 h8 h9
/-- .. and what it holds: null or some reference -/
def vx_Zq (C n d : String) (A : Nat → Prop) (U : State) (H : Heap) : Prop := va_Zq C n d A U H ∧ vx_L C n d A U H
theorem vx_Zq.moved {C n d : String} {A : Nat → Prop} {u U : State} {H : Heap} (hvm : u.vm.Alike U.vm) (h : vx_Zq C n d A u H) : vx_Zq C n d A U H := ⟨va_Zq.moved hvm h.1, vx_L.moved hvm h.2⟩
theorem vx_Zq.kept {C n d : String} {A : Nat → Prop} {U : State} {H H1 : Heap} (h : vx_Zq C n d A U H) (hq : ∀ a : Nat, a < H.size → ¬ A a → H1[a]? = H[a]?) : vx_Zq C n d A U H1 := ⟨va_Zq.kept h.1 hq, vx_L.kept h.2 hq⟩
theorem vx_Zq.narrow {C n d : String} {A B : Nat → Prop} {U : State} {H : Heap} (h : vx_Zq C n d A U H) (hAB : ∀ q, B q → A q) : vx_Zq C n d B U H := ⟨va_Zq.narrow h.1 hAB, vx_L.narrow h.2 hAB⟩
theorem vx_Zqof {args : Array Value} {s : State} {C n d : String} {A : Nat → Prop} (hl : (Cond.laysStatic C n d).before args s = true) (hini : (Cond.initialized C).before args s = true) (h : (Cond.isRef (.static C n d)).before args s = true) (hA : ∀ a : Nat, a < s.heap.size → ¬ A a) : vx_Zq C n d A s s.heap := by
  refine ⟨va_Zqof hl hini h hA, ?_⟩
  obtain ⟨c, k, i, f, a, cell, h1, h2, h3, h4, h5, h6, h7, h8, h9⟩ := Cond.laysStatic_spec hl
  exact ⟨c, k, i, f, a, cell, h1, h2, h3, h4, h5, h6, h7, h8, h9, hA a (Array.getElem?_eq_some_iff.mp h5).1⟩
theorem vx_isRef {C n d : String} {v : Value} {A : Nat → Prop} {s : State} {args : Array Value} (h : va_Z C n d v A s s.heap) (hv : v.isRef = true) : (Cond.isRef (.static C n d)).before args s = true := by
  obtain ⟨cf, kf, fi, f, a, cell, h1, h2, h3, h4, h5, h6, h7, -⟩ := h
  have he : (Term.static C n d).eval args s none [] s = some v := by
    simp [Term.eval, State.fieldNamed?, h1, h2, h4, h5, h6, h7]
  simp only [Cond.before, Cond.holds, Cond.value, he]
  cases v <;> simp_all [Value.isRef]
theorem vx_isRefq {C n d : String} {A : Nat → Prop} {s : State} {args : Array Value} (h : va_Zq C n d A s s.heap) : (Cond.isRef (.static C n d)).before args s = true := by
  rcases h with h | ⟨t, h⟩
  · exact vx_isRef h rfl
  · exact vx_isRef h rfl
/-- the same frame, seen from here: as if the method were called anew in this heap -/
theorem vx_rebase {T : State} (X : Stand p l e R s m args below meth c T locs cells slots) {R' : Room} (hf : R'.frames ≤ R.frames) (hl : R'.locals ≤ R.locals) (hc : cells + R'.cells ≤ R.cells) (hs : slots + R'.slots ≤ R.slots) :
    Stand p l e R' ((T.setVm s.vm).setFrames (.invoking m args :: below)) m args below meth c T [] 0 0 := by
  have htop : (T.setVm s.vm).topJava?.isSome := X.here.top
  have hF : ((T.setVm s.vm).setFrames (.invoking m args :: below)).frames = .invoking m args :: below := State.frames_setFrames _ (State.cur_lt_of_top htop)
  obtain ⟨g₀, hg0⟩ := Option.isSome_iff_exists.mp htop
  obtain ⟨r, hr⟩ := State.topJava?_eq_some.mp hg0
  have hl9 : e.platform.stackLimits (T.setVm s.vm).me = e.platform.stackLimits s.me := X.limits
  have hb9 : (T.setVm s.vm).me.stackBytes = s.me.stackBytes := X.bytes
  refine ⟨X.admits, X.cas, X.clock, hF, ?_, X.hears, X.method, X.code, X.here, X.tail, X.warmed, ?_, ?_, ?_⟩
  · have h := X.room
    have hU : ((T.setVm s.vm).setFrames (.invoking m args :: below)).localsInUse = s.localsInUse := by
      rw [State.localsInUse_invoking hF (meth := meth) (c := c) X.method X.code, State.localsInUse_invoking X.frames X.method X.code]
    simp only [State.hasRoom, Bool.and_eq_true, decide_eq_true_eq] at h ⊢
    obtain ⟨⟨⟨⟨h1, h2, h3, h4, h5, h6⟩, h7⟩, h8⟩, h9⟩ := h
    rw [X.frames, List.length_cons] at h2 h3
    have q1 := X.heapSize
    have q2 := X.used
    simp only [hF, hU, List.length_cons, State.stackLimits_setFrames, State.stackBytes_setFrames, hl9, hb9]
    refine ⟨⟨⟨⟨by omega, by omega, by omega, by omega, by omega, h6⟩, ?_⟩, ?_⟩, X.book⟩
    · show T.heap.size + R'.cells ≤ e.platform.maxCells
      omega
    · show T.slotsUsed + R'.slots ≤ e.platform.maxSlots
      omega
  · rw [State.stackLimits_setFrames]; rfl
  · rw [State.stackBytes_setFrames]; rfl
  · refine ⟨?_, Nat.le_refl _, Nat.le_refl _, ?_, ?_, fun a c9 h9 => ⟨c9, h9, rfl, rfl, fun _ _ => rfl⟩⟩
    · obtain ⟨t, ht, -⟩ := State.frames_cons hr
      show T.setVm s.vm = { ((T.setVm s.vm).setFrames (.invoking m args :: below)).setFrames (T.setVm s.vm).frames with heap := T.heap, slotsUsed := T.slotsUsed }
      rw [State.setFrames_setFrames, State.setFrames_self ht]
      rfl
    · show T.slotsUsed = T.slotsUsed + ((T.heap.toList.drop T.heap.size).map (·.slots.size)).sum
      rw [List.drop_eq_nil_of_le (Nat.le_of_eq Array.length_toList)]
      rfl
    · show ((T.heap.toList.drop T.heap.size).map (·.slots.size)).sum ≤ 0
      rw [List.drop_eq_nil_of_le (Nat.le_of_eq Array.length_toList)]
      exact Nat.le_refl _
/-- 'throw new E()': new; dup; invokespecial; athrow -/
theorem vx_throw0 {cc : ByteArray} {pc : Nat} (hexec : p.tables.exec = Jvm.exec) (hb : c.code = cc) (hl : l.stackTraces = false) {own cls : String} {names : List String} {ik ic mc ms : Nat} {A : Nat → Prop}
    (hown : s.vm.findClass own = some m.cls) (hcls : Bundle.fit cls = true) (hnames : ∀ n ∈ names, Bundle.fit n = true)
    (hk : (Cond.classLink own ik cls).before args s = true) (hini : (Cond.initialized cls).before args s = true) (hat : ∀ w ∈ vx_at0 own ic cls names, w.before args s = true)
    (hgood : ∀ w ∈ Cond.classLink own ik cls :: Cond.initialized cls :: vx_at0 own ic cls names, vx_ot w = true)
    (hU : vx_Zq Bundle.tN "UNASSIGNED_STACK" Bundle.steD A s s.heap) (hN : vx_Zq Bundle.tN "SUPPRESSED_SENTINEL" Bundle.listD A s s.heap) (hS : va_S A s.heap H locs) (hsize : ls.size = c.maxLocals)
    (d0 : decode cc pc = .ok (.new ik, 3)) (d3 : decode cc (pc + 3) = .ok (.dup, 1)) (d4 : decode cc (pc + 4) = .ok (.invokespecial ic, 3)) (d7 : decode cc (pc + 7) = .ok (.athrow, 1))
    (hout : ∀ x ∈ c.exceptionTable.toList, covers x (pc + 7) = false)
    (hRframes : names.length + 3 < R.frames) (hRlocals : (rest.map fun v => v.category).sum + (13 * (names.length + 1) + 42) ≤ R.locals) (hRcells : cells + 1 ≤ R.cells) (hRslots : slots + 6 ≤ R.slots) (hlocks : meth.locks = false)
    (hx : ∀ t : State, s.vm.Alike t.vm → H.size ≤ t.heap.size → (∀ q : Nat, q < H.size → t.heap[q]? = H[q]?) → XC cls s t)
    (hf : ∀ z ∈ locs, free z.base) (hc : cells + 1 ≤ mc) (hs : slots + 6 ≤ ms) :
    W p l e R s m args below meth c H locs cells slots (vx_MQ below Qc XC args s mc ms free) (F0 m pc ls rest) := by
  intro T hT X
  have htr : e.platform.stackTraces = false := (show e.platform.stackTraces = l.stackTraces by rw [X.admits.platform]).trans hl
  have Y := vx_rebase X (R' := { frames := R.frames, locals := R.locals, cells := 1, slots := 6 }) (Nat.le_refl _) (Nat.le_refl _) hRcells hRslots
  obtain ⟨s', hA⟩ : ∃ z, z = (T.setVm s.vm).setFrames (.invoking m args :: below) := ⟨_, rfl⟩
  rw [← hA] at Y
  have hvm : s'.vm = s.vm := by rw [hA]; rfl
  have hhp : s'.heap = H := by rw [hA]; exact hT
  have hW0 : s.WarmedH s'.vm := by rw [hvm]; exact State.WarmedH.refl s
  have hat' : ∀ w ∈ vx_at0 own ic cls names, w.before args s' = true := fun w hw => vx_ot_at hW0 hvm.symm (hgood w (List.mem_cons_of_mem _ (List.mem_cons_of_mem _ hw))) (hat w hw)
  have hk' : (Cond.classLink own ik cls).before args s' = true := vx_ot_at hW0 hvm.symm (hgood _ List.mem_cons_self) hk
  have hini' : (Cond.initialized cls).before args s' = true := vx_ot_at hW0 hvm.symm (hgood _ (List.mem_cons_of_mem _ List.mem_cons_self)) hini
  have hU' : vx_Zq Bundle.tN "UNASSIGNED_STACK" Bundle.steD A s' s'.heap := by rw [hhp]; exact vx_Zq.moved hW0.alike (hU.kept hS.2.1)
  have hN' : vx_Zq Bundle.tN "SUPPRESSED_SENTINEL" Bundle.listD A s' s'.heap := by rw [hhp]; exact vx_Zq.moved hW0.alike (hN.kept hS.2.1)
  have h : ∀ w ∈ Bundle.ownAtoms0 own ic cls names, w.before args s' = true := vx_own hat' (vx_isRefq hU'.1) (vx_isRefq hN'.1) hU'.2.word hN'.2.word
  have hown' : s'.vm.findClass own = some m.cls := by rw [hvm]; exact hown
  have hins : (Cond.instantiable cls 6).before args s' = true := h _ (by simp [Bundle.ownAtoms0])
  obtain ⟨vm₁, cX, kX, hfX, hkX, -, -, X₁, st1⟩ := Y.newCold hexec (own := own) (C := cls) (index := ik) (n := 6) hown' hk' hins hini'
    (g := F0 m pc ls rest) rfl (by rw [hb]; exact d0) (Nat.le_refl _) (Nat.le_refl _)
  generalize hT1 : (T.setVm vm₁).pushCell { cls := cX, slots := kX.instanceTypes.map defaultValue, vm := .none } = T1 at X₁ st1
  have hcat : (Value.ref T.heap.size).category = 1 := rfl
  have hcellA : T1.heap[T.heap.size]? = some (freshCell cX kX) := by rw [← hT1]; exact State.heap_pushCell_size _ _
  have d3' : decode c.code (pc + 3) = .ok (.dup, 1) := by rw [hb]; exact d3
  obtain ⟨U, hsteps, hrun, hend, hW, hsame, ce, hce, hO⟩ := X₁.ctorThrow0 hexec htr (own := own) (cls := cls) (names := names) (ic := ic) hown' hcls hnames h (fun x hx => nomatch hx) hfX hkX hcellA (by rw [hhp, hT]; exact Nat.le_refl _)
    (g := { method := m, pc := pc + 4, locals := ls, stack := .ref T.heap.size :: .ref T.heap.size :: rest, locked := none }) rfl hsize rfl rfl (rest := rest) rfl
    (by rw [hb]; exact d4) (by rw [hb]; exact d7) hout hRframes (by simp only [List.map_cons, List.sum_cons, hcat]; omega) hlocks
  obtain ⟨f1, f2⟩ := vx_frame hsame
  rw [hhp] at f1 f2
  have hWs : s.WarmedH U.vm := State.WarmedH.trans hW0 hW
  have hcl : s.vm.findClass cls = some ce.cls := by
    have h9 := hO.cls
    rw [hvm] at h9
    exact h9
  have hall : s.sameButNew ({ U with vm := s.vm } : State) locs mc ms := by
    subst hA
    obtain ⟨e1, e2⟩ := hsame
    rw [State.setFrames_setFrames] at e1
    have h2 : (T.setVm s.vm).sameButNew ({ U with vm := s.vm } : State) [] (0 + 1) (0 + 6) := ⟨e1, e2⟩
    have h3 := X.same.trans h2
    rw [List.append_nil] at h3
    exact h3.mono hc hs
  refine ⟨U, ?_, .threw T.heap.size, hrun, hend, Or.inr ⟨T.heap.size, rfl, cls, ce, locs, hx U hWs.alike f1 (fun q hq => f2 q hq (fun z hz => nomatch hz)), hce, hO.vm, hcl, hWs, hall, hf⟩⟩
  refine st1 _ ?_
  show Steps p.tables e below (T1.setTop { method := m, pc := pc + 3, locals := ls, stack := .ref T.heap.size :: rest, locked := none }) _
  jvm_step X₁.here [X₁.here.top, hexec, d3', Value.category]
  exact hsteps
/-- 'throw new E("text")': new; dup; ldc; invokespecial; athrow -/
theorem vx_throwS {cc : ByteArray} {pc : Nat} (hexec : p.tables.exec = Jvm.exec) (hb : c.code = cc) (hl : l.stackTraces = false) {own cls text : String} {names : List String} {ik is ic mc ms sa : Nat} {A : Nat → Prop}
    (hown : s.vm.findClass own = some m.cls) (hcls : Bundle.fit cls = true) (hnames : ∀ n ∈ names, Bundle.fit n = true)
    (hk : (Cond.classLink own ik cls).before args s = true) (hini : (Cond.initialized cls).before args s = true) (hstr : vk_R own is text sa s) (hat : ∀ w ∈ vx_atS own ic cls names, w.before args s = true)
    (hgood : ∀ w ∈ Cond.classLink own ik cls :: Cond.initialized cls :: vx_atS own ic cls names, vx_ot w = true)
    (hU : vx_Zq Bundle.tN "UNASSIGNED_STACK" Bundle.steD A s s.heap) (hN : vx_Zq Bundle.tN "SUPPRESSED_SENTINEL" Bundle.listD A s s.heap) (hS : va_S A s.heap H locs) (hsize : ls.size = c.maxLocals)
    (d0 : decode cc pc = .ok (.new ik, 3)) (d3 : decode cc (pc + 3) = .ok (.dup, 1)) (d4 : decode cc (pc + 4) = .ok (.ldc is, 2)) (d6 : decode cc (pc + 6) = .ok (.invokespecial ic, 3)) (d9 : decode cc (pc + 9) = .ok (.athrow, 1))
    (hout : ∀ x ∈ c.exceptionTable.toList, covers x (pc + 9) = false)
    (hRframes : names.length + 3 < R.frames) (hRlocals : (rest.map fun v => v.category).sum + (13 * (names.length + 1) + 43) ≤ R.locals) (hRcells : cells + 1 ≤ R.cells) (hRslots : slots + 6 ≤ R.slots) (hlocks : meth.locks = false)
    (hx : ∀ t : State, s.vm.Alike t.vm → H.size ≤ t.heap.size → (∀ q : Nat, q < H.size → t.heap[q]? = H[q]?) → XC cls s t)
    (hf : ∀ z ∈ locs, free z.base) (hc : cells + 1 ≤ mc) (hs : slots + 6 ≤ ms) :
    W p l e R s m args below meth c H locs cells slots (vx_MQ below Qc XC args s mc ms free) (F0 m pc ls rest) := by
  intro T hT X
  have htr : e.platform.stackTraces = false := (show e.platform.stackTraces = l.stackTraces by rw [X.admits.platform]).trans hl
  have Y := vx_rebase X (R' := { frames := R.frames, locals := R.locals, cells := 1, slots := 6 }) (Nat.le_refl _) (Nat.le_refl _) hRcells hRslots
  obtain ⟨s', hA⟩ : ∃ z, z = (T.setVm s.vm).setFrames (.invoking m args :: below) := ⟨_, rfl⟩
  rw [← hA] at Y
  have hvm : s'.vm = s.vm := by rw [hA]; rfl
  have hhp : s'.heap = H := by rw [hA]; exact hT
  have hW0 : s.WarmedH s'.vm := by rw [hvm]; exact State.WarmedH.refl s
  have hat' : ∀ w ∈ vx_atS own ic cls names, w.before args s' = true := fun w hw => vx_ot_at hW0 hvm.symm (hgood w (List.mem_cons_of_mem _ (List.mem_cons_of_mem _ hw))) (hat w hw)
  have hk' : (Cond.classLink own ik cls).before args s' = true := vx_ot_at hW0 hvm.symm (hgood _ List.mem_cons_self) hk
  have hini' : (Cond.initialized cls).before args s' = true := vx_ot_at hW0 hvm.symm (hgood _ (List.mem_cons_of_mem _ List.mem_cons_self)) hini
  have hU' : vx_Zq Bundle.tN "UNASSIGNED_STACK" Bundle.steD A s' s'.heap := by rw [hhp]; exact vx_Zq.moved hW0.alike (hU.kept hS.2.1)
  have hN' : vx_Zq Bundle.tN "SUPPRESSED_SENTINEL" Bundle.listD A s' s'.heap := by rw [hhp]; exact vx_Zq.moved hW0.alike (hN.kept hS.2.1)
  have h : ∀ w ∈ Bundle.ownAtoms own ic cls names, w.before args s' = true := vx_own hat' (vx_isRefq hU'.1) (vx_isRefq hN'.1) hU'.2.word hN'.2.word
  have hown' : s'.vm.findClass own = some m.cls := by rw [hvm]; exact hown
  have hins : (Cond.instantiable cls 6).before args s' = true := h _ (by simp [Bundle.ownAtoms])
  obtain ⟨vm₁, cX, kX, hfX, hkX, -, -, X₁, st1⟩ := Y.newCold hexec (own := own) (C := cls) (index := ik) (n := 6) hown' hk' hins hini'
    (g := F0 m pc ls rest) rfl (by rw [hb]; exact d0) (Nat.le_refl _) (Nat.le_refl _)
  generalize hT1 : (T.setVm vm₁).pushCell { cls := cX, slots := kX.instanceTypes.map defaultValue, vm := .none } = T1 at X₁ st1
  have hcat : (Value.ref T.heap.size).category = 1 := rfl
  have hcellA : T1.heap[T.heap.size]? = some (freshCell cX kX) := by rw [← hT1]; exact State.heap_pushCell_size _ _
  have d3' : decode c.code (pc + 3) = .ok (.dup, 1) := by rw [hb]; exact d3
  have d4' : decode c.code (pc + 4) = .ok (.ldc is, 2) := by rw [hb]; exact d4
  have hstr' : vk_R own is text sa s' := vk_R.warm hW0 hstr
  obtain ⟨U, hsteps, hrun, hend, hW, hsame, ce, hce, hO⟩ := X₁.ctorThrowS hexec htr (own := own) (cls := cls) (names := names) (ic := ic) hown' hcls hnames h (fun x hx => nomatch hx) hfX hkX hcellA (by rw [hhp, hT]; exact Nat.le_refl _) (msg := .ref sa) rfl
    (g := { method := m, pc := pc + 6, locals := ls, stack := .ref sa :: .ref T.heap.size :: .ref T.heap.size :: rest, locked := none }) rfl hsize rfl rfl (rest := rest) rfl
    (by rw [hb]; exact d6) (by rw [hb]; exact d9) hout hRframes (by simp only [List.map_cons, List.sum_cons, hcat]; omega) hlocks
  obtain ⟨f1, f2⟩ := vx_frame hsame
  rw [hhp] at f1 f2
  have hWs : s.WarmedH U.vm := State.WarmedH.trans hW0 hW
  have hcl : s.vm.findClass cls = some ce.cls := by
    have h9 := hO.cls
    rw [hvm] at h9
    exact h9
  have hall : s.sameButNew ({ U with vm := s.vm } : State) locs mc ms := by
    subst hA
    obtain ⟨e1, e2⟩ := hsame
    rw [State.setFrames_setFrames] at e1
    have h2 : (T.setVm s.vm).sameButNew ({ U with vm := s.vm } : State) [] (0 + 1) (0 + 6) := ⟨e1, e2⟩
    have h3 := X.same.trans h2
    rw [List.append_nil] at h3
    exact h3.mono hc hs
  refine ⟨U, ?_, .threw T.heap.size, hrun, hend, Or.inr ⟨T.heap.size, rfl, cls, ce, locs, hx U hWs.alike f1 (fun q hq => f2 q hq (fun z hz => nomatch hz)), hce, hO.vm, hcl, hWs, hall, hf⟩⟩
  refine st1 _ ?_
  show Steps p.tables e below (T1.setTop { method := m, pc := pc + 3, locals := ls, stack := .ref T.heap.size :: rest, locked := none }) _
  jvm_step X₁.here [X₁.here.top, hexec, d3', Value.category]
  exact X₁.ldcString hexec (own := own) (text := text) (index := is) (a := sa) hown' hstr'.1 hstr'.2
    (g := { method := m, pc := pc + 4, locals := ls, stack := .ref T.heap.size :: .ref T.heap.size :: rest, locked := none }) rfl d4' _ hsteps
/-- 'throw new E("text")', the text by a wide index -/
theorem vx_throwSW {cc : ByteArray} {pc : Nat} (hexec : p.tables.exec = Jvm.exec) (hb : c.code = cc) (hl : l.stackTraces = false) {own cls text : String} {names : List String} {ik is ic mc ms sa : Nat} {A : Nat → Prop}
    (hown : s.vm.findClass own = some m.cls) (hcls : Bundle.fit cls = true) (hnames : ∀ n ∈ names, Bundle.fit n = true)
    (hk : (Cond.classLink own ik cls).before args s = true) (hini : (Cond.initialized cls).before args s = true) (hstr : vk_R own is text sa s) (hat : ∀ w ∈ vx_atS own ic cls names, w.before args s = true)
    (hgood : ∀ w ∈ Cond.classLink own ik cls :: Cond.initialized cls :: vx_atS own ic cls names, vx_ot w = true)
    (hU : vx_Zq Bundle.tN "UNASSIGNED_STACK" Bundle.steD A s s.heap) (hN : vx_Zq Bundle.tN "SUPPRESSED_SENTINEL" Bundle.listD A s s.heap) (hS : va_S A s.heap H locs) (hsize : ls.size = c.maxLocals)
    (d0 : decode cc pc = .ok (.new ik, 3)) (d3 : decode cc (pc + 3) = .ok (.dup, 1)) (d4 : decode cc (pc + 4) = .ok (.ldc_w is, 3)) (d7 : decode cc (pc + 7) = .ok (.invokespecial ic, 3)) (d10 : decode cc (pc + 10) = .ok (.athrow, 1))
    (hout : ∀ x ∈ c.exceptionTable.toList, covers x (pc + 10) = false)
    (hRframes : names.length + 3 < R.frames) (hRlocals : (rest.map fun v => v.category).sum + (13 * (names.length + 1) + 43) ≤ R.locals) (hRcells : cells + 1 ≤ R.cells) (hRslots : slots + 6 ≤ R.slots) (hlocks : meth.locks = false)
    (hx : ∀ t : State, s.vm.Alike t.vm → H.size ≤ t.heap.size → (∀ q : Nat, q < H.size → t.heap[q]? = H[q]?) → XC cls s t)
    (hf : ∀ z ∈ locs, free z.base) (hc : cells + 1 ≤ mc) (hs : slots + 6 ≤ ms) :
    W p l e R s m args below meth c H locs cells slots (vx_MQ below Qc XC args s mc ms free) (F0 m pc ls rest) := by
  intro T hT X
  have htr : e.platform.stackTraces = false := (show e.platform.stackTraces = l.stackTraces by rw [X.admits.platform]).trans hl
  have Y := vx_rebase X (R' := { frames := R.frames, locals := R.locals, cells := 1, slots := 6 }) (Nat.le_refl _) (Nat.le_refl _) hRcells hRslots
  obtain ⟨s', hA⟩ : ∃ z, z = (T.setVm s.vm).setFrames (.invoking m args :: below) := ⟨_, rfl⟩
  rw [← hA] at Y
  have hvm : s'.vm = s.vm := by rw [hA]; rfl
  have hhp : s'.heap = H := by rw [hA]; exact hT
  have hW0 : s.WarmedH s'.vm := by rw [hvm]; exact State.WarmedH.refl s
  have hat' : ∀ w ∈ vx_atS own ic cls names, w.before args s' = true := fun w hw => vx_ot_at hW0 hvm.symm (hgood w (List.mem_cons_of_mem _ (List.mem_cons_of_mem _ hw))) (hat w hw)
  have hk' : (Cond.classLink own ik cls).before args s' = true := vx_ot_at hW0 hvm.symm (hgood _ List.mem_cons_self) hk
  have hini' : (Cond.initialized cls).before args s' = true := vx_ot_at hW0 hvm.symm (hgood _ (List.mem_cons_of_mem _ List.mem_cons_self)) hini
  have hU' : vx_Zq Bundle.tN "UNASSIGNED_STACK" Bundle.steD A s' s'.heap := by rw [hhp]; exact vx_Zq.moved hW0.alike (hU.kept hS.2.1)
  have hN' : vx_Zq Bundle.tN "SUPPRESSED_SENTINEL" Bundle.listD A s' s'.heap := by rw [hhp]; exact vx_Zq.moved hW0.alike (hN.kept hS.2.1)
  have h : ∀ w ∈ Bundle.ownAtoms own ic cls names, w.before args s' = true := vx_own hat' (vx_isRefq hU'.1) (vx_isRefq hN'.1) hU'.2.word hN'.2.word
  have hown' : s'.vm.findClass own = some m.cls := by rw [hvm]; exact hown
  have hins : (Cond.instantiable cls 6).before args s' = true := h _ (by simp [Bundle.ownAtoms])
  obtain ⟨vm₁, cX, kX, hfX, hkX, -, -, X₁, st1⟩ := Y.newCold hexec (own := own) (C := cls) (index := ik) (n := 6) hown' hk' hins hini'
    (g := F0 m pc ls rest) rfl (by rw [hb]; exact d0) (Nat.le_refl _) (Nat.le_refl _)
  generalize hT1 : (T.setVm vm₁).pushCell { cls := cX, slots := kX.instanceTypes.map defaultValue, vm := .none } = T1 at X₁ st1
  have hcat : (Value.ref T.heap.size).category = 1 := rfl
  have hcellA : T1.heap[T.heap.size]? = some (freshCell cX kX) := by rw [← hT1]; exact State.heap_pushCell_size _ _
  have d3' : decode c.code (pc + 3) = .ok (.dup, 1) := by rw [hb]; exact d3
  have d4' : decode c.code (pc + 4) = .ok (.ldc_w is, 3) := by rw [hb]; exact d4
  have hstr' : vk_R own is text sa s' := vk_R.warm hW0 hstr
  obtain ⟨U, hsteps, hrun, hend, hW, hsame, ce, hce, hO⟩ := X₁.ctorThrowS hexec htr (own := own) (cls := cls) (names := names) (ic := ic) hown' hcls hnames h (fun x hx => nomatch hx) hfX hkX hcellA (by rw [hhp, hT]; exact Nat.le_refl _) (msg := .ref sa) rfl
    (g := { method := m, pc := pc + 7, locals := ls, stack := .ref sa :: .ref T.heap.size :: .ref T.heap.size :: rest, locked := none }) rfl hsize rfl rfl (rest := rest) rfl
    (by rw [hb]; exact d7) (by rw [hb]; exact d10) hout hRframes (by simp only [List.map_cons, List.sum_cons, hcat]; omega) hlocks
  obtain ⟨f1, f2⟩ := vx_frame hsame
  rw [hhp] at f1 f2
  have hWs : s.WarmedH U.vm := State.WarmedH.trans hW0 hW
  have hcl : s.vm.findClass cls = some ce.cls := by
    have h9 := hO.cls
    rw [hvm] at h9
    exact h9
  have hall : s.sameButNew ({ U with vm := s.vm } : State) locs mc ms := by
    subst hA
    obtain ⟨e1, e2⟩ := hsame
    rw [State.setFrames_setFrames] at e1
    have h2 : (T.setVm s.vm).sameButNew ({ U with vm := s.vm } : State) [] (0 + 1) (0 + 6) := ⟨e1, e2⟩
    have h3 := X.same.trans h2
    rw [List.append_nil] at h3
    exact h3.mono hc hs
  refine ⟨U, ?_, .threw T.heap.size, hrun, hend, Or.inr ⟨T.heap.size, rfl, cls, ce, locs, hx U hWs.alike f1 (fun q hq => f2 q hq (fun z hz => nomatch hz)), hce, hO.vm, hcl, hWs, hall, hf⟩⟩
  refine st1 _ ?_
  show Steps p.tables e below (T1.setTop { method := m, pc := pc + 3, locals := ls, stack := .ref T.heap.size :: rest, locked := none }) _
  jvm_step X₁.here [X₁.here.top, hexec, d3', Value.category]
  exact X₁.ldcStringW hexec (own := own) (text := text) (index := is) (a := sa) hown' hstr'.1 hstr'.2
    (g := { method := m, pc := pc + 4, locals := ls, stack := .ref T.heap.size :: .ref T.heap.size :: rest, locked := none }) rfl d4' _ hsteps
end Ends
section Bodies
variable {l : Launch}
theorem vx_ofW {y : MethodName} {ws ws' : List Cond} {rm : Room} {Pc : Array Value → State → Prop} {Qc : Array Value → State → Outcome → State → Prop} {XC : String → State → State → Prop} {mc ms : Nat} {free : Addr → Prop} {cc : ByteArray} {maxL : Nat} {ret : Option FieldType}
    (hy : plainName y.cls = true) (hw : ws = Cond.code y cc maxL ret :: ws')
    (body : ∀ p e s m args below meth c s₁, BodyLoose p l y (headSpec ws rm) cc maxL ret e s m args below meth c s₁ → c.maxLocals = maxL → (∀ x ∈ c.exceptionTable.toList, False) → Pc args s →
      W p l e (headSpec ws rm).room s m args below meth c s.heap [] 0 0 (vx_MQ below Qc XC args s mc ms free) (entryFrame m args maxL)) : vx_Met l y ws rm Pc Qc XC mc ms free := by
  refine MetFree.of_bodyS (code := cc) (maxLocals := maxL) (ret := ret) hy ?_ ?_
  · intro args s m h hn
    obtain ⟨meth, c, h1, h2, h3, h4, h5, h6, -, -⟩ := Cond.code_spec hn (atoms_spec (ws := ws) h _ (by rw [hw]; exact List.mem_cons_self))
    exact ⟨meth, c, h1, h2, h3, h4, h5, h6⟩
  · intro p e s m args below meth c s₁ B hml hP _
    have hh0 : s₁.heap = s.heap := by rw [B.state]; rfl
    have ht : ∀ x ∈ c.exceptionTable.toList, False := by
      obtain ⟨meth9, c9, h1, h2, -, -, -, -, h7, -⟩ := Cond.code_spec B.named (atoms_spec (ws := ws) B.pre _ (by rw [hw]; exact List.mem_cons_self))
      cases Option.some.inj (h1.symm.trans B.method)
      cases Option.some.inj (h2.symm.trans (Stand.of_body B).code)
      intro x hx
      rw [Array.isEmpty_iff.mp h7] at hx
      cases hx
    obtain ⟨t, a1, o, b1, b2, b3⟩ := body p e s m args below meth c s₁ B hml ht hP s₁ hh0 (Stand.of_body B)
    exact ⟨t, o, a1, b1, b2, b3⟩
/-- the table of a body with handlers -/
theorem vx_table {p : Program} {x y : MethodName} {S : Spec} {cc bytes : ByteArray} {maxL maxL' : Nat} {ret ret' : Option FieldType} {e : Env} {s s₁ : State} {m : MethodId} {args : Array Value} {below : List Frame} {meth : Method} {c : Code} {hh : List (Nat × Nat × Nat × Nat)}
    (B : BodyLoose p l y S cc maxL ret e s m args below meth c s₁) (h : (Cond.codeWith y bytes maxL' ret' hh).before args s = true) : c.exceptionTable.toList = tableOf hh := by
  obtain ⟨m9, meth9, c9, hn9, h1, h2, -, -, h6, -⟩ := Cond.codeWith_spec h
  cases Option.some.inj (hn9.symm.trans B.named)
  cases Option.some.inj (h1.symm.trans B.method)
  cases Option.some.inj (h2.symm.trans (Stand.of_body B).code)
  rw [← h6, table_eq]
end Bodies
end VXA
/-! ===== END ===== -/
/-! ===== BEGIN a static call of a method with an exception table ===== -/
section VXS
variable {p : Program} {l : Launch} {e : Env} {R : Room} {s : State} {m : MethodId} {args : Array Value} {below : List Frame} {meth : Method} {c : Code} {T : State} {H : Heap} {locs : List Loc} {cells slots : Nat}
abbrev vx_CSW (R : Room) (s : State) (args : Array Value) (own : String) (index : Nat) (y : MethodName) (bytes : ByteArray) (maxL : Nat) (ret : Option FieldType) (hh : List (Nat × Nat × Nat × Nat)) (ws : List Cond) (rm : Room) (mc ms n : Nat) : Prop :=
  (rm.cells = mc ∧ rm.slots = ms ∧ rm.frames + 1 ≤ R.frames ∧ 8 + (maxL + 11) + rm.locals ≤ R.locals ∧ (∀ w ∈ ws, ∀ (a' : Array Value) (U : State), s.WarmedH U.vm → w.before a' U = true) ∧ Cond.codeWith y bytes maxL ret hh ∈ ws) ∧
  (Cond.codeWith y bytes maxL ret hh).before args s = true ∧ (Cond.initialized y.cls).before args s = true ∧ (y.cls ≠ "java/lang/invoke/MethodHandle" ∧ y.cls ≠ "java/lang/invoke/VarHandle") ∧
  (∀ sig, parseMethodDescriptor y.desc = some sig → n = sig.parameters.length) ∧ (Cond.methodLink own index y).before args s = true ∧ (Cond.static y).before args s = true
theorem vx_cwSW {own : String} {index maxL mc ms : Nat} {y : MethodName} {bytes : ByteArray} {ret : Option FieldType} {hh : List (Nat × Nat × Nat × Nat)} {Ts ws ws' : List Cond} {rm : Room} (n : Nat) (ht : ∀ w ∈ Ts, w.before args s = true) (hT : GoodIn Ts (va_wsS own index y ws)) (hw : ws = Cond.codeWith y bytes maxL ret hh :: ws') (hrc : rm.cells = mc) (hrs : rm.slots = ms)
    (hd : y.cls ≠ "java/lang/invoke/MethodHandle" ∧ y.cls ≠ "java/lang/invoke/VarHandle" ∧ (parseMethodDescriptor y.desc).map (fun d => d.parameters.length) = some n) (hR : rm.frames + 1 ≤ R.frames ∧ 8 + (maxL + 11) + rm.locals ≤ R.locals) :
    vx_CSW R s args own index y bytes maxL ret hh ws rm mc ms n := by
  have ok : ∀ w ∈ va_wsS own index y ws, w.before args s = true := fun w h => ht w (hT w h).1
  have hG : GoodIn Ts ws := fun w h => hT w (by unfold va_wsS; exact List.mem_append_right _ h)
  have hc : Cond.codeWith y bytes maxL ret hh ∈ ws := by rw [hw]; exact List.mem_cons_self
  refine ⟨⟨hrc, hrs, hR.1, hR.2, pay_in ht hG, hc⟩, ht _ (hG _ hc).1, ok _ (by simp [va_wsS]), ⟨hd.1, hd.2.1⟩, fun sig h => ?_, ok _ (by simp [va_wsS]), ok _ (by simp [va_wsS])⟩
  have h2 := hd.2.2
  rw [h] at h2
  exact (Option.some.inj h2).symm
theorem vx_callSW (X : Stand p l e R s m args below meth c T locs cells slots) (hexec : p.tables.exec = Jvm.exec) {own : String} {index : Nat} {y : MethodName} {bytes : ByteArray} {maxL : Nat} {ret : Option FieldType} {hh : List (Nat × Nat × Nat × Nat)}
    (hown : s.vm.findClass own = some m.cls) (hlink : (Cond.methodLink own index y).before args s = true) (hstat : (Cond.static y).before args s = true) (hinit : (Cond.initialized y.cls).before args s = true)
    (hcode : (Cond.codeWith y bytes maxL ret hh).before args s = true) (hy : y.cls ≠ "java/lang/invoke/MethodHandle" ∧ y.cls ≠ "java/lang/invoke/VarHandle")
    {W9 : Nat} {Pre : Pt → Array Value → Prop} {Post : Pt → Array Value → Option Value → Pt → Prop} (hK : Back l R p e below s args y 3 W9 Pre Post)
    {g : JFrame} (hg : g.method = m) (hsize : g.locals.size = c.maxLocals) {argsL rest : List Value} (hlen : ∀ sig, parseMethodDescriptor y.desc = some sig → argsL.length = sig.parameters.length)
    (hstack : g.stack = argsL.reverse ++ rest) (hW : 2 * g.monitorRoom + (rest.map fun v => v.category).sum ≤ W9) (hdg : decode c.code g.pc = .ok (.invokestatic index, 3))
    (hpre : ∀ vm₁, s.WarmedH vm₁ → Pre ⟨T.setVm vm₁, locs, cells, slots⟩ argsL.toArray) :
    ∃ (v : Option Value) (vm₁ : Vm) (B : Pt), s.WarmedH vm₁ ∧ Stand p l e R s m args below meth c B.U B.locs B.cells B.slots ∧ Post ⟨T.setVm vm₁, locs, cells, slots⟩ argsL.toArray v B ∧
      ∀ target, Steps p.tables e below (B.U.setTop { g with pc := g.pc + 3, stack := v.toList ++ rest }) target → Steps p.tables e below (T.setTop g) target := by
  obtain ⟨mk, methM, cM, hnamed, hmethM, -, -, -, -, -, -, hsigM⟩ := Cond.codeWith_spec hcode
  have hstatic : methM.isStatic = true := Cond.static_spec hnamed hmethM hstat
  obtain ⟨kP, hkP, -⟩ := className_of_methodNamed hnamed
  have hinitP : kP.init = .initialized := Cond.initialized_spec (findClass_of_methodNamed hnamed) hkP hinit
  obtain ⟨vm₁, X₁, hstep₁⟩ := X.invokestatic hexec hown hlink hnamed hmethM hstatic hkP hinitP hy (g := g) hg (argsL := argsL) (rest := rest) (hlen _ hsigM) hstack hdg
  obtain ⟨v, B, X', hpost, hsteps⟩ := hK m meth c ⟨T.setVm vm₁, locs, cells, slots⟩ { g with stack := rest } (.invokestatic index) mk argsL.toArray X₁ hg hsize hdg hW (X₁.named hnamed) (hpre vm₁ X₁.warmed)
  exact ⟨v, vm₁, B, X₁.warmed, X', hpost, fun target h => hstep₁ _ fun acts => by rw [doInvoke_state]; exact hsteps.trans h⟩
theorem vx_runSW {y : MethodName} {bytes cc : ByteArray} {maxL nL mc ms n index : Nat} {ret : Option FieldType} {hh : List (Nat × Nat × Nat × Nat)} {ws : List Cond} {rm : Room} {Pc : Array Value → State → Prop} {Qc : Array Value → State → Outcome → State → Prop} {free : Addr → Prop} {Ts : List Cond} {own : String} {As rest : List Value} {g : JFrame}
    (S : CallFix p m c cc nL s args Ts own) (hM : Met l y ws rm Pc Qc mc ms free) (cw : vx_CSW R s args own index y bytes maxL ret hh ws rm mc ms n) (hp : PreS s H Pc As)
    (hg : g.method = m) (hn : As.length = n) (hsize : g.locals.size = nL) (hstack : g.stack = As.reverse ++ rest) (hW : 2 * g.monitorRoom + (rest.map fun v => v.category).sum ≤ 8) (hdg : decode cc g.pc = .ok (.invokestatic index, 3)) (hf : cells + mc ≤ R.cells ∧ slots + ms ≤ R.slots) :
    va_Run p l e R s m args below meth c H locs cells slots mc ms g rest (Qc As.toArray) (free) := by
  obtain ⟨⟨hrc, hrs, hfr, hlo, hws, hcw⟩, hcode, hini, hy, hlen, hl, hstt⟩ := cw
  have hK : Back l R p e below s args y 3 8 (PreOf R mc ms Pc) (PostOf Qc mc ms free) := va_backW (hh := hh) (bytes := bytes) (maxL := maxL) (ret := ret) hM hp.1 hrc hrs hfr hlo hws hcw (fun a' U hW => word_at hW (Or.inl (by first | rfl | simp [Cond.onTables, Cond.keeps, Cond.steady])) hini)
  obtain ⟨hx, hb, hml, ho, -⟩ := S
  intro T hT X
  obtain ⟨v, vm₁, ⟨U', l2, c2, s2⟩, hW₁, X', ⟨g', mk, t, L, e1, e2, hq, h1, hL, h2, h3⟩, st⟩ := vx_callSW X hx (hh := hh) (bytes := bytes) (maxL := maxL) (ret := ret) ho hl hstt hini hcode hy hK hg (hsize.trans hml.symm) (argsL := As) (rest := rest) (fun sig h => hn.trans (hlen sig h)) hstack hW (by rw [hb]; exact hdg)
    (fun vm₁ hW₁ => ⟨hf.1, hf.2, hp.2 (T.setVm vm₁) hT hW₁⟩)
  dsimp only [Pt.U, Pt.locs, Pt.cells, Pt.slots] at X' e1 e2 h1 h2 h3 st
  subst h1; subst h2; subst h3
  exact ⟨v, (T.setVm vm₁).calling g' mk As.toArray, t, U', L, hT, X', hL, e1, e2, hq, st⟩
/-- not caught here, past rows that name other classes: it goes on to the caller -/
theorem vx_outP {p : Program} {l : Launch} {e : Env} {R : Room} {s : State} {m : MethodId} {args : Array Value} {below : List Frame} {meth : Method} {c : Code} {H : Heap} {locs : List Loc} {cells slots : Nat} {free : Addr → Prop} {ls : Array Slot} {rest : List Value} {Qc : Array Value → State → Outcome → State → Prop} {XC : String → State → State → Prop}
    {pc : Nat} {own E : String} {ce : Cell} {q : Addr} {mc ms : Nat} (hown : s.vm.findClass own = some m.cls) (hlocks : meth.locks = false)
    (hpass : ∀ z ∈ c.exceptionTable.toList, covers z pc = false ∨ (z.catchType ≠ 0 ∧ ∃ nm : String, (Cond.classLink own z.catchType nm).before args s = true ∧ va_Nc E nm s)) (hcell : H[q]? = some ce) (hv : ce.vm = .none) (hcl : s.vm.findClass E = some ce.cls)
    (hx : ∀ t : State, t.heap = H → s.vm.Alike t.vm → XC E s t) (hf : ∀ z ∈ locs, free z.base) (hc : cells ≤ mc) (hs : slots ≤ ms) :
    vx_W p l e R s m args below meth c H locs cells slots (vx_MQ below Qc XC args s mc ms free) (F0 m pc ls rest) q := by
  intro T hT X
  have hpl : e.platform.magicAccessors = ({} : Platform).magicAccessors := by rw [X.admits.platform]
  obtain ⟨vm', hW', X', st⟩ := X.outThrough hlocks q (g := F0 m pc ls rest) rfl rfl rfl (cell := ce) (by rw [hT]; exact hcell) (by rw [hv]; rfl)
    (by obtain ⟨k9, h9, -⟩ := Vm.findClass_spec hcl; exact ⟨k9, h9⟩) (fun z hz => by
      rcases hpass z hz with h | ⟨hz0, nm, hl1, hn1⟩
      · exact Or.inl h
      · obtain ⟨c6, hc6, hcl6⟩ := Cond.classLink_spec hown hl1 e.platform hpl
        obtain ⟨a8, b8, h1, h2, h3⟩ := hn1
        cases Option.some.inj (h1.symm.trans hcl)
        cases Option.some.inj (h2.symm.trans hc6)
        exact Or.inr ⟨hz0, _, hcl6, h3⟩)
  obtain ⟨g₀, hfr⟩ := X'.frames_eq
  have hcell9 : ((T.setVm vm').setFrames (.throwing q :: below)).heap[q]? = some ce := by
    show T.heap[q]? = some ce
    rw [hT]; exact hcell
  have hend : Ended ((T.setVm vm').setFrames (.throwing q :: below)) below (.threw q) := State.frames_setFrames _ (State.cur_lt_of_frames hfr)
  refine ⟨(T.setVm vm').setFrames (.throwing q :: below), ?_, .threw q, X'.here.running, hend, Or.inr ⟨q, rfl, E, ce, locs, hx _ hT (X'.ends _).1.alike, hcell9, hv, hcl, (X'.ends _).1, (X'.ends _).2.mono hc hs, hf⟩⟩
  rw [X.pushThrowing_eq]
  exact st
/-- a thing of a world lies in the heap -/
theorem vx_lt {D : va_G} {cl : List vw_C} {ws : va_W} {H1 : Heap} (h : va_P D cl ws H1) {k : Nat} {q : Nat × va_E} (hk : ws[k]? = some q) : q.1 < H1.size := (h k q hk).lt
end VXS
/-! ===== END ===== -/
/-! ===== BEGIN methods with a table of their own: called by a name, returning or throwing ===== -/
section VXH
/-! vx_backW, vx_callVX, vx_callSX, vx_callVW, vx_runVW, vx_runVX, vx_runSX, vx_ofWH follow the same proofs as their sisters above (Free/Laws.lean, Shelf42/LK1.lean); vx_outP calls Shelf42/NT130.lean (outThrough). -/
section
variable {l : Launch} {R : Room} {p : Program} {e : Env} {below : List Frame} {s : State} {sargs : Array Value} {y : MethodName} {len W9 : Nat}
theorem vx_backW {ws : List Cond} {rm : Room} {Pc : Array Value → State → Prop} {Qc : Array Value → State → Outcome → State → Prop} {XC : String → State → State → Prop} {mc ms : Nat} {free : Addr → Prop} {bytes : ByteArray} {maxL : Nat} {ret : Option FieldType} {hh : List (Nat × Nat × Nat × Nat)}
    (hM : vx_Met l y ws rm Pc Qc XC mc ms free) (hblind : FrameBlind Pc) (hrc : rm.cells = mc) (hrs : rm.slots = ms)
    (hframes : rm.frames + 1 ≤ R.frames) (hlocals : W9 + (maxL + 11) + rm.locals ≤ R.locals)
    (hws : ∀ w ∈ ws, ∀ a' U, s.WarmedH U.vm → w.before a' U = true) (hcode : Cond.codeWith y bytes maxL ret hh ∈ ws) (hinit : ∀ a' U, s.WarmedH U.vm → (Cond.initialized y.cls).before a' U = true) :
    vx_Back l R p e below s sargs y len W9 (PreOf R mc ms Pc) (PostOf Qc mc ms free) (vx_Post XC mc ms free) := by
  intro m meth c A g ig mk a X hg hsize hdg hW hn hp
  have h1 : (headSpec ws rm).pre.before a A.U = true := atoms_intro fun w hw => hws w hw _ _ X.warmed
  have h2 : (Cond.codeWith y bytes maxL ret hh).before a A.U = true := hws _ hcode _ _ X.warmed
  have h3 : (Cond.initialized y.cls).before a A.U = true := hinit _ _ X.warmed
  have h4 : A.cells + (headSpec ws rm).room.cells ≤ R.cells := by rw [show (headSpec ws rm).room.cells = mc from hrc]; exact hp.1
  have h5 : A.slots + (headSpec ws rm).room.slots ≤ R.slots := by rw [show (headSpec ws rm).room.slots = ms from hrs]; exact hp.2.1
  have hPc : Pc a (A.U.calling g mk a) := hblind _ _ _ _ hp.2.2
  obtain ⟨U, Ls, c0, s0⟩ := A
  dsimp only [Pt.U, Pt.locs, Pt.cells, Pt.slots] at h1 h2 h3 h4 h5 X hn hPc ⊢
  obtain ⟨m9, methY, cY, hn9, hmY, hcY, -, hlY, -⟩ := Cond.codeWith_spec h2
  cases Option.some.inj (hn9.symm.trans hn)
  obtain ⟨kY, hkY, -⟩ := className_of_methodNamed hn
  have hinitY : kY.init = .initialized := Cond.initialized_spec (findClass_of_methodNamed hn) hkY h3
  have h : At U g.method c below := by rw [hg]; exact X.here
  have hlocals9 : W9 + (maxL + 11) + (headSpec ws rm).room.locals ≤ R.locals := hlocals
  have happ : (headSpec ws rm).appliesLoose y e.platform (U.calling g mk a) = true :=
    Spec.appliesLoose_calling (g := g) h hdg hn hkY hinitY
      (X.room_calling (g := g) (R' := (headSpec ws rm).room) hsize hmY hcY hframes (by rw [hlY]; omega) h4 h5) h1
  obtain ⟨mid, hmid⟩ := h.above
  have hfr : (U.setTop g).frames = (.java g :: mid) ++ below := by rw [State.frames_setTop' g h.top, hmid]; rfl
  obtain ⟨o, s₂, hsteps, -, hend, hq⟩ := Steps.callFree hM p X.admits X.cas X.clock (acts := []) hfr happ hPc trivial
  have hq' : vx_Q Qc XC mc ms free a (U.calling g mk a) o s₂ := hq
  rw [State.frames_setTop' g h.top] at hend
  obtain ⟨g₀, hg0⟩ := Option.isSome_iff_exists.mp h.top
  obtain ⟨r, hr⟩ := State.topJava?_eq_some.mp hg0
  have hr' : (({ U with heap := s₂.heap, slotsUsed := s₂.slotsUsed } : State).setVm s₂.vm).frames = .java g₀ :: r := hr
  rcases hq' with ⟨hqc, L, hfe, hL⟩ | ⟨q, rfl, E, ce, L, hx, hce, hcv, hcl, hW₂, hsm, hL⟩
  · obtain ⟨⟨v, rfl⟩, hW₂, e2, q2, q3, q4, q5, q6⟩ := id hfe
    have e3 : s₂ = ({ (U.calling g mk a).setFrames s₂.frames with heap := s₂.heap, slotsUsed := s₂.slotsUsed } : State).setVm s₂.vm := by
      have : s₂ = ({ s₂ with vm := (U.calling g mk a).vm } : State).setVm s₂.vm := rfl
      rw [e2] at this
      exact this
    obtain ⟨c₂, i₂, len₂, hc₂, hd₂, hf₂⟩ := hend
    have hW' : U.WarmedH s₂.vm := hW₂
    have hcc : c₂ = c := by
      have h1 : s₂.code? g.method = U.code? g.method := by
        rw [State.code?_eq, State.code?_eq, hW'.alike.method?]
      exact Option.some.inj (hc₂.symm.trans (h1.trans h.code))
    subst hcc
    have hlen : len₂ = len := by rw [hdg] at hd₂; cases hd₂; rfl
    subst hlen
    have hs₂ : s₂ = (({ U with heap := s₂.heap, slotsUsed := s₂.slotsUsed } : State).setVm s₂.vm).setTop { g with pc := g.pc + len₂, stack := v.toList ++ g.stack } := by
      refine e3.trans ?_
      rw [hf₂, State.calling_eq h.top, State.setFrames_setFrames, State.setTop_of_frames _ hr', hr]
      rfl
    have hsame : U.sameButNew ({ U with heap := s₂.heap, slotsUsed := s₂.slotsUsed } : State) L mc ms := by
      refine ⟨?_, q2, q3, q4, q5, q6⟩
      obtain ⟨t, ht, -⟩ := State.frames_cons hr
      show ({ U with heap := s₂.heap, slotsUsed := s₂.slotsUsed } : State) = { U.setFrames U.frames with heap := s₂.heap, slotsUsed := s₂.slotsUsed }
      rw [State.setFrames_self ht]
    subst hg
    refine Or.inl ⟨v, ⟨(({ U with heap := s₂.heap, slotsUsed := s₂.slotsUsed } : State).setVm s₂.vm), Ls ++ L, c0 + mc, s0 + ms⟩,
      ⟨X.admits, X.cas, X.clock, X.frames, X.room, X.hears, X.method, X.code, (X.here.setHeapUsed s₂.heap s₂.slotsUsed).setVm hW'.alike, X.tail, State.WarmedH.trans X.warmed hW', X.limits, X.bytes, X.same.trans (hsame.setVm s.vm)⟩,
      ⟨g, mk, s₂, L, rfl, rfl, hqc, rfl, hL, rfl, rfl⟩, ?_⟩
    show Steps p.tables e below _ ((({ U with heap := s₂.heap, slotsUsed := s₂.slotsUsed } : State).setVm s₂.vm).setTop { g with pc := g.pc + len₂, stack := v.toList ++ g.stack })
    rw [← hs₂]
    exact hsteps
  · obtain ⟨e2, q2, q3, q4, q5, q6⟩ := id hsm
    have e3 : s₂ = ({ (U.calling g mk a).setFrames s₂.frames with heap := s₂.heap, slotsUsed := s₂.slotsUsed } : State).setVm s₂.vm := by
      have : s₂ = ({ s₂ with vm := (U.calling g mk a).vm } : State).setVm s₂.vm := rfl
      rw [e2] at this
      exact this
    have hf₂ : s₂.frames = .throwing q :: .java g :: U.frames.tail := hend
    have hW' : U.WarmedH s₂.vm := hW₂
    have hs₂ : s₂ = ((({ U with heap := s₂.heap, slotsUsed := s₂.slotsUsed } : State).setVm s₂.vm).setTop g).pushFrame (.throwing q) := by
      refine e3.trans ?_
      rw [hf₂, State.calling_eq h.top, State.setFrames_setFrames, State.pushFrame, State.frames_setTop _ hr', State.setTop_of_frames _ hr', State.setFrames_setFrames, hr]
      rfl
    have hsame : U.sameButNew ({ U with heap := s₂.heap, slotsUsed := s₂.slotsUsed } : State) L mc ms := by
      refine ⟨?_, q2, q3, q4, q5, q6⟩
      obtain ⟨t, ht, -⟩ := State.frames_cons hr
      show ({ U with heap := s₂.heap, slotsUsed := s₂.slotsUsed } : State) = { U.setFrames U.frames with heap := s₂.heap, slotsUsed := s₂.slotsUsed }
      rw [State.setFrames_self ht]
    subst hg
    refine Or.inr ⟨q, ⟨(({ U with heap := s₂.heap, slotsUsed := s₂.slotsUsed } : State).setVm s₂.vm), Ls ++ L, c0 + mc, s0 + ms⟩,
      ⟨X.admits, X.cas, X.clock, X.frames, X.room, X.hears, X.method, X.code, (X.here.setHeapUsed s₂.heap s₂.slotsUsed).setVm hW'.alike, X.tail, State.WarmedH.trans X.warmed hW', X.limits, X.bytes, X.same.trans (hsame.setVm s.vm)⟩,
      ⟨g, mk, s₂, L, E, ce, rfl, rfl, hx, hce, hcv, hcl, rfl, hL, rfl, rfl⟩, ?_⟩
    show Steps p.tables e below _ (((({ U with heap := s₂.heap, slotsUsed := s₂.slotsUsed } : State).setVm s₂.vm).setTop g).pushFrame (.throwing q))
    rw [← hs₂]
    exact hsteps
end
variable {p : Program} {l : Launch} {e : Env} {R : Room} {s : State} {m : MethodId} {args : Array Value} {below : List Frame} {meth : Method} {c : Code} {T : State} {H : Heap} {locs : List Loc} {cells slots : Nat}
theorem vx_callVX (X : Stand p l e R s m args below meth c T locs cells slots) (hexec : p.tables.exec = Jvm.exec) {own C : String} {index : Nat} {y : MethodName} {bytes : ByteArray} {maxL : Nat} {ret : Option FieldType} {hh : List (Nat × Nat × Nat × Nat)}
    (hown : s.vm.findClass own = some m.cls) (hlink : (Cond.methodLink own index y).before args s = true) (hinst : (Cond.instanceMethod y).before args s = true) (hsel : (Cond.selects C y y).before args s = true)
    (hcode : (Cond.codeWith y bytes maxL ret hh).before args s = true) (hy : y.cls ≠ "java/lang/invoke/MethodHandle" ∧ y.cls ≠ "java/lang/invoke/VarHandle")
    {W9 : Nat} {Pre : Pt → Array Value → Prop} {Post : Pt → Array Value → Option Value → Pt → Prop} {PostX : Pt → Array Value → Addr → Pt → Prop} (hK : vx_Back l R p e below s args y 3 W9 Pre Post PostX)
    {b : Addr} {cellB : Cell} (hcell : T.heap[b]? = some cellB) (hobj : cellB.vm.isStatics = false) (hcls : s.vm.findClass C = some cellB.cls)
    {g : JFrame} (hg : g.method = m) (hsize : g.locals.size = c.maxLocals) {argsL rest : List Value} (hlen : ∀ sig, parseMethodDescriptor y.desc = some sig → argsL.length = sig.parameters.length)
    (hstack : g.stack = argsL.reverse ++ .ref b :: rest) (hW : 2 * g.monitorRoom + (rest.map fun v => v.category).sum ≤ W9) (hdg : decode c.code g.pc = .ok (.invokevirtual index, 3))
    (hpre : ∀ vm₁, s.WarmedH vm₁ → Pre ⟨T.setVm vm₁, locs, cells, slots⟩ (Value.ref b :: argsL).toArray) :
    (∃ (v : Option Value) (vm₁ : Vm) (B : Pt), s.WarmedH vm₁ ∧ Stand p l e R s m args below meth c B.U B.locs B.cells B.slots ∧ Post ⟨T.setVm vm₁, locs, cells, slots⟩ (Value.ref b :: argsL).toArray v B ∧
      ∀ target, Steps p.tables e below (B.U.setTop { g with pc := g.pc + 3, stack := v.toList ++ rest }) target → Steps p.tables e below (T.setTop g) target) ∨
    (∃ (q : Addr) (vm₁ : Vm) (B : Pt), s.WarmedH vm₁ ∧ Stand p l e R s m args below meth c B.U B.locs B.cells B.slots ∧ PostX ⟨T.setVm vm₁, locs, cells, slots⟩ (Value.ref b :: argsL).toArray q B ∧
      Steps p.tables e below (T.setTop g) ((B.U.setTop { g with stack := rest }).pushFrame (.throwing q))) := by
  obtain ⟨mk, methM, hnamed, hmethM, hstM, habM⟩ := Cond.instanceMethod_spec hinst
  obtain ⟨m8, methM', cM, hn8, hmethM', -, -, -, -, -, -, hsigM⟩ := Cond.codeWith_spec hcode
  cases Option.some.inj (hn8.symm.trans hnamed)
  cases hmethM.symm.trans hmethM'
  obtain ⟨c2, r2, m2, q1, q2, q3, q4, kP, hkP, hkPi⟩ := Cond.selects_spec hsel
  cases hcls.symm.trans q1
  cases (State.methodFound?_of_named hnamed hy).symm.trans q2
  cases hnamed.symm.trans q3
  have hselP : selectMethod e.platform s.vm cellB.cls mk = .method mk := by rw [Launch.admits_selectMethod X.admits]; exact q4
  obtain ⟨vm₁, X₁, hstep₁⟩ := X.invokevirtual hexec hown hlink hnamed hmethM hstM hkP hkPi hy (a := b) (cell := cellB) hcell
    (fun z h => by rw [h] at hobj; cases hobj) hselP hmethM habM hkP hkPi (g := g) hg (argsL := argsL) (rest := rest) (hlen _ hsigM) hstack hdg
  rcases hK m meth c ⟨T.setVm vm₁, locs, cells, slots⟩ { g with stack := rest } (.invokevirtual index) mk (Value.ref b :: argsL).toArray X₁ hg hsize hdg hW (X₁.named hnamed) (hpre vm₁ X₁.warmed) with ⟨v, B, X', hpost, hsteps⟩ | ⟨q, B, X', hpost, hsteps⟩
  · exact Or.inl ⟨v, vm₁, B, X₁.warmed, X', hpost, fun target h => hstep₁ _ fun acts => by rw [doInvoke_state]; exact hsteps.trans h⟩
  · exact Or.inr ⟨q, vm₁, B, X₁.warmed, X', hpost, hstep₁ _ fun acts => by rw [doInvoke_state]; exact hsteps⟩
theorem vx_callSX (X : Stand p l e R s m args below meth c T locs cells slots) (hexec : p.tables.exec = Jvm.exec) {own : String} {index : Nat} {y : MethodName} {bytes : ByteArray} {maxL : Nat} {ret : Option FieldType} {hh : List (Nat × Nat × Nat × Nat)}
    (hown : s.vm.findClass own = some m.cls) (hlink : (Cond.methodLink own index y).before args s = true) (hstat : (Cond.static y).before args s = true) (hinit : (Cond.initialized y.cls).before args s = true)
    (hcode : (Cond.codeWith y bytes maxL ret hh).before args s = true) (hy : y.cls ≠ "java/lang/invoke/MethodHandle" ∧ y.cls ≠ "java/lang/invoke/VarHandle")
    {W9 : Nat} {Pre : Pt → Array Value → Prop} {Post : Pt → Array Value → Option Value → Pt → Prop} {PostX : Pt → Array Value → Addr → Pt → Prop} (hK : vx_Back l R p e below s args y 3 W9 Pre Post PostX)
    {g : JFrame} (hg : g.method = m) (hsize : g.locals.size = c.maxLocals) {argsL rest : List Value} (hlen : ∀ sig, parseMethodDescriptor y.desc = some sig → argsL.length = sig.parameters.length)
    (hstack : g.stack = argsL.reverse ++ rest) (hW : 2 * g.monitorRoom + (rest.map fun v => v.category).sum ≤ W9) (hdg : decode c.code g.pc = .ok (.invokestatic index, 3))
    (hpre : ∀ vm₁, s.WarmedH vm₁ → Pre ⟨T.setVm vm₁, locs, cells, slots⟩ argsL.toArray) :
    (∃ (v : Option Value) (vm₁ : Vm) (B : Pt), s.WarmedH vm₁ ∧ Stand p l e R s m args below meth c B.U B.locs B.cells B.slots ∧ Post ⟨T.setVm vm₁, locs, cells, slots⟩ argsL.toArray v B ∧
      ∀ target, Steps p.tables e below (B.U.setTop { g with pc := g.pc + 3, stack := v.toList ++ rest }) target → Steps p.tables e below (T.setTop g) target) ∨
    (∃ (q : Addr) (vm₁ : Vm) (B : Pt), s.WarmedH vm₁ ∧ Stand p l e R s m args below meth c B.U B.locs B.cells B.slots ∧ PostX ⟨T.setVm vm₁, locs, cells, slots⟩ argsL.toArray q B ∧
      Steps p.tables e below (T.setTop g) ((B.U.setTop { g with stack := rest }).pushFrame (.throwing q))) := by
  obtain ⟨mk, methM, cM, hnamed, hmethM, -, -, -, -, -, -, hsigM⟩ := Cond.codeWith_spec hcode
  have hstatic : methM.isStatic = true := Cond.static_spec hnamed hmethM hstat
  obtain ⟨kP, hkP, -⟩ := className_of_methodNamed hnamed
  have hinitP : kP.init = .initialized := Cond.initialized_spec (findClass_of_methodNamed hnamed) hkP hinit
  obtain ⟨vm₁, X₁, hstep₁⟩ := X.invokestatic hexec hown hlink hnamed hmethM hstatic hkP hinitP hy (g := g) hg (argsL := argsL) (rest := rest) (hlen _ hsigM) hstack hdg
  rcases hK m meth c ⟨T.setVm vm₁, locs, cells, slots⟩ { g with stack := rest } (.invokestatic index) mk argsL.toArray X₁ hg hsize hdg hW (X₁.named hnamed) (hpre vm₁ X₁.warmed) with ⟨v, B, X', hpost, hsteps⟩ | ⟨q, B, X', hpost, hsteps⟩
  · exact Or.inl ⟨v, vm₁, B, X₁.warmed, X', hpost, fun target h => hstep₁ _ fun acts => by rw [doInvoke_state]; exact hsteps.trans h⟩
  · exact Or.inr ⟨q, vm₁, B, X₁.warmed, X', hpost, hstep₁ _ fun acts => by rw [doInvoke_state]; exact hsteps⟩
theorem vx_callVW (X : Stand p l e R s m args below meth c T locs cells slots) (hexec : p.tables.exec = Jvm.exec) {own C : String} {index : Nat} {y : MethodName} {bytes : ByteArray} {maxL : Nat} {ret : Option FieldType} {hh : List (Nat × Nat × Nat × Nat)}
    (hown : s.vm.findClass own = some m.cls) (hlink : (Cond.methodLink own index y).before args s = true) (hinst : (Cond.instanceMethod y).before args s = true) (hsel : (Cond.selects C y y).before args s = true)
    (hcode : (Cond.codeWith y bytes maxL ret hh).before args s = true) (hy : y.cls ≠ "java/lang/invoke/MethodHandle" ∧ y.cls ≠ "java/lang/invoke/VarHandle")
    {W9 : Nat} {Pre : Pt → Array Value → Prop} {Post : Pt → Array Value → Option Value → Pt → Prop} (hK : Back l R p e below s args y 3 W9 Pre Post)
    {b : Addr} {cellB : Cell} (hcell : T.heap[b]? = some cellB) (hobj : cellB.vm.isStatics = false) (hcls : s.vm.findClass C = some cellB.cls)
    {g : JFrame} (hg : g.method = m) (hsize : g.locals.size = c.maxLocals) {argsL rest : List Value} (hlen : ∀ sig, parseMethodDescriptor y.desc = some sig → argsL.length = sig.parameters.length)
    (hstack : g.stack = argsL.reverse ++ .ref b :: rest) (hW : 2 * g.monitorRoom + (rest.map fun v => v.category).sum ≤ W9) (hdg : decode c.code g.pc = .ok (.invokevirtual index, 3))
    (hpre : ∀ vm₁, s.WarmedH vm₁ → Pre ⟨T.setVm vm₁, locs, cells, slots⟩ (Value.ref b :: argsL).toArray) :
    ∃ (v : Option Value) (vm₁ : Vm) (B : Pt), s.WarmedH vm₁ ∧ Stand p l e R s m args below meth c B.U B.locs B.cells B.slots ∧ Post ⟨T.setVm vm₁, locs, cells, slots⟩ (Value.ref b :: argsL).toArray v B ∧
      ∀ target, Steps p.tables e below (B.U.setTop { g with pc := g.pc + 3, stack := v.toList ++ rest }) target → Steps p.tables e below (T.setTop g) target := by
  obtain ⟨mk, methM, hnamed, hmethM, hstM, habM⟩ := Cond.instanceMethod_spec hinst
  obtain ⟨m8, methM', cM, hn8, hmethM', -, -, -, -, -, -, hsigM⟩ := Cond.codeWith_spec hcode
  cases Option.some.inj (hn8.symm.trans hnamed)
  cases hmethM.symm.trans hmethM'
  obtain ⟨c2, r2, m2, q1, q2, q3, q4, kP, hkP, hkPi⟩ := Cond.selects_spec hsel
  cases hcls.symm.trans q1
  cases (State.methodFound?_of_named hnamed hy).symm.trans q2
  cases hnamed.symm.trans q3
  have hselP : selectMethod e.platform s.vm cellB.cls mk = .method mk := by rw [Launch.admits_selectMethod X.admits]; exact q4
  obtain ⟨vm₁, X₁, hstep₁⟩ := X.invokevirtual hexec hown hlink hnamed hmethM hstM hkP hkPi hy (a := b) (cell := cellB) hcell
    (fun z h => by rw [h] at hobj; cases hobj) hselP hmethM habM hkP hkPi (g := g) hg (argsL := argsL) (rest := rest) (hlen _ hsigM) hstack hdg
  obtain ⟨v, B, X', hpost, hsteps⟩ := hK m meth c ⟨T.setVm vm₁, locs, cells, slots⟩ { g with stack := rest } (.invokevirtual index) mk (Value.ref b :: argsL).toArray X₁ hg hsize hdg hW (X₁.named hnamed) (hpre vm₁ X₁.warmed)
  exact ⟨v, vm₁, B, X₁.warmed, X', hpost, fun target h => hstep₁ _ fun acts => by rw [doInvoke_state]; exact hsteps.trans h⟩
abbrev vx_CVW (R : Room) (s : State) (args : Array Value) (own C : String) (index : Nat) (y : MethodName) (bytes : ByteArray) (maxL : Nat) (ret : Option FieldType) (hh : List (Nat × Nat × Nat × Nat)) (ws : List Cond) (rm : Room) (mc ms n : Nat) : Prop :=
  (rm.cells = mc ∧ rm.slots = ms ∧ rm.frames + 1 ≤ R.frames ∧ 8 + (maxL + 11) + rm.locals ≤ R.locals ∧ (∀ w ∈ ws, ∀ (a' : Array Value) (U : State), s.WarmedH U.vm → w.before a' U = true) ∧ Cond.codeWith y bytes maxL ret hh ∈ ws) ∧
  (Cond.codeWith y bytes maxL ret hh).before args s = true ∧ (Cond.initialized y.cls).before args s = true ∧ (y.cls ≠ "java/lang/invoke/MethodHandle" ∧ y.cls ≠ "java/lang/invoke/VarHandle") ∧
  (∀ sig, parseMethodDescriptor y.desc = some sig → n = sig.parameters.length) ∧ (Cond.methodLink own index y).before args s = true ∧ (Cond.instanceMethod y).before args s = true ∧ (Cond.selects C y y).before args s = true
theorem vx_cwVW {own C : String} {index maxL mc ms : Nat} {y : MethodName} {bytes : ByteArray} {ret : Option FieldType} {hh : List (Nat × Nat × Nat × Nat)} {Ts ws ws' : List Cond} {rm : Room} (n : Nat) (ht : ∀ w ∈ Ts, w.before args s = true) (hT : GoodIn Ts (wsV own index C y ws)) (hw : ws = Cond.codeWith y bytes maxL ret hh :: ws') (hrc : rm.cells = mc) (hrs : rm.slots = ms)
    (hd : y.cls = C ∧ y.cls ≠ "java/lang/invoke/MethodHandle" ∧ y.cls ≠ "java/lang/invoke/VarHandle" ∧ (parseMethodDescriptor y.desc).map (fun d => d.parameters.length) = some n) (hR : rm.frames + 1 ≤ R.frames ∧ 8 + (maxL + 11) + rm.locals ≤ R.locals) :
    vx_CVW R s args own C index y bytes maxL ret hh ws rm mc ms n := by
  obtain ⟨hC, hd⟩ := hd
  subst hC
  have ok : ∀ w ∈ wsV own index y.cls y ws, w.before args s = true := fun w h => ht w (hT w h).1
  have hG : GoodIn Ts ws := fun w h => hT w (by unfold wsV; exact List.mem_append_right _ h)
  have hc : Cond.codeWith y bytes maxL ret hh ∈ ws := by rw [hw]; exact List.mem_cons_self
  refine ⟨⟨hrc, hrs, hR.1, hR.2, pay_in ht hG, hc⟩, ht _ (hG _ hc).1, ok _ (by simp [wsV]), ⟨hd.1, hd.2.1⟩, fun sig h => ?_, ok _ (by simp [wsV]), ok _ (by simp [wsV]), ok _ (by simp [wsV])⟩
  have h2 := hd.2.2
  rw [h] at h2
  exact (Option.some.inj h2).symm
theorem vx_runVW {y : MethodName} {bytes cc : ByteArray} {maxL nL mc ms n index : Nat} {ret : Option FieldType} {hh : List (Nat × Nat × Nat × Nat)} {ws : List Cond} {rm : Room} {Pc : Array Value → State → Prop} {Qc : Array Value → State → Outcome → State → Prop} {free : Addr → Prop} {Ts : List Cond} {own C : String} {b : Addr} {As rest : List Value} {g : JFrame}
    (S : CallFix p m c cc nL s args Ts own) (hM : Met l y ws rm Pc Qc mc ms free) (cw : vx_CVW R s args own C index y bytes maxL ret hh ws rm mc ms n) (hp : PreV s H C b Pc As)
    (hg : g.method = m) (hn : As.length = n) (hsize : g.locals.size = nL) (hstack : g.stack = As.reverse ++ .ref b :: rest) (hW : 2 * g.monitorRoom + (rest.map fun v => v.category).sum ≤ 8) (hdg : decode cc g.pc = .ok (.invokevirtual index, 3)) (hf : cells + mc ≤ R.cells ∧ slots + ms ≤ R.slots) :
    va_Run p l e R s m args below meth c H locs cells slots mc ms g rest (Qc (Value.ref b :: As).toArray) free := by
  obtain ⟨⟨hrc, hrs, hfr, hlo, hws, hcw⟩, hcode, hini, hy, hlen, hl, hin, hse⟩ := cw
  have hK : Back l R p e below s args y 3 8 (PreOf R mc ms Pc) (PostOf Qc mc ms free) := va_backW (hh := hh) (bytes := bytes) (maxL := maxL) (ret := ret) hM hp.1 hrc hrs hfr hlo hws hcw (fun a' U hW => word_at hW (Or.inl (by first | rfl | simp [Cond.onTables, Cond.keeps, Cond.steady])) hini)
  obtain ⟨hx, hb, hml, ho, -⟩ := S
  obtain ⟨-, ⟨cellB, hcB, hoB, hclB⟩, hPc⟩ := hp
  intro T hT X
  obtain ⟨v, vm₁, ⟨U', l2, c2, s2⟩, hW₁, X', ⟨g', mk, t, L, e1, e2, hq, h1, hL, h2, h3⟩, st⟩ := vx_callVW X hx (C := C) (hh := hh) (bytes := bytes) (maxL := maxL) (ret := ret) ho hl hin hse hcode hy hK (by rw [hT]; exact hcB) hoB hclB hg (hsize.trans hml.symm) (argsL := As) (rest := rest) (fun sig h => hn.trans (hlen sig h)) hstack hW (by rw [hb]; exact hdg)
    (fun vm₁ hW₁ => ⟨hf.1, hf.2, hPc (T.setVm vm₁) hT hW₁⟩)
  dsimp only [Pt.U, Pt.locs, Pt.cells, Pt.slots] at X' e1 e2 h1 h2 h3 st
  subst h1; subst h2; subst h3
  exact ⟨v, (T.setVm vm₁).calling g' mk (Value.ref b :: As).toArray, t, U', L, hT, X', hL, e1, e2, hq, st⟩
section
variable {y : MethodName} {bytes cc : ByteArray} {maxL nL mc ms n index : Nat} {ret : Option FieldType} {ws : List Cond} {rm : Room} {Pc : Array Value → State → Prop} {Qc : Array Value → State → Outcome → State → Prop} {XC : String → State → State → Prop} {free : Addr → Prop} {Ts : List Cond} {own C : String} {b : Addr} {As rest : List Value} {g : JFrame}
theorem vx_runVX {hh : List (Nat × Nat × Nat × Nat)} (S : CallFix p m c cc nL s args Ts own) (hM : vx_Met l y ws rm Pc Qc XC mc ms free) (cw : vx_CVW R s args own C index y bytes maxL ret hh ws rm mc ms n) (hp : PreV s H C b Pc As)
    (hg : g.method = m) (hn : As.length = n) (hsize : g.locals.size = nL) (hstack : g.stack = As.reverse ++ .ref b :: rest) (hW : 2 * g.monitorRoom + (rest.map fun v => v.category).sum ≤ 8) (hdg : decode cc g.pc = .ok (.invokevirtual index, 3)) (hf : cells + mc ≤ R.cells ∧ slots + ms ≤ R.slots) :
    vx_Run p l e R s m args below meth c H locs cells slots mc ms g rest (Qc (Value.ref b :: As).toArray) XC free := by
  obtain ⟨⟨hrc, hrs, hfr, hlo, hws, hcw⟩, hcode, hini, hy, hlen, hl, hin, hse⟩ := cw
  have hK : vx_Back l R p e below s args y 3 8 (PreOf R mc ms Pc) (PostOf Qc mc ms free) (vx_Post XC mc ms free) := vx_backW (hh := hh) (bytes := bytes) (maxL := maxL) (ret := ret) hM hp.1 hrc hrs hfr hlo hws hcw (fun a' U hW => word_at hW (Or.inl (by first | rfl | simp [Cond.onTables, Cond.keeps, Cond.steady])) hini)
  obtain ⟨hx, hb, hml, ho, -⟩ := S
  obtain ⟨-, ⟨cellB, hcB, hoB, hclB⟩, hPc⟩ := hp
  intro T hT X
  rcases vx_callVX X hx (C := C) (hh := hh) (bytes := bytes) (maxL := maxL) (ret := ret) ho hl hin hse hcode hy hK (by rw [hT]; exact hcB) hoB hclB hg (hsize.trans hml.symm) (argsL := As) (rest := rest) (fun sig h => hn.trans (hlen sig h)) hstack hW (by rw [hb]; exact hdg)
    (fun vm₁ hW₁ => ⟨hf.1, hf.2, hPc (T.setVm vm₁) hT hW₁⟩) with ⟨v, vm₁, ⟨U', l2, c2, s2⟩, hW₁, X', ⟨g', mk, t, L, e1, e2, hq, h1, hL, h2, h3⟩, st⟩ | ⟨q, vm₁, ⟨U', l2, c2, s2⟩, hW₁, X', ⟨g', mk, t, L, E, ce, e1, e2, hq, hce, hcv, hcl, h1, hL, h2, h3⟩, st⟩
  · dsimp only [Pt.U, Pt.locs, Pt.cells, Pt.slots] at X' e1 e2 h1 h2 h3 st
    subst h1; subst h2; subst h3
    exact Or.inl ⟨v, (T.setVm vm₁).calling g' mk (Value.ref b :: As).toArray, t, U', L, hT, X', hL, e1, e2, hq, st⟩
  · dsimp only [Pt.U, Pt.locs, Pt.cells, Pt.slots] at X' e1 e2 h1 h2 h3 st hcl
    subst h1; subst h2; subst h3
    exact Or.inr ⟨q, (T.setVm vm₁).calling g' mk (Value.ref b :: As).toArray, t, U', L, E, ce, hT, X', hL, e1, e2, hq, hce, hcv, vx_cls hW₁ hcl, st⟩
theorem vx_runSX {hh : List (Nat × Nat × Nat × Nat)} (S : CallFix p m c cc nL s args Ts own) (hM : vx_Met l y ws rm Pc Qc XC mc ms free) (cw : vx_CSW R s args own index y bytes maxL ret hh ws rm mc ms n) (hp : PreS s H Pc As)
    (hg : g.method = m) (hn : As.length = n) (hsize : g.locals.size = nL) (hstack : g.stack = As.reverse ++ rest) (hW : 2 * g.monitorRoom + (rest.map fun v => v.category).sum ≤ 8) (hdg : decode cc g.pc = .ok (.invokestatic index, 3)) (hf : cells + mc ≤ R.cells ∧ slots + ms ≤ R.slots) :
    vx_Run p l e R s m args below meth c H locs cells slots mc ms g rest (Qc As.toArray) XC free := by
  obtain ⟨⟨hrc, hrs, hfr, hlo, hws, hcw⟩, hcode, hini, hy, hlen, hl, hstt⟩ := cw
  have hK : vx_Back l R p e below s args y 3 8 (PreOf R mc ms Pc) (PostOf Qc mc ms free) (vx_Post XC mc ms free) := vx_backW (hh := hh) (bytes := bytes) (maxL := maxL) (ret := ret) hM hp.1 hrc hrs hfr hlo hws hcw (fun a' U hW => word_at hW (Or.inl (by first | rfl | simp [Cond.onTables, Cond.keeps, Cond.steady])) hini)
  obtain ⟨hx, hb, hml, ho, -⟩ := S
  intro T hT X
  rcases vx_callSX X hx (hh := hh) (bytes := bytes) (maxL := maxL) (ret := ret) ho hl hstt hini hcode hy hK hg (hsize.trans hml.symm) (argsL := As) (rest := rest) (fun sig h => hn.trans (hlen sig h)) hstack hW (by rw [hb]; exact hdg)
    (fun vm₁ hW₁ => ⟨hf.1, hf.2, hp.2 (T.setVm vm₁) hT hW₁⟩) with ⟨v, vm₁, ⟨U', l2, c2, s2⟩, hW₁, X', ⟨g', mk, t, L, e1, e2, hq, h1, hL, h2, h3⟩, st⟩ | ⟨q, vm₁, ⟨U', l2, c2, s2⟩, hW₁, X', ⟨g', mk, t, L, E, ce, e1, e2, hq, hce, hcv, hcl, h1, hL, h2, h3⟩, st⟩
  · dsimp only [Pt.U, Pt.locs, Pt.cells, Pt.slots] at X' e1 e2 h1 h2 h3 st
    subst h1; subst h2; subst h3
    exact Or.inl ⟨v, (T.setVm vm₁).calling g' mk As.toArray, t, U', L, hT, X', hL, e1, e2, hq, st⟩
  · dsimp only [Pt.U, Pt.locs, Pt.cells, Pt.slots] at X' e1 e2 h1 h2 h3 st hcl
    subst h1; subst h2; subst h3
    exact Or.inr ⟨q, (T.setVm vm₁).calling g' mk As.toArray, t, U', L, E, ce, hT, X', hL, e1, e2, hq, hce, hcv, vx_cls hW₁ hcl, st⟩
end
end VXH
theorem vx_ofWH {l : Launch} {y : MethodName} {ws ws' : List Cond} {rm : Room} {Pc : Array Value → State → Prop} {Qc : Array Value → State → Outcome → State → Prop} {XC : String → State → State → Prop} {mc ms : Nat} {free : Addr → Prop} {cc : ByteArray} {maxL : Nat} {ret : Option FieldType} {hh : List (Nat × Nat × Nat × Nat)}
    (hy : plainName y.cls = true) (hw : ws = Cond.codeWith y cc maxL ret hh :: ws')
    (body : ∀ p e s m args below meth c s₁, BodyLoose p l y (headSpec ws rm) cc maxL ret e s m args below meth c s₁ → c.maxLocals = maxL → Pc args s →
      W p l e (headSpec ws rm).room s m args below meth c s.heap [] 0 0 (vx_MQ below Qc XC args s mc ms free) (entryFrame m args maxL)) : vx_Met l y ws rm Pc Qc XC mc ms free := by
  refine MetFree.of_bodyS (code := cc) (maxLocals := maxL) (ret := ret) hy ?_ ?_
  · intro args s m h hn
    obtain ⟨m9, meth, c, hn9, h1, h2, h3, h4, -, h5, h6, -⟩ := Cond.codeWith_spec (atoms_spec (ws := ws) h _ (by rw [hw]; exact List.mem_cons_self))
    cases hn.symm.trans hn9
    exact ⟨meth, c, h1, h2, h3, h4, h5, h6⟩
  · intro p e s m args below meth c s₁ B hml hP _
    have hh0 : s₁.heap = s.heap := by rw [B.state]; rfl
    obtain ⟨t, a1, o, b1, b2, b3⟩ := body p e s m args below meth c s₁ B hml hP s₁ hh0 (Stand.of_body B)
    exact ⟨t, o, a1, b1, b2, b3⟩
/-! ===== END ===== -/
end

/-! part 03.names -/
section
def RX0 : String := "GrottoHours$Acts"
def TX0 : u_T := fun k => match k with
  | 0 => ("GrottoHours$Acts", "cells", "[I", true)
  | _ => ("GrottoHours$Acts", "many", "I", false)
def tyX0 : Nat → FieldType := fun k => match k with
  | 0 => .array .int
  | _ => .int
abbrev wsX00 : List Cond := u_ws RX0 TX0 2
theorem nmX0 : ∀ a, a < 2 → ∀ b, b < 2 → a ≠ b → (TX0 a).2.1 ≠ (TX0 b).2.1 := by decide +kernel
theorem tyX0_ok : ∀ k, k < 2 → parseFieldDescriptor (TX0 k).2.2.1 = some (tyX0 k) := by decide +kernel
abbrev cX0_init : ByteArray := prog_2_method_1_code
def yX0_init : MethodName := ⟨RX0, "<init>", "()V"⟩
abbrev cX0_add : ByteArray := prog_2_method_2_code
def yX0_add : MethodName := ⟨RX0, "add", "(LGrottoHours$State;)V"⟩
abbrev cX0_takeBack : ByteArray := prog_2_method_3_code
def yX0_takeBack : MethodName := ⟨RX0, "takeBack", "(LGrottoHours$State;)I"⟩
abbrev cX0_copy : ByteArray := prog_2_method_4_code
def yX0_copy : MethodName := ⟨RX0, "copy", "(LGrottoHours$Acts;)V"⟩
def RX1 : String := "GrottoHours$Book"
def TX1 : u_T := fun k => match k with
  | 0 => ("GrottoHours$Book", "state", "LGrottoHours$State;", true)
  | 1 => ("GrottoHours$Book", "acts", "LGrottoHours$Acts;", true)
  | 2 => ("GrottoHours$Book", "seen", "LGrottoHours$Seen;", true)
  | _ => ("GrottoHours$Book", "refused", "[I", true)
def tyX1 : Nat → FieldType := fun k => match k with
  | 0 => .object "GrottoHours$State"
  | 1 => .object "GrottoHours$Acts"
  | 2 => .object "GrottoHours$Seen"
  | _ => .array .int
abbrev wsX10 : List Cond := u_ws RX1 TX1 4
theorem nmX1 : ∀ a, a < 4 → ∀ b, b < 4 → a ≠ b → (TX1 a).2.1 ≠ (TX1 b).2.1 := by decide +kernel
theorem tyX1_ok : ∀ k, k < 4 → parseFieldDescriptor (TX1 k).2.2.1 = some (tyX1 k) := by decide +kernel
abbrev cX1_init : ByteArray := prog_3_method_1_code
def yX1_init : MethodName := ⟨RX1, "<init>", "()V"⟩
abbrev cX1_begin : ByteArray := prog_3_method_2_code
def yX1_begin : MethodName := ⟨RX1, "begin", "(LGrottoHours$Town;)V"⟩
abbrev cX1_keepAct : ByteArray := prog_3_method_3_code
def yX1_keepAct : MethodName := ⟨RX1, "keepAct", "()V"⟩
abbrev cX1_refuse : ByteArray := prog_3_method_4_code
def yX1_refuse : MethodName := ⟨RX1, "refuse", "(I)I"⟩
abbrev cX1_copy : ByteArray := prog_3_method_5_code
def yX1_copy : MethodName := ⟨RX1, "copy", "(LGrottoHours$Book;)V"⟩
def RX2 : String := "GrottoHours$Guess"
def TX2 : u_T := fun k => match k with
  | 0 => ("GrottoHours$Guess", "sins", "[[I", true)
  | 1 => ("GrottoHours$Guess", "course", "[I", true)
  | 2 => ("GrottoHours$Guess", "worstBits", "[I", true)
  | 3 => ("GrottoHours$Guess", "many", "I", false)
  | 4 => ("GrottoHours$Guess", "earliest", "I", false)
  | _ => ("GrottoHours$Guess", "isSoWithout", "Z", false)
def tyX2 : Nat → FieldType := fun k => match k with
  | 0 => .array (.array .int)
  | 1 => .array .int
  | 2 => .array .int
  | 3 => .int
  | 4 => .int
  | _ => .boolean
abbrev wsX20 : List Cond := u_ws RX2 TX2 6
theorem nmX2 : ∀ a, a < 6 → ∀ b, b < 6 → a ≠ b → (TX2 a).2.1 ≠ (TX2 b).2.1 := by decide +kernel
theorem tyX2_ok : ∀ k, k < 6 → parseFieldDescriptor (TX2 k).2.2.1 = some (tyX2 k) := by decide +kernel
abbrev cX2_init : ByteArray := prog_4_method_1_code
def yX2_init : MethodName := ⟨RX2, "<init>", "()V"⟩
abbrev cX2_weigh : ByteArray := prog_4_method_2_code
def yX2_weigh : MethodName := ⟨RX2, "weigh", "(LGrottoHours$Town;LGrottoHours$Book;LGrottoHours$Walk;)V"⟩
abbrev cX2_bestLook : ByteArray := prog_4_method_3_code
def yX2_bestLook : MethodName := ⟨RX2, "bestLook", "()I"⟩
abbrev cX2_unlikeBehind : ByteArray := prog_4_method_4_code
def yX2_unlikeBehind : MethodName := ⟨RX2, "unlikeBehind", "(I)I"⟩
abbrev cX2_tryGreeds : ByteArray := prog_4_method_5_code
def yX2_tryGreeds : MethodName := ⟨RX2, "tryGreeds", "(LGrottoHours$Town;LGrottoHours$Book;LGrottoHours$Walk;I)V"⟩
abbrev cX2_follow : ByteArray := prog_4_method_6_code
def yX2_follow : MethodName := ⟨RX2, "follow", "(LGrottoHours$Town;LGrottoHours$Walk;[I)V"⟩
abbrev cX2_doOthersSuit : ByteArray := prog_4_method_7_code
def yX2_doOthersSuit : MethodName := ⟨RX2, "doOthersSuit", "(LGrottoHours$Town;LGrottoHours$Seen;I)Z"⟩
abbrev cX2_markWorst : ByteArray := prog_4_method_8_code
def yX2_markWorst : MethodName := ⟨RX2, "markWorst", "(LGrottoHours$Town;I)V"⟩
def RX3 : String := "GrottoHours$Reader"
def TX3 : u_T := fun k => match k with
  | 0 => ("GrottoHours$Reader", "tape", "LGrottoHours$Tape;", true)
  | 1 => ("GrottoHours$Reader", "draft", "LGrottoHours$Town;", false)
  | 2 => ("GrottoHours$Reader", "faultKind", "I", false)
  | _ => ("GrottoHours$Reader", "faultPlace", "I", false)
def tyX3 : Nat → FieldType := fun k => match k with
  | 0 => .object "GrottoHours$Tape"
  | 1 => .object "GrottoHours$Town"
  | 2 => .int
  | _ => .int
abbrev wsX30 : List Cond := u_ws RX3 TX3 4
theorem nmX3 : ∀ a, a < 4 → ∀ b, b < 4 → a ≠ b → (TX3 a).2.1 ≠ (TX3 b).2.1 := by decide +kernel
theorem tyX3_ok : ∀ k, k < 4 → parseFieldDescriptor (TX3 k).2.2.1 = some (tyX3 k) := by decide +kernel
abbrev cX3_init : ByteArray := prog_5_method_1_code
def yX3_init : MethodName := ⟨RX3, "<init>", "()V"⟩
abbrev cX3_read : ByteArray := prog_5_method_2_code
def yX3_read : MethodName := ⟨RX3, "read", "(I)I"⟩
abbrev cX3_isFine : ByteArray := prog_5_method_3_code
def yX3_isFine : MethodName := ⟨RX3, "isFine", "()Z"⟩
abbrev cX3_refuse : ByteArray := prog_5_method_4_code
def yX3_refuse : MethodName := ⟨RX3, "refuse", "(I)V"⟩
abbrev cX3_skipSign : ByteArray := prog_5_method_5_code
def yX3_skipSign : MethodName := ⟨RX3, "skipSign", "(C)V"⟩
abbrev cX3_readNumber : ByteArray := prog_5_method_6_code
def yX3_readNumber : MethodName := ⟨RX3, "readNumber", "(II)I"⟩
abbrev cX3_readLine : ByteArray := prog_5_method_7_code
def yX3_readLine : MethodName := ⟨RX3, "readLine", "()V"⟩
abbrev cX3_readGrotto : ByteArray := prog_5_method_8_code
def yX3_readGrotto : MethodName := ⟨RX3, "readGrotto", "(Z)V"⟩
abbrev cX3_readGuild : ByteArray := prog_5_method_9_code
def yX3_readGuild : MethodName := ⟨RX3, "readGuild", "()V"⟩
abbrev cX3_readHired : ByteArray := prog_5_method_10_code
def yX3_readHired : MethodName := ⟨RX3, "readHired", "()I"⟩
abbrev cX3_readWet : ByteArray := prog_5_method_11_code
def yX3_readWet : MethodName := ⟨RX3, "readWet", "()V"⟩
abbrev cX3_readBound : ByteArray := prog_5_method_12_code
def yX3_readBound : MethodName := ⟨RX3, "readBound", "()V"⟩
abbrev cX3_readRule : ByteArray := prog_5_method_13_code
def yX3_readRule : MethodName := ⟨RX3, "readRule", "(LGrottoHours$Rule;)V"⟩
abbrev cX3_readExpr : ByteArray := prog_5_method_14_code
def yX3_readExpr : MethodName := ⟨RX3, "readExpr", "(LGrottoHours$Rule;I)V"⟩
abbrev cX3_readAnd : ByteArray := prog_5_method_15_code
def yX3_readAnd : MethodName := ⟨RX3, "readAnd", "(LGrottoHours$Rule;I)V"⟩
abbrev cX3_readNot : ByteArray := prog_5_method_16_code
def yX3_readNot : MethodName := ⟨RX3, "readNot", "(LGrottoHours$Rule;I)V"⟩
abbrev cX3_readTest : ByteArray := prog_5_method_17_code
def yX3_readTest : MethodName := ⟨RX3, "readTest", "(LGrottoHours$Rule;I)V"⟩
abbrev cX3_readSum : ByteArray := prog_5_method_18_code
def yX3_readSum : MethodName := ⟨RX3, "readSum", "(LGrottoHours$Rule;I)V"⟩
abbrev cX3_readProduct : ByteArray := prog_5_method_19_code
def yX3_readProduct : MethodName := ⟨RX3, "readProduct", "(LGrottoHours$Rule;I)V"⟩
abbrev cX3_readPart : ByteArray := prog_5_method_20_code
def yX3_readPart : MethodName := ⟨RX3, "readPart", "(LGrottoHours$Rule;I)V"⟩
abbrev cX3_valueCode : ByteArray := prog_5_method_21_code
def yX3_valueCode : MethodName := ⟨RX3, "valueCode", "(LGrottoHours$Rule;)I"⟩
def RX4 : String := "GrottoHours$Rule"
def TX4 : u_T := fun k => match k with
  | 0 => ("GrottoHours$Rule", "codes", "[I", true)
  | 1 => ("GrottoHours$Rule", "held", "[I", true)
  | 2 => ("GrottoHours$Rule", "knowsGreed", "Z", true)
  | _ => ("GrottoHours$Rule", "length", "I", false)
def tyX4 : Nat → FieldType := fun k => match k with
  | 0 => .array .int
  | 1 => .array .int
  | 2 => .boolean
  | _ => .int
abbrev wsX40 : List Cond := u_ws RX4 TX4 4
theorem nmX4 : ∀ a, a < 4 → ∀ b, b < 4 → a ≠ b → (TX4 a).2.1 ≠ (TX4 b).2.1 := by decide +kernel
theorem tyX4_ok : ∀ k, k < 4 → parseFieldDescriptor (TX4 k).2.2.1 = some (tyX4 k) := by decide +kernel
abbrev cX4_init : ByteArray := prog_6_method_1_code
def yX4_init : MethodName := ⟨RX4, "<init>", "(Z)V"⟩
abbrev cX4_clear : ByteArray := prog_6_method_2_code
def yX4_clear : MethodName := ⟨RX4, "clear", "()V"⟩
abbrev cX4_isTold : ByteArray := prog_6_method_3_code
def yX4_isTold : MethodName := ⟨RX4, "isTold", "()Z"⟩
abbrev cX4_add : ByteArray := prog_6_method_4_code
def yX4_add : MethodName := ⟨RX4, "add", "(I)V"⟩
abbrev cX4_minds : ByteArray := prog_6_method_5_code
def yX4_minds : MethodName := ⟨RX4, "minds", "(I)Z"⟩
abbrev cX4_worth : ByteArray := prog_6_method_6_code
def yX4_worth : MethodName := ⟨RX4, "worth", "(LGrottoHours$Town;LGrottoHours$Walk;)I"⟩
abbrev cX4_join : ByteArray := prog_6_method_7_code
def yX4_join : MethodName := ⟨RX4, "join", "(III)I"⟩
def RX5 : String := "GrottoHours$Seen"
def TX5 : u_T := fun k => match k with
  | 0 => ("GrottoHours$Seen", "guilds", "[I", true)
  | 1 => ("GrottoHours$Seen", "behind", "[I", true)
  | 2 => ("GrottoHours$Seen", "sins", "[I", true)
  | _ => ("GrottoHours$Seen", "many", "I", false)
def tyX5 : Nat → FieldType := fun k => match k with
  | 0 => .array .int
  | 1 => .array .int
  | 2 => .array .int
  | _ => .int
abbrev wsX50 : List Cond := u_ws RX5 TX5 4
theorem nmX5 : ∀ a, a < 4 → ∀ b, b < 4 → a ≠ b → (TX5 a).2.1 ≠ (TX5 b).2.1 := by decide +kernel
theorem tyX5_ok : ∀ k, k < 4 → parseFieldDescriptor (TX5 k).2.2.1 = some (tyX5 k) := by decide +kernel
abbrev cX5_init : ByteArray := prog_7_method_1_code
def yX5_init : MethodName := ⟨RX5, "<init>", "()V"⟩
abbrev cX5_add : ByteArray := prog_7_method_2_code
def yX5_add : MethodName := ⟨RX5, "add", "(III)V"⟩
abbrev cX5_suits : ByteArray := prog_7_method_3_code
def yX5_suits : MethodName := ⟨RX5, "suits", "(I[I)Z"⟩
abbrev cX5_copy : ByteArray := prog_7_method_4_code
def yX5_copy : MethodName := ⟨RX5, "copy", "(LGrottoHours$Seen;)V"⟩
def RX6 : String := "GrottoHours$Sharing"
def TX6 : u_T := fun k => match k with
  | 0 => ("GrottoHours$Sharing", "best", "[[I", true)
  | 1 => ("GrottoHours$Sharing", "row", "[I", true)
  | 2 => ("GrottoHours$Sharing", "many", "I", false)
  | _ => ("GrottoHours$Sharing", "much", "I", false)
def tyX6 : Nat → FieldType := fun k => match k with
  | 0 => .array (.array .int)
  | 1 => .array .int
  | 2 => .int
  | _ => .int
abbrev wsX60 : List Cond := u_ws RX6 TX6 4
theorem nmX6 : ∀ a, a < 4 → ∀ b, b < 4 → a ≠ b → (TX6 a).2.1 ≠ (TX6 b).2.1 := by decide +kernel
theorem tyX6_ok : ∀ k, k < 4 → parseFieldDescriptor (TX6 k).2.2.1 = some (tyX6 k) := by decide +kernel
abbrev cX6_init : ByteArray := prog_8_method_1_code
def yX6_init : MethodName := ⟨RX6, "<init>", "()V"⟩
abbrev cX6_share : ByteArray := prog_8_method_2_code
def yX6_share : MethodName := ⟨RX6, "share", "(LGrottoHours$Town;LGrottoHours$State;)V"⟩
abbrev cX6_bestOf : ByteArray := prog_8_method_3_code
def yX6_bestOf : MethodName := ⟨RX6, "bestOf", "(LGrottoHours$Town;LGrottoHours$State;II)I"⟩
abbrev cX6_choice : ByteArray := prog_8_method_4_code
def yX6_choice : MethodName := ⟨RX6, "choice", "(LGrottoHours$Town;LGrottoHours$State;II)I"⟩
abbrev cX6_worthOf : ByteArray := prog_8_method_5_code
def yX6_worthOf : MethodName := ⟨RX6, "worthOf", "(LGrottoHours$Town;III)I"⟩
abbrev cX6_behind : ByteArray := prog_8_method_6_code
def yX6_behind : MethodName := ⟨RX6, "behind", "(LGrottoHours$Town;II)I"⟩
abbrev cX6_canHave : ByteArray := prog_8_method_7_code
def yX6_canHave : MethodName := ⟨RX6, "canHave", "(LGrottoHours$Town;LGrottoHours$State;III)Z"⟩
def RX7 : String := "GrottoHours$State"
def TX7 : u_T := fun k => match k with
  | 0 => ("GrottoHours$State", "hour", "I", false)
  | 1 => ("GrottoHours$State", "drained", "I", false)
  | 2 => ("GrottoHours$State", "sin", "[I", true)
  | 3 => ("GrottoHours$State", "purse", "[I", true)
  | 4 => ("GrottoHours$State", "silences", "[I", true)
  | _ => ("GrottoHours$State", "hired", "[I", true)
def tyX7 : Nat → FieldType := fun k => match k with
  | 0 => .int
  | 1 => .int
  | 2 => .array .int
  | 3 => .array .int
  | 4 => .array .int
  | _ => .array .int
abbrev wsX70 : List Cond := u_ws RX7 TX7 6
theorem nmX7 : ∀ a, a < 6 → ∀ b, b < 6 → a ≠ b → (TX7 a).2.1 ≠ (TX7 b).2.1 := by decide +kernel
theorem tyX7_ok : ∀ k, k < 6 → parseFieldDescriptor (TX7 k).2.2.1 = some (tyX7 k) := by decide +kernel
abbrev cX7_init : ByteArray := prog_9_method_1_code
def yX7_init : MethodName := ⟨RX7, "<init>", "()V"⟩
abbrev cX7_begin : ByteArray := prog_9_method_2_code
def yX7_begin : MethodName := ⟨RX7, "begin", "(LGrottoHours$Town;)V"⟩
abbrev cX7_copy : ByteArray := prog_9_method_3_code
def yX7_copy : MethodName := ⟨RX7, "copy", "(LGrottoHours$State;)V"⟩
abbrev cX7_write : ByteArray := prog_9_method_4_code
def yX7_write : MethodName := ⟨RX7, "write", "([II)V"⟩
abbrev cX7_read : ByteArray := prog_9_method_5_code
def yX7_read : MethodName := ⟨RX7, "read", "([II)V"⟩
abbrev cX7_isDrained : ByteArray := prog_9_method_6_code
def yX7_isDrained : MethodName := ⟨RX7, "isDrained", "(I)Z"⟩
abbrev cX7_turn : ByteArray := prog_9_method_7_code
def yX7_turn : MethodName := ⟨RX7, "turn", "(I)V"⟩
abbrev cX7_enrich : ByteArray := prog_9_method_8_code
def yX7_enrich : MethodName := ⟨RX7, "enrich", "(II)V"⟩
abbrev cX7_holderOf : ByteArray := prog_9_method_9_code
def yX7_holderOf : MethodName := ⟨RX7, "holderOf", "(LGrottoHours$Town;I)I"⟩
abbrev cX7_hiredBits : ByteArray := prog_9_method_10_code
def yX7_hiredBits : MethodName := ⟨RX7, "hiredBits", "(LGrottoHours$Town;)I"⟩
abbrev cX7_purses : ByteArray := prog_9_method_11_code
def yX7_purses : MethodName := ⟨RX7, "purses", "(LGrottoHours$Town;)I"⟩
abbrev cX7_sins : ByteArray := prog_9_method_12_code
def yX7_sins : MethodName := ⟨RX7, "sins", "(LGrottoHours$Town;)I"⟩
def RX8 : String := "GrottoHours$Tape"
def TX8 : u_T := fun k => match k with
  | 0 => ("GrottoHours$Tape", "bytes", "[B", true)
  | 1 => ("GrottoHours$Tape", "length", "I", false)
  | 2 => ("GrottoHours$Tape", "end", "I", false)
  | 3 => ("GrottoHours$Tape", "place", "I", false)
  | 4 => ("GrottoHours$Tape", "kind", "I", false)
  | 5 => ("GrottoHours$Tape", "start", "I", false)
  | _ => ("GrottoHours$Tape", "number", "I", false)
def tyX8 : Nat → FieldType := fun k => match k with
  | 0 => .array .byte
  | 1 => .int
  | 2 => .int
  | 3 => .int
  | 4 => .int
  | 5 => .int
  | _ => .int
abbrev wsX80 : List Cond := u_ws RX8 TX8 7
theorem nmX8 : ∀ a, a < 7 → ∀ b, b < 7 → a ≠ b → (TX8 a).2.1 ≠ (TX8 b).2.1 := by decide +kernel
theorem tyX8_ok : ∀ k, k < 7 → parseFieldDescriptor (TX8 k).2.2.1 = some (tyX8 k) := by decide +kernel
abbrev cX8_init : ByteArray := prog_10_method_1_code
def yX8_init : MethodName := ⟨RX8, "<init>", "()V"⟩
abbrev cX8_add : ByteArray := prog_10_method_2_code
def yX8_add : MethodName := ⟨RX8, "add", "(I)V"⟩
abbrev cX8_open : ByteArray := prog_10_method_3_code
def yX8_open : MethodName := ⟨RX8, "open", "(I)V"⟩
abbrev cX8_advance : ByteArray := prog_10_method_4_code
def yX8_advance : MethodName := ⟨RX8, "advance", "()V"⟩
abbrev cX8_isAtWord : ByteArray := prog_10_method_5_code
def yX8_isAtWord : MethodName := ⟨RX8, "isAtWord", "(Ljava/lang/String;)Z"⟩
abbrev cX8_isAtSign : ByteArray := prog_10_method_6_code
def yX8_isAtSign : MethodName := ⟨RX8, "isAtSign", "(C)Z"⟩
abbrev cX8_at : ByteArray := prog_10_method_7_code
def yX8_at : MethodName := ⟨RX8, "at", "(I)I"⟩
abbrev cX8_kindOf : ByteArray := prog_10_method_8_code
def yX8_kindOf : MethodName := ⟨RX8, "kindOf", "(I)I"⟩
def RX9 : String := "GrottoHours$Town"
def TX9 : u_T := fun k => match k with
  | 0 => ("GrottoHours$Town", "grottoes", "I", false)
  | 1 => ("GrottoHours$Town", "drip", "[I", true)
  | 2 => ("GrottoHours$Town", "phase", "[I", true)
  | 3 => ("GrottoHours$Town", "price", "[I", true)
  | 4 => ("GrottoHours$Town", "hollow", "[Z", true)
  | 5 => ("GrottoHours$Town", "guilds", "I", false)
  | 6 => ("GrottoHours$Town", "greed", "[I", true)
  | 7 => ("GrottoHours$Town", "sin", "[I", true)
  | 8 => ("GrottoHours$Town", "purse", "[I", true)
  | 9 => ("GrottoHours$Town", "hired", "[I", true)
  | 10 => ("GrottoHours$Town", "wets", "I", false)
  | 11 => ("GrottoHours$Town", "wet", "[I", true)
  | 12 => ("GrottoHours$Town", "bound", "I", false)
  | 13 => ("GrottoHours$Town", "prays", "LGrottoHours$Rule;", true)
  | _ => ("GrottoHours$Town", "costs", "LGrottoHours$Rule;", true)
def tyX9 : Nat → FieldType := fun k => match k with
  | 0 => .int
  | 1 => .array .int
  | 2 => .array .int
  | 3 => .array .int
  | 4 => .array .boolean
  | 5 => .int
  | 6 => .array .int
  | 7 => .array .int
  | 8 => .array .int
  | 9 => .array .int
  | 10 => .int
  | 11 => .array .int
  | 12 => .int
  | 13 => .object "GrottoHours$Rule"
  | _ => .object "GrottoHours$Rule"
abbrev wsX90 : List Cond := u_ws RX9 TX9 15
theorem nmX9 : ∀ a, a < 15 → ∀ b, b < 15 → a ≠ b → (TX9 a).2.1 ≠ (TX9 b).2.1 := by decide +kernel
theorem tyX9_ok : ∀ k, k < 15 → parseFieldDescriptor (TX9 k).2.2.1 = some (tyX9 k) := by decide +kernel
abbrev cX9_init : ByteArray := prog_11_method_1_code
def yX9_init : MethodName := ⟨RX9, "<init>", "()V"⟩
abbrev cX9_clear : ByteArray := prog_11_method_2_code
def yX9_clear : MethodName := ⟨RX9, "clear", "()V"⟩
abbrev cX9_isGrotto : ByteArray := prog_11_method_3_code
def yX9_isGrotto : MethodName := ⟨RX9, "isGrotto", "(I)Z"⟩
abbrev cX9_isGuild : ByteArray := prog_11_method_4_code
def yX9_isGuild : MethodName := ⟨RX9, "isGuild", "(I)Z"⟩
abbrev cX9_isBoundTold : ByteArray := prog_11_method_5_code
def yX9_isBoundTold : MethodName := ⟨RX9, "isBoundTold", "()Z"⟩
abbrev cX9_mostSin : ByteArray := prog_11_method_6_code
def yX9_mostSin : MethodName := ⟨RX9, "mostSin", "()I"⟩
abbrev cX9_wetOf : ByteArray := prog_11_method_7_code
def yX9_wetOf : MethodName := ⟨RX9, "wetOf", "(I)I"⟩
abbrev cX9_comesRound : ByteArray := prog_11_method_8_code
def yX9_comesRound : MethodName := ⟨RX9, "comesRound", "(II)Z"⟩
abbrev cX9_drips : ByteArray := prog_11_method_9_code
def yX9_drips : MethodName := ⟨RX9, "drips", "(IIII)Z"⟩
abbrev cX9_isHired : ByteArray := prog_11_method_10_code
def yX9_isHired : MethodName := ⟨RX9, "isHired", "(I)Z"⟩
def RX10 : String := "GrottoHours$Walk"
def TX10 : u_T := fun k => match k with
  | 0 => ("GrottoHours$Walk", "greed", "I", false)
  | 1 => ("GrottoHours$Walk", "sin", "I", false)
  | 2 => ("GrottoHours$Walk", "purse", "I", false)
  | 3 => ("GrottoHours$Walk", "silences", "I", false)
  | 4 => ("GrottoHours$Walk", "hired", "I", false)
  | 5 => ("GrottoHours$Walk", "hour", "I", false)
  | 6 => ("GrottoHours$Walk", "wet", "I", false)
  | _ => ("GrottoHours$Walk", "drained", "I", false)
def tyX10 : Nat → FieldType := fun k => match k with
  | 0 => .int
  | 1 => .int
  | 2 => .int
  | 3 => .int
  | 4 => .int
  | 5 => .int
  | 6 => .int
  | _ => .int
abbrev wsX100 : List Cond := u_ws RX10 TX10 8
theorem nmX10 : ∀ a, a < 8 → ∀ b, b < 8 → a ≠ b → (TX10 a).2.1 ≠ (TX10 b).2.1 := by decide +kernel
theorem tyX10_ok : ∀ k, k < 8 → parseFieldDescriptor (TX10 k).2.2.1 = some (tyX10 k) := by decide +kernel
abbrev cX10_init : ByteArray := prog_12_method_1_code
def yX10_init : MethodName := ⟨RX10, "<init>", "()V"⟩
abbrev cX10_begin : ByteArray := prog_12_method_2_code
def yX10_begin : MethodName := ⟨RX10, "begin", "(LGrottoHours$Town;LGrottoHours$State;I)V"⟩
abbrev cX10_end : ByteArray := prog_12_method_3_code
def yX10_end : MethodName := ⟨RX10, "end", "(LGrottoHours$State;I)V"⟩
abbrev cX10_repent : ByteArray := prog_12_method_4_code
def yX10_repent : MethodName := ⟨RX10, "repent", "()V"⟩
abbrev cX10_passHours : ByteArray := prog_12_method_5_code
def yX10_passHours : MethodName := ⟨RX10, "passHours", "(LGrottoHours$Town;I)V"⟩
abbrev cX10_passHour : ByteArray := prog_12_method_6_code
def yX10_passHour : MethodName := ⟨RX10, "passHour", "(LGrottoHours$Town;I)Z"⟩
abbrev cX10_cost : ByteArray := prog_12_method_7_code
def yX10_cost : MethodName := ⟨RX10, "cost", "(LGrottoHours$Town;)I"⟩
abbrev cX10_valueOf : ByteArray := prog_12_method_8_code
def yX10_valueOf : MethodName := ⟨RX10, "valueOf", "(LGrottoHours$Town;I)I"⟩
abbrev cX10_pray : ByteArray := prog_12_method_9_code
def yX10_pray : MethodName := ⟨RX10, "pray", "(LGrottoHours$Town;)V"⟩
def RX11 : String := "GrottoHours"
def TX11 : u_T := fun k => match k with
  | 0 => ("GrottoHours", "reader", "LGrottoHours$Reader;", true)
  | 1 => ("GrottoHours", "book", "LGrottoHours$Book;", true)
  | 2 => ("GrottoHours", "kept", "LGrottoHours$Book;", true)
  | 3 => ("GrottoHours", "draft", "LGrottoHours$State;", true)
  | 4 => ("GrottoHours", "walk", "LGrottoHours$Walk;", true)
  | 5 => ("GrottoHours", "sharing", "LGrottoHours$Sharing;", true)
  | 6 => ("GrottoHours", "guess", "LGrottoHours$Guess;", true)
  | 7 => ("GrottoHours", "town", "LGrottoHours$Town;", false)
  | 8 => ("GrottoHours", "isKept", "Z", false)
  | _ => ("GrottoHours", "seedNow", "I", false)
def tyX11 : Nat → FieldType := fun k => match k with
  | 0 => .object "GrottoHours$Reader"
  | 1 => .object "GrottoHours$Book"
  | 2 => .object "GrottoHours$Book"
  | 3 => .object "GrottoHours$State"
  | 4 => .object "GrottoHours$Walk"
  | 5 => .object "GrottoHours$Sharing"
  | 6 => .object "GrottoHours$Guess"
  | 7 => .object "GrottoHours$Town"
  | 8 => .boolean
  | _ => .int
abbrev wsX110 : List Cond := u_ws RX11 TX11 10
theorem nmX11 : ∀ a, a < 10 → ∀ b, b < 10 → a ≠ b → (TX11 a).2.1 ≠ (TX11 b).2.1 := by decide +kernel
theorem tyX11_ok : ∀ k, k < 10 → parseFieldDescriptor (TX11 k).2.2.1 = some (tyX11 k) := by decide +kernel
abbrev cX11_init : ByteArray := prog_1_method_1_code
def yX11_init : MethodName := ⟨RX11, "<init>", "()V"⟩
abbrev cX11_feed : ByteArray := prog_1_method_2_code
def yX11_feed : MethodName := ⟨RX11, "feed", "(IIIII)I"⟩
abbrev cX11_port : ByteArray := prog_1_method_3_code
def yX11_port : MethodName := ⟨RX11, "port", "(I)I"⟩
abbrev cX11_fault : ByteArray := prog_1_method_4_code
def yX11_fault : MethodName := ⟨RX11, "fault", "()I"⟩
abbrev cX11_count : ByteArray := prog_1_method_5_code
def yX11_count : MethodName := ⟨RX11, "count", "(I)I"⟩
abbrev cX11_grotto : ByteArray := prog_1_method_6_code
def yX11_grotto : MethodName := ⟨RX11, "grotto", "(II)I"⟩
abbrev cX11_guild : ByteArray := prog_1_method_7_code
def yX11_guild : MethodName := ⟨RX11, "guild", "(II)I"⟩
abbrev cX11_hours : ByteArray := prog_1_method_8_code
def yX11_hours : MethodName := ⟨RX11, "hours", "(I)I"⟩
abbrev cX11_hire : ByteArray := prog_1_method_9_code
def yX11_hire : MethodName := ⟨RX11, "hire", "(II)Z"⟩
abbrev cX11_dismiss : ByteArray := prog_1_method_10_code
def yX11_dismiss : MethodName := ⟨RX11, "dismiss", "(I)I"⟩
abbrev cX11_confess : ByteArray := prog_1_method_11_code
def yX11_confess : MethodName := ⟨RX11, "confess", "(I)I"⟩
abbrev cX11_drain : ByteArray := prog_1_method_12_code
def yX11_drain : MethodName := ⟨RX11, "drain", "(IZ)Z"⟩
abbrev cX11_give : ByteArray := prog_1_method_13_code
def yX11_give : MethodName := ⟨RX11, "give", "(II)I"⟩
abbrev cX11_undo : ByteArray := prog_1_method_14_code
def yX11_undo : MethodName := ⟨RX11, "undo", "()I"⟩
abbrev cX11_then : ByteArray := prog_1_method_15_code
def yX11_then : MethodName := ⟨RX11, "then", "(III)I"⟩
abbrev cX11_dripping : ByteArray := prog_1_method_16_code
def yX11_dripping : MethodName := ⟨RX11, "dripping", "(I)I"⟩
abbrev cX11_first : ByteArray := prog_1_method_17_code
def yX11_first : MethodName := ⟨RX11, "first", "(I)I"⟩
abbrev cX11_dismissed : ByteArray := prog_1_method_18_code
def yX11_dismissed : MethodName := ⟨RX11, "dismissed", "(I)I"⟩
abbrev cX11_most : ByteArray := prog_1_method_19_code
def yX11_most : MethodName := ⟨RX11, "most", "(II)I"⟩
abbrev cX11_hush : ByteArray := prog_1_method_20_code
def yX11_hush : MethodName := ⟨RX11, "hush", "(I)I"⟩
abbrev cX11_chorus : ByteArray := prog_1_method_21_code
def yX11_chorus : MethodName := ⟨RX11, "chorus", "(I)I"⟩
abbrev cX11_together : ByteArray := prog_1_method_22_code
def yX11_together : MethodName := ⟨RX11, "together", "(I)I"⟩
abbrev cX11_rhythm : ByteArray := prog_1_method_23_code
def yX11_rhythm : MethodName := ⟨RX11, "rhythm", "(I)I"⟩
abbrev cX11_often : ByteArray := prog_1_method_24_code
def yX11_often : MethodName := ⟨RX11, "often", "(II)I"⟩
abbrev cX11_toHire : ByteArray := prog_1_method_25_code
def yX11_toHire : MethodName := ⟨RX11, "toHire", "(III)I"⟩
abbrev cX11_shared : ByteArray := prog_1_method_26_code
def yX11_shared : MethodName := ⟨RX11, "shared", "(I)I"⟩
abbrev cX11_has : ByteArray := prog_1_method_27_code
def yX11_has : MethodName := ⟨RX11, "has", "(I)I"⟩
abbrev cX11_toGive : ByteArray := prog_1_method_28_code
def yX11_toGive : MethodName := ⟨RX11, "toGive", "(II)I"⟩
abbrev cX11_confessing : ByteArray := prog_1_method_29_code
def yX11_confessing : MethodName := ⟨RX11, "confessing", "(II)I"⟩
abbrev cX11_see : ByteArray := prog_1_method_30_code
def yX11_see : MethodName := ⟨RX11, "see", "(III)I"⟩
abbrev cX11_greedy : ByteArray := prog_1_method_31_code
def yX11_greedy : MethodName := ⟨RX11, "greedy", "(I)I"⟩
abbrev cX11_look : ByteArray := prog_1_method_32_code
def yX11_look : MethodName := ⟨RX11, "look", "(I)I"⟩
abbrev cX11_forget : ByteArray := prog_1_method_33_code
def yX11_forget : MethodName := ⟨RX11, "forget", "()V"⟩
abbrev cX11_drought : ByteArray := prog_1_method_34_code
def yX11_drought : MethodName := ⟨RX11, "drought", "(III)I"⟩
abbrev cX11_game : ByteArray := prog_1_method_35_code
def yX11_game : MethodName := ⟨RX11, "game", "(III)I"⟩
abbrev cX11_years : ByteArray := prog_1_method_36_code
def yX11_years : MethodName := ⟨RX11, "years", "(III)I"⟩
abbrev cX11_image : ByteArray := prog_1_method_37_code
def yX11_image : MethodName := ⟨RX11, "image", "()V"⟩
abbrev cX11_restore : ByteArray := prog_1_method_38_code
def yX11_restore : MethodName := ⟨RX11, "restore", "()Z"⟩
abbrev cX11_needGrotto : ByteArray := prog_1_method_39_code
def yX11_needGrotto : MethodName := ⟨RX11, "needGrotto", "(I)V"⟩
abbrev cX11_needGuild : ByteArray := prog_1_method_40_code
def yX11_needGuild : MethodName := ⟨RX11, "needGuild", "(I)V"⟩
abbrev cX11_needWhat : ByteArray := prog_1_method_41_code
def yX11_needWhat : MethodName := ⟨RX11, "needWhat", "(II)V"⟩
abbrev cX11_needWithin : ByteArray := prog_1_method_42_code
def yX11_needWithin : MethodName := ⟨RX11, "needWithin", "(III)V"⟩
abbrev cX11_needGrottoes : ByteArray := prog_1_method_43_code
def yX11_needGrottoes : MethodName := ⟨RX11, "needGrottoes", "(I)V"⟩
abbrev cX11_isWithin : ByteArray := prog_1_method_44_code
def yX11_isWithin : MethodName := ⟨RX11, "isWithin", "(III)Z"⟩
abbrev cX11_isOneOf : ByteArray := prog_1_method_45_code
def yX11_isOneOf : MethodName := ⟨RX11, "isOneOf", "(II)Z"⟩
abbrev cX11_dripsAhead : ByteArray := prog_1_method_46_code
def yX11_dripsAhead : MethodName := ⟨RX11, "dripsAhead", "(II)Z"⟩
abbrev cX11_dripBits : ByteArray := prog_1_method_47_code
def yX11_dripBits : MethodName := ⟨RX11, "dripBits", "(I)I"⟩
abbrev cX11_nextDrip : ByteArray := prog_1_method_48_code
def yX11_nextDrip : MethodName := ⟨RX11, "nextDrip", "(I)I"⟩
abbrev cX11_costNow : ByteArray := prog_1_method_49_code
def yX11_costNow : MethodName := ⟨RX11, "costNow", "(I)I"⟩
abbrev cX11_passHour : ByteArray := prog_1_method_50_code
def yX11_passHour : MethodName := ⟨RX11, "passHour", "(LGrottoHours$State;I)I"⟩
abbrev cX11_nextOf : ByteArray := prog_1_method_51_code
def yX11_nextOf : MethodName := ⟨RX11, "nextOf", "(III)I"⟩
abbrev cX11_leastCommon : ByteArray := prog_1_method_52_code
def yX11_leastCommon : MethodName := ⟨RX11, "leastCommon", "(II)I"⟩
abbrev cX11_keeps : ByteArray := prog_1_method_53_code
def yX11_keeps : MethodName := ⟨RX11, "keeps", "(III)Z"⟩
abbrev cX11_leastOfAllPurses : ByteArray := prog_1_method_54_code
def yX11_leastOfAllPurses : MethodName := ⟨RX11, "leastOfAllPurses", "(II)I"⟩
abbrev cX11_leastByHalves : ByteArray := prog_1_method_55_code
def yX11_leastByHalves : MethodName := ⟨RX11, "leastByHalves", "(II)I"⟩
abbrev cX11_mostChoice : ByteArray := prog_1_method_56_code
def yX11_mostChoice : MethodName := ⟨RX11, "mostChoice", "(I)I"⟩
abbrev cX11_isContent : ByteArray := prog_1_method_57_code
def yX11_isContent : MethodName := ⟨RX11, "isContent", "(IIII)Z"⟩
abbrev cX11_gain : ByteArray := prog_1_method_58_code
def yX11_gain : MethodName := ⟨RX11, "gain", "(IIII)I"⟩
abbrev cX11_quietHours : ByteArray := prog_1_method_59_code
def yX11_quietHours : MethodName := ⟨RX11, "quietHours", "(II)I"⟩
abbrev cX11_draw : ByteArray := prog_1_method_60_code
def yX11_draw : MethodName := ⟨RX11, "draw", "(I)I"⟩
abbrev cX11_chance : ByteArray := prog_1_method_61_code
def yX11_chance : MethodName := ⟨RX11, "chance", "(I)V"⟩
def RX12 : String := "GrottoHoursModel"
def TX12 : u_T := fun k => match k with
  | 0 => ("GrottoHoursModel", "caves", "[Ljava/lang/String;", true)
  | 1 => ("GrottoHoursModel", "ofPrays", "[Ljava/lang/String;", true)
  | 2 => ("GrottoHoursModel", "ofCosts", "[Ljava/lang/String;", true)
  | 3 => ("GrottoHoursModel", "values", "[Ljava/lang/String;", false)
  | 4 => ("GrottoHoursModel", "code", "I", false)
  | 5 => ("GrottoHoursModel", "told", "[I", true)
  | 6 => ("GrottoHoursModel", "hollow", "[I", true)
  | 7 => ("GrottoHoursModel", "drip", "[I", true)
  | 8 => ("GrottoHoursModel", "phase", "[I", true)
  | 9 => ("GrottoHoursModel", "price", "[I", true)
  | 10 => ("GrottoHoursModel", "greedTold", "[I", true)
  | 11 => ("GrottoHoursModel", "sinTold", "[I", true)
  | 12 => ("GrottoHoursModel", "purseTold", "[I", true)
  | 13 => ("GrottoHoursModel", "hiredTold", "[I", true)
  | 14 => ("GrottoHoursModel", "wetTold", "[I", true)
  | 15 => ("GrottoHoursModel", "signsPrays", "[I", true)
  | 16 => ("GrottoHoursModel", "signsCosts", "[I", true)
  | 17 => ("GrottoHoursModel", "status", "[I", true)
  | 18 => ("GrottoHoursModel", "greed", "[I", true)
  | 19 => ("GrottoHoursModel", "tape", "[I", true)
  | 20 => ("GrottoHoursModel", "taped", "I", false)
  | 21 => ("GrottoHoursModel", "at", "I", false)
  | 22 => ("GrottoHoursModel", "size", "I", false)
  | 23 => ("GrottoHoursModel", "token", "I", false)
  | 24 => ("GrottoHoursModel", "number", "I", false)
  | 25 => ("GrottoHoursModel", "begins", "I", false)
  | 26 => ("GrottoHoursModel", "stops", "I", false)
  | 27 => ("GrottoHoursModel", "bad", "I", false)
  | 28 => ("GrottoHoursModel", "badPlace", "I", false)
  | 29 => ("GrottoHoursModel", "faultPlace", "I", false)
  | 30 => ("GrottoHoursModel", "taken", "I", false)
  | 31 => ("GrottoHoursModel", "ofCosting", "Z", false)
  | 32 => ("GrottoHoursModel", "sin", "[I", true)
  | 33 => ("GrottoHoursModel", "purse", "[I", true)
  | 34 => ("GrottoHoursModel", "silences", "[I", true)
  | 35 => ("GrottoHoursModel", "hired", "[I", true)
  | 36 => ("GrottoHoursModel", "past", "[I", true)
  | 37 => ("GrottoHoursModel", "hourNow", "I", false)
  | 38 => ("GrottoHoursModel", "drained", "I", false)
  | 39 => ("GrottoHoursModel", "acts", "I", false)
  | 40 => ("GrottoHoursModel", "seen", "I", false)
  | 41 => ("GrottoHoursModel", "wetNow", "I", false)
  | 42 => ("GrottoHoursModel", "asked", "[I", true)
  | 43 => ("GrottoHoursModel", "stack", "[I", true)
  | 44 => ("GrottoHoursModel", "drops", "I", false)
  | 45 => ("GrottoHoursModel", "silent", "I", false)
  | 46 => ("GrottoHoursModel", "rowThen", "[I", true)
  | 47 => ("GrottoHoursModel", "leastBy", "[I", true)
  | 48 => ("GrottoHoursModel", "seenGuild", "[I", true)
  | 49 => ("GrottoHoursModel", "seenIn", "[I", true)
  | 50 => ("GrottoHoursModel", "seenSin", "[I", true)
  | 51 => ("GrottoHoursModel", "rowSeen", "[I", true)
  | 52 => ("GrottoHoursModel", "fits", "[I", true)
  | 53 => ("GrottoHoursModel", "worstThen", "[I", true)
  | 54 => ("GrottoHoursModel", "fitMany", "I", false)
  | 55 => ("GrottoHoursModel", "gains", "[I", true)
  | 56 => ("GrottoHoursModel", "seedNow", "I", false)
  | 57 => ("GrottoHoursModel", "hasImage", "Z", false)
  | 58 => ("GrottoHoursModel", "actsThen", "I", false)
  | 59 => ("GrottoHoursModel", "seenThen", "I", false)
  | 60 => ("GrottoHoursModel", "imageRow", "[I", true)
  | 61 => ("GrottoHoursModel", "pastThen", "[I", true)
  | 62 => ("GrottoHoursModel", "seenGuildThen", "[I", true)
  | 63 => ("GrottoHoursModel", "seenInThen", "[I", true)
  | 64 => ("GrottoHoursModel", "seenSinThen", "[I", true)
  | _ => ("GrottoHoursModel", "statusThen", "[I", true)
def tyX12 : Nat → FieldType := fun k => match k with
  | 0 => .array (.object "java/lang/String")
  | 1 => .array (.object "java/lang/String")
  | 2 => .array (.object "java/lang/String")
  | 3 => .array (.object "java/lang/String")
  | 4 => .int
  | 5 => .array .int
  | 6 => .array .int
  | 7 => .array .int
  | 8 => .array .int
  | 9 => .array .int
  | 10 => .array .int
  | 11 => .array .int
  | 12 => .array .int
  | 13 => .array .int
  | 14 => .array .int
  | 15 => .array .int
  | 16 => .array .int
  | 17 => .array .int
  | 18 => .array .int
  | 19 => .array .int
  | 20 => .int
  | 21 => .int
  | 22 => .int
  | 23 => .int
  | 24 => .int
  | 25 => .int
  | 26 => .int
  | 27 => .int
  | 28 => .int
  | 29 => .int
  | 30 => .int
  | 31 => .boolean
  | 32 => .array .int
  | 33 => .array .int
  | 34 => .array .int
  | 35 => .array .int
  | 36 => .array .int
  | 37 => .int
  | 38 => .int
  | 39 => .int
  | 40 => .int
  | 41 => .int
  | 42 => .array .int
  | 43 => .array .int
  | 44 => .int
  | 45 => .int
  | 46 => .array .int
  | 47 => .array .int
  | 48 => .array .int
  | 49 => .array .int
  | 50 => .array .int
  | 51 => .array .int
  | 52 => .array .int
  | 53 => .array .int
  | 54 => .int
  | 55 => .array .int
  | 56 => .int
  | 57 => .boolean
  | 58 => .int
  | 59 => .int
  | 60 => .array .int
  | 61 => .array .int
  | 62 => .array .int
  | 63 => .array .int
  | 64 => .array .int
  | _ => .array .int
abbrev wsX120 : List Cond := u_ws RX12 TX12 66
theorem nmX12 : ∀ a, a < 66 → ∀ b, b < 66 → a ≠ b → (TX12 a).2.1 ≠ (TX12 b).2.1 := by decide +kernel
theorem tyX12_ok : ∀ k, k < 66 → parseFieldDescriptor (TX12 k).2.2.1 = some (tyX12 k) := by decide +kernel
abbrev cX12_init : ByteArray := prog_14_method_1_code
def yX12_init : MethodName := ⟨RX12, "<init>", "()V"⟩
abbrev cX12_thrown : ByteArray := prog_14_method_2_code
def yX12_thrown : MethodName := ⟨RX12, "thrown", "()I"⟩
abbrev cX12_fail : ByteArray := prog_14_method_3_code
def yX12_fail : MethodName := ⟨RX12, "fail", "(I)I"⟩
abbrev cX12_failing : ByteArray := prog_14_method_4_code
def yX12_failing : MethodName := ⟨RX12, "failing", "(I)Z"⟩
abbrev cX12_isIn : ByteArray := prog_14_method_5_code
def yX12_isIn : MethodName := ⟨RX12, "isIn", "(JJJ)Z"⟩
abbrev cX12_isOf : ByteArray := prog_14_method_6_code
def yX12_isOf : MethodName := ⟨RX12, "isOf", "(II)Z"⟩
abbrev cX12_bitsOf : ByteArray := prog_14_method_7_code
def yX12_bitsOf : MethodName := ⟨RX12, "bitsOf", "(I)I"⟩
abbrev cX12_isGrotto : ByteArray := prog_14_method_8_code
def yX12_isGrotto : MethodName := ⟨RX12, "isGrotto", "(I)Z"⟩
abbrev cX12_isGuild : ByteArray := prog_14_method_9_code
def yX12_isGuild : MethodName := ⟨RX12, "isGuild", "(I)Z"⟩
abbrev cX12_feed : ByteArray := prog_14_method_10_code
def yX12_feed : MethodName := ⟨RX12, "feed", "(IIIII)I"⟩
abbrev cX12_byteAt : ByteArray := prog_14_method_11_code
def yX12_byteAt : MethodName := ⟨RX12, "byteAt", "(I)I"⟩
abbrev cX12_isLetter : ByteArray := prog_14_method_12_code
def yX12_isLetter : MethodName := ⟨RX12, "isLetter", "(I)Z"⟩
abbrev cX12_isDigit : ByteArray := prog_14_method_13_code
def yX12_isDigit : MethodName := ⟨RX12, "isDigit", "(I)Z"⟩
abbrev cX12_isMark : ByteArray := prog_14_method_14_code
def yX12_isMark : MethodName := ⟨RX12, "isMark", "(I)Z"⟩
abbrev cX12_stepOn : ByteArray := prog_14_method_15_code
def yX12_stepOn : MethodName := ⟨RX12, "stepOn", "()V"⟩
abbrev cX12_wrong : ByteArray := prog_14_method_16_code
def yX12_wrong : MethodName := ⟨RX12, "wrong", "(I)V"⟩
abbrev cX12_is : ByteArray := prog_14_method_17_code
def yX12_is : MethodName := ⟨RX12, "is", "(Ljava/lang/String;)Z"⟩
abbrev cX12_which : ByteArray := prog_14_method_18_code
def yX12_which : MethodName := ⟨RX12, "which", "([Ljava/lang/String;)I"⟩
abbrev cX12_isMarked : ByteArray := prog_14_method_19_code
def yX12_isMarked : MethodName := ⟨RX12, "isMarked", "(I)Z"⟩
abbrev cX12_mark : ByteArray := prog_14_method_20_code
def yX12_mark : MethodName := ⟨RX12, "mark", "(I)V"⟩
abbrev cX12_numberNow : ByteArray := prog_14_method_21_code
def yX12_numberNow : MethodName := ⟨RX12, "numberNow", "(II)I"⟩
abbrev cX12_readNumber : ByteArray := prog_14_method_22_code
def yX12_readNumber : MethodName := ⟨RX12, "readNumber", "(II)I"⟩
abbrev cX12_lay : ByteArray := prog_14_method_23_code
def yX12_lay : MethodName := ⟨RX12, "lay", "(I)V"⟩
abbrev cX12_readPart : ByteArray := prog_14_method_24_code
def yX12_readPart : MethodName := ⟨RX12, "readPart", "(I)V"⟩
abbrev cX12_readProduct : ByteArray := prog_14_method_25_code
def yX12_readProduct : MethodName := ⟨RX12, "readProduct", "(I)V"⟩
abbrev cX12_readSum : ByteArray := prog_14_method_26_code
def yX12_readSum : MethodName := ⟨RX12, "readSum", "(I)V"⟩
abbrev cX12_readNot : ByteArray := prog_14_method_27_code
def yX12_readNot : MethodName := ⟨RX12, "readNot", "(I)V"⟩
abbrev cX12_readAnd : ByteArray := prog_14_method_28_code
def yX12_readAnd : MethodName := ⟨RX12, "readAnd", "(I)V"⟩
abbrev cX12_readExpression : ByteArray := prog_14_method_29_code
def yX12_readExpression : MethodName := ⟨RX12, "readExpression", "(I)V"⟩
abbrev cX12_another : ByteArray := prog_14_method_30_code
def yX12_another : MethodName := ⟨RX12, "another", "(II)Z"⟩
abbrev cX12_sayCave : ByteArray := prog_14_method_31_code
def yX12_sayCave : MethodName := ⟨RX12, "sayCave", "(I)V"⟩
abbrev cX12_sayGuild : ByteArray := prog_14_method_32_code
def yX12_sayGuild : MethodName := ⟨RX12, "sayGuild", "()V"⟩
abbrev cX12_sayWets : ByteArray := prog_14_method_33_code
def yX12_sayWets : MethodName := ⟨RX12, "sayWets", "()V"⟩
abbrev cX12_sayOnce : ByteArray := prog_14_method_34_code
def yX12_sayOnce : MethodName := ⟨RX12, "sayOnce", "(I)V"⟩
abbrev cX12_readLine : ByteArray := prog_14_method_35_code
def yX12_readLine : MethodName := ⟨RX12, "readLine", "(I)I"⟩
abbrev cX12_port : ByteArray := prog_14_method_36_code
def yX12_port : MethodName := ⟨RX12, "port", "(I)I"⟩
abbrev cX12_takeHalf : ByteArray := prog_14_method_37_code
def yX12_takeHalf : MethodName := ⟨RX12, "takeHalf", "([I)V"⟩
abbrev cX12_takeOver : ByteArray := prog_14_method_38_code
def yX12_takeOver : MethodName := ⟨RX12, "takeOver", "()V"⟩
abbrev cX12_fault : ByteArray := prog_14_method_39_code
def yX12_fault : MethodName := ⟨RX12, "fault", "()I"⟩
abbrev cX12_pack : ByteArray := prog_14_method_40_code
def yX12_pack : MethodName := ⟨RX12, "pack", "([II)V"⟩
abbrev cX12_unpack : ByteArray := prog_14_method_41_code
def yX12_unpack : MethodName := ⟨RX12, "unpack", "([II)V"⟩
abbrev cX12_wetOf : ByteArray := prog_14_method_42_code
def yX12_wetOf : MethodName := ⟨RX12, "wetOf", "()I"⟩
abbrev cX12_comesAt : ByteArray := prog_14_method_43_code
def yX12_comesAt : MethodName := ⟨RX12, "comesAt", "(II)Z"⟩
abbrev cX12_drippingNow : ByteArray := prog_14_method_44_code
def yX12_drippingNow : MethodName := ⟨RX12, "drippingNow", "()I"⟩
abbrev cX12_hirerOf : ByteArray := prog_14_method_45_code
def yX12_hirerOf : MethodName := ⟨RX12, "hirerOf", "(I)I"⟩
abbrev cX12_hiredNow : ByteArray := prog_14_method_46_code
def yX12_hiredNow : MethodName := ⟨RX12, "hiredNow", "()I"⟩
abbrev cX12_reckon : ByteArray := prog_14_method_47_code
def yX12_reckon : MethodName := ⟨RX12, "reckon", "(III)I"⟩
abbrev cX12_valueNow : ByteArray := prog_14_method_48_code
def yX12_valueNow : MethodName := ⟨RX12, "valueNow", "([II)I"⟩
abbrev cX12_ruleOf : ByteArray := prog_14_method_49_code
def yX12_ruleOf : MethodName := ⟨RX12, "ruleOf", "([III)I"⟩
abbrev cX12_pray : ByteArray := prog_14_method_50_code
def yX12_pray : MethodName := ⟨RX12, "pray", "(I)V"⟩
abbrev cX12_costsOf : ByteArray := prog_14_method_51_code
def yX12_costsOf : MethodName := ⟨RX12, "costsOf", "(I)I"⟩
abbrev cX12_pay : ByteArray := prog_14_method_52_code
def yX12_pay : MethodName := ⟨RX12, "pay", "(I)V"⟩
abbrev cX12_anHour : ByteArray := prog_14_method_53_code
def yX12_anHour : MethodName := ⟨RX12, "anHour", "()V"⟩
abbrev cX12_goOn : ByteArray := prog_14_method_54_code
def yX12_goOn : MethodName := ⟨RX12, "goOn", "(I)V"⟩
abbrev cX12_sumOf : ByteArray := prog_14_method_55_code
def yX12_sumOf : MethodName := ⟨RX12, "sumOf", "([I)I"⟩
abbrev cX12_count : ByteArray := prog_14_method_56_code
def yX12_count : MethodName := ⟨RX12, "count", "(I)I"⟩
abbrev cX12_nextDrip : ByteArray := prog_14_method_57_code
def yX12_nextDrip : MethodName := ⟨RX12, "nextDrip", "(I)I"⟩
abbrev cX12_grotto : ByteArray := prog_14_method_58_code
def yX12_grotto : MethodName := ⟨RX12, "grotto", "(II)I"⟩
abbrev cX12_guild : ByteArray := prog_14_method_59_code
def yX12_guild : MethodName := ⟨RX12, "guild", "(II)I"⟩
abbrev cX12_refuse : ByteArray := prog_14_method_60_code
def yX12_refuse : MethodName := ⟨RX12, "refuse", "(I)I"⟩
abbrev cX12_refused : ByteArray := prog_14_method_61_code
def yX12_refused : MethodName := ⟨RX12, "refused", "()Z"⟩
abbrev cX12_keep : ByteArray := prog_14_method_62_code
def yX12_keep : MethodName := ⟨RX12, "keep", "()V"⟩
abbrev cX12_hours : ByteArray := prog_14_method_63_code
def yX12_hours : MethodName := ⟨RX12, "hours", "(I)I"⟩
abbrev cX12_hire : ByteArray := prog_14_method_64_code
def yX12_hire : MethodName := ⟨RX12, "hire", "(II)Z"⟩
abbrev cX12_dismiss : ByteArray := prog_14_method_65_code
def yX12_dismiss : MethodName := ⟨RX12, "dismiss", "(I)I"⟩
abbrev cX12_canConfess : ByteArray := prog_14_method_66_code
def yX12_canConfess : MethodName := ⟨RX12, "canConfess", "(I)Z"⟩
abbrev cX12_doConfess : ByteArray := prog_14_method_67_code
def yX12_doConfess : MethodName := ⟨RX12, "doConfess", "(I)V"⟩
abbrev cX12_confess : ByteArray := prog_14_method_68_code
def yX12_confess : MethodName := ⟨RX12, "confess", "(I)I"⟩
abbrev cX12_drain : ByteArray := prog_14_method_69_code
def yX12_drain : MethodName := ⟨RX12, "drain", "(IZ)Z"⟩
abbrev cX12_give : ByteArray := prog_14_method_70_code
def yX12_give : MethodName := ⟨RX12, "give", "(II)I"⟩
abbrev cX12_undo : ByteArray := prog_14_method_71_code
def yX12_undo : MethodName := ⟨RX12, "undo", "()I"⟩
abbrev cX12_then : ByteArray := prog_14_method_72_code
def yX12_then : MethodName := ⟨RX12, "then", "(III)I"⟩
abbrev cX12_dripping : ByteArray := prog_14_method_73_code
def yX12_dripping : MethodName := ⟨RX12, "dripping", "(I)I"⟩
abbrev cX12_first : ByteArray := prog_14_method_74_code
def yX12_first : MethodName := ⟨RX12, "first", "(I)I"⟩
abbrev cX12_dismissed : ByteArray := prog_14_method_75_code
def yX12_dismissed : MethodName := ⟨RX12, "dismissed", "(I)I"⟩
abbrev cX12_greatest : ByteArray := prog_14_method_76_code
def yX12_greatest : MethodName := ⟨RX12, "greatest", "([I)I"⟩
abbrev cX12_most : ByteArray := prog_14_method_77_code
def yX12_most : MethodName := ⟨RX12, "most", "(II)I"⟩
abbrev cX12_hush : ByteArray := prog_14_method_78_code
def yX12_hush : MethodName := ⟨RX12, "hush", "(I)I"⟩
abbrev cX12_chorus : ByteArray := prog_14_method_79_code
def yX12_chorus : MethodName := ⟨RX12, "chorus", "(I)I"⟩
abbrev cX12_often : ByteArray := prog_14_method_80_code
def yX12_often : MethodName := ⟨RX12, "often", "(II)I"⟩
abbrev cX12_isSome : ByteArray := prog_14_method_81_code
def yX12_isSome : MethodName := ⟨RX12, "isSome", "(I)Z"⟩
abbrev cX12_together : ByteArray := prog_14_method_82_code
def yX12_together : MethodName := ⟨RX12, "together", "(I)I"⟩
abbrev cX12_rhythm : ByteArray := prog_14_method_83_code
def yX12_rhythm : MethodName := ⟨RX12, "rhythm", "(I)I"⟩
abbrev cX12_toHire : ByteArray := prog_14_method_84_code
def yX12_toHire : MethodName := ⟨RX12, "toHire", "(III)I"⟩
abbrev cX12_mayHave : ByteArray := prog_14_method_85_code
def yX12_mayHave : MethodName := ⟨RX12, "mayHave", "(III)Z"⟩
abbrev cX12_with : ByteArray := prog_14_method_86_code
def yX12_with : MethodName := ⟨RX12, "with", "(III)I"⟩
abbrev cX12_tellLeast : ByteArray := prog_14_method_87_code
def yX12_tellLeast : MethodName := ⟨RX12, "tellLeast", "()V"⟩
abbrev cX12_shared : ByteArray := prog_14_method_88_code
def yX12_shared : MethodName := ⟨RX12, "shared", "(I)I"⟩
abbrev cX12_has : ByteArray := prog_14_method_89_code
def yX12_has : MethodName := ⟨RX12, "has", "(I)I"⟩
abbrev cX12_toGive : ByteArray := prog_14_method_90_code
def yX12_toGive : MethodName := ⟨RX12, "toGive", "(II)I"⟩
abbrev cX12_confessing : ByteArray := prog_14_method_91_code
def yX12_confessing : MethodName := ⟨RX12, "confessing", "(II)I"⟩
abbrev cX12_see : ByteArray := prog_14_method_92_code
def yX12_see : MethodName := ⟨RX12, "see", "(III)I"⟩
abbrev cX12_isAsSeen : ByteArray := prog_14_method_93_code
def yX12_isAsSeen : MethodName := ⟨RX12, "isAsSeen", "()Z"⟩
abbrev cX12_tellFits : ByteArray := prog_14_method_94_code
def yX12_tellFits : MethodName := ⟨RX12, "tellFits", "()V"⟩
abbrev cX12_greedy : ByteArray := prog_14_method_95_code
def yX12_greedy : MethodName := ⟨RX12, "greedy", "(I)I"⟩
abbrev cX12_unlike : ByteArray := prog_14_method_96_code
def yX12_unlike : MethodName := ⟨RX12, "unlike", "(I)I"⟩
abbrev cX12_look : ByteArray := prog_14_method_97_code
def yX12_look : MethodName := ⟨RX12, "look", "(I)I"⟩
abbrev cX12_forget : ByteArray := prog_14_method_98_code
def yX12_forget : MethodName := ⟨RX12, "forget", "()V"⟩
abbrev cX12_drought : ByteArray := prog_14_method_99_code
def yX12_drought : MethodName := ⟨RX12, "drought", "(III)I"⟩
abbrev cX12_tellGains : ByteArray := prog_14_method_100_code
def yX12_tellGains : MethodName := ⟨RX12, "tellGains", "(II)V"⟩
abbrev cX12_game : ByteArray := prog_14_method_101_code
def yX12_game : MethodName := ⟨RX12, "game", "(III)I"⟩
abbrev cX12_drawOf : ByteArray := prog_14_method_102_code
def yX12_drawOf : MethodName := ⟨RX12, "drawOf", "(I)I"⟩
abbrev cX12_something : ByteArray := prog_14_method_103_code
def yX12_something : MethodName := ⟨RX12, "something", "()V"⟩
abbrev cX12_years : ByteArray := prog_14_method_104_code
def yX12_years : MethodName := ⟨RX12, "years", "(III)I"⟩
abbrev cX12_copyTo : ByteArray := prog_14_method_105_code
def yX12_copyTo : MethodName := ⟨RX12, "copyTo", "([I[I)V"⟩
abbrev cX12_image : ByteArray := prog_14_method_106_code
def yX12_image : MethodName := ⟨RX12, "image", "()V"⟩
abbrev cX12_restore : ByteArray := prog_14_method_107_code
def yX12_restore : MethodName := ⟨RX12, "restore", "()Z"⟩
def RJx145de : String := "java/io/Serializable"
def TJx145de : u_T := fun k => match k with
  | _ => ("", "", "", false)
def tyJx145de : Nat → FieldType := fun k => match k with
  | _ => .int
abbrev wsJx145de0 : List Cond := u_ws RJx145de TJx145de 0
theorem nmJx145de : ∀ a, a < 0 → ∀ b, b < 0 → a ≠ b → (TJx145de a).2.1 ≠ (TJx145de b).2.1 := by decide +kernel
theorem tyJx145de_ok : ∀ k, k < 0 → parseFieldDescriptor (TJx145de k).2.2.1 = some (tyJx145de k) := by decide +kernel
def RJx9f9b0 : String := "java/lang/CharSequence"
def TJx9f9b0 : u_T := fun k => match k with
  | _ => ("", "", "", false)
def tyJx9f9b0 : Nat → FieldType := fun k => match k with
  | _ => .int
abbrev wsJx9f9b00 : List Cond := u_ws RJx9f9b0 TJx9f9b0 0
theorem nmJx9f9b0 : ∀ a, a < 0 → ∀ b, b < 0 → a ≠ b → (TJx9f9b0 a).2.1 ≠ (TJx9f9b0 b).2.1 := by decide +kernel
theorem tyJx9f9b0_ok : ∀ k, k < 0 → parseFieldDescriptor (TJx9f9b0 k).2.2.1 = some (tyJx9f9b0 k) := by decide +kernel
def RJ11 : String := "java/lang/Character"
def TJ11 : u_T := fun k => match k with
  | _ => ("", "", "", false)
def tyJ11 : Nat → FieldType := fun k => match k with
  | _ => .int
abbrev wsJ110 : List Cond := u_ws RJ11 TJ11 0
theorem nmJ11 : ∀ a, a < 0 → ∀ b, b < 0 → a ≠ b → (TJ11 a).2.1 ≠ (TJ11 b).2.1 := by decide +kernel
theorem tyJ11_ok : ∀ k, k < 0 → parseFieldDescriptor (TJ11 k).2.2.1 = some (tyJ11 k) := by decide +kernel
abbrev cJ11_isValidCodePoint_9a6ad : ByteArray := prog_17_method_11_code
def yJ11_isValidCodePoint_9a6ad : MethodName := ⟨RJ11, "isValidCodePoint", "(I)Z"⟩
abbrev cJ11_highSurrogate_5068e : ByteArray := prog_17_method_28_code
def yJ11_highSurrogate_5068e : MethodName := ⟨RJ11, "highSurrogate", "(I)C"⟩
abbrev cJ11_lowSurrogate_5068e : ByteArray := prog_17_method_29_code
def yJ11_lowSurrogate_5068e : MethodName := ⟨RJ11, "lowSurrogate", "(I)C"⟩
def RJxb160c : String := "java/lang/Comparable"
def TJxb160c : u_T := fun k => match k with
  | _ => ("", "", "", false)
def tyJxb160c : Nat → FieldType := fun k => match k with
  | _ => .int
abbrev wsJxb160c0 : List Cond := u_ws RJxb160c TJxb160c 0
theorem nmJxb160c : ∀ a, a < 0 → ∀ b, b < 0 → a ≠ b → (TJxb160c a).2.1 ≠ (TJxb160c b).2.1 := by decide +kernel
theorem tyJxb160c_ok : ∀ k, k < 0 → parseFieldDescriptor (TJxb160c k).2.2.1 = some (tyJxb160c k) := by decide +kernel
def RJ6 : String := "java/lang/Integer"
def TJ6 : u_T := fun k => match k with
  | _ => ("", "", "", false)
def tyJ6 : Nat → FieldType := fun k => match k with
  | _ => .int
abbrev wsJ60 : List Cond := u_ws RJ6 TJ6 0
theorem nmJ6 : ∀ a, a < 0 → ∀ b, b < 0 → a ≠ b → (TJ6 a).2.1 ≠ (TJ6 b).2.1 := by decide +kernel
theorem tyJ6_ok : ∀ k, k < 0 → parseFieldDescriptor (TJ6 k).2.2.1 = some (tyJ6 k) := by decide +kernel
abbrev cJ6_bitCount_0f7a4 : ByteArray := prog_21_method_49_code
def yJ6_bitCount_0f7a4 : MethodName := ⟨RJ6, "bitCount", "(I)I"⟩
def RJ9 : String := "java/lang/Math"
def TJ9 : u_T := fun k => match k with
  | _ => ("", "", "", false)
def tyJ9 : Nat → FieldType := fun k => match k with
  | _ => .int
abbrev wsJ90 : List Cond := u_ws RJ9 TJ9 0
theorem nmJ9 : ∀ a, a < 0 → ∀ b, b < 0 → a ≠ b → (TJ9 a).2.1 ≠ (TJ9 b).2.1 := by decide +kernel
theorem tyJ9_ok : ∀ k, k < 0 → parseFieldDescriptor (TJ9 k).2.2.1 = some (tyJ9 k) := by decide +kernel
abbrev cJ9_max_7cf53 : ByteArray := prog_22_method_65_code
def yJ9_max_7cf53 : MethodName := ⟨RJ9, "max", "(II)I"⟩
abbrev cJ9_min_7cf53 : ByteArray := prog_22_method_69_code
def yJ9_min_7cf53 : MethodName := ⟨RJ9, "min", "(II)I"⟩
def RJ0 : String := "java/lang/String"
def TJ0 : u_T := fun k => match k with
  | _ => ("", "", "", false)
def tyJ0 : Nat → FieldType := fun k => match k with
  | _ => .int
abbrev wsJ00 : List Cond := u_ws RJ0 TJ0 0
theorem nmJ0 : ∀ a, a < 0 → ∀ b, b < 0 → a ≠ b → (TJ0 a).2.1 ≠ (TJ0 b).2.1 := by decide +kernel
theorem tyJ0_ok : ∀ k, k < 0 → parseFieldDescriptor (TJ0 k).2.2.1 = some (tyJ0 k) := by decide +kernel
abbrev cJ0_length_8abf5 : ByteArray := prog_24_method_54_code
def yJ0_length_8abf5 : MethodName := ⟨RJ0, "length", "()I"⟩
abbrev cJ0_charAt_5068e : ByteArray := prog_24_method_56_code
def yJ0_charAt_5068e : MethodName := ⟨RJ0, "charAt", "(I)C"⟩
abbrev cJ0_indexOf_0f7a4 : ByteArray := prog_24_method_79_code
def yJ0_indexOf_0f7a4 : MethodName := ⟨RJ0, "indexOf", "(I)I"⟩
abbrev cJ0_indexOf_7cf53 : ByteArray := prog_24_method_80_code
def yJ0_indexOf_7cf53 : MethodName := ⟨RJ0, "indexOf", "(II)I"⟩
abbrev cJ0_coder_7d493 : ByteArray := prog_24_method_152_code
def yJ0_coder_7d493 : MethodName := ⟨RJ0, "coder", "()B"⟩
abbrev cJ0_isLatin1_aae02 : ByteArray := prog_24_method_154_code
def yJ0_isLatin1_aae02 : MethodName := ⟨RJ0, "isLatin1", "()Z"⟩
abbrev cJ0_checkIndex_df160 : ByteArray := prog_24_method_155_code
def yJ0_checkIndex_df160 : MethodName := ⟨RJ0, "checkIndex", "(II)V"⟩
abbrev cJ0_checkBoundsBeginEnd_23922 : ByteArray := prog_24_method_158_code
def yJ0_checkBoundsBeginEnd_23922 : MethodName := ⟨RJ0, "checkBoundsBeginEnd", "(III)V"⟩
def RJ1 : String := "java/lang/StringLatin1"
def TJ1 : u_T := fun k => match k with
  | _ => ("", "", "", false)
def tyJ1 : Nat → FieldType := fun k => match k with
  | _ => .int
abbrev wsJ10 : List Cond := u_ws RJ1 TJ1 0
theorem nmJ1 : ∀ a, a < 0 → ∀ b, b < 0 → a ≠ b → (TJ1 a).2.1 ≠ (TJ1 b).2.1 := by decide +kernel
theorem tyJ1_ok : ∀ k, k < 0 → parseFieldDescriptor (TJ1 k).2.2.1 = some (tyJ1 k) := by decide +kernel
abbrev cJ1_charAt_3b067 : ByteArray := prog_25_method_2_code
def yJ1_charAt_3b067 : MethodName := ⟨RJ1, "charAt", "([BI)C"⟩
abbrev cJ1_canEncode_9a6ad : ByteArray := prog_25_method_4_code
def yJ1_canEncode_9a6ad : MethodName := ⟨RJ1, "canEncode", "(I)Z"⟩
abbrev cJ1_indexOf_4cfef : ByteArray := prog_25_method_22_code
def yJ1_indexOf_4cfef : MethodName := ⟨RJ1, "indexOf", "([BIII)I"⟩
abbrev cJ1_indexOfChar_4cfef : ByteArray := prog_25_method_23_code
def yJ1_indexOfChar_4cfef : MethodName := ⟨RJ1, "indexOfChar", "([BIII)I"⟩
def RJ2 : String := "java/lang/StringUTF16"
def TJ2 : u_T := fun k => match k with
  | _ => ("", "", "", false)
def tyJ2 : Nat → FieldType := fun k => match k with
  | _ => .int
abbrev wsJ20 : List Cond := u_ws RJ2 TJ2 0
theorem nmJ2 : ∀ a, a < 0 → ∀ b, b < 0 → a ≠ b → (TJ2 a).2.1 ≠ (TJ2 b).2.1 := by decide +kernel
theorem tyJ2_ok : ∀ k, k < 0 → parseFieldDescriptor (TJ2 k).2.2.1 = some (tyJ2 k) := by decide +kernel
abbrev cJ2_getChar_3b067 : ByteArray := prog_26_method_5_code
def yJ2_getChar_3b067 : MethodName := ⟨RJ2, "getChar", "([BI)C"⟩
abbrev cJ2_length_9d52b : ByteArray := prog_26_method_6_code
def yJ2_length_9d52b : MethodName := ⟨RJ2, "length", "([B)I"⟩
abbrev cJ2_indexOf_4cfef : ByteArray := prog_26_method_40_code
def yJ2_indexOf_4cfef : MethodName := ⟨RJ2, "indexOf", "([BIII)I"⟩
abbrev cJ2_indexOfChar_4cfef : ByteArray := prog_26_method_47_code
def yJ2_indexOfChar_4cfef : MethodName := ⟨RJ2, "indexOfChar", "([BIII)I"⟩
abbrev cJ2_indexOfCharUnsafe_4cfef : ByteArray := prog_26_method_48_code
def yJ2_indexOfCharUnsafe_4cfef : MethodName := ⟨RJ2, "indexOfCharUnsafe", "([BIII)I"⟩
abbrev cJ2_indexOfSupplementary_4cfef : ByteArray := prog_26_method_49_code
def yJ2_indexOfSupplementary_4cfef : MethodName := ⟨RJ2, "indexOfSupplementary", "([BIII)I"⟩
abbrev cJ2_charAt_3b067 : ByteArray := prog_26_method_83_code
def yJ2_charAt_3b067 : MethodName := ⟨RJ2, "charAt", "([BI)C"⟩
abbrev cJ2_checkIndex_2214a : ByteArray := prog_26_method_91_code
def yJ2_checkIndex_2214a : MethodName := ⟨RJ2, "checkIndex", "(I[B)V"⟩
abbrev cJ2_checkBoundsBeginEnd_d044e : ByteArray := prog_26_method_93_code
def yJ2_checkBoundsBeginEnd_d044e : MethodName := ⟨RJ2, "checkBoundsBeginEnd", "(II[B)V"⟩
def RJ10 : String := "java/lang/System"
def TJ10 : u_T := fun k => match k with
  | _ => ("", "", "", false)
def tyJ10 : Nat → FieldType := fun k => match k with
  | _ => .int
abbrev wsJ100 : List Cond := u_ws RJ10 TJ10 0
theorem nmJ10 : ∀ a, a < 0 → ∀ b, b < 0 → a ≠ b → (TJ10 a).2.1 ≠ (TJ10 b).2.1 := by decide +kernel
theorem tyJ10_ok : ∀ k, k < 0 → parseFieldDescriptor (TJ10 k).2.2.1 = some (tyJ10 k) := by decide +kernel
def RJxfd54e : String := "java/lang/constant/Constable"
def TJxfd54e : u_T := fun k => match k with
  | _ => ("", "", "", false)
def tyJxfd54e : Nat → FieldType := fun k => match k with
  | _ => .int
abbrev wsJxfd54e0 : List Cond := u_ws RJxfd54e TJxfd54e 0
theorem nmJxfd54e : ∀ a, a < 0 → ∀ b, b < 0 → a ≠ b → (TJxfd54e a).2.1 ≠ (TJxfd54e b).2.1 := by decide +kernel
theorem tyJxfd54e_ok : ∀ k, k < 0 → parseFieldDescriptor (TJxfd54e k).2.2.1 = some (tyJxfd54e k) := by decide +kernel
def RJx3cf43 : String := "java/lang/constant/ConstantDesc"
def TJx3cf43 : u_T := fun k => match k with
  | _ => ("", "", "", false)
def tyJx3cf43 : Nat → FieldType := fun k => match k with
  | _ => .int
abbrev wsJx3cf430 : List Cond := u_ws RJx3cf43 TJx3cf43 0
theorem nmJx3cf43 : ∀ a, a < 0 → ∀ b, b < 0 → a ≠ b → (TJx3cf43 a).2.1 ≠ (TJx3cf43 b).2.1 := by decide +kernel
theorem tyJx3cf43_ok : ∀ k, k < 0 → parseFieldDescriptor (TJx3cf43 k).2.2.1 = some (tyJx3cf43 k) := by decide +kernel
def RJ3 : String := "jdk/internal/util/Preconditions"
def TJ3 : u_T := fun k => match k with
  | _ => ("", "", "", false)
def tyJ3 : Nat → FieldType := fun k => match k with
  | _ => .int
abbrev wsJ30 : List Cond := u_ws RJ3 TJ3 0
theorem nmJ3 : ∀ a, a < 0 → ∀ b, b < 0 → a ≠ b → (TJ3 a).2.1 ≠ (TJ3 b).2.1 := by decide +kernel
theorem tyJ3_ok : ∀ k, k < 0 → parseFieldDescriptor (TJ3 k).2.2.1 = some (tyJ3 k) := by decide +kernel
abbrev cJ3_checkIndex_8e157 : ByteArray := prog_32_method_11_code
def yJ3_checkIndex_8e157 : MethodName := ⟨RJ3, "checkIndex", "(IILjava/util/function/BiFunction;)I"⟩
abbrev cJ3_checkFromToIndex_8c36e : ByteArray := prog_32_method_12_code
def yJ3_checkFromToIndex_8c36e : MethodName := ⟨RJ3, "checkFromToIndex", "(IIILjava/util/function/BiFunction;)I"⟩
def RL : String := "GrottoHoursLaw"
abbrev cL_port : ByteArray := method_3_code
def yL_port : MethodName := ⟨RL, "port", "(LGrottoHours;I[J)I"⟩
abbrev cL_count : ByteArray := method_4_code
def yL_count : MethodName := ⟨RL, "count", "(LGrottoHours;I[J)I"⟩
abbrev cL_grotto : ByteArray := method_5_code
def yL_grotto : MethodName := ⟨RL, "grotto", "(LGrottoHours;II[J)I"⟩
abbrev cL_guild : ByteArray := method_6_code
def yL_guild : MethodName := ⟨RL, "guild", "(LGrottoHours;II[J)I"⟩
abbrev cL_hire : ByteArray := method_7_code
def yL_hire : MethodName := ⟨RL, "hire", "(LGrottoHours;II[J)I"⟩
abbrev cL_dismiss : ByteArray := method_8_code
def yL_dismiss : MethodName := ⟨RL, "dismiss", "(LGrottoHours;I[J)I"⟩
abbrev cL_confess : ByteArray := method_9_code
def yL_confess : MethodName := ⟨RL, "confess", "(LGrottoHours;I[J)I"⟩
abbrev cL_drain : ByteArray := method_10_code
def yL_drain : MethodName := ⟨RL, "drain", "(LGrottoHours;IZ[J)I"⟩
abbrev cL_give : ByteArray := method_11_code
def yL_give : MethodName := ⟨RL, "give", "(LGrottoHours;II[J)I"⟩
abbrev cL_then : ByteArray := method_12_code
def yL_then : MethodName := ⟨RL, "then", "(LGrottoHours;III[J)I"⟩
abbrev cL_dripping : ByteArray := method_13_code
def yL_dripping : MethodName := ⟨RL, "dripping", "(LGrottoHours;I[J)I"⟩
abbrev cL_first : ByteArray := method_14_code
def yL_first : MethodName := ⟨RL, "first", "(LGrottoHours;I[J)I"⟩
abbrev cL_dismissed : ByteArray := method_15_code
def yL_dismissed : MethodName := ⟨RL, "dismissed", "(LGrottoHours;I[J)I"⟩
abbrev cL_most : ByteArray := method_16_code
def yL_most : MethodName := ⟨RL, "most", "(LGrottoHours;II[J)I"⟩
abbrev cL_hush : ByteArray := method_17_code
def yL_hush : MethodName := ⟨RL, "hush", "(LGrottoHours;I[J)I"⟩
abbrev cL_chorus : ByteArray := method_18_code
def yL_chorus : MethodName := ⟨RL, "chorus", "(LGrottoHours;I[J)I"⟩
abbrev cL_together : ByteArray := method_19_code
def yL_together : MethodName := ⟨RL, "together", "(LGrottoHours;I[J)I"⟩
abbrev cL_rhythm : ByteArray := method_20_code
def yL_rhythm : MethodName := ⟨RL, "rhythm", "(LGrottoHours;I[J)I"⟩
abbrev cL_often : ByteArray := method_21_code
def yL_often : MethodName := ⟨RL, "often", "(LGrottoHours;II[J)I"⟩
abbrev cL_toHire : ByteArray := method_22_code
def yL_toHire : MethodName := ⟨RL, "toHire", "(LGrottoHours;III[J)I"⟩
abbrev cL_shared : ByteArray := method_23_code
def yL_shared : MethodName := ⟨RL, "shared", "(LGrottoHours;I[J)I"⟩
abbrev cL_has : ByteArray := method_24_code
def yL_has : MethodName := ⟨RL, "has", "(LGrottoHours;I[J)I"⟩
abbrev cL_toGive : ByteArray := method_25_code
def yL_toGive : MethodName := ⟨RL, "toGive", "(LGrottoHours;II[J)I"⟩
abbrev cL_confessing : ByteArray := method_26_code
def yL_confessing : MethodName := ⟨RL, "confessing", "(LGrottoHours;II[J)I"⟩
abbrev cL_see : ByteArray := method_27_code
def yL_see : MethodName := ⟨RL, "see", "(LGrottoHours;III[J)I"⟩
abbrev cL_greedy : ByteArray := method_28_code
def yL_greedy : MethodName := ⟨RL, "greedy", "(LGrottoHours;I[J)I"⟩
abbrev cL_look : ByteArray := method_29_code
def yL_look : MethodName := ⟨RL, "look", "(LGrottoHours;I[J)I"⟩
abbrev cL_drought : ByteArray := method_30_code
def yL_drought : MethodName := ⟨RL, "drought", "(LGrottoHours;III[J)I"⟩
abbrev cL_game : ByteArray := method_31_code
def yL_game : MethodName := ⟨RL, "game", "(LGrottoHours;III[J)I"⟩
abbrev cL_years : ByteArray := method_32_code
def yL_years : MethodName := ⟨RL, "years", "(LGrottoHours;III[J)I"⟩
abbrev cL_law : ByteArray := code
def yL_law : MethodName := ⟨RL, "law", "([I)Z"⟩
abbrev vwCl : List vw_C := [(RX0, TX0, 2), (RX1, TX1, 4), (RX2, TX2, 6), (RX3, TX3, 4), (RX4, TX4, 4), (RX5, TX5, 4), (RX6, TX6, 4), (RX7, TX7, 6), (RX8, TX8, 7), (RX9, TX9, 15), (RX10, TX10, 8), (RX11, TX11, 10), (RX12, TX12, 66)]
end

/-! part 035.dq -/
section
/-! decode rows by stretches of a method (printed by wip/whole/fastdec.py) -/
def dq_b (c : ByteArray) (j : Nat) : Option Nat := (c.data.toList[j]?).map UInt8.toNat
theorem dq_u1 {c : ByteArray} {p n : Nat} (h : dq_b c p = some n) : (Reader.u1 : Decoder Nat) c p = .ok (n, p + 1) := by
  obtain ⟨x, hx, hn⟩ := Option.map_eq_some_iff.mp h
  obtain ⟨hlt, he⟩ := List.getElem?_eq_some_iff.mp hx
  have hp : p < c.size := by simpa using hlt
  have e : (Reader.u1 : Decoder Nat) c p = (if h : p < c.size then .ok (c[p].toNat, p + 1) else .error (HasTruncated.truncated p)) := by
    show (do if h : p < c.size then do set (p + 1); pure c[p].toNat else throw (HasTruncated.truncated p) : Decoder Nat) c p = _
    rw [dif_pos hp, dif_pos hp]; rfl
  rw [e, dif_pos hp]
  have h2 : c[p] = x := he
  rw [h2, hn]
theorem dq_bind {α β : Type} {r : Decoder α} {f : α → Decoder β} {c : ByteArray} {p s : Nat} {a : α} (h : r c p = .ok (a, s)) : (r >>= f) c p = f a c s := by
  show (do let (a, s) ← r c p; f a c s : Except DecodeError (β × Nat)) = _
  rw [h]
  first | rfl | done
theorem dq_map {α β : Type} {r : Decoder α} {f : α → β} {c : ByteArray} {p s : Nat} {a : α} (h : r c p = .ok (a, s)) : (f <$> r) c p = .ok (f a, s) := by
  show (do let (a, s) ← r c p; .ok (f a, s) : Except DecodeError (β × Nat)) = _
  rw [h]
  first | rfl | done
theorem dq_u2 {c : ByteArray} {p x y : Nat} (h1 : dq_b c p = some x) (h2 : dq_b c (p + 1) = some y) : (Reader.u2 : Decoder Nat) c p = .ok (x * 256 + y, p + 1 + 1) := by
  delta Reader.u2
  refine (dq_bind (dq_u1 h1)).trans ?_
  exact (dq_bind (dq_u1 h2)).trans rfl
theorem dq_s1 {c : ByteArray} {p x : Nat} (h1 : dq_b c p = some x) : (Reader.s1 : Decoder Int) c p = .ok (Reader.signed 8 x, p + 1) := by
  delta Reader.s1
  exact dq_map (dq_u1 h1)
theorem dq_s2 {c : ByteArray} {p x y : Nat} (h1 : dq_b c p = some x) (h2 : dq_b c (p + 1) = some y) : (Reader.s2 : Decoder Int) c p = .ok (Reader.signed 16 (x * 256 + y), p + 1 + 1) := by
  delta Reader.s2
  exact dq_map (dq_u2 h1 h2)
theorem dq_dec {c : ByteArray} {p n : Nat} {i : Instr} (h : Decoder.instr p c p = .ok (i, p + n)) : decode c p = .ok (i, n) := by
  show (do let (i, q) ← Decoder.instr p c p; pure (i, q - p) : Except DecodeError (Instr × Nat)) = _
  rw [h]
  show Except.ok (i, p + n - p) = _
  rw [Nat.add_sub_cancel_left]
/-- an opcode, its instruction's length, the instruction out of the two bytes behind -/
abbrev dq_R : Type := Nat × Nat × (Nat → Nat → Instr)
def dq_ok (r : dq_R) : Prop := ∀ (c : ByteArray) (p x y : Nat), dq_b c p = some r.1 → (2 ≤ r.2.1 → dq_b c (p + 1) = some x) → (3 ≤ r.2.1 → dq_b c (p + 2) = some y) → decode c p = .ok (r.2.2 x y, r.2.1)
set_option maxRecDepth 16384 in
theorem dq_o42 : ∀ (c : ByteArray) (p x y : Nat), dq_b c p = some 42 → (2 ≤ 1 → dq_b c (p + 1) = some x) → (3 ≤ 1 → dq_b c (p + 2) = some y) → decode c p = .ok (.aload_n 0, 1) := by
  intro c p x y h0 h1 h2
  refine dq_dec ?_
  delta Decoder.instr
  refine (dq_bind (dq_u1 h0)).trans ?_
  exact rfl
set_option maxRecDepth 16384 in
theorem dq_o43 : ∀ (c : ByteArray) (p x y : Nat), dq_b c p = some 43 → (2 ≤ 1 → dq_b c (p + 1) = some x) → (3 ≤ 1 → dq_b c (p + 2) = some y) → decode c p = .ok (.aload_n 1, 1) := by
  intro c p x y h0 h1 h2
  refine dq_dec ?_
  delta Decoder.instr
  refine (dq_bind (dq_u1 h0)).trans ?_
  exact rfl
set_option maxRecDepth 16384 in
theorem dq_o44 : ∀ (c : ByteArray) (p x y : Nat), dq_b c p = some 44 → (2 ≤ 1 → dq_b c (p + 1) = some x) → (3 ≤ 1 → dq_b c (p + 2) = some y) → decode c p = .ok (.aload_n 2, 1) := by
  intro c p x y h0 h1 h2
  refine dq_dec ?_
  delta Decoder.instr
  refine (dq_bind (dq_u1 h0)).trans ?_
  exact rfl
set_option maxRecDepth 16384 in
theorem dq_o45 : ∀ (c : ByteArray) (p x y : Nat), dq_b c p = some 45 → (2 ≤ 1 → dq_b c (p + 1) = some x) → (3 ≤ 1 → dq_b c (p + 2) = some y) → decode c p = .ok (.aload_n 3, 1) := by
  intro c p x y h0 h1 h2
  refine dq_dec ?_
  delta Decoder.instr
  refine (dq_bind (dq_u1 h0)).trans ?_
  exact rfl
set_option maxRecDepth 16384 in
theorem dq_o26 : ∀ (c : ByteArray) (p x y : Nat), dq_b c p = some 26 → (2 ≤ 1 → dq_b c (p + 1) = some x) → (3 ≤ 1 → dq_b c (p + 2) = some y) → decode c p = .ok (.iload_n 0, 1) := by
  intro c p x y h0 h1 h2
  refine dq_dec ?_
  delta Decoder.instr
  refine (dq_bind (dq_u1 h0)).trans ?_
  exact rfl
set_option maxRecDepth 16384 in
theorem dq_o27 : ∀ (c : ByteArray) (p x y : Nat), dq_b c p = some 27 → (2 ≤ 1 → dq_b c (p + 1) = some x) → (3 ≤ 1 → dq_b c (p + 2) = some y) → decode c p = .ok (.iload_n 1, 1) := by
  intro c p x y h0 h1 h2
  refine dq_dec ?_
  delta Decoder.instr
  refine (dq_bind (dq_u1 h0)).trans ?_
  exact rfl
set_option maxRecDepth 16384 in
theorem dq_o28 : ∀ (c : ByteArray) (p x y : Nat), dq_b c p = some 28 → (2 ≤ 1 → dq_b c (p + 1) = some x) → (3 ≤ 1 → dq_b c (p + 2) = some y) → decode c p = .ok (.iload_n 2, 1) := by
  intro c p x y h0 h1 h2
  refine dq_dec ?_
  delta Decoder.instr
  refine (dq_bind (dq_u1 h0)).trans ?_
  exact rfl
set_option maxRecDepth 16384 in
theorem dq_o29 : ∀ (c : ByteArray) (p x y : Nat), dq_b c p = some 29 → (2 ≤ 1 → dq_b c (p + 1) = some x) → (3 ≤ 1 → dq_b c (p + 2) = some y) → decode c p = .ok (.iload_n 3, 1) := by
  intro c p x y h0 h1 h2
  refine dq_dec ?_
  delta Decoder.instr
  refine (dq_bind (dq_u1 h0)).trans ?_
  exact rfl
set_option maxRecDepth 16384 in
theorem dq_o2 : ∀ (c : ByteArray) (p x y : Nat), dq_b c p = some 2 → (2 ≤ 1 → dq_b c (p + 1) = some x) → (3 ≤ 1 → dq_b c (p + 2) = some y) → decode c p = .ok (.iconst (-1), 1) := by
  intro c p x y h0 h1 h2
  refine dq_dec ?_
  delta Decoder.instr
  refine (dq_bind (dq_u1 h0)).trans ?_
  exact rfl
set_option maxRecDepth 16384 in
theorem dq_o3 : ∀ (c : ByteArray) (p x y : Nat), dq_b c p = some 3 → (2 ≤ 1 → dq_b c (p + 1) = some x) → (3 ≤ 1 → dq_b c (p + 2) = some y) → decode c p = .ok (.iconst (0), 1) := by
  intro c p x y h0 h1 h2
  refine dq_dec ?_
  delta Decoder.instr
  refine (dq_bind (dq_u1 h0)).trans ?_
  exact rfl
set_option maxRecDepth 16384 in
theorem dq_o4 : ∀ (c : ByteArray) (p x y : Nat), dq_b c p = some 4 → (2 ≤ 1 → dq_b c (p + 1) = some x) → (3 ≤ 1 → dq_b c (p + 2) = some y) → decode c p = .ok (.iconst (1), 1) := by
  intro c p x y h0 h1 h2
  refine dq_dec ?_
  delta Decoder.instr
  refine (dq_bind (dq_u1 h0)).trans ?_
  exact rfl
set_option maxRecDepth 16384 in
theorem dq_o5 : ∀ (c : ByteArray) (p x y : Nat), dq_b c p = some 5 → (2 ≤ 1 → dq_b c (p + 1) = some x) → (3 ≤ 1 → dq_b c (p + 2) = some y) → decode c p = .ok (.iconst (2), 1) := by
  intro c p x y h0 h1 h2
  refine dq_dec ?_
  delta Decoder.instr
  refine (dq_bind (dq_u1 h0)).trans ?_
  exact rfl
set_option maxRecDepth 16384 in
theorem dq_o6 : ∀ (c : ByteArray) (p x y : Nat), dq_b c p = some 6 → (2 ≤ 1 → dq_b c (p + 1) = some x) → (3 ≤ 1 → dq_b c (p + 2) = some y) → decode c p = .ok (.iconst (3), 1) := by
  intro c p x y h0 h1 h2
  refine dq_dec ?_
  delta Decoder.instr
  refine (dq_bind (dq_u1 h0)).trans ?_
  exact rfl
set_option maxRecDepth 16384 in
theorem dq_o7 : ∀ (c : ByteArray) (p x y : Nat), dq_b c p = some 7 → (2 ≤ 1 → dq_b c (p + 1) = some x) → (3 ≤ 1 → dq_b c (p + 2) = some y) → decode c p = .ok (.iconst (4), 1) := by
  intro c p x y h0 h1 h2
  refine dq_dec ?_
  delta Decoder.instr
  refine (dq_bind (dq_u1 h0)).trans ?_
  exact rfl
set_option maxRecDepth 16384 in
theorem dq_o8 : ∀ (c : ByteArray) (p x y : Nat), dq_b c p = some 8 → (2 ≤ 1 → dq_b c (p + 1) = some x) → (3 ≤ 1 → dq_b c (p + 2) = some y) → decode c p = .ok (.iconst (5), 1) := by
  intro c p x y h0 h1 h2
  refine dq_dec ?_
  delta Decoder.instr
  refine (dq_bind (dq_u1 h0)).trans ?_
  exact rfl
set_option maxRecDepth 16384 in
theorem dq_o180 : ∀ (c : ByteArray) (p x y : Nat), dq_b c p = some 180 → (2 ≤ 3 → dq_b c (p + 1) = some x) → (3 ≤ 3 → dq_b c (p + 2) = some y) → decode c p = .ok (.getfield (x * 256 + y), 3) := by
  intro c p x y h0 h1 h2
  refine dq_dec ?_
  delta Decoder.instr
  refine (dq_bind (dq_u1 h0)).trans ?_
  exact (dq_bind (dq_u2 (h1 (by decide)) (h2 (by decide)))).trans rfl
set_option maxRecDepth 16384 in
theorem dq_o182 : ∀ (c : ByteArray) (p x y : Nat), dq_b c p = some 182 → (2 ≤ 3 → dq_b c (p + 1) = some x) → (3 ≤ 3 → dq_b c (p + 2) = some y) → decode c p = .ok (.invokevirtual (x * 256 + y), 3) := by
  intro c p x y h0 h1 h2
  refine dq_dec ?_
  delta Decoder.instr
  refine (dq_bind (dq_u1 h0)).trans ?_
  exact (dq_bind (dq_u2 (h1 (by decide)) (h2 (by decide)))).trans rfl
set_option maxRecDepth 16384 in
theorem dq_o172 : ∀ (c : ByteArray) (p x y : Nat), dq_b c p = some 172 → (2 ≤ 1 → dq_b c (p + 1) = some x) → (3 ≤ 1 → dq_b c (p + 2) = some y) → decode c p = .ok (.ireturn, 1) := by
  intro c p x y h0 h1 h2
  refine dq_dec ?_
  delta Decoder.instr
  refine (dq_bind (dq_u1 h0)).trans ?_
  exact rfl
set_option maxRecDepth 16384 in
theorem dq_o21 : ∀ (c : ByteArray) (p x y : Nat), dq_b c p = some 21 → (2 ≤ 2 → dq_b c (p + 1) = some x) → (3 ≤ 2 → dq_b c (p + 2) = some y) → decode c p = .ok (.iload x, 2) := by
  intro c p x y h0 h1 h2
  refine dq_dec ?_
  delta Decoder.instr
  refine (dq_bind (dq_u1 h0)).trans ?_
  exact (dq_bind (dq_u1 (h1 (by decide)))).trans rfl
set_option maxRecDepth 16384 in
theorem dq_o46 : ∀ (c : ByteArray) (p x y : Nat), dq_b c p = some 46 → (2 ≤ 1 → dq_b c (p + 1) = some x) → (3 ≤ 1 → dq_b c (p + 2) = some y) → decode c p = .ok (.iaload, 1) := by
  intro c p x y h0 h1 h2
  refine dq_dec ?_
  delta Decoder.instr
  refine (dq_bind (dq_u1 h0)).trans ?_
  exact rfl
set_option maxRecDepth 16384 in
theorem dq_o167 : ∀ (c : ByteArray) (p x y : Nat), dq_b c p = some 167 → (2 ≤ 3 → dq_b c (p + 1) = some x) → (3 ≤ 3 → dq_b c (p + 2) = some y) → decode c p = .ok (.goto (Reader.signed 16 (x * 256 + y)), 3) := by
  intro c p x y h0 h1 h2
  refine dq_dec ?_
  delta Decoder.instr
  refine (dq_bind (dq_u1 h0)).trans ?_
  exact (dq_bind (dq_s2 (h1 (by decide)) (h2 (by decide)))).trans rfl
set_option maxRecDepth 16384 in
theorem dq_o181 : ∀ (c : ByteArray) (p x y : Nat), dq_b c p = some 181 → (2 ≤ 3 → dq_b c (p + 1) = some x) → (3 ≤ 3 → dq_b c (p + 2) = some y) → decode c p = .ok (.putfield (x * 256 + y), 3) := by
  intro c p x y h0 h1 h2
  refine dq_dec ?_
  delta Decoder.instr
  refine (dq_bind (dq_u1 h0)).trans ?_
  exact (dq_bind (dq_u2 (h1 (by decide)) (h2 (by decide)))).trans rfl
set_option maxRecDepth 16384 in
theorem dq_o96 : ∀ (c : ByteArray) (p x y : Nat), dq_b c p = some 96 → (2 ≤ 1 → dq_b c (p + 1) = some x) → (3 ≤ 1 → dq_b c (p + 2) = some y) → decode c p = .ok (.iadd, 1) := by
  intro c p x y h0 h1 h2
  refine dq_dec ?_
  delta Decoder.instr
  refine (dq_bind (dq_u1 h0)).trans ?_
  exact rfl
set_option maxRecDepth 16384 in
theorem dq_o153 : ∀ (c : ByteArray) (p x y : Nat), dq_b c p = some 153 → (2 ≤ 3 → dq_b c (p + 1) = some x) → (3 ≤ 3 → dq_b c (p + 2) = some y) → decode c p = .ok (.ifCond .eq (Reader.signed 16 (x * 256 + y)), 3) := by
  intro c p x y h0 h1 h2
  refine dq_dec ?_
  delta Decoder.instr
  refine (dq_bind (dq_u1 h0)).trans ?_
  exact (dq_bind (dq_s2 (h1 (by decide)) (h2 (by decide)))).trans rfl
set_option maxRecDepth 16384 in
theorem dq_o154 : ∀ (c : ByteArray) (p x y : Nat), dq_b c p = some 154 → (2 ≤ 3 → dq_b c (p + 1) = some x) → (3 ≤ 3 → dq_b c (p + 2) = some y) → decode c p = .ok (.ifCond .ne (Reader.signed 16 (x * 256 + y)), 3) := by
  intro c p x y h0 h1 h2
  refine dq_dec ?_
  delta Decoder.instr
  refine (dq_bind (dq_u1 h0)).trans ?_
  exact (dq_bind (dq_s2 (h1 (by decide)) (h2 (by decide)))).trans rfl
set_option maxRecDepth 16384 in
theorem dq_o155 : ∀ (c : ByteArray) (p x y : Nat), dq_b c p = some 155 → (2 ≤ 3 → dq_b c (p + 1) = some x) → (3 ≤ 3 → dq_b c (p + 2) = some y) → decode c p = .ok (.ifCond .lt (Reader.signed 16 (x * 256 + y)), 3) := by
  intro c p x y h0 h1 h2
  refine dq_dec ?_
  delta Decoder.instr
  refine (dq_bind (dq_u1 h0)).trans ?_
  exact (dq_bind (dq_s2 (h1 (by decide)) (h2 (by decide)))).trans rfl
set_option maxRecDepth 16384 in
theorem dq_o156 : ∀ (c : ByteArray) (p x y : Nat), dq_b c p = some 156 → (2 ≤ 3 → dq_b c (p + 1) = some x) → (3 ≤ 3 → dq_b c (p + 2) = some y) → decode c p = .ok (.ifCond .ge (Reader.signed 16 (x * 256 + y)), 3) := by
  intro c p x y h0 h1 h2
  refine dq_dec ?_
  delta Decoder.instr
  refine (dq_bind (dq_u1 h0)).trans ?_
  exact (dq_bind (dq_s2 (h1 (by decide)) (h2 (by decide)))).trans rfl
set_option maxRecDepth 16384 in
theorem dq_o157 : ∀ (c : ByteArray) (p x y : Nat), dq_b c p = some 157 → (2 ≤ 3 → dq_b c (p + 1) = some x) → (3 ≤ 3 → dq_b c (p + 2) = some y) → decode c p = .ok (.ifCond .gt (Reader.signed 16 (x * 256 + y)), 3) := by
  intro c p x y h0 h1 h2
  refine dq_dec ?_
  delta Decoder.instr
  refine (dq_bind (dq_u1 h0)).trans ?_
  exact (dq_bind (dq_s2 (h1 (by decide)) (h2 (by decide)))).trans rfl
set_option maxRecDepth 16384 in
theorem dq_o158 : ∀ (c : ByteArray) (p x y : Nat), dq_b c p = some 158 → (2 ≤ 3 → dq_b c (p + 1) = some x) → (3 ≤ 3 → dq_b c (p + 2) = some y) → decode c p = .ok (.ifCond .le (Reader.signed 16 (x * 256 + y)), 3) := by
  intro c p x y h0 h1 h2
  refine dq_dec ?_
  delta Decoder.instr
  refine (dq_bind (dq_u1 h0)).trans ?_
  exact (dq_bind (dq_s2 (h1 (by decide)) (h2 (by decide)))).trans rfl
set_option maxRecDepth 16384 in
theorem dq_o159 : ∀ (c : ByteArray) (p x y : Nat), dq_b c p = some 159 → (2 ≤ 3 → dq_b c (p + 1) = some x) → (3 ≤ 3 → dq_b c (p + 2) = some y) → decode c p = .ok (.if_icmp .eq (Reader.signed 16 (x * 256 + y)), 3) := by
  intro c p x y h0 h1 h2
  refine dq_dec ?_
  delta Decoder.instr
  refine (dq_bind (dq_u1 h0)).trans ?_
  exact (dq_bind (dq_s2 (h1 (by decide)) (h2 (by decide)))).trans rfl
set_option maxRecDepth 16384 in
theorem dq_o160 : ∀ (c : ByteArray) (p x y : Nat), dq_b c p = some 160 → (2 ≤ 3 → dq_b c (p + 1) = some x) → (3 ≤ 3 → dq_b c (p + 2) = some y) → decode c p = .ok (.if_icmp .ne (Reader.signed 16 (x * 256 + y)), 3) := by
  intro c p x y h0 h1 h2
  refine dq_dec ?_
  delta Decoder.instr
  refine (dq_bind (dq_u1 h0)).trans ?_
  exact (dq_bind (dq_s2 (h1 (by decide)) (h2 (by decide)))).trans rfl
set_option maxRecDepth 16384 in
theorem dq_o161 : ∀ (c : ByteArray) (p x y : Nat), dq_b c p = some 161 → (2 ≤ 3 → dq_b c (p + 1) = some x) → (3 ≤ 3 → dq_b c (p + 2) = some y) → decode c p = .ok (.if_icmp .lt (Reader.signed 16 (x * 256 + y)), 3) := by
  intro c p x y h0 h1 h2
  refine dq_dec ?_
  delta Decoder.instr
  refine (dq_bind (dq_u1 h0)).trans ?_
  exact (dq_bind (dq_s2 (h1 (by decide)) (h2 (by decide)))).trans rfl
set_option maxRecDepth 16384 in
theorem dq_o162 : ∀ (c : ByteArray) (p x y : Nat), dq_b c p = some 162 → (2 ≤ 3 → dq_b c (p + 1) = some x) → (3 ≤ 3 → dq_b c (p + 2) = some y) → decode c p = .ok (.if_icmp .ge (Reader.signed 16 (x * 256 + y)), 3) := by
  intro c p x y h0 h1 h2
  refine dq_dec ?_
  delta Decoder.instr
  refine (dq_bind (dq_u1 h0)).trans ?_
  exact (dq_bind (dq_s2 (h1 (by decide)) (h2 (by decide)))).trans rfl
set_option maxRecDepth 16384 in
theorem dq_o163 : ∀ (c : ByteArray) (p x y : Nat), dq_b c p = some 163 → (2 ≤ 3 → dq_b c (p + 1) = some x) → (3 ≤ 3 → dq_b c (p + 2) = some y) → decode c p = .ok (.if_icmp .gt (Reader.signed 16 (x * 256 + y)), 3) := by
  intro c p x y h0 h1 h2
  refine dq_dec ?_
  delta Decoder.instr
  refine (dq_bind (dq_u1 h0)).trans ?_
  exact (dq_bind (dq_s2 (h1 (by decide)) (h2 (by decide)))).trans rfl
set_option maxRecDepth 16384 in
theorem dq_o164 : ∀ (c : ByteArray) (p x y : Nat), dq_b c p = some 164 → (2 ≤ 3 → dq_b c (p + 1) = some x) → (3 ≤ 3 → dq_b c (p + 2) = some y) → decode c p = .ok (.if_icmp .le (Reader.signed 16 (x * 256 + y)), 3) := by
  intro c p x y h0 h1 h2
  refine dq_dec ?_
  delta Decoder.instr
  refine (dq_bind (dq_u1 h0)).trans ?_
  exact (dq_bind (dq_s2 (h1 (by decide)) (h2 (by decide)))).trans rfl
set_option maxRecDepth 16384 in
theorem dq_o16 : ∀ (c : ByteArray) (p x y : Nat), dq_b c p = some 16 → (2 ≤ 2 → dq_b c (p + 1) = some x) → (3 ≤ 2 → dq_b c (p + 2) = some y) → decode c p = .ok (.bipush (Reader.signed 8 x), 2) := by
  intro c p x y h0 h1 h2
  refine dq_dec ?_
  delta Decoder.instr
  refine (dq_bind (dq_u1 h0)).trans ?_
  exact (dq_bind (dq_s1 (h1 (by decide)))).trans rfl
set_option maxRecDepth 16384 in
theorem dq_o184 : ∀ (c : ByteArray) (p x y : Nat), dq_b c p = some 184 → (2 ≤ 3 → dq_b c (p + 1) = some x) → (3 ≤ 3 → dq_b c (p + 2) = some y) → decode c p = .ok (.invokestatic (x * 256 + y), 3) := by
  intro c p x y h0 h1 h2
  refine dq_dec ?_
  delta Decoder.instr
  refine (dq_bind (dq_u1 h0)).trans ?_
  exact (dq_bind (dq_u2 (h1 (by decide)) (h2 (by decide)))).trans rfl
set_option maxRecDepth 16384 in
theorem dq_o54 : ∀ (c : ByteArray) (p x y : Nat), dq_b c p = some 54 → (2 ≤ 2 → dq_b c (p + 1) = some x) → (3 ≤ 2 → dq_b c (p + 2) = some y) → decode c p = .ok (.istore x, 2) := by
  intro c p x y h0 h1 h2
  refine dq_dec ?_
  delta Decoder.instr
  refine (dq_bind (dq_u1 h0)).trans ?_
  exact (dq_bind (dq_u1 (h1 (by decide)))).trans rfl
set_option maxRecDepth 16384 in
theorem dq_o59 : ∀ (c : ByteArray) (p x y : Nat), dq_b c p = some 59 → (2 ≤ 1 → dq_b c (p + 1) = some x) → (3 ≤ 1 → dq_b c (p + 2) = some y) → decode c p = .ok (.istore_n 0, 1) := by
  intro c p x y h0 h1 h2
  refine dq_dec ?_
  delta Decoder.instr
  refine (dq_bind (dq_u1 h0)).trans ?_
  exact rfl
set_option maxRecDepth 16384 in
theorem dq_o60 : ∀ (c : ByteArray) (p x y : Nat), dq_b c p = some 60 → (2 ≤ 1 → dq_b c (p + 1) = some x) → (3 ≤ 1 → dq_b c (p + 2) = some y) → decode c p = .ok (.istore_n 1, 1) := by
  intro c p x y h0 h1 h2
  refine dq_dec ?_
  delta Decoder.instr
  refine (dq_bind (dq_u1 h0)).trans ?_
  exact rfl
set_option maxRecDepth 16384 in
theorem dq_o61 : ∀ (c : ByteArray) (p x y : Nat), dq_b c p = some 61 → (2 ≤ 1 → dq_b c (p + 1) = some x) → (3 ≤ 1 → dq_b c (p + 2) = some y) → decode c p = .ok (.istore_n 2, 1) := by
  intro c p x y h0 h1 h2
  refine dq_dec ?_
  delta Decoder.instr
  refine (dq_bind (dq_u1 h0)).trans ?_
  exact rfl
set_option maxRecDepth 16384 in
theorem dq_o62 : ∀ (c : ByteArray) (p x y : Nat), dq_b c p = some 62 → (2 ≤ 1 → dq_b c (p + 1) = some x) → (3 ≤ 1 → dq_b c (p + 2) = some y) → decode c p = .ok (.istore_n 3, 1) := by
  intro c p x y h0 h1 h2
  refine dq_dec ?_
  delta Decoder.instr
  refine (dq_bind (dq_u1 h0)).trans ?_
  exact rfl
set_option maxRecDepth 16384 in
theorem dq_o132 : ∀ (c : ByteArray) (p x y : Nat), dq_b c p = some 132 → (2 ≤ 3 → dq_b c (p + 1) = some x) → (3 ≤ 3 → dq_b c (p + 2) = some y) → decode c p = .ok (.iinc x (Reader.signed 8 y), 3) := by
  intro c p x y h0 h1 h2
  refine dq_dec ?_
  delta Decoder.instr
  refine (dq_bind (dq_u1 h0)).trans ?_
  refine (dq_bind (dq_u1 (h1 (by decide)))).trans ?_
  exact (dq_bind (dq_s1 (h2 (by decide)))).trans rfl
set_option maxRecDepth 16384 in
theorem dq_o79 : ∀ (c : ByteArray) (p x y : Nat), dq_b c p = some 79 → (2 ≤ 1 → dq_b c (p + 1) = some x) → (3 ≤ 1 → dq_b c (p + 2) = some y) → decode c p = .ok (.iastore, 1) := by
  intro c p x y h0 h1 h2
  refine dq_dec ?_
  delta Decoder.instr
  refine (dq_bind (dq_u1 h0)).trans ?_
  exact rfl
set_option maxRecDepth 16384 in
theorem dq_o177 : ∀ (c : ByteArray) (p x y : Nat), dq_b c p = some 177 → (2 ≤ 1 → dq_b c (p + 1) = some x) → (3 ≤ 1 → dq_b c (p + 2) = some y) → decode c p = .ok (.return_, 1) := by
  intro c p x y h0 h1 h2
  refine dq_dec ?_
  delta Decoder.instr
  refine (dq_bind (dq_u1 h0)).trans ?_
  exact rfl
set_option maxRecDepth 16384 in
theorem dq_o89 : ∀ (c : ByteArray) (p x y : Nat), dq_b c p = some 89 → (2 ≤ 1 → dq_b c (p + 1) = some x) → (3 ≤ 1 → dq_b c (p + 2) = some y) → decode c p = .ok (.dup, 1) := by
  intro c p x y h0 h1 h2
  refine dq_dec ?_
  delta Decoder.instr
  refine (dq_bind (dq_u1 h0)).trans ?_
  exact rfl
set_option maxRecDepth 16384 in
theorem dq_o133 : ∀ (c : ByteArray) (p x y : Nat), dq_b c p = some 133 → (2 ≤ 1 → dq_b c (p + 1) = some x) → (3 ≤ 1 → dq_b c (p + 2) = some y) → decode c p = .ok (.i2l, 1) := by
  intro c p x y h0 h1 h2
  refine dq_dec ?_
  delta Decoder.instr
  refine (dq_bind (dq_u1 h0)).trans ?_
  exact rfl
set_option maxRecDepth 16384 in
theorem dq_o17 : ∀ (c : ByteArray) (p x y : Nat), dq_b c p = some 17 → (2 ≤ 3 → dq_b c (p + 1) = some x) → (3 ≤ 3 → dq_b c (p + 2) = some y) → decode c p = .ok (.sipush (Reader.signed 16 (x * 256 + y)), 3) := by
  intro c p x y h0 h1 h2
  refine dq_dec ?_
  delta Decoder.instr
  refine (dq_bind (dq_u1 h0)).trans ?_
  exact (dq_bind (dq_s2 (h1 (by decide)) (h2 (by decide)))).trans rfl
set_option maxRecDepth 16384 in
theorem dq_o80 : ∀ (c : ByteArray) (p x y : Nat), dq_b c p = some 80 → (2 ≤ 1 → dq_b c (p + 1) = some x) → (3 ≤ 1 → dq_b c (p + 2) = some y) → decode c p = .ok (.lastore, 1) := by
  intro c p x y h0 h1 h2
  refine dq_dec ?_
  delta Decoder.instr
  refine (dq_bind (dq_u1 h0)).trans ?_
  exact rfl
set_option maxRecDepth 16384 in
theorem dq_o100 : ∀ (c : ByteArray) (p x y : Nat), dq_b c p = some 100 → (2 ≤ 1 → dq_b c (p + 1) = some x) → (3 ≤ 1 → dq_b c (p + 2) = some y) → decode c p = .ok (.isub, 1) := by
  intro c p x y h0 h1 h2
  refine dq_dec ?_
  delta Decoder.instr
  refine (dq_bind (dq_u1 h0)).trans ?_
  exact rfl
set_option maxRecDepth 16384 in
theorem dq_o58 : ∀ (c : ByteArray) (p x y : Nat), dq_b c p = some 58 → (2 ≤ 2 → dq_b c (p + 1) = some x) → (3 ≤ 2 → dq_b c (p + 2) = some y) → decode c p = .ok (.astore x, 2) := by
  intro c p x y h0 h1 h2
  refine dq_dec ?_
  delta Decoder.instr
  refine (dq_bind (dq_u1 h0)).trans ?_
  exact (dq_bind (dq_u1 (h1 (by decide)))).trans rfl
set_option maxRecDepth 16384 in
theorem dq_o18 : ∀ (c : ByteArray) (p x y : Nat), dq_b c p = some 18 → (2 ≤ 2 → dq_b c (p + 1) = some x) → (3 ≤ 2 → dq_b c (p + 2) = some y) → decode c p = .ok (.ldc x, 2) := by
  intro c p x y h0 h1 h2
  refine dq_dec ?_
  delta Decoder.instr
  refine (dq_bind (dq_u1 h0)).trans ?_
  exact (dq_bind (dq_u1 (h1 (by decide)))).trans rfl
set_option maxRecDepth 16384 in
theorem dq_o183 : ∀ (c : ByteArray) (p x y : Nat), dq_b c p = some 183 → (2 ≤ 3 → dq_b c (p + 1) = some x) → (3 ≤ 3 → dq_b c (p + 2) = some y) → decode c p = .ok (.invokespecial (x * 256 + y), 3) := by
  intro c p x y h0 h1 h2
  refine dq_dec ?_
  delta Decoder.instr
  refine (dq_bind (dq_u1 h0)).trans ?_
  exact (dq_bind (dq_u2 (h1 (by decide)) (h2 (by decide)))).trans rfl
set_option maxRecDepth 16384 in
theorem dq_o104 : ∀ (c : ByteArray) (p x y : Nat), dq_b c p = some 104 → (2 ≤ 1 → dq_b c (p + 1) = some x) → (3 ≤ 1 → dq_b c (p + 2) = some y) → decode c p = .ok (.imul, 1) := by
  intro c p x y h0 h1 h2
  refine dq_dec ?_
  delta Decoder.instr
  refine (dq_bind (dq_u1 h0)).trans ?_
  exact rfl
set_option maxRecDepth 16384 in
theorem dq_o75 : ∀ (c : ByteArray) (p x y : Nat), dq_b c p = some 75 → (2 ≤ 1 → dq_b c (p + 1) = some x) → (3 ≤ 1 → dq_b c (p + 2) = some y) → decode c p = .ok (.astore_n 0, 1) := by
  intro c p x y h0 h1 h2
  refine dq_dec ?_
  delta Decoder.instr
  refine (dq_bind (dq_u1 h0)).trans ?_
  exact rfl
set_option maxRecDepth 16384 in
theorem dq_o76 : ∀ (c : ByteArray) (p x y : Nat), dq_b c p = some 76 → (2 ≤ 1 → dq_b c (p + 1) = some x) → (3 ≤ 1 → dq_b c (p + 2) = some y) → decode c p = .ok (.astore_n 1, 1) := by
  intro c p x y h0 h1 h2
  refine dq_dec ?_
  delta Decoder.instr
  refine (dq_bind (dq_u1 h0)).trans ?_
  exact rfl
set_option maxRecDepth 16384 in
theorem dq_o77 : ∀ (c : ByteArray) (p x y : Nat), dq_b c p = some 77 → (2 ≤ 1 → dq_b c (p + 1) = some x) → (3 ≤ 1 → dq_b c (p + 2) = some y) → decode c p = .ok (.astore_n 2, 1) := by
  intro c p x y h0 h1 h2
  refine dq_dec ?_
  delta Decoder.instr
  refine (dq_bind (dq_u1 h0)).trans ?_
  exact rfl
set_option maxRecDepth 16384 in
theorem dq_o78 : ∀ (c : ByteArray) (p x y : Nat), dq_b c p = some 78 → (2 ≤ 1 → dq_b c (p + 1) = some x) → (3 ≤ 1 → dq_b c (p + 2) = some y) → decode c p = .ok (.astore_n 3, 1) := by
  intro c p x y h0 h1 h2
  refine dq_dec ?_
  delta Decoder.instr
  refine (dq_bind (dq_u1 h0)).trans ?_
  exact rfl
set_option maxRecDepth 16384 in
theorem dq_o187 : ∀ (c : ByteArray) (p x y : Nat), dq_b c p = some 187 → (2 ≤ 3 → dq_b c (p + 1) = some x) → (3 ≤ 3 → dq_b c (p + 2) = some y) → decode c p = .ok (.new (x * 256 + y), 3) := by
  intro c p x y h0 h1 h2
  refine dq_dec ?_
  delta Decoder.instr
  refine (dq_bind (dq_u1 h0)).trans ?_
  exact (dq_bind (dq_u2 (h1 (by decide)) (h2 (by decide)))).trans rfl
set_option maxRecDepth 16384 in
theorem dq_o9 : ∀ (c : ByteArray) (p x y : Nat), dq_b c p = some 9 → (2 ≤ 1 → dq_b c (p + 1) = some x) → (3 ≤ 1 → dq_b c (p + 2) = some y) → decode c p = .ok (.lconst 0, 1) := by
  intro c p x y h0 h1 h2
  refine dq_dec ?_
  delta Decoder.instr
  refine (dq_bind (dq_u1 h0)).trans ?_
  exact rfl
set_option maxRecDepth 16384 in
theorem dq_o10 : ∀ (c : ByteArray) (p x y : Nat), dq_b c p = some 10 → (2 ≤ 1 → dq_b c (p + 1) = some x) → (3 ≤ 1 → dq_b c (p + 2) = some y) → decode c p = .ok (.lconst 1, 1) := by
  intro c p x y h0 h1 h2
  refine dq_dec ?_
  delta Decoder.instr
  refine (dq_bind (dq_u1 h0)).trans ?_
  exact rfl
set_option maxRecDepth 16384 in
theorem dq_o87 : ∀ (c : ByteArray) (p x y : Nat), dq_b c p = some 87 → (2 ≤ 1 → dq_b c (p + 1) = some x) → (3 ≤ 1 → dq_b c (p + 2) = some y) → decode c p = .ok (.pop, 1) := by
  intro c p x y h0 h1 h2
  refine dq_dec ?_
  delta Decoder.instr
  refine (dq_bind (dq_u1 h0)).trans ?_
  exact rfl
set_option maxRecDepth 16384 in
theorem dq_o120 : ∀ (c : ByteArray) (p x y : Nat), dq_b c p = some 120 → (2 ≤ 1 → dq_b c (p + 1) = some x) → (3 ≤ 1 → dq_b c (p + 2) = some y) → decode c p = .ok (.ishl, 1) := by
  intro c p x y h0 h1 h2
  refine dq_dec ?_
  delta Decoder.instr
  refine (dq_bind (dq_u1 h0)).trans ?_
  exact rfl
set_option maxRecDepth 16384 in
theorem dq_o190 : ∀ (c : ByteArray) (p x y : Nat), dq_b c p = some 190 → (2 ≤ 1 → dq_b c (p + 1) = some x) → (3 ≤ 1 → dq_b c (p + 2) = some y) → decode c p = .ok (.arraylength, 1) := by
  intro c p x y h0 h1 h2
  refine dq_dec ?_
  delta Decoder.instr
  refine (dq_bind (dq_u1 h0)).trans ?_
  exact rfl
set_option maxRecDepth 16384 in
theorem dq_o126 : ∀ (c : ByteArray) (p x y : Nat), dq_b c p = some 126 → (2 ≤ 1 → dq_b c (p + 1) = some x) → (3 ≤ 1 → dq_b c (p + 2) = some y) → decode c p = .ok (.iand, 1) := by
  intro c p x y h0 h1 h2
  refine dq_dec ?_
  delta Decoder.instr
  refine (dq_bind (dq_u1 h0)).trans ?_
  exact rfl
set_option maxRecDepth 16384 in
theorem dq_o25 : ∀ (c : ByteArray) (p x y : Nat), dq_b c p = some 25 → (2 ≤ 2 → dq_b c (p + 1) = some x) → (3 ≤ 2 → dq_b c (p + 2) = some y) → decode c p = .ok (.aload x, 2) := by
  intro c p x y h0 h1 h2
  refine dq_dec ?_
  delta Decoder.instr
  refine (dq_bind (dq_u1 h0)).trans ?_
  exact (dq_bind (dq_u1 (h1 (by decide)))).trans rfl
set_option maxRecDepth 16384 in
theorem dq_o19 : ∀ (c : ByteArray) (p x y : Nat), dq_b c p = some 19 → (2 ≤ 3 → dq_b c (p + 1) = some x) → (3 ≤ 3 → dq_b c (p + 2) = some y) → decode c p = .ok (.ldc_w (x * 256 + y), 3) := by
  intro c p x y h0 h1 h2
  refine dq_dec ?_
  delta Decoder.instr
  refine (dq_bind (dq_u1 h0)).trans ?_
  exact (dq_bind (dq_u2 (h1 (by decide)) (h2 (by decide)))).trans rfl
set_option maxRecDepth 16384 in
theorem dq_o20 : ∀ (c : ByteArray) (p x y : Nat), dq_b c p = some 20 → (2 ≤ 3 → dq_b c (p + 1) = some x) → (3 ≤ 3 → dq_b c (p + 2) = some y) → decode c p = .ok (.ldc2_w (x * 256 + y), 3) := by
  intro c p x y h0 h1 h2
  refine dq_dec ?_
  delta Decoder.instr
  refine (dq_bind (dq_u1 h0)).trans ?_
  exact (dq_bind (dq_u2 (h1 (by decide)) (h2 (by decide)))).trans rfl
set_option maxRecDepth 16384 in
theorem dq_o108 : ∀ (c : ByteArray) (p x y : Nat), dq_b c p = some 108 → (2 ≤ 1 → dq_b c (p + 1) = some x) → (3 ≤ 1 → dq_b c (p + 2) = some y) → decode c p = .ok (.idiv, 1) := by
  intro c p x y h0 h1 h2
  refine dq_dec ?_
  delta Decoder.instr
  refine (dq_bind (dq_u1 h0)).trans ?_
  exact rfl
set_option maxRecDepth 16384 in
theorem dq_o112 : ∀ (c : ByteArray) (p x y : Nat), dq_b c p = some 112 → (2 ≤ 1 → dq_b c (p + 1) = some x) → (3 ≤ 1 → dq_b c (p + 2) = some y) → decode c p = .ok (.irem, 1) := by
  intro c p x y h0 h1 h2
  refine dq_dec ?_
  delta Decoder.instr
  refine (dq_bind (dq_u1 h0)).trans ?_
  exact rfl
set_option maxRecDepth 16384 in
theorem dq_o92 : ∀ (c : ByteArray) (p x y : Nat), dq_b c p = some 92 → (2 ≤ 1 → dq_b c (p + 1) = some x) → (3 ≤ 1 → dq_b c (p + 2) = some y) → decode c p = .ok (.dup2, 1) := by
  intro c p x y h0 h1 h2
  refine dq_dec ?_
  delta Decoder.instr
  refine (dq_bind (dq_u1 h0)).trans ?_
  exact rfl
set_option maxRecDepth 16384 in
theorem dq_o83 : ∀ (c : ByteArray) (p x y : Nat), dq_b c p = some 83 → (2 ≤ 1 → dq_b c (p + 1) = some x) → (3 ≤ 1 → dq_b c (p + 2) = some y) → decode c p = .ok (.aastore, 1) := by
  intro c p x y h0 h1 h2
  refine dq_dec ?_
  delta Decoder.instr
  refine (dq_bind (dq_u1 h0)).trans ?_
  exact rfl
set_option maxRecDepth 16384 in
theorem dq_o128 : ∀ (c : ByteArray) (p x y : Nat), dq_b c p = some 128 → (2 ≤ 1 → dq_b c (p + 1) = some x) → (3 ≤ 1 → dq_b c (p + 2) = some y) → decode c p = .ok (.ior, 1) := by
  intro c p x y h0 h1 h2
  refine dq_dec ?_
  delta Decoder.instr
  refine (dq_bind (dq_u1 h0)).trans ?_
  exact rfl
set_option maxRecDepth 16384 in
theorem dq_o191 : ∀ (c : ByteArray) (p x y : Nat), dq_b c p = some 191 → (2 ≤ 1 → dq_b c (p + 1) = some x) → (3 ≤ 1 → dq_b c (p + 2) = some y) → decode c p = .ok (.athrow, 1) := by
  intro c p x y h0 h1 h2
  refine dq_dec ?_
  delta Decoder.instr
  refine (dq_bind (dq_u1 h0)).trans ?_
  exact rfl
set_option maxRecDepth 16384 in
theorem dq_o122 : ∀ (c : ByteArray) (p x y : Nat), dq_b c p = some 122 → (2 ≤ 1 → dq_b c (p + 1) = some x) → (3 ≤ 1 → dq_b c (p + 2) = some y) → decode c p = .ok (.ishr, 1) := by
  intro c p x y h0 h1 h2
  refine dq_dec ?_
  delta Decoder.instr
  refine (dq_bind (dq_u1 h0)).trans ?_
  exact rfl
set_option maxRecDepth 16384 in
theorem dq_o124 : ∀ (c : ByteArray) (p x y : Nat), dq_b c p = some 124 → (2 ≤ 1 → dq_b c (p + 1) = some x) → (3 ≤ 1 → dq_b c (p + 2) = some y) → decode c p = .ok (.iushr, 1) := by
  intro c p x y h0 h1 h2
  refine dq_dec ?_
  delta Decoder.instr
  refine (dq_bind (dq_u1 h0)).trans ?_
  exact rfl
set_option maxRecDepth 16384 in
theorem dq_o178 : ∀ (c : ByteArray) (p x y : Nat), dq_b c p = some 178 → (2 ≤ 3 → dq_b c (p + 1) = some x) → (3 ≤ 3 → dq_b c (p + 2) = some y) → decode c p = .ok (.getstatic (x * 256 + y), 3) := by
  intro c p x y h0 h1 h2
  refine dq_dec ?_
  delta Decoder.instr
  refine (dq_bind (dq_u1 h0)).trans ?_
  exact (dq_bind (dq_u2 (h1 (by decide)) (h2 (by decide)))).trans rfl
set_option maxRecDepth 16384 in
theorem dq_o51 : ∀ (c : ByteArray) (p x y : Nat), dq_b c p = some 51 → (2 ≤ 1 → dq_b c (p + 1) = some x) → (3 ≤ 1 → dq_b c (p + 2) = some y) → decode c p = .ok (.baload, 1) := by
  intro c p x y h0 h1 h2
  refine dq_dec ?_
  delta Decoder.instr
  refine (dq_bind (dq_u1 h0)).trans ?_
  exact rfl
set_option maxRecDepth 16384 in
theorem dq_o50 : ∀ (c : ByteArray) (p x y : Nat), dq_b c p = some 50 → (2 ≤ 1 → dq_b c (p + 1) = some x) → (3 ≤ 1 → dq_b c (p + 2) = some y) → decode c p = .ok (.aaload, 1) := by
  intro c p x y h0 h1 h2
  refine dq_dec ?_
  delta Decoder.instr
  refine (dq_bind (dq_u1 h0)).trans ?_
  exact rfl
set_option maxRecDepth 16384 in
theorem dq_o130 : ∀ (c : ByteArray) (p x y : Nat), dq_b c p = some 130 → (2 ≤ 1 → dq_b c (p + 1) = some x) → (3 ≤ 1 → dq_b c (p + 2) = some y) → decode c p = .ok (.ixor, 1) := by
  intro c p x y h0 h1 h2
  refine dq_dec ?_
  delta Decoder.instr
  refine (dq_bind (dq_u1 h0)).trans ?_
  exact rfl
set_option maxRecDepth 16384 in
theorem dq_o146 : ∀ (c : ByteArray) (p x y : Nat), dq_b c p = some 146 → (2 ≤ 1 → dq_b c (p + 1) = some x) → (3 ≤ 1 → dq_b c (p + 2) = some y) → decode c p = .ok (.i2c, 1) := by
  intro c p x y h0 h1 h2
  refine dq_dec ?_
  delta Decoder.instr
  refine (dq_bind (dq_u1 h0)).trans ?_
  exact rfl
set_option maxRecDepth 16384 in
theorem dq_o148 : ∀ (c : ByteArray) (p x y : Nat), dq_b c p = some 148 → (2 ≤ 1 → dq_b c (p + 1) = some x) → (3 ≤ 1 → dq_b c (p + 2) = some y) → decode c p = .ok (.lcmp, 1) := by
  intro c p x y h0 h1 h2
  refine dq_dec ?_
  delta Decoder.instr
  refine (dq_bind (dq_u1 h0)).trans ?_
  exact rfl
set_option maxRecDepth 16384 in
theorem dq_o30 : ∀ (c : ByteArray) (p x y : Nat), dq_b c p = some 30 → (2 ≤ 1 → dq_b c (p + 1) = some x) → (3 ≤ 1 → dq_b c (p + 2) = some y) → decode c p = .ok (.lload_n 0, 1) := by
  intro c p x y h0 h1 h2
  refine dq_dec ?_
  delta Decoder.instr
  refine (dq_bind (dq_u1 h0)).trans ?_
  exact rfl
set_option maxRecDepth 16384 in
theorem dq_o31 : ∀ (c : ByteArray) (p x y : Nat), dq_b c p = some 31 → (2 ≤ 1 → dq_b c (p + 1) = some x) → (3 ≤ 1 → dq_b c (p + 2) = some y) → decode c p = .ok (.lload_n 1, 1) := by
  intro c p x y h0 h1 h2
  refine dq_dec ?_
  delta Decoder.instr
  refine (dq_bind (dq_u1 h0)).trans ?_
  exact rfl
set_option maxRecDepth 16384 in
theorem dq_o32 : ∀ (c : ByteArray) (p x y : Nat), dq_b c p = some 32 → (2 ≤ 1 → dq_b c (p + 1) = some x) → (3 ≤ 1 → dq_b c (p + 2) = some y) → decode c p = .ok (.lload_n 2, 1) := by
  intro c p x y h0 h1 h2
  refine dq_dec ?_
  delta Decoder.instr
  refine (dq_bind (dq_u1 h0)).trans ?_
  exact rfl
set_option maxRecDepth 16384 in
theorem dq_o33 : ∀ (c : ByteArray) (p x y : Nat), dq_b c p = some 33 → (2 ≤ 1 → dq_b c (p + 1) = some x) → (3 ≤ 1 → dq_b c (p + 2) = some y) → decode c p = .ok (.lload_n 3, 1) := by
  intro c p x y h0 h1 h2
  refine dq_dec ?_
  delta Decoder.instr
  refine (dq_bind (dq_u1 h0)).trans ?_
  exact rfl
set_option maxRecDepth 16384 in
theorem dq_o189 : ∀ (c : ByteArray) (p x y : Nat), dq_b c p = some 189 → (2 ≤ 3 → dq_b c (p + 1) = some x) → (3 ≤ 3 → dq_b c (p + 2) = some y) → decode c p = .ok (.anewarray (x * 256 + y), 3) := by
  intro c p x y h0 h1 h2
  refine dq_dec ?_
  delta Decoder.instr
  refine (dq_bind (dq_u1 h0)).trans ?_
  exact (dq_bind (dq_u2 (h1 (by decide)) (h2 (by decide)))).trans rfl
set_option maxRecDepth 16384 in
theorem dq_o47 : ∀ (c : ByteArray) (p x y : Nat), dq_b c p = some 47 → (2 ≤ 1 → dq_b c (p + 1) = some x) → (3 ≤ 1 → dq_b c (p + 2) = some y) → decode c p = .ok (.laload, 1) := by
  intro c p x y h0 h1 h2
  refine dq_dec ?_
  delta Decoder.instr
  refine (dq_bind (dq_u1 h0)).trans ?_
  exact rfl
set_option maxRecDepth 16384 in
theorem dq_o145 : ∀ (c : ByteArray) (p x y : Nat), dq_b c p = some 145 → (2 ≤ 1 → dq_b c (p + 1) = some x) → (3 ≤ 1 → dq_b c (p + 2) = some y) → decode c p = .ok (.i2b, 1) := by
  intro c p x y h0 h1 h2
  refine dq_dec ?_
  delta Decoder.instr
  refine (dq_bind (dq_u1 h0)).trans ?_
  exact rfl
set_option maxRecDepth 16384 in
theorem dq_o84 : ∀ (c : ByteArray) (p x y : Nat), dq_b c p = some 84 → (2 ≤ 1 → dq_b c (p + 1) = some x) → (3 ≤ 1 → dq_b c (p + 2) = some y) → decode c p = .ok (.bastore, 1) := by
  intro c p x y h0 h1 h2
  refine dq_dec ?_
  delta Decoder.instr
  refine (dq_bind (dq_u1 h0)).trans ?_
  exact rfl
set_option maxRecDepth 16384 in
theorem dq_o22 : ∀ (c : ByteArray) (p x y : Nat), dq_b c p = some 22 → (2 ≤ 2 → dq_b c (p + 1) = some x) → (3 ≤ 2 → dq_b c (p + 2) = some y) → decode c p = .ok (.lload x, 2) := by
  intro c p x y h0 h1 h2
  refine dq_dec ?_
  delta Decoder.instr
  refine (dq_bind (dq_u1 h0)).trans ?_
  exact (dq_bind (dq_u1 (h1 (by decide)))).trans rfl
def dq_T : List dq_R := [(42, 1, fun x y => .aload_n 0), (43, 1, fun x y => .aload_n 1), (44, 1, fun x y => .aload_n 2), (45, 1, fun x y => .aload_n 3), (26, 1, fun x y => .iload_n 0), (27, 1, fun x y => .iload_n 1), (28, 1, fun x y => .iload_n 2), (29, 1, fun x y => .iload_n 3), (2, 1, fun x y => .iconst (-1)), (3, 1, fun x y => .iconst (0)), (4, 1, fun x y => .iconst (1)), (5, 1, fun x y => .iconst (2)), (6, 1, fun x y => .iconst (3)), (7, 1, fun x y => .iconst (4)), (8, 1, fun x y => .iconst (5)), (180, 3, fun x y => .getfield (x * 256 + y)), (182, 3, fun x y => .invokevirtual (x * 256 + y)), (172, 1, fun x y => .ireturn), (21, 2, fun x y => .iload x), (46, 1, fun x y => .iaload), (167, 3, fun x y => .goto (Reader.signed 16 (x * 256 + y))), (181, 3, fun x y => .putfield (x * 256 + y)), (96, 1, fun x y => .iadd), (153, 3, fun x y => .ifCond .eq (Reader.signed 16 (x * 256 + y))), (154, 3, fun x y => .ifCond .ne (Reader.signed 16 (x * 256 + y))), (155, 3, fun x y => .ifCond .lt (Reader.signed 16 (x * 256 + y))), (156, 3, fun x y => .ifCond .ge (Reader.signed 16 (x * 256 + y))), (157, 3, fun x y => .ifCond .gt (Reader.signed 16 (x * 256 + y))), (158, 3, fun x y => .ifCond .le (Reader.signed 16 (x * 256 + y))), (159, 3, fun x y => .if_icmp .eq (Reader.signed 16 (x * 256 + y))), (160, 3, fun x y => .if_icmp .ne (Reader.signed 16 (x * 256 + y))), (161, 3, fun x y => .if_icmp .lt (Reader.signed 16 (x * 256 + y))), (162, 3, fun x y => .if_icmp .ge (Reader.signed 16 (x * 256 + y))), (163, 3, fun x y => .if_icmp .gt (Reader.signed 16 (x * 256 + y))), (164, 3, fun x y => .if_icmp .le (Reader.signed 16 (x * 256 + y))), (16, 2, fun x y => .bipush (Reader.signed 8 x)), (184, 3, fun x y => .invokestatic (x * 256 + y)), (54, 2, fun x y => .istore x), (59, 1, fun x y => .istore_n 0), (60, 1, fun x y => .istore_n 1), (61, 1, fun x y => .istore_n 2), (62, 1, fun x y => .istore_n 3), (132, 3, fun x y => .iinc x (Reader.signed 8 y)), (79, 1, fun x y => .iastore), (177, 1, fun x y => .return_), (89, 1, fun x y => .dup), (133, 1, fun x y => .i2l), (17, 3, fun x y => .sipush (Reader.signed 16 (x * 256 + y))), (80, 1, fun x y => .lastore), (100, 1, fun x y => .isub), (58, 2, fun x y => .astore x), (18, 2, fun x y => .ldc x), (183, 3, fun x y => .invokespecial (x * 256 + y)), (104, 1, fun x y => .imul), (75, 1, fun x y => .astore_n 0), (76, 1, fun x y => .astore_n 1), (77, 1, fun x y => .astore_n 2), (78, 1, fun x y => .astore_n 3), (187, 3, fun x y => .new (x * 256 + y)), (9, 1, fun x y => .lconst 0), (10, 1, fun x y => .lconst 1), (87, 1, fun x y => .pop), (120, 1, fun x y => .ishl), (190, 1, fun x y => .arraylength), (126, 1, fun x y => .iand), (25, 2, fun x y => .aload x), (19, 3, fun x y => .ldc_w (x * 256 + y)), (20, 3, fun x y => .ldc2_w (x * 256 + y)), (108, 1, fun x y => .idiv), (112, 1, fun x y => .irem), (92, 1, fun x y => .dup2), (83, 1, fun x y => .aastore), (128, 1, fun x y => .ior), (191, 1, fun x y => .athrow), (122, 1, fun x y => .ishr), (124, 1, fun x y => .iushr), (178, 3, fun x y => .getstatic (x * 256 + y)), (51, 1, fun x y => .baload), (50, 1, fun x y => .aaload), (130, 1, fun x y => .ixor), (146, 1, fun x y => .i2c), (148, 1, fun x y => .lcmp), (30, 1, fun x y => .lload_n 0), (31, 1, fun x y => .lload_n 1), (32, 1, fun x y => .lload_n 2), (33, 1, fun x y => .lload_n 3), (189, 3, fun x y => .anewarray (x * 256 + y)), (47, 1, fun x y => .laload), (145, 1, fun x y => .i2b), (84, 1, fun x y => .bastore), (22, 2, fun x y => .lload x)]
theorem dq_Tok : ∀ r ∈ dq_T, dq_ok r := List.forall_mem_cons.mpr ⟨dq_o42, List.forall_mem_cons.mpr ⟨dq_o43, List.forall_mem_cons.mpr ⟨dq_o44, List.forall_mem_cons.mpr ⟨dq_o45, List.forall_mem_cons.mpr ⟨dq_o26, List.forall_mem_cons.mpr ⟨dq_o27, List.forall_mem_cons.mpr ⟨dq_o28, List.forall_mem_cons.mpr ⟨dq_o29, List.forall_mem_cons.mpr ⟨dq_o2, List.forall_mem_cons.mpr ⟨dq_o3, List.forall_mem_cons.mpr ⟨dq_o4, List.forall_mem_cons.mpr ⟨dq_o5, List.forall_mem_cons.mpr ⟨dq_o6, List.forall_mem_cons.mpr ⟨dq_o7, List.forall_mem_cons.mpr ⟨dq_o8, List.forall_mem_cons.mpr ⟨dq_o180, List.forall_mem_cons.mpr ⟨dq_o182, List.forall_mem_cons.mpr ⟨dq_o172, List.forall_mem_cons.mpr ⟨dq_o21, List.forall_mem_cons.mpr ⟨dq_o46, List.forall_mem_cons.mpr ⟨dq_o167, List.forall_mem_cons.mpr ⟨dq_o181, List.forall_mem_cons.mpr ⟨dq_o96, List.forall_mem_cons.mpr ⟨dq_o153, List.forall_mem_cons.mpr ⟨dq_o154, List.forall_mem_cons.mpr ⟨dq_o155, List.forall_mem_cons.mpr ⟨dq_o156, List.forall_mem_cons.mpr ⟨dq_o157, List.forall_mem_cons.mpr ⟨dq_o158, List.forall_mem_cons.mpr ⟨dq_o159, List.forall_mem_cons.mpr ⟨dq_o160, List.forall_mem_cons.mpr ⟨dq_o161, List.forall_mem_cons.mpr ⟨dq_o162, List.forall_mem_cons.mpr ⟨dq_o163, List.forall_mem_cons.mpr ⟨dq_o164, List.forall_mem_cons.mpr ⟨dq_o16, List.forall_mem_cons.mpr ⟨dq_o184, List.forall_mem_cons.mpr ⟨dq_o54, List.forall_mem_cons.mpr ⟨dq_o59, List.forall_mem_cons.mpr ⟨dq_o60, List.forall_mem_cons.mpr ⟨dq_o61, List.forall_mem_cons.mpr ⟨dq_o62, List.forall_mem_cons.mpr ⟨dq_o132, List.forall_mem_cons.mpr ⟨dq_o79, List.forall_mem_cons.mpr ⟨dq_o177, List.forall_mem_cons.mpr ⟨dq_o89, List.forall_mem_cons.mpr ⟨dq_o133, List.forall_mem_cons.mpr ⟨dq_o17, List.forall_mem_cons.mpr ⟨dq_o80, List.forall_mem_cons.mpr ⟨dq_o100, List.forall_mem_cons.mpr ⟨dq_o58, List.forall_mem_cons.mpr ⟨dq_o18, List.forall_mem_cons.mpr ⟨dq_o183, List.forall_mem_cons.mpr ⟨dq_o104, List.forall_mem_cons.mpr ⟨dq_o75, List.forall_mem_cons.mpr ⟨dq_o76, List.forall_mem_cons.mpr ⟨dq_o77, List.forall_mem_cons.mpr ⟨dq_o78, List.forall_mem_cons.mpr ⟨dq_o187, List.forall_mem_cons.mpr ⟨dq_o9, List.forall_mem_cons.mpr ⟨dq_o10, List.forall_mem_cons.mpr ⟨dq_o87, List.forall_mem_cons.mpr ⟨dq_o120, List.forall_mem_cons.mpr ⟨dq_o190, List.forall_mem_cons.mpr ⟨dq_o126, List.forall_mem_cons.mpr ⟨dq_o25, List.forall_mem_cons.mpr ⟨dq_o19, List.forall_mem_cons.mpr ⟨dq_o20, List.forall_mem_cons.mpr ⟨dq_o108, List.forall_mem_cons.mpr ⟨dq_o112, List.forall_mem_cons.mpr ⟨dq_o92, List.forall_mem_cons.mpr ⟨dq_o83, List.forall_mem_cons.mpr ⟨dq_o128, List.forall_mem_cons.mpr ⟨dq_o191, List.forall_mem_cons.mpr ⟨dq_o122, List.forall_mem_cons.mpr ⟨dq_o124, List.forall_mem_cons.mpr ⟨dq_o178, List.forall_mem_cons.mpr ⟨dq_o51, List.forall_mem_cons.mpr ⟨dq_o50, List.forall_mem_cons.mpr ⟨dq_o130, List.forall_mem_cons.mpr ⟨dq_o146, List.forall_mem_cons.mpr ⟨dq_o148, List.forall_mem_cons.mpr ⟨dq_o30, List.forall_mem_cons.mpr ⟨dq_o31, List.forall_mem_cons.mpr ⟨dq_o32, List.forall_mem_cons.mpr ⟨dq_o33, List.forall_mem_cons.mpr ⟨dq_o189, List.forall_mem_cons.mpr ⟨dq_o47, List.forall_mem_cons.mpr ⟨dq_o145, List.forall_mem_cons.mpr ⟨dq_o84, List.forall_mem_cons.mpr ⟨dq_o22, fun _ h => nomatch h⟩⟩⟩⟩⟩⟩⟩⟩⟩⟩⟩⟩⟩⟩⟩⟩⟩⟩⟩⟩⟩⟩⟩⟩⟩⟩⟩⟩⟩⟩⟩⟩⟩⟩⟩⟩⟩⟩⟩⟩⟩⟩⟩⟩⟩⟩⟩⟩⟩⟩⟩⟩⟩⟩⟩⟩⟩⟩⟩⟩⟩⟩⟩⟩⟩⟩⟩⟩⟩⟩⟩⟩⟩⟩⟩⟩⟩⟩⟩⟩⟩⟩⟩⟩⟩⟩⟩⟩⟩⟩⟩
def dq_find (b : Nat) : List dq_R → Option dq_R
  | [] => none
  | r :: t => bif Nat.beq r.1 b then some r else dq_find b t
theorem dq_find_ok {b : Nat} : ∀ {l : List dq_R} {r : dq_R}, dq_find b l = some r → r ∈ l ∧ r.1 = b
  | [], _, h => nomatch h
  | q :: t, r, h => by
    unfold dq_find at h
    cases hb : Nat.beq q.1 b with
    | true =>
      rw [hb] at h
      change some q = some r at h
      cases h
      exact ⟨List.mem_cons_self, Nat.eq_of_beq_eq_true hb⟩
    | false =>
      rw [hb] at h
      change dq_find b t = some r at h
      exact ⟨List.mem_cons_of_mem _ (dq_find_ok h).1, (dq_find_ok h).2⟩
def dq_at (l : List UInt8) (j : Nat) : Option Nat := (l[j]?).map UInt8.toNat
def dq_f3 (r : dq_R) (x : Nat) : Option Nat → Option (Instr × Nat)
  | none => none
  | some y => some (r.2.2 x y, r.2.1)
def dq_f2 (r : dq_R) (l : List UInt8) : Option Nat → Option (Instr × Nat)
  | none => none
  | some x => bif Nat.beq r.2.1 2 then some (r.2.2 x 0, r.2.1) else dq_f3 r x (dq_at l 2)
def dq_f1 (l : List UInt8) : Option dq_R → Option (Instr × Nat)
  | none => none
  | some r => bif Nat.beq r.2.1 1 then some (r.2.2 0 0, r.2.1) else dq_f2 r l (dq_at l 1)
def dq_f0 (l : List UInt8) : Option Nat → Option (Instr × Nat)
  | none => none
  | some b => dq_f1 l (dq_find b dq_T)
/-- the instruction that a list of bytes begins with -/
def dq_run (l : List UInt8) : Option (Instr × Nat) := dq_f0 l (dq_at l 0)
theorem dq_run_ok {c : ByteArray} {p : Nat} {l : List UInt8} {q : Instr × Nat} (hl : ∀ j, l[j]? = c.data.toList[p + j]?) (h : dq_run l = some q) : decode c p = .ok q := by
  have hb : ∀ j, dq_at l j = dq_b c (p + j) := fun j => by unfold dq_at dq_b; rw [hl]
  change dq_f0 l (dq_at l 0) = some q at h
  cases h0 : dq_at l 0 with
  | none => rw [h0] at h; exact nomatch (show (none : Option (Instr × Nat)) = some q from h)
  | some b =>
    rw [h0] at h
    change dq_f1 l (dq_find b dq_T) = some q at h
    cases hr : dq_find b dq_T with
    | none => rw [hr] at h; exact nomatch (show (none : Option (Instr × Nat)) = some q from h)
    | some r =>
      rw [hr] at h
      change (bif Nat.beq r.2.1 1 then some (r.2.2 0 0, r.2.1) else dq_f2 r l (dq_at l 1)) = some q at h
      obtain ⟨hm, he⟩ := dq_find_ok hr
      have hk := dq_Tok r hm c p
      have hz : dq_b c p = some r.1 := by rw [he, ← h0]; exact (hb 0).symm
      cases h1 : Nat.beq r.2.1 1 with
      | true =>
        rw [h1] at h
        change some (r.2.2 0 0, r.2.1) = some q at h
        have e := Nat.eq_of_beq_eq_true h1
        cases h
        exact hk 0 0 hz (fun k => absurd k (by rw [e]; decide)) (fun k => absurd k (by rw [e]; decide))
      | false =>
        rw [h1] at h
        change dq_f2 r l (dq_at l 1) = some q at h
        cases hx : dq_at l 1 with
        | none => rw [hx] at h; exact nomatch (show (none : Option (Instr × Nat)) = some q from h)
        | some x =>
          rw [hx] at h
          change (bif Nat.beq r.2.1 2 then some (r.2.2 x 0, r.2.1) else dq_f3 r x (dq_at l 2)) = some q at h
          have hx' : dq_b c (p + 1) = some x := (hb 1).symm.trans hx
          cases h2 : Nat.beq r.2.1 2 with
          | true =>
            rw [h2] at h
            change some (r.2.2 x 0, r.2.1) = some q at h
            have e := Nat.eq_of_beq_eq_true h2
            cases h
            exact hk x 0 hz (fun _ => hx') (fun k => absurd k (by rw [e]; decide))
          | false =>
            rw [h2] at h
            change dq_f3 r x (dq_at l 2) = some q at h
            cases hy : dq_at l 2 with
            | none => rw [hy] at h; exact nomatch (show (none : Option (Instr × Nat)) = some q from h)
            | some y =>
              rw [hy] at h
              change some (r.2.2 x y, r.2.1) = some q at h
              cases h
              exact hk x y hz (fun _ => hx') (fun _ => (hb 2).symm.trans hy)
def dq_a1 (a : Nat) (g : Nat → List (Nat × Instr × Nat)) : Option (Instr × Nat) → List (Nat × Instr × Nat)
  | none => []
  | some r => (a, r) :: g r.2
/-- k instructions from place a on -/
def dq_all : Nat → Nat → List UInt8 → List (Nat × Instr × Nat)
  | 0, _, _ => []
  | k + 1, a, l => dq_a1 a (fun n => dq_all k (a + n) (l.drop n)) (dq_run l)
def dq_F (c : ByteArray) : List (Nat × Instr × Nat) → Prop
  | [] => True
  | r :: t => decode c r.1 = .ok r.2 ∧ dq_F c t
theorem dq_sound {c : ByteArray} : ∀ (k a : Nat) (l : List UInt8), (∀ j, l[j]? = c.data.toList[a + j]?) → dq_F c (dq_all k a l)
  | 0, _, _, _ => True.intro
  | k + 1, a, l, hl => by
    show dq_F c (dq_a1 a (fun n => dq_all k (a + n) (l.drop n)) (dq_run l))
    cases hr : dq_run l with
    | none => exact True.intro
    | some r =>
      show decode c a = .ok r ∧ dq_F c (dq_all k (a + r.2) (l.drop r.2))
      exact ⟨dq_run_ok hl hr, dq_sound k _ _ (fun j => by rw [List.getElem?_drop, hl, Nat.add_assoc])⟩
theorem dq_s {c : ByteArray} {t : List (Nat × Instr × Nat)} (k a : Nat) (h : dq_all k a (c.data.toList.drop a) = t) : dq_F c t := by
  subst h
  exact dq_sound k a _ (fun j => by rw [List.getElem?_drop])
theorem dq_h {c : ByteArray} {p n : Nat} {i : Instr} {t : List (Nat × Instr × Nat)} (h : dq_F c ((p, i, n) :: t)) : decode c p = .ok (i, n) := h.1
theorem dq_t {c : ByteArray} {r : Nat × Instr × Nat} {t : List (Nat × Instr × Nat)} (h : dq_F c (r :: t)) : dq_F c t := h.2
end

/-! part 04.dX12.0 -/
section
theorem dzX12_init_0 : dq_F cX12_init [(0, .aload_n 0, 1), (1, .invokespecial 3, 3), (4, .aload_n 0, 1), (5, .iconst 2, 1), (6, .anewarray 9, 3), (9, .dup, 1), (10, .iconst 0, 1), (11, .ldc 11, 2), (13, .aastore, 1), (14, .dup, 1), (15, .iconst 1, 1), (16, .ldc 13, 2), (18, .aastore, 1), (19, .putfield 15, 3), (22, .aload_n 0, 1), (23, .bipush 6, 2), (25, .anewarray 9, 3), (28, .dup, 1), (29, .iconst 0, 1), (30, .ldc 19, 2), (32, .aastore, 1), (33, .dup, 1), (34, .iconst 1, 1), (35, .ldc 21, 2)] := dq_s 24 0 (by decide +kernel)
theorem dX12_init_0 : decode cX12_init 0 = .ok (.aload_n 0, 1) := dq_h dzX12_init_0
theorem dX12_init_1 : decode cX12_init 1 = .ok (.invokespecial 3, 3) := dq_h (dq_t dzX12_init_0)
theorem dX12_init_4 : decode cX12_init 4 = .ok (.aload_n 0, 1) := dq_h (dq_t (dq_t dzX12_init_0))
theorem dX12_init_5 : decode cX12_init 5 = .ok (.iconst 2, 1) := dq_h (dq_t (dq_t (dq_t dzX12_init_0)))
theorem dX12_init_6 : decode cX12_init 6 = .ok (.anewarray 9, 3) := dq_h (dq_t (dq_t (dq_t (dq_t dzX12_init_0))))
theorem dX12_init_9 : decode cX12_init 9 = .ok (.dup, 1) := dq_h (dq_t (dq_t (dq_t (dq_t (dq_t dzX12_init_0)))))
theorem dX12_init_10 : decode cX12_init 10 = .ok (.iconst 0, 1) := dq_h (dq_t (dq_t (dq_t (dq_t (dq_t (dq_t dzX12_init_0))))))
theorem dX12_init_11 : decode cX12_init 11 = .ok (.ldc 11, 2) := dq_h (dq_t (dq_t (dq_t (dq_t (dq_t (dq_t (dq_t dzX12_init_0)))))))
theorem dX12_init_13 : decode cX12_init 13 = .ok (.aastore, 1) := dq_h (dq_t (dq_t (dq_t (dq_t (dq_t (dq_t (dq_t (dq_t dzX12_init_0))))))))
theorem dX12_init_14 : decode cX12_init 14 = .ok (.dup, 1) := dq_h (dq_t (dq_t (dq_t (dq_t (dq_t (dq_t (dq_t (dq_t (dq_t dzX12_init_0)))))))))
theorem dX12_init_15 : decode cX12_init 15 = .ok (.iconst 1, 1) := dq_h (dq_t (dq_t (dq_t (dq_t (dq_t (dq_t (dq_t (dq_t (dq_t (dq_t dzX12_init_0))))))))))
theorem dX12_init_16 : decode cX12_init 16 = .ok (.ldc 13, 2) := dq_h (dq_t (dq_t (dq_t (dq_t (dq_t (dq_t (dq_t (dq_t (dq_t (dq_t (dq_t dzX12_init_0)))))))))))
theorem dX12_init_18 : decode cX12_init 18 = .ok (.aastore, 1) := dq_h (dq_t (dq_t (dq_t (dq_t (dq_t (dq_t (dq_t (dq_t (dq_t (dq_t (dq_t (dq_t dzX12_init_0))))))))))))
theorem dX12_init_19 : decode cX12_init 19 = .ok (.putfield 15, 3) := dq_h (dq_t (dq_t (dq_t (dq_t (dq_t (dq_t (dq_t (dq_t (dq_t (dq_t (dq_t (dq_t (dq_t dzX12_init_0)))))))))))))
theorem dX12_init_22 : decode cX12_init 22 = .ok (.aload_n 0, 1) := dq_h (dq_t (dq_t (dq_t (dq_t (dq_t (dq_t (dq_t (dq_t (dq_t (dq_t (dq_t (dq_t (dq_t (dq_t dzX12_init_0))))))))))))))
theorem dX12_init_23 : decode cX12_init 23 = .ok (.bipush 6, 2) := dq_h (dq_t (dq_t (dq_t (dq_t (dq_t (dq_t (dq_t (dq_t (dq_t (dq_t (dq_t (dq_t (dq_t (dq_t (dq_t dzX12_init_0)))))))))))))))
theorem dX12_init_25 : decode cX12_init 25 = .ok (.anewarray 9, 3) := dq_h (dq_t (dq_t (dq_t (dq_t (dq_t (dq_t (dq_t (dq_t (dq_t (dq_t (dq_t (dq_t (dq_t (dq_t (dq_t (dq_t dzX12_init_0))))))))))))))))
theorem dX12_init_28 : decode cX12_init 28 = .ok (.dup, 1) := dq_h (dq_t (dq_t (dq_t (dq_t (dq_t (dq_t (dq_t (dq_t (dq_t (dq_t (dq_t (dq_t (dq_t (dq_t (dq_t (dq_t (dq_t dzX12_init_0)))))))))))))))))
theorem dX12_init_29 : decode cX12_init 29 = .ok (.iconst 0, 1) := dq_h (dq_t (dq_t (dq_t (dq_t (dq_t (dq_t (dq_t (dq_t (dq_t (dq_t (dq_t (dq_t (dq_t (dq_t (dq_t (dq_t (dq_t (dq_t dzX12_init_0))))))))))))))))))
theorem dX12_init_30 : decode cX12_init 30 = .ok (.ldc 19, 2) := dq_h (dq_t (dq_t (dq_t (dq_t (dq_t (dq_t (dq_t (dq_t (dq_t (dq_t (dq_t (dq_t (dq_t (dq_t (dq_t (dq_t (dq_t (dq_t (dq_t dzX12_init_0)))))))))))))))))))
theorem dX12_init_32 : decode cX12_init 32 = .ok (.aastore, 1) := dq_h (dq_t (dq_t (dq_t (dq_t (dq_t (dq_t (dq_t (dq_t (dq_t (dq_t (dq_t (dq_t (dq_t (dq_t (dq_t (dq_t (dq_t (dq_t (dq_t (dq_t dzX12_init_0))))))))))))))))))))
theorem dX12_init_33 : decode cX12_init 33 = .ok (.dup, 1) := dq_h (dq_t (dq_t (dq_t (dq_t (dq_t (dq_t (dq_t (dq_t (dq_t (dq_t (dq_t (dq_t (dq_t (dq_t (dq_t (dq_t (dq_t (dq_t (dq_t (dq_t (dq_t dzX12_init_0)))))))))))))))))))))
theorem dX12_init_34 : decode cX12_init 34 = .ok (.iconst 1, 1) := dq_h (dq_t (dq_t (dq_t (dq_t (dq_t (dq_t (dq_t (dq_t (dq_t (dq_t (dq_t (dq_t (dq_t (dq_t (dq_t (dq_t (dq_t (dq_t (dq_t (dq_t (dq_t (dq_t dzX12_init_0))))))))))))))))))))))
theorem dX12_init_35 : decode cX12_init 35 = .ok (.ldc 21, 2) := dq_h (dq_t (dq_t (dq_t (dq_t (dq_t (dq_t (dq_t (dq_t (dq_t (dq_t (dq_t (dq_t (dq_t (dq_t (dq_t (dq_t (dq_t (dq_t (dq_t (dq_t (dq_t (dq_t (dq_t dzX12_init_0)))))))))))))))))))))))
theorem dzX12_init_37 : dq_F cX12_init [(37, .aastore, 1), (38, .dup, 1), (39, .iconst 2, 1), (40, .ldc 23, 2), (42, .aastore, 1), (43, .dup, 1), (44, .iconst 3, 1), (45, .ldc 25, 2), (47, .aastore, 1), (48, .dup, 1), (49, .iconst 4, 1), (50, .ldc 27, 2), (52, .aastore, 1), (53, .dup, 1), (54, .iconst 5, 1), (55, .ldc 29, 2), (57, .aastore, 1), (58, .putfield 31, 3), (61, .aload_n 0, 1), (62, .bipush 7, 2), (64, .anewarray 9, 3), (67, .dup, 1), (68, .iconst 0, 1), (69, .ldc 19, 2)] := dq_s 24 37 (by decide +kernel)
theorem dX12_init_37 : decode cX12_init 37 = .ok (.aastore, 1) := dq_h dzX12_init_37
theorem dX12_init_38 : decode cX12_init 38 = .ok (.dup, 1) := dq_h (dq_t dzX12_init_37)
theorem dX12_init_39 : decode cX12_init 39 = .ok (.iconst 2, 1) := dq_h (dq_t (dq_t dzX12_init_37))
theorem dX12_init_40 : decode cX12_init 40 = .ok (.ldc 23, 2) := dq_h (dq_t (dq_t (dq_t dzX12_init_37)))
theorem dX12_init_42 : decode cX12_init 42 = .ok (.aastore, 1) := dq_h (dq_t (dq_t (dq_t (dq_t dzX12_init_37))))
theorem dX12_init_43 : decode cX12_init 43 = .ok (.dup, 1) := dq_h (dq_t (dq_t (dq_t (dq_t (dq_t dzX12_init_37)))))
theorem dX12_init_44 : decode cX12_init 44 = .ok (.iconst 3, 1) := dq_h (dq_t (dq_t (dq_t (dq_t (dq_t (dq_t dzX12_init_37))))))
theorem dX12_init_45 : decode cX12_init 45 = .ok (.ldc 25, 2) := dq_h (dq_t (dq_t (dq_t (dq_t (dq_t (dq_t (dq_t dzX12_init_37)))))))
theorem dX12_init_47 : decode cX12_init 47 = .ok (.aastore, 1) := dq_h (dq_t (dq_t (dq_t (dq_t (dq_t (dq_t (dq_t (dq_t dzX12_init_37))))))))
theorem dX12_init_48 : decode cX12_init 48 = .ok (.dup, 1) := dq_h (dq_t (dq_t (dq_t (dq_t (dq_t (dq_t (dq_t (dq_t (dq_t dzX12_init_37)))))))))
theorem dX12_init_49 : decode cX12_init 49 = .ok (.iconst 4, 1) := dq_h (dq_t (dq_t (dq_t (dq_t (dq_t (dq_t (dq_t (dq_t (dq_t (dq_t dzX12_init_37))))))))))
theorem dX12_init_50 : decode cX12_init 50 = .ok (.ldc 27, 2) := dq_h (dq_t (dq_t (dq_t (dq_t (dq_t (dq_t (dq_t (dq_t (dq_t (dq_t (dq_t dzX12_init_37)))))))))))
theorem dX12_init_52 : decode cX12_init 52 = .ok (.aastore, 1) := dq_h (dq_t (dq_t (dq_t (dq_t (dq_t (dq_t (dq_t (dq_t (dq_t (dq_t (dq_t (dq_t dzX12_init_37))))))))))))
theorem dX12_init_53 : decode cX12_init 53 = .ok (.dup, 1) := dq_h (dq_t (dq_t (dq_t (dq_t (dq_t (dq_t (dq_t (dq_t (dq_t (dq_t (dq_t (dq_t (dq_t dzX12_init_37)))))))))))))
theorem dX12_init_54 : decode cX12_init 54 = .ok (.iconst 5, 1) := dq_h (dq_t (dq_t (dq_t (dq_t (dq_t (dq_t (dq_t (dq_t (dq_t (dq_t (dq_t (dq_t (dq_t (dq_t dzX12_init_37))))))))))))))
theorem dX12_init_55 : decode cX12_init 55 = .ok (.ldc 29, 2) := dq_h (dq_t (dq_t (dq_t (dq_t (dq_t (dq_t (dq_t (dq_t (dq_t (dq_t (dq_t (dq_t (dq_t (dq_t (dq_t dzX12_init_37)))))))))))))))
theorem dX12_init_57 : decode cX12_init 57 = .ok (.aastore, 1) := dq_h (dq_t (dq_t (dq_t (dq_t (dq_t (dq_t (dq_t (dq_t (dq_t (dq_t (dq_t (dq_t (dq_t (dq_t (dq_t (dq_t dzX12_init_37))))))))))))))))
theorem dX12_init_58 : decode cX12_init 58 = .ok (.putfield 31, 3) := dq_h (dq_t (dq_t (dq_t (dq_t (dq_t (dq_t (dq_t (dq_t (dq_t (dq_t (dq_t (dq_t (dq_t (dq_t (dq_t (dq_t (dq_t dzX12_init_37)))))))))))))))))
theorem dX12_init_61 : decode cX12_init 61 = .ok (.aload_n 0, 1) := dq_h (dq_t (dq_t (dq_t (dq_t (dq_t (dq_t (dq_t (dq_t (dq_t (dq_t (dq_t (dq_t (dq_t (dq_t (dq_t (dq_t (dq_t (dq_t dzX12_init_37))))))))))))))))))
theorem dX12_init_62 : decode cX12_init 62 = .ok (.bipush 7, 2) := dq_h (dq_t (dq_t (dq_t (dq_t (dq_t (dq_t (dq_t (dq_t (dq_t (dq_t (dq_t (dq_t (dq_t (dq_t (dq_t (dq_t (dq_t (dq_t (dq_t dzX12_init_37)))))))))))))))))))
theorem dX12_init_64 : decode cX12_init 64 = .ok (.anewarray 9, 3) := dq_h (dq_t (dq_t (dq_t (dq_t (dq_t (dq_t (dq_t (dq_t (dq_t (dq_t (dq_t (dq_t (dq_t (dq_t (dq_t (dq_t (dq_t (dq_t (dq_t (dq_t dzX12_init_37))))))))))))))))))))
theorem dX12_init_67 : decode cX12_init 67 = .ok (.dup, 1) := dq_h (dq_t (dq_t (dq_t (dq_t (dq_t (dq_t (dq_t (dq_t (dq_t (dq_t (dq_t (dq_t (dq_t (dq_t (dq_t (dq_t (dq_t (dq_t (dq_t (dq_t (dq_t dzX12_init_37)))))))))))))))))))))
theorem dX12_init_68 : decode cX12_init 68 = .ok (.iconst 0, 1) := dq_h (dq_t (dq_t (dq_t (dq_t (dq_t (dq_t (dq_t (dq_t (dq_t (dq_t (dq_t (dq_t (dq_t (dq_t (dq_t (dq_t (dq_t (dq_t (dq_t (dq_t (dq_t (dq_t dzX12_init_37))))))))))))))))))))))
theorem dX12_init_69 : decode cX12_init 69 = .ok (.ldc 19, 2) := dq_h (dq_t (dq_t (dq_t (dq_t (dq_t (dq_t (dq_t (dq_t (dq_t (dq_t (dq_t (dq_t (dq_t (dq_t (dq_t (dq_t (dq_t (dq_t (dq_t (dq_t (dq_t (dq_t (dq_t dzX12_init_37)))))))))))))))))))))))
theorem dzX12_init_71 : dq_F cX12_init [(71, .aastore, 1), (72, .dup, 1), (73, .iconst 1, 1), (74, .ldc 21, 2), (76, .aastore, 1), (77, .dup, 1), (78, .iconst 2, 1), (79, .ldc 23, 2), (81, .aastore, 1), (82, .dup, 1), (83, .iconst 3, 1), (84, .ldc 25, 2), (86, .aastore, 1), (87, .dup, 1), (88, .iconst 4, 1), (89, .ldc 27, 2), (91, .aastore, 1), (92, .dup, 1), (93, .iconst 5, 1), (94, .ldc 29, 2), (96, .aastore, 1), (97, .dup, 1), (98, .bipush 6, 2), (100, .ldc 34, 2)] := dq_s 24 71 (by decide +kernel)
theorem dX12_init_71 : decode cX12_init 71 = .ok (.aastore, 1) := dq_h dzX12_init_71
theorem dX12_init_72 : decode cX12_init 72 = .ok (.dup, 1) := dq_h (dq_t dzX12_init_71)
theorem dX12_init_73 : decode cX12_init 73 = .ok (.iconst 1, 1) := dq_h (dq_t (dq_t dzX12_init_71))
theorem dX12_init_74 : decode cX12_init 74 = .ok (.ldc 21, 2) := dq_h (dq_t (dq_t (dq_t dzX12_init_71)))
theorem dX12_init_76 : decode cX12_init 76 = .ok (.aastore, 1) := dq_h (dq_t (dq_t (dq_t (dq_t dzX12_init_71))))
theorem dX12_init_77 : decode cX12_init 77 = .ok (.dup, 1) := dq_h (dq_t (dq_t (dq_t (dq_t (dq_t dzX12_init_71)))))
theorem dX12_init_78 : decode cX12_init 78 = .ok (.iconst 2, 1) := dq_h (dq_t (dq_t (dq_t (dq_t (dq_t (dq_t dzX12_init_71))))))
theorem dX12_init_79 : decode cX12_init 79 = .ok (.ldc 23, 2) := dq_h (dq_t (dq_t (dq_t (dq_t (dq_t (dq_t (dq_t dzX12_init_71)))))))
theorem dX12_init_81 : decode cX12_init 81 = .ok (.aastore, 1) := dq_h (dq_t (dq_t (dq_t (dq_t (dq_t (dq_t (dq_t (dq_t dzX12_init_71))))))))
theorem dX12_init_82 : decode cX12_init 82 = .ok (.dup, 1) := dq_h (dq_t (dq_t (dq_t (dq_t (dq_t (dq_t (dq_t (dq_t (dq_t dzX12_init_71)))))))))
theorem dX12_init_83 : decode cX12_init 83 = .ok (.iconst 3, 1) := dq_h (dq_t (dq_t (dq_t (dq_t (dq_t (dq_t (dq_t (dq_t (dq_t (dq_t dzX12_init_71))))))))))
theorem dX12_init_84 : decode cX12_init 84 = .ok (.ldc 25, 2) := dq_h (dq_t (dq_t (dq_t (dq_t (dq_t (dq_t (dq_t (dq_t (dq_t (dq_t (dq_t dzX12_init_71)))))))))))
theorem dX12_init_86 : decode cX12_init 86 = .ok (.aastore, 1) := dq_h (dq_t (dq_t (dq_t (dq_t (dq_t (dq_t (dq_t (dq_t (dq_t (dq_t (dq_t (dq_t dzX12_init_71))))))))))))
theorem dX12_init_87 : decode cX12_init 87 = .ok (.dup, 1) := dq_h (dq_t (dq_t (dq_t (dq_t (dq_t (dq_t (dq_t (dq_t (dq_t (dq_t (dq_t (dq_t (dq_t dzX12_init_71)))))))))))))
theorem dX12_init_88 : decode cX12_init 88 = .ok (.iconst 4, 1) := dq_h (dq_t (dq_t (dq_t (dq_t (dq_t (dq_t (dq_t (dq_t (dq_t (dq_t (dq_t (dq_t (dq_t (dq_t dzX12_init_71))))))))))))))
theorem dX12_init_89 : decode cX12_init 89 = .ok (.ldc 27, 2) := dq_h (dq_t (dq_t (dq_t (dq_t (dq_t (dq_t (dq_t (dq_t (dq_t (dq_t (dq_t (dq_t (dq_t (dq_t (dq_t dzX12_init_71)))))))))))))))
theorem dX12_init_91 : decode cX12_init 91 = .ok (.aastore, 1) := dq_h (dq_t (dq_t (dq_t (dq_t (dq_t (dq_t (dq_t (dq_t (dq_t (dq_t (dq_t (dq_t (dq_t (dq_t (dq_t (dq_t dzX12_init_71))))))))))))))))
theorem dX12_init_92 : decode cX12_init 92 = .ok (.dup, 1) := dq_h (dq_t (dq_t (dq_t (dq_t (dq_t (dq_t (dq_t (dq_t (dq_t (dq_t (dq_t (dq_t (dq_t (dq_t (dq_t (dq_t (dq_t dzX12_init_71)))))))))))))))))
theorem dX12_init_93 : decode cX12_init 93 = .ok (.iconst 5, 1) := dq_h (dq_t (dq_t (dq_t (dq_t (dq_t (dq_t (dq_t (dq_t (dq_t (dq_t (dq_t (dq_t (dq_t (dq_t (dq_t (dq_t (dq_t (dq_t dzX12_init_71))))))))))))))))))
theorem dX12_init_94 : decode cX12_init 94 = .ok (.ldc 29, 2) := dq_h (dq_t (dq_t (dq_t (dq_t (dq_t (dq_t (dq_t (dq_t (dq_t (dq_t (dq_t (dq_t (dq_t (dq_t (dq_t (dq_t (dq_t (dq_t (dq_t dzX12_init_71)))))))))))))))))))
theorem dX12_init_96 : decode cX12_init 96 = .ok (.aastore, 1) := dq_h (dq_t (dq_t (dq_t (dq_t (dq_t (dq_t (dq_t (dq_t (dq_t (dq_t (dq_t (dq_t (dq_t (dq_t (dq_t (dq_t (dq_t (dq_t (dq_t (dq_t dzX12_init_71))))))))))))))))))))
theorem dX12_init_97 : decode cX12_init 97 = .ok (.dup, 1) := dq_h (dq_t (dq_t (dq_t (dq_t (dq_t (dq_t (dq_t (dq_t (dq_t (dq_t (dq_t (dq_t (dq_t (dq_t (dq_t (dq_t (dq_t (dq_t (dq_t (dq_t (dq_t dzX12_init_71)))))))))))))))))))))
theorem dX12_init_98 : decode cX12_init 98 = .ok (.bipush 6, 2) := dq_h (dq_t (dq_t (dq_t (dq_t (dq_t (dq_t (dq_t (dq_t (dq_t (dq_t (dq_t (dq_t (dq_t (dq_t (dq_t (dq_t (dq_t (dq_t (dq_t (dq_t (dq_t (dq_t dzX12_init_71))))))))))))))))))))))
theorem dX12_init_100 : decode cX12_init 100 = .ok (.ldc 34, 2) := dq_h (dq_t (dq_t (dq_t (dq_t (dq_t (dq_t (dq_t (dq_t (dq_t (dq_t (dq_t (dq_t (dq_t (dq_t (dq_t (dq_t (dq_t (dq_t (dq_t (dq_t (dq_t (dq_t (dq_t dzX12_init_71)))))))))))))))))))))))
theorem dzX12_init_102 : dq_F cX12_init [(102, .aastore, 1), (103, .putfield 36, 3), (106, .aload_n 0, 1), (107, .aload_n 0, 1), (108, .getfield 31, 3), (111, .putfield 39, 3), (114, .aload_n 0, 1), (115, .bipush 12, 2)] := dq_s 8 102 (by decide +kernel)
theorem dX12_init_102 : decode cX12_init 102 = .ok (.aastore, 1) := dq_h dzX12_init_102
theorem dX12_init_103 : decode cX12_init 103 = .ok (.putfield 36, 3) := dq_h (dq_t dzX12_init_102)
theorem dX12_init_106 : decode cX12_init 106 = .ok (.aload_n 0, 1) := dq_h (dq_t (dq_t dzX12_init_102))
theorem dX12_init_107 : decode cX12_init 107 = .ok (.aload_n 0, 1) := dq_h (dq_t (dq_t (dq_t dzX12_init_102)))
theorem dX12_init_108 : decode cX12_init 108 = .ok (.getfield 31, 3) := dq_h (dq_t (dq_t (dq_t (dq_t dzX12_init_102))))
theorem dX12_init_111 : decode cX12_init 111 = .ok (.putfield 39, 3) := dq_h (dq_t (dq_t (dq_t (dq_t (dq_t dzX12_init_102)))))
theorem dX12_init_114 : decode cX12_init 114 = .ok (.aload_n 0, 1) := dq_h (dq_t (dq_t (dq_t (dq_t (dq_t (dq_t dzX12_init_102))))))
theorem dX12_init_115 : decode cX12_init 115 = .ok (.bipush 12, 2) := dq_h (dq_t (dq_t (dq_t (dq_t (dq_t (dq_t (dq_t dzX12_init_102)))))))
theorem dX12_init_117 : decode cX12_init 117 = .ok (.newarray .int, 2) := by decide +kernel
theorem dzX12_init_119 : dq_F cX12_init [(119, .putfield 42, 3), (122, .aload_n 0, 1), (123, .bipush 16, 2)] := dq_s 3 119 (by decide +kernel)
theorem dX12_init_119 : decode cX12_init 119 = .ok (.putfield 42, 3) := dq_h dzX12_init_119
theorem dX12_init_122 : decode cX12_init 122 = .ok (.aload_n 0, 1) := dq_h (dq_t dzX12_init_119)
theorem dX12_init_123 : decode cX12_init 123 = .ok (.bipush 16, 2) := dq_h (dq_t (dq_t dzX12_init_119))
theorem dX12_init_125 : decode cX12_init 125 = .ok (.newarray .int, 2) := by decide +kernel
theorem dzX12_init_127 : dq_F cX12_init [(127, .putfield 46, 3), (130, .aload_n 0, 1), (131, .bipush 16, 2)] := dq_s 3 127 (by decide +kernel)
theorem dX12_init_127 : decode cX12_init 127 = .ok (.putfield 46, 3) := dq_h dzX12_init_127
theorem dX12_init_130 : decode cX12_init 130 = .ok (.aload_n 0, 1) := dq_h (dq_t dzX12_init_127)
theorem dX12_init_131 : decode cX12_init 131 = .ok (.bipush 16, 2) := dq_h (dq_t (dq_t dzX12_init_127))
theorem dX12_init_133 : decode cX12_init 133 = .ok (.newarray .int, 2) := by decide +kernel
theorem dzX12_init_135 : dq_F cX12_init [(135, .putfield 48, 3), (138, .aload_n 0, 1), (139, .bipush 16, 2)] := dq_s 3 135 (by decide +kernel)
theorem dX12_init_135 : decode cX12_init 135 = .ok (.putfield 48, 3) := dq_h dzX12_init_135
theorem dX12_init_138 : decode cX12_init 138 = .ok (.aload_n 0, 1) := dq_h (dq_t dzX12_init_135)
theorem dX12_init_139 : decode cX12_init 139 = .ok (.bipush 16, 2) := dq_h (dq_t (dq_t dzX12_init_135))
theorem dX12_init_141 : decode cX12_init 141 = .ok (.newarray .int, 2) := by decide +kernel
theorem dzX12_init_143 : dq_F cX12_init [(143, .putfield 50, 3), (146, .aload_n 0, 1), (147, .bipush 16, 2)] := dq_s 3 143 (by decide +kernel)
theorem dX12_init_143 : decode cX12_init 143 = .ok (.putfield 50, 3) := dq_h dzX12_init_143
theorem dX12_init_146 : decode cX12_init 146 = .ok (.aload_n 0, 1) := dq_h (dq_t dzX12_init_143)
theorem dX12_init_147 : decode cX12_init 147 = .ok (.bipush 16, 2) := dq_h (dq_t (dq_t dzX12_init_143))
theorem dX12_init_149 : decode cX12_init 149 = .ok (.newarray .int, 2) := by decide +kernel
theorem dzX12_init_151 : dq_F cX12_init [(151, .putfield 53, 3), (154, .aload_n 0, 1), (155, .bipush 12, 2)] := dq_s 3 151 (by decide +kernel)
theorem dX12_init_151 : decode cX12_init 151 = .ok (.putfield 53, 3) := dq_h dzX12_init_151
theorem dX12_init_154 : decode cX12_init 154 = .ok (.aload_n 0, 1) := dq_h (dq_t dzX12_init_151)
theorem dX12_init_155 : decode cX12_init 155 = .ok (.bipush 12, 2) := dq_h (dq_t (dq_t dzX12_init_151))
theorem dX12_init_157 : decode cX12_init 157 = .ok (.newarray .int, 2) := by decide +kernel
theorem dzX12_init_159 : dq_F cX12_init [(159, .putfield 55, 3), (162, .aload_n 0, 1), (163, .bipush 12, 2)] := dq_s 3 159 (by decide +kernel)
theorem dX12_init_159 : decode cX12_init 159 = .ok (.putfield 55, 3) := dq_h dzX12_init_159
theorem dX12_init_162 : decode cX12_init 162 = .ok (.aload_n 0, 1) := dq_h (dq_t dzX12_init_159)
theorem dX12_init_163 : decode cX12_init 163 = .ok (.bipush 12, 2) := dq_h (dq_t (dq_t dzX12_init_159))
theorem dX12_init_165 : decode cX12_init 165 = .ok (.newarray .int, 2) := by decide +kernel
theorem dzX12_init_167 : dq_F cX12_init [(167, .putfield 58, 3), (170, .aload_n 0, 1), (171, .bipush 12, 2)] := dq_s 3 167 (by decide +kernel)
theorem dX12_init_167 : decode cX12_init 167 = .ok (.putfield 58, 3) := dq_h dzX12_init_167
theorem dX12_init_170 : decode cX12_init 170 = .ok (.aload_n 0, 1) := dq_h (dq_t dzX12_init_167)
theorem dX12_init_171 : decode cX12_init 171 = .ok (.bipush 12, 2) := dq_h (dq_t (dq_t dzX12_init_167))
theorem dX12_init_173 : decode cX12_init 173 = .ok (.newarray .int, 2) := by decide +kernel
theorem dzX12_init_175 : dq_F cX12_init [(175, .putfield 61, 3), (178, .aload_n 0, 1), (179, .bipush 12, 2)] := dq_s 3 175 (by decide +kernel)
theorem dX12_init_175 : decode cX12_init 175 = .ok (.putfield 61, 3) := dq_h dzX12_init_175
theorem dX12_init_178 : decode cX12_init 178 = .ok (.aload_n 0, 1) := dq_h (dq_t dzX12_init_175)
theorem dX12_init_179 : decode cX12_init 179 = .ok (.bipush 12, 2) := dq_h (dq_t (dq_t dzX12_init_175))
theorem dX12_init_181 : decode cX12_init 181 = .ok (.newarray .int, 2) := by decide +kernel
theorem dzX12_init_183 : dq_F cX12_init [(183, .putfield 64, 3), (186, .aload_n 0, 1), (187, .bipush 16, 2)] := dq_s 3 183 (by decide +kernel)
theorem dX12_init_183 : decode cX12_init 183 = .ok (.putfield 64, 3) := dq_h dzX12_init_183
theorem dX12_init_186 : decode cX12_init 186 = .ok (.aload_n 0, 1) := dq_h (dq_t dzX12_init_183)
theorem dX12_init_187 : decode cX12_init 187 = .ok (.bipush 16, 2) := dq_h (dq_t (dq_t dzX12_init_183))
theorem dX12_init_189 : decode cX12_init 189 = .ok (.newarray .int, 2) := by decide +kernel
theorem dzX12_init_191 : dq_F cX12_init [(191, .putfield 67, 3), (194, .aload_n 0, 1), (195, .sipush 1400, 3)] := dq_s 3 191 (by decide +kernel)
theorem dX12_init_191 : decode cX12_init 191 = .ok (.putfield 67, 3) := dq_h dzX12_init_191
theorem dX12_init_194 : decode cX12_init 194 = .ok (.aload_n 0, 1) := dq_h (dq_t dzX12_init_191)
theorem dX12_init_195 : decode cX12_init 195 = .ok (.sipush 1400, 3) := dq_h (dq_t (dq_t dzX12_init_191))
theorem dX12_init_198 : decode cX12_init 198 = .ok (.newarray .int, 2) := by decide +kernel
theorem dzX12_init_200 : dq_F cX12_init [(200, .putfield 70, 3), (203, .aload_n 0, 1), (204, .sipush 1400, 3)] := dq_s 3 200 (by decide +kernel)
theorem dX12_init_200 : decode cX12_init 200 = .ok (.putfield 70, 3) := dq_h dzX12_init_200
theorem dX12_init_203 : decode cX12_init 203 = .ok (.aload_n 0, 1) := dq_h (dq_t dzX12_init_200)
theorem dX12_init_204 : decode cX12_init 204 = .ok (.sipush 1400, 3) := dq_h (dq_t (dq_t dzX12_init_200))
theorem dX12_init_207 : decode cX12_init 207 = .ok (.newarray .int, 2) := by decide +kernel
theorem dzX12_init_209 : dq_F cX12_init [(209, .putfield 73, 3), (212, .aload_n 0, 1), (213, .iconst 3, 1)] := dq_s 3 209 (by decide +kernel)
theorem dX12_init_209 : decode cX12_init 209 = .ok (.putfield 73, 3) := dq_h dzX12_init_209
theorem dX12_init_212 : decode cX12_init 212 = .ok (.aload_n 0, 1) := dq_h (dq_t dzX12_init_209)
theorem dX12_init_213 : decode cX12_init 213 = .ok (.iconst 3, 1) := dq_h (dq_t (dq_t dzX12_init_209))
theorem dX12_init_214 : decode cX12_init 214 = .ok (.newarray .int, 2) := by decide +kernel
theorem dzX12_init_216 : dq_F cX12_init [(216, .putfield 76, 3), (219, .aload_n 0, 1), (220, .bipush 6, 2)] := dq_s 3 216 (by decide +kernel)
theorem dX12_init_216 : decode cX12_init 216 = .ok (.putfield 76, 3) := dq_h dzX12_init_216
theorem dX12_init_219 : decode cX12_init 219 = .ok (.aload_n 0, 1) := dq_h (dq_t dzX12_init_216)
theorem dX12_init_220 : decode cX12_init 220 = .ok (.bipush 6, 2) := dq_h (dq_t (dq_t dzX12_init_216))
theorem dX12_init_222 : decode cX12_init 222 = .ok (.newarray .int, 2) := by decide +kernel
theorem dzX12_init_224 : dq_F cX12_init [(224, .putfield 79, 3), (227, .aload_n 0, 1), (228, .sipush 700, 3)] := dq_s 3 224 (by decide +kernel)
theorem dX12_init_224 : decode cX12_init 224 = .ok (.putfield 79, 3) := dq_h dzX12_init_224
theorem dX12_init_227 : decode cX12_init 227 = .ok (.aload_n 0, 1) := dq_h (dq_t dzX12_init_224)
theorem dX12_init_228 : decode cX12_init 228 = .ok (.sipush 700, 3) := dq_h (dq_t (dq_t dzX12_init_224))
theorem dX12_init_231 : decode cX12_init 231 = .ok (.newarray .int, 2) := by decide +kernel
theorem dzX12_init_233 : dq_F cX12_init [(233, .putfield 81, 3), (236, .aload_n 0, 1), (237, .iconst (-1), 1), (238, .putfield 84, 3), (241, .aload_n 0, 1), (242, .bipush 6, 2)] := dq_s 6 233 (by decide +kernel)
theorem dX12_init_233 : decode cX12_init 233 = .ok (.putfield 81, 3) := dq_h dzX12_init_233
theorem dX12_init_236 : decode cX12_init 236 = .ok (.aload_n 0, 1) := dq_h (dq_t dzX12_init_233)
theorem dX12_init_237 : decode cX12_init 237 = .ok (.iconst (-1), 1) := dq_h (dq_t (dq_t dzX12_init_233))
theorem dX12_init_238 : decode cX12_init 238 = .ok (.putfield 84, 3) := dq_h (dq_t (dq_t (dq_t dzX12_init_233)))
theorem dX12_init_241 : decode cX12_init 241 = .ok (.aload_n 0, 1) := dq_h (dq_t (dq_t (dq_t (dq_t dzX12_init_233))))
theorem dX12_init_242 : decode cX12_init 242 = .ok (.bipush 6, 2) := dq_h (dq_t (dq_t (dq_t (dq_t (dq_t dzX12_init_233)))))
theorem dX12_init_244 : decode cX12_init 244 = .ok (.newarray .int, 2) := by decide +kernel
theorem dzX12_init_246 : dq_F cX12_init [(246, .putfield 88, 3), (249, .aload_n 0, 1), (250, .bipush 6, 2)] := dq_s 3 246 (by decide +kernel)
theorem dX12_init_246 : decode cX12_init 246 = .ok (.putfield 88, 3) := dq_h dzX12_init_246
theorem dX12_init_249 : decode cX12_init 249 = .ok (.aload_n 0, 1) := dq_h (dq_t dzX12_init_246)
theorem dX12_init_250 : decode cX12_init 250 = .ok (.bipush 6, 2) := dq_h (dq_t (dq_t dzX12_init_246))
theorem dX12_init_252 : decode cX12_init 252 = .ok (.newarray .int, 2) := by decide +kernel
theorem dzX12_init_254 : dq_F cX12_init [(254, .putfield 90, 3), (257, .aload_n 0, 1), (258, .bipush 6, 2)] := dq_s 3 254 (by decide +kernel)
theorem dX12_init_254 : decode cX12_init 254 = .ok (.putfield 90, 3) := dq_h dzX12_init_254
theorem dX12_init_257 : decode cX12_init 257 = .ok (.aload_n 0, 1) := dq_h (dq_t dzX12_init_254)
theorem dX12_init_258 : decode cX12_init 258 = .ok (.bipush 6, 2) := dq_h (dq_t (dq_t dzX12_init_254))
theorem dX12_init_260 : decode cX12_init 260 = .ok (.newarray .int, 2) := by decide +kernel
theorem dzX12_init_262 : dq_F cX12_init [(262, .putfield 92, 3), (265, .aload_n 0, 1), (266, .bipush 6, 2)] := dq_s 3 262 (by decide +kernel)
theorem dX12_init_262 : decode cX12_init 262 = .ok (.putfield 92, 3) := dq_h dzX12_init_262
theorem dX12_init_265 : decode cX12_init 265 = .ok (.aload_n 0, 1) := dq_h (dq_t dzX12_init_262)
theorem dX12_init_266 : decode cX12_init 266 = .ok (.bipush 6, 2) := dq_h (dq_t (dq_t dzX12_init_262))
theorem dX12_init_268 : decode cX12_init 268 = .ok (.newarray .int, 2) := by decide +kernel
theorem dzX12_init_270 : dq_F cX12_init [(270, .putfield 95, 3), (273, .aload_n 0, 1), (274, .sipush 1040, 3)] := dq_s 3 270 (by decide +kernel)
theorem dX12_init_270 : decode cX12_init 270 = .ok (.putfield 95, 3) := dq_h dzX12_init_270
theorem dX12_init_273 : decode cX12_init 273 = .ok (.aload_n 0, 1) := dq_h (dq_t dzX12_init_270)
theorem dX12_init_274 : decode cX12_init 274 = .ok (.sipush 1040, 3) := dq_h (dq_t (dq_t dzX12_init_270))
theorem dX12_init_277 : decode cX12_init 277 = .ok (.newarray .int, 2) := by decide +kernel
theorem dzX12_init_279 : dq_F cX12_init [(279, .putfield 98, 3), (282, .aload_n 0, 1), (283, .iconst (-1), 1), (284, .putfield 101, 3), (287, .aload_n 0, 1), (288, .bipush 7, 2)] := dq_s 6 279 (by decide +kernel)
theorem dX12_init_279 : decode cX12_init 279 = .ok (.putfield 98, 3) := dq_h dzX12_init_279
theorem dX12_init_282 : decode cX12_init 282 = .ok (.aload_n 0, 1) := dq_h (dq_t dzX12_init_279)
theorem dX12_init_283 : decode cX12_init 283 = .ok (.iconst (-1), 1) := dq_h (dq_t (dq_t dzX12_init_279))
theorem dX12_init_284 : decode cX12_init 284 = .ok (.putfield 101, 3) := dq_h (dq_t (dq_t (dq_t dzX12_init_279)))
theorem dX12_init_287 : decode cX12_init 287 = .ok (.aload_n 0, 1) := dq_h (dq_t (dq_t (dq_t (dq_t dzX12_init_279))))
theorem dX12_init_288 : decode cX12_init 288 = .ok (.bipush 7, 2) := dq_h (dq_t (dq_t (dq_t (dq_t (dq_t dzX12_init_279)))))
theorem dX12_init_290 : decode cX12_init 290 = .ok (.newarray .int, 2) := by decide +kernel
theorem dzX12_init_292 : dq_F cX12_init [(292, .putfield 104, 3), (295, .aload_n 0, 1), (296, .bipush 64, 2)] := dq_s 3 292 (by decide +kernel)
theorem dX12_init_292 : decode cX12_init 292 = .ok (.putfield 104, 3) := dq_h dzX12_init_292
theorem dX12_init_295 : decode cX12_init 295 = .ok (.aload_n 0, 1) := dq_h (dq_t dzX12_init_292)
theorem dX12_init_296 : decode cX12_init 296 = .ok (.bipush 64, 2) := dq_h (dq_t (dq_t dzX12_init_292))
theorem dX12_init_298 : decode cX12_init 298 = .ok (.newarray .int, 2) := by decide +kernel
theorem dzX12_init_300 : dq_F cX12_init [(300, .putfield 107, 3), (303, .aload_n 0, 1), (304, .bipush 26, 2)] := dq_s 3 300 (by decide +kernel)
theorem dX12_init_300 : decode cX12_init 300 = .ok (.putfield 107, 3) := dq_h dzX12_init_300
theorem dX12_init_303 : decode cX12_init 303 = .ok (.aload_n 0, 1) := dq_h (dq_t dzX12_init_300)
theorem dX12_init_304 : decode cX12_init 304 = .ok (.bipush 26, 2) := dq_h (dq_t (dq_t dzX12_init_300))
theorem dX12_init_306 : decode cX12_init 306 = .ok (.newarray .int, 2) := by decide +kernel
theorem dzX12_init_308 : dq_F cX12_init [(308, .putfield 110, 3), (311, .aload_n 0, 1), (312, .sipush 1792, 3)] := dq_s 3 308 (by decide +kernel)
theorem dX12_init_308 : decode cX12_init 308 = .ok (.putfield 110, 3) := dq_h dzX12_init_308
theorem dX12_init_311 : decode cX12_init 311 = .ok (.aload_n 0, 1) := dq_h (dq_t dzX12_init_308)
theorem dX12_init_312 : decode cX12_init 312 = .ok (.sipush 1792, 3) := dq_h (dq_t (dq_t dzX12_init_308))
theorem dX12_init_315 : decode cX12_init 315 = .ok (.newarray .int, 2) := by decide +kernel
theorem dzX12_init_317 : dq_F cX12_init [(317, .putfield 113, 3), (320, .aload_n 0, 1), (321, .bipush 8, 2)] := dq_s 3 317 (by decide +kernel)
theorem dX12_init_317 : decode cX12_init 317 = .ok (.putfield 113, 3) := dq_h dzX12_init_317
theorem dX12_init_320 : decode cX12_init 320 = .ok (.aload_n 0, 1) := dq_h (dq_t dzX12_init_317)
theorem dX12_init_321 : decode cX12_init 321 = .ok (.bipush 8, 2) := dq_h (dq_t (dq_t dzX12_init_317))
theorem dX12_init_323 : decode cX12_init 323 = .ok (.newarray .int, 2) := by decide +kernel
theorem dzX12_init_325 : dq_F cX12_init [(325, .putfield 116, 3), (328, .aload_n 0, 1), (329, .bipush 8, 2)] := dq_s 3 325 (by decide +kernel)
theorem dX12_init_325 : decode cX12_init 325 = .ok (.putfield 116, 3) := dq_h dzX12_init_325
theorem dX12_init_328 : decode cX12_init 328 = .ok (.aload_n 0, 1) := dq_h (dq_t dzX12_init_325)
theorem dX12_init_329 : decode cX12_init 329 = .ok (.bipush 8, 2) := dq_h (dq_t (dq_t dzX12_init_325))
theorem dX12_init_331 : decode cX12_init 331 = .ok (.newarray .int, 2) := by decide +kernel
theorem dzX12_init_333 : dq_F cX12_init [(333, .putfield 119, 3), (336, .aload_n 0, 1), (337, .bipush 8, 2)] := dq_s 3 333 (by decide +kernel)
theorem dX12_init_333 : decode cX12_init 333 = .ok (.putfield 119, 3) := dq_h dzX12_init_333
theorem dX12_init_336 : decode cX12_init 336 = .ok (.aload_n 0, 1) := dq_h (dq_t dzX12_init_333)
theorem dX12_init_337 : decode cX12_init 337 = .ok (.bipush 8, 2) := dq_h (dq_t (dq_t dzX12_init_333))
theorem dX12_init_339 : decode cX12_init 339 = .ok (.newarray .int, 2) := by decide +kernel
theorem dzX12_init_341 : dq_F cX12_init [(341, .putfield 122, 3), (344, .aload_n 0, 1), (345, .bipush 26, 2)] := dq_s 3 341 (by decide +kernel)
theorem dX12_init_341 : decode cX12_init 341 = .ok (.putfield 122, 3) := dq_h dzX12_init_341
theorem dX12_init_344 : decode cX12_init 344 = .ok (.aload_n 0, 1) := dq_h (dq_t dzX12_init_341)
theorem dX12_init_345 : decode cX12_init 345 = .ok (.bipush 26, 2) := dq_h (dq_t (dq_t dzX12_init_341))
theorem dX12_init_347 : decode cX12_init 347 = .ok (.newarray .int, 2) := by decide +kernel
theorem dzX12_init_349 : dq_F cX12_init [(349, .putfield 125, 3), (352, .aload_n 0, 1), (353, .bipush 60, 2)] := dq_s 3 349 (by decide +kernel)
theorem dX12_init_349 : decode cX12_init 349 = .ok (.putfield 125, 3) := dq_h dzX12_init_349
theorem dX12_init_352 : decode cX12_init 352 = .ok (.aload_n 0, 1) := dq_h (dq_t dzX12_init_349)
theorem dX12_init_353 : decode cX12_init 353 = .ok (.bipush 60, 2) := dq_h (dq_t (dq_t dzX12_init_349))
theorem dX12_init_355 : decode cX12_init 355 = .ok (.newarray .int, 2) := by decide +kernel
theorem dzX12_init_357 : dq_F cX12_init [(357, .putfield 128, 3), (360, .aload_n 0, 1), (361, .sipush 1200, 3)] := dq_s 3 357 (by decide +kernel)
theorem dX12_init_357 : decode cX12_init 357 = .ok (.putfield 128, 3) := dq_h dzX12_init_357
theorem dX12_init_360 : decode cX12_init 360 = .ok (.aload_n 0, 1) := dq_h (dq_t dzX12_init_357)
theorem dX12_init_361 : decode cX12_init 361 = .ok (.sipush 1200, 3) := dq_h (dq_t (dq_t dzX12_init_357))
theorem dX12_init_364 : decode cX12_init 364 = .ok (.newarray .int, 2) := by decide +kernel
theorem dzX12_init_366 : dq_F cX12_init [(366, .putfield 131, 3), (369, .aload_n 0, 1), (370, .bipush 8, 2)] := dq_s 3 366 (by decide +kernel)
theorem dX12_init_366 : decode cX12_init 366 = .ok (.putfield 131, 3) := dq_h dzX12_init_366
theorem dX12_init_369 : decode cX12_init 369 = .ok (.aload_n 0, 1) := dq_h (dq_t dzX12_init_366)
theorem dX12_init_370 : decode cX12_init 370 = .ok (.bipush 8, 2) := dq_h (dq_t (dq_t dzX12_init_366))
theorem dX12_init_372 : decode cX12_init 372 = .ok (.newarray .int, 2) := by decide +kernel
theorem dzX12_init_374 : dq_F cX12_init [(374, .putfield 134, 3), (377, .aload_n 0, 1), (378, .bipush 26, 2)] := dq_s 3 374 (by decide +kernel)
theorem dX12_init_374 : decode cX12_init 374 = .ok (.putfield 134, 3) := dq_h dzX12_init_374
theorem dX12_init_377 : decode cX12_init 377 = .ok (.aload_n 0, 1) := dq_h (dq_t dzX12_init_374)
theorem dX12_init_378 : decode cX12_init 378 = .ok (.bipush 26, 2) := dq_h (dq_t (dq_t dzX12_init_374))
theorem dX12_init_380 : decode cX12_init 380 = .ok (.newarray .int, 2) := by decide +kernel
theorem dzX12_init_382 : dq_F cX12_init [(382, .putfield 137, 3), (385, .aload_n 0, 1), (386, .sipush 1040, 3)] := dq_s 3 382 (by decide +kernel)
theorem dX12_init_382 : decode cX12_init 382 = .ok (.putfield 137, 3) := dq_h dzX12_init_382
theorem dX12_init_385 : decode cX12_init 385 = .ok (.aload_n 0, 1) := dq_h (dq_t dzX12_init_382)
theorem dX12_init_386 : decode cX12_init 386 = .ok (.sipush 1040, 3) := dq_h (dq_t (dq_t dzX12_init_382))
theorem dX12_init_389 : decode cX12_init 389 = .ok (.newarray .int, 2) := by decide +kernel
theorem dzX12_init_391 : dq_F cX12_init [(391, .putfield 140, 3), (394, .aload_n 0, 1), (395, .bipush 8, 2)] := dq_s 3 391 (by decide +kernel)
theorem dX12_init_391 : decode cX12_init 391 = .ok (.putfield 140, 3) := dq_h dzX12_init_391
theorem dX12_init_394 : decode cX12_init 394 = .ok (.aload_n 0, 1) := dq_h (dq_t dzX12_init_391)
theorem dX12_init_395 : decode cX12_init 395 = .ok (.bipush 8, 2) := dq_h (dq_t (dq_t dzX12_init_391))
theorem dX12_init_397 : decode cX12_init 397 = .ok (.newarray .int, 2) := by decide +kernel
theorem dzX12_init_399 : dq_F cX12_init [(399, .putfield 143, 3), (402, .aload_n 0, 1), (403, .bipush 8, 2)] := dq_s 3 399 (by decide +kernel)
theorem dX12_init_399 : decode cX12_init 399 = .ok (.putfield 143, 3) := dq_h dzX12_init_399
theorem dX12_init_402 : decode cX12_init 402 = .ok (.aload_n 0, 1) := dq_h (dq_t dzX12_init_399)
theorem dX12_init_403 : decode cX12_init 403 = .ok (.bipush 8, 2) := dq_h (dq_t (dq_t dzX12_init_399))
theorem dX12_init_405 : decode cX12_init 405 = .ok (.newarray .int, 2) := by decide +kernel
theorem dzX12_init_407 : dq_F cX12_init [(407, .putfield 146, 3), (410, .aload_n 0, 1), (411, .bipush 8, 2)] := dq_s 3 407 (by decide +kernel)
theorem dX12_init_407 : decode cX12_init 407 = .ok (.putfield 146, 3) := dq_h dzX12_init_407
theorem dX12_init_410 : decode cX12_init 410 = .ok (.aload_n 0, 1) := dq_h (dq_t dzX12_init_407)
theorem dX12_init_411 : decode cX12_init 411 = .ok (.bipush 8, 2) := dq_h (dq_t (dq_t dzX12_init_407))
theorem dX12_init_413 : decode cX12_init 413 = .ok (.newarray .int, 2) := by decide +kernel
theorem dzX12_init_415 : dq_F cX12_init [(415, .putfield 149, 3), (418, .aload_n 0, 1), (419, .iconst 3, 1)] := dq_s 3 415 (by decide +kernel)
theorem dX12_init_415 : decode cX12_init 415 = .ok (.putfield 149, 3) := dq_h dzX12_init_415
theorem dX12_init_418 : decode cX12_init 418 = .ok (.aload_n 0, 1) := dq_h (dq_t dzX12_init_415)
theorem dX12_init_419 : decode cX12_init 419 = .ok (.iconst 3, 1) := dq_h (dq_t (dq_t dzX12_init_415))
theorem dX12_init_420 : decode cX12_init 420 = .ok (.newarray .int, 2) := by decide +kernel
theorem dzX12_init_422 : dq_F cX12_init [(422, .putfield 152, 3), (425, .aload_n 0, 1), (426, .getfield 42, 3), (429, .iconst 2, 1), (430, .bipush 70, 2), (432, .iastore, 1), (433, .iconst 0, 1), (434, .istore_n 1, 1), (435, .iload_n 1, 1), (436, .bipush 6, 2), (438, .if_icmp .ge 16, 3), (441, .aload_n 0, 1), (442, .getfield 95, 3), (445, .iload_n 1, 1), (446, .iconst (-1), 1), (447, .iastore, 1), (448, .iinc 1 1, 3), (451, .goto (-16), 3), (454, .return_, 1)] := dq_s 19 422 (by decide +kernel)
theorem dX12_init_422 : decode cX12_init 422 = .ok (.putfield 152, 3) := dq_h dzX12_init_422
theorem dX12_init_425 : decode cX12_init 425 = .ok (.aload_n 0, 1) := dq_h (dq_t dzX12_init_422)
theorem dX12_init_426 : decode cX12_init 426 = .ok (.getfield 42, 3) := dq_h (dq_t (dq_t dzX12_init_422))
theorem dX12_init_429 : decode cX12_init 429 = .ok (.iconst 2, 1) := dq_h (dq_t (dq_t (dq_t dzX12_init_422)))
theorem dX12_init_430 : decode cX12_init 430 = .ok (.bipush 70, 2) := dq_h (dq_t (dq_t (dq_t (dq_t dzX12_init_422))))
theorem dX12_init_432 : decode cX12_init 432 = .ok (.iastore, 1) := dq_h (dq_t (dq_t (dq_t (dq_t (dq_t dzX12_init_422)))))
theorem dX12_init_433 : decode cX12_init 433 = .ok (.iconst 0, 1) := dq_h (dq_t (dq_t (dq_t (dq_t (dq_t (dq_t dzX12_init_422))))))
theorem dX12_init_434 : decode cX12_init 434 = .ok (.istore_n 1, 1) := dq_h (dq_t (dq_t (dq_t (dq_t (dq_t (dq_t (dq_t dzX12_init_422)))))))
theorem dX12_init_435 : decode cX12_init 435 = .ok (.iload_n 1, 1) := dq_h (dq_t (dq_t (dq_t (dq_t (dq_t (dq_t (dq_t (dq_t dzX12_init_422))))))))
theorem dX12_init_436 : decode cX12_init 436 = .ok (.bipush 6, 2) := dq_h (dq_t (dq_t (dq_t (dq_t (dq_t (dq_t (dq_t (dq_t (dq_t dzX12_init_422)))))))))
theorem dX12_init_438 : decode cX12_init 438 = .ok (.if_icmp .ge 16, 3) := dq_h (dq_t (dq_t (dq_t (dq_t (dq_t (dq_t (dq_t (dq_t (dq_t (dq_t dzX12_init_422))))))))))
theorem dX12_init_441 : decode cX12_init 441 = .ok (.aload_n 0, 1) := dq_h (dq_t (dq_t (dq_t (dq_t (dq_t (dq_t (dq_t (dq_t (dq_t (dq_t (dq_t dzX12_init_422)))))))))))
theorem dX12_init_442 : decode cX12_init 442 = .ok (.getfield 95, 3) := dq_h (dq_t (dq_t (dq_t (dq_t (dq_t (dq_t (dq_t (dq_t (dq_t (dq_t (dq_t (dq_t dzX12_init_422))))))))))))
theorem dX12_init_445 : decode cX12_init 445 = .ok (.iload_n 1, 1) := dq_h (dq_t (dq_t (dq_t (dq_t (dq_t (dq_t (dq_t (dq_t (dq_t (dq_t (dq_t (dq_t (dq_t dzX12_init_422)))))))))))))
theorem dX12_init_446 : decode cX12_init 446 = .ok (.iconst (-1), 1) := dq_h (dq_t (dq_t (dq_t (dq_t (dq_t (dq_t (dq_t (dq_t (dq_t (dq_t (dq_t (dq_t (dq_t (dq_t dzX12_init_422))))))))))))))
theorem dX12_init_447 : decode cX12_init 447 = .ok (.iastore, 1) := dq_h (dq_t (dq_t (dq_t (dq_t (dq_t (dq_t (dq_t (dq_t (dq_t (dq_t (dq_t (dq_t (dq_t (dq_t (dq_t dzX12_init_422)))))))))))))))
theorem dX12_init_448 : decode cX12_init 448 = .ok (.iinc 1 1, 3) := dq_h (dq_t (dq_t (dq_t (dq_t (dq_t (dq_t (dq_t (dq_t (dq_t (dq_t (dq_t (dq_t (dq_t (dq_t (dq_t (dq_t dzX12_init_422))))))))))))))))
theorem dX12_init_451 : decode cX12_init 451 = .ok (.goto (-16), 3) := dq_h (dq_t (dq_t (dq_t (dq_t (dq_t (dq_t (dq_t (dq_t (dq_t (dq_t (dq_t (dq_t (dq_t (dq_t (dq_t (dq_t (dq_t dzX12_init_422)))))))))))))))))
theorem dX12_init_454 : decode cX12_init 454 = .ok (.return_, 1) := dq_h (dq_t (dq_t (dq_t (dq_t (dq_t (dq_t (dq_t (dq_t (dq_t (dq_t (dq_t (dq_t (dq_t (dq_t (dq_t (dq_t (dq_t (dq_t dzX12_init_422))))))))))))))))))
theorem dzX12_thrown_0 : dq_F cX12_thrown [(0, .aload_n 0, 1), (1, .getfield 155, 3), (4, .ireturn, 1)] := dq_s 3 0 (by decide +kernel)
theorem dX12_thrown_0 : decode cX12_thrown 0 = .ok (.aload_n 0, 1) := dq_h dzX12_thrown_0
theorem dX12_thrown_1 : decode cX12_thrown 1 = .ok (.getfield 155, 3) := dq_h (dq_t dzX12_thrown_0)
theorem dX12_thrown_4 : decode cX12_thrown 4 = .ok (.ireturn, 1) := dq_h (dq_t (dq_t dzX12_thrown_0))
theorem dzX12_fail_0 : dq_F cX12_fail [(0, .aload_n 0, 1), (1, .iload_n 1, 1), (2, .putfield 155, 3), (5, .iconst 0, 1), (6, .ireturn, 1)] := dq_s 5 0 (by decide +kernel)
theorem dX12_fail_0 : decode cX12_fail 0 = .ok (.aload_n 0, 1) := dq_h dzX12_fail_0
theorem dX12_fail_1 : decode cX12_fail 1 = .ok (.iload_n 1, 1) := dq_h (dq_t dzX12_fail_0)
theorem dX12_fail_2 : decode cX12_fail 2 = .ok (.putfield 155, 3) := dq_h (dq_t (dq_t dzX12_fail_0))
theorem dX12_fail_5 : decode cX12_fail 5 = .ok (.iconst 0, 1) := dq_h (dq_t (dq_t (dq_t dzX12_fail_0)))
theorem dX12_fail_6 : decode cX12_fail 6 = .ok (.ireturn, 1) := dq_h (dq_t (dq_t (dq_t (dq_t dzX12_fail_0))))
theorem dzX12_failing_0 : dq_F cX12_failing [(0, .aload_n 0, 1), (1, .iload_n 1, 1), (2, .putfield 155, 3), (5, .iconst 0, 1), (6, .ireturn, 1)] := dq_s 5 0 (by decide +kernel)
theorem dX12_failing_0 : decode cX12_failing 0 = .ok (.aload_n 0, 1) := dq_h dzX12_failing_0
theorem dX12_failing_1 : decode cX12_failing 1 = .ok (.iload_n 1, 1) := dq_h (dq_t dzX12_failing_0)
theorem dX12_failing_2 : decode cX12_failing 2 = .ok (.putfield 155, 3) := dq_h (dq_t (dq_t dzX12_failing_0))
theorem dX12_failing_5 : decode cX12_failing 5 = .ok (.iconst 0, 1) := dq_h (dq_t (dq_t (dq_t dzX12_failing_0)))
theorem dX12_failing_6 : decode cX12_failing 6 = .ok (.ireturn, 1) := dq_h (dq_t (dq_t (dq_t (dq_t dzX12_failing_0))))
theorem dzX12_isIn_0 : dq_F cX12_isIn [(0, .lload_n 0, 1), (1, .lload_n 2, 1), (2, .lcmp, 1), (3, .ifCond .lt 14, 3), (6, .lload_n 0, 1), (7, .lload 4, 2), (9, .lcmp, 1), (10, .ifCond .gt 7, 3), (13, .iconst 1, 1), (14, .goto 4, 3), (17, .iconst 0, 1), (18, .ireturn, 1)] := dq_s 12 0 (by decide +kernel)
theorem dX12_isIn_0 : decode cX12_isIn 0 = .ok (.lload_n 0, 1) := dq_h dzX12_isIn_0
theorem dX12_isIn_1 : decode cX12_isIn 1 = .ok (.lload_n 2, 1) := dq_h (dq_t dzX12_isIn_0)
theorem dX12_isIn_2 : decode cX12_isIn 2 = .ok (.lcmp, 1) := dq_h (dq_t (dq_t dzX12_isIn_0))
theorem dX12_isIn_3 : decode cX12_isIn 3 = .ok (.ifCond .lt 14, 3) := dq_h (dq_t (dq_t (dq_t dzX12_isIn_0)))
theorem dX12_isIn_6 : decode cX12_isIn 6 = .ok (.lload_n 0, 1) := dq_h (dq_t (dq_t (dq_t (dq_t dzX12_isIn_0))))
theorem dX12_isIn_7 : decode cX12_isIn 7 = .ok (.lload 4, 2) := dq_h (dq_t (dq_t (dq_t (dq_t (dq_t dzX12_isIn_0)))))
theorem dX12_isIn_9 : decode cX12_isIn 9 = .ok (.lcmp, 1) := dq_h (dq_t (dq_t (dq_t (dq_t (dq_t (dq_t dzX12_isIn_0))))))
theorem dX12_isIn_10 : decode cX12_isIn 10 = .ok (.ifCond .gt 7, 3) := dq_h (dq_t (dq_t (dq_t (dq_t (dq_t (dq_t (dq_t dzX12_isIn_0)))))))
theorem dX12_isIn_13 : decode cX12_isIn 13 = .ok (.iconst 1, 1) := dq_h (dq_t (dq_t (dq_t (dq_t (dq_t (dq_t (dq_t (dq_t dzX12_isIn_0))))))))
theorem dX12_isIn_14 : decode cX12_isIn 14 = .ok (.goto 4, 3) := dq_h (dq_t (dq_t (dq_t (dq_t (dq_t (dq_t (dq_t (dq_t (dq_t dzX12_isIn_0)))))))))
theorem dX12_isIn_17 : decode cX12_isIn 17 = .ok (.iconst 0, 1) := dq_h (dq_t (dq_t (dq_t (dq_t (dq_t (dq_t (dq_t (dq_t (dq_t (dq_t dzX12_isIn_0))))))))))
theorem dX12_isIn_18 : decode cX12_isIn 18 = .ok (.ireturn, 1) := dq_h (dq_t (dq_t (dq_t (dq_t (dq_t (dq_t (dq_t (dq_t (dq_t (dq_t (dq_t dzX12_isIn_0)))))))))))
theorem dzX12_isOf_0 : dq_F cX12_isOf [(0, .iload_n 0, 1), (1, .iload_n 1, 1), (2, .ishr, 1), (3, .iconst 1, 1), (4, .iand, 1), (5, .iconst 1, 1), (6, .if_icmp .ne 7, 3), (9, .iconst 1, 1), (10, .goto 4, 3), (13, .iconst 0, 1), (14, .ireturn, 1)] := dq_s 11 0 (by decide +kernel)
theorem dX12_isOf_0 : decode cX12_isOf 0 = .ok (.iload_n 0, 1) := dq_h dzX12_isOf_0
theorem dX12_isOf_1 : decode cX12_isOf 1 = .ok (.iload_n 1, 1) := dq_h (dq_t dzX12_isOf_0)
theorem dX12_isOf_2 : decode cX12_isOf 2 = .ok (.ishr, 1) := dq_h (dq_t (dq_t dzX12_isOf_0))
theorem dX12_isOf_3 : decode cX12_isOf 3 = .ok (.iconst 1, 1) := dq_h (dq_t (dq_t (dq_t dzX12_isOf_0)))
theorem dX12_isOf_4 : decode cX12_isOf 4 = .ok (.iand, 1) := dq_h (dq_t (dq_t (dq_t (dq_t dzX12_isOf_0))))
theorem dX12_isOf_5 : decode cX12_isOf 5 = .ok (.iconst 1, 1) := dq_h (dq_t (dq_t (dq_t (dq_t (dq_t dzX12_isOf_0)))))
theorem dX12_isOf_6 : decode cX12_isOf 6 = .ok (.if_icmp .ne 7, 3) := dq_h (dq_t (dq_t (dq_t (dq_t (dq_t (dq_t dzX12_isOf_0))))))
theorem dX12_isOf_9 : decode cX12_isOf 9 = .ok (.iconst 1, 1) := dq_h (dq_t (dq_t (dq_t (dq_t (dq_t (dq_t (dq_t dzX12_isOf_0)))))))
theorem dX12_isOf_10 : decode cX12_isOf 10 = .ok (.goto 4, 3) := dq_h (dq_t (dq_t (dq_t (dq_t (dq_t (dq_t (dq_t (dq_t dzX12_isOf_0))))))))
theorem dX12_isOf_13 : decode cX12_isOf 13 = .ok (.iconst 0, 1) := dq_h (dq_t (dq_t (dq_t (dq_t (dq_t (dq_t (dq_t (dq_t (dq_t dzX12_isOf_0)))))))))
theorem dX12_isOf_14 : decode cX12_isOf 14 = .ok (.ireturn, 1) := dq_h (dq_t (dq_t (dq_t (dq_t (dq_t (dq_t (dq_t (dq_t (dq_t (dq_t dzX12_isOf_0))))))))))
theorem dzX12_bitsOf_0 : dq_F cX12_bitsOf [(0, .iconst 0, 1), (1, .istore_n 1, 1), (2, .iload_n 0, 1), (3, .istore_n 2, 1), (4, .iload_n 2, 1), (5, .ifCond .eq 15, 3), (8, .iinc 1 1, 3), (11, .iload_n 2, 1), (12, .iload_n 2, 1), (13, .iconst 1, 1), (14, .isub, 1), (15, .iand, 1), (16, .istore_n 2, 1), (17, .goto (-13), 3), (20, .iload_n 1, 1), (21, .ireturn, 1)] := dq_s 16 0 (by decide +kernel)
theorem dX12_bitsOf_0 : decode cX12_bitsOf 0 = .ok (.iconst 0, 1) := dq_h dzX12_bitsOf_0
theorem dX12_bitsOf_1 : decode cX12_bitsOf 1 = .ok (.istore_n 1, 1) := dq_h (dq_t dzX12_bitsOf_0)
theorem dX12_bitsOf_2 : decode cX12_bitsOf 2 = .ok (.iload_n 0, 1) := dq_h (dq_t (dq_t dzX12_bitsOf_0))
theorem dX12_bitsOf_3 : decode cX12_bitsOf 3 = .ok (.istore_n 2, 1) := dq_h (dq_t (dq_t (dq_t dzX12_bitsOf_0)))
theorem dX12_bitsOf_4 : decode cX12_bitsOf 4 = .ok (.iload_n 2, 1) := dq_h (dq_t (dq_t (dq_t (dq_t dzX12_bitsOf_0))))
theorem dX12_bitsOf_5 : decode cX12_bitsOf 5 = .ok (.ifCond .eq 15, 3) := dq_h (dq_t (dq_t (dq_t (dq_t (dq_t dzX12_bitsOf_0)))))
theorem dX12_bitsOf_8 : decode cX12_bitsOf 8 = .ok (.iinc 1 1, 3) := dq_h (dq_t (dq_t (dq_t (dq_t (dq_t (dq_t dzX12_bitsOf_0))))))
theorem dX12_bitsOf_11 : decode cX12_bitsOf 11 = .ok (.iload_n 2, 1) := dq_h (dq_t (dq_t (dq_t (dq_t (dq_t (dq_t (dq_t dzX12_bitsOf_0)))))))
theorem dX12_bitsOf_12 : decode cX12_bitsOf 12 = .ok (.iload_n 2, 1) := dq_h (dq_t (dq_t (dq_t (dq_t (dq_t (dq_t (dq_t (dq_t dzX12_bitsOf_0))))))))
theorem dX12_bitsOf_13 : decode cX12_bitsOf 13 = .ok (.iconst 1, 1) := dq_h (dq_t (dq_t (dq_t (dq_t (dq_t (dq_t (dq_t (dq_t (dq_t dzX12_bitsOf_0)))))))))
theorem dX12_bitsOf_14 : decode cX12_bitsOf 14 = .ok (.isub, 1) := dq_h (dq_t (dq_t (dq_t (dq_t (dq_t (dq_t (dq_t (dq_t (dq_t (dq_t dzX12_bitsOf_0))))))))))
theorem dX12_bitsOf_15 : decode cX12_bitsOf 15 = .ok (.iand, 1) := dq_h (dq_t (dq_t (dq_t (dq_t (dq_t (dq_t (dq_t (dq_t (dq_t (dq_t (dq_t dzX12_bitsOf_0)))))))))))
theorem dX12_bitsOf_16 : decode cX12_bitsOf 16 = .ok (.istore_n 2, 1) := dq_h (dq_t (dq_t (dq_t (dq_t (dq_t (dq_t (dq_t (dq_t (dq_t (dq_t (dq_t (dq_t dzX12_bitsOf_0))))))))))))
theorem dX12_bitsOf_17 : decode cX12_bitsOf 17 = .ok (.goto (-13), 3) := dq_h (dq_t (dq_t (dq_t (dq_t (dq_t (dq_t (dq_t (dq_t (dq_t (dq_t (dq_t (dq_t (dq_t dzX12_bitsOf_0)))))))))))))
theorem dX12_bitsOf_20 : decode cX12_bitsOf 20 = .ok (.iload_n 1, 1) := dq_h (dq_t (dq_t (dq_t (dq_t (dq_t (dq_t (dq_t (dq_t (dq_t (dq_t (dq_t (dq_t (dq_t (dq_t dzX12_bitsOf_0))))))))))))))
theorem dX12_bitsOf_21 : decode cX12_bitsOf 21 = .ok (.ireturn, 1) := dq_h (dq_t (dq_t (dq_t (dq_t (dq_t (dq_t (dq_t (dq_t (dq_t (dq_t (dq_t (dq_t (dq_t (dq_t (dq_t dzX12_bitsOf_0)))))))))))))))
theorem dzX12_isGrotto_0 : dq_F cX12_isGrotto [(0, .iload_n 1, 1), (1, .i2l, 1), (2, .lconst 0, 1), (3, .aload_n 0, 1), (4, .getfield 42, 3), (7, .iconst 0, 1), (8, .iaload, 1), (9, .iconst 1, 1), (10, .isub, 1), (11, .i2l, 1), (12, .invokestatic 158, 3), (15, .ireturn, 1)] := dq_s 12 0 (by decide +kernel)
theorem dX12_isGrotto_0 : decode cX12_isGrotto 0 = .ok (.iload_n 1, 1) := dq_h dzX12_isGrotto_0
theorem dX12_isGrotto_1 : decode cX12_isGrotto 1 = .ok (.i2l, 1) := dq_h (dq_t dzX12_isGrotto_0)
theorem dX12_isGrotto_2 : decode cX12_isGrotto 2 = .ok (.lconst 0, 1) := dq_h (dq_t (dq_t dzX12_isGrotto_0))
theorem dX12_isGrotto_3 : decode cX12_isGrotto 3 = .ok (.aload_n 0, 1) := dq_h (dq_t (dq_t (dq_t dzX12_isGrotto_0)))
theorem dX12_isGrotto_4 : decode cX12_isGrotto 4 = .ok (.getfield 42, 3) := dq_h (dq_t (dq_t (dq_t (dq_t dzX12_isGrotto_0))))
theorem dX12_isGrotto_7 : decode cX12_isGrotto 7 = .ok (.iconst 0, 1) := dq_h (dq_t (dq_t (dq_t (dq_t (dq_t dzX12_isGrotto_0)))))
theorem dX12_isGrotto_8 : decode cX12_isGrotto 8 = .ok (.iaload, 1) := dq_h (dq_t (dq_t (dq_t (dq_t (dq_t (dq_t dzX12_isGrotto_0))))))
theorem dX12_isGrotto_9 : decode cX12_isGrotto 9 = .ok (.iconst 1, 1) := dq_h (dq_t (dq_t (dq_t (dq_t (dq_t (dq_t (dq_t dzX12_isGrotto_0)))))))
theorem dX12_isGrotto_10 : decode cX12_isGrotto 10 = .ok (.isub, 1) := dq_h (dq_t (dq_t (dq_t (dq_t (dq_t (dq_t (dq_t (dq_t dzX12_isGrotto_0))))))))
theorem dX12_isGrotto_11 : decode cX12_isGrotto 11 = .ok (.i2l, 1) := dq_h (dq_t (dq_t (dq_t (dq_t (dq_t (dq_t (dq_t (dq_t (dq_t dzX12_isGrotto_0)))))))))
theorem dX12_isGrotto_12 : decode cX12_isGrotto 12 = .ok (.invokestatic 158, 3) := dq_h (dq_t (dq_t (dq_t (dq_t (dq_t (dq_t (dq_t (dq_t (dq_t (dq_t dzX12_isGrotto_0))))))))))
theorem dX12_isGrotto_15 : decode cX12_isGrotto 15 = .ok (.ireturn, 1) := dq_h (dq_t (dq_t (dq_t (dq_t (dq_t (dq_t (dq_t (dq_t (dq_t (dq_t (dq_t dzX12_isGrotto_0)))))))))))
theorem dzX12_isGuild_0 : dq_F cX12_isGuild [(0, .iload_n 1, 1), (1, .i2l, 1), (2, .lconst 0, 1), (3, .aload_n 0, 1), (4, .getfield 42, 3), (7, .iconst 1, 1), (8, .iaload, 1), (9, .iconst 1, 1), (10, .isub, 1), (11, .i2l, 1), (12, .invokestatic 158, 3), (15, .ireturn, 1)] := dq_s 12 0 (by decide +kernel)
theorem dX12_isGuild_0 : decode cX12_isGuild 0 = .ok (.iload_n 1, 1) := dq_h dzX12_isGuild_0
theorem dX12_isGuild_1 : decode cX12_isGuild 1 = .ok (.i2l, 1) := dq_h (dq_t dzX12_isGuild_0)
theorem dX12_isGuild_2 : decode cX12_isGuild 2 = .ok (.lconst 0, 1) := dq_h (dq_t (dq_t dzX12_isGuild_0))
theorem dX12_isGuild_3 : decode cX12_isGuild 3 = .ok (.aload_n 0, 1) := dq_h (dq_t (dq_t (dq_t dzX12_isGuild_0)))
theorem dX12_isGuild_4 : decode cX12_isGuild 4 = .ok (.getfield 42, 3) := dq_h (dq_t (dq_t (dq_t (dq_t dzX12_isGuild_0))))
theorem dX12_isGuild_7 : decode cX12_isGuild 7 = .ok (.iconst 1, 1) := dq_h (dq_t (dq_t (dq_t (dq_t (dq_t dzX12_isGuild_0)))))
theorem dX12_isGuild_8 : decode cX12_isGuild 8 = .ok (.iaload, 1) := dq_h (dq_t (dq_t (dq_t (dq_t (dq_t (dq_t dzX12_isGuild_0))))))
theorem dX12_isGuild_9 : decode cX12_isGuild 9 = .ok (.iconst 1, 1) := dq_h (dq_t (dq_t (dq_t (dq_t (dq_t (dq_t (dq_t dzX12_isGuild_0)))))))
theorem dX12_isGuild_10 : decode cX12_isGuild 10 = .ok (.isub, 1) := dq_h (dq_t (dq_t (dq_t (dq_t (dq_t (dq_t (dq_t (dq_t dzX12_isGuild_0))))))))
theorem dX12_isGuild_11 : decode cX12_isGuild 11 = .ok (.i2l, 1) := dq_h (dq_t (dq_t (dq_t (dq_t (dq_t (dq_t (dq_t (dq_t (dq_t dzX12_isGuild_0)))))))))
theorem dX12_isGuild_12 : decode cX12_isGuild 12 = .ok (.invokestatic 158, 3) := dq_h (dq_t (dq_t (dq_t (dq_t (dq_t (dq_t (dq_t (dq_t (dq_t (dq_t dzX12_isGuild_0))))))))))
theorem dX12_isGuild_15 : decode cX12_isGuild 15 = .ok (.ireturn, 1) := dq_h (dq_t (dq_t (dq_t (dq_t (dq_t (dq_t (dq_t (dq_t (dq_t (dq_t (dq_t dzX12_isGuild_0)))))))))))
theorem dzX12_feed_0 : dq_F cX12_feed [(0, .aload_n 0, 1), (1, .iconst 0, 1), (2, .putfield 155, 3), (5, .aload_n 0, 1), (6, .getfield 162, 3), (9, .bipush 20, 2), (11, .iadd, 1), (12, .sipush 700, 3), (15, .if_icmp .le 5, 3), (18, .iconst (-1), 1), (19, .ireturn, 1), (20, .iconst 0, 1), (21, .istore 6, 2), (23, .iload 6, 2), (25, .bipush 20, 2), (27, .if_icmp .ge 93, 3), (30, .iload 6, 2), (32, .iconst 4, 1), (33, .if_icmp .ge 7, 3), (36, .iload_n 1, 1), (37, .goto 39, 3), (40, .iload 6, 2), (42, .bipush 8, 2), (44, .if_icmp .ge 7, 3)] := dq_s 24 0 (by decide +kernel)
theorem dX12_feed_0 : decode cX12_feed 0 = .ok (.aload_n 0, 1) := dq_h dzX12_feed_0
theorem dX12_feed_1 : decode cX12_feed 1 = .ok (.iconst 0, 1) := dq_h (dq_t dzX12_feed_0)
theorem dX12_feed_2 : decode cX12_feed 2 = .ok (.putfield 155, 3) := dq_h (dq_t (dq_t dzX12_feed_0))
theorem dX12_feed_5 : decode cX12_feed 5 = .ok (.aload_n 0, 1) := dq_h (dq_t (dq_t (dq_t dzX12_feed_0)))
theorem dX12_feed_6 : decode cX12_feed 6 = .ok (.getfield 162, 3) := dq_h (dq_t (dq_t (dq_t (dq_t dzX12_feed_0))))
theorem dX12_feed_9 : decode cX12_feed 9 = .ok (.bipush 20, 2) := dq_h (dq_t (dq_t (dq_t (dq_t (dq_t dzX12_feed_0)))))
theorem dX12_feed_11 : decode cX12_feed 11 = .ok (.iadd, 1) := dq_h (dq_t (dq_t (dq_t (dq_t (dq_t (dq_t dzX12_feed_0))))))
theorem dX12_feed_12 : decode cX12_feed 12 = .ok (.sipush 700, 3) := dq_h (dq_t (dq_t (dq_t (dq_t (dq_t (dq_t (dq_t dzX12_feed_0)))))))
theorem dX12_feed_15 : decode cX12_feed 15 = .ok (.if_icmp .le 5, 3) := dq_h (dq_t (dq_t (dq_t (dq_t (dq_t (dq_t (dq_t (dq_t dzX12_feed_0))))))))
theorem dX12_feed_18 : decode cX12_feed 18 = .ok (.iconst (-1), 1) := dq_h (dq_t (dq_t (dq_t (dq_t (dq_t (dq_t (dq_t (dq_t (dq_t dzX12_feed_0)))))))))
theorem dX12_feed_19 : decode cX12_feed 19 = .ok (.ireturn, 1) := dq_h (dq_t (dq_t (dq_t (dq_t (dq_t (dq_t (dq_t (dq_t (dq_t (dq_t dzX12_feed_0))))))))))
theorem dX12_feed_20 : decode cX12_feed 20 = .ok (.iconst 0, 1) := dq_h (dq_t (dq_t (dq_t (dq_t (dq_t (dq_t (dq_t (dq_t (dq_t (dq_t (dq_t dzX12_feed_0)))))))))))
theorem dX12_feed_21 : decode cX12_feed 21 = .ok (.istore 6, 2) := dq_h (dq_t (dq_t (dq_t (dq_t (dq_t (dq_t (dq_t (dq_t (dq_t (dq_t (dq_t (dq_t dzX12_feed_0))))))))))))
theorem dX12_feed_23 : decode cX12_feed 23 = .ok (.iload 6, 2) := dq_h (dq_t (dq_t (dq_t (dq_t (dq_t (dq_t (dq_t (dq_t (dq_t (dq_t (dq_t (dq_t (dq_t dzX12_feed_0)))))))))))))
theorem dX12_feed_25 : decode cX12_feed 25 = .ok (.bipush 20, 2) := dq_h (dq_t (dq_t (dq_t (dq_t (dq_t (dq_t (dq_t (dq_t (dq_t (dq_t (dq_t (dq_t (dq_t (dq_t dzX12_feed_0))))))))))))))
theorem dX12_feed_27 : decode cX12_feed 27 = .ok (.if_icmp .ge 93, 3) := dq_h (dq_t (dq_t (dq_t (dq_t (dq_t (dq_t (dq_t (dq_t (dq_t (dq_t (dq_t (dq_t (dq_t (dq_t (dq_t dzX12_feed_0)))))))))))))))
theorem dX12_feed_30 : decode cX12_feed 30 = .ok (.iload 6, 2) := dq_h (dq_t (dq_t (dq_t (dq_t (dq_t (dq_t (dq_t (dq_t (dq_t (dq_t (dq_t (dq_t (dq_t (dq_t (dq_t (dq_t dzX12_feed_0))))))))))))))))
theorem dX12_feed_32 : decode cX12_feed 32 = .ok (.iconst 4, 1) := dq_h (dq_t (dq_t (dq_t (dq_t (dq_t (dq_t (dq_t (dq_t (dq_t (dq_t (dq_t (dq_t (dq_t (dq_t (dq_t (dq_t (dq_t dzX12_feed_0)))))))))))))))))
theorem dX12_feed_33 : decode cX12_feed 33 = .ok (.if_icmp .ge 7, 3) := dq_h (dq_t (dq_t (dq_t (dq_t (dq_t (dq_t (dq_t (dq_t (dq_t (dq_t (dq_t (dq_t (dq_t (dq_t (dq_t (dq_t (dq_t (dq_t dzX12_feed_0))))))))))))))))))
theorem dX12_feed_36 : decode cX12_feed 36 = .ok (.iload_n 1, 1) := dq_h (dq_t (dq_t (dq_t (dq_t (dq_t (dq_t (dq_t (dq_t (dq_t (dq_t (dq_t (dq_t (dq_t (dq_t (dq_t (dq_t (dq_t (dq_t (dq_t dzX12_feed_0)))))))))))))))))))
theorem dX12_feed_37 : decode cX12_feed 37 = .ok (.goto 39, 3) := dq_h (dq_t (dq_t (dq_t (dq_t (dq_t (dq_t (dq_t (dq_t (dq_t (dq_t (dq_t (dq_t (dq_t (dq_t (dq_t (dq_t (dq_t (dq_t (dq_t (dq_t dzX12_feed_0))))))))))))))))))))
theorem dX12_feed_40 : decode cX12_feed 40 = .ok (.iload 6, 2) := dq_h (dq_t (dq_t (dq_t (dq_t (dq_t (dq_t (dq_t (dq_t (dq_t (dq_t (dq_t (dq_t (dq_t (dq_t (dq_t (dq_t (dq_t (dq_t (dq_t (dq_t (dq_t dzX12_feed_0)))))))))))))))))))))
theorem dX12_feed_42 : decode cX12_feed 42 = .ok (.bipush 8, 2) := dq_h (dq_t (dq_t (dq_t (dq_t (dq_t (dq_t (dq_t (dq_t (dq_t (dq_t (dq_t (dq_t (dq_t (dq_t (dq_t (dq_t (dq_t (dq_t (dq_t (dq_t (dq_t (dq_t dzX12_feed_0))))))))))))))))))))))
theorem dX12_feed_44 : decode cX12_feed 44 = .ok (.if_icmp .ge 7, 3) := dq_h (dq_t (dq_t (dq_t (dq_t (dq_t (dq_t (dq_t (dq_t (dq_t (dq_t (dq_t (dq_t (dq_t (dq_t (dq_t (dq_t (dq_t (dq_t (dq_t (dq_t (dq_t (dq_t (dq_t dzX12_feed_0)))))))))))))))))))))))
theorem dzX12_feed_47 : dq_F cX12_feed [(47, .iload_n 2, 1), (48, .goto 28, 3), (51, .iload 6, 2), (53, .bipush 12, 2), (55, .if_icmp .ge 7, 3), (58, .iload_n 3, 1), (59, .goto 17, 3), (62, .iload 6, 2), (64, .bipush 16, 2), (66, .if_icmp .ge 8, 3), (69, .iload 4, 2), (71, .goto 5, 3), (74, .iload 5, 2), (76, .istore 7, 2), (78, .aload_n 0, 1), (79, .getfield 81, 3), (82, .aload_n 0, 1), (83, .getfield 162, 3), (86, .iload 7, 2), (88, .bipush 24, 2), (90, .bipush 8, 2), (92, .iload 6, 2), (94, .iconst 4, 1), (95, .irem, 1)] := dq_s 24 47 (by decide +kernel)
theorem dX12_feed_47 : decode cX12_feed 47 = .ok (.iload_n 2, 1) := dq_h dzX12_feed_47
theorem dX12_feed_48 : decode cX12_feed 48 = .ok (.goto 28, 3) := dq_h (dq_t dzX12_feed_47)
theorem dX12_feed_51 : decode cX12_feed 51 = .ok (.iload 6, 2) := dq_h (dq_t (dq_t dzX12_feed_47))
theorem dX12_feed_53 : decode cX12_feed 53 = .ok (.bipush 12, 2) := dq_h (dq_t (dq_t (dq_t dzX12_feed_47)))
theorem dX12_feed_55 : decode cX12_feed 55 = .ok (.if_icmp .ge 7, 3) := dq_h (dq_t (dq_t (dq_t (dq_t dzX12_feed_47))))
theorem dX12_feed_58 : decode cX12_feed 58 = .ok (.iload_n 3, 1) := dq_h (dq_t (dq_t (dq_t (dq_t (dq_t dzX12_feed_47)))))
theorem dX12_feed_59 : decode cX12_feed 59 = .ok (.goto 17, 3) := dq_h (dq_t (dq_t (dq_t (dq_t (dq_t (dq_t dzX12_feed_47))))))
theorem dX12_feed_62 : decode cX12_feed 62 = .ok (.iload 6, 2) := dq_h (dq_t (dq_t (dq_t (dq_t (dq_t (dq_t (dq_t dzX12_feed_47)))))))
theorem dX12_feed_64 : decode cX12_feed 64 = .ok (.bipush 16, 2) := dq_h (dq_t (dq_t (dq_t (dq_t (dq_t (dq_t (dq_t (dq_t dzX12_feed_47))))))))
theorem dX12_feed_66 : decode cX12_feed 66 = .ok (.if_icmp .ge 8, 3) := dq_h (dq_t (dq_t (dq_t (dq_t (dq_t (dq_t (dq_t (dq_t (dq_t dzX12_feed_47)))))))))
theorem dX12_feed_69 : decode cX12_feed 69 = .ok (.iload 4, 2) := dq_h (dq_t (dq_t (dq_t (dq_t (dq_t (dq_t (dq_t (dq_t (dq_t (dq_t dzX12_feed_47))))))))))
theorem dX12_feed_71 : decode cX12_feed 71 = .ok (.goto 5, 3) := dq_h (dq_t (dq_t (dq_t (dq_t (dq_t (dq_t (dq_t (dq_t (dq_t (dq_t (dq_t dzX12_feed_47)))))))))))
theorem dX12_feed_74 : decode cX12_feed 74 = .ok (.iload 5, 2) := dq_h (dq_t (dq_t (dq_t (dq_t (dq_t (dq_t (dq_t (dq_t (dq_t (dq_t (dq_t (dq_t dzX12_feed_47))))))))))))
theorem dX12_feed_76 : decode cX12_feed 76 = .ok (.istore 7, 2) := dq_h (dq_t (dq_t (dq_t (dq_t (dq_t (dq_t (dq_t (dq_t (dq_t (dq_t (dq_t (dq_t (dq_t dzX12_feed_47)))))))))))))
theorem dX12_feed_78 : decode cX12_feed 78 = .ok (.aload_n 0, 1) := dq_h (dq_t (dq_t (dq_t (dq_t (dq_t (dq_t (dq_t (dq_t (dq_t (dq_t (dq_t (dq_t (dq_t (dq_t dzX12_feed_47))))))))))))))
theorem dX12_feed_79 : decode cX12_feed 79 = .ok (.getfield 81, 3) := dq_h (dq_t (dq_t (dq_t (dq_t (dq_t (dq_t (dq_t (dq_t (dq_t (dq_t (dq_t (dq_t (dq_t (dq_t (dq_t dzX12_feed_47)))))))))))))))
theorem dX12_feed_82 : decode cX12_feed 82 = .ok (.aload_n 0, 1) := dq_h (dq_t (dq_t (dq_t (dq_t (dq_t (dq_t (dq_t (dq_t (dq_t (dq_t (dq_t (dq_t (dq_t (dq_t (dq_t (dq_t dzX12_feed_47))))))))))))))))
theorem dX12_feed_83 : decode cX12_feed 83 = .ok (.getfield 162, 3) := dq_h (dq_t (dq_t (dq_t (dq_t (dq_t (dq_t (dq_t (dq_t (dq_t (dq_t (dq_t (dq_t (dq_t (dq_t (dq_t (dq_t (dq_t dzX12_feed_47)))))))))))))))))
theorem dX12_feed_86 : decode cX12_feed 86 = .ok (.iload 7, 2) := dq_h (dq_t (dq_t (dq_t (dq_t (dq_t (dq_t (dq_t (dq_t (dq_t (dq_t (dq_t (dq_t (dq_t (dq_t (dq_t (dq_t (dq_t (dq_t dzX12_feed_47))))))))))))))))))
theorem dX12_feed_88 : decode cX12_feed 88 = .ok (.bipush 24, 2) := dq_h (dq_t (dq_t (dq_t (dq_t (dq_t (dq_t (dq_t (dq_t (dq_t (dq_t (dq_t (dq_t (dq_t (dq_t (dq_t (dq_t (dq_t (dq_t (dq_t dzX12_feed_47)))))))))))))))))))
theorem dX12_feed_90 : decode cX12_feed 90 = .ok (.bipush 8, 2) := dq_h (dq_t (dq_t (dq_t (dq_t (dq_t (dq_t (dq_t (dq_t (dq_t (dq_t (dq_t (dq_t (dq_t (dq_t (dq_t (dq_t (dq_t (dq_t (dq_t (dq_t dzX12_feed_47))))))))))))))))))))
theorem dX12_feed_92 : decode cX12_feed 92 = .ok (.iload 6, 2) := dq_h (dq_t (dq_t (dq_t (dq_t (dq_t (dq_t (dq_t (dq_t (dq_t (dq_t (dq_t (dq_t (dq_t (dq_t (dq_t (dq_t (dq_t (dq_t (dq_t (dq_t (dq_t dzX12_feed_47)))))))))))))))))))))
theorem dX12_feed_94 : decode cX12_feed 94 = .ok (.iconst 4, 1) := dq_h (dq_t (dq_t (dq_t (dq_t (dq_t (dq_t (dq_t (dq_t (dq_t (dq_t (dq_t (dq_t (dq_t (dq_t (dq_t (dq_t (dq_t (dq_t (dq_t (dq_t (dq_t (dq_t dzX12_feed_47))))))))))))))))))))))
theorem dX12_feed_95 : decode cX12_feed 95 = .ok (.irem, 1) := dq_h (dq_t (dq_t (dq_t (dq_t (dq_t (dq_t (dq_t (dq_t (dq_t (dq_t (dq_t (dq_t (dq_t (dq_t (dq_t (dq_t (dq_t (dq_t (dq_t (dq_t (dq_t (dq_t (dq_t dzX12_feed_47)))))))))))))))))))))))
theorem dzX12_feed_96 : dq_F cX12_feed [(96, .imul, 1), (97, .isub, 1), (98, .ishr, 1), (99, .sipush 255, 3), (102, .iand, 1), (103, .iastore, 1), (104, .aload_n 0, 1), (105, .dup, 1), (106, .getfield 162, 3), (109, .iconst 1, 1), (110, .iadd, 1), (111, .putfield 162, 3), (114, .iinc 6 1, 3), (117, .goto (-94), 3), (120, .aload_n 0, 1), (121, .getfield 162, 3), (124, .ireturn, 1)] := dq_s 17 96 (by decide +kernel)
theorem dX12_feed_96 : decode cX12_feed 96 = .ok (.imul, 1) := dq_h dzX12_feed_96
theorem dX12_feed_97 : decode cX12_feed 97 = .ok (.isub, 1) := dq_h (dq_t dzX12_feed_96)
theorem dX12_feed_98 : decode cX12_feed 98 = .ok (.ishr, 1) := dq_h (dq_t (dq_t dzX12_feed_96))
theorem dX12_feed_99 : decode cX12_feed 99 = .ok (.sipush 255, 3) := dq_h (dq_t (dq_t (dq_t dzX12_feed_96)))
theorem dX12_feed_102 : decode cX12_feed 102 = .ok (.iand, 1) := dq_h (dq_t (dq_t (dq_t (dq_t dzX12_feed_96))))
theorem dX12_feed_103 : decode cX12_feed 103 = .ok (.iastore, 1) := dq_h (dq_t (dq_t (dq_t (dq_t (dq_t dzX12_feed_96)))))
theorem dX12_feed_104 : decode cX12_feed 104 = .ok (.aload_n 0, 1) := dq_h (dq_t (dq_t (dq_t (dq_t (dq_t (dq_t dzX12_feed_96))))))
theorem dX12_feed_105 : decode cX12_feed 105 = .ok (.dup, 1) := dq_h (dq_t (dq_t (dq_t (dq_t (dq_t (dq_t (dq_t dzX12_feed_96)))))))
theorem dX12_feed_106 : decode cX12_feed 106 = .ok (.getfield 162, 3) := dq_h (dq_t (dq_t (dq_t (dq_t (dq_t (dq_t (dq_t (dq_t dzX12_feed_96))))))))
theorem dX12_feed_109 : decode cX12_feed 109 = .ok (.iconst 1, 1) := dq_h (dq_t (dq_t (dq_t (dq_t (dq_t (dq_t (dq_t (dq_t (dq_t dzX12_feed_96)))))))))
theorem dX12_feed_110 : decode cX12_feed 110 = .ok (.iadd, 1) := dq_h (dq_t (dq_t (dq_t (dq_t (dq_t (dq_t (dq_t (dq_t (dq_t (dq_t dzX12_feed_96))))))))))
theorem dX12_feed_111 : decode cX12_feed 111 = .ok (.putfield 162, 3) := dq_h (dq_t (dq_t (dq_t (dq_t (dq_t (dq_t (dq_t (dq_t (dq_t (dq_t (dq_t dzX12_feed_96)))))))))))
theorem dX12_feed_114 : decode cX12_feed 114 = .ok (.iinc 6 1, 3) := dq_h (dq_t (dq_t (dq_t (dq_t (dq_t (dq_t (dq_t (dq_t (dq_t (dq_t (dq_t (dq_t dzX12_feed_96))))))))))))
theorem dX12_feed_117 : decode cX12_feed 117 = .ok (.goto (-94), 3) := dq_h (dq_t (dq_t (dq_t (dq_t (dq_t (dq_t (dq_t (dq_t (dq_t (dq_t (dq_t (dq_t (dq_t dzX12_feed_96)))))))))))))
theorem dX12_feed_120 : decode cX12_feed 120 = .ok (.aload_n 0, 1) := dq_h (dq_t (dq_t (dq_t (dq_t (dq_t (dq_t (dq_t (dq_t (dq_t (dq_t (dq_t (dq_t (dq_t (dq_t dzX12_feed_96))))))))))))))
theorem dX12_feed_121 : decode cX12_feed 121 = .ok (.getfield 162, 3) := dq_h (dq_t (dq_t (dq_t (dq_t (dq_t (dq_t (dq_t (dq_t (dq_t (dq_t (dq_t (dq_t (dq_t (dq_t (dq_t dzX12_feed_96)))))))))))))))
theorem dX12_feed_124 : decode cX12_feed 124 = .ok (.ireturn, 1) := dq_h (dq_t (dq_t (dq_t (dq_t (dq_t (dq_t (dq_t (dq_t (dq_t (dq_t (dq_t (dq_t (dq_t (dq_t (dq_t (dq_t dzX12_feed_96))))))))))))))))
theorem dzX12_byteAt_0 : dq_F cX12_byteAt [(0, .iload_n 1, 1), (1, .aload_n 0, 1), (2, .getfield 165, 3), (5, .if_icmp .ge 12, 3), (8, .aload_n 0, 1), (9, .getfield 81, 3), (12, .iload_n 1, 1), (13, .iaload, 1), (14, .goto 4, 3), (17, .iconst (-1), 1), (18, .ireturn, 1)] := dq_s 11 0 (by decide +kernel)
theorem dX12_byteAt_0 : decode cX12_byteAt 0 = .ok (.iload_n 1, 1) := dq_h dzX12_byteAt_0
theorem dX12_byteAt_1 : decode cX12_byteAt 1 = .ok (.aload_n 0, 1) := dq_h (dq_t dzX12_byteAt_0)
theorem dX12_byteAt_2 : decode cX12_byteAt 2 = .ok (.getfield 165, 3) := dq_h (dq_t (dq_t dzX12_byteAt_0))
theorem dX12_byteAt_5 : decode cX12_byteAt 5 = .ok (.if_icmp .ge 12, 3) := dq_h (dq_t (dq_t (dq_t dzX12_byteAt_0)))
theorem dX12_byteAt_8 : decode cX12_byteAt 8 = .ok (.aload_n 0, 1) := dq_h (dq_t (dq_t (dq_t (dq_t dzX12_byteAt_0))))
theorem dX12_byteAt_9 : decode cX12_byteAt 9 = .ok (.getfield 81, 3) := dq_h (dq_t (dq_t (dq_t (dq_t (dq_t dzX12_byteAt_0)))))
theorem dX12_byteAt_12 : decode cX12_byteAt 12 = .ok (.iload_n 1, 1) := dq_h (dq_t (dq_t (dq_t (dq_t (dq_t (dq_t dzX12_byteAt_0))))))
theorem dX12_byteAt_13 : decode cX12_byteAt 13 = .ok (.iaload, 1) := dq_h (dq_t (dq_t (dq_t (dq_t (dq_t (dq_t (dq_t dzX12_byteAt_0)))))))
theorem dX12_byteAt_14 : decode cX12_byteAt 14 = .ok (.goto 4, 3) := dq_h (dq_t (dq_t (dq_t (dq_t (dq_t (dq_t (dq_t (dq_t dzX12_byteAt_0))))))))
theorem dX12_byteAt_17 : decode cX12_byteAt 17 = .ok (.iconst (-1), 1) := dq_h (dq_t (dq_t (dq_t (dq_t (dq_t (dq_t (dq_t (dq_t (dq_t dzX12_byteAt_0)))))))))
theorem dX12_byteAt_18 : decode cX12_byteAt 18 = .ok (.ireturn, 1) := dq_h (dq_t (dq_t (dq_t (dq_t (dq_t (dq_t (dq_t (dq_t (dq_t (dq_t dzX12_byteAt_0))))))))))
theorem dzX12_isLetter_0 : dq_F cX12_isLetter [(0, .iload_n 0, 1), (1, .bipush 97, 2), (3, .if_icmp .lt 13, 3), (6, .iload_n 0, 1), (7, .bipush 122, 2), (9, .if_icmp .gt 7, 3), (12, .iconst 1, 1), (13, .goto 4, 3), (16, .iconst 0, 1), (17, .ireturn, 1)] := dq_s 10 0 (by decide +kernel)
theorem dX12_isLetter_0 : decode cX12_isLetter 0 = .ok (.iload_n 0, 1) := dq_h dzX12_isLetter_0
theorem dX12_isLetter_1 : decode cX12_isLetter 1 = .ok (.bipush 97, 2) := dq_h (dq_t dzX12_isLetter_0)
theorem dX12_isLetter_3 : decode cX12_isLetter 3 = .ok (.if_icmp .lt 13, 3) := dq_h (dq_t (dq_t dzX12_isLetter_0))
theorem dX12_isLetter_6 : decode cX12_isLetter 6 = .ok (.iload_n 0, 1) := dq_h (dq_t (dq_t (dq_t dzX12_isLetter_0)))
theorem dX12_isLetter_7 : decode cX12_isLetter 7 = .ok (.bipush 122, 2) := dq_h (dq_t (dq_t (dq_t (dq_t dzX12_isLetter_0))))
theorem dX12_isLetter_9 : decode cX12_isLetter 9 = .ok (.if_icmp .gt 7, 3) := dq_h (dq_t (dq_t (dq_t (dq_t (dq_t dzX12_isLetter_0)))))
theorem dX12_isLetter_12 : decode cX12_isLetter 12 = .ok (.iconst 1, 1) := dq_h (dq_t (dq_t (dq_t (dq_t (dq_t (dq_t dzX12_isLetter_0))))))
theorem dX12_isLetter_13 : decode cX12_isLetter 13 = .ok (.goto 4, 3) := dq_h (dq_t (dq_t (dq_t (dq_t (dq_t (dq_t (dq_t dzX12_isLetter_0)))))))
theorem dX12_isLetter_16 : decode cX12_isLetter 16 = .ok (.iconst 0, 1) := dq_h (dq_t (dq_t (dq_t (dq_t (dq_t (dq_t (dq_t (dq_t dzX12_isLetter_0))))))))
theorem dX12_isLetter_17 : decode cX12_isLetter 17 = .ok (.ireturn, 1) := dq_h (dq_t (dq_t (dq_t (dq_t (dq_t (dq_t (dq_t (dq_t (dq_t dzX12_isLetter_0)))))))))
theorem dzX12_isDigit_0 : dq_F cX12_isDigit [(0, .iload_n 0, 1), (1, .bipush 48, 2), (3, .if_icmp .lt 13, 3), (6, .iload_n 0, 1), (7, .bipush 57, 2), (9, .if_icmp .gt 7, 3), (12, .iconst 1, 1), (13, .goto 4, 3), (16, .iconst 0, 1), (17, .ireturn, 1)] := dq_s 10 0 (by decide +kernel)
theorem dX12_isDigit_0 : decode cX12_isDigit 0 = .ok (.iload_n 0, 1) := dq_h dzX12_isDigit_0
theorem dX12_isDigit_1 : decode cX12_isDigit 1 = .ok (.bipush 48, 2) := dq_h (dq_t dzX12_isDigit_0)
theorem dX12_isDigit_3 : decode cX12_isDigit 3 = .ok (.if_icmp .lt 13, 3) := dq_h (dq_t (dq_t dzX12_isDigit_0))
theorem dX12_isDigit_6 : decode cX12_isDigit 6 = .ok (.iload_n 0, 1) := dq_h (dq_t (dq_t (dq_t dzX12_isDigit_0)))
theorem dX12_isDigit_7 : decode cX12_isDigit 7 = .ok (.bipush 57, 2) := dq_h (dq_t (dq_t (dq_t (dq_t dzX12_isDigit_0))))
theorem dX12_isDigit_9 : decode cX12_isDigit 9 = .ok (.if_icmp .gt 7, 3) := dq_h (dq_t (dq_t (dq_t (dq_t (dq_t dzX12_isDigit_0)))))
theorem dX12_isDigit_12 : decode cX12_isDigit 12 = .ok (.iconst 1, 1) := dq_h (dq_t (dq_t (dq_t (dq_t (dq_t (dq_t dzX12_isDigit_0))))))
theorem dX12_isDigit_13 : decode cX12_isDigit 13 = .ok (.goto 4, 3) := dq_h (dq_t (dq_t (dq_t (dq_t (dq_t (dq_t (dq_t dzX12_isDigit_0)))))))
theorem dX12_isDigit_16 : decode cX12_isDigit 16 = .ok (.iconst 0, 1) := dq_h (dq_t (dq_t (dq_t (dq_t (dq_t (dq_t (dq_t (dq_t dzX12_isDigit_0))))))))
theorem dX12_isDigit_17 : decode cX12_isDigit 17 = .ok (.ireturn, 1) := dq_h (dq_t (dq_t (dq_t (dq_t (dq_t (dq_t (dq_t (dq_t (dq_t dzX12_isDigit_0)))))))))
theorem dzX12_isMark_0 : dq_F cX12_isMark [(0, .iload_n 0, 1), (1, .bipush 59, 2), (3, .if_icmp .eq 51, 3), (6, .iload_n 0, 1), (7, .bipush 40, 2), (9, .if_icmp .eq 45, 3), (12, .iload_n 0, 1), (13, .bipush 41, 2), (15, .if_icmp .eq 39, 3), (18, .iload_n 0, 1), (19, .bipush 43, 2), (21, .if_icmp .eq 33, 3), (24, .iload_n 0, 1), (25, .bipush 45, 2), (27, .if_icmp .eq 27, 3), (30, .iload_n 0, 1), (31, .bipush 42, 2), (33, .if_icmp .eq 21, 3), (36, .iload_n 0, 1), (37, .bipush 47, 2), (39, .if_icmp .eq 15, 3), (42, .iload_n 0, 1), (43, .bipush 60, 2), (45, .if_icmp .eq 9, 3)] := dq_s 24 0 (by decide +kernel)
theorem dX12_isMark_0 : decode cX12_isMark 0 = .ok (.iload_n 0, 1) := dq_h dzX12_isMark_0
theorem dX12_isMark_1 : decode cX12_isMark 1 = .ok (.bipush 59, 2) := dq_h (dq_t dzX12_isMark_0)
theorem dX12_isMark_3 : decode cX12_isMark 3 = .ok (.if_icmp .eq 51, 3) := dq_h (dq_t (dq_t dzX12_isMark_0))
theorem dX12_isMark_6 : decode cX12_isMark 6 = .ok (.iload_n 0, 1) := dq_h (dq_t (dq_t (dq_t dzX12_isMark_0)))
theorem dX12_isMark_7 : decode cX12_isMark 7 = .ok (.bipush 40, 2) := dq_h (dq_t (dq_t (dq_t (dq_t dzX12_isMark_0))))
theorem dX12_isMark_9 : decode cX12_isMark 9 = .ok (.if_icmp .eq 45, 3) := dq_h (dq_t (dq_t (dq_t (dq_t (dq_t dzX12_isMark_0)))))
theorem dX12_isMark_12 : decode cX12_isMark 12 = .ok (.iload_n 0, 1) := dq_h (dq_t (dq_t (dq_t (dq_t (dq_t (dq_t dzX12_isMark_0))))))
theorem dX12_isMark_13 : decode cX12_isMark 13 = .ok (.bipush 41, 2) := dq_h (dq_t (dq_t (dq_t (dq_t (dq_t (dq_t (dq_t dzX12_isMark_0)))))))
theorem dX12_isMark_15 : decode cX12_isMark 15 = .ok (.if_icmp .eq 39, 3) := dq_h (dq_t (dq_t (dq_t (dq_t (dq_t (dq_t (dq_t (dq_t dzX12_isMark_0))))))))
theorem dX12_isMark_18 : decode cX12_isMark 18 = .ok (.iload_n 0, 1) := dq_h (dq_t (dq_t (dq_t (dq_t (dq_t (dq_t (dq_t (dq_t (dq_t dzX12_isMark_0)))))))))
theorem dX12_isMark_19 : decode cX12_isMark 19 = .ok (.bipush 43, 2) := dq_h (dq_t (dq_t (dq_t (dq_t (dq_t (dq_t (dq_t (dq_t (dq_t (dq_t dzX12_isMark_0))))))))))
theorem dX12_isMark_21 : decode cX12_isMark 21 = .ok (.if_icmp .eq 33, 3) := dq_h (dq_t (dq_t (dq_t (dq_t (dq_t (dq_t (dq_t (dq_t (dq_t (dq_t (dq_t dzX12_isMark_0)))))))))))
theorem dX12_isMark_24 : decode cX12_isMark 24 = .ok (.iload_n 0, 1) := dq_h (dq_t (dq_t (dq_t (dq_t (dq_t (dq_t (dq_t (dq_t (dq_t (dq_t (dq_t (dq_t dzX12_isMark_0))))))))))))
theorem dX12_isMark_25 : decode cX12_isMark 25 = .ok (.bipush 45, 2) := dq_h (dq_t (dq_t (dq_t (dq_t (dq_t (dq_t (dq_t (dq_t (dq_t (dq_t (dq_t (dq_t (dq_t dzX12_isMark_0)))))))))))))
theorem dX12_isMark_27 : decode cX12_isMark 27 = .ok (.if_icmp .eq 27, 3) := dq_h (dq_t (dq_t (dq_t (dq_t (dq_t (dq_t (dq_t (dq_t (dq_t (dq_t (dq_t (dq_t (dq_t (dq_t dzX12_isMark_0))))))))))))))
theorem dX12_isMark_30 : decode cX12_isMark 30 = .ok (.iload_n 0, 1) := dq_h (dq_t (dq_t (dq_t (dq_t (dq_t (dq_t (dq_t (dq_t (dq_t (dq_t (dq_t (dq_t (dq_t (dq_t (dq_t dzX12_isMark_0)))))))))))))))
theorem dX12_isMark_31 : decode cX12_isMark 31 = .ok (.bipush 42, 2) := dq_h (dq_t (dq_t (dq_t (dq_t (dq_t (dq_t (dq_t (dq_t (dq_t (dq_t (dq_t (dq_t (dq_t (dq_t (dq_t (dq_t dzX12_isMark_0))))))))))))))))
theorem dX12_isMark_33 : decode cX12_isMark 33 = .ok (.if_icmp .eq 21, 3) := dq_h (dq_t (dq_t (dq_t (dq_t (dq_t (dq_t (dq_t (dq_t (dq_t (dq_t (dq_t (dq_t (dq_t (dq_t (dq_t (dq_t (dq_t dzX12_isMark_0)))))))))))))))))
theorem dX12_isMark_36 : decode cX12_isMark 36 = .ok (.iload_n 0, 1) := dq_h (dq_t (dq_t (dq_t (dq_t (dq_t (dq_t (dq_t (dq_t (dq_t (dq_t (dq_t (dq_t (dq_t (dq_t (dq_t (dq_t (dq_t (dq_t dzX12_isMark_0))))))))))))))))))
theorem dX12_isMark_37 : decode cX12_isMark 37 = .ok (.bipush 47, 2) := dq_h (dq_t (dq_t (dq_t (dq_t (dq_t (dq_t (dq_t (dq_t (dq_t (dq_t (dq_t (dq_t (dq_t (dq_t (dq_t (dq_t (dq_t (dq_t (dq_t dzX12_isMark_0)))))))))))))))))))
theorem dX12_isMark_39 : decode cX12_isMark 39 = .ok (.if_icmp .eq 15, 3) := dq_h (dq_t (dq_t (dq_t (dq_t (dq_t (dq_t (dq_t (dq_t (dq_t (dq_t (dq_t (dq_t (dq_t (dq_t (dq_t (dq_t (dq_t (dq_t (dq_t (dq_t dzX12_isMark_0))))))))))))))))))))
theorem dX12_isMark_42 : decode cX12_isMark 42 = .ok (.iload_n 0, 1) := dq_h (dq_t (dq_t (dq_t (dq_t (dq_t (dq_t (dq_t (dq_t (dq_t (dq_t (dq_t (dq_t (dq_t (dq_t (dq_t (dq_t (dq_t (dq_t (dq_t (dq_t (dq_t dzX12_isMark_0)))))))))))))))))))))
theorem dX12_isMark_43 : decode cX12_isMark 43 = .ok (.bipush 60, 2) := dq_h (dq_t (dq_t (dq_t (dq_t (dq_t (dq_t (dq_t (dq_t (dq_t (dq_t (dq_t (dq_t (dq_t (dq_t (dq_t (dq_t (dq_t (dq_t (dq_t (dq_t (dq_t (dq_t dzX12_isMark_0))))))))))))))))))))))
theorem dX12_isMark_45 : decode cX12_isMark 45 = .ok (.if_icmp .eq 9, 3) := dq_h (dq_t (dq_t (dq_t (dq_t (dq_t (dq_t (dq_t (dq_t (dq_t (dq_t (dq_t (dq_t (dq_t (dq_t (dq_t (dq_t (dq_t (dq_t (dq_t (dq_t (dq_t (dq_t (dq_t dzX12_isMark_0)))))))))))))))))))))))
theorem dzX12_isMark_48 : dq_F cX12_isMark [(48, .iload_n 0, 1), (49, .bipush 61, 2), (51, .if_icmp .ne 7, 3), (54, .iconst 1, 1), (55, .goto 4, 3), (58, .iconst 0, 1), (59, .ireturn, 1)] := dq_s 7 48 (by decide +kernel)
theorem dX12_isMark_48 : decode cX12_isMark 48 = .ok (.iload_n 0, 1) := dq_h dzX12_isMark_48
theorem dX12_isMark_49 : decode cX12_isMark 49 = .ok (.bipush 61, 2) := dq_h (dq_t dzX12_isMark_48)
theorem dX12_isMark_51 : decode cX12_isMark 51 = .ok (.if_icmp .ne 7, 3) := dq_h (dq_t (dq_t dzX12_isMark_48))
theorem dX12_isMark_54 : decode cX12_isMark 54 = .ok (.iconst 1, 1) := dq_h (dq_t (dq_t (dq_t dzX12_isMark_48)))
theorem dX12_isMark_55 : decode cX12_isMark 55 = .ok (.goto 4, 3) := dq_h (dq_t (dq_t (dq_t (dq_t dzX12_isMark_48))))
theorem dX12_isMark_58 : decode cX12_isMark 58 = .ok (.iconst 0, 1) := dq_h (dq_t (dq_t (dq_t (dq_t (dq_t dzX12_isMark_48)))))
theorem dX12_isMark_59 : decode cX12_isMark 59 = .ok (.ireturn, 1) := dq_h (dq_t (dq_t (dq_t (dq_t (dq_t (dq_t dzX12_isMark_48))))))
theorem dzX12_stepOn_0 : dq_F cX12_stepOn [(0, .aload_n 0, 1), (1, .aload_n 0, 1), (2, .getfield 168, 3), (5, .invokevirtual 171, 3), (8, .bipush 32, 2), (10, .if_icmp .eq 16, 3), (13, .aload_n 0, 1), (14, .aload_n 0, 1), (15, .getfield 168, 3), (18, .invokevirtual 171, 3), (21, .bipush 10, 2), (23, .if_icmp .ne 16, 3), (26, .aload_n 0, 1), (27, .dup, 1), (28, .getfield 168, 3), (31, .iconst 1, 1), (32, .iadd, 1), (33, .putfield 168, 3), (36, .goto (-36), 3), (39, .aload_n 0, 1), (40, .aload_n 0, 1), (41, .getfield 168, 3), (44, .putfield 175, 3), (47, .aload_n 0, 1)] := dq_s 24 0 (by decide +kernel)
theorem dX12_stepOn_0 : decode cX12_stepOn 0 = .ok (.aload_n 0, 1) := dq_h dzX12_stepOn_0
theorem dX12_stepOn_1 : decode cX12_stepOn 1 = .ok (.aload_n 0, 1) := dq_h (dq_t dzX12_stepOn_0)
theorem dX12_stepOn_2 : decode cX12_stepOn 2 = .ok (.getfield 168, 3) := dq_h (dq_t (dq_t dzX12_stepOn_0))
theorem dX12_stepOn_5 : decode cX12_stepOn 5 = .ok (.invokevirtual 171, 3) := dq_h (dq_t (dq_t (dq_t dzX12_stepOn_0)))
theorem dX12_stepOn_8 : decode cX12_stepOn 8 = .ok (.bipush 32, 2) := dq_h (dq_t (dq_t (dq_t (dq_t dzX12_stepOn_0))))
theorem dX12_stepOn_10 : decode cX12_stepOn 10 = .ok (.if_icmp .eq 16, 3) := dq_h (dq_t (dq_t (dq_t (dq_t (dq_t dzX12_stepOn_0)))))
theorem dX12_stepOn_13 : decode cX12_stepOn 13 = .ok (.aload_n 0, 1) := dq_h (dq_t (dq_t (dq_t (dq_t (dq_t (dq_t dzX12_stepOn_0))))))
theorem dX12_stepOn_14 : decode cX12_stepOn 14 = .ok (.aload_n 0, 1) := dq_h (dq_t (dq_t (dq_t (dq_t (dq_t (dq_t (dq_t dzX12_stepOn_0)))))))
theorem dX12_stepOn_15 : decode cX12_stepOn 15 = .ok (.getfield 168, 3) := dq_h (dq_t (dq_t (dq_t (dq_t (dq_t (dq_t (dq_t (dq_t dzX12_stepOn_0))))))))
theorem dX12_stepOn_18 : decode cX12_stepOn 18 = .ok (.invokevirtual 171, 3) := dq_h (dq_t (dq_t (dq_t (dq_t (dq_t (dq_t (dq_t (dq_t (dq_t dzX12_stepOn_0)))))))))
theorem dX12_stepOn_21 : decode cX12_stepOn 21 = .ok (.bipush 10, 2) := dq_h (dq_t (dq_t (dq_t (dq_t (dq_t (dq_t (dq_t (dq_t (dq_t (dq_t dzX12_stepOn_0))))))))))
theorem dX12_stepOn_23 : decode cX12_stepOn 23 = .ok (.if_icmp .ne 16, 3) := dq_h (dq_t (dq_t (dq_t (dq_t (dq_t (dq_t (dq_t (dq_t (dq_t (dq_t (dq_t dzX12_stepOn_0)))))))))))
theorem dX12_stepOn_26 : decode cX12_stepOn 26 = .ok (.aload_n 0, 1) := dq_h (dq_t (dq_t (dq_t (dq_t (dq_t (dq_t (dq_t (dq_t (dq_t (dq_t (dq_t (dq_t dzX12_stepOn_0))))))))))))
theorem dX12_stepOn_27 : decode cX12_stepOn 27 = .ok (.dup, 1) := dq_h (dq_t (dq_t (dq_t (dq_t (dq_t (dq_t (dq_t (dq_t (dq_t (dq_t (dq_t (dq_t (dq_t dzX12_stepOn_0)))))))))))))
theorem dX12_stepOn_28 : decode cX12_stepOn 28 = .ok (.getfield 168, 3) := dq_h (dq_t (dq_t (dq_t (dq_t (dq_t (dq_t (dq_t (dq_t (dq_t (dq_t (dq_t (dq_t (dq_t (dq_t dzX12_stepOn_0))))))))))))))
theorem dX12_stepOn_31 : decode cX12_stepOn 31 = .ok (.iconst 1, 1) := dq_h (dq_t (dq_t (dq_t (dq_t (dq_t (dq_t (dq_t (dq_t (dq_t (dq_t (dq_t (dq_t (dq_t (dq_t (dq_t dzX12_stepOn_0)))))))))))))))
theorem dX12_stepOn_32 : decode cX12_stepOn 32 = .ok (.iadd, 1) := dq_h (dq_t (dq_t (dq_t (dq_t (dq_t (dq_t (dq_t (dq_t (dq_t (dq_t (dq_t (dq_t (dq_t (dq_t (dq_t (dq_t dzX12_stepOn_0))))))))))))))))
theorem dX12_stepOn_33 : decode cX12_stepOn 33 = .ok (.putfield 168, 3) := dq_h (dq_t (dq_t (dq_t (dq_t (dq_t (dq_t (dq_t (dq_t (dq_t (dq_t (dq_t (dq_t (dq_t (dq_t (dq_t (dq_t (dq_t dzX12_stepOn_0)))))))))))))))))
theorem dX12_stepOn_36 : decode cX12_stepOn 36 = .ok (.goto (-36), 3) := dq_h (dq_t (dq_t (dq_t (dq_t (dq_t (dq_t (dq_t (dq_t (dq_t (dq_t (dq_t (dq_t (dq_t (dq_t (dq_t (dq_t (dq_t (dq_t dzX12_stepOn_0))))))))))))))))))
theorem dX12_stepOn_39 : decode cX12_stepOn 39 = .ok (.aload_n 0, 1) := dq_h (dq_t (dq_t (dq_t (dq_t (dq_t (dq_t (dq_t (dq_t (dq_t (dq_t (dq_t (dq_t (dq_t (dq_t (dq_t (dq_t (dq_t (dq_t (dq_t dzX12_stepOn_0)))))))))))))))))))
theorem dX12_stepOn_40 : decode cX12_stepOn 40 = .ok (.aload_n 0, 1) := dq_h (dq_t (dq_t (dq_t (dq_t (dq_t (dq_t (dq_t (dq_t (dq_t (dq_t (dq_t (dq_t (dq_t (dq_t (dq_t (dq_t (dq_t (dq_t (dq_t (dq_t dzX12_stepOn_0))))))))))))))))))))
theorem dX12_stepOn_41 : decode cX12_stepOn 41 = .ok (.getfield 168, 3) := dq_h (dq_t (dq_t (dq_t (dq_t (dq_t (dq_t (dq_t (dq_t (dq_t (dq_t (dq_t (dq_t (dq_t (dq_t (dq_t (dq_t (dq_t (dq_t (dq_t (dq_t (dq_t dzX12_stepOn_0)))))))))))))))))))))
theorem dX12_stepOn_44 : decode cX12_stepOn 44 = .ok (.putfield 175, 3) := dq_h (dq_t (dq_t (dq_t (dq_t (dq_t (dq_t (dq_t (dq_t (dq_t (dq_t (dq_t (dq_t (dq_t (dq_t (dq_t (dq_t (dq_t (dq_t (dq_t (dq_t (dq_t (dq_t dzX12_stepOn_0))))))))))))))))))))))
theorem dX12_stepOn_47 : decode cX12_stepOn 47 = .ok (.aload_n 0, 1) := dq_h (dq_t (dq_t (dq_t (dq_t (dq_t (dq_t (dq_t (dq_t (dq_t (dq_t (dq_t (dq_t (dq_t (dq_t (dq_t (dq_t (dq_t (dq_t (dq_t (dq_t (dq_t (dq_t (dq_t dzX12_stepOn_0)))))))))))))))))))))))
theorem dzX12_stepOn_48 : dq_F cX12_stepOn [(48, .aload_n 0, 1), (49, .getfield 168, 3), (52, .invokevirtual 171, 3), (55, .istore_n 1, 1), (56, .iload_n 1, 1), (57, .iconst (-1), 1), (58, .if_icmp .ne 11, 3), (61, .aload_n 0, 1), (62, .iconst 0, 1), (63, .putfield 178, 3), (66, .goto 146, 3), (69, .iload_n 1, 1), (70, .invokestatic 181, 3), (73, .ifCond .eq 38, 3), (76, .aload_n 0, 1), (77, .aload_n 0, 1), (78, .getfield 168, 3), (81, .invokevirtual 171, 3), (84, .invokestatic 181, 3), (87, .ifCond .eq 16, 3), (90, .aload_n 0, 1), (91, .dup, 1), (92, .getfield 168, 3), (95, .iconst 1, 1)] := dq_s 24 48 (by decide +kernel)
theorem dX12_stepOn_48 : decode cX12_stepOn 48 = .ok (.aload_n 0, 1) := dq_h dzX12_stepOn_48
theorem dX12_stepOn_49 : decode cX12_stepOn 49 = .ok (.getfield 168, 3) := dq_h (dq_t dzX12_stepOn_48)
theorem dX12_stepOn_52 : decode cX12_stepOn 52 = .ok (.invokevirtual 171, 3) := dq_h (dq_t (dq_t dzX12_stepOn_48))
theorem dX12_stepOn_55 : decode cX12_stepOn 55 = .ok (.istore_n 1, 1) := dq_h (dq_t (dq_t (dq_t dzX12_stepOn_48)))
theorem dX12_stepOn_56 : decode cX12_stepOn 56 = .ok (.iload_n 1, 1) := dq_h (dq_t (dq_t (dq_t (dq_t dzX12_stepOn_48))))
theorem dX12_stepOn_57 : decode cX12_stepOn 57 = .ok (.iconst (-1), 1) := dq_h (dq_t (dq_t (dq_t (dq_t (dq_t dzX12_stepOn_48)))))
theorem dX12_stepOn_58 : decode cX12_stepOn 58 = .ok (.if_icmp .ne 11, 3) := dq_h (dq_t (dq_t (dq_t (dq_t (dq_t (dq_t dzX12_stepOn_48))))))
theorem dX12_stepOn_61 : decode cX12_stepOn 61 = .ok (.aload_n 0, 1) := dq_h (dq_t (dq_t (dq_t (dq_t (dq_t (dq_t (dq_t dzX12_stepOn_48)))))))
theorem dX12_stepOn_62 : decode cX12_stepOn 62 = .ok (.iconst 0, 1) := dq_h (dq_t (dq_t (dq_t (dq_t (dq_t (dq_t (dq_t (dq_t dzX12_stepOn_48))))))))
theorem dX12_stepOn_63 : decode cX12_stepOn 63 = .ok (.putfield 178, 3) := dq_h (dq_t (dq_t (dq_t (dq_t (dq_t (dq_t (dq_t (dq_t (dq_t dzX12_stepOn_48)))))))))
theorem dX12_stepOn_66 : decode cX12_stepOn 66 = .ok (.goto 146, 3) := dq_h (dq_t (dq_t (dq_t (dq_t (dq_t (dq_t (dq_t (dq_t (dq_t (dq_t dzX12_stepOn_48))))))))))
theorem dX12_stepOn_69 : decode cX12_stepOn 69 = .ok (.iload_n 1, 1) := dq_h (dq_t (dq_t (dq_t (dq_t (dq_t (dq_t (dq_t (dq_t (dq_t (dq_t (dq_t dzX12_stepOn_48)))))))))))
theorem dX12_stepOn_70 : decode cX12_stepOn 70 = .ok (.invokestatic 181, 3) := dq_h (dq_t (dq_t (dq_t (dq_t (dq_t (dq_t (dq_t (dq_t (dq_t (dq_t (dq_t (dq_t dzX12_stepOn_48))))))))))))
theorem dX12_stepOn_73 : decode cX12_stepOn 73 = .ok (.ifCond .eq 38, 3) := dq_h (dq_t (dq_t (dq_t (dq_t (dq_t (dq_t (dq_t (dq_t (dq_t (dq_t (dq_t (dq_t (dq_t dzX12_stepOn_48)))))))))))))
theorem dX12_stepOn_76 : decode cX12_stepOn 76 = .ok (.aload_n 0, 1) := dq_h (dq_t (dq_t (dq_t (dq_t (dq_t (dq_t (dq_t (dq_t (dq_t (dq_t (dq_t (dq_t (dq_t (dq_t dzX12_stepOn_48))))))))))))))
theorem dX12_stepOn_77 : decode cX12_stepOn 77 = .ok (.aload_n 0, 1) := dq_h (dq_t (dq_t (dq_t (dq_t (dq_t (dq_t (dq_t (dq_t (dq_t (dq_t (dq_t (dq_t (dq_t (dq_t (dq_t dzX12_stepOn_48)))))))))))))))
theorem dX12_stepOn_78 : decode cX12_stepOn 78 = .ok (.getfield 168, 3) := dq_h (dq_t (dq_t (dq_t (dq_t (dq_t (dq_t (dq_t (dq_t (dq_t (dq_t (dq_t (dq_t (dq_t (dq_t (dq_t (dq_t dzX12_stepOn_48))))))))))))))))
theorem dX12_stepOn_81 : decode cX12_stepOn 81 = .ok (.invokevirtual 171, 3) := dq_h (dq_t (dq_t (dq_t (dq_t (dq_t (dq_t (dq_t (dq_t (dq_t (dq_t (dq_t (dq_t (dq_t (dq_t (dq_t (dq_t (dq_t dzX12_stepOn_48)))))))))))))))))
theorem dX12_stepOn_84 : decode cX12_stepOn 84 = .ok (.invokestatic 181, 3) := dq_h (dq_t (dq_t (dq_t (dq_t (dq_t (dq_t (dq_t (dq_t (dq_t (dq_t (dq_t (dq_t (dq_t (dq_t (dq_t (dq_t (dq_t (dq_t dzX12_stepOn_48))))))))))))))))))
theorem dX12_stepOn_87 : decode cX12_stepOn 87 = .ok (.ifCond .eq 16, 3) := dq_h (dq_t (dq_t (dq_t (dq_t (dq_t (dq_t (dq_t (dq_t (dq_t (dq_t (dq_t (dq_t (dq_t (dq_t (dq_t (dq_t (dq_t (dq_t (dq_t dzX12_stepOn_48)))))))))))))))))))
theorem dX12_stepOn_90 : decode cX12_stepOn 90 = .ok (.aload_n 0, 1) := dq_h (dq_t (dq_t (dq_t (dq_t (dq_t (dq_t (dq_t (dq_t (dq_t (dq_t (dq_t (dq_t (dq_t (dq_t (dq_t (dq_t (dq_t (dq_t (dq_t (dq_t dzX12_stepOn_48))))))))))))))))))))
theorem dX12_stepOn_91 : decode cX12_stepOn 91 = .ok (.dup, 1) := dq_h (dq_t (dq_t (dq_t (dq_t (dq_t (dq_t (dq_t (dq_t (dq_t (dq_t (dq_t (dq_t (dq_t (dq_t (dq_t (dq_t (dq_t (dq_t (dq_t (dq_t (dq_t dzX12_stepOn_48)))))))))))))))))))))
theorem dX12_stepOn_92 : decode cX12_stepOn 92 = .ok (.getfield 168, 3) := dq_h (dq_t (dq_t (dq_t (dq_t (dq_t (dq_t (dq_t (dq_t (dq_t (dq_t (dq_t (dq_t (dq_t (dq_t (dq_t (dq_t (dq_t (dq_t (dq_t (dq_t (dq_t (dq_t dzX12_stepOn_48))))))))))))))))))))))
theorem dX12_stepOn_95 : decode cX12_stepOn 95 = .ok (.iconst 1, 1) := dq_h (dq_t (dq_t (dq_t (dq_t (dq_t (dq_t (dq_t (dq_t (dq_t (dq_t (dq_t (dq_t (dq_t (dq_t (dq_t (dq_t (dq_t (dq_t (dq_t (dq_t (dq_t (dq_t (dq_t dzX12_stepOn_48)))))))))))))))))))))))
theorem dzX12_stepOn_96 : dq_F cX12_stepOn [(96, .iadd, 1), (97, .putfield 168, 3), (100, .goto (-24), 3), (103, .aload_n 0, 1), (104, .iconst 1, 1), (105, .putfield 178, 3), (108, .goto 104, 3), (111, .iload_n 1, 1), (112, .invokestatic 185, 3), (115, .ifCond .eq 71, 3), (118, .aload_n 0, 1), (119, .iconst 0, 1), (120, .putfield 188, 3), (123, .aload_n 0, 1), (124, .aload_n 0, 1), (125, .getfield 168, 3), (128, .invokevirtual 171, 3), (131, .invokestatic 185, 3), (134, .ifCond .eq 44, 3), (137, .aload_n 0, 1), (138, .ldc 191, 2), (140, .bipush 10, 2), (142, .aload_n 0, 1), (143, .getfield 188, 3)] := dq_s 24 96 (by decide +kernel)
theorem dX12_stepOn_96 : decode cX12_stepOn 96 = .ok (.iadd, 1) := dq_h dzX12_stepOn_96
theorem dX12_stepOn_97 : decode cX12_stepOn 97 = .ok (.putfield 168, 3) := dq_h (dq_t dzX12_stepOn_96)
theorem dX12_stepOn_100 : decode cX12_stepOn 100 = .ok (.goto (-24), 3) := dq_h (dq_t (dq_t dzX12_stepOn_96))
theorem dX12_stepOn_103 : decode cX12_stepOn 103 = .ok (.aload_n 0, 1) := dq_h (dq_t (dq_t (dq_t dzX12_stepOn_96)))
theorem dX12_stepOn_104 : decode cX12_stepOn 104 = .ok (.iconst 1, 1) := dq_h (dq_t (dq_t (dq_t (dq_t dzX12_stepOn_96))))
theorem dX12_stepOn_105 : decode cX12_stepOn 105 = .ok (.putfield 178, 3) := dq_h (dq_t (dq_t (dq_t (dq_t (dq_t dzX12_stepOn_96)))))
theorem dX12_stepOn_108 : decode cX12_stepOn 108 = .ok (.goto 104, 3) := dq_h (dq_t (dq_t (dq_t (dq_t (dq_t (dq_t dzX12_stepOn_96))))))
theorem dX12_stepOn_111 : decode cX12_stepOn 111 = .ok (.iload_n 1, 1) := dq_h (dq_t (dq_t (dq_t (dq_t (dq_t (dq_t (dq_t dzX12_stepOn_96)))))))
theorem dX12_stepOn_112 : decode cX12_stepOn 112 = .ok (.invokestatic 185, 3) := dq_h (dq_t (dq_t (dq_t (dq_t (dq_t (dq_t (dq_t (dq_t dzX12_stepOn_96))))))))
theorem dX12_stepOn_115 : decode cX12_stepOn 115 = .ok (.ifCond .eq 71, 3) := dq_h (dq_t (dq_t (dq_t (dq_t (dq_t (dq_t (dq_t (dq_t (dq_t dzX12_stepOn_96)))))))))
theorem dX12_stepOn_118 : decode cX12_stepOn 118 = .ok (.aload_n 0, 1) := dq_h (dq_t (dq_t (dq_t (dq_t (dq_t (dq_t (dq_t (dq_t (dq_t (dq_t dzX12_stepOn_96))))))))))
theorem dX12_stepOn_119 : decode cX12_stepOn 119 = .ok (.iconst 0, 1) := dq_h (dq_t (dq_t (dq_t (dq_t (dq_t (dq_t (dq_t (dq_t (dq_t (dq_t (dq_t dzX12_stepOn_96)))))))))))
theorem dX12_stepOn_120 : decode cX12_stepOn 120 = .ok (.putfield 188, 3) := dq_h (dq_t (dq_t (dq_t (dq_t (dq_t (dq_t (dq_t (dq_t (dq_t (dq_t (dq_t (dq_t dzX12_stepOn_96))))))))))))
theorem dX12_stepOn_123 : decode cX12_stepOn 123 = .ok (.aload_n 0, 1) := dq_h (dq_t (dq_t (dq_t (dq_t (dq_t (dq_t (dq_t (dq_t (dq_t (dq_t (dq_t (dq_t (dq_t dzX12_stepOn_96)))))))))))))
theorem dX12_stepOn_124 : decode cX12_stepOn 124 = .ok (.aload_n 0, 1) := dq_h (dq_t (dq_t (dq_t (dq_t (dq_t (dq_t (dq_t (dq_t (dq_t (dq_t (dq_t (dq_t (dq_t (dq_t dzX12_stepOn_96))))))))))))))
theorem dX12_stepOn_125 : decode cX12_stepOn 125 = .ok (.getfield 168, 3) := dq_h (dq_t (dq_t (dq_t (dq_t (dq_t (dq_t (dq_t (dq_t (dq_t (dq_t (dq_t (dq_t (dq_t (dq_t (dq_t dzX12_stepOn_96)))))))))))))))
theorem dX12_stepOn_128 : decode cX12_stepOn 128 = .ok (.invokevirtual 171, 3) := dq_h (dq_t (dq_t (dq_t (dq_t (dq_t (dq_t (dq_t (dq_t (dq_t (dq_t (dq_t (dq_t (dq_t (dq_t (dq_t (dq_t dzX12_stepOn_96))))))))))))))))
theorem dX12_stepOn_131 : decode cX12_stepOn 131 = .ok (.invokestatic 185, 3) := dq_h (dq_t (dq_t (dq_t (dq_t (dq_t (dq_t (dq_t (dq_t (dq_t (dq_t (dq_t (dq_t (dq_t (dq_t (dq_t (dq_t (dq_t dzX12_stepOn_96)))))))))))))))))
theorem dX12_stepOn_134 : decode cX12_stepOn 134 = .ok (.ifCond .eq 44, 3) := dq_h (dq_t (dq_t (dq_t (dq_t (dq_t (dq_t (dq_t (dq_t (dq_t (dq_t (dq_t (dq_t (dq_t (dq_t (dq_t (dq_t (dq_t (dq_t dzX12_stepOn_96))))))))))))))))))
theorem dX12_stepOn_137 : decode cX12_stepOn 137 = .ok (.aload_n 0, 1) := dq_h (dq_t (dq_t (dq_t (dq_t (dq_t (dq_t (dq_t (dq_t (dq_t (dq_t (dq_t (dq_t (dq_t (dq_t (dq_t (dq_t (dq_t (dq_t (dq_t dzX12_stepOn_96)))))))))))))))))))
theorem dX12_stepOn_138 : decode cX12_stepOn 138 = .ok (.ldc 191, 2) := dq_h (dq_t (dq_t (dq_t (dq_t (dq_t (dq_t (dq_t (dq_t (dq_t (dq_t (dq_t (dq_t (dq_t (dq_t (dq_t (dq_t (dq_t (dq_t (dq_t (dq_t dzX12_stepOn_96))))))))))))))))))))
theorem dX12_stepOn_140 : decode cX12_stepOn 140 = .ok (.bipush 10, 2) := dq_h (dq_t (dq_t (dq_t (dq_t (dq_t (dq_t (dq_t (dq_t (dq_t (dq_t (dq_t (dq_t (dq_t (dq_t (dq_t (dq_t (dq_t (dq_t (dq_t (dq_t (dq_t dzX12_stepOn_96)))))))))))))))))))))
theorem dX12_stepOn_142 : decode cX12_stepOn 142 = .ok (.aload_n 0, 1) := dq_h (dq_t (dq_t (dq_t (dq_t (dq_t (dq_t (dq_t (dq_t (dq_t (dq_t (dq_t (dq_t (dq_t (dq_t (dq_t (dq_t (dq_t (dq_t (dq_t (dq_t (dq_t (dq_t dzX12_stepOn_96))))))))))))))))))))))
theorem dX12_stepOn_143 : decode cX12_stepOn 143 = .ok (.getfield 188, 3) := dq_h (dq_t (dq_t (dq_t (dq_t (dq_t (dq_t (dq_t (dq_t (dq_t (dq_t (dq_t (dq_t (dq_t (dq_t (dq_t (dq_t (dq_t (dq_t (dq_t (dq_t (dq_t (dq_t (dq_t dzX12_stepOn_96)))))))))))))))))))))))
theorem dzX12_stepOn_146 : dq_F cX12_stepOn [(146, .imul, 1), (147, .aload_n 0, 1), (148, .aload_n 0, 1), (149, .getfield 168, 3), (152, .invokevirtual 171, 3), (155, .iadd, 1), (156, .bipush 48, 2), (158, .isub, 1), (159, .invokestatic 192, 3), (162, .putfield 188, 3), (165, .aload_n 0, 1), (166, .dup, 1), (167, .getfield 168, 3), (170, .iconst 1, 1), (171, .iadd, 1), (172, .putfield 168, 3), (175, .goto (-52), 3), (178, .aload_n 0, 1), (179, .iconst 2, 1), (180, .putfield 178, 3), (183, .goto 29, 3), (186, .aload_n 0, 1), (187, .dup, 1), (188, .getfield 168, 3)] := dq_s 24 146 (by decide +kernel)
theorem dX12_stepOn_146 : decode cX12_stepOn 146 = .ok (.imul, 1) := dq_h dzX12_stepOn_146
theorem dX12_stepOn_147 : decode cX12_stepOn 147 = .ok (.aload_n 0, 1) := dq_h (dq_t dzX12_stepOn_146)
theorem dX12_stepOn_148 : decode cX12_stepOn 148 = .ok (.aload_n 0, 1) := dq_h (dq_t (dq_t dzX12_stepOn_146))
theorem dX12_stepOn_149 : decode cX12_stepOn 149 = .ok (.getfield 168, 3) := dq_h (dq_t (dq_t (dq_t dzX12_stepOn_146)))
theorem dX12_stepOn_152 : decode cX12_stepOn 152 = .ok (.invokevirtual 171, 3) := dq_h (dq_t (dq_t (dq_t (dq_t dzX12_stepOn_146))))
theorem dX12_stepOn_155 : decode cX12_stepOn 155 = .ok (.iadd, 1) := dq_h (dq_t (dq_t (dq_t (dq_t (dq_t dzX12_stepOn_146)))))
theorem dX12_stepOn_156 : decode cX12_stepOn 156 = .ok (.bipush 48, 2) := dq_h (dq_t (dq_t (dq_t (dq_t (dq_t (dq_t dzX12_stepOn_146))))))
theorem dX12_stepOn_158 : decode cX12_stepOn 158 = .ok (.isub, 1) := dq_h (dq_t (dq_t (dq_t (dq_t (dq_t (dq_t (dq_t dzX12_stepOn_146)))))))
theorem dX12_stepOn_159 : decode cX12_stepOn 159 = .ok (.invokestatic 192, 3) := dq_h (dq_t (dq_t (dq_t (dq_t (dq_t (dq_t (dq_t (dq_t dzX12_stepOn_146))))))))
theorem dX12_stepOn_162 : decode cX12_stepOn 162 = .ok (.putfield 188, 3) := dq_h (dq_t (dq_t (dq_t (dq_t (dq_t (dq_t (dq_t (dq_t (dq_t dzX12_stepOn_146)))))))))
theorem dX12_stepOn_165 : decode cX12_stepOn 165 = .ok (.aload_n 0, 1) := dq_h (dq_t (dq_t (dq_t (dq_t (dq_t (dq_t (dq_t (dq_t (dq_t (dq_t dzX12_stepOn_146))))))))))
theorem dX12_stepOn_166 : decode cX12_stepOn 166 = .ok (.dup, 1) := dq_h (dq_t (dq_t (dq_t (dq_t (dq_t (dq_t (dq_t (dq_t (dq_t (dq_t (dq_t dzX12_stepOn_146)))))))))))
theorem dX12_stepOn_167 : decode cX12_stepOn 167 = .ok (.getfield 168, 3) := dq_h (dq_t (dq_t (dq_t (dq_t (dq_t (dq_t (dq_t (dq_t (dq_t (dq_t (dq_t (dq_t dzX12_stepOn_146))))))))))))
theorem dX12_stepOn_170 : decode cX12_stepOn 170 = .ok (.iconst 1, 1) := dq_h (dq_t (dq_t (dq_t (dq_t (dq_t (dq_t (dq_t (dq_t (dq_t (dq_t (dq_t (dq_t (dq_t dzX12_stepOn_146)))))))))))))
theorem dX12_stepOn_171 : decode cX12_stepOn 171 = .ok (.iadd, 1) := dq_h (dq_t (dq_t (dq_t (dq_t (dq_t (dq_t (dq_t (dq_t (dq_t (dq_t (dq_t (dq_t (dq_t (dq_t dzX12_stepOn_146))))))))))))))
theorem dX12_stepOn_172 : decode cX12_stepOn 172 = .ok (.putfield 168, 3) := dq_h (dq_t (dq_t (dq_t (dq_t (dq_t (dq_t (dq_t (dq_t (dq_t (dq_t (dq_t (dq_t (dq_t (dq_t (dq_t dzX12_stepOn_146)))))))))))))))
theorem dX12_stepOn_175 : decode cX12_stepOn 175 = .ok (.goto (-52), 3) := dq_h (dq_t (dq_t (dq_t (dq_t (dq_t (dq_t (dq_t (dq_t (dq_t (dq_t (dq_t (dq_t (dq_t (dq_t (dq_t (dq_t dzX12_stepOn_146))))))))))))))))
theorem dX12_stepOn_178 : decode cX12_stepOn 178 = .ok (.aload_n 0, 1) := dq_h (dq_t (dq_t (dq_t (dq_t (dq_t (dq_t (dq_t (dq_t (dq_t (dq_t (dq_t (dq_t (dq_t (dq_t (dq_t (dq_t (dq_t dzX12_stepOn_146)))))))))))))))))
theorem dX12_stepOn_179 : decode cX12_stepOn 179 = .ok (.iconst 2, 1) := dq_h (dq_t (dq_t (dq_t (dq_t (dq_t (dq_t (dq_t (dq_t (dq_t (dq_t (dq_t (dq_t (dq_t (dq_t (dq_t (dq_t (dq_t (dq_t dzX12_stepOn_146))))))))))))))))))
theorem dX12_stepOn_180 : decode cX12_stepOn 180 = .ok (.putfield 178, 3) := dq_h (dq_t (dq_t (dq_t (dq_t (dq_t (dq_t (dq_t (dq_t (dq_t (dq_t (dq_t (dq_t (dq_t (dq_t (dq_t (dq_t (dq_t (dq_t (dq_t dzX12_stepOn_146)))))))))))))))))))
theorem dX12_stepOn_183 : decode cX12_stepOn 183 = .ok (.goto 29, 3) := dq_h (dq_t (dq_t (dq_t (dq_t (dq_t (dq_t (dq_t (dq_t (dq_t (dq_t (dq_t (dq_t (dq_t (dq_t (dq_t (dq_t (dq_t (dq_t (dq_t (dq_t dzX12_stepOn_146))))))))))))))))))))
theorem dX12_stepOn_186 : decode cX12_stepOn 186 = .ok (.aload_n 0, 1) := dq_h (dq_t (dq_t (dq_t (dq_t (dq_t (dq_t (dq_t (dq_t (dq_t (dq_t (dq_t (dq_t (dq_t (dq_t (dq_t (dq_t (dq_t (dq_t (dq_t (dq_t (dq_t dzX12_stepOn_146)))))))))))))))))))))
theorem dX12_stepOn_187 : decode cX12_stepOn 187 = .ok (.dup, 1) := dq_h (dq_t (dq_t (dq_t (dq_t (dq_t (dq_t (dq_t (dq_t (dq_t (dq_t (dq_t (dq_t (dq_t (dq_t (dq_t (dq_t (dq_t (dq_t (dq_t (dq_t (dq_t (dq_t dzX12_stepOn_146))))))))))))))))))))))
theorem dX12_stepOn_188 : decode cX12_stepOn 188 = .ok (.getfield 168, 3) := dq_h (dq_t (dq_t (dq_t (dq_t (dq_t (dq_t (dq_t (dq_t (dq_t (dq_t (dq_t (dq_t (dq_t (dq_t (dq_t (dq_t (dq_t (dq_t (dq_t (dq_t (dq_t (dq_t (dq_t dzX12_stepOn_146)))))))))))))))))))))))
theorem dzX12_stepOn_191 : dq_F cX12_stepOn [(191, .iconst 1, 1), (192, .iadd, 1), (193, .putfield 168, 3), (196, .aload_n 0, 1), (197, .iload_n 1, 1), (198, .invokestatic 198, 3), (201, .ifCond .eq 7, 3), (204, .iconst 3, 1), (205, .goto 4, 3), (208, .iconst 4, 1), (209, .putfield 178, 3), (212, .aload_n 0, 1), (213, .aload_n 0, 1), (214, .getfield 168, 3), (217, .putfield 201, 3), (220, .return_, 1)] := dq_s 16 191 (by decide +kernel)
theorem dX12_stepOn_191 : decode cX12_stepOn 191 = .ok (.iconst 1, 1) := dq_h dzX12_stepOn_191
theorem dX12_stepOn_192 : decode cX12_stepOn 192 = .ok (.iadd, 1) := dq_h (dq_t dzX12_stepOn_191)
theorem dX12_stepOn_193 : decode cX12_stepOn 193 = .ok (.putfield 168, 3) := dq_h (dq_t (dq_t dzX12_stepOn_191))
theorem dX12_stepOn_196 : decode cX12_stepOn 196 = .ok (.aload_n 0, 1) := dq_h (dq_t (dq_t (dq_t dzX12_stepOn_191)))
theorem dX12_stepOn_197 : decode cX12_stepOn 197 = .ok (.iload_n 1, 1) := dq_h (dq_t (dq_t (dq_t (dq_t dzX12_stepOn_191))))
theorem dX12_stepOn_198 : decode cX12_stepOn 198 = .ok (.invokestatic 198, 3) := dq_h (dq_t (dq_t (dq_t (dq_t (dq_t dzX12_stepOn_191)))))
theorem dX12_stepOn_201 : decode cX12_stepOn 201 = .ok (.ifCond .eq 7, 3) := dq_h (dq_t (dq_t (dq_t (dq_t (dq_t (dq_t dzX12_stepOn_191))))))
theorem dX12_stepOn_204 : decode cX12_stepOn 204 = .ok (.iconst 3, 1) := dq_h (dq_t (dq_t (dq_t (dq_t (dq_t (dq_t (dq_t dzX12_stepOn_191)))))))
theorem dX12_stepOn_205 : decode cX12_stepOn 205 = .ok (.goto 4, 3) := dq_h (dq_t (dq_t (dq_t (dq_t (dq_t (dq_t (dq_t (dq_t dzX12_stepOn_191))))))))
theorem dX12_stepOn_208 : decode cX12_stepOn 208 = .ok (.iconst 4, 1) := dq_h (dq_t (dq_t (dq_t (dq_t (dq_t (dq_t (dq_t (dq_t (dq_t dzX12_stepOn_191)))))))))
theorem dX12_stepOn_209 : decode cX12_stepOn 209 = .ok (.putfield 178, 3) := dq_h (dq_t (dq_t (dq_t (dq_t (dq_t (dq_t (dq_t (dq_t (dq_t (dq_t dzX12_stepOn_191))))))))))
theorem dX12_stepOn_212 : decode cX12_stepOn 212 = .ok (.aload_n 0, 1) := dq_h (dq_t (dq_t (dq_t (dq_t (dq_t (dq_t (dq_t (dq_t (dq_t (dq_t (dq_t dzX12_stepOn_191)))))))))))
theorem dX12_stepOn_213 : decode cX12_stepOn 213 = .ok (.aload_n 0, 1) := dq_h (dq_t (dq_t (dq_t (dq_t (dq_t (dq_t (dq_t (dq_t (dq_t (dq_t (dq_t (dq_t dzX12_stepOn_191))))))))))))
theorem dX12_stepOn_214 : decode cX12_stepOn 214 = .ok (.getfield 168, 3) := dq_h (dq_t (dq_t (dq_t (dq_t (dq_t (dq_t (dq_t (dq_t (dq_t (dq_t (dq_t (dq_t (dq_t dzX12_stepOn_191)))))))))))))
theorem dX12_stepOn_217 : decode cX12_stepOn 217 = .ok (.putfield 201, 3) := dq_h (dq_t (dq_t (dq_t (dq_t (dq_t (dq_t (dq_t (dq_t (dq_t (dq_t (dq_t (dq_t (dq_t (dq_t dzX12_stepOn_191))))))))))))))
theorem dX12_stepOn_220 : decode cX12_stepOn 220 = .ok (.return_, 1) := dq_h (dq_t (dq_t (dq_t (dq_t (dq_t (dq_t (dq_t (dq_t (dq_t (dq_t (dq_t (dq_t (dq_t (dq_t (dq_t dzX12_stepOn_191)))))))))))))))
theorem dzX12_wrong_0 : dq_F cX12_wrong [(0, .aload_n 0, 1), (1, .getfield 204, 3), (4, .ifCond .eq 4, 3), (7, .return_, 1), (8, .aload_n 0, 1), (9, .iload_n 1, 1), (10, .putfield 204, 3), (13, .aload_n 0, 1), (14, .aload_n 0, 1), (15, .getfield 175, 3), (18, .putfield 207, 3), (21, .return_, 1)] := dq_s 12 0 (by decide +kernel)
theorem dX12_wrong_0 : decode cX12_wrong 0 = .ok (.aload_n 0, 1) := dq_h dzX12_wrong_0
theorem dX12_wrong_1 : decode cX12_wrong 1 = .ok (.getfield 204, 3) := dq_h (dq_t dzX12_wrong_0)
theorem dX12_wrong_4 : decode cX12_wrong 4 = .ok (.ifCond .eq 4, 3) := dq_h (dq_t (dq_t dzX12_wrong_0))
theorem dX12_wrong_7 : decode cX12_wrong 7 = .ok (.return_, 1) := dq_h (dq_t (dq_t (dq_t dzX12_wrong_0)))
theorem dX12_wrong_8 : decode cX12_wrong 8 = .ok (.aload_n 0, 1) := dq_h (dq_t (dq_t (dq_t (dq_t dzX12_wrong_0))))
theorem dX12_wrong_9 : decode cX12_wrong 9 = .ok (.iload_n 1, 1) := dq_h (dq_t (dq_t (dq_t (dq_t (dq_t dzX12_wrong_0)))))
theorem dX12_wrong_10 : decode cX12_wrong 10 = .ok (.putfield 204, 3) := dq_h (dq_t (dq_t (dq_t (dq_t (dq_t (dq_t dzX12_wrong_0))))))
theorem dX12_wrong_13 : decode cX12_wrong 13 = .ok (.aload_n 0, 1) := dq_h (dq_t (dq_t (dq_t (dq_t (dq_t (dq_t (dq_t dzX12_wrong_0)))))))
theorem dX12_wrong_14 : decode cX12_wrong 14 = .ok (.aload_n 0, 1) := dq_h (dq_t (dq_t (dq_t (dq_t (dq_t (dq_t (dq_t (dq_t dzX12_wrong_0))))))))
theorem dX12_wrong_15 : decode cX12_wrong 15 = .ok (.getfield 175, 3) := dq_h (dq_t (dq_t (dq_t (dq_t (dq_t (dq_t (dq_t (dq_t (dq_t dzX12_wrong_0)))))))))
theorem dX12_wrong_18 : decode cX12_wrong 18 = .ok (.putfield 207, 3) := dq_h (dq_t (dq_t (dq_t (dq_t (dq_t (dq_t (dq_t (dq_t (dq_t (dq_t dzX12_wrong_0))))))))))
theorem dX12_wrong_21 : decode cX12_wrong 21 = .ok (.return_, 1) := dq_h (dq_t (dq_t (dq_t (dq_t (dq_t (dq_t (dq_t (dq_t (dq_t (dq_t (dq_t dzX12_wrong_0)))))))))))
theorem dzX12_is_0 : dq_F cX12_is [(0, .aload_n 0, 1), (1, .getfield 204, 3), (4, .ifCond .ne 31, 3), (7, .aload_n 0, 1), (8, .getfield 178, 3), (11, .iconst 1, 1), (12, .if_icmp .ne 23, 3), (15, .aload_n 1, 1), (16, .invokevirtual 210, 3), (19, .aload_n 0, 1), (20, .getfield 201, 3), (23, .aload_n 0, 1), (24, .getfield 175, 3), (27, .isub, 1), (28, .if_icmp .ne 7, 3), (31, .iconst 1, 1), (32, .goto 4, 3), (35, .iconst 0, 1), (36, .istore_n 2, 1), (37, .iconst 0, 1), (38, .istore_n 3, 1), (39, .iload_n 2, 1), (40, .ifCond .eq 42, 3), (43, .iload_n 3, 1)] := dq_s 24 0 (by decide +kernel)
theorem dX12_is_0 : decode cX12_is 0 = .ok (.aload_n 0, 1) := dq_h dzX12_is_0
theorem dX12_is_1 : decode cX12_is 1 = .ok (.getfield 204, 3) := dq_h (dq_t dzX12_is_0)
theorem dX12_is_4 : decode cX12_is 4 = .ok (.ifCond .ne 31, 3) := dq_h (dq_t (dq_t dzX12_is_0))
theorem dX12_is_7 : decode cX12_is 7 = .ok (.aload_n 0, 1) := dq_h (dq_t (dq_t (dq_t dzX12_is_0)))
theorem dX12_is_8 : decode cX12_is 8 = .ok (.getfield 178, 3) := dq_h (dq_t (dq_t (dq_t (dq_t dzX12_is_0))))
theorem dX12_is_11 : decode cX12_is 11 = .ok (.iconst 1, 1) := dq_h (dq_t (dq_t (dq_t (dq_t (dq_t dzX12_is_0)))))
theorem dX12_is_12 : decode cX12_is 12 = .ok (.if_icmp .ne 23, 3) := dq_h (dq_t (dq_t (dq_t (dq_t (dq_t (dq_t dzX12_is_0))))))
theorem dX12_is_15 : decode cX12_is 15 = .ok (.aload_n 1, 1) := dq_h (dq_t (dq_t (dq_t (dq_t (dq_t (dq_t (dq_t dzX12_is_0)))))))
theorem dX12_is_16 : decode cX12_is 16 = .ok (.invokevirtual 210, 3) := dq_h (dq_t (dq_t (dq_t (dq_t (dq_t (dq_t (dq_t (dq_t dzX12_is_0))))))))
theorem dX12_is_19 : decode cX12_is 19 = .ok (.aload_n 0, 1) := dq_h (dq_t (dq_t (dq_t (dq_t (dq_t (dq_t (dq_t (dq_t (dq_t dzX12_is_0)))))))))
theorem dX12_is_20 : decode cX12_is 20 = .ok (.getfield 201, 3) := dq_h (dq_t (dq_t (dq_t (dq_t (dq_t (dq_t (dq_t (dq_t (dq_t (dq_t dzX12_is_0))))))))))
theorem dX12_is_23 : decode cX12_is 23 = .ok (.aload_n 0, 1) := dq_h (dq_t (dq_t (dq_t (dq_t (dq_t (dq_t (dq_t (dq_t (dq_t (dq_t (dq_t dzX12_is_0)))))))))))
theorem dX12_is_24 : decode cX12_is 24 = .ok (.getfield 175, 3) := dq_h (dq_t (dq_t (dq_t (dq_t (dq_t (dq_t (dq_t (dq_t (dq_t (dq_t (dq_t (dq_t dzX12_is_0))))))))))))
theorem dX12_is_27 : decode cX12_is 27 = .ok (.isub, 1) := dq_h (dq_t (dq_t (dq_t (dq_t (dq_t (dq_t (dq_t (dq_t (dq_t (dq_t (dq_t (dq_t (dq_t dzX12_is_0)))))))))))))
theorem dX12_is_28 : decode cX12_is 28 = .ok (.if_icmp .ne 7, 3) := dq_h (dq_t (dq_t (dq_t (dq_t (dq_t (dq_t (dq_t (dq_t (dq_t (dq_t (dq_t (dq_t (dq_t (dq_t dzX12_is_0))))))))))))))
theorem dX12_is_31 : decode cX12_is 31 = .ok (.iconst 1, 1) := dq_h (dq_t (dq_t (dq_t (dq_t (dq_t (dq_t (dq_t (dq_t (dq_t (dq_t (dq_t (dq_t (dq_t (dq_t (dq_t dzX12_is_0)))))))))))))))
theorem dX12_is_32 : decode cX12_is 32 = .ok (.goto 4, 3) := dq_h (dq_t (dq_t (dq_t (dq_t (dq_t (dq_t (dq_t (dq_t (dq_t (dq_t (dq_t (dq_t (dq_t (dq_t (dq_t (dq_t dzX12_is_0))))))))))))))))
theorem dX12_is_35 : decode cX12_is 35 = .ok (.iconst 0, 1) := dq_h (dq_t (dq_t (dq_t (dq_t (dq_t (dq_t (dq_t (dq_t (dq_t (dq_t (dq_t (dq_t (dq_t (dq_t (dq_t (dq_t (dq_t dzX12_is_0)))))))))))))))))
theorem dX12_is_36 : decode cX12_is 36 = .ok (.istore_n 2, 1) := dq_h (dq_t (dq_t (dq_t (dq_t (dq_t (dq_t (dq_t (dq_t (dq_t (dq_t (dq_t (dq_t (dq_t (dq_t (dq_t (dq_t (dq_t (dq_t dzX12_is_0))))))))))))))))))
theorem dX12_is_37 : decode cX12_is 37 = .ok (.iconst 0, 1) := dq_h (dq_t (dq_t (dq_t (dq_t (dq_t (dq_t (dq_t (dq_t (dq_t (dq_t (dq_t (dq_t (dq_t (dq_t (dq_t (dq_t (dq_t (dq_t (dq_t dzX12_is_0)))))))))))))))))))
theorem dX12_is_38 : decode cX12_is 38 = .ok (.istore_n 3, 1) := dq_h (dq_t (dq_t (dq_t (dq_t (dq_t (dq_t (dq_t (dq_t (dq_t (dq_t (dq_t (dq_t (dq_t (dq_t (dq_t (dq_t (dq_t (dq_t (dq_t (dq_t dzX12_is_0))))))))))))))))))))
theorem dX12_is_39 : decode cX12_is 39 = .ok (.iload_n 2, 1) := dq_h (dq_t (dq_t (dq_t (dq_t (dq_t (dq_t (dq_t (dq_t (dq_t (dq_t (dq_t (dq_t (dq_t (dq_t (dq_t (dq_t (dq_t (dq_t (dq_t (dq_t (dq_t dzX12_is_0)))))))))))))))))))))
theorem dX12_is_40 : decode cX12_is 40 = .ok (.ifCond .eq 42, 3) := dq_h (dq_t (dq_t (dq_t (dq_t (dq_t (dq_t (dq_t (dq_t (dq_t (dq_t (dq_t (dq_t (dq_t (dq_t (dq_t (dq_t (dq_t (dq_t (dq_t (dq_t (dq_t (dq_t dzX12_is_0))))))))))))))))))))))
theorem dX12_is_43 : decode cX12_is 43 = .ok (.iload_n 3, 1) := dq_h (dq_t (dq_t (dq_t (dq_t (dq_t (dq_t (dq_t (dq_t (dq_t (dq_t (dq_t (dq_t (dq_t (dq_t (dq_t (dq_t (dq_t (dq_t (dq_t (dq_t (dq_t (dq_t (dq_t dzX12_is_0)))))))))))))))))))))))
theorem dzX12_is_44 : dq_F cX12_is [(44, .aload_n 1, 1), (45, .invokevirtual 210, 3), (48, .if_icmp .ge 34, 3), (51, .aload_n 1, 1), (52, .iload_n 3, 1), (53, .invokevirtual 214, 3), (56, .aload_n 0, 1), (57, .getfield 81, 3), (60, .aload_n 0, 1), (61, .getfield 175, 3), (64, .iload_n 3, 1), (65, .iadd, 1), (66, .iaload, 1), (67, .if_icmp .ne 7, 3), (70, .iconst 1, 1), (71, .goto 4, 3), (74, .iconst 0, 1), (75, .istore_n 2, 1), (76, .iinc 3 1, 3), (79, .goto (-40), 3), (82, .iload_n 2, 1), (83, .ireturn, 1)] := dq_s 22 44 (by decide +kernel)
theorem dX12_is_44 : decode cX12_is 44 = .ok (.aload_n 1, 1) := dq_h dzX12_is_44
theorem dX12_is_45 : decode cX12_is 45 = .ok (.invokevirtual 210, 3) := dq_h (dq_t dzX12_is_44)
theorem dX12_is_48 : decode cX12_is 48 = .ok (.if_icmp .ge 34, 3) := dq_h (dq_t (dq_t dzX12_is_44))
theorem dX12_is_51 : decode cX12_is 51 = .ok (.aload_n 1, 1) := dq_h (dq_t (dq_t (dq_t dzX12_is_44)))
theorem dX12_is_52 : decode cX12_is 52 = .ok (.iload_n 3, 1) := dq_h (dq_t (dq_t (dq_t (dq_t dzX12_is_44))))
theorem dX12_is_53 : decode cX12_is 53 = .ok (.invokevirtual 214, 3) := dq_h (dq_t (dq_t (dq_t (dq_t (dq_t dzX12_is_44)))))
theorem dX12_is_56 : decode cX12_is 56 = .ok (.aload_n 0, 1) := dq_h (dq_t (dq_t (dq_t (dq_t (dq_t (dq_t dzX12_is_44))))))
theorem dX12_is_57 : decode cX12_is 57 = .ok (.getfield 81, 3) := dq_h (dq_t (dq_t (dq_t (dq_t (dq_t (dq_t (dq_t dzX12_is_44)))))))
theorem dX12_is_60 : decode cX12_is 60 = .ok (.aload_n 0, 1) := dq_h (dq_t (dq_t (dq_t (dq_t (dq_t (dq_t (dq_t (dq_t dzX12_is_44))))))))
theorem dX12_is_61 : decode cX12_is 61 = .ok (.getfield 175, 3) := dq_h (dq_t (dq_t (dq_t (dq_t (dq_t (dq_t (dq_t (dq_t (dq_t dzX12_is_44)))))))))
theorem dX12_is_64 : decode cX12_is 64 = .ok (.iload_n 3, 1) := dq_h (dq_t (dq_t (dq_t (dq_t (dq_t (dq_t (dq_t (dq_t (dq_t (dq_t dzX12_is_44))))))))))
theorem dX12_is_65 : decode cX12_is 65 = .ok (.iadd, 1) := dq_h (dq_t (dq_t (dq_t (dq_t (dq_t (dq_t (dq_t (dq_t (dq_t (dq_t (dq_t dzX12_is_44)))))))))))
theorem dX12_is_66 : decode cX12_is 66 = .ok (.iaload, 1) := dq_h (dq_t (dq_t (dq_t (dq_t (dq_t (dq_t (dq_t (dq_t (dq_t (dq_t (dq_t (dq_t dzX12_is_44))))))))))))
theorem dX12_is_67 : decode cX12_is 67 = .ok (.if_icmp .ne 7, 3) := dq_h (dq_t (dq_t (dq_t (dq_t (dq_t (dq_t (dq_t (dq_t (dq_t (dq_t (dq_t (dq_t (dq_t dzX12_is_44)))))))))))))
theorem dX12_is_70 : decode cX12_is 70 = .ok (.iconst 1, 1) := dq_h (dq_t (dq_t (dq_t (dq_t (dq_t (dq_t (dq_t (dq_t (dq_t (dq_t (dq_t (dq_t (dq_t (dq_t dzX12_is_44))))))))))))))
theorem dX12_is_71 : decode cX12_is 71 = .ok (.goto 4, 3) := dq_h (dq_t (dq_t (dq_t (dq_t (dq_t (dq_t (dq_t (dq_t (dq_t (dq_t (dq_t (dq_t (dq_t (dq_t (dq_t dzX12_is_44)))))))))))))))
theorem dX12_is_74 : decode cX12_is 74 = .ok (.iconst 0, 1) := dq_h (dq_t (dq_t (dq_t (dq_t (dq_t (dq_t (dq_t (dq_t (dq_t (dq_t (dq_t (dq_t (dq_t (dq_t (dq_t (dq_t dzX12_is_44))))))))))))))))
theorem dX12_is_75 : decode cX12_is 75 = .ok (.istore_n 2, 1) := dq_h (dq_t (dq_t (dq_t (dq_t (dq_t (dq_t (dq_t (dq_t (dq_t (dq_t (dq_t (dq_t (dq_t (dq_t (dq_t (dq_t (dq_t dzX12_is_44)))))))))))))))))
theorem dX12_is_76 : decode cX12_is 76 = .ok (.iinc 3 1, 3) := dq_h (dq_t (dq_t (dq_t (dq_t (dq_t (dq_t (dq_t (dq_t (dq_t (dq_t (dq_t (dq_t (dq_t (dq_t (dq_t (dq_t (dq_t (dq_t dzX12_is_44))))))))))))))))))
theorem dX12_is_79 : decode cX12_is 79 = .ok (.goto (-40), 3) := dq_h (dq_t (dq_t (dq_t (dq_t (dq_t (dq_t (dq_t (dq_t (dq_t (dq_t (dq_t (dq_t (dq_t (dq_t (dq_t (dq_t (dq_t (dq_t (dq_t dzX12_is_44)))))))))))))))))))
theorem dX12_is_82 : decode cX12_is 82 = .ok (.iload_n 2, 1) := dq_h (dq_t (dq_t (dq_t (dq_t (dq_t (dq_t (dq_t (dq_t (dq_t (dq_t (dq_t (dq_t (dq_t (dq_t (dq_t (dq_t (dq_t (dq_t (dq_t (dq_t dzX12_is_44))))))))))))))))))))
theorem dX12_is_83 : decode cX12_is 83 = .ok (.ireturn, 1) := dq_h (dq_t (dq_t (dq_t (dq_t (dq_t (dq_t (dq_t (dq_t (dq_t (dq_t (dq_t (dq_t (dq_t (dq_t (dq_t (dq_t (dq_t (dq_t (dq_t (dq_t (dq_t dzX12_is_44)))))))))))))))))))))
theorem dzX12_which_0 : dq_F cX12_which [(0, .iconst 0, 1), (1, .istore_n 2, 1), (2, .iload_n 2, 1), (3, .aload_n 1, 1), (4, .arraylength, 1), (5, .if_icmp .ge 21, 3), (8, .aload_n 0, 1), (9, .aload_n 1, 1), (10, .iload_n 2, 1), (11, .aaload, 1), (12, .invokevirtual 218, 3), (15, .ifCond .eq 5, 3), (18, .iload_n 2, 1), (19, .ireturn, 1), (20, .iinc 2 1, 3), (23, .goto (-21), 3), (26, .iconst (-1), 1), (27, .ireturn, 1)] := dq_s 18 0 (by decide +kernel)
theorem dX12_which_0 : decode cX12_which 0 = .ok (.iconst 0, 1) := dq_h dzX12_which_0
theorem dX12_which_1 : decode cX12_which 1 = .ok (.istore_n 2, 1) := dq_h (dq_t dzX12_which_0)
theorem dX12_which_2 : decode cX12_which 2 = .ok (.iload_n 2, 1) := dq_h (dq_t (dq_t dzX12_which_0))
theorem dX12_which_3 : decode cX12_which 3 = .ok (.aload_n 1, 1) := dq_h (dq_t (dq_t (dq_t dzX12_which_0)))
theorem dX12_which_4 : decode cX12_which 4 = .ok (.arraylength, 1) := dq_h (dq_t (dq_t (dq_t (dq_t dzX12_which_0))))
theorem dX12_which_5 : decode cX12_which 5 = .ok (.if_icmp .ge 21, 3) := dq_h (dq_t (dq_t (dq_t (dq_t (dq_t dzX12_which_0)))))
theorem dX12_which_8 : decode cX12_which 8 = .ok (.aload_n 0, 1) := dq_h (dq_t (dq_t (dq_t (dq_t (dq_t (dq_t dzX12_which_0))))))
theorem dX12_which_9 : decode cX12_which 9 = .ok (.aload_n 1, 1) := dq_h (dq_t (dq_t (dq_t (dq_t (dq_t (dq_t (dq_t dzX12_which_0)))))))
theorem dX12_which_10 : decode cX12_which 10 = .ok (.iload_n 2, 1) := dq_h (dq_t (dq_t (dq_t (dq_t (dq_t (dq_t (dq_t (dq_t dzX12_which_0))))))))
theorem dX12_which_11 : decode cX12_which 11 = .ok (.aaload, 1) := dq_h (dq_t (dq_t (dq_t (dq_t (dq_t (dq_t (dq_t (dq_t (dq_t dzX12_which_0)))))))))
theorem dX12_which_12 : decode cX12_which 12 = .ok (.invokevirtual 218, 3) := dq_h (dq_t (dq_t (dq_t (dq_t (dq_t (dq_t (dq_t (dq_t (dq_t (dq_t dzX12_which_0))))))))))
theorem dX12_which_15 : decode cX12_which 15 = .ok (.ifCond .eq 5, 3) := dq_h (dq_t (dq_t (dq_t (dq_t (dq_t (dq_t (dq_t (dq_t (dq_t (dq_t (dq_t dzX12_which_0)))))))))))
theorem dX12_which_18 : decode cX12_which 18 = .ok (.iload_n 2, 1) := dq_h (dq_t (dq_t (dq_t (dq_t (dq_t (dq_t (dq_t (dq_t (dq_t (dq_t (dq_t (dq_t dzX12_which_0))))))))))))
theorem dX12_which_19 : decode cX12_which 19 = .ok (.ireturn, 1) := dq_h (dq_t (dq_t (dq_t (dq_t (dq_t (dq_t (dq_t (dq_t (dq_t (dq_t (dq_t (dq_t (dq_t dzX12_which_0)))))))))))))
theorem dX12_which_20 : decode cX12_which 20 = .ok (.iinc 2 1, 3) := dq_h (dq_t (dq_t (dq_t (dq_t (dq_t (dq_t (dq_t (dq_t (dq_t (dq_t (dq_t (dq_t (dq_t (dq_t dzX12_which_0))))))))))))))
theorem dX12_which_23 : decode cX12_which 23 = .ok (.goto (-21), 3) := dq_h (dq_t (dq_t (dq_t (dq_t (dq_t (dq_t (dq_t (dq_t (dq_t (dq_t (dq_t (dq_t (dq_t (dq_t (dq_t dzX12_which_0)))))))))))))))
theorem dX12_which_26 : decode cX12_which 26 = .ok (.iconst (-1), 1) := dq_h (dq_t (dq_t (dq_t (dq_t (dq_t (dq_t (dq_t (dq_t (dq_t (dq_t (dq_t (dq_t (dq_t (dq_t (dq_t (dq_t dzX12_which_0))))))))))))))))
theorem dX12_which_27 : decode cX12_which 27 = .ok (.ireturn, 1) := dq_h (dq_t (dq_t (dq_t (dq_t (dq_t (dq_t (dq_t (dq_t (dq_t (dq_t (dq_t (dq_t (dq_t (dq_t (dq_t (dq_t (dq_t dzX12_which_0)))))))))))))))))
theorem dzX12_isMarked_0 : dq_F cX12_isMarked [(0, .aload_n 0, 1), (1, .getfield 204, 3), (4, .ifCond .ne 28, 3), (7, .aload_n 0, 1), (8, .getfield 178, 3), (11, .iconst 3, 1), (12, .if_icmp .ne 20, 3), (15, .aload_n 0, 1), (16, .getfield 81, 3), (19, .aload_n 0, 1), (20, .getfield 175, 3), (23, .iaload, 1), (24, .iload_n 1, 1), (25, .if_icmp .ne 7, 3), (28, .iconst 1, 1), (29, .goto 4, 3), (32, .iconst 0, 1), (33, .ireturn, 1)] := dq_s 18 0 (by decide +kernel)
theorem dX12_isMarked_0 : decode cX12_isMarked 0 = .ok (.aload_n 0, 1) := dq_h dzX12_isMarked_0
theorem dX12_isMarked_1 : decode cX12_isMarked 1 = .ok (.getfield 204, 3) := dq_h (dq_t dzX12_isMarked_0)
theorem dX12_isMarked_4 : decode cX12_isMarked 4 = .ok (.ifCond .ne 28, 3) := dq_h (dq_t (dq_t dzX12_isMarked_0))
theorem dX12_isMarked_7 : decode cX12_isMarked 7 = .ok (.aload_n 0, 1) := dq_h (dq_t (dq_t (dq_t dzX12_isMarked_0)))
theorem dX12_isMarked_8 : decode cX12_isMarked 8 = .ok (.getfield 178, 3) := dq_h (dq_t (dq_t (dq_t (dq_t dzX12_isMarked_0))))
theorem dX12_isMarked_11 : decode cX12_isMarked 11 = .ok (.iconst 3, 1) := dq_h (dq_t (dq_t (dq_t (dq_t (dq_t dzX12_isMarked_0)))))
theorem dX12_isMarked_12 : decode cX12_isMarked 12 = .ok (.if_icmp .ne 20, 3) := dq_h (dq_t (dq_t (dq_t (dq_t (dq_t (dq_t dzX12_isMarked_0))))))
theorem dX12_isMarked_15 : decode cX12_isMarked 15 = .ok (.aload_n 0, 1) := dq_h (dq_t (dq_t (dq_t (dq_t (dq_t (dq_t (dq_t dzX12_isMarked_0)))))))
theorem dX12_isMarked_16 : decode cX12_isMarked 16 = .ok (.getfield 81, 3) := dq_h (dq_t (dq_t (dq_t (dq_t (dq_t (dq_t (dq_t (dq_t dzX12_isMarked_0))))))))
theorem dX12_isMarked_19 : decode cX12_isMarked 19 = .ok (.aload_n 0, 1) := dq_h (dq_t (dq_t (dq_t (dq_t (dq_t (dq_t (dq_t (dq_t (dq_t dzX12_isMarked_0)))))))))
theorem dX12_isMarked_20 : decode cX12_isMarked 20 = .ok (.getfield 175, 3) := dq_h (dq_t (dq_t (dq_t (dq_t (dq_t (dq_t (dq_t (dq_t (dq_t (dq_t dzX12_isMarked_0))))))))))
theorem dX12_isMarked_23 : decode cX12_isMarked 23 = .ok (.iaload, 1) := dq_h (dq_t (dq_t (dq_t (dq_t (dq_t (dq_t (dq_t (dq_t (dq_t (dq_t (dq_t dzX12_isMarked_0)))))))))))
theorem dX12_isMarked_24 : decode cX12_isMarked 24 = .ok (.iload_n 1, 1) := dq_h (dq_t (dq_t (dq_t (dq_t (dq_t (dq_t (dq_t (dq_t (dq_t (dq_t (dq_t (dq_t dzX12_isMarked_0))))))))))))
theorem dX12_isMarked_25 : decode cX12_isMarked 25 = .ok (.if_icmp .ne 7, 3) := dq_h (dq_t (dq_t (dq_t (dq_t (dq_t (dq_t (dq_t (dq_t (dq_t (dq_t (dq_t (dq_t (dq_t dzX12_isMarked_0)))))))))))))
theorem dX12_isMarked_28 : decode cX12_isMarked 28 = .ok (.iconst 1, 1) := dq_h (dq_t (dq_t (dq_t (dq_t (dq_t (dq_t (dq_t (dq_t (dq_t (dq_t (dq_t (dq_t (dq_t (dq_t dzX12_isMarked_0))))))))))))))
theorem dX12_isMarked_29 : decode cX12_isMarked 29 = .ok (.goto 4, 3) := dq_h (dq_t (dq_t (dq_t (dq_t (dq_t (dq_t (dq_t (dq_t (dq_t (dq_t (dq_t (dq_t (dq_t (dq_t (dq_t dzX12_isMarked_0)))))))))))))))
theorem dX12_isMarked_32 : decode cX12_isMarked 32 = .ok (.iconst 0, 1) := dq_h (dq_t (dq_t (dq_t (dq_t (dq_t (dq_t (dq_t (dq_t (dq_t (dq_t (dq_t (dq_t (dq_t (dq_t (dq_t (dq_t dzX12_isMarked_0))))))))))))))))
theorem dX12_isMarked_33 : decode cX12_isMarked 33 = .ok (.ireturn, 1) := dq_h (dq_t (dq_t (dq_t (dq_t (dq_t (dq_t (dq_t (dq_t (dq_t (dq_t (dq_t (dq_t (dq_t (dq_t (dq_t (dq_t (dq_t dzX12_isMarked_0)))))))))))))))))
theorem dzX12_mark_0 : dq_F cX12_mark [(0, .aload_n 0, 1), (1, .getfield 204, 3), (4, .ifCond .ne 16, 3), (7, .aload_n 0, 1), (8, .iload_n 1, 1), (9, .invokevirtual 222, 3), (12, .ifCond .ne 8, 3), (15, .aload_n 0, 1), (16, .iconst 1, 1), (17, .invokevirtual 225, 3), (20, .aload_n 0, 1), (21, .getfield 204, 3), (24, .ifCond .ne 7, 3), (27, .aload_n 0, 1), (28, .invokevirtual 229, 3), (31, .return_, 1)] := dq_s 16 0 (by decide +kernel)
theorem dX12_mark_0 : decode cX12_mark 0 = .ok (.aload_n 0, 1) := dq_h dzX12_mark_0
theorem dX12_mark_1 : decode cX12_mark 1 = .ok (.getfield 204, 3) := dq_h (dq_t dzX12_mark_0)
theorem dX12_mark_4 : decode cX12_mark 4 = .ok (.ifCond .ne 16, 3) := dq_h (dq_t (dq_t dzX12_mark_0))
theorem dX12_mark_7 : decode cX12_mark 7 = .ok (.aload_n 0, 1) := dq_h (dq_t (dq_t (dq_t dzX12_mark_0)))
theorem dX12_mark_8 : decode cX12_mark 8 = .ok (.iload_n 1, 1) := dq_h (dq_t (dq_t (dq_t (dq_t dzX12_mark_0))))
theorem dX12_mark_9 : decode cX12_mark 9 = .ok (.invokevirtual 222, 3) := dq_h (dq_t (dq_t (dq_t (dq_t (dq_t dzX12_mark_0)))))
theorem dX12_mark_12 : decode cX12_mark 12 = .ok (.ifCond .ne 8, 3) := dq_h (dq_t (dq_t (dq_t (dq_t (dq_t (dq_t dzX12_mark_0))))))
theorem dX12_mark_15 : decode cX12_mark 15 = .ok (.aload_n 0, 1) := dq_h (dq_t (dq_t (dq_t (dq_t (dq_t (dq_t (dq_t dzX12_mark_0)))))))
theorem dX12_mark_16 : decode cX12_mark 16 = .ok (.iconst 1, 1) := dq_h (dq_t (dq_t (dq_t (dq_t (dq_t (dq_t (dq_t (dq_t dzX12_mark_0))))))))
theorem dX12_mark_17 : decode cX12_mark 17 = .ok (.invokevirtual 225, 3) := dq_h (dq_t (dq_t (dq_t (dq_t (dq_t (dq_t (dq_t (dq_t (dq_t dzX12_mark_0)))))))))
theorem dX12_mark_20 : decode cX12_mark 20 = .ok (.aload_n 0, 1) := dq_h (dq_t (dq_t (dq_t (dq_t (dq_t (dq_t (dq_t (dq_t (dq_t (dq_t dzX12_mark_0))))))))))
theorem dX12_mark_21 : decode cX12_mark 21 = .ok (.getfield 204, 3) := dq_h (dq_t (dq_t (dq_t (dq_t (dq_t (dq_t (dq_t (dq_t (dq_t (dq_t (dq_t dzX12_mark_0)))))))))))
theorem dX12_mark_24 : decode cX12_mark 24 = .ok (.ifCond .ne 7, 3) := dq_h (dq_t (dq_t (dq_t (dq_t (dq_t (dq_t (dq_t (dq_t (dq_t (dq_t (dq_t (dq_t dzX12_mark_0))))))))))))
theorem dX12_mark_27 : decode cX12_mark 27 = .ok (.aload_n 0, 1) := dq_h (dq_t (dq_t (dq_t (dq_t (dq_t (dq_t (dq_t (dq_t (dq_t (dq_t (dq_t (dq_t (dq_t dzX12_mark_0)))))))))))))
theorem dX12_mark_28 : decode cX12_mark 28 = .ok (.invokevirtual 229, 3) := dq_h (dq_t (dq_t (dq_t (dq_t (dq_t (dq_t (dq_t (dq_t (dq_t (dq_t (dq_t (dq_t (dq_t (dq_t dzX12_mark_0))))))))))))))
theorem dX12_mark_31 : decode cX12_mark 31 = .ok (.return_, 1) := dq_h (dq_t (dq_t (dq_t (dq_t (dq_t (dq_t (dq_t (dq_t (dq_t (dq_t (dq_t (dq_t (dq_t (dq_t (dq_t dzX12_mark_0)))))))))))))))
theorem dzX12_numberNow_0 : dq_F cX12_numberNow [(0, .aload_n 0, 1), (1, .getfield 204, 3), (4, .ifCond .eq 5, 3), (7, .iconst 0, 1), (8, .ireturn, 1), (9, .aload_n 0, 1), (10, .getfield 178, 3), (13, .iconst 2, 1), (14, .if_icmp .eq 11, 3), (17, .aload_n 0, 1), (18, .iconst 1, 1), (19, .invokevirtual 225, 3), (22, .goto 37, 3), (25, .aload_n 0, 1), (26, .getfield 201, 3), (29, .aload_n 0, 1), (30, .getfield 175, 3), (33, .isub, 1), (34, .iconst 4, 1), (35, .if_icmp .gt 19, 3), (38, .aload_n 0, 1), (39, .getfield 188, 3), (42, .iload_n 1, 1), (43, .if_icmp .lt 11, 3)] := dq_s 24 0 (by decide +kernel)
theorem dX12_numberNow_0 : decode cX12_numberNow 0 = .ok (.aload_n 0, 1) := dq_h dzX12_numberNow_0
theorem dX12_numberNow_1 : decode cX12_numberNow 1 = .ok (.getfield 204, 3) := dq_h (dq_t dzX12_numberNow_0)
theorem dX12_numberNow_4 : decode cX12_numberNow 4 = .ok (.ifCond .eq 5, 3) := dq_h (dq_t (dq_t dzX12_numberNow_0))
theorem dX12_numberNow_7 : decode cX12_numberNow 7 = .ok (.iconst 0, 1) := dq_h (dq_t (dq_t (dq_t dzX12_numberNow_0)))
theorem dX12_numberNow_8 : decode cX12_numberNow 8 = .ok (.ireturn, 1) := dq_h (dq_t (dq_t (dq_t (dq_t dzX12_numberNow_0))))
theorem dX12_numberNow_9 : decode cX12_numberNow 9 = .ok (.aload_n 0, 1) := dq_h (dq_t (dq_t (dq_t (dq_t (dq_t dzX12_numberNow_0)))))
theorem dX12_numberNow_10 : decode cX12_numberNow 10 = .ok (.getfield 178, 3) := dq_h (dq_t (dq_t (dq_t (dq_t (dq_t (dq_t dzX12_numberNow_0))))))
theorem dX12_numberNow_13 : decode cX12_numberNow 13 = .ok (.iconst 2, 1) := dq_h (dq_t (dq_t (dq_t (dq_t (dq_t (dq_t (dq_t dzX12_numberNow_0)))))))
theorem dX12_numberNow_14 : decode cX12_numberNow 14 = .ok (.if_icmp .eq 11, 3) := dq_h (dq_t (dq_t (dq_t (dq_t (dq_t (dq_t (dq_t (dq_t dzX12_numberNow_0))))))))
theorem dX12_numberNow_17 : decode cX12_numberNow 17 = .ok (.aload_n 0, 1) := dq_h (dq_t (dq_t (dq_t (dq_t (dq_t (dq_t (dq_t (dq_t (dq_t dzX12_numberNow_0)))))))))
theorem dX12_numberNow_18 : decode cX12_numberNow 18 = .ok (.iconst 1, 1) := dq_h (dq_t (dq_t (dq_t (dq_t (dq_t (dq_t (dq_t (dq_t (dq_t (dq_t dzX12_numberNow_0))))))))))
theorem dX12_numberNow_19 : decode cX12_numberNow 19 = .ok (.invokevirtual 225, 3) := dq_h (dq_t (dq_t (dq_t (dq_t (dq_t (dq_t (dq_t (dq_t (dq_t (dq_t (dq_t dzX12_numberNow_0)))))))))))
theorem dX12_numberNow_22 : decode cX12_numberNow 22 = .ok (.goto 37, 3) := dq_h (dq_t (dq_t (dq_t (dq_t (dq_t (dq_t (dq_t (dq_t (dq_t (dq_t (dq_t (dq_t dzX12_numberNow_0))))))))))))
theorem dX12_numberNow_25 : decode cX12_numberNow 25 = .ok (.aload_n 0, 1) := dq_h (dq_t (dq_t (dq_t (dq_t (dq_t (dq_t (dq_t (dq_t (dq_t (dq_t (dq_t (dq_t (dq_t dzX12_numberNow_0)))))))))))))
theorem dX12_numberNow_26 : decode cX12_numberNow 26 = .ok (.getfield 201, 3) := dq_h (dq_t (dq_t (dq_t (dq_t (dq_t (dq_t (dq_t (dq_t (dq_t (dq_t (dq_t (dq_t (dq_t (dq_t dzX12_numberNow_0))))))))))))))
theorem dX12_numberNow_29 : decode cX12_numberNow 29 = .ok (.aload_n 0, 1) := dq_h (dq_t (dq_t (dq_t (dq_t (dq_t (dq_t (dq_t (dq_t (dq_t (dq_t (dq_t (dq_t (dq_t (dq_t (dq_t dzX12_numberNow_0)))))))))))))))
theorem dX12_numberNow_30 : decode cX12_numberNow 30 = .ok (.getfield 175, 3) := dq_h (dq_t (dq_t (dq_t (dq_t (dq_t (dq_t (dq_t (dq_t (dq_t (dq_t (dq_t (dq_t (dq_t (dq_t (dq_t (dq_t dzX12_numberNow_0))))))))))))))))
theorem dX12_numberNow_33 : decode cX12_numberNow 33 = .ok (.isub, 1) := dq_h (dq_t (dq_t (dq_t (dq_t (dq_t (dq_t (dq_t (dq_t (dq_t (dq_t (dq_t (dq_t (dq_t (dq_t (dq_t (dq_t (dq_t dzX12_numberNow_0)))))))))))))))))
theorem dX12_numberNow_34 : decode cX12_numberNow 34 = .ok (.iconst 4, 1) := dq_h (dq_t (dq_t (dq_t (dq_t (dq_t (dq_t (dq_t (dq_t (dq_t (dq_t (dq_t (dq_t (dq_t (dq_t (dq_t (dq_t (dq_t (dq_t dzX12_numberNow_0))))))))))))))))))
theorem dX12_numberNow_35 : decode cX12_numberNow 35 = .ok (.if_icmp .gt 19, 3) := dq_h (dq_t (dq_t (dq_t (dq_t (dq_t (dq_t (dq_t (dq_t (dq_t (dq_t (dq_t (dq_t (dq_t (dq_t (dq_t (dq_t (dq_t (dq_t (dq_t dzX12_numberNow_0)))))))))))))))))))
theorem dX12_numberNow_38 : decode cX12_numberNow 38 = .ok (.aload_n 0, 1) := dq_h (dq_t (dq_t (dq_t (dq_t (dq_t (dq_t (dq_t (dq_t (dq_t (dq_t (dq_t (dq_t (dq_t (dq_t (dq_t (dq_t (dq_t (dq_t (dq_t (dq_t dzX12_numberNow_0))))))))))))))))))))
theorem dX12_numberNow_39 : decode cX12_numberNow 39 = .ok (.getfield 188, 3) := dq_h (dq_t (dq_t (dq_t (dq_t (dq_t (dq_t (dq_t (dq_t (dq_t (dq_t (dq_t (dq_t (dq_t (dq_t (dq_t (dq_t (dq_t (dq_t (dq_t (dq_t (dq_t dzX12_numberNow_0)))))))))))))))))))))
theorem dX12_numberNow_42 : decode cX12_numberNow 42 = .ok (.iload_n 1, 1) := dq_h (dq_t (dq_t (dq_t (dq_t (dq_t (dq_t (dq_t (dq_t (dq_t (dq_t (dq_t (dq_t (dq_t (dq_t (dq_t (dq_t (dq_t (dq_t (dq_t (dq_t (dq_t (dq_t dzX12_numberNow_0))))))))))))))))))))))
theorem dX12_numberNow_43 : decode cX12_numberNow 43 = .ok (.if_icmp .lt 11, 3) := dq_h (dq_t (dq_t (dq_t (dq_t (dq_t (dq_t (dq_t (dq_t (dq_t (dq_t (dq_t (dq_t (dq_t (dq_t (dq_t (dq_t (dq_t (dq_t (dq_t (dq_t (dq_t (dq_t (dq_t dzX12_numberNow_0)))))))))))))))))))))))
theorem dzX12_numberNow_46 : dq_F cX12_numberNow [(46, .aload_n 0, 1), (47, .getfield 188, 3), (50, .iload_n 2, 1), (51, .if_icmp .le 8, 3), (54, .aload_n 0, 1), (55, .iconst 2, 1), (56, .invokevirtual 225, 3), (59, .aload_n 0, 1), (60, .getfield 204, 3), (63, .ifCond .ne 10, 3), (66, .aload_n 0, 1), (67, .getfield 188, 3), (70, .goto 4, 3), (73, .iconst 0, 1), (74, .ireturn, 1)] := dq_s 15 46 (by decide +kernel)
theorem dX12_numberNow_46 : decode cX12_numberNow 46 = .ok (.aload_n 0, 1) := dq_h dzX12_numberNow_46
theorem dX12_numberNow_47 : decode cX12_numberNow 47 = .ok (.getfield 188, 3) := dq_h (dq_t dzX12_numberNow_46)
theorem dX12_numberNow_50 : decode cX12_numberNow 50 = .ok (.iload_n 2, 1) := dq_h (dq_t (dq_t dzX12_numberNow_46))
theorem dX12_numberNow_51 : decode cX12_numberNow 51 = .ok (.if_icmp .le 8, 3) := dq_h (dq_t (dq_t (dq_t dzX12_numberNow_46)))
theorem dX12_numberNow_54 : decode cX12_numberNow 54 = .ok (.aload_n 0, 1) := dq_h (dq_t (dq_t (dq_t (dq_t dzX12_numberNow_46))))
theorem dX12_numberNow_55 : decode cX12_numberNow 55 = .ok (.iconst 2, 1) := dq_h (dq_t (dq_t (dq_t (dq_t (dq_t dzX12_numberNow_46)))))
theorem dX12_numberNow_56 : decode cX12_numberNow 56 = .ok (.invokevirtual 225, 3) := dq_h (dq_t (dq_t (dq_t (dq_t (dq_t (dq_t dzX12_numberNow_46))))))
theorem dX12_numberNow_59 : decode cX12_numberNow 59 = .ok (.aload_n 0, 1) := dq_h (dq_t (dq_t (dq_t (dq_t (dq_t (dq_t (dq_t dzX12_numberNow_46)))))))
theorem dX12_numberNow_60 : decode cX12_numberNow 60 = .ok (.getfield 204, 3) := dq_h (dq_t (dq_t (dq_t (dq_t (dq_t (dq_t (dq_t (dq_t dzX12_numberNow_46))))))))
theorem dX12_numberNow_63 : decode cX12_numberNow 63 = .ok (.ifCond .ne 10, 3) := dq_h (dq_t (dq_t (dq_t (dq_t (dq_t (dq_t (dq_t (dq_t (dq_t dzX12_numberNow_46)))))))))
theorem dX12_numberNow_66 : decode cX12_numberNow 66 = .ok (.aload_n 0, 1) := dq_h (dq_t (dq_t (dq_t (dq_t (dq_t (dq_t (dq_t (dq_t (dq_t (dq_t dzX12_numberNow_46))))))))))
theorem dX12_numberNow_67 : decode cX12_numberNow 67 = .ok (.getfield 188, 3) := dq_h (dq_t (dq_t (dq_t (dq_t (dq_t (dq_t (dq_t (dq_t (dq_t (dq_t (dq_t dzX12_numberNow_46)))))))))))
theorem dX12_numberNow_70 : decode cX12_numberNow 70 = .ok (.goto 4, 3) := dq_h (dq_t (dq_t (dq_t (dq_t (dq_t (dq_t (dq_t (dq_t (dq_t (dq_t (dq_t (dq_t dzX12_numberNow_46))))))))))))
theorem dX12_numberNow_73 : decode cX12_numberNow 73 = .ok (.iconst 0, 1) := dq_h (dq_t (dq_t (dq_t (dq_t (dq_t (dq_t (dq_t (dq_t (dq_t (dq_t (dq_t (dq_t (dq_t dzX12_numberNow_46)))))))))))))
theorem dX12_numberNow_74 : decode cX12_numberNow 74 = .ok (.ireturn, 1) := dq_h (dq_t (dq_t (dq_t (dq_t (dq_t (dq_t (dq_t (dq_t (dq_t (dq_t (dq_t (dq_t (dq_t (dq_t dzX12_numberNow_46))))))))))))))
theorem dzX12_readNumber_0 : dq_F cX12_readNumber [(0, .aload_n 0, 1), (1, .iload_n 1, 1), (2, .iload_n 2, 1), (3, .invokevirtual 232, 3), (6, .istore_n 3, 1), (7, .aload_n 0, 1), (8, .getfield 204, 3), (11, .ifCond .ne 7, 3), (14, .aload_n 0, 1), (15, .invokevirtual 229, 3), (18, .iload_n 3, 1), (19, .ireturn, 1)] := dq_s 12 0 (by decide +kernel)
theorem dX12_readNumber_0 : decode cX12_readNumber 0 = .ok (.aload_n 0, 1) := dq_h dzX12_readNumber_0
theorem dX12_readNumber_1 : decode cX12_readNumber 1 = .ok (.iload_n 1, 1) := dq_h (dq_t dzX12_readNumber_0)
theorem dX12_readNumber_2 : decode cX12_readNumber 2 = .ok (.iload_n 2, 1) := dq_h (dq_t (dq_t dzX12_readNumber_0))
theorem dX12_readNumber_3 : decode cX12_readNumber 3 = .ok (.invokevirtual 232, 3) := dq_h (dq_t (dq_t (dq_t dzX12_readNumber_0)))
theorem dX12_readNumber_6 : decode cX12_readNumber 6 = .ok (.istore_n 3, 1) := dq_h (dq_t (dq_t (dq_t (dq_t dzX12_readNumber_0))))
theorem dX12_readNumber_7 : decode cX12_readNumber 7 = .ok (.aload_n 0, 1) := dq_h (dq_t (dq_t (dq_t (dq_t (dq_t dzX12_readNumber_0)))))
theorem dX12_readNumber_8 : decode cX12_readNumber 8 = .ok (.getfield 204, 3) := dq_h (dq_t (dq_t (dq_t (dq_t (dq_t (dq_t dzX12_readNumber_0))))))
theorem dX12_readNumber_11 : decode cX12_readNumber 11 = .ok (.ifCond .ne 7, 3) := dq_h (dq_t (dq_t (dq_t (dq_t (dq_t (dq_t (dq_t dzX12_readNumber_0)))))))
theorem dX12_readNumber_14 : decode cX12_readNumber 14 = .ok (.aload_n 0, 1) := dq_h (dq_t (dq_t (dq_t (dq_t (dq_t (dq_t (dq_t (dq_t dzX12_readNumber_0))))))))
theorem dX12_readNumber_15 : decode cX12_readNumber 15 = .ok (.invokevirtual 229, 3) := dq_h (dq_t (dq_t (dq_t (dq_t (dq_t (dq_t (dq_t (dq_t (dq_t dzX12_readNumber_0)))))))))
theorem dX12_readNumber_18 : decode cX12_readNumber 18 = .ok (.iload_n 3, 1) := dq_h (dq_t (dq_t (dq_t (dq_t (dq_t (dq_t (dq_t (dq_t (dq_t (dq_t dzX12_readNumber_0))))))))))
theorem dX12_readNumber_19 : decode cX12_readNumber 19 = .ok (.ireturn, 1) := dq_h (dq_t (dq_t (dq_t (dq_t (dq_t (dq_t (dq_t (dq_t (dq_t (dq_t (dq_t dzX12_readNumber_0)))))))))))
theorem dzX12_lay_0 : dq_F cX12_lay [(0, .aload_n 0, 1), (1, .getfield 204, 3), (4, .ifCond .eq 4, 3), (7, .return_, 1), (8, .bipush 6, 2), (10, .aload_n 0, 1), (11, .getfield 235, 3), (14, .ifCond .eq 7, 3), (17, .iconst 5, 1), (18, .goto 4, 3), (21, .iconst 4, 1), (22, .iadd, 1), (23, .istore_n 2, 1), (24, .aload_n 0, 1), (25, .getfield 235, 3), (28, .ifCond .eq 10, 3), (31, .aload_n 0, 1), (32, .getfield 73, 3), (35, .goto 7, 3), (38, .aload_n 0, 1), (39, .getfield 70, 3), (42, .astore_n 3, 1), (43, .aload_n 3, 1), (44, .sipush 700, 3)] := dq_s 24 0 (by decide +kernel)
theorem dX12_lay_0 : decode cX12_lay 0 = .ok (.aload_n 0, 1) := dq_h dzX12_lay_0
theorem dX12_lay_1 : decode cX12_lay 1 = .ok (.getfield 204, 3) := dq_h (dq_t dzX12_lay_0)
theorem dX12_lay_4 : decode cX12_lay 4 = .ok (.ifCond .eq 4, 3) := dq_h (dq_t (dq_t dzX12_lay_0))
theorem dX12_lay_7 : decode cX12_lay 7 = .ok (.return_, 1) := dq_h (dq_t (dq_t (dq_t dzX12_lay_0)))
theorem dX12_lay_8 : decode cX12_lay 8 = .ok (.bipush 6, 2) := dq_h (dq_t (dq_t (dq_t (dq_t dzX12_lay_0))))
theorem dX12_lay_10 : decode cX12_lay 10 = .ok (.aload_n 0, 1) := dq_h (dq_t (dq_t (dq_t (dq_t (dq_t dzX12_lay_0)))))
theorem dX12_lay_11 : decode cX12_lay 11 = .ok (.getfield 235, 3) := dq_h (dq_t (dq_t (dq_t (dq_t (dq_t (dq_t dzX12_lay_0))))))
theorem dX12_lay_14 : decode cX12_lay 14 = .ok (.ifCond .eq 7, 3) := dq_h (dq_t (dq_t (dq_t (dq_t (dq_t (dq_t (dq_t dzX12_lay_0)))))))
theorem dX12_lay_17 : decode cX12_lay 17 = .ok (.iconst 5, 1) := dq_h (dq_t (dq_t (dq_t (dq_t (dq_t (dq_t (dq_t (dq_t dzX12_lay_0))))))))
theorem dX12_lay_18 : decode cX12_lay 18 = .ok (.goto 4, 3) := dq_h (dq_t (dq_t (dq_t (dq_t (dq_t (dq_t (dq_t (dq_t (dq_t dzX12_lay_0)))))))))
theorem dX12_lay_21 : decode cX12_lay 21 = .ok (.iconst 4, 1) := dq_h (dq_t (dq_t (dq_t (dq_t (dq_t (dq_t (dq_t (dq_t (dq_t (dq_t dzX12_lay_0))))))))))
theorem dX12_lay_22 : decode cX12_lay 22 = .ok (.iadd, 1) := dq_h (dq_t (dq_t (dq_t (dq_t (dq_t (dq_t (dq_t (dq_t (dq_t (dq_t (dq_t dzX12_lay_0)))))))))))
theorem dX12_lay_23 : decode cX12_lay 23 = .ok (.istore_n 2, 1) := dq_h (dq_t (dq_t (dq_t (dq_t (dq_t (dq_t (dq_t (dq_t (dq_t (dq_t (dq_t (dq_t dzX12_lay_0))))))))))))
theorem dX12_lay_24 : decode cX12_lay 24 = .ok (.aload_n 0, 1) := dq_h (dq_t (dq_t (dq_t (dq_t (dq_t (dq_t (dq_t (dq_t (dq_t (dq_t (dq_t (dq_t (dq_t dzX12_lay_0)))))))))))))
theorem dX12_lay_25 : decode cX12_lay 25 = .ok (.getfield 235, 3) := dq_h (dq_t (dq_t (dq_t (dq_t (dq_t (dq_t (dq_t (dq_t (dq_t (dq_t (dq_t (dq_t (dq_t (dq_t dzX12_lay_0))))))))))))))
theorem dX12_lay_28 : decode cX12_lay 28 = .ok (.ifCond .eq 10, 3) := dq_h (dq_t (dq_t (dq_t (dq_t (dq_t (dq_t (dq_t (dq_t (dq_t (dq_t (dq_t (dq_t (dq_t (dq_t (dq_t dzX12_lay_0)))))))))))))))
theorem dX12_lay_31 : decode cX12_lay 31 = .ok (.aload_n 0, 1) := dq_h (dq_t (dq_t (dq_t (dq_t (dq_t (dq_t (dq_t (dq_t (dq_t (dq_t (dq_t (dq_t (dq_t (dq_t (dq_t (dq_t dzX12_lay_0))))))))))))))))
theorem dX12_lay_32 : decode cX12_lay 32 = .ok (.getfield 73, 3) := dq_h (dq_t (dq_t (dq_t (dq_t (dq_t (dq_t (dq_t (dq_t (dq_t (dq_t (dq_t (dq_t (dq_t (dq_t (dq_t (dq_t (dq_t dzX12_lay_0)))))))))))))))))
theorem dX12_lay_35 : decode cX12_lay 35 = .ok (.goto 7, 3) := dq_h (dq_t (dq_t (dq_t (dq_t (dq_t (dq_t (dq_t (dq_t (dq_t (dq_t (dq_t (dq_t (dq_t (dq_t (dq_t (dq_t (dq_t (dq_t dzX12_lay_0))))))))))))))))))
theorem dX12_lay_38 : decode cX12_lay 38 = .ok (.aload_n 0, 1) := dq_h (dq_t (dq_t (dq_t (dq_t (dq_t (dq_t (dq_t (dq_t (dq_t (dq_t (dq_t (dq_t (dq_t (dq_t (dq_t (dq_t (dq_t (dq_t (dq_t dzX12_lay_0)))))))))))))))))))
theorem dX12_lay_39 : decode cX12_lay 39 = .ok (.getfield 70, 3) := dq_h (dq_t (dq_t (dq_t (dq_t (dq_t (dq_t (dq_t (dq_t (dq_t (dq_t (dq_t (dq_t (dq_t (dq_t (dq_t (dq_t (dq_t (dq_t (dq_t (dq_t dzX12_lay_0))))))))))))))))))))
theorem dX12_lay_42 : decode cX12_lay 42 = .ok (.astore_n 3, 1) := dq_h (dq_t (dq_t (dq_t (dq_t (dq_t (dq_t (dq_t (dq_t (dq_t (dq_t (dq_t (dq_t (dq_t (dq_t (dq_t (dq_t (dq_t (dq_t (dq_t (dq_t (dq_t dzX12_lay_0)))))))))))))))))))))
theorem dX12_lay_43 : decode cX12_lay 43 = .ok (.aload_n 3, 1) := dq_h (dq_t (dq_t (dq_t (dq_t (dq_t (dq_t (dq_t (dq_t (dq_t (dq_t (dq_t (dq_t (dq_t (dq_t (dq_t (dq_t (dq_t (dq_t (dq_t (dq_t (dq_t (dq_t dzX12_lay_0))))))))))))))))))))))
theorem dX12_lay_44 : decode cX12_lay 44 = .ok (.sipush 700, 3) := dq_h (dq_t (dq_t (dq_t (dq_t (dq_t (dq_t (dq_t (dq_t (dq_t (dq_t (dq_t (dq_t (dq_t (dq_t (dq_t (dq_t (dq_t (dq_t (dq_t (dq_t (dq_t (dq_t (dq_t dzX12_lay_0)))))))))))))))))))))))
theorem dzX12_lay_47 : dq_F cX12_lay [(47, .aload_n 0, 1), (48, .getfield 42, 3), (51, .iload_n 2, 1), (52, .iaload, 1), (53, .iadd, 1), (54, .iload_n 1, 1), (55, .iastore, 1), (56, .aload_n 0, 1), (57, .getfield 42, 3), (60, .iload_n 2, 1), (61, .dup2, 1), (62, .iaload, 1), (63, .iconst 1, 1), (64, .iadd, 1), (65, .iastore, 1), (66, .return_, 1)] := dq_s 16 47 (by decide +kernel)
theorem dX12_lay_47 : decode cX12_lay 47 = .ok (.aload_n 0, 1) := dq_h dzX12_lay_47
theorem dX12_lay_48 : decode cX12_lay 48 = .ok (.getfield 42, 3) := dq_h (dq_t dzX12_lay_47)
theorem dX12_lay_51 : decode cX12_lay 51 = .ok (.iload_n 2, 1) := dq_h (dq_t (dq_t dzX12_lay_47))
theorem dX12_lay_52 : decode cX12_lay 52 = .ok (.iaload, 1) := dq_h (dq_t (dq_t (dq_t dzX12_lay_47)))
theorem dX12_lay_53 : decode cX12_lay 53 = .ok (.iadd, 1) := dq_h (dq_t (dq_t (dq_t (dq_t dzX12_lay_47))))
theorem dX12_lay_54 : decode cX12_lay 54 = .ok (.iload_n 1, 1) := dq_h (dq_t (dq_t (dq_t (dq_t (dq_t dzX12_lay_47)))))
theorem dX12_lay_55 : decode cX12_lay 55 = .ok (.iastore, 1) := dq_h (dq_t (dq_t (dq_t (dq_t (dq_t (dq_t dzX12_lay_47))))))
theorem dX12_lay_56 : decode cX12_lay 56 = .ok (.aload_n 0, 1) := dq_h (dq_t (dq_t (dq_t (dq_t (dq_t (dq_t (dq_t dzX12_lay_47)))))))
theorem dX12_lay_57 : decode cX12_lay 57 = .ok (.getfield 42, 3) := dq_h (dq_t (dq_t (dq_t (dq_t (dq_t (dq_t (dq_t (dq_t dzX12_lay_47))))))))
theorem dX12_lay_60 : decode cX12_lay 60 = .ok (.iload_n 2, 1) := dq_h (dq_t (dq_t (dq_t (dq_t (dq_t (dq_t (dq_t (dq_t (dq_t dzX12_lay_47)))))))))
theorem dX12_lay_61 : decode cX12_lay 61 = .ok (.dup2, 1) := dq_h (dq_t (dq_t (dq_t (dq_t (dq_t (dq_t (dq_t (dq_t (dq_t (dq_t dzX12_lay_47))))))))))
theorem dX12_lay_62 : decode cX12_lay 62 = .ok (.iaload, 1) := dq_h (dq_t (dq_t (dq_t (dq_t (dq_t (dq_t (dq_t (dq_t (dq_t (dq_t (dq_t dzX12_lay_47)))))))))))
theorem dX12_lay_63 : decode cX12_lay 63 = .ok (.iconst 1, 1) := dq_h (dq_t (dq_t (dq_t (dq_t (dq_t (dq_t (dq_t (dq_t (dq_t (dq_t (dq_t (dq_t dzX12_lay_47))))))))))))
theorem dX12_lay_64 : decode cX12_lay 64 = .ok (.iadd, 1) := dq_h (dq_t (dq_t (dq_t (dq_t (dq_t (dq_t (dq_t (dq_t (dq_t (dq_t (dq_t (dq_t (dq_t dzX12_lay_47)))))))))))))
theorem dX12_lay_65 : decode cX12_lay 65 = .ok (.iastore, 1) := dq_h (dq_t (dq_t (dq_t (dq_t (dq_t (dq_t (dq_t (dq_t (dq_t (dq_t (dq_t (dq_t (dq_t (dq_t dzX12_lay_47))))))))))))))
theorem dX12_lay_66 : decode cX12_lay 66 = .ok (.return_, 1) := dq_h (dq_t (dq_t (dq_t (dq_t (dq_t (dq_t (dq_t (dq_t (dq_t (dq_t (dq_t (dq_t (dq_t (dq_t (dq_t dzX12_lay_47)))))))))))))))
theorem dzX12_readPart_0 : dq_F cX12_readPart [(0, .aload_n 0, 1), (1, .getfield 204, 3), (4, .ifCond .eq 4, 3), (7, .return_, 1), (8, .aload_n 0, 1), (9, .getfield 178, 3), (12, .iconst 2, 1), (13, .if_icmp .ne 16, 3), (16, .aload_n 0, 1), (17, .aload_n 0, 1), (18, .iconst 0, 1), (19, .sipush 9999, 3), (22, .invokevirtual 239, 3), (25, .invokevirtual 242, 3), (28, .return_, 1), (29, .aload_n 0, 1), (30, .getfield 178, 3), (33, .iconst 1, 1), (34, .if_icmp .ne 41, 3), (37, .aload_n 0, 1), (38, .aload_n 0, 1), (39, .getfield 39, 3), (42, .invokevirtual 245, 3), (45, .istore_n 2, 1)] := dq_s 24 0 (by decide +kernel)
theorem dX12_readPart_0 : decode cX12_readPart 0 = .ok (.aload_n 0, 1) := dq_h dzX12_readPart_0
theorem dX12_readPart_1 : decode cX12_readPart 1 = .ok (.getfield 204, 3) := dq_h (dq_t dzX12_readPart_0)
theorem dX12_readPart_4 : decode cX12_readPart 4 = .ok (.ifCond .eq 4, 3) := dq_h (dq_t (dq_t dzX12_readPart_0))
theorem dX12_readPart_7 : decode cX12_readPart 7 = .ok (.return_, 1) := dq_h (dq_t (dq_t (dq_t dzX12_readPart_0)))
theorem dX12_readPart_8 : decode cX12_readPart 8 = .ok (.aload_n 0, 1) := dq_h (dq_t (dq_t (dq_t (dq_t dzX12_readPart_0))))
theorem dX12_readPart_9 : decode cX12_readPart 9 = .ok (.getfield 178, 3) := dq_h (dq_t (dq_t (dq_t (dq_t (dq_t dzX12_readPart_0)))))
theorem dX12_readPart_12 : decode cX12_readPart 12 = .ok (.iconst 2, 1) := dq_h (dq_t (dq_t (dq_t (dq_t (dq_t (dq_t dzX12_readPart_0))))))
theorem dX12_readPart_13 : decode cX12_readPart 13 = .ok (.if_icmp .ne 16, 3) := dq_h (dq_t (dq_t (dq_t (dq_t (dq_t (dq_t (dq_t dzX12_readPart_0)))))))
theorem dX12_readPart_16 : decode cX12_readPart 16 = .ok (.aload_n 0, 1) := dq_h (dq_t (dq_t (dq_t (dq_t (dq_t (dq_t (dq_t (dq_t dzX12_readPart_0))))))))
theorem dX12_readPart_17 : decode cX12_readPart 17 = .ok (.aload_n 0, 1) := dq_h (dq_t (dq_t (dq_t (dq_t (dq_t (dq_t (dq_t (dq_t (dq_t dzX12_readPart_0)))))))))
theorem dX12_readPart_18 : decode cX12_readPart 18 = .ok (.iconst 0, 1) := dq_h (dq_t (dq_t (dq_t (dq_t (dq_t (dq_t (dq_t (dq_t (dq_t (dq_t dzX12_readPart_0))))))))))
theorem dX12_readPart_19 : decode cX12_readPart 19 = .ok (.sipush 9999, 3) := dq_h (dq_t (dq_t (dq_t (dq_t (dq_t (dq_t (dq_t (dq_t (dq_t (dq_t (dq_t dzX12_readPart_0)))))))))))
theorem dX12_readPart_22 : decode cX12_readPart 22 = .ok (.invokevirtual 239, 3) := dq_h (dq_t (dq_t (dq_t (dq_t (dq_t (dq_t (dq_t (dq_t (dq_t (dq_t (dq_t (dq_t dzX12_readPart_0))))))))))))
theorem dX12_readPart_25 : decode cX12_readPart 25 = .ok (.invokevirtual 242, 3) := dq_h (dq_t (dq_t (dq_t (dq_t (dq_t (dq_t (dq_t (dq_t (dq_t (dq_t (dq_t (dq_t (dq_t dzX12_readPart_0)))))))))))))
theorem dX12_readPart_28 : decode cX12_readPart 28 = .ok (.return_, 1) := dq_h (dq_t (dq_t (dq_t (dq_t (dq_t (dq_t (dq_t (dq_t (dq_t (dq_t (dq_t (dq_t (dq_t (dq_t dzX12_readPart_0))))))))))))))
theorem dX12_readPart_29 : decode cX12_readPart 29 = .ok (.aload_n 0, 1) := dq_h (dq_t (dq_t (dq_t (dq_t (dq_t (dq_t (dq_t (dq_t (dq_t (dq_t (dq_t (dq_t (dq_t (dq_t (dq_t dzX12_readPart_0)))))))))))))))
theorem dX12_readPart_30 : decode cX12_readPart 30 = .ok (.getfield 178, 3) := dq_h (dq_t (dq_t (dq_t (dq_t (dq_t (dq_t (dq_t (dq_t (dq_t (dq_t (dq_t (dq_t (dq_t (dq_t (dq_t (dq_t dzX12_readPart_0))))))))))))))))
theorem dX12_readPart_33 : decode cX12_readPart 33 = .ok (.iconst 1, 1) := dq_h (dq_t (dq_t (dq_t (dq_t (dq_t (dq_t (dq_t (dq_t (dq_t (dq_t (dq_t (dq_t (dq_t (dq_t (dq_t (dq_t (dq_t dzX12_readPart_0)))))))))))))))))
theorem dX12_readPart_34 : decode cX12_readPart 34 = .ok (.if_icmp .ne 41, 3) := dq_h (dq_t (dq_t (dq_t (dq_t (dq_t (dq_t (dq_t (dq_t (dq_t (dq_t (dq_t (dq_t (dq_t (dq_t (dq_t (dq_t (dq_t (dq_t dzX12_readPart_0))))))))))))))))))
theorem dX12_readPart_37 : decode cX12_readPart 37 = .ok (.aload_n 0, 1) := dq_h (dq_t (dq_t (dq_t (dq_t (dq_t (dq_t (dq_t (dq_t (dq_t (dq_t (dq_t (dq_t (dq_t (dq_t (dq_t (dq_t (dq_t (dq_t (dq_t dzX12_readPart_0)))))))))))))))))))
theorem dX12_readPart_38 : decode cX12_readPart 38 = .ok (.aload_n 0, 1) := dq_h (dq_t (dq_t (dq_t (dq_t (dq_t (dq_t (dq_t (dq_t (dq_t (dq_t (dq_t (dq_t (dq_t (dq_t (dq_t (dq_t (dq_t (dq_t (dq_t (dq_t dzX12_readPart_0))))))))))))))))))))
theorem dX12_readPart_39 : decode cX12_readPart 39 = .ok (.getfield 39, 3) := dq_h (dq_t (dq_t (dq_t (dq_t (dq_t (dq_t (dq_t (dq_t (dq_t (dq_t (dq_t (dq_t (dq_t (dq_t (dq_t (dq_t (dq_t (dq_t (dq_t (dq_t (dq_t dzX12_readPart_0)))))))))))))))))))))
theorem dX12_readPart_42 : decode cX12_readPart 42 = .ok (.invokevirtual 245, 3) := dq_h (dq_t (dq_t (dq_t (dq_t (dq_t (dq_t (dq_t (dq_t (dq_t (dq_t (dq_t (dq_t (dq_t (dq_t (dq_t (dq_t (dq_t (dq_t (dq_t (dq_t (dq_t (dq_t dzX12_readPart_0))))))))))))))))))))))
theorem dX12_readPart_45 : decode cX12_readPart 45 = .ok (.istore_n 2, 1) := dq_h (dq_t (dq_t (dq_t (dq_t (dq_t (dq_t (dq_t (dq_t (dq_t (dq_t (dq_t (dq_t (dq_t (dq_t (dq_t (dq_t (dq_t (dq_t (dq_t (dq_t (dq_t (dq_t (dq_t dzX12_readPart_0)))))))))))))))))))))))
theorem dzX12_readPart_46 : dq_F cX12_readPart [(46, .iload_n 2, 1), (47, .iconst (-1), 1), (48, .if_icmp .ne 8, 3), (51, .aload_n 0, 1), (52, .iconst 3, 1), (53, .invokevirtual 225, 3), (56, .aload_n 0, 1), (57, .iconst (-1), 1), (58, .iload_n 2, 1), (59, .isub, 1), (60, .invokevirtual 242, 3), (63, .aload_n 0, 1), (64, .getfield 204, 3), (67, .ifCond .ne 7, 3), (70, .aload_n 0, 1), (71, .invokevirtual 229, 3), (74, .return_, 1), (75, .aload_n 0, 1), (76, .bipush 40, 2), (78, .invokevirtual 249, 3), (81, .aload_n 0, 1), (82, .iload_n 1, 1), (83, .iconst 1, 1), (84, .iadd, 1)] := dq_s 24 46 (by decide +kernel)
theorem dX12_readPart_46 : decode cX12_readPart 46 = .ok (.iload_n 2, 1) := dq_h dzX12_readPart_46
theorem dX12_readPart_47 : decode cX12_readPart 47 = .ok (.iconst (-1), 1) := dq_h (dq_t dzX12_readPart_46)
theorem dX12_readPart_48 : decode cX12_readPart 48 = .ok (.if_icmp .ne 8, 3) := dq_h (dq_t (dq_t dzX12_readPart_46))
theorem dX12_readPart_51 : decode cX12_readPart 51 = .ok (.aload_n 0, 1) := dq_h (dq_t (dq_t (dq_t dzX12_readPart_46)))
theorem dX12_readPart_52 : decode cX12_readPart 52 = .ok (.iconst 3, 1) := dq_h (dq_t (dq_t (dq_t (dq_t dzX12_readPart_46))))
theorem dX12_readPart_53 : decode cX12_readPart 53 = .ok (.invokevirtual 225, 3) := dq_h (dq_t (dq_t (dq_t (dq_t (dq_t dzX12_readPart_46)))))
theorem dX12_readPart_56 : decode cX12_readPart 56 = .ok (.aload_n 0, 1) := dq_h (dq_t (dq_t (dq_t (dq_t (dq_t (dq_t dzX12_readPart_46))))))
theorem dX12_readPart_57 : decode cX12_readPart 57 = .ok (.iconst (-1), 1) := dq_h (dq_t (dq_t (dq_t (dq_t (dq_t (dq_t (dq_t dzX12_readPart_46)))))))
theorem dX12_readPart_58 : decode cX12_readPart 58 = .ok (.iload_n 2, 1) := dq_h (dq_t (dq_t (dq_t (dq_t (dq_t (dq_t (dq_t (dq_t dzX12_readPart_46))))))))
theorem dX12_readPart_59 : decode cX12_readPart 59 = .ok (.isub, 1) := dq_h (dq_t (dq_t (dq_t (dq_t (dq_t (dq_t (dq_t (dq_t (dq_t dzX12_readPart_46)))))))))
theorem dX12_readPart_60 : decode cX12_readPart 60 = .ok (.invokevirtual 242, 3) := dq_h (dq_t (dq_t (dq_t (dq_t (dq_t (dq_t (dq_t (dq_t (dq_t (dq_t dzX12_readPart_46))))))))))
theorem dX12_readPart_63 : decode cX12_readPart 63 = .ok (.aload_n 0, 1) := dq_h (dq_t (dq_t (dq_t (dq_t (dq_t (dq_t (dq_t (dq_t (dq_t (dq_t (dq_t dzX12_readPart_46)))))))))))
theorem dX12_readPart_64 : decode cX12_readPart 64 = .ok (.getfield 204, 3) := dq_h (dq_t (dq_t (dq_t (dq_t (dq_t (dq_t (dq_t (dq_t (dq_t (dq_t (dq_t (dq_t dzX12_readPart_46))))))))))))
theorem dX12_readPart_67 : decode cX12_readPart 67 = .ok (.ifCond .ne 7, 3) := dq_h (dq_t (dq_t (dq_t (dq_t (dq_t (dq_t (dq_t (dq_t (dq_t (dq_t (dq_t (dq_t (dq_t dzX12_readPart_46)))))))))))))
theorem dX12_readPart_70 : decode cX12_readPart 70 = .ok (.aload_n 0, 1) := dq_h (dq_t (dq_t (dq_t (dq_t (dq_t (dq_t (dq_t (dq_t (dq_t (dq_t (dq_t (dq_t (dq_t (dq_t dzX12_readPart_46))))))))))))))
theorem dX12_readPart_71 : decode cX12_readPart 71 = .ok (.invokevirtual 229, 3) := dq_h (dq_t (dq_t (dq_t (dq_t (dq_t (dq_t (dq_t (dq_t (dq_t (dq_t (dq_t (dq_t (dq_t (dq_t (dq_t dzX12_readPart_46)))))))))))))))
theorem dX12_readPart_74 : decode cX12_readPart 74 = .ok (.return_, 1) := dq_h (dq_t (dq_t (dq_t (dq_t (dq_t (dq_t (dq_t (dq_t (dq_t (dq_t (dq_t (dq_t (dq_t (dq_t (dq_t (dq_t dzX12_readPart_46))))))))))))))))
theorem dX12_readPart_75 : decode cX12_readPart 75 = .ok (.aload_n 0, 1) := dq_h (dq_t (dq_t (dq_t (dq_t (dq_t (dq_t (dq_t (dq_t (dq_t (dq_t (dq_t (dq_t (dq_t (dq_t (dq_t (dq_t (dq_t dzX12_readPart_46)))))))))))))))))
theorem dX12_readPart_76 : decode cX12_readPart 76 = .ok (.bipush 40, 2) := dq_h (dq_t (dq_t (dq_t (dq_t (dq_t (dq_t (dq_t (dq_t (dq_t (dq_t (dq_t (dq_t (dq_t (dq_t (dq_t (dq_t (dq_t (dq_t dzX12_readPart_46))))))))))))))))))
theorem dX12_readPart_78 : decode cX12_readPart 78 = .ok (.invokevirtual 249, 3) := dq_h (dq_t (dq_t (dq_t (dq_t (dq_t (dq_t (dq_t (dq_t (dq_t (dq_t (dq_t (dq_t (dq_t (dq_t (dq_t (dq_t (dq_t (dq_t (dq_t dzX12_readPart_46)))))))))))))))))))
theorem dX12_readPart_81 : decode cX12_readPart 81 = .ok (.aload_n 0, 1) := dq_h (dq_t (dq_t (dq_t (dq_t (dq_t (dq_t (dq_t (dq_t (dq_t (dq_t (dq_t (dq_t (dq_t (dq_t (dq_t (dq_t (dq_t (dq_t (dq_t (dq_t dzX12_readPart_46))))))))))))))))))))
theorem dX12_readPart_82 : decode cX12_readPart 82 = .ok (.iload_n 1, 1) := dq_h (dq_t (dq_t (dq_t (dq_t (dq_t (dq_t (dq_t (dq_t (dq_t (dq_t (dq_t (dq_t (dq_t (dq_t (dq_t (dq_t (dq_t (dq_t (dq_t (dq_t (dq_t dzX12_readPart_46)))))))))))))))))))))
theorem dX12_readPart_83 : decode cX12_readPart 83 = .ok (.iconst 1, 1) := dq_h (dq_t (dq_t (dq_t (dq_t (dq_t (dq_t (dq_t (dq_t (dq_t (dq_t (dq_t (dq_t (dq_t (dq_t (dq_t (dq_t (dq_t (dq_t (dq_t (dq_t (dq_t (dq_t dzX12_readPart_46))))))))))))))))))))))
theorem dX12_readPart_84 : decode cX12_readPart 84 = .ok (.iadd, 1) := dq_h (dq_t (dq_t (dq_t (dq_t (dq_t (dq_t (dq_t (dq_t (dq_t (dq_t (dq_t (dq_t (dq_t (dq_t (dq_t (dq_t (dq_t (dq_t (dq_t (dq_t (dq_t (dq_t (dq_t dzX12_readPart_46)))))))))))))))))))))))
theorem dzX12_readPart_85 : dq_F cX12_readPart [(85, .invokevirtual 252, 3), (88, .aload_n 0, 1), (89, .bipush 41, 2), (91, .invokevirtual 249, 3), (94, .return_, 1)] := dq_s 5 85 (by decide +kernel)
theorem dX12_readPart_85 : decode cX12_readPart 85 = .ok (.invokevirtual 252, 3) := dq_h dzX12_readPart_85
theorem dX12_readPart_88 : decode cX12_readPart 88 = .ok (.aload_n 0, 1) := dq_h (dq_t dzX12_readPart_85)
theorem dX12_readPart_89 : decode cX12_readPart 89 = .ok (.bipush 41, 2) := dq_h (dq_t (dq_t dzX12_readPart_85))
theorem dX12_readPart_91 : decode cX12_readPart 91 = .ok (.invokevirtual 249, 3) := dq_h (dq_t (dq_t (dq_t dzX12_readPart_85)))
theorem dX12_readPart_94 : decode cX12_readPart 94 = .ok (.return_, 1) := dq_h (dq_t (dq_t (dq_t (dq_t dzX12_readPart_85))))
theorem dzX12_readProduct_0 : dq_F cX12_readProduct [(0, .aload_n 0, 1), (1, .iload_n 1, 1), (2, .invokevirtual 255, 3), (5, .aload_n 0, 1), (6, .bipush 42, 2), (8, .invokevirtual 222, 3), (11, .ifCond .ne 12, 3), (14, .aload_n 0, 1), (15, .bipush 47, 2), (17, .invokevirtual 222, 3), (20, .ifCond .eq 37, 3), (23, .aload_n 0, 1), (24, .bipush 42, 2), (26, .invokevirtual 222, 3), (29, .ifCond .eq 8, 3), (32, .bipush (-22), 2), (34, .goto 5, 3), (37, .bipush (-23), 2), (39, .istore_n 2, 1), (40, .aload_n 0, 1), (41, .invokevirtual 229, 3), (44, .aload_n 0, 1), (45, .iload_n 1, 1), (46, .invokevirtual 255, 3)] := dq_s 24 0 (by decide +kernel)
theorem dX12_readProduct_0 : decode cX12_readProduct 0 = .ok (.aload_n 0, 1) := dq_h dzX12_readProduct_0
theorem dX12_readProduct_1 : decode cX12_readProduct 1 = .ok (.iload_n 1, 1) := dq_h (dq_t dzX12_readProduct_0)
theorem dX12_readProduct_2 : decode cX12_readProduct 2 = .ok (.invokevirtual 255, 3) := dq_h (dq_t (dq_t dzX12_readProduct_0))
theorem dX12_readProduct_5 : decode cX12_readProduct 5 = .ok (.aload_n 0, 1) := dq_h (dq_t (dq_t (dq_t dzX12_readProduct_0)))
theorem dX12_readProduct_6 : decode cX12_readProduct 6 = .ok (.bipush 42, 2) := dq_h (dq_t (dq_t (dq_t (dq_t dzX12_readProduct_0))))
theorem dX12_readProduct_8 : decode cX12_readProduct 8 = .ok (.invokevirtual 222, 3) := dq_h (dq_t (dq_t (dq_t (dq_t (dq_t dzX12_readProduct_0)))))
theorem dX12_readProduct_11 : decode cX12_readProduct 11 = .ok (.ifCond .ne 12, 3) := dq_h (dq_t (dq_t (dq_t (dq_t (dq_t (dq_t dzX12_readProduct_0))))))
theorem dX12_readProduct_14 : decode cX12_readProduct 14 = .ok (.aload_n 0, 1) := dq_h (dq_t (dq_t (dq_t (dq_t (dq_t (dq_t (dq_t dzX12_readProduct_0)))))))
theorem dX12_readProduct_15 : decode cX12_readProduct 15 = .ok (.bipush 47, 2) := dq_h (dq_t (dq_t (dq_t (dq_t (dq_t (dq_t (dq_t (dq_t dzX12_readProduct_0))))))))
theorem dX12_readProduct_17 : decode cX12_readProduct 17 = .ok (.invokevirtual 222, 3) := dq_h (dq_t (dq_t (dq_t (dq_t (dq_t (dq_t (dq_t (dq_t (dq_t dzX12_readProduct_0)))))))))
theorem dX12_readProduct_20 : decode cX12_readProduct 20 = .ok (.ifCond .eq 37, 3) := dq_h (dq_t (dq_t (dq_t (dq_t (dq_t (dq_t (dq_t (dq_t (dq_t (dq_t dzX12_readProduct_0))))))))))
theorem dX12_readProduct_23 : decode cX12_readProduct 23 = .ok (.aload_n 0, 1) := dq_h (dq_t (dq_t (dq_t (dq_t (dq_t (dq_t (dq_t (dq_t (dq_t (dq_t (dq_t dzX12_readProduct_0)))))))))))
theorem dX12_readProduct_24 : decode cX12_readProduct 24 = .ok (.bipush 42, 2) := dq_h (dq_t (dq_t (dq_t (dq_t (dq_t (dq_t (dq_t (dq_t (dq_t (dq_t (dq_t (dq_t dzX12_readProduct_0))))))))))))
theorem dX12_readProduct_26 : decode cX12_readProduct 26 = .ok (.invokevirtual 222, 3) := dq_h (dq_t (dq_t (dq_t (dq_t (dq_t (dq_t (dq_t (dq_t (dq_t (dq_t (dq_t (dq_t (dq_t dzX12_readProduct_0)))))))))))))
theorem dX12_readProduct_29 : decode cX12_readProduct 29 = .ok (.ifCond .eq 8, 3) := dq_h (dq_t (dq_t (dq_t (dq_t (dq_t (dq_t (dq_t (dq_t (dq_t (dq_t (dq_t (dq_t (dq_t (dq_t dzX12_readProduct_0))))))))))))))
theorem dX12_readProduct_32 : decode cX12_readProduct 32 = .ok (.bipush (-22), 2) := dq_h (dq_t (dq_t (dq_t (dq_t (dq_t (dq_t (dq_t (dq_t (dq_t (dq_t (dq_t (dq_t (dq_t (dq_t (dq_t dzX12_readProduct_0)))))))))))))))
theorem dX12_readProduct_34 : decode cX12_readProduct 34 = .ok (.goto 5, 3) := dq_h (dq_t (dq_t (dq_t (dq_t (dq_t (dq_t (dq_t (dq_t (dq_t (dq_t (dq_t (dq_t (dq_t (dq_t (dq_t (dq_t dzX12_readProduct_0))))))))))))))))
theorem dX12_readProduct_37 : decode cX12_readProduct 37 = .ok (.bipush (-23), 2) := dq_h (dq_t (dq_t (dq_t (dq_t (dq_t (dq_t (dq_t (dq_t (dq_t (dq_t (dq_t (dq_t (dq_t (dq_t (dq_t (dq_t (dq_t dzX12_readProduct_0)))))))))))))))))
theorem dX12_readProduct_39 : decode cX12_readProduct 39 = .ok (.istore_n 2, 1) := dq_h (dq_t (dq_t (dq_t (dq_t (dq_t (dq_t (dq_t (dq_t (dq_t (dq_t (dq_t (dq_t (dq_t (dq_t (dq_t (dq_t (dq_t (dq_t dzX12_readProduct_0))))))))))))))))))
theorem dX12_readProduct_40 : decode cX12_readProduct 40 = .ok (.aload_n 0, 1) := dq_h (dq_t (dq_t (dq_t (dq_t (dq_t (dq_t (dq_t (dq_t (dq_t (dq_t (dq_t (dq_t (dq_t (dq_t (dq_t (dq_t (dq_t (dq_t (dq_t dzX12_readProduct_0)))))))))))))))))))
theorem dX12_readProduct_41 : decode cX12_readProduct 41 = .ok (.invokevirtual 229, 3) := dq_h (dq_t (dq_t (dq_t (dq_t (dq_t (dq_t (dq_t (dq_t (dq_t (dq_t (dq_t (dq_t (dq_t (dq_t (dq_t (dq_t (dq_t (dq_t (dq_t (dq_t dzX12_readProduct_0))))))))))))))))))))
theorem dX12_readProduct_44 : decode cX12_readProduct 44 = .ok (.aload_n 0, 1) := dq_h (dq_t (dq_t (dq_t (dq_t (dq_t (dq_t (dq_t (dq_t (dq_t (dq_t (dq_t (dq_t (dq_t (dq_t (dq_t (dq_t (dq_t (dq_t (dq_t (dq_t (dq_t dzX12_readProduct_0)))))))))))))))))))))
theorem dX12_readProduct_45 : decode cX12_readProduct 45 = .ok (.iload_n 1, 1) := dq_h (dq_t (dq_t (dq_t (dq_t (dq_t (dq_t (dq_t (dq_t (dq_t (dq_t (dq_t (dq_t (dq_t (dq_t (dq_t (dq_t (dq_t (dq_t (dq_t (dq_t (dq_t (dq_t dzX12_readProduct_0))))))))))))))))))))))
theorem dX12_readProduct_46 : decode cX12_readProduct 46 = .ok (.invokevirtual 255, 3) := dq_h (dq_t (dq_t (dq_t (dq_t (dq_t (dq_t (dq_t (dq_t (dq_t (dq_t (dq_t (dq_t (dq_t (dq_t (dq_t (dq_t (dq_t (dq_t (dq_t (dq_t (dq_t (dq_t (dq_t dzX12_readProduct_0)))))))))))))))))))))))
theorem dzX12_readProduct_49 : dq_F cX12_readProduct [(49, .aload_n 0, 1), (50, .iload_n 2, 1), (51, .invokevirtual 242, 3), (54, .goto (-49), 3), (57, .return_, 1)] := dq_s 5 49 (by decide +kernel)
theorem dX12_readProduct_49 : decode cX12_readProduct 49 = .ok (.aload_n 0, 1) := dq_h dzX12_readProduct_49
theorem dX12_readProduct_50 : decode cX12_readProduct 50 = .ok (.iload_n 2, 1) := dq_h (dq_t dzX12_readProduct_49)
theorem dX12_readProduct_51 : decode cX12_readProduct 51 = .ok (.invokevirtual 242, 3) := dq_h (dq_t (dq_t dzX12_readProduct_49))
theorem dX12_readProduct_54 : decode cX12_readProduct 54 = .ok (.goto (-49), 3) := dq_h (dq_t (dq_t (dq_t dzX12_readProduct_49)))
theorem dX12_readProduct_57 : decode cX12_readProduct 57 = .ok (.return_, 1) := dq_h (dq_t (dq_t (dq_t (dq_t dzX12_readProduct_49))))
theorem dzX12_readSum_0 : dq_F cX12_readSum [(0, .aload_n 0, 1), (1, .iload_n 1, 1), (2, .invokevirtual 258, 3), (5, .aload_n 0, 1), (6, .bipush 43, 2), (8, .invokevirtual 222, 3), (11, .ifCond .ne 12, 3), (14, .aload_n 0, 1), (15, .bipush 45, 2), (17, .invokevirtual 222, 3), (20, .ifCond .eq 37, 3), (23, .aload_n 0, 1), (24, .bipush 43, 2), (26, .invokevirtual 222, 3), (29, .ifCond .eq 8, 3), (32, .bipush (-20), 2), (34, .goto 5, 3), (37, .bipush (-21), 2), (39, .istore_n 2, 1), (40, .aload_n 0, 1), (41, .invokevirtual 229, 3), (44, .aload_n 0, 1), (45, .iload_n 1, 1), (46, .invokevirtual 258, 3)] := dq_s 24 0 (by decide +kernel)
theorem dX12_readSum_0 : decode cX12_readSum 0 = .ok (.aload_n 0, 1) := dq_h dzX12_readSum_0
theorem dX12_readSum_1 : decode cX12_readSum 1 = .ok (.iload_n 1, 1) := dq_h (dq_t dzX12_readSum_0)
theorem dX12_readSum_2 : decode cX12_readSum 2 = .ok (.invokevirtual 258, 3) := dq_h (dq_t (dq_t dzX12_readSum_0))
theorem dX12_readSum_5 : decode cX12_readSum 5 = .ok (.aload_n 0, 1) := dq_h (dq_t (dq_t (dq_t dzX12_readSum_0)))
theorem dX12_readSum_6 : decode cX12_readSum 6 = .ok (.bipush 43, 2) := dq_h (dq_t (dq_t (dq_t (dq_t dzX12_readSum_0))))
theorem dX12_readSum_8 : decode cX12_readSum 8 = .ok (.invokevirtual 222, 3) := dq_h (dq_t (dq_t (dq_t (dq_t (dq_t dzX12_readSum_0)))))
theorem dX12_readSum_11 : decode cX12_readSum 11 = .ok (.ifCond .ne 12, 3) := dq_h (dq_t (dq_t (dq_t (dq_t (dq_t (dq_t dzX12_readSum_0))))))
theorem dX12_readSum_14 : decode cX12_readSum 14 = .ok (.aload_n 0, 1) := dq_h (dq_t (dq_t (dq_t (dq_t (dq_t (dq_t (dq_t dzX12_readSum_0)))))))
theorem dX12_readSum_15 : decode cX12_readSum 15 = .ok (.bipush 45, 2) := dq_h (dq_t (dq_t (dq_t (dq_t (dq_t (dq_t (dq_t (dq_t dzX12_readSum_0))))))))
theorem dX12_readSum_17 : decode cX12_readSum 17 = .ok (.invokevirtual 222, 3) := dq_h (dq_t (dq_t (dq_t (dq_t (dq_t (dq_t (dq_t (dq_t (dq_t dzX12_readSum_0)))))))))
theorem dX12_readSum_20 : decode cX12_readSum 20 = .ok (.ifCond .eq 37, 3) := dq_h (dq_t (dq_t (dq_t (dq_t (dq_t (dq_t (dq_t (dq_t (dq_t (dq_t dzX12_readSum_0))))))))))
theorem dX12_readSum_23 : decode cX12_readSum 23 = .ok (.aload_n 0, 1) := dq_h (dq_t (dq_t (dq_t (dq_t (dq_t (dq_t (dq_t (dq_t (dq_t (dq_t (dq_t dzX12_readSum_0)))))))))))
theorem dX12_readSum_24 : decode cX12_readSum 24 = .ok (.bipush 43, 2) := dq_h (dq_t (dq_t (dq_t (dq_t (dq_t (dq_t (dq_t (dq_t (dq_t (dq_t (dq_t (dq_t dzX12_readSum_0))))))))))))
theorem dX12_readSum_26 : decode cX12_readSum 26 = .ok (.invokevirtual 222, 3) := dq_h (dq_t (dq_t (dq_t (dq_t (dq_t (dq_t (dq_t (dq_t (dq_t (dq_t (dq_t (dq_t (dq_t dzX12_readSum_0)))))))))))))
theorem dX12_readSum_29 : decode cX12_readSum 29 = .ok (.ifCond .eq 8, 3) := dq_h (dq_t (dq_t (dq_t (dq_t (dq_t (dq_t (dq_t (dq_t (dq_t (dq_t (dq_t (dq_t (dq_t (dq_t dzX12_readSum_0))))))))))))))
theorem dX12_readSum_32 : decode cX12_readSum 32 = .ok (.bipush (-20), 2) := dq_h (dq_t (dq_t (dq_t (dq_t (dq_t (dq_t (dq_t (dq_t (dq_t (dq_t (dq_t (dq_t (dq_t (dq_t (dq_t dzX12_readSum_0)))))))))))))))
theorem dX12_readSum_34 : decode cX12_readSum 34 = .ok (.goto 5, 3) := dq_h (dq_t (dq_t (dq_t (dq_t (dq_t (dq_t (dq_t (dq_t (dq_t (dq_t (dq_t (dq_t (dq_t (dq_t (dq_t (dq_t dzX12_readSum_0))))))))))))))))
theorem dX12_readSum_37 : decode cX12_readSum 37 = .ok (.bipush (-21), 2) := dq_h (dq_t (dq_t (dq_t (dq_t (dq_t (dq_t (dq_t (dq_t (dq_t (dq_t (dq_t (dq_t (dq_t (dq_t (dq_t (dq_t (dq_t dzX12_readSum_0)))))))))))))))))
theorem dX12_readSum_39 : decode cX12_readSum 39 = .ok (.istore_n 2, 1) := dq_h (dq_t (dq_t (dq_t (dq_t (dq_t (dq_t (dq_t (dq_t (dq_t (dq_t (dq_t (dq_t (dq_t (dq_t (dq_t (dq_t (dq_t (dq_t dzX12_readSum_0))))))))))))))))))
theorem dX12_readSum_40 : decode cX12_readSum 40 = .ok (.aload_n 0, 1) := dq_h (dq_t (dq_t (dq_t (dq_t (dq_t (dq_t (dq_t (dq_t (dq_t (dq_t (dq_t (dq_t (dq_t (dq_t (dq_t (dq_t (dq_t (dq_t (dq_t dzX12_readSum_0)))))))))))))))))))
theorem dX12_readSum_41 : decode cX12_readSum 41 = .ok (.invokevirtual 229, 3) := dq_h (dq_t (dq_t (dq_t (dq_t (dq_t (dq_t (dq_t (dq_t (dq_t (dq_t (dq_t (dq_t (dq_t (dq_t (dq_t (dq_t (dq_t (dq_t (dq_t (dq_t dzX12_readSum_0))))))))))))))))))))
theorem dX12_readSum_44 : decode cX12_readSum 44 = .ok (.aload_n 0, 1) := dq_h (dq_t (dq_t (dq_t (dq_t (dq_t (dq_t (dq_t (dq_t (dq_t (dq_t (dq_t (dq_t (dq_t (dq_t (dq_t (dq_t (dq_t (dq_t (dq_t (dq_t (dq_t dzX12_readSum_0)))))))))))))))))))))
theorem dX12_readSum_45 : decode cX12_readSum 45 = .ok (.iload_n 1, 1) := dq_h (dq_t (dq_t (dq_t (dq_t (dq_t (dq_t (dq_t (dq_t (dq_t (dq_t (dq_t (dq_t (dq_t (dq_t (dq_t (dq_t (dq_t (dq_t (dq_t (dq_t (dq_t (dq_t dzX12_readSum_0))))))))))))))))))))))
theorem dX12_readSum_46 : decode cX12_readSum 46 = .ok (.invokevirtual 258, 3) := dq_h (dq_t (dq_t (dq_t (dq_t (dq_t (dq_t (dq_t (dq_t (dq_t (dq_t (dq_t (dq_t (dq_t (dq_t (dq_t (dq_t (dq_t (dq_t (dq_t (dq_t (dq_t (dq_t (dq_t dzX12_readSum_0)))))))))))))))))))))))
theorem dzX12_readSum_49 : dq_F cX12_readSum [(49, .aload_n 0, 1), (50, .iload_n 2, 1), (51, .invokevirtual 242, 3), (54, .goto (-49), 3), (57, .return_, 1)] := dq_s 5 49 (by decide +kernel)
theorem dX12_readSum_49 : decode cX12_readSum 49 = .ok (.aload_n 0, 1) := dq_h dzX12_readSum_49
theorem dX12_readSum_50 : decode cX12_readSum 50 = .ok (.iload_n 2, 1) := dq_h (dq_t dzX12_readSum_49)
theorem dX12_readSum_51 : decode cX12_readSum 51 = .ok (.invokevirtual 242, 3) := dq_h (dq_t (dq_t dzX12_readSum_49))
theorem dX12_readSum_54 : decode cX12_readSum 54 = .ok (.goto (-49), 3) := dq_h (dq_t (dq_t (dq_t dzX12_readSum_49)))
theorem dX12_readSum_57 : decode cX12_readSum 57 = .ok (.return_, 1) := dq_h (dq_t (dq_t (dq_t (dq_t dzX12_readSum_49))))
theorem dzX12_readNot_0 : dq_F cX12_readNot [(0, .iconst 0, 1), (1, .istore_n 2, 1), (2, .aload_n 0, 1), (3, .ldc_w 261, 3), (6, .invokevirtual 218, 3), (9, .ifCond .eq 31, 3), (12, .iload_n 2, 1), (13, .bipush 6, 2), (15, .if_icmp .ne 8, 3), (18, .aload_n 0, 1), (19, .iconst 2, 1), (20, .invokevirtual 225, 3), (23, .iinc 2 1, 3), (26, .aload_n 0, 1), (27, .getfield 204, 3), (30, .ifCond .ne (-28), 3), (33, .aload_n 0, 1), (34, .invokevirtual 229, 3), (37, .goto (-35), 3), (40, .aload_n 0, 1), (41, .iload_n 1, 1), (42, .invokevirtual 263, 3), (45, .aload_n 0, 1), (46, .bipush 60, 2)] := dq_s 24 0 (by decide +kernel)
theorem dX12_readNot_0 : decode cX12_readNot 0 = .ok (.iconst 0, 1) := dq_h dzX12_readNot_0
theorem dX12_readNot_1 : decode cX12_readNot 1 = .ok (.istore_n 2, 1) := dq_h (dq_t dzX12_readNot_0)
theorem dX12_readNot_2 : decode cX12_readNot 2 = .ok (.aload_n 0, 1) := dq_h (dq_t (dq_t dzX12_readNot_0))
theorem dX12_readNot_3 : decode cX12_readNot 3 = .ok (.ldc_w 261, 3) := dq_h (dq_t (dq_t (dq_t dzX12_readNot_0)))
theorem dX12_readNot_6 : decode cX12_readNot 6 = .ok (.invokevirtual 218, 3) := dq_h (dq_t (dq_t (dq_t (dq_t dzX12_readNot_0))))
theorem dX12_readNot_9 : decode cX12_readNot 9 = .ok (.ifCond .eq 31, 3) := dq_h (dq_t (dq_t (dq_t (dq_t (dq_t dzX12_readNot_0)))))
theorem dX12_readNot_12 : decode cX12_readNot 12 = .ok (.iload_n 2, 1) := dq_h (dq_t (dq_t (dq_t (dq_t (dq_t (dq_t dzX12_readNot_0))))))
theorem dX12_readNot_13 : decode cX12_readNot 13 = .ok (.bipush 6, 2) := dq_h (dq_t (dq_t (dq_t (dq_t (dq_t (dq_t (dq_t dzX12_readNot_0)))))))
theorem dX12_readNot_15 : decode cX12_readNot 15 = .ok (.if_icmp .ne 8, 3) := dq_h (dq_t (dq_t (dq_t (dq_t (dq_t (dq_t (dq_t (dq_t dzX12_readNot_0))))))))
theorem dX12_readNot_18 : decode cX12_readNot 18 = .ok (.aload_n 0, 1) := dq_h (dq_t (dq_t (dq_t (dq_t (dq_t (dq_t (dq_t (dq_t (dq_t dzX12_readNot_0)))))))))
theorem dX12_readNot_19 : decode cX12_readNot 19 = .ok (.iconst 2, 1) := dq_h (dq_t (dq_t (dq_t (dq_t (dq_t (dq_t (dq_t (dq_t (dq_t (dq_t dzX12_readNot_0))))))))))
theorem dX12_readNot_20 : decode cX12_readNot 20 = .ok (.invokevirtual 225, 3) := dq_h (dq_t (dq_t (dq_t (dq_t (dq_t (dq_t (dq_t (dq_t (dq_t (dq_t (dq_t dzX12_readNot_0)))))))))))
theorem dX12_readNot_23 : decode cX12_readNot 23 = .ok (.iinc 2 1, 3) := dq_h (dq_t (dq_t (dq_t (dq_t (dq_t (dq_t (dq_t (dq_t (dq_t (dq_t (dq_t (dq_t dzX12_readNot_0))))))))))))
theorem dX12_readNot_26 : decode cX12_readNot 26 = .ok (.aload_n 0, 1) := dq_h (dq_t (dq_t (dq_t (dq_t (dq_t (dq_t (dq_t (dq_t (dq_t (dq_t (dq_t (dq_t (dq_t dzX12_readNot_0)))))))))))))
theorem dX12_readNot_27 : decode cX12_readNot 27 = .ok (.getfield 204, 3) := dq_h (dq_t (dq_t (dq_t (dq_t (dq_t (dq_t (dq_t (dq_t (dq_t (dq_t (dq_t (dq_t (dq_t (dq_t dzX12_readNot_0))))))))))))))
theorem dX12_readNot_30 : decode cX12_readNot 30 = .ok (.ifCond .ne (-28), 3) := dq_h (dq_t (dq_t (dq_t (dq_t (dq_t (dq_t (dq_t (dq_t (dq_t (dq_t (dq_t (dq_t (dq_t (dq_t (dq_t dzX12_readNot_0)))))))))))))))
theorem dX12_readNot_33 : decode cX12_readNot 33 = .ok (.aload_n 0, 1) := dq_h (dq_t (dq_t (dq_t (dq_t (dq_t (dq_t (dq_t (dq_t (dq_t (dq_t (dq_t (dq_t (dq_t (dq_t (dq_t (dq_t dzX12_readNot_0))))))))))))))))
theorem dX12_readNot_34 : decode cX12_readNot 34 = .ok (.invokevirtual 229, 3) := dq_h (dq_t (dq_t (dq_t (dq_t (dq_t (dq_t (dq_t (dq_t (dq_t (dq_t (dq_t (dq_t (dq_t (dq_t (dq_t (dq_t (dq_t dzX12_readNot_0)))))))))))))))))
theorem dX12_readNot_37 : decode cX12_readNot 37 = .ok (.goto (-35), 3) := dq_h (dq_t (dq_t (dq_t (dq_t (dq_t (dq_t (dq_t (dq_t (dq_t (dq_t (dq_t (dq_t (dq_t (dq_t (dq_t (dq_t (dq_t (dq_t dzX12_readNot_0))))))))))))))))))
theorem dX12_readNot_40 : decode cX12_readNot 40 = .ok (.aload_n 0, 1) := dq_h (dq_t (dq_t (dq_t (dq_t (dq_t (dq_t (dq_t (dq_t (dq_t (dq_t (dq_t (dq_t (dq_t (dq_t (dq_t (dq_t (dq_t (dq_t (dq_t dzX12_readNot_0)))))))))))))))))))
theorem dX12_readNot_41 : decode cX12_readNot 41 = .ok (.iload_n 1, 1) := dq_h (dq_t (dq_t (dq_t (dq_t (dq_t (dq_t (dq_t (dq_t (dq_t (dq_t (dq_t (dq_t (dq_t (dq_t (dq_t (dq_t (dq_t (dq_t (dq_t (dq_t dzX12_readNot_0))))))))))))))))))))
theorem dX12_readNot_42 : decode cX12_readNot 42 = .ok (.invokevirtual 263, 3) := dq_h (dq_t (dq_t (dq_t (dq_t (dq_t (dq_t (dq_t (dq_t (dq_t (dq_t (dq_t (dq_t (dq_t (dq_t (dq_t (dq_t (dq_t (dq_t (dq_t (dq_t (dq_t dzX12_readNot_0)))))))))))))))))))))
theorem dX12_readNot_45 : decode cX12_readNot 45 = .ok (.aload_n 0, 1) := dq_h (dq_t (dq_t (dq_t (dq_t (dq_t (dq_t (dq_t (dq_t (dq_t (dq_t (dq_t (dq_t (dq_t (dq_t (dq_t (dq_t (dq_t (dq_t (dq_t (dq_t (dq_t (dq_t dzX12_readNot_0))))))))))))))))))))))
theorem dX12_readNot_46 : decode cX12_readNot 46 = .ok (.bipush 60, 2) := dq_h (dq_t (dq_t (dq_t (dq_t (dq_t (dq_t (dq_t (dq_t (dq_t (dq_t (dq_t (dq_t (dq_t (dq_t (dq_t (dq_t (dq_t (dq_t (dq_t (dq_t (dq_t (dq_t (dq_t dzX12_readNot_0)))))))))))))))))))))))
theorem dzX12_readNot_48 : dq_F cX12_readNot [(48, .invokevirtual 222, 3), (51, .ifCond .ne 12, 3), (54, .aload_n 0, 1), (55, .bipush 61, 2), (57, .invokevirtual 222, 3), (60, .ifCond .eq 34, 3), (63, .aload_n 0, 1), (64, .bipush 60, 2), (66, .invokevirtual 222, 3), (69, .ifCond .eq 8, 3), (72, .bipush (-24), 2), (74, .goto 5, 3), (77, .bipush (-25), 2), (79, .istore_n 3, 1), (80, .aload_n 0, 1), (81, .invokevirtual 229, 3), (84, .aload_n 0, 1), (85, .iload_n 1, 1), (86, .invokevirtual 263, 3), (89, .aload_n 0, 1), (90, .iload_n 3, 1), (91, .invokevirtual 242, 3), (94, .iconst 0, 1), (95, .istore_n 3, 1)] := dq_s 24 48 (by decide +kernel)
theorem dX12_readNot_48 : decode cX12_readNot 48 = .ok (.invokevirtual 222, 3) := dq_h dzX12_readNot_48
theorem dX12_readNot_51 : decode cX12_readNot 51 = .ok (.ifCond .ne 12, 3) := dq_h (dq_t dzX12_readNot_48)
theorem dX12_readNot_54 : decode cX12_readNot 54 = .ok (.aload_n 0, 1) := dq_h (dq_t (dq_t dzX12_readNot_48))
theorem dX12_readNot_55 : decode cX12_readNot 55 = .ok (.bipush 61, 2) := dq_h (dq_t (dq_t (dq_t dzX12_readNot_48)))
theorem dX12_readNot_57 : decode cX12_readNot 57 = .ok (.invokevirtual 222, 3) := dq_h (dq_t (dq_t (dq_t (dq_t dzX12_readNot_48))))
theorem dX12_readNot_60 : decode cX12_readNot 60 = .ok (.ifCond .eq 34, 3) := dq_h (dq_t (dq_t (dq_t (dq_t (dq_t dzX12_readNot_48)))))
theorem dX12_readNot_63 : decode cX12_readNot 63 = .ok (.aload_n 0, 1) := dq_h (dq_t (dq_t (dq_t (dq_t (dq_t (dq_t dzX12_readNot_48))))))
theorem dX12_readNot_64 : decode cX12_readNot 64 = .ok (.bipush 60, 2) := dq_h (dq_t (dq_t (dq_t (dq_t (dq_t (dq_t (dq_t dzX12_readNot_48)))))))
theorem dX12_readNot_66 : decode cX12_readNot 66 = .ok (.invokevirtual 222, 3) := dq_h (dq_t (dq_t (dq_t (dq_t (dq_t (dq_t (dq_t (dq_t dzX12_readNot_48))))))))
theorem dX12_readNot_69 : decode cX12_readNot 69 = .ok (.ifCond .eq 8, 3) := dq_h (dq_t (dq_t (dq_t (dq_t (dq_t (dq_t (dq_t (dq_t (dq_t dzX12_readNot_48)))))))))
theorem dX12_readNot_72 : decode cX12_readNot 72 = .ok (.bipush (-24), 2) := dq_h (dq_t (dq_t (dq_t (dq_t (dq_t (dq_t (dq_t (dq_t (dq_t (dq_t dzX12_readNot_48))))))))))
theorem dX12_readNot_74 : decode cX12_readNot 74 = .ok (.goto 5, 3) := dq_h (dq_t (dq_t (dq_t (dq_t (dq_t (dq_t (dq_t (dq_t (dq_t (dq_t (dq_t dzX12_readNot_48)))))))))))
theorem dX12_readNot_77 : decode cX12_readNot 77 = .ok (.bipush (-25), 2) := dq_h (dq_t (dq_t (dq_t (dq_t (dq_t (dq_t (dq_t (dq_t (dq_t (dq_t (dq_t (dq_t dzX12_readNot_48))))))))))))
theorem dX12_readNot_79 : decode cX12_readNot 79 = .ok (.istore_n 3, 1) := dq_h (dq_t (dq_t (dq_t (dq_t (dq_t (dq_t (dq_t (dq_t (dq_t (dq_t (dq_t (dq_t (dq_t dzX12_readNot_48)))))))))))))
theorem dX12_readNot_80 : decode cX12_readNot 80 = .ok (.aload_n 0, 1) := dq_h (dq_t (dq_t (dq_t (dq_t (dq_t (dq_t (dq_t (dq_t (dq_t (dq_t (dq_t (dq_t (dq_t (dq_t dzX12_readNot_48))))))))))))))
theorem dX12_readNot_81 : decode cX12_readNot 81 = .ok (.invokevirtual 229, 3) := dq_h (dq_t (dq_t (dq_t (dq_t (dq_t (dq_t (dq_t (dq_t (dq_t (dq_t (dq_t (dq_t (dq_t (dq_t (dq_t dzX12_readNot_48)))))))))))))))
theorem dX12_readNot_84 : decode cX12_readNot 84 = .ok (.aload_n 0, 1) := dq_h (dq_t (dq_t (dq_t (dq_t (dq_t (dq_t (dq_t (dq_t (dq_t (dq_t (dq_t (dq_t (dq_t (dq_t (dq_t (dq_t dzX12_readNot_48))))))))))))))))
theorem dX12_readNot_85 : decode cX12_readNot 85 = .ok (.iload_n 1, 1) := dq_h (dq_t (dq_t (dq_t (dq_t (dq_t (dq_t (dq_t (dq_t (dq_t (dq_t (dq_t (dq_t (dq_t (dq_t (dq_t (dq_t (dq_t dzX12_readNot_48)))))))))))))))))
theorem dX12_readNot_86 : decode cX12_readNot 86 = .ok (.invokevirtual 263, 3) := dq_h (dq_t (dq_t (dq_t (dq_t (dq_t (dq_t (dq_t (dq_t (dq_t (dq_t (dq_t (dq_t (dq_t (dq_t (dq_t (dq_t (dq_t (dq_t dzX12_readNot_48))))))))))))))))))
theorem dX12_readNot_89 : decode cX12_readNot 89 = .ok (.aload_n 0, 1) := dq_h (dq_t (dq_t (dq_t (dq_t (dq_t (dq_t (dq_t (dq_t (dq_t (dq_t (dq_t (dq_t (dq_t (dq_t (dq_t (dq_t (dq_t (dq_t (dq_t dzX12_readNot_48)))))))))))))))))))
theorem dX12_readNot_90 : decode cX12_readNot 90 = .ok (.iload_n 3, 1) := dq_h (dq_t (dq_t (dq_t (dq_t (dq_t (dq_t (dq_t (dq_t (dq_t (dq_t (dq_t (dq_t (dq_t (dq_t (dq_t (dq_t (dq_t (dq_t (dq_t (dq_t dzX12_readNot_48))))))))))))))))))))
theorem dX12_readNot_91 : decode cX12_readNot 91 = .ok (.invokevirtual 242, 3) := dq_h (dq_t (dq_t (dq_t (dq_t (dq_t (dq_t (dq_t (dq_t (dq_t (dq_t (dq_t (dq_t (dq_t (dq_t (dq_t (dq_t (dq_t (dq_t (dq_t (dq_t (dq_t dzX12_readNot_48)))))))))))))))))))))
theorem dX12_readNot_94 : decode cX12_readNot 94 = .ok (.iconst 0, 1) := dq_h (dq_t (dq_t (dq_t (dq_t (dq_t (dq_t (dq_t (dq_t (dq_t (dq_t (dq_t (dq_t (dq_t (dq_t (dq_t (dq_t (dq_t (dq_t (dq_t (dq_t (dq_t (dq_t dzX12_readNot_48))))))))))))))))))))))
theorem dX12_readNot_95 : decode cX12_readNot 95 = .ok (.istore_n 3, 1) := dq_h (dq_t (dq_t (dq_t (dq_t (dq_t (dq_t (dq_t (dq_t (dq_t (dq_t (dq_t (dq_t (dq_t (dq_t (dq_t (dq_t (dq_t (dq_t (dq_t (dq_t (dq_t (dq_t (dq_t dzX12_readNot_48)))))))))))))))))))))))
theorem dzX12_readNot_96 : dq_F cX12_readNot [(96, .iload_n 3, 1), (97, .iload_n 2, 1), (98, .if_icmp .ge 15, 3), (101, .aload_n 0, 1), (102, .bipush (-28), 2), (104, .invokevirtual 242, 3), (107, .iinc 3 1, 3), (110, .goto (-14), 3), (113, .return_, 1)] := dq_s 9 96 (by decide +kernel)
theorem dX12_readNot_96 : decode cX12_readNot 96 = .ok (.iload_n 3, 1) := dq_h dzX12_readNot_96
theorem dX12_readNot_97 : decode cX12_readNot 97 = .ok (.iload_n 2, 1) := dq_h (dq_t dzX12_readNot_96)
theorem dX12_readNot_98 : decode cX12_readNot 98 = .ok (.if_icmp .ge 15, 3) := dq_h (dq_t (dq_t dzX12_readNot_96))
theorem dX12_readNot_101 : decode cX12_readNot 101 = .ok (.aload_n 0, 1) := dq_h (dq_t (dq_t (dq_t dzX12_readNot_96)))
theorem dX12_readNot_102 : decode cX12_readNot 102 = .ok (.bipush (-28), 2) := dq_h (dq_t (dq_t (dq_t (dq_t dzX12_readNot_96))))
theorem dX12_readNot_104 : decode cX12_readNot 104 = .ok (.invokevirtual 242, 3) := dq_h (dq_t (dq_t (dq_t (dq_t (dq_t dzX12_readNot_96)))))
theorem dX12_readNot_107 : decode cX12_readNot 107 = .ok (.iinc 3 1, 3) := dq_h (dq_t (dq_t (dq_t (dq_t (dq_t (dq_t dzX12_readNot_96))))))
theorem dX12_readNot_110 : decode cX12_readNot 110 = .ok (.goto (-14), 3) := dq_h (dq_t (dq_t (dq_t (dq_t (dq_t (dq_t (dq_t dzX12_readNot_96)))))))
theorem dX12_readNot_113 : decode cX12_readNot 113 = .ok (.return_, 1) := dq_h (dq_t (dq_t (dq_t (dq_t (dq_t (dq_t (dq_t (dq_t dzX12_readNot_96))))))))
theorem dzX12_readAnd_0 : dq_F cX12_readAnd [(0, .aload_n 0, 1), (1, .iload_n 1, 1), (2, .invokevirtual 266, 3), (5, .aload_n 0, 1), (6, .ldc_w 269, 3), (9, .invokevirtual 218, 3), (12, .ifCond .eq 21, 3), (15, .aload_n 0, 1), (16, .invokevirtual 229, 3), (19, .aload_n 0, 1), (20, .iload_n 1, 1), (21, .invokevirtual 266, 3), (24, .aload_n 0, 1), (25, .bipush (-26), 2), (27, .invokevirtual 242, 3), (30, .goto (-25), 3), (33, .return_, 1)] := dq_s 17 0 (by decide +kernel)
theorem dX12_readAnd_0 : decode cX12_readAnd 0 = .ok (.aload_n 0, 1) := dq_h dzX12_readAnd_0
theorem dX12_readAnd_1 : decode cX12_readAnd 1 = .ok (.iload_n 1, 1) := dq_h (dq_t dzX12_readAnd_0)
theorem dX12_readAnd_2 : decode cX12_readAnd 2 = .ok (.invokevirtual 266, 3) := dq_h (dq_t (dq_t dzX12_readAnd_0))
theorem dX12_readAnd_5 : decode cX12_readAnd 5 = .ok (.aload_n 0, 1) := dq_h (dq_t (dq_t (dq_t dzX12_readAnd_0)))
theorem dX12_readAnd_6 : decode cX12_readAnd 6 = .ok (.ldc_w 269, 3) := dq_h (dq_t (dq_t (dq_t (dq_t dzX12_readAnd_0))))
theorem dX12_readAnd_9 : decode cX12_readAnd 9 = .ok (.invokevirtual 218, 3) := dq_h (dq_t (dq_t (dq_t (dq_t (dq_t dzX12_readAnd_0)))))
theorem dX12_readAnd_12 : decode cX12_readAnd 12 = .ok (.ifCond .eq 21, 3) := dq_h (dq_t (dq_t (dq_t (dq_t (dq_t (dq_t dzX12_readAnd_0))))))
theorem dX12_readAnd_15 : decode cX12_readAnd 15 = .ok (.aload_n 0, 1) := dq_h (dq_t (dq_t (dq_t (dq_t (dq_t (dq_t (dq_t dzX12_readAnd_0)))))))
theorem dX12_readAnd_16 : decode cX12_readAnd 16 = .ok (.invokevirtual 229, 3) := dq_h (dq_t (dq_t (dq_t (dq_t (dq_t (dq_t (dq_t (dq_t dzX12_readAnd_0))))))))
theorem dX12_readAnd_19 : decode cX12_readAnd 19 = .ok (.aload_n 0, 1) := dq_h (dq_t (dq_t (dq_t (dq_t (dq_t (dq_t (dq_t (dq_t (dq_t dzX12_readAnd_0)))))))))
theorem dX12_readAnd_20 : decode cX12_readAnd 20 = .ok (.iload_n 1, 1) := dq_h (dq_t (dq_t (dq_t (dq_t (dq_t (dq_t (dq_t (dq_t (dq_t (dq_t dzX12_readAnd_0))))))))))
theorem dX12_readAnd_21 : decode cX12_readAnd 21 = .ok (.invokevirtual 266, 3) := dq_h (dq_t (dq_t (dq_t (dq_t (dq_t (dq_t (dq_t (dq_t (dq_t (dq_t (dq_t dzX12_readAnd_0)))))))))))
theorem dX12_readAnd_24 : decode cX12_readAnd 24 = .ok (.aload_n 0, 1) := dq_h (dq_t (dq_t (dq_t (dq_t (dq_t (dq_t (dq_t (dq_t (dq_t (dq_t (dq_t (dq_t dzX12_readAnd_0))))))))))))
theorem dX12_readAnd_25 : decode cX12_readAnd 25 = .ok (.bipush (-26), 2) := dq_h (dq_t (dq_t (dq_t (dq_t (dq_t (dq_t (dq_t (dq_t (dq_t (dq_t (dq_t (dq_t (dq_t dzX12_readAnd_0)))))))))))))
theorem dX12_readAnd_27 : decode cX12_readAnd 27 = .ok (.invokevirtual 242, 3) := dq_h (dq_t (dq_t (dq_t (dq_t (dq_t (dq_t (dq_t (dq_t (dq_t (dq_t (dq_t (dq_t (dq_t (dq_t dzX12_readAnd_0))))))))))))))
theorem dX12_readAnd_30 : decode cX12_readAnd 30 = .ok (.goto (-25), 3) := dq_h (dq_t (dq_t (dq_t (dq_t (dq_t (dq_t (dq_t (dq_t (dq_t (dq_t (dq_t (dq_t (dq_t (dq_t (dq_t dzX12_readAnd_0)))))))))))))))
theorem dX12_readAnd_33 : decode cX12_readAnd 33 = .ok (.return_, 1) := dq_h (dq_t (dq_t (dq_t (dq_t (dq_t (dq_t (dq_t (dq_t (dq_t (dq_t (dq_t (dq_t (dq_t (dq_t (dq_t (dq_t dzX12_readAnd_0))))))))))))))))
theorem dzX12_readExpression_0 : dq_F cX12_readExpression [(0, .aload_n 0, 1), (1, .getfield 204, 3), (4, .ifCond .eq 4, 3), (7, .return_, 1), (8, .aload_n 0, 1), (9, .getfield 178, 3), (12, .iconst 2, 1), (13, .if_icmp .eq 20, 3), (16, .aload_n 0, 1), (17, .getfield 178, 3), (20, .iconst 1, 1), (21, .if_icmp .eq 12, 3), (24, .aload_n 0, 1), (25, .bipush 40, 2), (27, .invokevirtual 222, 3), (30, .ifCond .eq 7, 3), (33, .iconst 1, 1), (34, .goto 4, 3), (37, .iconst 0, 1), (38, .istore_n 2, 1), (39, .iload_n 2, 1), (40, .ifCond .ne 11, 3), (43, .aload_n 0, 1), (44, .iconst 1, 1)] := dq_s 24 0 (by decide +kernel)
theorem dX12_readExpression_0 : decode cX12_readExpression 0 = .ok (.aload_n 0, 1) := dq_h dzX12_readExpression_0
theorem dX12_readExpression_1 : decode cX12_readExpression 1 = .ok (.getfield 204, 3) := dq_h (dq_t dzX12_readExpression_0)
theorem dX12_readExpression_4 : decode cX12_readExpression 4 = .ok (.ifCond .eq 4, 3) := dq_h (dq_t (dq_t dzX12_readExpression_0))
theorem dX12_readExpression_7 : decode cX12_readExpression 7 = .ok (.return_, 1) := dq_h (dq_t (dq_t (dq_t dzX12_readExpression_0)))
theorem dX12_readExpression_8 : decode cX12_readExpression 8 = .ok (.aload_n 0, 1) := dq_h (dq_t (dq_t (dq_t (dq_t dzX12_readExpression_0))))
theorem dX12_readExpression_9 : decode cX12_readExpression 9 = .ok (.getfield 178, 3) := dq_h (dq_t (dq_t (dq_t (dq_t (dq_t dzX12_readExpression_0)))))
theorem dX12_readExpression_12 : decode cX12_readExpression 12 = .ok (.iconst 2, 1) := dq_h (dq_t (dq_t (dq_t (dq_t (dq_t (dq_t dzX12_readExpression_0))))))
theorem dX12_readExpression_13 : decode cX12_readExpression 13 = .ok (.if_icmp .eq 20, 3) := dq_h (dq_t (dq_t (dq_t (dq_t (dq_t (dq_t (dq_t dzX12_readExpression_0)))))))
theorem dX12_readExpression_16 : decode cX12_readExpression 16 = .ok (.aload_n 0, 1) := dq_h (dq_t (dq_t (dq_t (dq_t (dq_t (dq_t (dq_t (dq_t dzX12_readExpression_0))))))))
theorem dX12_readExpression_17 : decode cX12_readExpression 17 = .ok (.getfield 178, 3) := dq_h (dq_t (dq_t (dq_t (dq_t (dq_t (dq_t (dq_t (dq_t (dq_t dzX12_readExpression_0)))))))))
theorem dX12_readExpression_20 : decode cX12_readExpression 20 = .ok (.iconst 1, 1) := dq_h (dq_t (dq_t (dq_t (dq_t (dq_t (dq_t (dq_t (dq_t (dq_t (dq_t dzX12_readExpression_0))))))))))
theorem dX12_readExpression_21 : decode cX12_readExpression 21 = .ok (.if_icmp .eq 12, 3) := dq_h (dq_t (dq_t (dq_t (dq_t (dq_t (dq_t (dq_t (dq_t (dq_t (dq_t (dq_t dzX12_readExpression_0)))))))))))
theorem dX12_readExpression_24 : decode cX12_readExpression 24 = .ok (.aload_n 0, 1) := dq_h (dq_t (dq_t (dq_t (dq_t (dq_t (dq_t (dq_t (dq_t (dq_t (dq_t (dq_t (dq_t dzX12_readExpression_0))))))))))))
theorem dX12_readExpression_25 : decode cX12_readExpression 25 = .ok (.bipush 40, 2) := dq_h (dq_t (dq_t (dq_t (dq_t (dq_t (dq_t (dq_t (dq_t (dq_t (dq_t (dq_t (dq_t (dq_t dzX12_readExpression_0)))))))))))))
theorem dX12_readExpression_27 : decode cX12_readExpression 27 = .ok (.invokevirtual 222, 3) := dq_h (dq_t (dq_t (dq_t (dq_t (dq_t (dq_t (dq_t (dq_t (dq_t (dq_t (dq_t (dq_t (dq_t (dq_t dzX12_readExpression_0))))))))))))))
theorem dX12_readExpression_30 : decode cX12_readExpression 30 = .ok (.ifCond .eq 7, 3) := dq_h (dq_t (dq_t (dq_t (dq_t (dq_t (dq_t (dq_t (dq_t (dq_t (dq_t (dq_t (dq_t (dq_t (dq_t (dq_t dzX12_readExpression_0)))))))))))))))
theorem dX12_readExpression_33 : decode cX12_readExpression 33 = .ok (.iconst 1, 1) := dq_h (dq_t (dq_t (dq_t (dq_t (dq_t (dq_t (dq_t (dq_t (dq_t (dq_t (dq_t (dq_t (dq_t (dq_t (dq_t (dq_t dzX12_readExpression_0))))))))))))))))
theorem dX12_readExpression_34 : decode cX12_readExpression 34 = .ok (.goto 4, 3) := dq_h (dq_t (dq_t (dq_t (dq_t (dq_t (dq_t (dq_t (dq_t (dq_t (dq_t (dq_t (dq_t (dq_t (dq_t (dq_t (dq_t (dq_t dzX12_readExpression_0)))))))))))))))))
theorem dX12_readExpression_37 : decode cX12_readExpression 37 = .ok (.iconst 0, 1) := dq_h (dq_t (dq_t (dq_t (dq_t (dq_t (dq_t (dq_t (dq_t (dq_t (dq_t (dq_t (dq_t (dq_t (dq_t (dq_t (dq_t (dq_t (dq_t dzX12_readExpression_0))))))))))))))))))
theorem dX12_readExpression_38 : decode cX12_readExpression 38 = .ok (.istore_n 2, 1) := dq_h (dq_t (dq_t (dq_t (dq_t (dq_t (dq_t (dq_t (dq_t (dq_t (dq_t (dq_t (dq_t (dq_t (dq_t (dq_t (dq_t (dq_t (dq_t (dq_t dzX12_readExpression_0)))))))))))))))))))
theorem dX12_readExpression_39 : decode cX12_readExpression 39 = .ok (.iload_n 2, 1) := dq_h (dq_t (dq_t (dq_t (dq_t (dq_t (dq_t (dq_t (dq_t (dq_t (dq_t (dq_t (dq_t (dq_t (dq_t (dq_t (dq_t (dq_t (dq_t (dq_t (dq_t dzX12_readExpression_0))))))))))))))))))))
theorem dX12_readExpression_40 : decode cX12_readExpression 40 = .ok (.ifCond .ne 11, 3) := dq_h (dq_t (dq_t (dq_t (dq_t (dq_t (dq_t (dq_t (dq_t (dq_t (dq_t (dq_t (dq_t (dq_t (dq_t (dq_t (dq_t (dq_t (dq_t (dq_t (dq_t (dq_t dzX12_readExpression_0)))))))))))))))))))))
theorem dX12_readExpression_43 : decode cX12_readExpression 43 = .ok (.aload_n 0, 1) := dq_h (dq_t (dq_t (dq_t (dq_t (dq_t (dq_t (dq_t (dq_t (dq_t (dq_t (dq_t (dq_t (dq_t (dq_t (dq_t (dq_t (dq_t (dq_t (dq_t (dq_t (dq_t (dq_t dzX12_readExpression_0))))))))))))))))))))))
theorem dX12_readExpression_44 : decode cX12_readExpression 44 = .ok (.iconst 1, 1) := dq_h (dq_t (dq_t (dq_t (dq_t (dq_t (dq_t (dq_t (dq_t (dq_t (dq_t (dq_t (dq_t (dq_t (dq_t (dq_t (dq_t (dq_t (dq_t (dq_t (dq_t (dq_t (dq_t (dq_t dzX12_readExpression_0)))))))))))))))))))))))
theorem dzX12_readExpression_45 : dq_F cX12_readExpression [(45, .invokevirtual 225, 3), (48, .goto 14, 3), (51, .iload_n 1, 1), (52, .bipush 6, 2), (54, .if_icmp .ne 8, 3), (57, .aload_n 0, 1), (58, .iconst 2, 1), (59, .invokevirtual 225, 3), (62, .aload_n 0, 1), (63, .iload_n 1, 1), (64, .invokevirtual 271, 3), (67, .aload_n 0, 1), (68, .ldc_w 274, 3), (71, .invokevirtual 218, 3), (74, .ifCond .eq 21, 3), (77, .aload_n 0, 1), (78, .invokevirtual 229, 3), (81, .aload_n 0, 1), (82, .iload_n 1, 1), (83, .invokevirtual 271, 3), (86, .aload_n 0, 1), (87, .bipush (-27), 2), (89, .invokevirtual 242, 3), (92, .goto (-25), 3)] := dq_s 24 45 (by decide +kernel)
theorem dX12_readExpression_45 : decode cX12_readExpression 45 = .ok (.invokevirtual 225, 3) := dq_h dzX12_readExpression_45
theorem dX12_readExpression_48 : decode cX12_readExpression 48 = .ok (.goto 14, 3) := dq_h (dq_t dzX12_readExpression_45)
theorem dX12_readExpression_51 : decode cX12_readExpression 51 = .ok (.iload_n 1, 1) := dq_h (dq_t (dq_t dzX12_readExpression_45))
theorem dX12_readExpression_52 : decode cX12_readExpression 52 = .ok (.bipush 6, 2) := dq_h (dq_t (dq_t (dq_t dzX12_readExpression_45)))
theorem dX12_readExpression_54 : decode cX12_readExpression 54 = .ok (.if_icmp .ne 8, 3) := dq_h (dq_t (dq_t (dq_t (dq_t dzX12_readExpression_45))))
theorem dX12_readExpression_57 : decode cX12_readExpression 57 = .ok (.aload_n 0, 1) := dq_h (dq_t (dq_t (dq_t (dq_t (dq_t dzX12_readExpression_45)))))
theorem dX12_readExpression_58 : decode cX12_readExpression 58 = .ok (.iconst 2, 1) := dq_h (dq_t (dq_t (dq_t (dq_t (dq_t (dq_t dzX12_readExpression_45))))))
theorem dX12_readExpression_59 : decode cX12_readExpression 59 = .ok (.invokevirtual 225, 3) := dq_h (dq_t (dq_t (dq_t (dq_t (dq_t (dq_t (dq_t dzX12_readExpression_45)))))))
theorem dX12_readExpression_62 : decode cX12_readExpression 62 = .ok (.aload_n 0, 1) := dq_h (dq_t (dq_t (dq_t (dq_t (dq_t (dq_t (dq_t (dq_t dzX12_readExpression_45))))))))
theorem dX12_readExpression_63 : decode cX12_readExpression 63 = .ok (.iload_n 1, 1) := dq_h (dq_t (dq_t (dq_t (dq_t (dq_t (dq_t (dq_t (dq_t (dq_t dzX12_readExpression_45)))))))))
theorem dX12_readExpression_64 : decode cX12_readExpression 64 = .ok (.invokevirtual 271, 3) := dq_h (dq_t (dq_t (dq_t (dq_t (dq_t (dq_t (dq_t (dq_t (dq_t (dq_t dzX12_readExpression_45))))))))))
theorem dX12_readExpression_67 : decode cX12_readExpression 67 = .ok (.aload_n 0, 1) := dq_h (dq_t (dq_t (dq_t (dq_t (dq_t (dq_t (dq_t (dq_t (dq_t (dq_t (dq_t dzX12_readExpression_45)))))))))))
theorem dX12_readExpression_68 : decode cX12_readExpression 68 = .ok (.ldc_w 274, 3) := dq_h (dq_t (dq_t (dq_t (dq_t (dq_t (dq_t (dq_t (dq_t (dq_t (dq_t (dq_t (dq_t dzX12_readExpression_45))))))))))))
theorem dX12_readExpression_71 : decode cX12_readExpression 71 = .ok (.invokevirtual 218, 3) := dq_h (dq_t (dq_t (dq_t (dq_t (dq_t (dq_t (dq_t (dq_t (dq_t (dq_t (dq_t (dq_t (dq_t dzX12_readExpression_45)))))))))))))
theorem dX12_readExpression_74 : decode cX12_readExpression 74 = .ok (.ifCond .eq 21, 3) := dq_h (dq_t (dq_t (dq_t (dq_t (dq_t (dq_t (dq_t (dq_t (dq_t (dq_t (dq_t (dq_t (dq_t (dq_t dzX12_readExpression_45))))))))))))))
theorem dX12_readExpression_77 : decode cX12_readExpression 77 = .ok (.aload_n 0, 1) := dq_h (dq_t (dq_t (dq_t (dq_t (dq_t (dq_t (dq_t (dq_t (dq_t (dq_t (dq_t (dq_t (dq_t (dq_t (dq_t dzX12_readExpression_45)))))))))))))))
theorem dX12_readExpression_78 : decode cX12_readExpression 78 = .ok (.invokevirtual 229, 3) := dq_h (dq_t (dq_t (dq_t (dq_t (dq_t (dq_t (dq_t (dq_t (dq_t (dq_t (dq_t (dq_t (dq_t (dq_t (dq_t (dq_t dzX12_readExpression_45))))))))))))))))
theorem dX12_readExpression_81 : decode cX12_readExpression 81 = .ok (.aload_n 0, 1) := dq_h (dq_t (dq_t (dq_t (dq_t (dq_t (dq_t (dq_t (dq_t (dq_t (dq_t (dq_t (dq_t (dq_t (dq_t (dq_t (dq_t (dq_t dzX12_readExpression_45)))))))))))))))))
theorem dX12_readExpression_82 : decode cX12_readExpression 82 = .ok (.iload_n 1, 1) := dq_h (dq_t (dq_t (dq_t (dq_t (dq_t (dq_t (dq_t (dq_t (dq_t (dq_t (dq_t (dq_t (dq_t (dq_t (dq_t (dq_t (dq_t (dq_t dzX12_readExpression_45))))))))))))))))))
theorem dX12_readExpression_83 : decode cX12_readExpression 83 = .ok (.invokevirtual 271, 3) := dq_h (dq_t (dq_t (dq_t (dq_t (dq_t (dq_t (dq_t (dq_t (dq_t (dq_t (dq_t (dq_t (dq_t (dq_t (dq_t (dq_t (dq_t (dq_t (dq_t dzX12_readExpression_45)))))))))))))))))))
theorem dX12_readExpression_86 : decode cX12_readExpression 86 = .ok (.aload_n 0, 1) := dq_h (dq_t (dq_t (dq_t (dq_t (dq_t (dq_t (dq_t (dq_t (dq_t (dq_t (dq_t (dq_t (dq_t (dq_t (dq_t (dq_t (dq_t (dq_t (dq_t (dq_t dzX12_readExpression_45))))))))))))))))))))
theorem dX12_readExpression_87 : decode cX12_readExpression 87 = .ok (.bipush (-27), 2) := dq_h (dq_t (dq_t (dq_t (dq_t (dq_t (dq_t (dq_t (dq_t (dq_t (dq_t (dq_t (dq_t (dq_t (dq_t (dq_t (dq_t (dq_t (dq_t (dq_t (dq_t (dq_t dzX12_readExpression_45)))))))))))))))))))))
theorem dX12_readExpression_89 : decode cX12_readExpression 89 = .ok (.invokevirtual 242, 3) := dq_h (dq_t (dq_t (dq_t (dq_t (dq_t (dq_t (dq_t (dq_t (dq_t (dq_t (dq_t (dq_t (dq_t (dq_t (dq_t (dq_t (dq_t (dq_t (dq_t (dq_t (dq_t (dq_t dzX12_readExpression_45))))))))))))))))))))))
theorem dX12_readExpression_92 : decode cX12_readExpression 92 = .ok (.goto (-25), 3) := dq_h (dq_t (dq_t (dq_t (dq_t (dq_t (dq_t (dq_t (dq_t (dq_t (dq_t (dq_t (dq_t (dq_t (dq_t (dq_t (dq_t (dq_t (dq_t (dq_t (dq_t (dq_t (dq_t (dq_t dzX12_readExpression_45)))))))))))))))))))))))
theorem dX12_readExpression_95 : decode cX12_readExpression 95 = .ok (.return_, 1) := by decide +kernel
theorem dzX12_another_0 : dq_F cX12_another [(0, .aload_n 0, 1), (1, .getfield 42, 3), (4, .bipush 6, 2), (6, .iload_n 1, 1), (7, .iadd, 1), (8, .iaload, 1), (9, .iload_n 2, 1), (10, .if_icmp .ne 8, 3), (13, .aload_n 0, 1), (14, .iconst 2, 1), (15, .invokevirtual 225, 3), (18, .aload_n 0, 1), (19, .getfield 204, 3), (22, .ifCond .eq 5, 3), (25, .iconst 0, 1), (26, .ireturn, 1), (27, .aload_n 0, 1), (28, .invokevirtual 229, 3), (31, .iconst 1, 1), (32, .ireturn, 1)] := dq_s 20 0 (by decide +kernel)
theorem dX12_another_0 : decode cX12_another 0 = .ok (.aload_n 0, 1) := dq_h dzX12_another_0
theorem dX12_another_1 : decode cX12_another 1 = .ok (.getfield 42, 3) := dq_h (dq_t dzX12_another_0)
theorem dX12_another_4 : decode cX12_another 4 = .ok (.bipush 6, 2) := dq_h (dq_t (dq_t dzX12_another_0))
theorem dX12_another_6 : decode cX12_another 6 = .ok (.iload_n 1, 1) := dq_h (dq_t (dq_t (dq_t dzX12_another_0)))
theorem dX12_another_7 : decode cX12_another 7 = .ok (.iadd, 1) := dq_h (dq_t (dq_t (dq_t (dq_t dzX12_another_0))))
theorem dX12_another_8 : decode cX12_another 8 = .ok (.iaload, 1) := dq_h (dq_t (dq_t (dq_t (dq_t (dq_t dzX12_another_0)))))
theorem dX12_another_9 : decode cX12_another 9 = .ok (.iload_n 2, 1) := dq_h (dq_t (dq_t (dq_t (dq_t (dq_t (dq_t dzX12_another_0))))))
theorem dX12_another_10 : decode cX12_another 10 = .ok (.if_icmp .ne 8, 3) := dq_h (dq_t (dq_t (dq_t (dq_t (dq_t (dq_t (dq_t dzX12_another_0)))))))
theorem dX12_another_13 : decode cX12_another 13 = .ok (.aload_n 0, 1) := dq_h (dq_t (dq_t (dq_t (dq_t (dq_t (dq_t (dq_t (dq_t dzX12_another_0))))))))
theorem dX12_another_14 : decode cX12_another 14 = .ok (.iconst 2, 1) := dq_h (dq_t (dq_t (dq_t (dq_t (dq_t (dq_t (dq_t (dq_t (dq_t dzX12_another_0)))))))))
theorem dX12_another_15 : decode cX12_another 15 = .ok (.invokevirtual 225, 3) := dq_h (dq_t (dq_t (dq_t (dq_t (dq_t (dq_t (dq_t (dq_t (dq_t (dq_t dzX12_another_0))))))))))
theorem dX12_another_18 : decode cX12_another 18 = .ok (.aload_n 0, 1) := dq_h (dq_t (dq_t (dq_t (dq_t (dq_t (dq_t (dq_t (dq_t (dq_t (dq_t (dq_t dzX12_another_0)))))))))))
theorem dX12_another_19 : decode cX12_another 19 = .ok (.getfield 204, 3) := dq_h (dq_t (dq_t (dq_t (dq_t (dq_t (dq_t (dq_t (dq_t (dq_t (dq_t (dq_t (dq_t dzX12_another_0))))))))))))
theorem dX12_another_22 : decode cX12_another 22 = .ok (.ifCond .eq 5, 3) := dq_h (dq_t (dq_t (dq_t (dq_t (dq_t (dq_t (dq_t (dq_t (dq_t (dq_t (dq_t (dq_t (dq_t dzX12_another_0)))))))))))))
theorem dX12_another_25 : decode cX12_another 25 = .ok (.iconst 0, 1) := dq_h (dq_t (dq_t (dq_t (dq_t (dq_t (dq_t (dq_t (dq_t (dq_t (dq_t (dq_t (dq_t (dq_t (dq_t dzX12_another_0))))))))))))))
theorem dX12_another_26 : decode cX12_another 26 = .ok (.ireturn, 1) := dq_h (dq_t (dq_t (dq_t (dq_t (dq_t (dq_t (dq_t (dq_t (dq_t (dq_t (dq_t (dq_t (dq_t (dq_t (dq_t dzX12_another_0)))))))))))))))
theorem dX12_another_27 : decode cX12_another 27 = .ok (.aload_n 0, 1) := dq_h (dq_t (dq_t (dq_t (dq_t (dq_t (dq_t (dq_t (dq_t (dq_t (dq_t (dq_t (dq_t (dq_t (dq_t (dq_t (dq_t dzX12_another_0))))))))))))))))
theorem dX12_another_28 : decode cX12_another 28 = .ok (.invokevirtual 229, 3) := dq_h (dq_t (dq_t (dq_t (dq_t (dq_t (dq_t (dq_t (dq_t (dq_t (dq_t (dq_t (dq_t (dq_t (dq_t (dq_t (dq_t (dq_t dzX12_another_0)))))))))))))))))
theorem dX12_another_31 : decode cX12_another 31 = .ok (.iconst 1, 1) := dq_h (dq_t (dq_t (dq_t (dq_t (dq_t (dq_t (dq_t (dq_t (dq_t (dq_t (dq_t (dq_t (dq_t (dq_t (dq_t (dq_t (dq_t (dq_t dzX12_another_0))))))))))))))))))
theorem dX12_another_32 : decode cX12_another 32 = .ok (.ireturn, 1) := dq_h (dq_t (dq_t (dq_t (dq_t (dq_t (dq_t (dq_t (dq_t (dq_t (dq_t (dq_t (dq_t (dq_t (dq_t (dq_t (dq_t (dq_t (dq_t (dq_t dzX12_another_0)))))))))))))))))))
theorem dzX12_sayCave_0 : dq_F cX12_sayCave [(0, .aload_n 0, 1), (1, .iconst 0, 1), (2, .bipush 8, 2), (4, .invokevirtual 276, 3), (7, .ifCond .ne 4, 3), (10, .return_, 1), (11, .bipush 8, 2), (13, .aload_n 0, 1), (14, .getfield 42, 3), (17, .bipush 6, 2), (19, .iaload, 1), (20, .iadd, 1), (21, .istore_n 2, 1), (22, .aload_n 0, 1), (23, .getfield 46, 3), (26, .iload_n 2, 1), (27, .iload_n 1, 1), (28, .iastore, 1), (29, .aload_n 0, 1), (30, .getfield 48, 3), (33, .iload_n 2, 1), (34, .aload_n 0, 1), (35, .iconst 1, 1), (36, .bipush 12, 2)] := dq_s 24 0 (by decide +kernel)
theorem dX12_sayCave_0 : decode cX12_sayCave 0 = .ok (.aload_n 0, 1) := dq_h dzX12_sayCave_0
theorem dX12_sayCave_1 : decode cX12_sayCave 1 = .ok (.iconst 0, 1) := dq_h (dq_t dzX12_sayCave_0)
theorem dX12_sayCave_2 : decode cX12_sayCave 2 = .ok (.bipush 8, 2) := dq_h (dq_t (dq_t dzX12_sayCave_0))
theorem dX12_sayCave_4 : decode cX12_sayCave 4 = .ok (.invokevirtual 276, 3) := dq_h (dq_t (dq_t (dq_t dzX12_sayCave_0)))
theorem dX12_sayCave_7 : decode cX12_sayCave 7 = .ok (.ifCond .ne 4, 3) := dq_h (dq_t (dq_t (dq_t (dq_t dzX12_sayCave_0))))
theorem dX12_sayCave_10 : decode cX12_sayCave 10 = .ok (.return_, 1) := dq_h (dq_t (dq_t (dq_t (dq_t (dq_t dzX12_sayCave_0)))))
theorem dX12_sayCave_11 : decode cX12_sayCave 11 = .ok (.bipush 8, 2) := dq_h (dq_t (dq_t (dq_t (dq_t (dq_t (dq_t dzX12_sayCave_0))))))
theorem dX12_sayCave_13 : decode cX12_sayCave 13 = .ok (.aload_n 0, 1) := dq_h (dq_t (dq_t (dq_t (dq_t (dq_t (dq_t (dq_t dzX12_sayCave_0)))))))
theorem dX12_sayCave_14 : decode cX12_sayCave 14 = .ok (.getfield 42, 3) := dq_h (dq_t (dq_t (dq_t (dq_t (dq_t (dq_t (dq_t (dq_t dzX12_sayCave_0))))))))
theorem dX12_sayCave_17 : decode cX12_sayCave 17 = .ok (.bipush 6, 2) := dq_h (dq_t (dq_t (dq_t (dq_t (dq_t (dq_t (dq_t (dq_t (dq_t dzX12_sayCave_0)))))))))
theorem dX12_sayCave_19 : decode cX12_sayCave 19 = .ok (.iaload, 1) := dq_h (dq_t (dq_t (dq_t (dq_t (dq_t (dq_t (dq_t (dq_t (dq_t (dq_t dzX12_sayCave_0))))))))))
theorem dX12_sayCave_20 : decode cX12_sayCave 20 = .ok (.iadd, 1) := dq_h (dq_t (dq_t (dq_t (dq_t (dq_t (dq_t (dq_t (dq_t (dq_t (dq_t (dq_t dzX12_sayCave_0)))))))))))
theorem dX12_sayCave_21 : decode cX12_sayCave 21 = .ok (.istore_n 2, 1) := dq_h (dq_t (dq_t (dq_t (dq_t (dq_t (dq_t (dq_t (dq_t (dq_t (dq_t (dq_t (dq_t dzX12_sayCave_0))))))))))))
theorem dX12_sayCave_22 : decode cX12_sayCave 22 = .ok (.aload_n 0, 1) := dq_h (dq_t (dq_t (dq_t (dq_t (dq_t (dq_t (dq_t (dq_t (dq_t (dq_t (dq_t (dq_t (dq_t dzX12_sayCave_0)))))))))))))
theorem dX12_sayCave_23 : decode cX12_sayCave 23 = .ok (.getfield 46, 3) := dq_h (dq_t (dq_t (dq_t (dq_t (dq_t (dq_t (dq_t (dq_t (dq_t (dq_t (dq_t (dq_t (dq_t (dq_t dzX12_sayCave_0))))))))))))))
theorem dX12_sayCave_26 : decode cX12_sayCave 26 = .ok (.iload_n 2, 1) := dq_h (dq_t (dq_t (dq_t (dq_t (dq_t (dq_t (dq_t (dq_t (dq_t (dq_t (dq_t (dq_t (dq_t (dq_t (dq_t dzX12_sayCave_0)))))))))))))))
theorem dX12_sayCave_27 : decode cX12_sayCave 27 = .ok (.iload_n 1, 1) := dq_h (dq_t (dq_t (dq_t (dq_t (dq_t (dq_t (dq_t (dq_t (dq_t (dq_t (dq_t (dq_t (dq_t (dq_t (dq_t (dq_t dzX12_sayCave_0))))))))))))))))
theorem dX12_sayCave_28 : decode cX12_sayCave 28 = .ok (.iastore, 1) := dq_h (dq_t (dq_t (dq_t (dq_t (dq_t (dq_t (dq_t (dq_t (dq_t (dq_t (dq_t (dq_t (dq_t (dq_t (dq_t (dq_t (dq_t dzX12_sayCave_0)))))))))))))))))
theorem dX12_sayCave_29 : decode cX12_sayCave 29 = .ok (.aload_n 0, 1) := dq_h (dq_t (dq_t (dq_t (dq_t (dq_t (dq_t (dq_t (dq_t (dq_t (dq_t (dq_t (dq_t (dq_t (dq_t (dq_t (dq_t (dq_t (dq_t dzX12_sayCave_0))))))))))))))))))
theorem dX12_sayCave_30 : decode cX12_sayCave 30 = .ok (.getfield 48, 3) := dq_h (dq_t (dq_t (dq_t (dq_t (dq_t (dq_t (dq_t (dq_t (dq_t (dq_t (dq_t (dq_t (dq_t (dq_t (dq_t (dq_t (dq_t (dq_t (dq_t dzX12_sayCave_0)))))))))))))))))))
theorem dX12_sayCave_33 : decode cX12_sayCave 33 = .ok (.iload_n 2, 1) := dq_h (dq_t (dq_t (dq_t (dq_t (dq_t (dq_t (dq_t (dq_t (dq_t (dq_t (dq_t (dq_t (dq_t (dq_t (dq_t (dq_t (dq_t (dq_t (dq_t (dq_t dzX12_sayCave_0))))))))))))))))))))
theorem dX12_sayCave_34 : decode cX12_sayCave 34 = .ok (.aload_n 0, 1) := dq_h (dq_t (dq_t (dq_t (dq_t (dq_t (dq_t (dq_t (dq_t (dq_t (dq_t (dq_t (dq_t (dq_t (dq_t (dq_t (dq_t (dq_t (dq_t (dq_t (dq_t (dq_t dzX12_sayCave_0)))))))))))))))))))))
theorem dX12_sayCave_35 : decode cX12_sayCave 35 = .ok (.iconst 1, 1) := dq_h (dq_t (dq_t (dq_t (dq_t (dq_t (dq_t (dq_t (dq_t (dq_t (dq_t (dq_t (dq_t (dq_t (dq_t (dq_t (dq_t (dq_t (dq_t (dq_t (dq_t (dq_t (dq_t dzX12_sayCave_0))))))))))))))))))))))
theorem dX12_sayCave_36 : decode cX12_sayCave 36 = .ok (.bipush 12, 2) := dq_h (dq_t (dq_t (dq_t (dq_t (dq_t (dq_t (dq_t (dq_t (dq_t (dq_t (dq_t (dq_t (dq_t (dq_t (dq_t (dq_t (dq_t (dq_t (dq_t (dq_t (dq_t (dq_t (dq_t dzX12_sayCave_0)))))))))))))))))))))))
theorem dzX12_sayCave_38 : dq_F cX12_sayCave [(38, .invokevirtual 239, 3), (41, .iastore, 1), (42, .aload_n 0, 1), (43, .getfield 50, 3), (46, .iload_n 2, 1), (47, .aload_n 0, 1), (48, .iconst 0, 1), (49, .bipush 11, 2), (51, .invokevirtual 239, 3), (54, .iastore, 1), (55, .aload_n 0, 1), (56, .getfield 53, 3), (59, .iload_n 2, 1), (60, .aload_n 0, 1), (61, .iconst 0, 1), (62, .bipush 20, 2), (64, .invokevirtual 239, 3), (67, .iastore, 1), (68, .aload_n 0, 1), (69, .getfield 42, 3), (72, .bipush 6, 2), (74, .dup2, 1), (75, .iaload, 1), (76, .iconst 1, 1)] := dq_s 24 38 (by decide +kernel)
theorem dX12_sayCave_38 : decode cX12_sayCave 38 = .ok (.invokevirtual 239, 3) := dq_h dzX12_sayCave_38
theorem dX12_sayCave_41 : decode cX12_sayCave 41 = .ok (.iastore, 1) := dq_h (dq_t dzX12_sayCave_38)
theorem dX12_sayCave_42 : decode cX12_sayCave 42 = .ok (.aload_n 0, 1) := dq_h (dq_t (dq_t dzX12_sayCave_38))
theorem dX12_sayCave_43 : decode cX12_sayCave 43 = .ok (.getfield 50, 3) := dq_h (dq_t (dq_t (dq_t dzX12_sayCave_38)))
theorem dX12_sayCave_46 : decode cX12_sayCave 46 = .ok (.iload_n 2, 1) := dq_h (dq_t (dq_t (dq_t (dq_t dzX12_sayCave_38))))
theorem dX12_sayCave_47 : decode cX12_sayCave 47 = .ok (.aload_n 0, 1) := dq_h (dq_t (dq_t (dq_t (dq_t (dq_t dzX12_sayCave_38)))))
theorem dX12_sayCave_48 : decode cX12_sayCave 48 = .ok (.iconst 0, 1) := dq_h (dq_t (dq_t (dq_t (dq_t (dq_t (dq_t dzX12_sayCave_38))))))
theorem dX12_sayCave_49 : decode cX12_sayCave 49 = .ok (.bipush 11, 2) := dq_h (dq_t (dq_t (dq_t (dq_t (dq_t (dq_t (dq_t dzX12_sayCave_38)))))))
theorem dX12_sayCave_51 : decode cX12_sayCave 51 = .ok (.invokevirtual 239, 3) := dq_h (dq_t (dq_t (dq_t (dq_t (dq_t (dq_t (dq_t (dq_t dzX12_sayCave_38))))))))
theorem dX12_sayCave_54 : decode cX12_sayCave 54 = .ok (.iastore, 1) := dq_h (dq_t (dq_t (dq_t (dq_t (dq_t (dq_t (dq_t (dq_t (dq_t dzX12_sayCave_38)))))))))
theorem dX12_sayCave_55 : decode cX12_sayCave 55 = .ok (.aload_n 0, 1) := dq_h (dq_t (dq_t (dq_t (dq_t (dq_t (dq_t (dq_t (dq_t (dq_t (dq_t dzX12_sayCave_38))))))))))
theorem dX12_sayCave_56 : decode cX12_sayCave 56 = .ok (.getfield 53, 3) := dq_h (dq_t (dq_t (dq_t (dq_t (dq_t (dq_t (dq_t (dq_t (dq_t (dq_t (dq_t dzX12_sayCave_38)))))))))))
theorem dX12_sayCave_59 : decode cX12_sayCave 59 = .ok (.iload_n 2, 1) := dq_h (dq_t (dq_t (dq_t (dq_t (dq_t (dq_t (dq_t (dq_t (dq_t (dq_t (dq_t (dq_t dzX12_sayCave_38))))))))))))
theorem dX12_sayCave_60 : decode cX12_sayCave 60 = .ok (.aload_n 0, 1) := dq_h (dq_t (dq_t (dq_t (dq_t (dq_t (dq_t (dq_t (dq_t (dq_t (dq_t (dq_t (dq_t (dq_t dzX12_sayCave_38)))))))))))))
theorem dX12_sayCave_61 : decode cX12_sayCave 61 = .ok (.iconst 0, 1) := dq_h (dq_t (dq_t (dq_t (dq_t (dq_t (dq_t (dq_t (dq_t (dq_t (dq_t (dq_t (dq_t (dq_t (dq_t dzX12_sayCave_38))))))))))))))
theorem dX12_sayCave_62 : decode cX12_sayCave 62 = .ok (.bipush 20, 2) := dq_h (dq_t (dq_t (dq_t (dq_t (dq_t (dq_t (dq_t (dq_t (dq_t (dq_t (dq_t (dq_t (dq_t (dq_t (dq_t dzX12_sayCave_38)))))))))))))))
theorem dX12_sayCave_64 : decode cX12_sayCave 64 = .ok (.invokevirtual 239, 3) := dq_h (dq_t (dq_t (dq_t (dq_t (dq_t (dq_t (dq_t (dq_t (dq_t (dq_t (dq_t (dq_t (dq_t (dq_t (dq_t (dq_t dzX12_sayCave_38))))))))))))))))
theorem dX12_sayCave_67 : decode cX12_sayCave 67 = .ok (.iastore, 1) := dq_h (dq_t (dq_t (dq_t (dq_t (dq_t (dq_t (dq_t (dq_t (dq_t (dq_t (dq_t (dq_t (dq_t (dq_t (dq_t (dq_t (dq_t dzX12_sayCave_38)))))))))))))))))
theorem dX12_sayCave_68 : decode cX12_sayCave 68 = .ok (.aload_n 0, 1) := dq_h (dq_t (dq_t (dq_t (dq_t (dq_t (dq_t (dq_t (dq_t (dq_t (dq_t (dq_t (dq_t (dq_t (dq_t (dq_t (dq_t (dq_t (dq_t dzX12_sayCave_38))))))))))))))))))
theorem dX12_sayCave_69 : decode cX12_sayCave 69 = .ok (.getfield 42, 3) := dq_h (dq_t (dq_t (dq_t (dq_t (dq_t (dq_t (dq_t (dq_t (dq_t (dq_t (dq_t (dq_t (dq_t (dq_t (dq_t (dq_t (dq_t (dq_t (dq_t dzX12_sayCave_38)))))))))))))))))))
theorem dX12_sayCave_72 : decode cX12_sayCave 72 = .ok (.bipush 6, 2) := dq_h (dq_t (dq_t (dq_t (dq_t (dq_t (dq_t (dq_t (dq_t (dq_t (dq_t (dq_t (dq_t (dq_t (dq_t (dq_t (dq_t (dq_t (dq_t (dq_t (dq_t dzX12_sayCave_38))))))))))))))))))))
theorem dX12_sayCave_74 : decode cX12_sayCave 74 = .ok (.dup2, 1) := dq_h (dq_t (dq_t (dq_t (dq_t (dq_t (dq_t (dq_t (dq_t (dq_t (dq_t (dq_t (dq_t (dq_t (dq_t (dq_t (dq_t (dq_t (dq_t (dq_t (dq_t (dq_t dzX12_sayCave_38)))))))))))))))))))))
theorem dX12_sayCave_75 : decode cX12_sayCave 75 = .ok (.iaload, 1) := dq_h (dq_t (dq_t (dq_t (dq_t (dq_t (dq_t (dq_t (dq_t (dq_t (dq_t (dq_t (dq_t (dq_t (dq_t (dq_t (dq_t (dq_t (dq_t (dq_t (dq_t (dq_t (dq_t dzX12_sayCave_38))))))))))))))))))))))
theorem dX12_sayCave_76 : decode cX12_sayCave 76 = .ok (.iconst 1, 1) := dq_h (dq_t (dq_t (dq_t (dq_t (dq_t (dq_t (dq_t (dq_t (dq_t (dq_t (dq_t (dq_t (dq_t (dq_t (dq_t (dq_t (dq_t (dq_t (dq_t (dq_t (dq_t (dq_t (dq_t dzX12_sayCave_38)))))))))))))))))))))))
theorem dzX12_sayCave_77 : dq_F cX12_sayCave [(77, .iadd, 1), (78, .iastore, 1), (79, .return_, 1)] := dq_s 3 77 (by decide +kernel)
theorem dX12_sayCave_77 : decode cX12_sayCave 77 = .ok (.iadd, 1) := dq_h dzX12_sayCave_77
theorem dX12_sayCave_78 : decode cX12_sayCave 78 = .ok (.iastore, 1) := dq_h (dq_t dzX12_sayCave_77)
theorem dX12_sayCave_79 : decode cX12_sayCave 79 = .ok (.return_, 1) := dq_h (dq_t (dq_t dzX12_sayCave_77))
theorem dzX12_sayGuild_0 : dq_F cX12_sayGuild [(0, .aload_n 0, 1), (1, .iconst 1, 1), (2, .bipush 6, 2), (4, .invokevirtual 276, 3), (7, .ifCond .ne 4, 3), (10, .return_, 1), (11, .bipush 6, 2), (13, .aload_n 0, 1), (14, .getfield 42, 3), (17, .bipush 7, 2), (19, .iaload, 1), (20, .iadd, 1), (21, .istore_n 1, 1), (22, .aload_n 0, 1), (23, .getfield 55, 3), (26, .iload_n 1, 1), (27, .aload_n 0, 1), (28, .iconst 0, 1), (29, .bipush 9, 2), (31, .invokevirtual 239, 3), (34, .iastore, 1), (35, .aload_n 0, 1), (36, .getfield 58, 3), (39, .iload_n 1, 1)] := dq_s 24 0 (by decide +kernel)
theorem dX12_sayGuild_0 : decode cX12_sayGuild 0 = .ok (.aload_n 0, 1) := dq_h dzX12_sayGuild_0
theorem dX12_sayGuild_1 : decode cX12_sayGuild 1 = .ok (.iconst 1, 1) := dq_h (dq_t dzX12_sayGuild_0)
theorem dX12_sayGuild_2 : decode cX12_sayGuild 2 = .ok (.bipush 6, 2) := dq_h (dq_t (dq_t dzX12_sayGuild_0))
theorem dX12_sayGuild_4 : decode cX12_sayGuild 4 = .ok (.invokevirtual 276, 3) := dq_h (dq_t (dq_t (dq_t dzX12_sayGuild_0)))
theorem dX12_sayGuild_7 : decode cX12_sayGuild 7 = .ok (.ifCond .ne 4, 3) := dq_h (dq_t (dq_t (dq_t (dq_t dzX12_sayGuild_0))))
theorem dX12_sayGuild_10 : decode cX12_sayGuild 10 = .ok (.return_, 1) := dq_h (dq_t (dq_t (dq_t (dq_t (dq_t dzX12_sayGuild_0)))))
theorem dX12_sayGuild_11 : decode cX12_sayGuild 11 = .ok (.bipush 6, 2) := dq_h (dq_t (dq_t (dq_t (dq_t (dq_t (dq_t dzX12_sayGuild_0))))))
theorem dX12_sayGuild_13 : decode cX12_sayGuild 13 = .ok (.aload_n 0, 1) := dq_h (dq_t (dq_t (dq_t (dq_t (dq_t (dq_t (dq_t dzX12_sayGuild_0)))))))
theorem dX12_sayGuild_14 : decode cX12_sayGuild 14 = .ok (.getfield 42, 3) := dq_h (dq_t (dq_t (dq_t (dq_t (dq_t (dq_t (dq_t (dq_t dzX12_sayGuild_0))))))))
theorem dX12_sayGuild_17 : decode cX12_sayGuild 17 = .ok (.bipush 7, 2) := dq_h (dq_t (dq_t (dq_t (dq_t (dq_t (dq_t (dq_t (dq_t (dq_t dzX12_sayGuild_0)))))))))
theorem dX12_sayGuild_19 : decode cX12_sayGuild 19 = .ok (.iaload, 1) := dq_h (dq_t (dq_t (dq_t (dq_t (dq_t (dq_t (dq_t (dq_t (dq_t (dq_t dzX12_sayGuild_0))))))))))
theorem dX12_sayGuild_20 : decode cX12_sayGuild 20 = .ok (.iadd, 1) := dq_h (dq_t (dq_t (dq_t (dq_t (dq_t (dq_t (dq_t (dq_t (dq_t (dq_t (dq_t dzX12_sayGuild_0)))))))))))
theorem dX12_sayGuild_21 : decode cX12_sayGuild 21 = .ok (.istore_n 1, 1) := dq_h (dq_t (dq_t (dq_t (dq_t (dq_t (dq_t (dq_t (dq_t (dq_t (dq_t (dq_t (dq_t dzX12_sayGuild_0))))))))))))
theorem dX12_sayGuild_22 : decode cX12_sayGuild 22 = .ok (.aload_n 0, 1) := dq_h (dq_t (dq_t (dq_t (dq_t (dq_t (dq_t (dq_t (dq_t (dq_t (dq_t (dq_t (dq_t (dq_t dzX12_sayGuild_0)))))))))))))
theorem dX12_sayGuild_23 : decode cX12_sayGuild 23 = .ok (.getfield 55, 3) := dq_h (dq_t (dq_t (dq_t (dq_t (dq_t (dq_t (dq_t (dq_t (dq_t (dq_t (dq_t (dq_t (dq_t (dq_t dzX12_sayGuild_0))))))))))))))
theorem dX12_sayGuild_26 : decode cX12_sayGuild 26 = .ok (.iload_n 1, 1) := dq_h (dq_t (dq_t (dq_t (dq_t (dq_t (dq_t (dq_t (dq_t (dq_t (dq_t (dq_t (dq_t (dq_t (dq_t (dq_t dzX12_sayGuild_0)))))))))))))))
theorem dX12_sayGuild_27 : decode cX12_sayGuild 27 = .ok (.aload_n 0, 1) := dq_h (dq_t (dq_t (dq_t (dq_t (dq_t (dq_t (dq_t (dq_t (dq_t (dq_t (dq_t (dq_t (dq_t (dq_t (dq_t (dq_t dzX12_sayGuild_0))))))))))))))))
theorem dX12_sayGuild_28 : decode cX12_sayGuild 28 = .ok (.iconst 0, 1) := dq_h (dq_t (dq_t (dq_t (dq_t (dq_t (dq_t (dq_t (dq_t (dq_t (dq_t (dq_t (dq_t (dq_t (dq_t (dq_t (dq_t (dq_t dzX12_sayGuild_0)))))))))))))))))
theorem dX12_sayGuild_29 : decode cX12_sayGuild 29 = .ok (.bipush 9, 2) := dq_h (dq_t (dq_t (dq_t (dq_t (dq_t (dq_t (dq_t (dq_t (dq_t (dq_t (dq_t (dq_t (dq_t (dq_t (dq_t (dq_t (dq_t (dq_t dzX12_sayGuild_0))))))))))))))))))
theorem dX12_sayGuild_31 : decode cX12_sayGuild 31 = .ok (.invokevirtual 239, 3) := dq_h (dq_t (dq_t (dq_t (dq_t (dq_t (dq_t (dq_t (dq_t (dq_t (dq_t (dq_t (dq_t (dq_t (dq_t (dq_t (dq_t (dq_t (dq_t (dq_t dzX12_sayGuild_0)))))))))))))))))))
theorem dX12_sayGuild_34 : decode cX12_sayGuild 34 = .ok (.iastore, 1) := dq_h (dq_t (dq_t (dq_t (dq_t (dq_t (dq_t (dq_t (dq_t (dq_t (dq_t (dq_t (dq_t (dq_t (dq_t (dq_t (dq_t (dq_t (dq_t (dq_t (dq_t dzX12_sayGuild_0))))))))))))))))))))
theorem dX12_sayGuild_35 : decode cX12_sayGuild 35 = .ok (.aload_n 0, 1) := dq_h (dq_t (dq_t (dq_t (dq_t (dq_t (dq_t (dq_t (dq_t (dq_t (dq_t (dq_t (dq_t (dq_t (dq_t (dq_t (dq_t (dq_t (dq_t (dq_t (dq_t (dq_t dzX12_sayGuild_0)))))))))))))))))))))
theorem dX12_sayGuild_36 : decode cX12_sayGuild 36 = .ok (.getfield 58, 3) := dq_h (dq_t (dq_t (dq_t (dq_t (dq_t (dq_t (dq_t (dq_t (dq_t (dq_t (dq_t (dq_t (dq_t (dq_t (dq_t (dq_t (dq_t (dq_t (dq_t (dq_t (dq_t (dq_t dzX12_sayGuild_0))))))))))))))))))))))
theorem dX12_sayGuild_39 : decode cX12_sayGuild 39 = .ok (.iload_n 1, 1) := dq_h (dq_t (dq_t (dq_t (dq_t (dq_t (dq_t (dq_t (dq_t (dq_t (dq_t (dq_t (dq_t (dq_t (dq_t (dq_t (dq_t (dq_t (dq_t (dq_t (dq_t (dq_t (dq_t (dq_t dzX12_sayGuild_0)))))))))))))))))))))))
theorem dzX12_sayGuild_40 : dq_F cX12_sayGuild [(40, .aload_n 0, 1), (41, .iconst 0, 1), (42, .bipush 99, 2), (44, .invokevirtual 239, 3), (47, .iastore, 1), (48, .aload_n 0, 1), (49, .getfield 61, 3), (52, .iload_n 1, 1), (53, .aload_n 0, 1), (54, .iconst 0, 1), (55, .sipush 999, 3), (58, .invokevirtual 239, 3), (61, .iastore, 1), (62, .aload_n 0, 1), (63, .getfield 64, 3), (66, .iload_n 1, 1), (67, .iconst (-1), 1), (68, .iastore, 1), (69, .aload_n 0, 1), (70, .ldc_w 280, 3), (73, .invokevirtual 218, 3), (76, .ifCond .eq 92, 3), (79, .aload_n 0, 1), (80, .invokevirtual 229, 3)] := dq_s 24 40 (by decide +kernel)
theorem dX12_sayGuild_40 : decode cX12_sayGuild 40 = .ok (.aload_n 0, 1) := dq_h dzX12_sayGuild_40
theorem dX12_sayGuild_41 : decode cX12_sayGuild 41 = .ok (.iconst 0, 1) := dq_h (dq_t dzX12_sayGuild_40)
theorem dX12_sayGuild_42 : decode cX12_sayGuild 42 = .ok (.bipush 99, 2) := dq_h (dq_t (dq_t dzX12_sayGuild_40))
theorem dX12_sayGuild_44 : decode cX12_sayGuild 44 = .ok (.invokevirtual 239, 3) := dq_h (dq_t (dq_t (dq_t dzX12_sayGuild_40)))
theorem dX12_sayGuild_47 : decode cX12_sayGuild 47 = .ok (.iastore, 1) := dq_h (dq_t (dq_t (dq_t (dq_t dzX12_sayGuild_40))))
theorem dX12_sayGuild_48 : decode cX12_sayGuild 48 = .ok (.aload_n 0, 1) := dq_h (dq_t (dq_t (dq_t (dq_t (dq_t dzX12_sayGuild_40)))))
theorem dX12_sayGuild_49 : decode cX12_sayGuild 49 = .ok (.getfield 61, 3) := dq_h (dq_t (dq_t (dq_t (dq_t (dq_t (dq_t dzX12_sayGuild_40))))))
theorem dX12_sayGuild_52 : decode cX12_sayGuild 52 = .ok (.iload_n 1, 1) := dq_h (dq_t (dq_t (dq_t (dq_t (dq_t (dq_t (dq_t dzX12_sayGuild_40)))))))
theorem dX12_sayGuild_53 : decode cX12_sayGuild 53 = .ok (.aload_n 0, 1) := dq_h (dq_t (dq_t (dq_t (dq_t (dq_t (dq_t (dq_t (dq_t dzX12_sayGuild_40))))))))
theorem dX12_sayGuild_54 : decode cX12_sayGuild 54 = .ok (.iconst 0, 1) := dq_h (dq_t (dq_t (dq_t (dq_t (dq_t (dq_t (dq_t (dq_t (dq_t dzX12_sayGuild_40)))))))))
theorem dX12_sayGuild_55 : decode cX12_sayGuild 55 = .ok (.sipush 999, 3) := dq_h (dq_t (dq_t (dq_t (dq_t (dq_t (dq_t (dq_t (dq_t (dq_t (dq_t dzX12_sayGuild_40))))))))))
theorem dX12_sayGuild_58 : decode cX12_sayGuild 58 = .ok (.invokevirtual 239, 3) := dq_h (dq_t (dq_t (dq_t (dq_t (dq_t (dq_t (dq_t (dq_t (dq_t (dq_t (dq_t dzX12_sayGuild_40)))))))))))
theorem dX12_sayGuild_61 : decode cX12_sayGuild 61 = .ok (.iastore, 1) := dq_h (dq_t (dq_t (dq_t (dq_t (dq_t (dq_t (dq_t (dq_t (dq_t (dq_t (dq_t (dq_t dzX12_sayGuild_40))))))))))))
theorem dX12_sayGuild_62 : decode cX12_sayGuild 62 = .ok (.aload_n 0, 1) := dq_h (dq_t (dq_t (dq_t (dq_t (dq_t (dq_t (dq_t (dq_t (dq_t (dq_t (dq_t (dq_t (dq_t dzX12_sayGuild_40)))))))))))))
theorem dX12_sayGuild_63 : decode cX12_sayGuild 63 = .ok (.getfield 64, 3) := dq_h (dq_t (dq_t (dq_t (dq_t (dq_t (dq_t (dq_t (dq_t (dq_t (dq_t (dq_t (dq_t (dq_t (dq_t dzX12_sayGuild_40))))))))))))))
theorem dX12_sayGuild_66 : decode cX12_sayGuild 66 = .ok (.iload_n 1, 1) := dq_h (dq_t (dq_t (dq_t (dq_t (dq_t (dq_t (dq_t (dq_t (dq_t (dq_t (dq_t (dq_t (dq_t (dq_t (dq_t dzX12_sayGuild_40)))))))))))))))
theorem dX12_sayGuild_67 : decode cX12_sayGuild 67 = .ok (.iconst (-1), 1) := dq_h (dq_t (dq_t (dq_t (dq_t (dq_t (dq_t (dq_t (dq_t (dq_t (dq_t (dq_t (dq_t (dq_t (dq_t (dq_t (dq_t dzX12_sayGuild_40))))))))))))))))
theorem dX12_sayGuild_68 : decode cX12_sayGuild 68 = .ok (.iastore, 1) := dq_h (dq_t (dq_t (dq_t (dq_t (dq_t (dq_t (dq_t (dq_t (dq_t (dq_t (dq_t (dq_t (dq_t (dq_t (dq_t (dq_t (dq_t dzX12_sayGuild_40)))))))))))))))))
theorem dX12_sayGuild_69 : decode cX12_sayGuild 69 = .ok (.aload_n 0, 1) := dq_h (dq_t (dq_t (dq_t (dq_t (dq_t (dq_t (dq_t (dq_t (dq_t (dq_t (dq_t (dq_t (dq_t (dq_t (dq_t (dq_t (dq_t (dq_t dzX12_sayGuild_40))))))))))))))))))
theorem dX12_sayGuild_70 : decode cX12_sayGuild 70 = .ok (.ldc_w 280, 3) := dq_h (dq_t (dq_t (dq_t (dq_t (dq_t (dq_t (dq_t (dq_t (dq_t (dq_t (dq_t (dq_t (dq_t (dq_t (dq_t (dq_t (dq_t (dq_t (dq_t dzX12_sayGuild_40)))))))))))))))))))
theorem dX12_sayGuild_73 : decode cX12_sayGuild 73 = .ok (.invokevirtual 218, 3) := dq_h (dq_t (dq_t (dq_t (dq_t (dq_t (dq_t (dq_t (dq_t (dq_t (dq_t (dq_t (dq_t (dq_t (dq_t (dq_t (dq_t (dq_t (dq_t (dq_t (dq_t dzX12_sayGuild_40))))))))))))))))))))
theorem dX12_sayGuild_76 : decode cX12_sayGuild 76 = .ok (.ifCond .eq 92, 3) := dq_h (dq_t (dq_t (dq_t (dq_t (dq_t (dq_t (dq_t (dq_t (dq_t (dq_t (dq_t (dq_t (dq_t (dq_t (dq_t (dq_t (dq_t (dq_t (dq_t (dq_t (dq_t dzX12_sayGuild_40)))))))))))))))))))))
theorem dX12_sayGuild_79 : decode cX12_sayGuild 79 = .ok (.aload_n 0, 1) := dq_h (dq_t (dq_t (dq_t (dq_t (dq_t (dq_t (dq_t (dq_t (dq_t (dq_t (dq_t (dq_t (dq_t (dq_t (dq_t (dq_t (dq_t (dq_t (dq_t (dq_t (dq_t (dq_t dzX12_sayGuild_40))))))))))))))))))))))
theorem dX12_sayGuild_80 : decode cX12_sayGuild 80 = .ok (.invokevirtual 229, 3) := dq_h (dq_t (dq_t (dq_t (dq_t (dq_t (dq_t (dq_t (dq_t (dq_t (dq_t (dq_t (dq_t (dq_t (dq_t (dq_t (dq_t (dq_t (dq_t (dq_t (dq_t (dq_t (dq_t (dq_t dzX12_sayGuild_40)))))))))))))))))))))))
theorem dzX12_sayGuild_83 : dq_F cX12_sayGuild [(83, .aload_n 0, 1), (84, .iconst 0, 1), (85, .sipush 9999, 3), (88, .invokevirtual 232, 3), (91, .istore_n 2, 1), (92, .aload_n 0, 1), (93, .getfield 204, 3), (96, .ifCond .ne 19, 3), (99, .iload_n 2, 1), (100, .aload_n 0, 1), (101, .getfield 42, 3), (104, .bipush 6, 2), (106, .iaload, 1), (107, .if_icmp .lt 8, 3), (110, .aload_n 0, 1), (111, .iconst 3, 1), (112, .invokevirtual 225, 3), (115, .aload_n 0, 1), (116, .getfield 204, 3), (119, .ifCond .ne 19, 3), (122, .aload_n 0, 1), (123, .getfield 282, 3), (126, .iload_n 2, 1), (127, .invokestatic 285, 3)] := dq_s 24 83 (by decide +kernel)
theorem dX12_sayGuild_83 : decode cX12_sayGuild 83 = .ok (.aload_n 0, 1) := dq_h dzX12_sayGuild_83
theorem dX12_sayGuild_84 : decode cX12_sayGuild 84 = .ok (.iconst 0, 1) := dq_h (dq_t dzX12_sayGuild_83)
theorem dX12_sayGuild_85 : decode cX12_sayGuild 85 = .ok (.sipush 9999, 3) := dq_h (dq_t (dq_t dzX12_sayGuild_83))
theorem dX12_sayGuild_88 : decode cX12_sayGuild 88 = .ok (.invokevirtual 232, 3) := dq_h (dq_t (dq_t (dq_t dzX12_sayGuild_83)))
theorem dX12_sayGuild_91 : decode cX12_sayGuild 91 = .ok (.istore_n 2, 1) := dq_h (dq_t (dq_t (dq_t (dq_t dzX12_sayGuild_83))))
theorem dX12_sayGuild_92 : decode cX12_sayGuild 92 = .ok (.aload_n 0, 1) := dq_h (dq_t (dq_t (dq_t (dq_t (dq_t dzX12_sayGuild_83)))))
theorem dX12_sayGuild_93 : decode cX12_sayGuild 93 = .ok (.getfield 204, 3) := dq_h (dq_t (dq_t (dq_t (dq_t (dq_t (dq_t dzX12_sayGuild_83))))))
theorem dX12_sayGuild_96 : decode cX12_sayGuild 96 = .ok (.ifCond .ne 19, 3) := dq_h (dq_t (dq_t (dq_t (dq_t (dq_t (dq_t (dq_t dzX12_sayGuild_83)))))))
theorem dX12_sayGuild_99 : decode cX12_sayGuild 99 = .ok (.iload_n 2, 1) := dq_h (dq_t (dq_t (dq_t (dq_t (dq_t (dq_t (dq_t (dq_t dzX12_sayGuild_83))))))))
theorem dX12_sayGuild_100 : decode cX12_sayGuild 100 = .ok (.aload_n 0, 1) := dq_h (dq_t (dq_t (dq_t (dq_t (dq_t (dq_t (dq_t (dq_t (dq_t dzX12_sayGuild_83)))))))))
theorem dX12_sayGuild_101 : decode cX12_sayGuild 101 = .ok (.getfield 42, 3) := dq_h (dq_t (dq_t (dq_t (dq_t (dq_t (dq_t (dq_t (dq_t (dq_t (dq_t dzX12_sayGuild_83))))))))))
theorem dX12_sayGuild_104 : decode cX12_sayGuild 104 = .ok (.bipush 6, 2) := dq_h (dq_t (dq_t (dq_t (dq_t (dq_t (dq_t (dq_t (dq_t (dq_t (dq_t (dq_t dzX12_sayGuild_83)))))))))))
theorem dX12_sayGuild_106 : decode cX12_sayGuild 106 = .ok (.iaload, 1) := dq_h (dq_t (dq_t (dq_t (dq_t (dq_t (dq_t (dq_t (dq_t (dq_t (dq_t (dq_t (dq_t dzX12_sayGuild_83))))))))))))
theorem dX12_sayGuild_107 : decode cX12_sayGuild 107 = .ok (.if_icmp .lt 8, 3) := dq_h (dq_t (dq_t (dq_t (dq_t (dq_t (dq_t (dq_t (dq_t (dq_t (dq_t (dq_t (dq_t (dq_t dzX12_sayGuild_83)))))))))))))
theorem dX12_sayGuild_110 : decode cX12_sayGuild 110 = .ok (.aload_n 0, 1) := dq_h (dq_t (dq_t (dq_t (dq_t (dq_t (dq_t (dq_t (dq_t (dq_t (dq_t (dq_t (dq_t (dq_t (dq_t dzX12_sayGuild_83))))))))))))))
theorem dX12_sayGuild_111 : decode cX12_sayGuild 111 = .ok (.iconst 3, 1) := dq_h (dq_t (dq_t (dq_t (dq_t (dq_t (dq_t (dq_t (dq_t (dq_t (dq_t (dq_t (dq_t (dq_t (dq_t (dq_t dzX12_sayGuild_83)))))))))))))))
theorem dX12_sayGuild_112 : decode cX12_sayGuild 112 = .ok (.invokevirtual 225, 3) := dq_h (dq_t (dq_t (dq_t (dq_t (dq_t (dq_t (dq_t (dq_t (dq_t (dq_t (dq_t (dq_t (dq_t (dq_t (dq_t (dq_t dzX12_sayGuild_83))))))))))))))))
theorem dX12_sayGuild_115 : decode cX12_sayGuild 115 = .ok (.aload_n 0, 1) := dq_h (dq_t (dq_t (dq_t (dq_t (dq_t (dq_t (dq_t (dq_t (dq_t (dq_t (dq_t (dq_t (dq_t (dq_t (dq_t (dq_t (dq_t dzX12_sayGuild_83)))))))))))))))))
theorem dX12_sayGuild_116 : decode cX12_sayGuild 116 = .ok (.getfield 204, 3) := dq_h (dq_t (dq_t (dq_t (dq_t (dq_t (dq_t (dq_t (dq_t (dq_t (dq_t (dq_t (dq_t (dq_t (dq_t (dq_t (dq_t (dq_t (dq_t dzX12_sayGuild_83))))))))))))))))))
theorem dX12_sayGuild_119 : decode cX12_sayGuild 119 = .ok (.ifCond .ne 19, 3) := dq_h (dq_t (dq_t (dq_t (dq_t (dq_t (dq_t (dq_t (dq_t (dq_t (dq_t (dq_t (dq_t (dq_t (dq_t (dq_t (dq_t (dq_t (dq_t (dq_t dzX12_sayGuild_83)))))))))))))))))))
theorem dX12_sayGuild_122 : decode cX12_sayGuild 122 = .ok (.aload_n 0, 1) := dq_h (dq_t (dq_t (dq_t (dq_t (dq_t (dq_t (dq_t (dq_t (dq_t (dq_t (dq_t (dq_t (dq_t (dq_t (dq_t (dq_t (dq_t (dq_t (dq_t (dq_t dzX12_sayGuild_83))))))))))))))))))))
theorem dX12_sayGuild_123 : decode cX12_sayGuild 123 = .ok (.getfield 282, 3) := dq_h (dq_t (dq_t (dq_t (dq_t (dq_t (dq_t (dq_t (dq_t (dq_t (dq_t (dq_t (dq_t (dq_t (dq_t (dq_t (dq_t (dq_t (dq_t (dq_t (dq_t (dq_t dzX12_sayGuild_83)))))))))))))))))))))
theorem dX12_sayGuild_126 : decode cX12_sayGuild 126 = .ok (.iload_n 2, 1) := dq_h (dq_t (dq_t (dq_t (dq_t (dq_t (dq_t (dq_t (dq_t (dq_t (dq_t (dq_t (dq_t (dq_t (dq_t (dq_t (dq_t (dq_t (dq_t (dq_t (dq_t (dq_t (dq_t dzX12_sayGuild_83))))))))))))))))))))))
theorem dX12_sayGuild_127 : decode cX12_sayGuild 127 = .ok (.invokestatic 285, 3) := dq_h (dq_t (dq_t (dq_t (dq_t (dq_t (dq_t (dq_t (dq_t (dq_t (dq_t (dq_t (dq_t (dq_t (dq_t (dq_t (dq_t (dq_t (dq_t (dq_t (dq_t (dq_t (dq_t (dq_t dzX12_sayGuild_83)))))))))))))))))))))))
theorem dzX12_sayGuild_130 : dq_F cX12_sayGuild [(130, .ifCond .eq 8, 3), (133, .aload_n 0, 1), (134, .iconst 4, 1), (135, .invokevirtual 225, 3), (138, .aload_n 0, 1), (139, .getfield 204, 3), (142, .ifCond .ne 26, 3), (145, .aload_n 0, 1), (146, .invokevirtual 229, 3), (149, .aload_n 0, 1), (150, .dup, 1), (151, .getfield 282, 3), (154, .iconst 1, 1), (155, .iload_n 2, 1), (156, .ishl, 1), (157, .ior, 1), (158, .putfield 282, 3), (161, .aload_n 0, 1), (162, .getfield 64, 3), (165, .iload_n 1, 1), (166, .iload_n 2, 1), (167, .iastore, 1), (168, .aload_n 0, 1), (169, .getfield 42, 3)] := dq_s 24 130 (by decide +kernel)
theorem dX12_sayGuild_130 : decode cX12_sayGuild 130 = .ok (.ifCond .eq 8, 3) := dq_h dzX12_sayGuild_130
theorem dX12_sayGuild_133 : decode cX12_sayGuild 133 = .ok (.aload_n 0, 1) := dq_h (dq_t dzX12_sayGuild_130)
theorem dX12_sayGuild_134 : decode cX12_sayGuild 134 = .ok (.iconst 4, 1) := dq_h (dq_t (dq_t dzX12_sayGuild_130))
theorem dX12_sayGuild_135 : decode cX12_sayGuild 135 = .ok (.invokevirtual 225, 3) := dq_h (dq_t (dq_t (dq_t dzX12_sayGuild_130)))
theorem dX12_sayGuild_138 : decode cX12_sayGuild 138 = .ok (.aload_n 0, 1) := dq_h (dq_t (dq_t (dq_t (dq_t dzX12_sayGuild_130))))
theorem dX12_sayGuild_139 : decode cX12_sayGuild 139 = .ok (.getfield 204, 3) := dq_h (dq_t (dq_t (dq_t (dq_t (dq_t dzX12_sayGuild_130)))))
theorem dX12_sayGuild_142 : decode cX12_sayGuild 142 = .ok (.ifCond .ne 26, 3) := dq_h (dq_t (dq_t (dq_t (dq_t (dq_t (dq_t dzX12_sayGuild_130))))))
theorem dX12_sayGuild_145 : decode cX12_sayGuild 145 = .ok (.aload_n 0, 1) := dq_h (dq_t (dq_t (dq_t (dq_t (dq_t (dq_t (dq_t dzX12_sayGuild_130)))))))
theorem dX12_sayGuild_146 : decode cX12_sayGuild 146 = .ok (.invokevirtual 229, 3) := dq_h (dq_t (dq_t (dq_t (dq_t (dq_t (dq_t (dq_t (dq_t dzX12_sayGuild_130))))))))
theorem dX12_sayGuild_149 : decode cX12_sayGuild 149 = .ok (.aload_n 0, 1) := dq_h (dq_t (dq_t (dq_t (dq_t (dq_t (dq_t (dq_t (dq_t (dq_t dzX12_sayGuild_130)))))))))
theorem dX12_sayGuild_150 : decode cX12_sayGuild 150 = .ok (.dup, 1) := dq_h (dq_t (dq_t (dq_t (dq_t (dq_t (dq_t (dq_t (dq_t (dq_t (dq_t dzX12_sayGuild_130))))))))))
theorem dX12_sayGuild_151 : decode cX12_sayGuild 151 = .ok (.getfield 282, 3) := dq_h (dq_t (dq_t (dq_t (dq_t (dq_t (dq_t (dq_t (dq_t (dq_t (dq_t (dq_t dzX12_sayGuild_130)))))))))))
theorem dX12_sayGuild_154 : decode cX12_sayGuild 154 = .ok (.iconst 1, 1) := dq_h (dq_t (dq_t (dq_t (dq_t (dq_t (dq_t (dq_t (dq_t (dq_t (dq_t (dq_t (dq_t dzX12_sayGuild_130))))))))))))
theorem dX12_sayGuild_155 : decode cX12_sayGuild 155 = .ok (.iload_n 2, 1) := dq_h (dq_t (dq_t (dq_t (dq_t (dq_t (dq_t (dq_t (dq_t (dq_t (dq_t (dq_t (dq_t (dq_t dzX12_sayGuild_130)))))))))))))
theorem dX12_sayGuild_156 : decode cX12_sayGuild 156 = .ok (.ishl, 1) := dq_h (dq_t (dq_t (dq_t (dq_t (dq_t (dq_t (dq_t (dq_t (dq_t (dq_t (dq_t (dq_t (dq_t (dq_t dzX12_sayGuild_130))))))))))))))
theorem dX12_sayGuild_157 : decode cX12_sayGuild 157 = .ok (.ior, 1) := dq_h (dq_t (dq_t (dq_t (dq_t (dq_t (dq_t (dq_t (dq_t (dq_t (dq_t (dq_t (dq_t (dq_t (dq_t (dq_t dzX12_sayGuild_130)))))))))))))))
theorem dX12_sayGuild_158 : decode cX12_sayGuild 158 = .ok (.putfield 282, 3) := dq_h (dq_t (dq_t (dq_t (dq_t (dq_t (dq_t (dq_t (dq_t (dq_t (dq_t (dq_t (dq_t (dq_t (dq_t (dq_t (dq_t dzX12_sayGuild_130))))))))))))))))
theorem dX12_sayGuild_161 : decode cX12_sayGuild 161 = .ok (.aload_n 0, 1) := dq_h (dq_t (dq_t (dq_t (dq_t (dq_t (dq_t (dq_t (dq_t (dq_t (dq_t (dq_t (dq_t (dq_t (dq_t (dq_t (dq_t (dq_t dzX12_sayGuild_130)))))))))))))))))
theorem dX12_sayGuild_162 : decode cX12_sayGuild 162 = .ok (.getfield 64, 3) := dq_h (dq_t (dq_t (dq_t (dq_t (dq_t (dq_t (dq_t (dq_t (dq_t (dq_t (dq_t (dq_t (dq_t (dq_t (dq_t (dq_t (dq_t (dq_t dzX12_sayGuild_130))))))))))))))))))
theorem dX12_sayGuild_165 : decode cX12_sayGuild 165 = .ok (.iload_n 1, 1) := dq_h (dq_t (dq_t (dq_t (dq_t (dq_t (dq_t (dq_t (dq_t (dq_t (dq_t (dq_t (dq_t (dq_t (dq_t (dq_t (dq_t (dq_t (dq_t (dq_t dzX12_sayGuild_130)))))))))))))))))))
theorem dX12_sayGuild_166 : decode cX12_sayGuild 166 = .ok (.iload_n 2, 1) := dq_h (dq_t (dq_t (dq_t (dq_t (dq_t (dq_t (dq_t (dq_t (dq_t (dq_t (dq_t (dq_t (dq_t (dq_t (dq_t (dq_t (dq_t (dq_t (dq_t (dq_t dzX12_sayGuild_130))))))))))))))))))))
theorem dX12_sayGuild_167 : decode cX12_sayGuild 167 = .ok (.iastore, 1) := dq_h (dq_t (dq_t (dq_t (dq_t (dq_t (dq_t (dq_t (dq_t (dq_t (dq_t (dq_t (dq_t (dq_t (dq_t (dq_t (dq_t (dq_t (dq_t (dq_t (dq_t (dq_t dzX12_sayGuild_130)))))))))))))))))))))
theorem dX12_sayGuild_168 : decode cX12_sayGuild 168 = .ok (.aload_n 0, 1) := dq_h (dq_t (dq_t (dq_t (dq_t (dq_t (dq_t (dq_t (dq_t (dq_t (dq_t (dq_t (dq_t (dq_t (dq_t (dq_t (dq_t (dq_t (dq_t (dq_t (dq_t (dq_t (dq_t dzX12_sayGuild_130))))))))))))))))))))))
theorem dX12_sayGuild_169 : decode cX12_sayGuild 169 = .ok (.getfield 42, 3) := dq_h (dq_t (dq_t (dq_t (dq_t (dq_t (dq_t (dq_t (dq_t (dq_t (dq_t (dq_t (dq_t (dq_t (dq_t (dq_t (dq_t (dq_t (dq_t (dq_t (dq_t (dq_t (dq_t (dq_t dzX12_sayGuild_130)))))))))))))))))))))))
theorem dzX12_sayGuild_172 : dq_F cX12_sayGuild [(172, .bipush 7, 2), (174, .dup2, 1), (175, .iaload, 1), (176, .iconst 1, 1), (177, .iadd, 1), (178, .iastore, 1), (179, .return_, 1)] := dq_s 7 172 (by decide +kernel)
theorem dX12_sayGuild_172 : decode cX12_sayGuild 172 = .ok (.bipush 7, 2) := dq_h dzX12_sayGuild_172
theorem dX12_sayGuild_174 : decode cX12_sayGuild 174 = .ok (.dup2, 1) := dq_h (dq_t dzX12_sayGuild_172)
theorem dX12_sayGuild_175 : decode cX12_sayGuild 175 = .ok (.iaload, 1) := dq_h (dq_t (dq_t dzX12_sayGuild_172))
theorem dX12_sayGuild_176 : decode cX12_sayGuild 176 = .ok (.iconst 1, 1) := dq_h (dq_t (dq_t (dq_t dzX12_sayGuild_172)))
theorem dX12_sayGuild_177 : decode cX12_sayGuild 177 = .ok (.iadd, 1) := dq_h (dq_t (dq_t (dq_t (dq_t dzX12_sayGuild_172))))
theorem dX12_sayGuild_178 : decode cX12_sayGuild 178 = .ok (.iastore, 1) := dq_h (dq_t (dq_t (dq_t (dq_t (dq_t dzX12_sayGuild_172)))))
theorem dX12_sayGuild_179 : decode cX12_sayGuild 179 = .ok (.return_, 1) := dq_h (dq_t (dq_t (dq_t (dq_t (dq_t (dq_t dzX12_sayGuild_172))))))
theorem dzX12_sayWets_0 : dq_F cX12_sayWets [(0, .iconst 0, 1), (1, .istore_n 1, 1), (2, .aload_n 0, 1), (3, .getfield 204, 3), (6, .ifCond .ne 16, 3), (9, .aload_n 0, 1), (10, .getfield 178, 3), (13, .iconst 2, 1), (14, .if_icmp .eq 8, 3), (17, .aload_n 0, 1), (18, .iconst 1, 1), (19, .invokevirtual 225, 3), (22, .aload_n 0, 1), (23, .getfield 204, 3), (26, .ifCond .ne 54, 3), (29, .aload_n 0, 1), (30, .getfield 178, 3), (33, .iconst 2, 1), (34, .if_icmp .ne 46, 3), (37, .iload_n 1, 1), (38, .bipush 8, 2), (40, .if_icmp .ne 8, 3), (43, .aload_n 0, 1), (44, .iconst 2, 1)] := dq_s 24 0 (by decide +kernel)
theorem dX12_sayWets_0 : decode cX12_sayWets 0 = .ok (.iconst 0, 1) := dq_h dzX12_sayWets_0
theorem dX12_sayWets_1 : decode cX12_sayWets 1 = .ok (.istore_n 1, 1) := dq_h (dq_t dzX12_sayWets_0)
theorem dX12_sayWets_2 : decode cX12_sayWets 2 = .ok (.aload_n 0, 1) := dq_h (dq_t (dq_t dzX12_sayWets_0))
theorem dX12_sayWets_3 : decode cX12_sayWets 3 = .ok (.getfield 204, 3) := dq_h (dq_t (dq_t (dq_t dzX12_sayWets_0)))
theorem dX12_sayWets_6 : decode cX12_sayWets 6 = .ok (.ifCond .ne 16, 3) := dq_h (dq_t (dq_t (dq_t (dq_t dzX12_sayWets_0))))
theorem dX12_sayWets_9 : decode cX12_sayWets 9 = .ok (.aload_n 0, 1) := dq_h (dq_t (dq_t (dq_t (dq_t (dq_t dzX12_sayWets_0)))))
theorem dX12_sayWets_10 : decode cX12_sayWets 10 = .ok (.getfield 178, 3) := dq_h (dq_t (dq_t (dq_t (dq_t (dq_t (dq_t dzX12_sayWets_0))))))
theorem dX12_sayWets_13 : decode cX12_sayWets 13 = .ok (.iconst 2, 1) := dq_h (dq_t (dq_t (dq_t (dq_t (dq_t (dq_t (dq_t dzX12_sayWets_0)))))))
theorem dX12_sayWets_14 : decode cX12_sayWets 14 = .ok (.if_icmp .eq 8, 3) := dq_h (dq_t (dq_t (dq_t (dq_t (dq_t (dq_t (dq_t (dq_t dzX12_sayWets_0))))))))
theorem dX12_sayWets_17 : decode cX12_sayWets 17 = .ok (.aload_n 0, 1) := dq_h (dq_t (dq_t (dq_t (dq_t (dq_t (dq_t (dq_t (dq_t (dq_t dzX12_sayWets_0)))))))))
theorem dX12_sayWets_18 : decode cX12_sayWets 18 = .ok (.iconst 1, 1) := dq_h (dq_t (dq_t (dq_t (dq_t (dq_t (dq_t (dq_t (dq_t (dq_t (dq_t dzX12_sayWets_0))))))))))
theorem dX12_sayWets_19 : decode cX12_sayWets 19 = .ok (.invokevirtual 225, 3) := dq_h (dq_t (dq_t (dq_t (dq_t (dq_t (dq_t (dq_t (dq_t (dq_t (dq_t (dq_t dzX12_sayWets_0)))))))))))
theorem dX12_sayWets_22 : decode cX12_sayWets 22 = .ok (.aload_n 0, 1) := dq_h (dq_t (dq_t (dq_t (dq_t (dq_t (dq_t (dq_t (dq_t (dq_t (dq_t (dq_t (dq_t dzX12_sayWets_0))))))))))))
theorem dX12_sayWets_23 : decode cX12_sayWets 23 = .ok (.getfield 204, 3) := dq_h (dq_t (dq_t (dq_t (dq_t (dq_t (dq_t (dq_t (dq_t (dq_t (dq_t (dq_t (dq_t (dq_t dzX12_sayWets_0)))))))))))))
theorem dX12_sayWets_26 : decode cX12_sayWets 26 = .ok (.ifCond .ne 54, 3) := dq_h (dq_t (dq_t (dq_t (dq_t (dq_t (dq_t (dq_t (dq_t (dq_t (dq_t (dq_t (dq_t (dq_t (dq_t dzX12_sayWets_0))))))))))))))
theorem dX12_sayWets_29 : decode cX12_sayWets 29 = .ok (.aload_n 0, 1) := dq_h (dq_t (dq_t (dq_t (dq_t (dq_t (dq_t (dq_t (dq_t (dq_t (dq_t (dq_t (dq_t (dq_t (dq_t (dq_t dzX12_sayWets_0)))))))))))))))
theorem dX12_sayWets_30 : decode cX12_sayWets 30 = .ok (.getfield 178, 3) := dq_h (dq_t (dq_t (dq_t (dq_t (dq_t (dq_t (dq_t (dq_t (dq_t (dq_t (dq_t (dq_t (dq_t (dq_t (dq_t (dq_t dzX12_sayWets_0))))))))))))))))
theorem dX12_sayWets_33 : decode cX12_sayWets 33 = .ok (.iconst 2, 1) := dq_h (dq_t (dq_t (dq_t (dq_t (dq_t (dq_t (dq_t (dq_t (dq_t (dq_t (dq_t (dq_t (dq_t (dq_t (dq_t (dq_t (dq_t dzX12_sayWets_0)))))))))))))))))
theorem dX12_sayWets_34 : decode cX12_sayWets 34 = .ok (.if_icmp .ne 46, 3) := dq_h (dq_t (dq_t (dq_t (dq_t (dq_t (dq_t (dq_t (dq_t (dq_t (dq_t (dq_t (dq_t (dq_t (dq_t (dq_t (dq_t (dq_t (dq_t dzX12_sayWets_0))))))))))))))))))
theorem dX12_sayWets_37 : decode cX12_sayWets 37 = .ok (.iload_n 1, 1) := dq_h (dq_t (dq_t (dq_t (dq_t (dq_t (dq_t (dq_t (dq_t (dq_t (dq_t (dq_t (dq_t (dq_t (dq_t (dq_t (dq_t (dq_t (dq_t (dq_t dzX12_sayWets_0)))))))))))))))))))
theorem dX12_sayWets_38 : decode cX12_sayWets 38 = .ok (.bipush 8, 2) := dq_h (dq_t (dq_t (dq_t (dq_t (dq_t (dq_t (dq_t (dq_t (dq_t (dq_t (dq_t (dq_t (dq_t (dq_t (dq_t (dq_t (dq_t (dq_t (dq_t (dq_t dzX12_sayWets_0))))))))))))))))))))
theorem dX12_sayWets_40 : decode cX12_sayWets 40 = .ok (.if_icmp .ne 8, 3) := dq_h (dq_t (dq_t (dq_t (dq_t (dq_t (dq_t (dq_t (dq_t (dq_t (dq_t (dq_t (dq_t (dq_t (dq_t (dq_t (dq_t (dq_t (dq_t (dq_t (dq_t (dq_t dzX12_sayWets_0)))))))))))))))))))))
theorem dX12_sayWets_43 : decode cX12_sayWets 43 = .ok (.aload_n 0, 1) := dq_h (dq_t (dq_t (dq_t (dq_t (dq_t (dq_t (dq_t (dq_t (dq_t (dq_t (dq_t (dq_t (dq_t (dq_t (dq_t (dq_t (dq_t (dq_t (dq_t (dq_t (dq_t (dq_t dzX12_sayWets_0))))))))))))))))))))))
theorem dX12_sayWets_44 : decode cX12_sayWets 44 = .ok (.iconst 2, 1) := dq_h (dq_t (dq_t (dq_t (dq_t (dq_t (dq_t (dq_t (dq_t (dq_t (dq_t (dq_t (dq_t (dq_t (dq_t (dq_t (dq_t (dq_t (dq_t (dq_t (dq_t (dq_t (dq_t (dq_t dzX12_sayWets_0)))))))))))))))))))))))
theorem dzX12_sayWets_45 : dq_F cX12_sayWets [(45, .invokevirtual 225, 3), (48, .aload_n 0, 1)] := dq_s 2 45 (by decide +kernel)
theorem dX12_sayWets_45 : decode cX12_sayWets 45 = .ok (.invokevirtual 225, 3) := dq_h dzX12_sayWets_45
theorem dX12_sayWets_48 : decode cX12_sayWets 48 = .ok (.aload_n 0, 1) := dq_h (dq_t dzX12_sayWets_45)
end

theorem tin_1 {w : Cond} (h : w ∈ tables_1_1) : w ∈ tables_1 := (List.mem_append_left _ h)
theorem tin_2 {w : Cond} (h : w ∈ tables_1_2) : w ∈ tables_1 := (List.mem_append_right _ (List.mem_append_left _ h))
theorem tin_3 {w : Cond} (h : w ∈ tables_1_3) : w ∈ tables_1 := (List.mem_append_right _ (List.mem_append_right _ (List.mem_append_left _ h)))
theorem tin_4 {w : Cond} (h : w ∈ tables_1_4) : w ∈ tables_1 := (List.mem_append_right _ (List.mem_append_right _ (List.mem_append_right _ (List.mem_append_left _ h))))
theorem tin_5 {w : Cond} (h : w ∈ tables_1_5) : w ∈ tables_1 := (List.mem_append_right _ (List.mem_append_right _ (List.mem_append_right _ (List.mem_append_right _ (List.mem_append_left _ h)))))
theorem tin_6 {w : Cond} (h : w ∈ tables_1_6) : w ∈ tables_1 := (List.mem_append_right _ (List.mem_append_right _ (List.mem_append_right _ (List.mem_append_right _ (List.mem_append_right _ (List.mem_append_left _ h))))))
theorem tin_7 {w : Cond} (h : w ∈ tables_1_7) : w ∈ tables_1 := (List.mem_append_right _ (List.mem_append_right _ (List.mem_append_right _ (List.mem_append_right _ (List.mem_append_right _ (List.mem_append_right _ (List.mem_append_left _ h)))))))
theorem tin_8 {w : Cond} (h : w ∈ tables_1_8) : w ∈ tables_1 := (List.mem_append_right _ (List.mem_append_right _ (List.mem_append_right _ (List.mem_append_right _ (List.mem_append_right _ (List.mem_append_right _ (List.mem_append_right _ (List.mem_append_left _ h))))))))
theorem tin_9 {w : Cond} (h : w ∈ tables_1_9) : w ∈ tables_1 := (List.mem_append_right _ (List.mem_append_right _ (List.mem_append_right _ (List.mem_append_right _ (List.mem_append_right _ (List.mem_append_right _ (List.mem_append_right _ (List.mem_append_right _ (List.mem_append_left _ h)))))))))
theorem tin_10 {w : Cond} (h : w ∈ tables_1_10) : w ∈ tables_1 := (List.mem_append_right _ (List.mem_append_right _ (List.mem_append_right _ (List.mem_append_right _ (List.mem_append_right _ (List.mem_append_right _ (List.mem_append_right _ (List.mem_append_right _ (List.mem_append_right _ (List.mem_append_left _ h))))))))))
theorem tin_11 {w : Cond} (h : w ∈ tables_1_11) : w ∈ tables_1 := (List.mem_append_right _ (List.mem_append_right _ (List.mem_append_right _ (List.mem_append_right _ (List.mem_append_right _ (List.mem_append_right _ (List.mem_append_right _ (List.mem_append_right _ (List.mem_append_right _ (List.mem_append_right _ (List.mem_append_left _ h)))))))))))
theorem tin_12 {w : Cond} (h : w ∈ tables_1_12) : w ∈ tables_1 := (List.mem_append_right _ (List.mem_append_right _ (List.mem_append_right _ (List.mem_append_right _ (List.mem_append_right _ (List.mem_append_right _ (List.mem_append_right _ (List.mem_append_right _ (List.mem_append_right _ (List.mem_append_right _ (List.mem_append_right _ h)))))))))))
/-- a private method of a class that the tables say can be made, by its rows of tables_1 -/
def lw_okq (q : MethodName × Nat) : Prop := (q.1.cls ≠ "java/lang/invoke/MethodHandle" ∧ q.1.cls ≠ "java/lang/invoke/VarHandle") ∧ Cond.instantiable q.1.cls q.2 ∈ tables_1 ∧ Cond.privateMethod q.1 ∈ tables_1 ∧ Cond.instanceMethod q.1 ∈ tables_1
theorem lw_p0 : lw_okq (⟨"LinkedUnits", "takeBytes", "(I)V"⟩, 15) := ⟨⟨by decide, by decide⟩, tin_1 (List.mem_of_getElem? (i := 28) rfl), tin_4 (List.mem_of_getElem? (i := 67) rfl), tin_4 (List.mem_of_getElem? (i := 68) rfl)⟩
theorem lw_p1 : lw_okq (⟨"LinkedUnits$Code", "aim", "(II)V"⟩, 2) := ⟨⟨by decide, by decide⟩, tin_1 (List.mem_of_getElem? (i := 143) rfl), tin_6 (List.mem_of_getElem? (i := 10) rfl), tin_6 (List.mem_of_getElem? (i := 11) rfl)⟩
theorem lw_p2 : lw_okq (⟨"LinkedUnits$Code", "cut", "(I)V"⟩, 2) := ⟨⟨by decide, by decide⟩, tin_1 (List.mem_of_getElem? (i := 143) rfl), tin_6 (List.mem_of_getElem? (i := 38) rfl), tin_6 (List.mem_of_getElem? (i := 39) rfl)⟩
theorem lw_p3 : lw_okq (⟨"LinkedUnits$Code", "emit", "(IIII)I"⟩, 2) := ⟨⟨by decide, by decide⟩, tin_1 (List.mem_of_getElem? (i := 143) rfl), tin_5 (List.mem_of_getElem? (i := 112) rfl), tin_5 (List.mem_of_getElem? (i := 113) rfl)⟩
theorem lw_p4 : lw_okq (⟨"LinkedUnits$Code", "header", "()I"⟩, 2) := ⟨⟨by decide, by decide⟩, tin_1 (List.mem_of_getElem? (i := 143) rfl), tin_7 (List.mem_of_getElem? (i := 6) rfl), tin_7 (List.mem_of_getElem? (i := 7) rfl)⟩
theorem lw_p5 : lw_okq (⟨"LinkedUnits$Code", "settle", "(I[I)V"⟩, 2) := ⟨⟨by decide, by decide⟩, tin_1 (List.mem_of_getElem? (i := 143) rfl), tin_7 (List.mem_of_getElem? (i := 25) rfl), tin_7 (List.mem_of_getElem? (i := 26) rfl)⟩
theorem lw_p6 : lw_okq (⟨"LinkedUnits$Code", "thread", "(I)V"⟩, 2) := ⟨⟨by decide, by decide⟩, tin_1 (List.mem_of_getElem? (i := 143) rfl), tin_7 (List.mem_of_getElem? (i := 30) rfl), tin_7 (List.mem_of_getElem? (i := 31) rfl)⟩
theorem lw_p7 : lw_okq (⟨"LinkedUnits$Declarations", "begin", "()V"⟩, 18) := ⟨⟨by decide, by decide⟩, tin_3 (List.mem_of_getElem? (i := 4) rfl), tin_5 (List.mem_of_getElem? (i := 90) rfl), tin_5 (List.mem_of_getElem? (i := 91) rfl)⟩
theorem lw_p8 : lw_okq (⟨"LinkedUnits$Declarations", "checkOuter", "(IIZ)V"⟩, 18) := ⟨⟨by decide, by decide⟩, tin_3 (List.mem_of_getElem? (i := 4) rfl), tin_6 (List.mem_of_getElem? (i := 195) rfl), tin_6 (List.mem_of_getElem? (i := 196) rfl)⟩
theorem lw_p9 : lw_okq (⟨"LinkedUnits$Declarations", "checkSquare", "(Z)V"⟩, 18) := ⟨⟨by decide, by decide⟩, tin_3 (List.mem_of_getElem? (i := 4) rfl), tin_6 (List.mem_of_getElem? (i := 172) rfl), tin_6 (List.mem_of_getElem? (i := 173) rfl)⟩
theorem lw_p10 : lw_okq (⟨"LinkedUnits$Declarations", "fill", "(I)V"⟩, 18) := ⟨⟨by decide, by decide⟩, tin_3 (List.mem_of_getElem? (i := 4) rfl), tin_6 (List.mem_of_getElem? (i := 233) rfl), tin_6 (List.mem_of_getElem? (i := 234) rfl)⟩
theorem lw_p11 : lw_okq (⟨"LinkedUnits$Declarations", "function", "(III)V"⟩, 18) := ⟨⟨by decide, by decide⟩, tin_3 (List.mem_of_getElem? (i := 4) rfl), tin_7 (List.mem_of_getElem? (i := 2) rfl), tin_7 (List.mem_of_getElem? (i := 3) rfl)⟩
theorem lw_p12 : lw_okq (⟨"LinkedUnits$Declarations", "functionEnd", "()V"⟩, 18) := ⟨⟨by decide, by decide⟩, tin_3 (List.mem_of_getElem? (i := 4) rfl), tin_7 (List.mem_of_getElem? (i := 19) rfl), tin_7 (List.mem_of_getElem? (i := 20) rfl)⟩
theorem lw_p13 : lw_okq (⟨"LinkedUnits$Declarations", "initial", "(II)V"⟩, 18) := ⟨⟨by decide, by decide⟩, tin_3 (List.mem_of_getElem? (i := 4) rfl), tin_6 (List.mem_of_getElem? (i := 238) rfl), tin_6 (List.mem_of_getElem? (i := 239) rfl)⟩
theorem lw_p14 : lw_okq (⟨"LinkedUnits$Declarations", "item", "()V"⟩, 18) := ⟨⟨by decide, by decide⟩, tin_3 (List.mem_of_getElem? (i := 4) rfl), tin_6 (List.mem_of_getElem? (i := 212) rfl), tin_6 (List.mem_of_getElem? (i := 213) rfl)⟩
theorem lw_p15 : lw_okq (⟨"LinkedUnits$Declarations", "joins", "(II)Z"⟩, 18) := ⟨⟨by decide, by decide⟩, tin_3 (List.mem_of_getElem? (i := 4) rfl), tin_6 (List.mem_of_getElem? (i := 190) rfl), tin_6 (List.mem_of_getElem? (i := 191) rfl)⟩
theorem lw_p16 : lw_okq (⟨"LinkedUnits$Declarations", "local", "(IZ)V"⟩, 18) := ⟨⟨by decide, by decide⟩, tin_3 (List.mem_of_getElem? (i := 4) rfl), tin_6 (List.mem_of_getElem? (i := 162) rfl), tin_6 (List.mem_of_getElem? (i := 163) rfl)⟩
theorem lw_p17 : lw_okq (⟨"LinkedUnits$Declarations", "outer", "(IIZ)V"⟩, 18) := ⟨⟨by decide, by decide⟩, tin_3 (List.mem_of_getElem? (i := 4) rfl), tin_6 (List.mem_of_getElem? (i := 185) rfl), tin_6 (List.mem_of_getElem? (i := 186) rfl)⟩
theorem lw_p18 : lw_okq (⟨"LinkedUnits$Declarations", "parameter", "(II)V"⟩, 18) := ⟨⟨by decide, by decide⟩, tin_3 (List.mem_of_getElem? (i := 4) rfl), tin_7 (List.mem_of_getElem? (i := 15) rfl), tin_7 (List.mem_of_getElem? (i := 16) rfl)⟩
theorem lw_p19 : lw_okq (⟨"LinkedUnits$Declarations", "putInitial", "(ILLinkedUnits$Operand;)V"⟩, 18) := ⟨⟨by decide, by decide⟩, tin_3 (List.mem_of_getElem? (i := 4) rfl), tin_6 (List.mem_of_getElem? (i := 226) rfl), tin_6 (List.mem_of_getElem? (i := 227) rfl)⟩
theorem lw_p20 : lw_okq (⟨"LinkedUnits$Declarations", "storeLocal", "()V"⟩, 18) := ⟨⟨by decide, by decide⟩, tin_3 (List.mem_of_getElem? (i := 4) rfl), tin_6 (List.mem_of_getElem? (i := 181) rfl), tin_6 (List.mem_of_getElem? (i := 182) rfl)⟩
theorem lw_p21 : lw_okq (⟨"LinkedUnits$Declarations", "suits", "(LLinkedUnits$Operand;)Z"⟩, 18) := ⟨⟨by decide, by decide⟩, tin_3 (List.mem_of_getElem? (i := 4) rfl), tin_6 (List.mem_of_getElem? (i := 217) rfl), tin_6 (List.mem_of_getElem? (i := 218) rfl)⟩
theorem lw_p22 : lw_okq (⟨"LinkedUnits$Declarations", "take", "(II)V"⟩, 18) := ⟨⟨by decide, by decide⟩, tin_3 (List.mem_of_getElem? (i := 4) rfl), tin_6 (List.mem_of_getElem? (i := 153) rfl), tin_6 (List.mem_of_getElem? (i := 154) rfl)⟩
theorem lw_p23 : lw_okq (⟨"LinkedUnits$Declarations", "variable", "(III)V"⟩, 18) := ⟨⟨by decide, by decide⟩, tin_3 (List.mem_of_getElem? (i := 4) rfl), tin_6 (List.mem_of_getElem? (i := 158) rfl), tin_6 (List.mem_of_getElem? (i := 159) rfl)⟩
theorem lw_p24 : lw_okq (⟨"LinkedUnits$Expressions", "address", "(LLinkedUnits$Operand;)V"⟩, 8) := ⟨⟨by decide, by decide⟩, tin_2 (List.mem_of_getElem? (i := 146) rfl), tin_5 (List.mem_of_getElem? (i := 178) rfl), tin_5 (List.mem_of_getElem? (i := 179) rfl)⟩
theorem lw_p25 : lw_okq (⟨"LinkedUnits$Expressions", "argument", "()V"⟩, 8) := ⟨⟨by decide, by decide⟩, tin_2 (List.mem_of_getElem? (i := 146) rfl), tin_5 (List.mem_of_getElem? (i := 193) rfl), tin_5 (List.mem_of_getElem? (i := 194) rfl)⟩
theorem lw_p26 : lw_okq (⟨"LinkedUnits$Expressions", "assign", "(I)V"⟩, 8) := ⟨⟨by decide, by decide⟩, tin_2 (List.mem_of_getElem? (i := 146) rfl), tin_6 (List.mem_of_getElem? (i := 43) rfl), tin_6 (List.mem_of_getElem? (i := 44) rfl)⟩
theorem lw_p27 : lw_okq (⟨"LinkedUnits$Expressions", "binary", "(I)V"⟩, 8) := ⟨⟨by decide, by decide⟩, tin_2 (List.mem_of_getElem? (i := 146) rfl), tin_6 (List.mem_of_getElem? (i := 3) rfl), tin_6 (List.mem_of_getElem? (i := 4) rfl)⟩
theorem lw_p28 : lw_okq (⟨"LinkedUnits$Expressions", "call", "(I)V"⟩, 8) := ⟨⟨by decide, by decide⟩, tin_2 (List.mem_of_getElem? (i := 146) rfl), tin_5 (List.mem_of_getElem? (i := 219) rfl), tin_5 (List.mem_of_getElem? (i := 220) rfl)⟩
theorem lw_p29 : lw_okq (⟨"LinkedUnits$Expressions", "callee", "(I)V"⟩, 8) := ⟨⟨by decide, by decide⟩, tin_2 (List.mem_of_getElem? (i := 146) rfl), tin_5 (List.mem_of_getElem? (i := 183) rfl), tin_5 (List.mem_of_getElem? (i := 184) rfl)⟩
theorem lw_p30 : lw_okq (⟨"LinkedUnits$Expressions", "cast", "(II)V"⟩, 8) := ⟨⟨by decide, by decide⟩, tin_2 (List.mem_of_getElem? (i := 146) rfl), tin_6 (List.mem_of_getElem? (i := 70) rfl), tin_6 (List.mem_of_getElem? (i := 71) rfl)⟩
theorem lw_p31 : lw_okq (⟨"LinkedUnits$Expressions", "choice", "(I)V"⟩, 8) := ⟨⟨by decide, by decide⟩, tin_2 (List.mem_of_getElem? (i := 146) rfl), tin_6 (List.mem_of_getElem? (i := 82) rfl), tin_6 (List.mem_of_getElem? (i := 83) rfl)⟩
theorem lw_p32 : lw_okq (⟨"LinkedUnits$Expressions", "colon", "()V"⟩, 8) := ⟨⟨by decide, by decide⟩, tin_2 (List.mem_of_getElem? (i := 146) rfl), tin_6 (List.mem_of_getElem? (i := 78) rfl), tin_6 (List.mem_of_getElem? (i := 79) rfl)⟩
theorem lw_p33 : lw_okq (⟨"LinkedUnits$Expressions", "fetch", "(LLinkedUnits$Operand;I)V"⟩, 8) := ⟨⟨by decide, by decide⟩, tin_2 (List.mem_of_getElem? (i := 146) rfl), tin_5 (List.mem_of_getElem? (i := 239) rfl), tin_6 (List.mem_of_getElem? (i := 0) rfl)⟩
theorem lw_p34 : lw_okq (⟨"LinkedUnits$Expressions", "fold", "(LLinkedUnits$Operand;)V"⟩, 8) := ⟨⟨by decide, by decide⟩, tin_2 (List.mem_of_getElem? (i := 146) rfl), tin_6 (List.mem_of_getElem? (i := 34) rfl), tin_6 (List.mem_of_getElem? (i := 35) rfl)⟩
theorem lw_p35 : lw_okq (⟨"LinkedUnits$Expressions", "index", "(I)V"⟩, 8) := ⟨⟨by decide, by decide⟩, tin_2 (List.mem_of_getElem? (i := 146) rfl), tin_6 (List.mem_of_getElem? (i := 47) rfl), tin_6 (List.mem_of_getElem? (i := 48) rfl)⟩
theorem lw_p36 : lw_okq (⟨"LinkedUnits$Expressions", "invert", "(LLinkedUnits$Operand;II)V"⟩, 8) := ⟨⟨by decide, by decide⟩, tin_2 (List.mem_of_getElem? (i := 146) rfl), tin_6 (List.mem_of_getElem? (i := 63) rfl), tin_6 (List.mem_of_getElem? (i := 64) rfl)⟩
theorem lw_p37 : lw_okq (⟨"LinkedUnits$Expressions", "kindOf", "(I)I"⟩, 8) := ⟨⟨by decide, by decide⟩, tin_2 (List.mem_of_getElem? (i := 146) rfl), tin_5 (List.mem_of_getElem? (i := 235) rfl), tin_5 (List.mem_of_getElem? (i := 236) rfl)⟩
theorem lw_p38 : lw_okq (⟨"LinkedUnits$Expressions", "left", "(I)V"⟩, 8) := ⟨⟨by decide, by decide⟩, tin_2 (List.mem_of_getElem? (i := 146) rfl), tin_5 (List.mem_of_getElem? (i := 231) rfl), tin_5 (List.mem_of_getElem? (i := 232) rfl)⟩
theorem lw_p39 : lw_okq (⟨"LinkedUnits$Expressions", "lineOf", "(I)I"⟩, 8) := ⟨⟨by decide, by decide⟩, tin_2 (List.mem_of_getElem? (i := 146) rfl), tin_5 (List.mem_of_getElem? (i := 223) rfl), tin_5 (List.mem_of_getElem? (i := 224) rfl)⟩
theorem lw_p40 : lw_okq (⟨"LinkedUnits$Expressions", "loaded", "(LLinkedUnits$Operand;)LLinkedUnits$Operand;"⟩, 8) := ⟨⟨by decide, by decide⟩, tin_2 (List.mem_of_getElem? (i := 146) rfl), tin_5 (List.mem_of_getElem? (i := 205) rfl), tin_5 (List.mem_of_getElem? (i := 206) rfl)⟩
theorem lw_p41 : lw_okq (⟨"LinkedUnits$Expressions", "named", "(I)V"⟩, 8) := ⟨⟨by decide, by decide⟩, tin_2 (List.mem_of_getElem? (i := 146) rfl), tin_5 (List.mem_of_getElem? (i := 145) rfl), tin_5 (List.mem_of_getElem? (i := 146) rfl)⟩
theorem lw_p42 : lw_okq (⟨"LinkedUnits$Expressions", "number", "(I)V"⟩, 8) := ⟨⟨by decide, by decide⟩, tin_2 (List.mem_of_getElem? (i := 146) rfl), tin_5 (List.mem_of_getElem? (i := 100) rfl), tin_5 (List.mem_of_getElem? (i := 101) rfl)⟩
theorem lw_p43 : lw_okq (⟨"LinkedUnits$Expressions", "operate", "(IZI)V"⟩, 8) := ⟨⟨by decide, by decide⟩, tin_2 (List.mem_of_getElem? (i := 146) rfl), tin_6 (List.mem_of_getElem? (i := 16) rfl), tin_6 (List.mem_of_getElem? (i := 17) rfl)⟩
theorem lw_p44 : lw_okq (⟨"LinkedUnits$Expressions", "pointed", "(LLinkedUnits$Operand;I)V"⟩, 8) := ⟨⟨by decide, by decide⟩, tin_2 (List.mem_of_getElem? (i := 146) rfl), tin_6 (List.mem_of_getElem? (i := 51) rfl), tin_6 (List.mem_of_getElem? (i := 52) rfl)⟩
theorem lw_p45 : lw_okq (⟨"LinkedUnits$Expressions", "pop", "()LLinkedUnits$Operand;"⟩, 8) := ⟨⟨by decide, by decide⟩, tin_2 (List.mem_of_getElem? (i := 146) rfl), tin_5 (List.mem_of_getElem? (i := 197) rfl), tin_5 (List.mem_of_getElem? (i := 198) rfl)⟩
theorem lw_p46 : lw_okq (⟨"LinkedUnits$Expressions", "push", "()LLinkedUnits$Operand;"⟩, 8) := ⟨⟨by decide, by decide⟩, tin_2 (List.mem_of_getElem? (i := 146) rfl), tin_5 (List.mem_of_getElem? (i := 104) rfl), tin_5 (List.mem_of_getElem? (i := 105) rfl)⟩
theorem lw_p47 : lw_okq (⟨"LinkedUnits$Expressions", "raise", "(LLinkedUnits$Operand;II)V"⟩, 8) := ⟨⟨by decide, by decide⟩, tin_2 (List.mem_of_getElem? (i := 146) rfl), tin_5 (List.mem_of_getElem? (i := 227) rfl), tin_5 (List.mem_of_getElem? (i := 228) rfl)⟩
theorem lw_p48 : lw_okq (⟨"LinkedUnits$Expressions", "refuse", "(I)V"⟩, 8) := ⟨⟨by decide, by decide⟩, tin_2 (List.mem_of_getElem? (i := 146) rfl), tin_5 (List.mem_of_getElem? (i := 167) rfl), tin_5 (List.mem_of_getElem? (i := 168) rfl)⟩
theorem lw_p49 : lw_okq (⟨"LinkedUnits$Expressions", "step", "(LLinkedUnits$Operand;IZ)V"⟩, 8) := ⟨⟨by decide, by decide⟩, tin_2 (List.mem_of_getElem? (i := 146) rfl), tin_6 (List.mem_of_getElem? (i := 59) rfl), tin_6 (List.mem_of_getElem? (i := 60) rfl)⟩
theorem lw_p50 : lw_okq (⟨"LinkedUnits$Expressions", "string", "(I)V"⟩, 8) := ⟨⟨by decide, by decide⟩, tin_2 (List.mem_of_getElem? (i := 146) rfl), tin_5 (List.mem_of_getElem? (i := 118) rfl), tin_5 (List.mem_of_getElem? (i := 119) rfl)⟩
theorem lw_p51 : lw_okq (⟨"LinkedUnits$Expressions", "take", "(I)V"⟩, 8) := ⟨⟨by decide, by decide⟩, tin_2 (List.mem_of_getElem? (i := 146) rfl), tin_5 (List.mem_of_getElem? (i := 95) rfl), tin_5 (List.mem_of_getElem? (i := 96) rfl)⟩
theorem lw_p52 : lw_okq (⟨"LinkedUnits$Expressions", "top", "()LLinkedUnits$Operand;"⟩, 8) := ⟨⟨by decide, by decide⟩, tin_2 (List.mem_of_getElem? (i := 146) rfl), tin_5 (List.mem_of_getElem? (i := 201) rfl), tin_5 (List.mem_of_getElem? (i := 202) rfl)⟩
theorem lw_p53 : lw_okq (⟨"LinkedUnits$Expressions", "unary", "(I)V"⟩, 8) := ⟨⟨by decide, by decide⟩, tin_2 (List.mem_of_getElem? (i := 146) rfl), tin_6 (List.mem_of_getElem? (i := 55) rfl), tin_6 (List.mem_of_getElem? (i := 56) rfl)⟩
theorem lw_p54 : lw_okq (⟨"LinkedUnits$Expressions", "unless", "(LLinkedUnits$Operand;I)I"⟩, 8) := ⟨⟨by decide, by decide⟩, tin_2 (List.mem_of_getElem? (i := 146) rfl), tin_6 (List.mem_of_getElem? (i := 74) rfl), tin_6 (List.mem_of_getElem? (i := 75) rfl)⟩
theorem lw_p55 : lw_okq (⟨"LinkedUnits$Grammar", "accept", "(I)Z"⟩, 12) := ⟨⟨by decide, by decide⟩, tin_1 (List.mem_of_getElem? (i := 89) rfl), tin_5 (List.mem_of_getElem? (i := 7) rfl), tin_5 (List.mem_of_getElem? (i := 8) rfl)⟩
theorem lw_p56 : lw_okq (⟨"LinkedUnits$Grammar", "add", "(IIII)I"⟩, 12) := ⟨⟨by decide, by decide⟩, tin_1 (List.mem_of_getElem? (i := 89) rfl), tin_4 (List.mem_of_getElem? (i := 204) rfl), tin_4 (List.mem_of_getElem? (i := 205) rfl)⟩
theorem lw_p57 : lw_okq (⟨"LinkedUnits$Grammar", "advance", "()V"⟩, 12) := ⟨⟨by decide, by decide⟩, tin_1 (List.mem_of_getElem? (i := 89) rfl), tin_4 (List.mem_of_getElem? (i := 180) rfl), tin_4 (List.mem_of_getElem? (i := 181) rfl)⟩
theorem lw_p58 : lw_okq (⟨"LinkedUnits$Grammar", "behind", "(I)V"⟩, 12) := ⟨⟨by decide, by decide⟩, tin_1 (List.mem_of_getElem? (i := 89) rfl), tin_4 (List.mem_of_getElem? (i := 235) rfl), tin_4 (List.mem_of_getElem? (i := 236) rfl)⟩
theorem lw_p59 : lw_okq (⟨"LinkedUnits$Grammar", "binary", "(I)V"⟩, 12) := ⟨⟨by decide, by decide⟩, tin_1 (List.mem_of_getElem? (i := 89) rfl), tin_4 (List.mem_of_getElem? (i := 216) rfl), tin_4 (List.mem_of_getElem? (i := 217) rfl)⟩
theorem lw_p60 : lw_okq (⟨"LinkedUnits$Grammar", "body", "(I)V"⟩, 12) := ⟨⟨by decide, by decide⟩, tin_1 (List.mem_of_getElem? (i := 89) rfl), tin_5 (List.mem_of_getElem? (i := 61) rfl), tin_5 (List.mem_of_getElem? (i := 62) rfl)⟩
theorem lw_p61 : lw_okq (⟨"LinkedUnits$Grammar", "bracket", "()I"⟩, 12) := ⟨⟨by decide, by decide⟩, tin_1 (List.mem_of_getElem? (i := 89) rfl), tin_4 (List.mem_of_getElem? (i := 200) rfl), tin_4 (List.mem_of_getElem? (i := 201) rfl)⟩
theorem lw_p62 : lw_okq (⟨"LinkedUnits$Grammar", "call", "(II)V"⟩, 12) := ⟨⟨by decide, by decide⟩, tin_1 (List.mem_of_getElem? (i := 89) rfl), tin_5 (List.mem_of_getElem? (i := 3) rfl), tin_5 (List.mem_of_getElem? (i := 4) rfl)⟩
theorem lw_p63 : lw_okq (⟨"LinkedUnits$Grammar", "cast", "(I)V"⟩, 12) := ⟨⟨by decide, by decide⟩, tin_1 (List.mem_of_getElem? (i := 89) rfl), tin_4 (List.mem_of_getElem? (i := 231) rfl), tin_4 (List.mem_of_getElem? (i := 232) rfl)⟩
theorem lw_p64 : lw_okq (⟨"LinkedUnits$Grammar", "choice", "(I)V"⟩, 12) := ⟨⟨by decide, by decide⟩, tin_1 (List.mem_of_getElem? (i := 89) rfl), tin_4 (List.mem_of_getElem? (i := 212) rfl), tin_4 (List.mem_of_getElem? (i := 213) rfl)⟩
theorem lw_p65 : lw_okq (⟨"LinkedUnits$Grammar", "condition", "(II)V"⟩, 12) := ⟨⟨by decide, by decide⟩, tin_1 (List.mem_of_getElem? (i := 89) rfl), tin_5 (List.mem_of_getElem? (i := 57) rfl), tin_5 (List.mem_of_getElem? (i := 58) rfl)⟩
theorem lw_p66 : lw_okq (⟨"LinkedUnits$Grammar", "conditional", "(I)V"⟩, 12) := ⟨⟨by decide, by decide⟩, tin_1 (List.mem_of_getElem? (i := 89) rfl), tin_5 (List.mem_of_getElem? (i := 53) rfl), tin_5 (List.mem_of_getElem? (i := 54) rfl)⟩
theorem lw_p67 : lw_okq (⟨"LinkedUnits$Grammar", "counted", "(I)V"⟩, 12) := ⟨⟨by decide, by decide⟩, tin_1 (List.mem_of_getElem? (i := 89) rfl), tin_5 (List.mem_of_getElem? (i := 69) rfl), tin_5 (List.mem_of_getElem? (i := 70) rfl)⟩
theorem lw_p68 : lw_okq (⟨"LinkedUnits$Grammar", "deeper", "(I)Z"⟩, 12) := ⟨⟨by decide, by decide⟩, tin_1 (List.mem_of_getElem? (i := 89) rfl), tin_4 (List.mem_of_getElem? (i := 224) rfl), tin_4 (List.mem_of_getElem? (i := 225) rfl)⟩
theorem lw_p69 : lw_okq (⟨"LinkedUnits$Grammar", "expect", "(I)V"⟩, 12) := ⟨⟨by decide, by decide⟩, tin_1 (List.mem_of_getElem? (i := 89) rfl), tin_4 (List.mem_of_getElem? (i := 184) rfl), tin_4 (List.mem_of_getElem? (i := 185) rfl)⟩
theorem lw_p70 : lw_okq (⟨"LinkedUnits$Grammar", "expression", "(I)V"⟩, 12) := ⟨⟨by decide, by decide⟩, tin_1 (List.mem_of_getElem? (i := 89) rfl), tin_4 (List.mem_of_getElem? (i := 208) rfl), tin_4 (List.mem_of_getElem? (i := 209) rfl)⟩
theorem lw_p71 : lw_okq (⟨"LinkedUnits$Grammar", "fail", "()V"⟩, 12) := ⟨⟨by decide, by decide⟩, tin_1 (List.mem_of_getElem? (i := 89) rfl), tin_4 (List.mem_of_getElem? (i := 188) rfl), tin_4 (List.mem_of_getElem? (i := 189) rfl)⟩
theorem lw_p72 : lw_okq (⟨"LinkedUnits$Grammar", "head", "(III)Z"⟩, 12) := ⟨⟨by decide, by decide⟩, tin_1 (List.mem_of_getElem? (i := 89) rfl), tin_5 (List.mem_of_getElem? (i := 27) rfl), tin_5 (List.mem_of_getElem? (i := 28) rfl)⟩
theorem lw_p73 : lw_okq (⟨"LinkedUnits$Grammar", "initial", "(II)V"⟩, 12) := ⟨⟨by decide, by decide⟩, tin_1 (List.mem_of_getElem? (i := 89) rfl), tin_5 (List.mem_of_getElem? (i := 23) rfl), tin_5 (List.mem_of_getElem? (i := 24) rfl)⟩
theorem lw_p74 : lw_okq (⟨"LinkedUnits$Grammar", "loop", "(I)V"⟩, 12) := ⟨⟨by decide, by decide⟩, tin_1 (List.mem_of_getElem? (i := 89) rfl), tin_5 (List.mem_of_getElem? (i := 65) rfl), tin_5 (List.mem_of_getElem? (i := 66) rfl)⟩
theorem lw_p75 : lw_okq (⟨"LinkedUnits$Grammar", "parameters", "()I"⟩, 12) := ⟨⟨by decide, by decide⟩, tin_1 (List.mem_of_getElem? (i := 89) rfl), tin_5 (List.mem_of_getElem? (i := 31) rfl), tin_5 (List.mem_of_getElem? (i := 32) rfl)⟩
theorem lw_p76 : lw_okq (⟨"LinkedUnits$Grammar", "primary", "(I)V"⟩, 12) := ⟨⟨by decide, by decide⟩, tin_1 (List.mem_of_getElem? (i := 89) rfl), tin_4 (List.mem_of_getElem? (i := 239) rfl), tin_5 (List.mem_of_getElem? (i := 0) rfl)⟩
theorem lw_p77 : lw_okq (⟨"LinkedUnits$Grammar", "read", "()Z"⟩, 12) := ⟨⟨by decide, by decide⟩, tin_1 (List.mem_of_getElem? (i := 89) rfl), tin_4 (List.mem_of_getElem? (i := 176) rfl), tin_4 (List.mem_of_getElem? (i := 177) rfl)⟩
theorem lw_p78 : lw_okq (⟨"LinkedUnits$Grammar", "settle", "(II)V"⟩, 12) := ⟨⟨by decide, by decide⟩, tin_1 (List.mem_of_getElem? (i := 89) rfl), tin_5 (List.mem_of_getElem? (i := 16) rfl), tin_5 (List.mem_of_getElem? (i := 17) rfl)⟩
theorem lw_p79 : lw_okq (⟨"LinkedUnits$Grammar", "simple", "()V"⟩, 12) := ⟨⟨by decide, by decide⟩, tin_1 (List.mem_of_getElem? (i := 89) rfl), tin_5 (List.mem_of_getElem? (i := 73) rfl), tin_5 (List.mem_of_getElem? (i := 74) rfl)⟩
theorem lw_p80 : lw_okq (⟨"LinkedUnits$Grammar", "stars", "()I"⟩, 12) := ⟨⟨by decide, by decide⟩, tin_1 (List.mem_of_getElem? (i := 89) rfl), tin_4 (List.mem_of_getElem? (i := 192) rfl), tin_4 (List.mem_of_getElem? (i := 193) rfl)⟩
theorem lw_p81 : lw_okq (⟨"LinkedUnits$Grammar", "statement", "(I)V"⟩, 12) := ⟨⟨by decide, by decide⟩, tin_1 (List.mem_of_getElem? (i := 89) rfl), tin_5 (List.mem_of_getElem? (i := 49) rfl), tin_5 (List.mem_of_getElem? (i := 50) rfl)⟩
theorem lw_p82 : lw_okq (⟨"LinkedUnits$Grammar", "statements", "(I)V"⟩, 12) := ⟨⟨by decide, by decide⟩, tin_1 (List.mem_of_getElem? (i := 89) rfl), tin_5 (List.mem_of_getElem? (i := 45) rfl), tin_5 (List.mem_of_getElem? (i := 46) rfl)⟩
theorem lw_p83 : lw_okq (⟨"LinkedUnits$Grammar", "unary", "(I)V"⟩, 12) := ⟨⟨by decide, by decide⟩, tin_1 (List.mem_of_getElem? (i := 89) rfl), tin_4 (List.mem_of_getElem? (i := 220) rfl), tin_4 (List.mem_of_getElem? (i := 221) rfl)⟩
theorem lw_p84 : lw_okq (⟨"LinkedUnits$Grammar", "variables", "(III)V"⟩, 12) := ⟨⟨by decide, by decide⟩, tin_1 (List.mem_of_getElem? (i := 89) rfl), tin_4 (List.mem_of_getElem? (i := 196) rfl), tin_4 (List.mem_of_getElem? (i := 197) rfl)⟩
theorem lw_p85 : lw_okq (⟨"LinkedUnits$Image", "agrees", "(II)Z"⟩, 12) := ⟨⟨by decide, by decide⟩, tin_3 (List.mem_of_getElem? (i := 111) rfl), tin_7 (List.mem_of_getElem? (i := 146) rfl), tin_7 (List.mem_of_getElem? (i := 147) rfl)⟩
theorem lw_p86 : lw_okq (⟨"LinkedUnits$Image", "cellOf", "([BI)I"⟩, 12) := ⟨⟨by decide, by decide⟩, tin_3 (List.mem_of_getElem? (i := 111) rfl), tin_7 (List.mem_of_getElem? (i := 174) rfl), tin_7 (List.mem_of_getElem? (i := 175) rfl)⟩
theorem lw_p87 : lw_okq (⟨"LinkedUnits$Image", "choose", "(I)I"⟩, 12) := ⟨⟨by decide, by decide⟩, tin_3 (List.mem_of_getElem? (i := 111) rfl), tin_7 (List.mem_of_getElem? (i := 109) rfl), tin_7 (List.mem_of_getElem? (i := 110) rfl)⟩
theorem lw_p88 : lw_okq (⟨"LinkedUnits$Image", "dataCells", "()I"⟩, 12) := ⟨⟨by decide, by decide⟩, tin_3 (List.mem_of_getElem? (i := 111) rfl), tin_7 (List.mem_of_getElem? (i := 154) rfl), tin_7 (List.mem_of_getElem? (i := 155) rfl)⟩
theorem lw_p89 : lw_okq (⟨"LinkedUnits$Image", "definition", "(II)I"⟩, 12) := ⟨⟨by decide, by decide⟩, tin_3 (List.mem_of_getElem? (i := 111) rfl), tin_7 (List.mem_of_getElem? (i := 141) rfl), tin_7 (List.mem_of_getElem? (i := 142) rfl)⟩
theorem lw_p90 : lw_okq (⟨"LinkedUnits$Image", "fill", "([I)V"⟩, 12) := ⟨⟨by decide, by decide⟩, tin_3 (List.mem_of_getElem? (i := 111) rfl), tin_7 (List.mem_of_getElem? (i := 201) rfl), tin_7 (List.mem_of_getElem? (i := 202) rfl)⟩
theorem lw_p91 : lw_okq (⟨"LinkedUnits$Image", "find", "([II[BII)I"⟩, 12) := ⟨⟨by decide, by decide⟩, tin_3 (List.mem_of_getElem? (i := 111) rfl), tin_7 (List.mem_of_getElem? (i := 123) rfl), tin_7 (List.mem_of_getElem? (i := 124) rfl)⟩
theorem lw_p92 : lw_okq (⟨"LinkedUnits$Image", "isMain", "(I)Z"⟩, 12) := ⟨⟨by decide, by decide⟩, tin_3 (List.mem_of_getElem? (i := 111) rfl), tin_7 (List.mem_of_getElem? (i := 150) rfl), tin_7 (List.mem_of_getElem? (i := 151) rfl)⟩
theorem lw_p93 : lw_okq (⟨"LinkedUnits$Image", "isWrong", "(III)Z"⟩, 12) := ⟨⟨by decide, by decide⟩, tin_3 (List.mem_of_getElem? (i := 111) rfl), tin_7 (List.mem_of_getElem? (i := 137) rfl), tin_7 (List.mem_of_getElem? (i := 138) rfl)⟩
theorem lw_p94 : lw_okq (⟨"LinkedUnits$Image", "join", "()I"⟩, 12) := ⟨⟨by decide, by decide⟩, tin_3 (List.mem_of_getElem? (i := 111) rfl), tin_7 (List.mem_of_getElem? (i := 119) rfl), tin_7 (List.mem_of_getElem? (i := 120) rfl)⟩
theorem lw_p95 : lw_okq (⟨"LinkedUnits$Image", "look", "(I)I"⟩, 12) := ⟨⟨by decide, by decide⟩, tin_3 (List.mem_of_getElem? (i := 111) rfl), tin_7 (List.mem_of_getElem? (i := 133) rfl), tin_7 (List.mem_of_getElem? (i := 134) rfl)⟩
theorem lw_p96 : lw_okq (⟨"LinkedUnits$Image", "refer", "(I)V"⟩, 12) := ⟨⟨by decide, by decide⟩, tin_3 (List.mem_of_getElem? (i := 111) rfl), tin_7 (List.mem_of_getElem? (i := 162) rfl), tin_7 (List.mem_of_getElem? (i := 163) rfl)⟩
theorem lw_p97 : lw_okq (⟨"LinkedUnits$Image", "settle", "()V"⟩, 12) := ⟨⟨by decide, by decide⟩, tin_3 (List.mem_of_getElem? (i := 111) rfl), tin_7 (List.mem_of_getElem? (i := 158) rfl), tin_7 (List.mem_of_getElem? (i := 159) rfl)⟩
theorem lw_p98 : lw_okq (⟨"LinkedUnits$Machine", "begin", "(I)V"⟩, 19) := ⟨⟨by decide, by decide⟩, tin_3 (List.mem_of_getElem? (i := 184) rfl), tin_7 (List.mem_of_getElem? (i := 194) rfl), tin_7 (List.mem_of_getElem? (i := 195) rfl)⟩
theorem lw_p99 : lw_okq (⟨"LinkedUnits$Machine", "calculate", "(II)V"⟩, 19) := ⟨⟨by decide, by decide⟩, tin_3 (List.mem_of_getElem? (i := 184) rfl), tin_7 (List.mem_of_getElem? (i := 238) rfl), tin_7 (List.mem_of_getElem? (i := 239) rfl)⟩
theorem lw_p100 : lw_okq (⟨"LinkedUnits$Machine", "call", "(II)V"⟩, 19) := ⟨⟨by decide, by decide⟩, tin_3 (List.mem_of_getElem? (i := 184) rfl), tin_8 (List.mem_of_getElem? (i := 19) rfl), tin_8 (List.mem_of_getElem? (i := 20) rfl)⟩
theorem lw_p101 : lw_okq (⟨"LinkedUnits$Machine", "copyParameters", "(II)V"⟩, 19) := ⟨⟨by decide, by decide⟩, tin_3 (List.mem_of_getElem? (i := 184) rfl), tin_7 (List.mem_of_getElem? (i := 223) rfl), tin_7 (List.mem_of_getElem? (i := 224) rfl)⟩
theorem lw_p102 : lw_okq (⟨"LinkedUnits$Machine", "decide", "(ZI)V"⟩, 19) := ⟨⟨by decide, by decide⟩, tin_3 (List.mem_of_getElem? (i := 184) rfl), tin_8 (List.mem_of_getElem? (i := 15) rfl), tin_8 (List.mem_of_getElem? (i := 16) rfl)⟩
theorem lw_p103 : lw_okq (⟨"LinkedUnits$Machine", "enter", "(II)V"⟩, 19) := ⟨⟨by decide, by decide⟩, tin_3 (List.mem_of_getElem? (i := 184) rfl), tin_7 (List.mem_of_getElem? (i := 209) rfl), tin_7 (List.mem_of_getElem? (i := 210) rfl)⟩
theorem lw_p104 : lw_okq (⟨"LinkedUnits$Machine", "execute", "(I)I"⟩, 19) := ⟨⟨by decide, by decide⟩, tin_3 (List.mem_of_getElem? (i := 184) rfl), tin_7 (List.mem_of_getElem? (i := 190) rfl), tin_7 (List.mem_of_getElem? (i := 191) rfl)⟩
theorem lw_p105 : lw_okq (⟨"LinkedUnits$Machine", "fail", "(II)V"⟩, 19) := ⟨⟨by decide, by decide⟩, tin_3 (List.mem_of_getElem? (i := 184) rfl), tin_7 (List.mem_of_getElem? (i := 217) rfl), tin_7 (List.mem_of_getElem? (i := 218) rfl)⟩
theorem lw_p106 : lw_okq (⟨"LinkedUnits$Machine", "giveBack", "()V"⟩, 19) := ⟨⟨by decide, by decide⟩, tin_3 (List.mem_of_getElem? (i := 184) rfl), tin_8 (List.mem_of_getElem? (i := 45) rfl), tin_8 (List.mem_of_getElem? (i := 46) rfl)⟩
theorem lw_p107 : lw_okq (⟨"LinkedUnits$Machine", "inFrame", "(II)V"⟩, 19) := ⟨⟨by decide, by decide⟩, tin_3 (List.mem_of_getElem? (i := 184) rfl), tin_8 (List.mem_of_getElem? (i := 61) rfl), tin_8 (List.mem_of_getElem? (i := 62) rfl)⟩
theorem lw_p108 : lw_okq (⟨"LinkedUnits$Machine", "lead", "(II)V"⟩, 19) := ⟨⟨by decide, by decide⟩, tin_3 (List.mem_of_getElem? (i := 184) rfl), tin_8 (List.mem_of_getElem? (i := 11) rfl), tin_8 (List.mem_of_getElem? (i := 12) rfl)⟩
theorem lw_p109 : lw_okq (⟨"LinkedUnits$Machine", "peeked", "()I"⟩, 19) := ⟨⟨by decide, by decide⟩, tin_3 (List.mem_of_getElem? (i := 184) rfl), tin_8 (List.mem_of_getElem? (i := 65) rfl), tin_8 (List.mem_of_getElem? (i := 66) rfl)⟩
theorem lw_p110 : lw_okq (⟨"LinkedUnits$Machine", "plain", "(II)V"⟩, 19) := ⟨⟨by decide, by decide⟩, tin_3 (List.mem_of_getElem? (i := 184) rfl), tin_8 (List.mem_of_getElem? (i := 69) rfl), tin_8 (List.mem_of_getElem? (i := 70) rfl)⟩
theorem lw_p111 : lw_okq (⟨"LinkedUnits$Machine", "pop", "()I"⟩, 19) := ⟨⟨by decide, by decide⟩, tin_3 (List.mem_of_getElem? (i := 184) rfl), tin_8 (List.mem_of_getElem? (i := 2) rfl), tin_8 (List.mem_of_getElem? (i := 3) rfl)⟩
theorem lw_p112 : lw_okq (⟨"LinkedUnits$Machine", "push", "(I)V"⟩, 19) := ⟨⟨by decide, by decide⟩, tin_3 (List.mem_of_getElem? (i := 184) rfl), tin_8 (List.mem_of_getElem? (i := 7) rfl), tin_8 (List.mem_of_getElem? (i := 8) rfl)⟩
theorem lw_p113 : lw_okq (⟨"LinkedUnits$Machine", "reach", "(II)V"⟩, 19) := ⟨⟨by decide, by decide⟩, tin_3 (List.mem_of_getElem? (i := 184) rfl), tin_8 (List.mem_of_getElem? (i := 50) rfl), tin_8 (List.mem_of_getElem? (i := 51) rfl)⟩
theorem lw_p114 : lw_okq (⟨"LinkedUnits$Machine", "step", "()V"⟩, 19) := ⟨⟨by decide, by decide⟩, tin_3 (List.mem_of_getElem? (i := 184) rfl), tin_7 (List.mem_of_getElem? (i := 229) rfl), tin_7 (List.mem_of_getElem? (i := 230) rfl)⟩
theorem lw_p115 : lw_okq (⟨"LinkedUnits$Machine", "stepped", "([III)V"⟩, 19) := ⟨⟨by decide, by decide⟩, tin_3 (List.mem_of_getElem? (i := 184) rfl), tin_8 (List.mem_of_getElem? (i := 57) rfl), tin_8 (List.mem_of_getElem? (i := 58) rfl)⟩
theorem lw_p116 : lw_okq (⟨"LinkedUnits$Machine", "stray", "()V"⟩, 19) := ⟨⟨by decide, by decide⟩, tin_3 (List.mem_of_getElem? (i := 184) rfl), tin_7 (List.mem_of_getElem? (i := 234) rfl), tin_7 (List.mem_of_getElem? (i := 235) rfl)⟩
theorem lw_p117 : lw_okq (⟨"LinkedUnits$Machine", "turn", "(I)Z"⟩, 19) := ⟨⟨by decide, by decide⟩, tin_3 (List.mem_of_getElem? (i := 184) rfl), tin_7 (List.mem_of_getElem? (i := 213) rfl), tin_7 (List.mem_of_getElem? (i := 214) rfl)⟩
theorem lw_p118 : lw_okq (⟨"LinkedUnits$Machine", "useLibrary", "(II)V"⟩, 19) := ⟨⟨by decide, by decide⟩, tin_3 (List.mem_of_getElem? (i := 184) rfl), tin_8 (List.mem_of_getElem? (i := 23) rfl), tin_8 (List.mem_of_getElem? (i := 24) rfl)⟩
theorem lw_p119 : lw_okq (⟨"LinkedUnits$Operand", "become", "(II)V"⟩, 13) := ⟨⟨by decide, by decide⟩, tin_2 (List.mem_of_getElem? (i := 153) rfl), tin_5 (List.mem_of_getElem? (i := 141) rfl), tin_5 (List.mem_of_getElem? (i := 142) rfl)⟩
theorem lw_p120 : lw_okq (⟨"LinkedUnits$Operand", "fits", "(I)Z"⟩, 13) := ⟨⟨by decide, by decide⟩, tin_2 (List.mem_of_getElem? (i := 153) rfl), tin_5 (List.mem_of_getElem? (i := 215) rfl), tin_5 (List.mem_of_getElem? (i := 216) rfl)⟩
theorem lw_p121 : lw_okq (⟨"LinkedUnits$Operand", "isConstant", "()Z"⟩, 13) := ⟨⟨by decide, by decide⟩, tin_2 (List.mem_of_getElem? (i := 153) rfl), tin_6 (List.mem_of_getElem? (i := 23) rfl), tin_6 (List.mem_of_getElem? (i := 24) rfl)⟩
theorem lw_p122 : lw_okq (⟨"LinkedUnits$Operand", "isInitial", "()Z"⟩, 13) := ⟨⟨by decide, by decide⟩, tin_2 (List.mem_of_getElem? (i := 153) rfl), tin_6 (List.mem_of_getElem? (i := 222) rfl), tin_6 (List.mem_of_getElem? (i := 223) rfl)⟩
theorem lw_p123 : lw_okq (⟨"LinkedUnits$Operand", "isPlace", "()Z"⟩, 13) := ⟨⟨by decide, by decide⟩, tin_2 (List.mem_of_getElem? (i := 153) rfl), tin_5 (List.mem_of_getElem? (i := 209) rfl), tin_5 (List.mem_of_getElem? (i := 210) rfl)⟩
theorem lw_p124 : lw_okq (⟨"LinkedUnits$Operand", "reset", "(I)V"⟩, 13) := ⟨⟨by decide, by decide⟩, tin_2 (List.mem_of_getElem? (i := 153) rfl), tin_5 (List.mem_of_getElem? (i := 108) rfl), tin_5 (List.mem_of_getElem? (i := 109) rfl)⟩
theorem lw_p125 : lw_okq (⟨"LinkedUnits$Statements", "begin", "(Z)V"⟩, 12) := ⟨⟨by decide, by decide⟩, tin_3 (List.mem_of_getElem? (i := 68) rfl), tin_6 (List.mem_of_getElem? (i := 109) rfl), tin_6 (List.mem_of_getElem? (i := 110) rfl)⟩
theorem lw_p126 : lw_okq (⟨"LinkedUnits$Statements", "condition", "(I)LLinkedUnits$Operand;"⟩, 12) := ⟨⟨by decide, by decide⟩, tin_3 (List.mem_of_getElem? (i := 68) rfl), tin_6 (List.mem_of_getElem? (i := 104) rfl), tin_6 (List.mem_of_getElem? (i := 105) rfl)⟩
theorem lw_p127 : lw_okq (⟨"LinkedUnits$Statements", "conditional", "(II)V"⟩, 12) := ⟨⟨by decide, by decide⟩, tin_3 (List.mem_of_getElem? (i := 68) rfl), tin_6 (List.mem_of_getElem? (i := 100) rfl), tin_6 (List.mem_of_getElem? (i := 101) rfl)⟩
theorem lw_p128 : lw_okq (⟨"LinkedUnits$Statements", "constant", "(II)I"⟩, 12) := ⟨⟨by decide, by decide⟩, tin_3 (List.mem_of_getElem? (i := 68) rfl), tin_7 (List.mem_of_getElem? (i := 35) rfl), tin_7 (List.mem_of_getElem? (i := 36) rfl)⟩
theorem lw_p129 : lw_okq (⟨"LinkedUnits$Statements", "doLoop", "(II)V"⟩, 12) := ⟨⟨by decide, by decide⟩, tin_3 (List.mem_of_getElem? (i := 68) rfl), tin_6 (List.mem_of_getElem? (i := 145) rfl), tin_6 (List.mem_of_getElem? (i := 146) rfl)⟩
theorem lw_p130 : lw_okq (⟨"LinkedUnits$Statements", "exitUnless", "(LLinkedUnits$Operand;)V"⟩, 12) := ⟨⟨by decide, by decide⟩, tin_3 (List.mem_of_getElem? (i := 68) rfl), tin_6 (List.mem_of_getElem? (i := 114) rfl), tin_6 (List.mem_of_getElem? (i := 115) rfl)⟩
theorem lw_p131 : lw_okq (⟨"LinkedUnits$Statements", "finish", "()V"⟩, 12) := ⟨⟨by decide, by decide⟩, tin_3 (List.mem_of_getElem? (i := 68) rfl), tin_6 (List.mem_of_getElem? (i := 120) rfl), tin_6 (List.mem_of_getElem? (i := 121) rfl)⟩
theorem lw_p132 : lw_okq (⟨"LinkedUnits$Statements", "forLoop", "(IIZ)V"⟩, 12) := ⟨⟨by decide, by decide⟩, tin_3 (List.mem_of_getElem? (i := 68) rfl), tin_6 (List.mem_of_getElem? (i := 149) rfl), tin_6 (List.mem_of_getElem? (i := 150) rfl)⟩
theorem lw_p133 : lw_okq (⟨"LinkedUnits$Statements", "giveBack", "(IZ)V"⟩, 12) := ⟨⟨by decide, by decide⟩, tin_3 (List.mem_of_getElem? (i := 68) rfl), tin_6 (List.mem_of_getElem? (i := 128) rfl), tin_6 (List.mem_of_getElem? (i := 129) rfl)⟩
theorem lw_p134 : lw_okq (⟨"LinkedUnits$Statements", "jumpBack", "(I)V"⟩, 12) := ⟨⟨by decide, by decide⟩, tin_3 (List.mem_of_getElem? (i := 68) rfl), tin_6 (List.mem_of_getElem? (i := 141) rfl), tin_6 (List.mem_of_getElem? (i := 142) rfl)⟩
theorem lw_p135 : lw_okq (⟨"LinkedUnits$Statements", "leave", "(I[I)V"⟩, 12) := ⟨⟨by decide, by decide⟩, tin_3 (List.mem_of_getElem? (i := 68) rfl), tin_6 (List.mem_of_getElem? (i := 124) rfl), tin_6 (List.mem_of_getElem? (i := 125) rfl)⟩
theorem lw_p136 : lw_okq (⟨"LinkedUnits$Statements", "take", "(II)V"⟩, 12) := ⟨⟨by decide, by decide⟩, tin_3 (List.mem_of_getElem? (i := 68) rfl), tin_6 (List.mem_of_getElem? (i := 86) rfl), tin_6 (List.mem_of_getElem? (i := 87) rfl)⟩
theorem lw_p137 : lw_okq (⟨"LinkedUnits$Statements", "turn", "(I)V"⟩, 12) := ⟨⟨by decide, by decide⟩, tin_3 (List.mem_of_getElem? (i := 68) rfl), tin_6 (List.mem_of_getElem? (i := 137) rfl), tin_6 (List.mem_of_getElem? (i := 138) rfl)⟩
theorem lw_p138 : lw_okq (⟨"LinkedUnits$Statements", "walk", "(I)V"⟩, 12) := ⟨⟨by decide, by decide⟩, tin_3 (List.mem_of_getElem? (i := 68) rfl), tin_5 (List.mem_of_getElem? (i := 78) rfl), tin_5 (List.mem_of_getElem? (i := 79) rfl)⟩
theorem lw_p139 : lw_okq (⟨"LinkedUnits$Statements", "whileLoop", "(II)V"⟩, 12) := ⟨⟨by decide, by decide⟩, tin_3 (List.mem_of_getElem? (i := 68) rfl), tin_6 (List.mem_of_getElem? (i := 133) rfl), tin_6 (List.mem_of_getElem? (i := 134) rfl)⟩
theorem lw_p140 : lw_okq (⟨"LinkedUnits$Store", "addInitial", "(III)V"⟩, 18) := ⟨⟨by decide, by decide⟩, tin_1 (List.mem_of_getElem? (i := 163) rfl), tin_5 (List.mem_of_getElem? (i := 135) rfl), tin_5 (List.mem_of_getElem? (i := 136) rfl)⟩
theorem lw_p141 : lw_okq (⟨"LinkedUnits$Store", "declare", "([BII)I"⟩, 18) := ⟨⟨by decide, by decide⟩, tin_1 (List.mem_of_getElem? (i := 163) rfl), tin_6 (List.mem_of_getElem? (i := 203) rfl), tin_6 (List.mem_of_getElem? (i := 204) rfl)⟩
theorem lw_p142 : lw_okq (⟨"LinkedUnits$Store", "firstOf", "(I)I"⟩, 18) := ⟨⟨by decide, by decide⟩, tin_1 (List.mem_of_getElem? (i := 163) rfl), tin_7 (List.mem_of_getElem? (i := 82) rfl), tin_7 (List.mem_of_getElem? (i := 83) rfl)⟩
theorem lw_p143 : lw_okq (⟨"LinkedUnits$Store", "forget", "()V"⟩, 18) := ⟨⟨by decide, by decide⟩, tin_1 (List.mem_of_getElem? (i := 163) rfl), tin_7 (List.mem_of_getElem? (i := 49) rfl), tin_7 (List.mem_of_getElem? (i := 50) rfl)⟩
theorem lw_p144 : lw_okq (⟨"LinkedUnits$Store", "has", "(I)Z"⟩, 18) := ⟨⟨by decide, by decide⟩, tin_1 (List.mem_of_getElem? (i := 163) rfl), tin_7 (List.mem_of_getElem? (i := 74) rfl), tin_7 (List.mem_of_getElem? (i := 75) rfl)⟩
theorem lw_p145 : lw_okq (⟨"LinkedUnits$Store", "is", "(II)Z"⟩, 18) := ⟨⟨by decide, by decide⟩, tin_1 (List.mem_of_getElem? (i := 163) rfl), tin_5 (List.mem_of_getElem? (i := 162) rfl), tin_5 (List.mem_of_getElem? (i := 163) rfl)⟩
theorem lw_p146 : lw_okq (⟨"LinkedUnits$Store", "isNamed", "(I[BII)Z"⟩, 18) := ⟨⟨by decide, by decide⟩, tin_1 (List.mem_of_getElem? (i := 163) rfl), tin_7 (List.mem_of_getElem? (i := 129) rfl), tin_7 (List.mem_of_getElem? (i := 130) rfl)⟩
theorem lw_p147 : lw_okq (⟨"LinkedUnits$Store", "keep", "(I)I"⟩, 18) := ⟨⟨by decide, by decide⟩, tin_1 (List.mem_of_getElem? (i := 163) rfl), tin_7 (List.mem_of_getElem? (i := 58) rfl), tin_7 (List.mem_of_getElem? (i := 59) rfl)⟩
theorem lw_p148 : lw_okq (⟨"LinkedUnits$Store", "mark", "(II)V"⟩, 18) := ⟨⟨by decide, by decide⟩, tin_1 (List.mem_of_getElem? (i := 163) rfl), tin_5 (List.mem_of_getElem? (i := 174) rfl), tin_5 (List.mem_of_getElem? (i := 175) rfl)⟩
theorem lw_p149 : lw_okq (⟨"LinkedUnits$Store", "nameByte", "(II)I"⟩, 18) := ⟨⟨by decide, by decide⟩, tin_1 (List.mem_of_getElem? (i := 163) rfl), tin_7 (List.mem_of_getElem? (i := 96) rfl), tin_7 (List.mem_of_getElem? (i := 97) rfl)⟩
theorem lw_p150 : lw_okq (⟨"LinkedUnits$Store", "nameStart", "(I)I"⟩, 18) := ⟨⟨by decide, by decide⟩, tin_1 (List.mem_of_getElem? (i := 163) rfl), tin_7 (List.mem_of_getElem? (i := 53) rfl), tin_7 (List.mem_of_getElem? (i := 54) rfl)⟩
theorem lw_p151 : lw_okq (⟨"LinkedUnits$Store", "objectAt", "(I)I"⟩, 18) := ⟨⟨by decide, by decide⟩, tin_1 (List.mem_of_getElem? (i := 163) rfl), tin_8 (List.mem_of_getElem? (i := 89) rfl), tin_8 (List.mem_of_getElem? (i := 90) rfl)⟩
theorem lw_p152 : lw_okq (⟨"LinkedUnits$Store", "symbolAt", "(II)I"⟩, 18) := ⟨⟨by decide, by decide⟩, tin_1 (List.mem_of_getElem? (i := 163) rfl), tin_7 (List.mem_of_getElem? (i := 91) rfl), tin_7 (List.mem_of_getElem? (i := 92) rfl)⟩
theorem lw_p153 : lw_okq (⟨"LinkedUnits$Store", "symbolsOf", "(I)I"⟩, 18) := ⟨⟨by decide, by decide⟩, tin_1 (List.mem_of_getElem? (i := 163) rfl), tin_7 (List.mem_of_getElem? (i := 78) rfl), tin_7 (List.mem_of_getElem? (i := 79) rfl)⟩
theorem lw_p154 : lw_okq (⟨"LinkedUnits$Tape", "begin", "()V"⟩, 5) := ⟨⟨by decide, by decide⟩, tin_3 (List.mem_of_getElem? (i := 161) rfl), tin_7 (List.mem_of_getElem? (i := 205) rfl), tin_7 (List.mem_of_getElem? (i := 206) rfl)⟩
theorem lw_p155 : lw_okq (⟨"LinkedUnits$Tape", "byteAt", "(I)I"⟩, 5) := ⟨⟨by decide, by decide⟩, tin_3 (List.mem_of_getElem? (i := 161) rfl), tin_8 (List.mem_of_getElem? (i := 101) rfl), tin_8 (List.mem_of_getElem? (i := 102) rfl)⟩
theorem lw_p156 : lw_okq (⟨"LinkedUnits$Tape", "give", "(I)I"⟩, 5) := ⟨⟨by decide, by decide⟩, tin_3 (List.mem_of_getElem? (i := 161) rfl), tin_7 (List.mem_of_getElem? (i := 182) rfl), tin_7 (List.mem_of_getElem? (i := 183) rfl)⟩
theorem lw_p157 : lw_okq (⟨"LinkedUnits$Tape", "next", "()I"⟩, 5) := ⟨⟨by decide, by decide⟩, tin_3 (List.mem_of_getElem? (i := 161) rfl), tin_8 (List.mem_of_getElem? (i := 27) rfl), tin_8 (List.mem_of_getElem? (i := 28) rfl)⟩
theorem lw_p158 : lw_okq (⟨"LinkedUnits$Tape", "print", "(I)Z"⟩, 5) := ⟨⟨by decide, by decide⟩, tin_3 (List.mem_of_getElem? (i := 161) rfl), tin_8 (List.mem_of_getElem? (i := 35) rfl), tin_8 (List.mem_of_getElem? (i := 36) rfl)⟩
theorem lw_p159 : lw_okq (⟨"LinkedUnits$Tape", "put", "(I)Z"⟩, 5) := ⟨⟨by decide, by decide⟩, tin_3 (List.mem_of_getElem? (i := 161) rfl), tin_8 (List.mem_of_getElem? (i := 31) rfl), tin_8 (List.mem_of_getElem? (i := 32) rfl)⟩
theorem lw_p160 : lw_okq (⟨"LinkedUnits$Tape", "useUp", "()V"⟩, 5) := ⟨⟨by decide, by decide⟩, tin_3 (List.mem_of_getElem? (i := 161) rfl), tin_8 (List.mem_of_getElem? (i := 73) rfl), tin_8 (List.mem_of_getElem? (i := 74) rfl)⟩
theorem lw_p161 : lw_okq (⟨"LinkedUnits$Tokens", "add", "(III)Z"⟩, 10) := ⟨⟨by decide, by decide⟩, tin_1 (List.mem_of_getElem? (i := 36) rfl), tin_4 (List.mem_of_getElem? (i := 102) rfl), tin_4 (List.mem_of_getElem? (i := 103) rfl)⟩
theorem lw_p162 : lw_okq (⟨"LinkedUnits$Tokens", "bad", "(I)Z"⟩, 10) := ⟨⟨by decide, by decide⟩, tin_1 (List.mem_of_getElem? (i := 36) rfl), tin_4 (List.mem_of_getElem? (i := 98) rfl), tin_4 (List.mem_of_getElem? (i := 99) rfl)⟩
theorem lw_p163 : lw_okq (⟨"LinkedUnits$Tokens", "byteAt", "(I)I"⟩, 10) := ⟨⟨by decide, by decide⟩, tin_1 (List.mem_of_getElem? (i := 36) rfl), tin_4 (List.mem_of_getElem? (i := 87) rfl), tin_4 (List.mem_of_getElem? (i := 88) rfl)⟩
theorem lw_p164 : lw_okq (⟨"LinkedUnits$Tokens", "character", "()Z"⟩, 10) := ⟨⟨by decide, by decide⟩, tin_1 (List.mem_of_getElem? (i := 36) rfl), tin_4 (List.mem_of_getElem? (i := 152) rfl), tin_4 (List.mem_of_getElem? (i := 153) rfl)⟩
theorem lw_p165 : lw_okq (⟨"LinkedUnits$Tokens", "codeAt", "(II)I"⟩, 10) := ⟨⟨by decide, by decide⟩, tin_1 (List.mem_of_getElem? (i := 36) rfl), tin_4 (List.mem_of_getElem? (i := 156) rfl), tin_4 (List.mem_of_getElem? (i := 157) rfl)⟩
theorem lw_p166 : lw_okq (⟨"LinkedUnits$Tokens", "digits", "()Z"⟩, 10) := ⟨⟨by decide, by decide⟩, tin_1 (List.mem_of_getElem? (i := 36) rfl), tin_4 (List.mem_of_getElem? (i := 142) rfl), tin_4 (List.mem_of_getElem? (i := 143) rfl)⟩
theorem lw_p167 : lw_okq (⟨"LinkedUnits$Tokens", "isNext", "(Ljava/lang/String;II)Z"⟩, 10) := ⟨⟨by decide, by decide⟩, tin_1 (List.mem_of_getElem? (i := 36) rfl), tin_4 (List.mem_of_getElem? (i := 131) rfl), tin_4 (List.mem_of_getElem? (i := 132) rfl)⟩
theorem lw_p168 : lw_okq (⟨"LinkedUnits$Tokens", "listed", "(Ljava/lang/String;I)I"⟩, 10) := ⟨⟨by decide, by decide⟩, tin_1 (List.mem_of_getElem? (i := 36) rfl), tin_4 (List.mem_of_getElem? (i := 125) rfl), tin_4 (List.mem_of_getElem? (i := 126) rfl)⟩
theorem lw_p169 : lw_okq (⟨"LinkedUnits$Tokens", "readCodes", "(I)I"⟩, 10) := ⟨⟨by decide, by decide⟩, tin_1 (List.mem_of_getElem? (i := 36) rfl), tin_5 (List.mem_of_getElem? (i := 122) rfl), tin_5 (List.mem_of_getElem? (i := 123) rfl)⟩
theorem lw_p170 : lw_okq (⟨"LinkedUnits$Tokens", "sameName", "(II)Z"⟩, 10) := ⟨⟨by decide, by decide⟩, tin_1 (List.mem_of_getElem? (i := 36) rfl), tin_5 (List.mem_of_getElem? (i := 154) rfl), tin_5 (List.mem_of_getElem? (i := 155) rfl)⟩
theorem lw_p171 : lw_okq (⟨"LinkedUnits$Tokens", "scan", "(I)V"⟩, 10) := ⟨⟨by decide, by decide⟩, tin_1 (List.mem_of_getElem? (i := 36) rfl), tin_4 (List.mem_of_getElem? (i := 79) rfl), tin_4 (List.mem_of_getElem? (i := 80) rfl)⟩
theorem lw_p172 : lw_okq (⟨"LinkedUnits$Tokens", "sign", "()Z"⟩, 10) := ⟨⟨by decide, by decide⟩, tin_1 (List.mem_of_getElem? (i := 36) rfl), tin_4 (List.mem_of_getElem? (i := 168) rfl), tin_4 (List.mem_of_getElem? (i := 169) rfl)⟩
theorem lw_p173 : lw_okq (⟨"LinkedUnits$Tokens", "sixteens", "()Z"⟩, 10) := ⟨⟨by decide, by decide⟩, tin_1 (List.mem_of_getElem? (i := 36) rfl), tin_4 (List.mem_of_getElem? (i := 138) rfl), tin_4 (List.mem_of_getElem? (i := 139) rfl)⟩
theorem lw_p174 : lw_okq (⟨"LinkedUnits$Tokens", "skipBlanks", "()Z"⟩, 10) := ⟨⟨by decide, by decide⟩, tin_1 (List.mem_of_getElem? (i := 36) rfl), tin_4 (List.mem_of_getElem? (i := 83) rfl), tin_4 (List.mem_of_getElem? (i := 84) rfl)⟩
theorem lw_p175 : lw_okq (⟨"LinkedUnits$Tokens", "skipComment", "()Z"⟩, 10) := ⟨⟨by decide, by decide⟩, tin_1 (List.mem_of_getElem? (i := 36) rfl), tin_4 (List.mem_of_getElem? (i := 106) rfl), tin_4 (List.mem_of_getElem? (i := 107) rfl)⟩
theorem lw_p176 : lw_okq (⟨"LinkedUnits$Tokens", "skipLine", "()Z"⟩, 10) := ⟨⟨by decide, by decide⟩, tin_1 (List.mem_of_getElem? (i := 36) rfl), tin_4 (List.mem_of_getElem? (i := 91) rfl), tin_4 (List.mem_of_getElem? (i := 92) rfl)⟩
theorem lw_p177 : lw_okq (⟨"LinkedUnits$Tokens", "string", "()Z"⟩, 10) := ⟨⟨by decide, by decide⟩, tin_1 (List.mem_of_getElem? (i := 36) rfl), tin_4 (List.mem_of_getElem? (i := 164) rfl), tin_4 (List.mem_of_getElem? (i := 165) rfl)⟩
theorem lw_p178 : lw_okq (⟨"LinkedUnits$Tokens", "token", "()Z"⟩, 10) := ⟨⟨by decide, by decide⟩, tin_1 (List.mem_of_getElem? (i := 36) rfl), tin_4 (List.mem_of_getElem? (i := 110) rfl), tin_4 (List.mem_of_getElem? (i := 111) rfl)⟩
theorem lw_p179 : lw_okq (⟨"LinkedUnits$Tokens", "widthAt", "(I)I"⟩, 10) := ⟨⟨by decide, by decide⟩, tin_1 (List.mem_of_getElem? (i := 36) rfl), tin_4 (List.mem_of_getElem? (i := 160) rfl), tin_4 (List.mem_of_getElem? (i := 161) rfl)⟩
theorem lw_p180 : lw_okq (⟨"LinkedUnits$Tokens", "word", "()Z"⟩, 10) := ⟨⟨by decide, by decide⟩, tin_1 (List.mem_of_getElem? (i := 36) rfl), tin_4 (List.mem_of_getElem? (i := 117) rfl), tin_4 (List.mem_of_getElem? (i := 118) rfl)⟩
theorem lw_p181 : lw_okq (⟨"LinkedUnits$Unit", "begin", "(I)V"⟩, 19) := ⟨⟨by decide, by decide⟩, tin_2 (List.mem_of_getElem? (i := 58) rfl), tin_5 (List.mem_of_getElem? (i := 82) rfl), tin_5 (List.mem_of_getElem? (i := 83) rfl)⟩
theorem lw_p182 : lw_okq (⟨"LinkedUnits$Unit", "close", "()V"⟩, 19) := ⟨⟨by decide, by decide⟩, tin_2 (List.mem_of_getElem? (i := 58) rfl), tin_6 (List.mem_of_getElem? (i := 94) rfl), tin_6 (List.mem_of_getElem? (i := 95) rfl)⟩
theorem lw_p183 : lw_okq (⟨"LinkedUnits$Unit", "declareLocal", "(III)V"⟩, 19) := ⟨⟨by decide, by decide⟩, tin_2 (List.mem_of_getElem? (i := 58) rfl), tin_6 (List.mem_of_getElem? (i := 176) rfl), tin_6 (List.mem_of_getElem? (i := 177) rfl)⟩
theorem lw_p184 : lw_okq (⟨"LinkedUnits$Unit", "declareOuter", "(I)I"⟩, 19) := ⟨⟨by decide, by decide⟩, tin_2 (List.mem_of_getElem? (i := 58) rfl), tin_6 (List.mem_of_getElem? (i := 199) rfl), tin_6 (List.mem_of_getElem? (i := 200) rfl)⟩
theorem lw_p185 : lw_okq (⟨"LinkedUnits$Unit", "enter", "(I)V"⟩, 19) := ⟨⟨by decide, by decide⟩, tin_2 (List.mem_of_getElem? (i := 58) rfl), tin_7 (List.mem_of_getElem? (i := 10) rfl), tin_7 (List.mem_of_getElem? (i := 11) rfl)⟩
theorem lw_p186 : lw_okq (⟨"LinkedUnits$Unit", "fail", "(II)V"⟩, 19) := ⟨⟨by decide, by decide⟩, tin_2 (List.mem_of_getElem? (i := 58) rfl), tin_5 (List.mem_of_getElem? (i := 131) rfl), tin_5 (List.mem_of_getElem? (i := 132) rfl)⟩
theorem lw_p187 : lw_okq (⟨"LinkedUnits$Unit", "finish", "()V"⟩, 19) := ⟨⟨by decide, by decide⟩, tin_2 (List.mem_of_getElem? (i := 58) rfl), tin_7 (List.mem_of_getElem? (i := 43) rfl), tin_7 (List.mem_of_getElem? (i := 44) rfl)⟩
theorem lw_p188 : lw_okq (⟨"LinkedUnits$Unit", "leave", "()V"⟩, 19) := ⟨⟨by decide, by decide⟩, tin_2 (List.mem_of_getElem? (i := 58) rfl), tin_5 (List.mem_of_getElem? (i := 86) rfl), tin_5 (List.mem_of_getElem? (i := 87) rfl)⟩
theorem lw_p189 : lw_okq (⟨"LinkedUnits$Unit", "localFrom", "(II)I"⟩, 19) := ⟨⟨by decide, by decide⟩, tin_2 (List.mem_of_getElem? (i := 58) rfl), tin_5 (List.mem_of_getElem? (i := 149) rfl), tin_5 (List.mem_of_getElem? (i := 150) rfl)⟩
theorem lw_p190 : lw_okq (⟨"LinkedUnits$Unit", "mentionCall", "(II)V"⟩, 19) := ⟨⟨by decide, by decide⟩, tin_2 (List.mem_of_getElem? (i := 58) rfl), tin_5 (List.mem_of_getElem? (i := 187) rfl), tin_5 (List.mem_of_getElem? (i := 188) rfl)⟩
theorem lw_p191 : lw_okq (⟨"LinkedUnits$Unit", "open", "()V"⟩, 19) := ⟨⟨by decide, by decide⟩, tin_2 (List.mem_of_getElem? (i := 58) rfl), tin_6 (List.mem_of_getElem? (i := 90) rfl), tin_6 (List.mem_of_getElem? (i := 91) rfl)⟩
theorem lw_p192 : lw_okq (⟨"LinkedUnits$Unit", "outerOf", "(I)I"⟩, 19) := ⟨⟨by decide, by decide⟩, tin_2 (List.mem_of_getElem? (i := 58) rfl), tin_5 (List.mem_of_getElem? (i := 158) rfl), tin_5 (List.mem_of_getElem? (i := 159) rfl)⟩
theorem lw_p193 : lw_okq (⟨"LinkedUnits$Unit", "scopeStart", "()I"⟩, 19) := ⟨⟨by decide, by decide⟩, tin_2 (List.mem_of_getElem? (i := 58) rfl), tin_6 (List.mem_of_getElem? (i := 166) rfl), tin_6 (List.mem_of_getElem? (i := 167) rfl)⟩
theorem lw_p194 : lw_okq (⟨"LinkedUnitsModel", "accept", "(I)Z"⟩, 100) := ⟨⟨by decide, by decide⟩, tin_8 (List.mem_of_getElem? (i := 113) rfl), tin_10 (List.mem_of_getElem? (i := 134) rfl), tin_10 (List.mem_of_getElem? (i := 135) rfl)⟩
theorem lw_p195 : lw_okq (⟨"LinkedUnitsModel", "aim", "(I)V"⟩, 100) := ⟨⟨by decide, by decide⟩, tin_8 (List.mem_of_getElem? (i := 113) rfl), tin_11 (List.mem_of_getElem? (i := 125) rfl), tin_11 (List.mem_of_getElem? (i := 126) rfl)⟩
theorem lw_p196 : lw_okq (⟨"LinkedUnitsModel", "aimAll", "(II)V"⟩, 100) := ⟨⟨by decide, by decide⟩, tin_8 (List.mem_of_getElem? (i := 113) rfl), tin_11 (List.mem_of_getElem? (i := 205) rfl), tin_11 (List.mem_of_getElem? (i := 206) rfl)⟩
theorem lw_p197 : lw_okq (⟨"LinkedUnitsModel", "aimOf", "(III)I"⟩, 100) := ⟨⟨by decide, by decide⟩, tin_8 (List.mem_of_getElem? (i := 113) rfl), tin_12 (List.mem_of_getElem? (i := 78) rfl), tin_12 (List.mem_of_getElem? (i := 79) rfl)⟩
theorem lw_p198 : lw_okq (⟨"LinkedUnitsModel", "among", "(IILjava/lang/String;)I"⟩, 100) := ⟨⟨by decide, by decide⟩, tin_8 (List.mem_of_getElem? (i := 113) rfl), tin_10 (List.mem_of_getElem? (i := 69) rfl), tin_10 (List.mem_of_getElem? (i := 70) rfl)⟩
theorem lw_p199 : lw_okq (⟨"LinkedUnitsModel", "bad", "(I)I"⟩, 100) := ⟨⟨by decide, by decide⟩, tin_8 (List.mem_of_getElem? (i := 113) rfl), tin_10 (List.mem_of_getElem? (i := 43) rfl), tin_10 (List.mem_of_getElem? (i := 44) rfl)⟩
theorem lw_p200 : lw_okq (⟨"LinkedUnitsModel", "behind", "(I)LLinkedUnitsModel$Value;"⟩, 100) := ⟨⟨by decide, by decide⟩, tin_8 (List.mem_of_getElem? (i := 113) rfl), tin_11 (List.mem_of_getElem? (i := 79) rfl), tin_11 (List.mem_of_getElem? (i := 80) rfl)⟩
theorem lw_p201 : lw_okq (⟨"LinkedUnitsModel", "binary", "(II)LLinkedUnitsModel$Value;"⟩, 100) := ⟨⟨by decide, by decide⟩, tin_8 (List.mem_of_getElem? (i := 113) rfl), tin_10 (List.mem_of_getElem? (i := 210) rfl), tin_10 (List.mem_of_getElem? (i := 211) rfl)⟩
theorem lw_p202 : lw_okq (⟨"LinkedUnitsModel", "block", "(I)V"⟩, 100) := ⟨⟨by decide, by decide⟩, tin_8 (List.mem_of_getElem? (i := 113) rfl), tin_11 (List.mem_of_getElem? (i := 229) rfl), tin_11 (List.mem_of_getElem? (i := 230) rfl)⟩
theorem lw_p203 : lw_okq (⟨"LinkedUnitsModel", "bodiless", "()V"⟩, 100) := ⟨⟨by decide, by decide⟩, tin_8 (List.mem_of_getElem? (i := 113) rfl), tin_11 (List.mem_of_getElem? (i := 233) rfl), tin_11 (List.mem_of_getElem? (i := 234) rfl)⟩
theorem lw_p204 : lw_okq (⟨"LinkedUnitsModel", "bodyOf", "(I)V"⟩, 100) := ⟨⟨by decide, by decide⟩, tin_8 (List.mem_of_getElem? (i := 113) rfl), tin_10 (List.mem_of_getElem? (i := 182) rfl), tin_10 (List.mem_of_getElem? (i := 183) rfl)⟩
theorem lw_p205 : lw_okq (⟨"LinkedUnitsModel", "braces", "(IIIIZ)Z"⟩, 100) := ⟨⟨by decide, by decide⟩, tin_8 (List.mem_of_getElem? (i := 113) rfl), tin_11 (List.mem_of_getElem? (i := 173) rfl), tin_11 (List.mem_of_getElem? (i := 174) rfl)⟩
theorem lw_p206 : lw_okq (⟨"LinkedUnitsModel", "call", "(II)LLinkedUnitsModel$Value;"⟩, 100) := ⟨⟨by decide, by decide⟩, tin_8 (List.mem_of_getElem? (i := 113) rfl), tin_11 (List.mem_of_getElem? (i := 99) rfl), tin_11 (List.mem_of_getElem? (i := 100) rfl)⟩
theorem lw_p207 : lw_okq (⟨"LinkedUnitsModel", "call", "(III)I"⟩, 100) := ⟨⟨by decide, by decide⟩, tin_8 (List.mem_of_getElem? (i := 113) rfl), tin_12 (List.mem_of_getElem? (i := 153) rfl), tin_12 (List.mem_of_getElem? (i := 154) rfl)⟩
theorem lw_p208 : lw_okq (⟨"LinkedUnitsModel", "choice", "(I)LLinkedUnitsModel$Value;"⟩, 100) := ⟨⟨by decide, by decide⟩, tin_8 (List.mem_of_getElem? (i := 113) rfl), tin_10 (List.mem_of_getElem? (i := 206) rfl), tin_10 (List.mem_of_getElem? (i := 207) rfl)⟩
theorem lw_p209 : lw_okq (⟨"LinkedUnitsModel", "clear", "(I)V"⟩, 100) := ⟨⟨by decide, by decide⟩, tin_8 (List.mem_of_getElem? (i := 113) rfl), tin_12 (List.mem_of_getElem? (i := 134) rfl), tin_12 (List.mem_of_getElem? (i := 135) rfl)⟩
theorem lw_p210 : lw_okq (⟨"LinkedUnitsModel", "close", "()V"⟩, 100) := ⟨⟨by decide, by decide⟩, tin_8 (List.mem_of_getElem? (i := 113) rfl), tin_11 (List.mem_of_getElem? (i := 197) rfl), tin_11 (List.mem_of_getElem? (i := 198) rfl)⟩
theorem lw_p211 : lw_okq (⟨"LinkedUnitsModel", "code", "(II)I"⟩, 100) := ⟨⟨by decide, by decide⟩, tin_8 (List.mem_of_getElem? (i := 113) rfl), tin_10 (List.mem_of_getElem? (i := 89) rfl), tin_10 (List.mem_of_getElem? (i := 90) rfl)⟩
theorem lw_p212 : lw_okq (⟨"LinkedUnitsModel", "codeEnd", "(II)I"⟩, 100) := ⟨⟨by decide, by decide⟩, tin_8 (List.mem_of_getElem? (i := 113) rfl), tin_10 (List.mem_of_getElem? (i := 85) rfl), tin_10 (List.mem_of_getElem? (i := 86) rfl)⟩
theorem lw_p213 : lw_okq (⟨"LinkedUnitsModel", "codes", "(II)V"⟩, 100) := ⟨⟨by decide, by decide⟩, tin_8 (List.mem_of_getElem? (i := 113) rfl), tin_11 (List.mem_of_getElem? (i := 91) rfl), tin_11 (List.mem_of_getElem? (i := 92) rfl)⟩
theorem lw_p214 : lw_okq (⟨"LinkedUnitsModel", "condition", "(I)V"⟩, 100) := ⟨⟨by decide, by decide⟩, tin_8 (List.mem_of_getElem? (i := 113) rfl), tin_11 (List.mem_of_getElem? (i := 189) rfl), tin_11 (List.mem_of_getElem? (i := 190) rfl)⟩
theorem lw_p215 : lw_okq (⟨"LinkedUnitsModel", "cut", "()V"⟩, 100) := ⟨⟨by decide, by decide⟩, tin_8 (List.mem_of_getElem? (i := 113) rfl), tin_10 (List.mem_of_getElem? (i := 24) rfl), tin_10 (List.mem_of_getElem? (i := 25) rfl)⟩
theorem lw_p216 : lw_okq (⟨"LinkedUnitsModel", "decided", "(ILLinkedUnitsModel$Value;II)LLinkedUnitsModel$Value;"⟩, 100) := ⟨⟨by decide, by decide⟩, tin_8 (List.mem_of_getElem? (i := 113) rfl), tin_11 (List.mem_of_getElem? (i := 117) rfl), tin_11 (List.mem_of_getElem? (i := 118) rfl)⟩
theorem lw_p217 : lw_okq (⟨"LinkedUnitsModel", "declare", "(II)I"⟩, 100) := ⟨⟨by decide, by decide⟩, tin_8 (List.mem_of_getElem? (i := 113) rfl), tin_10 (List.mem_of_getElem? (i := 162) rfl), tin_10 (List.mem_of_getElem? (i := 163) rfl)⟩
theorem lw_p218 : lw_okq (⟨"LinkedUnitsModel", "declareLocal", "(II)I"⟩, 100) := ⟨⟨by decide, by decide⟩, tin_8 (List.mem_of_getElem? (i := 113) rfl), tin_10 (List.mem_of_getElem? (i := 166) rfl), tin_10 (List.mem_of_getElem? (i := 167) rfl)⟩
theorem lw_p219 : lw_okq (⟨"LinkedUnitsModel", "deeper", "(I)I"⟩, 100) := ⟨⟨by decide, by decide⟩, tin_8 (List.mem_of_getElem? (i := 113) rfl), tin_10 (List.mem_of_getElem? (i := 222) rfl), tin_10 (List.mem_of_getElem? (i := 223) rfl)⟩
theorem lw_p220 : lw_okq (⟨"LinkedUnitsModel", "doStatement", "(II)V"⟩, 100) := ⟨⟨by decide, by decide⟩, tin_8 (List.mem_of_getElem? (i := 113) rfl), tin_11 (List.mem_of_getElem? (i := 209) rfl), tin_11 (List.mem_of_getElem? (i := 210) rfl)⟩
theorem lw_p221 : lw_okq (⟨"LinkedUnitsModel", "emit", "(II)V"⟩, 100) := ⟨⟨by decide, by decide⟩, tin_8 (List.mem_of_getElem? (i := 113) rfl), tin_12 (List.mem_of_getElem? (i := 161) rfl), tin_12 (List.mem_of_getElem? (i := 162) rfl)⟩
theorem lw_p222 : lw_okq (⟨"LinkedUnitsModel", "ends", "(III)V"⟩, 100) := ⟨⟨by decide, by decide⟩, tin_8 (List.mem_of_getElem? (i := 113) rfl), tin_12 (List.mem_of_getElem? (i := 106) rfl), tin_12 (List.mem_of_getElem? (i := 107) rfl)⟩
theorem lw_p223 : lw_okq (⟨"LinkedUnitsModel", "enter", "(IIII)V"⟩, 100) := ⟨⟨by decide, by decide⟩, tin_8 (List.mem_of_getElem? (i := 113) rfl), tin_12 (List.mem_of_getElem? (i := 102) rfl), tin_12 (List.mem_of_getElem? (i := 103) rfl)⟩
theorem lw_p224 : lw_okq (⟨"LinkedUnitsModel", "entity", "(I)I"⟩, 100) := ⟨⟨by decide, by decide⟩, tin_8 (List.mem_of_getElem? (i := 113) rfl), tin_10 (List.mem_of_getElem? (i := 142) rfl), tin_10 (List.mem_of_getElem? (i := 143) rfl)⟩
theorem lw_p225 : lw_okq (⟨"LinkedUnitsModel", "expect", "(I)V"⟩, 100) := ⟨⟨by decide, by decide⟩, tin_8 (List.mem_of_getElem? (i := 113) rfl), tin_10 (List.mem_of_getElem? (i := 126) rfl), tin_10 (List.mem_of_getElem? (i := 127) rfl)⟩
theorem lw_p226 : lw_okq (⟨"LinkedUnitsModel", "expression", "(I)LLinkedUnitsModel$Value;"⟩, 100) := ⟨⟨by decide, by decide⟩, tin_8 (List.mem_of_getElem? (i := 113) rfl), tin_10 (List.mem_of_getElem? (i := 202) rfl), tin_10 (List.mem_of_getElem? (i := 203) rfl)⟩
theorem lw_p227 : lw_okq (⟨"LinkedUnitsModel", "fill", "(IIIZ)V"⟩, 100) := ⟨⟨by decide, by decide⟩, tin_8 (List.mem_of_getElem? (i := 113) rfl), tin_11 (List.mem_of_getElem? (i := 169) rfl), tin_11 (List.mem_of_getElem? (i := 170) rfl)⟩
theorem lw_p228 : lw_okq (⟨"LinkedUnitsModel", "find", "(II)Z"⟩, 100) := ⟨⟨by decide, by decide⟩, tin_8 (List.mem_of_getElem? (i := 113) rfl), tin_12 (List.mem_of_getElem? (i := 54) rfl), tin_12 (List.mem_of_getElem? (i := 55) rfl)⟩
theorem lw_p229 : lw_okq (⟨"LinkedUnitsModel", "forStatement", "(II)V"⟩, 100) := ⟨⟨by decide, by decide⟩, tin_8 (List.mem_of_getElem? (i := 113) rfl), tin_11 (List.mem_of_getElem? (i := 213) rfl), tin_11 (List.mem_of_getElem? (i := 214) rfl)⟩
theorem lw_p230 : lw_okq (⟨"LinkedUnitsModel", "function", "(IIZ)V"⟩, 100) := ⟨⟨by decide, by decide⟩, tin_8 (List.mem_of_getElem? (i := 113) rfl), tin_10 (List.mem_of_getElem? (i := 118) rfl), tin_10 (List.mem_of_getElem? (i := 119) rfl)⟩
theorem lw_p231 : lw_okq (⟨"LinkedUnitsModel", "getLocal", "(I)I"⟩, 100) := ⟨⟨by decide, by decide⟩, tin_8 (List.mem_of_getElem? (i := 113) rfl), tin_12 (List.mem_of_getElem? (i := 130) rfl), tin_12 (List.mem_of_getElem? (i := 131) rfl)⟩
theorem lw_p232 : lw_okq (⟨"LinkedUnitsModel", "globalName", "(IIIZZ)I"⟩, 100) := ⟨⟨by decide, by decide⟩, tin_8 (List.mem_of_getElem? (i := 113) rfl), tin_11 (List.mem_of_getElem? (i := 157) rfl), tin_11 (List.mem_of_getElem? (i := 158) rfl)⟩
theorem lw_p233 : lw_okq (⟨"LinkedUnitsModel", "hasLibraryType", "(II)Z"⟩, 100) := ⟨⟨by decide, by decide⟩, tin_8 (List.mem_of_getElem? (i := 113) rfl), tin_12 (List.mem_of_getElem? (i := 62) rfl), tin_12 (List.mem_of_getElem? (i := 63) rfl)⟩
theorem lw_p234 : lw_okq (⟨"LinkedUnitsModel", "hasType", "(II)Z"⟩, 100) := ⟨⟨by decide, by decide⟩, tin_8 (List.mem_of_getElem? (i := 113) rfl), tin_12 (List.mem_of_getElem? (i := 66) rfl), tin_12 (List.mem_of_getElem? (i := 67) rfl)⟩
theorem lw_p235 : lw_okq (⟨"LinkedUnitsModel", "head", "()V"⟩, 100) := ⟨⟨by decide, by decide⟩, tin_8 (List.mem_of_getElem? (i := 113) rfl), tin_10 (List.mem_of_getElem? (i := 122) rfl), tin_10 (List.mem_of_getElem? (i := 123) rfl)⟩
theorem lw_p236 : lw_okq (⟨"LinkedUnitsModel", "hold", "(II)V"⟩, 100) := ⟨⟨by decide, by decide⟩, tin_8 (List.mem_of_getElem? (i := 113) rfl), tin_10 (List.mem_of_getElem? (i := 178) rfl), tin_10 (List.mem_of_getElem? (i := 179) rfl)⟩
theorem lw_p237 : lw_okq (⟨"LinkedUnitsModel", "holds", "(IIII)Z"⟩, 100) := ⟨⟨by decide, by decide⟩, tin_8 (List.mem_of_getElem? (i := 113) rfl), tin_12 (List.mem_of_getElem? (i := 41) rfl), tin_12 (List.mem_of_getElem? (i := 42) rfl)⟩
theorem lw_p238 : lw_okq (⟨"LinkedUnitsModel", "init", "(III)V"⟩, 100) := ⟨⟨by decide, by decide⟩, tin_8 (List.mem_of_getElem? (i := 113) rfl), tin_11 (List.mem_of_getElem? (i := 95) rfl), tin_11 (List.mem_of_getElem? (i := 96) rfl)⟩
theorem lw_p239 : lw_okq (⟨"LinkedUnitsModel", "inner", "(I)V"⟩, 100) := ⟨⟨by decide, by decide⟩, tin_8 (List.mem_of_getElem? (i := 113) rfl), tin_11 (List.mem_of_getElem? (i := 193) rfl), tin_11 (List.mem_of_getElem? (i := 194) rfl)⟩
theorem lw_p240 : lw_okq (⟨"LinkedUnitsModel", "is", "(I)Z"⟩, 100) := ⟨⟨by decide, by decide⟩, tin_8 (List.mem_of_getElem? (i := 113) rfl), tin_10 (List.mem_of_getElem? (i := 130) rfl), tin_10 (List.mem_of_getElem? (i := 131) rfl)⟩
theorem lw_p241 : lw_okq (⟨"LinkedUnitsModel", "isAlike", "(II)Z"⟩, 100) := ⟨⟨by decide, by decide⟩, tin_8 (List.mem_of_getElem? (i := 113) rfl), tin_12 (List.mem_of_getElem? (i := 58) rfl), tin_12 (List.mem_of_getElem? (i := 59) rfl)⟩
theorem lw_p242 : lw_okq (⟨"LinkedUnitsModel", "isFault", "(II)Z"⟩, 100) := ⟨⟨by decide, by decide⟩, tin_8 (List.mem_of_getElem? (i := 113) rfl), tin_12 (List.mem_of_getElem? (i := 37) rfl), tin_12 (List.mem_of_getElem? (i := 38) rfl)⟩
theorem lw_p243 : lw_okq (⟨"LinkedUnitsModel", "isHeldHere", "(I)Z"⟩, 100) := ⟨⟨by decide, by decide⟩, tin_8 (List.mem_of_getElem? (i := 113) rfl), tin_10 (List.mem_of_getElem? (i := 170) rfl), tin_10 (List.mem_of_getElem? (i := 171) rfl)⟩
theorem lw_p244 : lw_okq (⟨"LinkedUnitsModel", "isInitial", "(LLinkedUnitsModel$Value;I)Z"⟩, 100) := ⟨⟨by decide, by decide⟩, tin_8 (List.mem_of_getElem? (i := 113) rfl), tin_11 (List.mem_of_getElem? (i := 181) rfl), tin_11 (List.mem_of_getElem? (i := 182) rfl)⟩
theorem lw_p245 : lw_okq (⟨"LinkedUnitsModel", "isNamed", "(II)Z"⟩, 100) := ⟨⟨by decide, by decide⟩, tin_8 (List.mem_of_getElem? (i := 113) rfl), tin_10 (List.mem_of_getElem? (i := 146) rfl), tin_10 (List.mem_of_getElem? (i := 147) rfl)⟩
theorem lw_p246 : lw_okq (⟨"LinkedUnitsModel", "isObject", "(I)Z"⟩, 100) := ⟨⟨by decide, by decide⟩, tin_8 (List.mem_of_getElem? (i := 113) rfl), tin_12 (List.mem_of_getElem? (i := 9) rfl), tin_12 (List.mem_of_getElem? (i := 10) rfl)⟩
theorem lw_p247 : lw_okq (⟨"LinkedUnitsModel", "isSame", "(II)Z"⟩, 100) := ⟨⟨by decide, by decide⟩, tin_8 (List.mem_of_getElem? (i := 113) rfl), tin_10 (List.mem_of_getElem? (i := 174) rfl), tin_10 (List.mem_of_getElem? (i := 175) rfl)⟩
theorem lw_p248 : lw_okq (⟨"LinkedUnitsModel", "isSameHead", "(II)Z"⟩, 100) := ⟨⟨by decide, by decide⟩, tin_8 (List.mem_of_getElem? (i := 113) rfl), tin_10 (List.mem_of_getElem? (i := 150) rfl), tin_10 (List.mem_of_getElem? (i := 151) rfl)⟩
theorem lw_p249 : lw_okq (⟨"LinkedUnitsModel", "isSymbol", "(IZ)Z"⟩, 100) := ⟨⟨by decide, by decide⟩, tin_8 (List.mem_of_getElem? (i := 113) rfl), tin_12 (List.mem_of_getElem? (i := 50) rfl), tin_12 (List.mem_of_getElem? (i := 51) rfl)⟩
theorem lw_p250 : lw_okq (⟨"LinkedUnitsModel", "isTray", "(II)Z"⟩, 100) := ⟨⟨by decide, by decide⟩, tin_8 (List.mem_of_getElem? (i := 113) rfl), tin_12 (List.mem_of_getElem? (i := 90) rfl), tin_12 (List.mem_of_getElem? (i := 91) rfl)⟩
theorem lw_p251 : lw_okq (⟨"LinkedUnitsModel", "isWord", "(I)Z"⟩, 100) := ⟨⟨by decide, by decide⟩, tin_8 (List.mem_of_getElem? (i := 113) rfl), tin_10 (List.mem_of_getElem? (i := 114) rfl), tin_10 (List.mem_of_getElem? (i := 115) rfl)⟩
theorem lw_p252 : lw_okq (⟨"LinkedUnitsModel", "item", "()V"⟩, 100) := ⟨⟨by decide, by decide⟩, tin_8 (List.mem_of_getElem? (i := 113) rfl), tin_10 (List.mem_of_getElem? (i := 110) rfl), tin_10 (List.mem_of_getElem? (i := 111) rfl)⟩
theorem lw_p253 : lw_okq (⟨"LinkedUnitsModel", "lay", "(III)V"⟩, 100) := ⟨⟨by decide, by decide⟩, tin_8 (List.mem_of_getElem? (i := 113) rfl), tin_11 (List.mem_of_getElem? (i := 161) rfl), tin_11 (List.mem_of_getElem? (i := 162) rfl)⟩
theorem lw_p254 : lw_okq (⟨"LinkedUnitsModel", "layAll", "(I)V"⟩, 100) := ⟨⟨by decide, by decide⟩, tin_8 (List.mem_of_getElem? (i := 113) rfl), tin_12 (List.mem_of_getElem? (i := 74) rfl), tin_12 (List.mem_of_getElem? (i := 75) rfl)⟩
theorem lw_p255 : lw_okq (⟨"LinkedUnitsModel", "leave", "(Z)I"⟩, 100) := ⟨⟨by decide, by decide⟩, tin_8 (List.mem_of_getElem? (i := 113) rfl), tin_12 (List.mem_of_getElem? (i := 169) rfl), tin_12 (List.mem_of_getElem? (i := 170) rfl)⟩
theorem lw_p256 : lw_okq (⟨"LinkedUnitsModel", "library", "(I)I"⟩, 100) := ⟨⟨by decide, by decide⟩, tin_8 (List.mem_of_getElem? (i := 113) rfl), tin_12 (List.mem_of_getElem? (i := 45) rfl), tin_12 (List.mem_of_getElem? (i := 46) rfl)⟩
theorem lw_p257 : lw_okq (⟨"LinkedUnitsModel", "library", "(II)V"⟩, 100) := ⟨⟨by decide, by decide⟩, tin_8 (List.mem_of_getElem? (i := 113) rfl), tin_12 (List.mem_of_getElem? (i := 157) rfl), tin_12 (List.mem_of_getElem? (i := 158) rfl)⟩
theorem lw_p258 : lw_okq (⟨"LinkedUnitsModel", "lineEnd", "(I)I"⟩, 100) := ⟨⟨by decide, by decide⟩, tin_8 (List.mem_of_getElem? (i := 113) rfl), tin_10 (List.mem_of_getElem? (i := 39) rfl), tin_10 (List.mem_of_getElem? (i := 40) rfl)⟩
theorem lw_p259 : lw_okq (⟨"LinkedUnitsModel", "local", "(I)I"⟩, 100) := ⟨⟨by decide, by decide⟩, tin_8 (List.mem_of_getElem? (i := 113) rfl), tin_11 (List.mem_of_getElem? (i := 103) rfl), tin_11 (List.mem_of_getElem? (i := 104) rfl)⟩
theorem lw_p260 : lw_okq (⟨"LinkedUnitsModel", "localName", "(III)I"⟩, 100) := ⟨⟨by decide, by decide⟩, tin_8 (List.mem_of_getElem? (i := 113) rfl), tin_11 (List.mem_of_getElem? (i := 153) rfl), tin_11 (List.mem_of_getElem? (i := 154) rfl)⟩
theorem lw_p261 : lw_okq (⟨"LinkedUnitsModel", "look", "(I)I"⟩, 100) := ⟨⟨by decide, by decide⟩, tin_8 (List.mem_of_getElem? (i := 113) rfl), tin_10 (List.mem_of_getElem? (i := 28) rfl), tin_10 (List.mem_of_getElem? (i := 29) rfl)⟩
theorem lw_p262 : lw_okq (⟨"LinkedUnitsModel", "loop", "(III)V"⟩, 100) := ⟨⟨by decide, by decide⟩, tin_8 (List.mem_of_getElem? (i := 113) rfl), tin_11 (List.mem_of_getElem? (i := 201) rfl), tin_11 (List.mem_of_getElem? (i := 202) rfl)⟩
theorem lw_p263 : lw_okq (⟨"LinkedUnitsModel", "made", "(ILLinkedUnitsModel$Value;LLinkedUnitsModel$Value;I)LLinkedUnitsModel$Value;"⟩, 100) := ⟨⟨by decide, by decide⟩, tin_8 (List.mem_of_getElem? (i := 113) rfl), tin_10 (List.mem_of_getElem? (i := 230) rfl), tin_10 (List.mem_of_getElem? (i := 231) rfl)⟩
theorem lw_p264 : lw_okq (⟨"LinkedUnitsModel", "mainOf", "(I)I"⟩, 100) := ⟨⟨by decide, by decide⟩, tin_8 (List.mem_of_getElem? (i := 113) rfl), tin_12 (List.mem_of_getElem? (i := 70) rfl), tin_12 (List.mem_of_getElem? (i := 71) rfl)⟩
theorem lw_p265 : lw_okq (⟨"LinkedUnitsModel", "must", "(ZI)V"⟩, 100) := ⟨⟨by decide, by decide⟩, tin_8 (List.mem_of_getElem? (i := 113) rfl), tin_10 (List.mem_of_getElem? (i := 154) rfl), tin_10 (List.mem_of_getElem? (i := 155) rfl)⟩
theorem lw_p266 : lw_okq (⟨"LinkedUnitsModel", "nameEnd", "(II)I"⟩, 100) := ⟨⟨by decide, by decide⟩, tin_8 (List.mem_of_getElem? (i := 113) rfl), tin_10 (List.mem_of_getElem? (i := 61) rfl), tin_10 (List.mem_of_getElem? (i := 62) rfl)⟩
theorem lw_p267 : lw_okq (⟨"LinkedUnitsModel", "named", "(I)LLinkedUnitsModel$Value;"⟩, 100) := ⟨⟨by decide, by decide⟩, tin_8 (List.mem_of_getElem? (i := 113) rfl), tin_11 (List.mem_of_getElem? (i := 110) rfl), tin_11 (List.mem_of_getElem? (i := 111) rfl)⟩
theorem lw_p268 : lw_okq (⟨"LinkedUnitsModel", "numberEnd", "(II)I"⟩, 100) := ⟨⟨by decide, by decide⟩, tin_8 (List.mem_of_getElem? (i := 113) rfl), tin_10 (List.mem_of_getElem? (i := 75) rfl), tin_10 (List.mem_of_getElem? (i := 76) rfl)⟩
theorem lw_p269 : lw_okq (⟨"LinkedUnitsModel", "one", "(II)I"⟩, 100) := ⟨⟨by decide, by decide⟩, tin_8 (List.mem_of_getElem? (i := 113) rfl), tin_10 (List.mem_of_getElem? (i := 54) rfl), tin_10 (List.mem_of_getElem? (i := 55) rfl)⟩
theorem lw_p270 : lw_okq (⟨"LinkedUnitsModel", "one", "(IIIZ)Z"⟩, 100) := ⟨⟨by decide, by decide⟩, tin_8 (List.mem_of_getElem? (i := 113) rfl), tin_11 (List.mem_of_getElem? (i := 177) rfl), tin_11 (List.mem_of_getElem? (i := 178) rfl)⟩
theorem lw_p271 : lw_okq (⟨"LinkedUnitsModel", "one", "(ILLinkedUnitsModel$Value;I)LLinkedUnitsModel$Value;"⟩, 100) := ⟨⟨by decide, by decide⟩, tin_8 (List.mem_of_getElem? (i := 113) rfl), tin_11 (List.mem_of_getElem? (i := 65) rfl), tin_11 (List.mem_of_getElem? (i := 66) rfl)⟩
theorem lw_p272 : lw_okq (⟨"LinkedUnitsModel", "oneInitial", "(IIZ)Z"⟩, 100) := ⟨⟨by decide, by decide⟩, tin_8 (List.mem_of_getElem? (i := 113) rfl), tin_11 (List.mem_of_getElem? (i := 185) rfl), tin_11 (List.mem_of_getElem? (i := 186) rfl)⟩
theorem lw_p273 : lw_okq (⟨"LinkedUnitsModel", "open", "(I)I"⟩, 100) := ⟨⟨by decide, by decide⟩, tin_8 (List.mem_of_getElem? (i := 113) rfl), tin_11 (List.mem_of_getElem? (i := 121) rfl), tin_11 (List.mem_of_getElem? (i := 122) rfl)⟩
theorem lw_p274 : lw_okq (⟨"LinkedUnitsModel", "parametersOf", "(I)I"⟩, 100) := ⟨⟨by decide, by decide⟩, tin_8 (List.mem_of_getElem? (i := 113) rfl), tin_12 (List.mem_of_getElem? (i := 110) rfl), tin_12 (List.mem_of_getElem? (i := 111) rfl)⟩
theorem lw_p275 : lw_okq (⟨"LinkedUnitsModel", "plain", "()V"⟩, 100) := ⟨⟨by decide, by decide⟩, tin_8 (List.mem_of_getElem? (i := 113) rfl), tin_11 (List.mem_of_getElem? (i := 217) rfl), tin_11 (List.mem_of_getElem? (i := 218) rfl)⟩
theorem lw_p276 : lw_okq (⟨"LinkedUnitsModel", "pointed", "(LLinkedUnitsModel$Value;I)LLinkedUnitsModel$Value;"⟩, 100) := ⟨⟨by decide, by decide⟩, tin_8 (List.mem_of_getElem? (i := 113) rfl), tin_10 (List.mem_of_getElem? (i := 226) rfl), tin_10 (List.mem_of_getElem? (i := 227) rfl)⟩
theorem lw_p277 : lw_okq (⟨"LinkedUnitsModel", "pointedTo", "(LLinkedUnitsModel$Value;I)LLinkedUnitsModel$Value;"⟩, 100) := ⟨⟨by decide, by decide⟩, tin_8 (List.mem_of_getElem? (i := 113) rfl), tin_11 (List.mem_of_getElem? (i := 58) rfl), tin_11 (List.mem_of_getElem? (i := 59) rfl)⟩
theorem lw_p278 : lw_okq (⟨"LinkedUnitsModel", "pop", "()I"⟩, 100) := ⟨⟨by decide, by decide⟩, tin_8 (List.mem_of_getElem? (i := 113) rfl), tin_12 (List.mem_of_getElem? (i := 138) rfl), tin_12 (List.mem_of_getElem? (i := 139) rfl)⟩
theorem lw_p279 : lw_okq (⟨"LinkedUnitsModel", "primary", "(I)LLinkedUnitsModel$Value;"⟩, 100) := ⟨⟨by decide, by decide⟩, tin_8 (List.mem_of_getElem? (i := 113) rfl), tin_11 (List.mem_of_getElem? (i := 83) rfl), tin_11 (List.mem_of_getElem? (i := 84) rfl)⟩
theorem lw_p280 : lw_okq (⟨"LinkedUnitsModel", "print", "(II)V"⟩, 100) := ⟨⟨by decide, by decide⟩, tin_8 (List.mem_of_getElem? (i := 113) rfl), tin_12 (List.mem_of_getElem? (i := 165) rfl), tin_12 (List.mem_of_getElem? (i := 166) rfl)⟩
theorem lw_p281 : lw_okq (⟨"LinkedUnitsModel", "push", "(I)V"⟩, 100) := ⟨⟨by decide, by decide⟩, tin_8 (List.mem_of_getElem? (i := 113) rfl), tin_12 (List.mem_of_getElem? (i := 126) rfl), tin_12 (List.mem_of_getElem? (i := 127) rfl)⟩
theorem lw_p282 : lw_okq (⟨"LinkedUnitsModel", "put", "(I)V"⟩, 100) := ⟨⟨by decide, by decide⟩, tin_8 (List.mem_of_getElem? (i := 113) rfl), tin_11 (List.mem_of_getElem? (i := 38) rfl), tin_11 (List.mem_of_getElem? (i := 39) rfl)⟩
theorem lw_p283 : lw_okq (⟨"LinkedUnitsModel", "put", "(II)V"⟩, 100) := ⟨⟨by decide, by decide⟩, tin_8 (List.mem_of_getElem? (i := 113) rfl), tin_11 (List.mem_of_getElem? (i := 34) rfl), tin_11 (List.mem_of_getElem? (i := 35) rfl)⟩
theorem lw_p284 : lw_okq (⟨"LinkedUnitsModel", "put", "(III)V"⟩, 100) := ⟨⟨by decide, by decide⟩, tin_8 (List.mem_of_getElem? (i := 113) rfl), tin_11 (List.mem_of_getElem? (i := 50) rfl), tin_11 (List.mem_of_getElem? (i := 51) rfl)⟩
theorem lw_p285 : lw_okq (⟨"LinkedUnitsModel", "read", "()I"⟩, 100) := ⟨⟨by decide, by decide⟩, tin_8 (List.mem_of_getElem? (i := 113) rfl), tin_10 (List.mem_of_getElem? (i := 20) rfl), tin_10 (List.mem_of_getElem? (i := 21) rfl)⟩
theorem lw_p286 : lw_okq (⟨"LinkedUnitsModel", "read", "(LLinkedUnitsModel$Value;)V"⟩, 100) := ⟨⟨by decide, by decide⟩, tin_8 (List.mem_of_getElem? (i := 113) rfl), tin_11 (List.mem_of_getElem? (i := 54) rfl), tin_11 (List.mem_of_getElem? (i := 55) rfl)⟩
theorem lw_p287 : lw_okq (⟨"LinkedUnitsModel", "read", "(LLinkedUnitsModel$Value;Z)V"⟩, 100) := ⟨⟨by decide, by decide⟩, tin_8 (List.mem_of_getElem? (i := 113) rfl), tin_11 (List.mem_of_getElem? (i := 221) rfl), tin_11 (List.mem_of_getElem? (i := 222) rfl)⟩
theorem lw_p288 : lw_okq (⟨"LinkedUnitsModel", "remarkEnd", "(II)I"⟩, 100) := ⟨⟨by decide, by decide⟩, tin_8 (List.mem_of_getElem? (i := 113) rfl), tin_10 (List.mem_of_getElem? (i := 47) rfl), tin_10 (List.mem_of_getElem? (i := 48) rfl)⟩
theorem lw_p289 : lw_okq (⟨"LinkedUnitsModel", "returnStatement", "(I)V"⟩, 100) := ⟨⟨by decide, by decide⟩, tin_8 (List.mem_of_getElem? (i := 113) rfl), tin_11 (List.mem_of_getElem? (i := 225) rfl), tin_11 (List.mem_of_getElem? (i := 226) rfl)⟩
theorem lw_p290 : lw_okq (⟨"LinkedUnitsModel", "rowInitial", "(IIIZ)Z"⟩, 100) := ⟨⟨by decide, by decide⟩, tin_8 (List.mem_of_getElem? (i := 113) rfl), tin_11 (List.mem_of_getElem? (i := 165) rfl), tin_11 (List.mem_of_getElem? (i := 166) rfl)⟩
theorem lw_p291 : lw_okq (⟨"LinkedUnitsModel", "rowOf", "(I)I"⟩, 100) := ⟨⟨by decide, by decide⟩, tin_8 (List.mem_of_getElem? (i := 113) rfl), tin_12 (List.mem_of_getElem? (i := 118) rfl), tin_12 (List.mem_of_getElem? (i := 119) rfl)⟩
theorem lw_p292 : lw_okq (⟨"LinkedUnitsModel", "setLocal", "(II)V"⟩, 100) := ⟨⟨by decide, by decide⟩, tin_8 (List.mem_of_getElem? (i := 113) rfl), tin_12 (List.mem_of_getElem? (i := 114) rfl), tin_12 (List.mem_of_getElem? (i := 115) rfl)⟩
theorem lw_p293 : lw_okq (⟨"LinkedUnitsModel", "sign", "()I"⟩, 100) := ⟨⟨by decide, by decide⟩, tin_8 (List.mem_of_getElem? (i := 113) rfl), tin_10 (List.mem_of_getElem? (i := 218) rfl), tin_10 (List.mem_of_getElem? (i := 219) rfl)⟩
theorem lw_p294 : lw_okq (⟨"LinkedUnitsModel", "signEnd", "(II)I"⟩, 100) := ⟨⟨by decide, by decide⟩, tin_8 (List.mem_of_getElem? (i := 113) rfl), tin_10 (List.mem_of_getElem? (i := 97) rfl), tin_10 (List.mem_of_getElem? (i := 98) rfl)⟩
theorem lw_p295 : lw_okq (⟨"LinkedUnitsModel", "sizeAt", "()I"⟩, 100) := ⟨⟨by decide, by decide⟩, tin_8 (List.mem_of_getElem? (i := 113) rfl), tin_10 (List.mem_of_getElem? (i := 198) rfl), tin_10 (List.mem_of_getElem? (i := 199) rfl)⟩
theorem lw_p296 : lw_okq (⟨"LinkedUnitsModel", "stars", "()I"⟩, 100) := ⟨⟨by decide, by decide⟩, tin_8 (List.mem_of_getElem? (i := 113) rfl), tin_10 (List.mem_of_getElem? (i := 138) rfl), tin_10 (List.mem_of_getElem? (i := 139) rfl)⟩
theorem lw_p297 : lw_okq (⟨"LinkedUnitsModel", "statement", "(I)V"⟩, 100) := ⟨⟨by decide, by decide⟩, tin_8 (List.mem_of_getElem? (i := 113) rfl), tin_10 (List.mem_of_getElem? (i := 186) rfl), tin_10 (List.mem_of_getElem? (i := 187) rfl)⟩
theorem lw_p298 : lw_okq (⟨"LinkedUnitsModel", "step", "(I)I"⟩, 100) := ⟨⟨by decide, by decide⟩, tin_8 (List.mem_of_getElem? (i := 113) rfl), tin_12 (List.mem_of_getElem? (i := 122) rfl), tin_12 (List.mem_of_getElem? (i := 123) rfl)⟩
theorem lw_p299 : lw_okq (⟨"LinkedUnitsModel", "stepMore", "(II)I"⟩, 100) := ⟨⟨by decide, by decide⟩, tin_8 (List.mem_of_getElem? (i := 113) rfl), tin_12 (List.mem_of_getElem? (i := 146) rfl), tin_12 (List.mem_of_getElem? (i := 147) rfl)⟩
theorem lw_p300 : lw_okq (⟨"LinkedUnitsModel", "stepped", "(LLinkedUnitsModel$Value;III)LLinkedUnitsModel$Value;"⟩, 100) := ⟨⟨by decide, by decide⟩, tin_8 (List.mem_of_getElem? (i := 113) rfl), tin_11 (List.mem_of_getElem? (i := 46) rfl), tin_11 (List.mem_of_getElem? (i := 47) rfl)⟩
theorem lw_p301 : lw_okq (⟨"LinkedUnitsModel", "stringEnd", "(II)I"⟩, 100) := ⟨⟨by decide, by decide⟩, tin_8 (List.mem_of_getElem? (i := 113) rfl), tin_10 (List.mem_of_getElem? (i := 93) rfl), tin_10 (List.mem_of_getElem? (i := 94) rfl)⟩
theorem lw_p302 : lw_okq (⟨"LinkedUnitsModel", "symbolAt", "(II)I"⟩, 100) := ⟨⟨by decide, by decide⟩, tin_8 (List.mem_of_getElem? (i := 113) rfl), tin_12 (List.mem_of_getElem? (i := 21) rfl), tin_12 (List.mem_of_getElem? (i := 22) rfl)⟩
theorem lw_p303 : lw_okq (⟨"LinkedUnitsModel", "symbols", "(I)I"⟩, 100) := ⟨⟨by decide, by decide⟩, tin_8 (List.mem_of_getElem? (i := 113) rfl), tin_12 (List.mem_of_getElem? (i := 13) rfl), tin_12 (List.mem_of_getElem? (i := 14) rfl)⟩
theorem lw_p304 : lw_okq (⟨"LinkedUnitsModel", "tell", "(II)V"⟩, 100) := ⟨⟨by decide, by decide⟩, tin_8 (List.mem_of_getElem? (i := 113) rfl), tin_10 (List.mem_of_getElem? (i := 158) rfl), tin_10 (List.mem_of_getElem? (i := 159) rfl)⟩
theorem lw_p305 : lw_okq (⟨"LinkedUnitsModel", "text", "(I)LLinkedUnitsModel$Value;"⟩, 100) := ⟨⟨by decide, by decide⟩, tin_8 (List.mem_of_getElem? (i := 113) rfl), tin_11 (List.mem_of_getElem? (i := 87) rfl), tin_11 (List.mem_of_getElem? (i := 88) rfl)⟩
theorem lw_p306 : lw_okq (⟨"LinkedUnitsModel", "token", "(IIIII)V"⟩, 100) := ⟨⟨by decide, by decide⟩, tin_8 (List.mem_of_getElem? (i := 113) rfl), tin_10 (List.mem_of_getElem? (i := 35) rfl), tin_10 (List.mem_of_getElem? (i := 36) rfl)⟩
theorem lw_p307 : lw_okq (⟨"LinkedUnitsModel", "told", "()I"⟩, 100) := ⟨⟨by decide, by decide⟩, tin_8 (List.mem_of_getElem? (i := 113) rfl), tin_11 (List.mem_of_getElem? (i := 149) rfl), tin_11 (List.mem_of_getElem? (i := 150) rfl)⟩
theorem lw_p308 : lw_okq (⟨"LinkedUnitsModel", "trapped", "(II)V"⟩, 100) := ⟨⟨by decide, by decide⟩, tin_8 (List.mem_of_getElem? (i := 113) rfl), tin_12 (List.mem_of_getElem? (i := 142) rfl), tin_12 (List.mem_of_getElem? (i := 143) rfl)⟩
theorem lw_p309 : lw_okq (⟨"LinkedUnitsModel", "two", "(ILLinkedUnitsModel$Value;LLinkedUnitsModel$Value;I)LLinkedUnitsModel$Value;"⟩, 100) := ⟨⟨by decide, by decide⟩, tin_8 (List.mem_of_getElem? (i := 113) rfl), tin_11 (List.mem_of_getElem? (i := 129) rfl), tin_11 (List.mem_of_getElem? (i := 130) rfl)⟩
theorem lw_p310 : lw_okq (⟨"LinkedUnitsModel", "unary", "(I)LLinkedUnitsModel$Value;"⟩, 100) := ⟨⟨by decide, by decide⟩, tin_8 (List.mem_of_getElem? (i := 113) rfl), tin_10 (List.mem_of_getElem? (i := 214) rfl), tin_10 (List.mem_of_getElem? (i := 215) rfl)⟩
theorem lw_p311 : lw_okq (⟨"LinkedUnitsModel", "variable", "(IIZZZ)V"⟩, 100) := ⟨⟨by decide, by decide⟩, tin_8 (List.mem_of_getElem? (i := 113) rfl), tin_10 (List.mem_of_getElem? (i := 194) rfl), tin_10 (List.mem_of_getElem? (i := 195) rfl)⟩
theorem lw_p312 : lw_okq (⟨"LinkedUnitsModel", "variables", "(ZZZ)V"⟩, 100) := ⟨⟨by decide, by decide⟩, tin_8 (List.mem_of_getElem? (i := 113) rfl), tin_10 (List.mem_of_getElem? (i := 190) rfl), tin_10 (List.mem_of_getElem? (i := 191) rfl)⟩
theorem lw_p313 : lw_okq (⟨"LinkedUnitsModel", "wrong", "()Ljava/lang/IllegalStateException;"⟩, 100) := ⟨⟨by decide, by decide⟩, tin_8 (List.mem_of_getElem? (i := 113) rfl), tin_10 (List.mem_of_getElem? (i := 102) rfl), tin_10 (List.mem_of_getElem? (i := 103) rfl)⟩
theorem lw_p314 : lw_okq (⟨"LinkedUnitsModel", "wrongAt", "(I)Ljava/lang/IllegalStateException;"⟩, 100) := ⟨⟨by decide, by decide⟩, tin_8 (List.mem_of_getElem? (i := 113) rfl), tin_10 (List.mem_of_getElem? (i := 106) rfl), tin_10 (List.mem_of_getElem? (i := 107) rfl)⟩
def lw_pv0 : List (MethodName × Nat) := [(⟨"LinkedUnits", "takeBytes", "(I)V"⟩, 15), (⟨"LinkedUnits$Code", "aim", "(II)V"⟩, 2), (⟨"LinkedUnits$Code", "cut", "(I)V"⟩, 2), (⟨"LinkedUnits$Code", "emit", "(IIII)I"⟩, 2), (⟨"LinkedUnits$Code", "header", "()I"⟩, 2), (⟨"LinkedUnits$Code", "settle", "(I[I)V"⟩, 2), (⟨"LinkedUnits$Code", "thread", "(I)V"⟩, 2), (⟨"LinkedUnits$Declarations", "begin", "()V"⟩, 18), (⟨"LinkedUnits$Declarations", "checkOuter", "(IIZ)V"⟩, 18), (⟨"LinkedUnits$Declarations", "checkSquare", "(Z)V"⟩, 18), (⟨"LinkedUnits$Declarations", "fill", "(I)V"⟩, 18), (⟨"LinkedUnits$Declarations", "function", "(III)V"⟩, 18), (⟨"LinkedUnits$Declarations", "functionEnd", "()V"⟩, 18), (⟨"LinkedUnits$Declarations", "initial", "(II)V"⟩, 18), (⟨"LinkedUnits$Declarations", "item", "()V"⟩, 18), (⟨"LinkedUnits$Declarations", "joins", "(II)Z"⟩, 18), (⟨"LinkedUnits$Declarations", "local", "(IZ)V"⟩, 18), (⟨"LinkedUnits$Declarations", "outer", "(IIZ)V"⟩, 18), (⟨"LinkedUnits$Declarations", "parameter", "(II)V"⟩, 18), (⟨"LinkedUnits$Declarations", "putInitial", "(ILLinkedUnits$Operand;)V"⟩, 18), (⟨"LinkedUnits$Declarations", "storeLocal", "()V"⟩, 18), (⟨"LinkedUnits$Declarations", "suits", "(LLinkedUnits$Operand;)Z"⟩, 18), (⟨"LinkedUnits$Declarations", "take", "(II)V"⟩, 18), (⟨"LinkedUnits$Declarations", "variable", "(III)V"⟩, 18), (⟨"LinkedUnits$Expressions", "address", "(LLinkedUnits$Operand;)V"⟩, 8), (⟨"LinkedUnits$Expressions", "argument", "()V"⟩, 8), (⟨"LinkedUnits$Expressions", "assign", "(I)V"⟩, 8), (⟨"LinkedUnits$Expressions", "binary", "(I)V"⟩, 8), (⟨"LinkedUnits$Expressions", "call", "(I)V"⟩, 8), (⟨"LinkedUnits$Expressions", "callee", "(I)V"⟩, 8), (⟨"LinkedUnits$Expressions", "cast", "(II)V"⟩, 8), (⟨"LinkedUnits$Expressions", "choice", "(I)V"⟩, 8), (⟨"LinkedUnits$Expressions", "colon", "()V"⟩, 8), (⟨"LinkedUnits$Expressions", "fetch", "(LLinkedUnits$Operand;I)V"⟩, 8), (⟨"LinkedUnits$Expressions", "fold", "(LLinkedUnits$Operand;)V"⟩, 8), (⟨"LinkedUnits$Expressions", "index", "(I)V"⟩, 8), (⟨"LinkedUnits$Expressions", "invert", "(LLinkedUnits$Operand;II)V"⟩, 8), (⟨"LinkedUnits$Expressions", "kindOf", "(I)I"⟩, 8), (⟨"LinkedUnits$Expressions", "left", "(I)V"⟩, 8), (⟨"LinkedUnits$Expressions", "lineOf", "(I)I"⟩, 8)]
set_option maxRecDepth 100000 in
theorem lw_pv0_ok : ∀ q ∈ lw_pv0, lw_okq q := (List.forall_mem_cons.mpr ⟨lw_p0, (List.forall_mem_cons.mpr ⟨lw_p1, (List.forall_mem_cons.mpr ⟨lw_p2, (List.forall_mem_cons.mpr ⟨lw_p3, (List.forall_mem_cons.mpr ⟨lw_p4, (List.forall_mem_cons.mpr ⟨lw_p5, (List.forall_mem_cons.mpr ⟨lw_p6, (List.forall_mem_cons.mpr ⟨lw_p7, (List.forall_mem_cons.mpr ⟨lw_p8, (List.forall_mem_cons.mpr ⟨lw_p9, (List.forall_mem_cons.mpr ⟨lw_p10, (List.forall_mem_cons.mpr ⟨lw_p11, (List.forall_mem_cons.mpr ⟨lw_p12, (List.forall_mem_cons.mpr ⟨lw_p13, (List.forall_mem_cons.mpr ⟨lw_p14, (List.forall_mem_cons.mpr ⟨lw_p15, (List.forall_mem_cons.mpr ⟨lw_p16, (List.forall_mem_cons.mpr ⟨lw_p17, (List.forall_mem_cons.mpr ⟨lw_p18, (List.forall_mem_cons.mpr ⟨lw_p19, (List.forall_mem_cons.mpr ⟨lw_p20, (List.forall_mem_cons.mpr ⟨lw_p21, (List.forall_mem_cons.mpr ⟨lw_p22, (List.forall_mem_cons.mpr ⟨lw_p23, (List.forall_mem_cons.mpr ⟨lw_p24, (List.forall_mem_cons.mpr ⟨lw_p25, (List.forall_mem_cons.mpr ⟨lw_p26, (List.forall_mem_cons.mpr ⟨lw_p27, (List.forall_mem_cons.mpr ⟨lw_p28, (List.forall_mem_cons.mpr ⟨lw_p29, (List.forall_mem_cons.mpr ⟨lw_p30, (List.forall_mem_cons.mpr ⟨lw_p31, (List.forall_mem_cons.mpr ⟨lw_p32, (List.forall_mem_cons.mpr ⟨lw_p33, (List.forall_mem_cons.mpr ⟨lw_p34, (List.forall_mem_cons.mpr ⟨lw_p35, (List.forall_mem_cons.mpr ⟨lw_p36, (List.forall_mem_cons.mpr ⟨lw_p37, (List.forall_mem_cons.mpr ⟨lw_p38, (List.forall_mem_cons.mpr ⟨lw_p39, (fun _ h => absurd h List.not_mem_nil)⟩)⟩)⟩)⟩)⟩)⟩)⟩)⟩)⟩)⟩)⟩)⟩)⟩)⟩)⟩)⟩)⟩)⟩)⟩)⟩)⟩)⟩)⟩)⟩)⟩)⟩)⟩)⟩)⟩)⟩)⟩)⟩)⟩)⟩)⟩)⟩)⟩)⟩)⟩)⟩)
def lw_pv1 : List (MethodName × Nat) := [(⟨"LinkedUnits$Expressions", "loaded", "(LLinkedUnits$Operand;)LLinkedUnits$Operand;"⟩, 8), (⟨"LinkedUnits$Expressions", "named", "(I)V"⟩, 8), (⟨"LinkedUnits$Expressions", "number", "(I)V"⟩, 8), (⟨"LinkedUnits$Expressions", "operate", "(IZI)V"⟩, 8), (⟨"LinkedUnits$Expressions", "pointed", "(LLinkedUnits$Operand;I)V"⟩, 8), (⟨"LinkedUnits$Expressions", "pop", "()LLinkedUnits$Operand;"⟩, 8), (⟨"LinkedUnits$Expressions", "push", "()LLinkedUnits$Operand;"⟩, 8), (⟨"LinkedUnits$Expressions", "raise", "(LLinkedUnits$Operand;II)V"⟩, 8), (⟨"LinkedUnits$Expressions", "refuse", "(I)V"⟩, 8), (⟨"LinkedUnits$Expressions", "step", "(LLinkedUnits$Operand;IZ)V"⟩, 8), (⟨"LinkedUnits$Expressions", "string", "(I)V"⟩, 8), (⟨"LinkedUnits$Expressions", "take", "(I)V"⟩, 8), (⟨"LinkedUnits$Expressions", "top", "()LLinkedUnits$Operand;"⟩, 8), (⟨"LinkedUnits$Expressions", "unary", "(I)V"⟩, 8), (⟨"LinkedUnits$Expressions", "unless", "(LLinkedUnits$Operand;I)I"⟩, 8), (⟨"LinkedUnits$Grammar", "accept", "(I)Z"⟩, 12), (⟨"LinkedUnits$Grammar", "add", "(IIII)I"⟩, 12), (⟨"LinkedUnits$Grammar", "advance", "()V"⟩, 12), (⟨"LinkedUnits$Grammar", "behind", "(I)V"⟩, 12), (⟨"LinkedUnits$Grammar", "binary", "(I)V"⟩, 12), (⟨"LinkedUnits$Grammar", "body", "(I)V"⟩, 12), (⟨"LinkedUnits$Grammar", "bracket", "()I"⟩, 12), (⟨"LinkedUnits$Grammar", "call", "(II)V"⟩, 12), (⟨"LinkedUnits$Grammar", "cast", "(I)V"⟩, 12), (⟨"LinkedUnits$Grammar", "choice", "(I)V"⟩, 12), (⟨"LinkedUnits$Grammar", "condition", "(II)V"⟩, 12), (⟨"LinkedUnits$Grammar", "conditional", "(I)V"⟩, 12), (⟨"LinkedUnits$Grammar", "counted", "(I)V"⟩, 12), (⟨"LinkedUnits$Grammar", "deeper", "(I)Z"⟩, 12), (⟨"LinkedUnits$Grammar", "expect", "(I)V"⟩, 12), (⟨"LinkedUnits$Grammar", "expression", "(I)V"⟩, 12), (⟨"LinkedUnits$Grammar", "fail", "()V"⟩, 12), (⟨"LinkedUnits$Grammar", "head", "(III)Z"⟩, 12), (⟨"LinkedUnits$Grammar", "initial", "(II)V"⟩, 12), (⟨"LinkedUnits$Grammar", "loop", "(I)V"⟩, 12), (⟨"LinkedUnits$Grammar", "parameters", "()I"⟩, 12), (⟨"LinkedUnits$Grammar", "primary", "(I)V"⟩, 12), (⟨"LinkedUnits$Grammar", "read", "()Z"⟩, 12), (⟨"LinkedUnits$Grammar", "settle", "(II)V"⟩, 12), (⟨"LinkedUnits$Grammar", "simple", "()V"⟩, 12)]
set_option maxRecDepth 100000 in
theorem lw_pv1_ok : ∀ q ∈ lw_pv1, lw_okq q := (List.forall_mem_cons.mpr ⟨lw_p40, (List.forall_mem_cons.mpr ⟨lw_p41, (List.forall_mem_cons.mpr ⟨lw_p42, (List.forall_mem_cons.mpr ⟨lw_p43, (List.forall_mem_cons.mpr ⟨lw_p44, (List.forall_mem_cons.mpr ⟨lw_p45, (List.forall_mem_cons.mpr ⟨lw_p46, (List.forall_mem_cons.mpr ⟨lw_p47, (List.forall_mem_cons.mpr ⟨lw_p48, (List.forall_mem_cons.mpr ⟨lw_p49, (List.forall_mem_cons.mpr ⟨lw_p50, (List.forall_mem_cons.mpr ⟨lw_p51, (List.forall_mem_cons.mpr ⟨lw_p52, (List.forall_mem_cons.mpr ⟨lw_p53, (List.forall_mem_cons.mpr ⟨lw_p54, (List.forall_mem_cons.mpr ⟨lw_p55, (List.forall_mem_cons.mpr ⟨lw_p56, (List.forall_mem_cons.mpr ⟨lw_p57, (List.forall_mem_cons.mpr ⟨lw_p58, (List.forall_mem_cons.mpr ⟨lw_p59, (List.forall_mem_cons.mpr ⟨lw_p60, (List.forall_mem_cons.mpr ⟨lw_p61, (List.forall_mem_cons.mpr ⟨lw_p62, (List.forall_mem_cons.mpr ⟨lw_p63, (List.forall_mem_cons.mpr ⟨lw_p64, (List.forall_mem_cons.mpr ⟨lw_p65, (List.forall_mem_cons.mpr ⟨lw_p66, (List.forall_mem_cons.mpr ⟨lw_p67, (List.forall_mem_cons.mpr ⟨lw_p68, (List.forall_mem_cons.mpr ⟨lw_p69, (List.forall_mem_cons.mpr ⟨lw_p70, (List.forall_mem_cons.mpr ⟨lw_p71, (List.forall_mem_cons.mpr ⟨lw_p72, (List.forall_mem_cons.mpr ⟨lw_p73, (List.forall_mem_cons.mpr ⟨lw_p74, (List.forall_mem_cons.mpr ⟨lw_p75, (List.forall_mem_cons.mpr ⟨lw_p76, (List.forall_mem_cons.mpr ⟨lw_p77, (List.forall_mem_cons.mpr ⟨lw_p78, (List.forall_mem_cons.mpr ⟨lw_p79, (fun _ h => absurd h List.not_mem_nil)⟩)⟩)⟩)⟩)⟩)⟩)⟩)⟩)⟩)⟩)⟩)⟩)⟩)⟩)⟩)⟩)⟩)⟩)⟩)⟩)⟩)⟩)⟩)⟩)⟩)⟩)⟩)⟩)⟩)⟩)⟩)⟩)⟩)⟩)⟩)⟩)⟩)⟩)⟩)⟩)
def lw_pv2 : List (MethodName × Nat) := [(⟨"LinkedUnits$Grammar", "stars", "()I"⟩, 12), (⟨"LinkedUnits$Grammar", "statement", "(I)V"⟩, 12), (⟨"LinkedUnits$Grammar", "statements", "(I)V"⟩, 12), (⟨"LinkedUnits$Grammar", "unary", "(I)V"⟩, 12), (⟨"LinkedUnits$Grammar", "variables", "(III)V"⟩, 12), (⟨"LinkedUnits$Image", "agrees", "(II)Z"⟩, 12), (⟨"LinkedUnits$Image", "cellOf", "([BI)I"⟩, 12), (⟨"LinkedUnits$Image", "choose", "(I)I"⟩, 12), (⟨"LinkedUnits$Image", "dataCells", "()I"⟩, 12), (⟨"LinkedUnits$Image", "definition", "(II)I"⟩, 12), (⟨"LinkedUnits$Image", "fill", "([I)V"⟩, 12), (⟨"LinkedUnits$Image", "find", "([II[BII)I"⟩, 12), (⟨"LinkedUnits$Image", "isMain", "(I)Z"⟩, 12), (⟨"LinkedUnits$Image", "isWrong", "(III)Z"⟩, 12), (⟨"LinkedUnits$Image", "join", "()I"⟩, 12), (⟨"LinkedUnits$Image", "look", "(I)I"⟩, 12), (⟨"LinkedUnits$Image", "refer", "(I)V"⟩, 12), (⟨"LinkedUnits$Image", "settle", "()V"⟩, 12), (⟨"LinkedUnits$Machine", "begin", "(I)V"⟩, 19), (⟨"LinkedUnits$Machine", "calculate", "(II)V"⟩, 19), (⟨"LinkedUnits$Machine", "call", "(II)V"⟩, 19), (⟨"LinkedUnits$Machine", "copyParameters", "(II)V"⟩, 19), (⟨"LinkedUnits$Machine", "decide", "(ZI)V"⟩, 19), (⟨"LinkedUnits$Machine", "enter", "(II)V"⟩, 19), (⟨"LinkedUnits$Machine", "execute", "(I)I"⟩, 19), (⟨"LinkedUnits$Machine", "fail", "(II)V"⟩, 19), (⟨"LinkedUnits$Machine", "giveBack", "()V"⟩, 19), (⟨"LinkedUnits$Machine", "inFrame", "(II)V"⟩, 19), (⟨"LinkedUnits$Machine", "lead", "(II)V"⟩, 19), (⟨"LinkedUnits$Machine", "peeked", "()I"⟩, 19), (⟨"LinkedUnits$Machine", "plain", "(II)V"⟩, 19), (⟨"LinkedUnits$Machine", "pop", "()I"⟩, 19), (⟨"LinkedUnits$Machine", "push", "(I)V"⟩, 19), (⟨"LinkedUnits$Machine", "reach", "(II)V"⟩, 19), (⟨"LinkedUnits$Machine", "step", "()V"⟩, 19), (⟨"LinkedUnits$Machine", "stepped", "([III)V"⟩, 19), (⟨"LinkedUnits$Machine", "stray", "()V"⟩, 19), (⟨"LinkedUnits$Machine", "turn", "(I)Z"⟩, 19), (⟨"LinkedUnits$Machine", "useLibrary", "(II)V"⟩, 19), (⟨"LinkedUnits$Operand", "become", "(II)V"⟩, 13)]
set_option maxRecDepth 100000 in
theorem lw_pv2_ok : ∀ q ∈ lw_pv2, lw_okq q := (List.forall_mem_cons.mpr ⟨lw_p80, (List.forall_mem_cons.mpr ⟨lw_p81, (List.forall_mem_cons.mpr ⟨lw_p82, (List.forall_mem_cons.mpr ⟨lw_p83, (List.forall_mem_cons.mpr ⟨lw_p84, (List.forall_mem_cons.mpr ⟨lw_p85, (List.forall_mem_cons.mpr ⟨lw_p86, (List.forall_mem_cons.mpr ⟨lw_p87, (List.forall_mem_cons.mpr ⟨lw_p88, (List.forall_mem_cons.mpr ⟨lw_p89, (List.forall_mem_cons.mpr ⟨lw_p90, (List.forall_mem_cons.mpr ⟨lw_p91, (List.forall_mem_cons.mpr ⟨lw_p92, (List.forall_mem_cons.mpr ⟨lw_p93, (List.forall_mem_cons.mpr ⟨lw_p94, (List.forall_mem_cons.mpr ⟨lw_p95, (List.forall_mem_cons.mpr ⟨lw_p96, (List.forall_mem_cons.mpr ⟨lw_p97, (List.forall_mem_cons.mpr ⟨lw_p98, (List.forall_mem_cons.mpr ⟨lw_p99, (List.forall_mem_cons.mpr ⟨lw_p100, (List.forall_mem_cons.mpr ⟨lw_p101, (List.forall_mem_cons.mpr ⟨lw_p102, (List.forall_mem_cons.mpr ⟨lw_p103, (List.forall_mem_cons.mpr ⟨lw_p104, (List.forall_mem_cons.mpr ⟨lw_p105, (List.forall_mem_cons.mpr ⟨lw_p106, (List.forall_mem_cons.mpr ⟨lw_p107, (List.forall_mem_cons.mpr ⟨lw_p108, (List.forall_mem_cons.mpr ⟨lw_p109, (List.forall_mem_cons.mpr ⟨lw_p110, (List.forall_mem_cons.mpr ⟨lw_p111, (List.forall_mem_cons.mpr ⟨lw_p112, (List.forall_mem_cons.mpr ⟨lw_p113, (List.forall_mem_cons.mpr ⟨lw_p114, (List.forall_mem_cons.mpr ⟨lw_p115, (List.forall_mem_cons.mpr ⟨lw_p116, (List.forall_mem_cons.mpr ⟨lw_p117, (List.forall_mem_cons.mpr ⟨lw_p118, (List.forall_mem_cons.mpr ⟨lw_p119, (fun _ h => absurd h List.not_mem_nil)⟩)⟩)⟩)⟩)⟩)⟩)⟩)⟩)⟩)⟩)⟩)⟩)⟩)⟩)⟩)⟩)⟩)⟩)⟩)⟩)⟩)⟩)⟩)⟩)⟩)⟩)⟩)⟩)⟩)⟩)⟩)⟩)⟩)⟩)⟩)⟩)⟩)⟩)⟩)⟩)
def lw_pv3 : List (MethodName × Nat) := [(⟨"LinkedUnits$Operand", "fits", "(I)Z"⟩, 13), (⟨"LinkedUnits$Operand", "isConstant", "()Z"⟩, 13), (⟨"LinkedUnits$Operand", "isInitial", "()Z"⟩, 13), (⟨"LinkedUnits$Operand", "isPlace", "()Z"⟩, 13), (⟨"LinkedUnits$Operand", "reset", "(I)V"⟩, 13), (⟨"LinkedUnits$Statements", "begin", "(Z)V"⟩, 12), (⟨"LinkedUnits$Statements", "condition", "(I)LLinkedUnits$Operand;"⟩, 12), (⟨"LinkedUnits$Statements", "conditional", "(II)V"⟩, 12), (⟨"LinkedUnits$Statements", "constant", "(II)I"⟩, 12), (⟨"LinkedUnits$Statements", "doLoop", "(II)V"⟩, 12), (⟨"LinkedUnits$Statements", "exitUnless", "(LLinkedUnits$Operand;)V"⟩, 12), (⟨"LinkedUnits$Statements", "finish", "()V"⟩, 12), (⟨"LinkedUnits$Statements", "forLoop", "(IIZ)V"⟩, 12), (⟨"LinkedUnits$Statements", "giveBack", "(IZ)V"⟩, 12), (⟨"LinkedUnits$Statements", "jumpBack", "(I)V"⟩, 12), (⟨"LinkedUnits$Statements", "leave", "(I[I)V"⟩, 12), (⟨"LinkedUnits$Statements", "take", "(II)V"⟩, 12), (⟨"LinkedUnits$Statements", "turn", "(I)V"⟩, 12), (⟨"LinkedUnits$Statements", "walk", "(I)V"⟩, 12), (⟨"LinkedUnits$Statements", "whileLoop", "(II)V"⟩, 12), (⟨"LinkedUnits$Store", "addInitial", "(III)V"⟩, 18), (⟨"LinkedUnits$Store", "declare", "([BII)I"⟩, 18), (⟨"LinkedUnits$Store", "firstOf", "(I)I"⟩, 18), (⟨"LinkedUnits$Store", "forget", "()V"⟩, 18), (⟨"LinkedUnits$Store", "has", "(I)Z"⟩, 18), (⟨"LinkedUnits$Store", "is", "(II)Z"⟩, 18), (⟨"LinkedUnits$Store", "isNamed", "(I[BII)Z"⟩, 18), (⟨"LinkedUnits$Store", "keep", "(I)I"⟩, 18), (⟨"LinkedUnits$Store", "mark", "(II)V"⟩, 18), (⟨"LinkedUnits$Store", "nameByte", "(II)I"⟩, 18), (⟨"LinkedUnits$Store", "nameStart", "(I)I"⟩, 18), (⟨"LinkedUnits$Store", "objectAt", "(I)I"⟩, 18), (⟨"LinkedUnits$Store", "symbolAt", "(II)I"⟩, 18), (⟨"LinkedUnits$Store", "symbolsOf", "(I)I"⟩, 18), (⟨"LinkedUnits$Tape", "begin", "()V"⟩, 5), (⟨"LinkedUnits$Tape", "byteAt", "(I)I"⟩, 5), (⟨"LinkedUnits$Tape", "give", "(I)I"⟩, 5), (⟨"LinkedUnits$Tape", "next", "()I"⟩, 5), (⟨"LinkedUnits$Tape", "print", "(I)Z"⟩, 5), (⟨"LinkedUnits$Tape", "put", "(I)Z"⟩, 5)]
set_option maxRecDepth 100000 in
theorem lw_pv3_ok : ∀ q ∈ lw_pv3, lw_okq q := (List.forall_mem_cons.mpr ⟨lw_p120, (List.forall_mem_cons.mpr ⟨lw_p121, (List.forall_mem_cons.mpr ⟨lw_p122, (List.forall_mem_cons.mpr ⟨lw_p123, (List.forall_mem_cons.mpr ⟨lw_p124, (List.forall_mem_cons.mpr ⟨lw_p125, (List.forall_mem_cons.mpr ⟨lw_p126, (List.forall_mem_cons.mpr ⟨lw_p127, (List.forall_mem_cons.mpr ⟨lw_p128, (List.forall_mem_cons.mpr ⟨lw_p129, (List.forall_mem_cons.mpr ⟨lw_p130, (List.forall_mem_cons.mpr ⟨lw_p131, (List.forall_mem_cons.mpr ⟨lw_p132, (List.forall_mem_cons.mpr ⟨lw_p133, (List.forall_mem_cons.mpr ⟨lw_p134, (List.forall_mem_cons.mpr ⟨lw_p135, (List.forall_mem_cons.mpr ⟨lw_p136, (List.forall_mem_cons.mpr ⟨lw_p137, (List.forall_mem_cons.mpr ⟨lw_p138, (List.forall_mem_cons.mpr ⟨lw_p139, (List.forall_mem_cons.mpr ⟨lw_p140, (List.forall_mem_cons.mpr ⟨lw_p141, (List.forall_mem_cons.mpr ⟨lw_p142, (List.forall_mem_cons.mpr ⟨lw_p143, (List.forall_mem_cons.mpr ⟨lw_p144, (List.forall_mem_cons.mpr ⟨lw_p145, (List.forall_mem_cons.mpr ⟨lw_p146, (List.forall_mem_cons.mpr ⟨lw_p147, (List.forall_mem_cons.mpr ⟨lw_p148, (List.forall_mem_cons.mpr ⟨lw_p149, (List.forall_mem_cons.mpr ⟨lw_p150, (List.forall_mem_cons.mpr ⟨lw_p151, (List.forall_mem_cons.mpr ⟨lw_p152, (List.forall_mem_cons.mpr ⟨lw_p153, (List.forall_mem_cons.mpr ⟨lw_p154, (List.forall_mem_cons.mpr ⟨lw_p155, (List.forall_mem_cons.mpr ⟨lw_p156, (List.forall_mem_cons.mpr ⟨lw_p157, (List.forall_mem_cons.mpr ⟨lw_p158, (List.forall_mem_cons.mpr ⟨lw_p159, (fun _ h => absurd h List.not_mem_nil)⟩)⟩)⟩)⟩)⟩)⟩)⟩)⟩)⟩)⟩)⟩)⟩)⟩)⟩)⟩)⟩)⟩)⟩)⟩)⟩)⟩)⟩)⟩)⟩)⟩)⟩)⟩)⟩)⟩)⟩)⟩)⟩)⟩)⟩)⟩)⟩)⟩)⟩)⟩)⟩)
def lw_pv4 : List (MethodName × Nat) := [(⟨"LinkedUnits$Tape", "useUp", "()V"⟩, 5), (⟨"LinkedUnits$Tokens", "add", "(III)Z"⟩, 10), (⟨"LinkedUnits$Tokens", "bad", "(I)Z"⟩, 10), (⟨"LinkedUnits$Tokens", "byteAt", "(I)I"⟩, 10), (⟨"LinkedUnits$Tokens", "character", "()Z"⟩, 10), (⟨"LinkedUnits$Tokens", "codeAt", "(II)I"⟩, 10), (⟨"LinkedUnits$Tokens", "digits", "()Z"⟩, 10), (⟨"LinkedUnits$Tokens", "isNext", "(Ljava/lang/String;II)Z"⟩, 10), (⟨"LinkedUnits$Tokens", "listed", "(Ljava/lang/String;I)I"⟩, 10), (⟨"LinkedUnits$Tokens", "readCodes", "(I)I"⟩, 10), (⟨"LinkedUnits$Tokens", "sameName", "(II)Z"⟩, 10), (⟨"LinkedUnits$Tokens", "scan", "(I)V"⟩, 10), (⟨"LinkedUnits$Tokens", "sign", "()Z"⟩, 10), (⟨"LinkedUnits$Tokens", "sixteens", "()Z"⟩, 10), (⟨"LinkedUnits$Tokens", "skipBlanks", "()Z"⟩, 10), (⟨"LinkedUnits$Tokens", "skipComment", "()Z"⟩, 10), (⟨"LinkedUnits$Tokens", "skipLine", "()Z"⟩, 10), (⟨"LinkedUnits$Tokens", "string", "()Z"⟩, 10), (⟨"LinkedUnits$Tokens", "token", "()Z"⟩, 10), (⟨"LinkedUnits$Tokens", "widthAt", "(I)I"⟩, 10), (⟨"LinkedUnits$Tokens", "word", "()Z"⟩, 10), (⟨"LinkedUnits$Unit", "begin", "(I)V"⟩, 19), (⟨"LinkedUnits$Unit", "close", "()V"⟩, 19), (⟨"LinkedUnits$Unit", "declareLocal", "(III)V"⟩, 19), (⟨"LinkedUnits$Unit", "declareOuter", "(I)I"⟩, 19), (⟨"LinkedUnits$Unit", "enter", "(I)V"⟩, 19), (⟨"LinkedUnits$Unit", "fail", "(II)V"⟩, 19), (⟨"LinkedUnits$Unit", "finish", "()V"⟩, 19), (⟨"LinkedUnits$Unit", "leave", "()V"⟩, 19), (⟨"LinkedUnits$Unit", "localFrom", "(II)I"⟩, 19), (⟨"LinkedUnits$Unit", "mentionCall", "(II)V"⟩, 19), (⟨"LinkedUnits$Unit", "open", "()V"⟩, 19), (⟨"LinkedUnits$Unit", "outerOf", "(I)I"⟩, 19), (⟨"LinkedUnits$Unit", "scopeStart", "()I"⟩, 19), (⟨"LinkedUnitsModel", "accept", "(I)Z"⟩, 100), (⟨"LinkedUnitsModel", "aim", "(I)V"⟩, 100), (⟨"LinkedUnitsModel", "aimAll", "(II)V"⟩, 100), (⟨"LinkedUnitsModel", "aimOf", "(III)I"⟩, 100), (⟨"LinkedUnitsModel", "among", "(IILjava/lang/String;)I"⟩, 100), (⟨"LinkedUnitsModel", "bad", "(I)I"⟩, 100)]
set_option maxRecDepth 100000 in
theorem lw_pv4_ok : ∀ q ∈ lw_pv4, lw_okq q := (List.forall_mem_cons.mpr ⟨lw_p160, (List.forall_mem_cons.mpr ⟨lw_p161, (List.forall_mem_cons.mpr ⟨lw_p162, (List.forall_mem_cons.mpr ⟨lw_p163, (List.forall_mem_cons.mpr ⟨lw_p164, (List.forall_mem_cons.mpr ⟨lw_p165, (List.forall_mem_cons.mpr ⟨lw_p166, (List.forall_mem_cons.mpr ⟨lw_p167, (List.forall_mem_cons.mpr ⟨lw_p168, (List.forall_mem_cons.mpr ⟨lw_p169, (List.forall_mem_cons.mpr ⟨lw_p170, (List.forall_mem_cons.mpr ⟨lw_p171, (List.forall_mem_cons.mpr ⟨lw_p172, (List.forall_mem_cons.mpr ⟨lw_p173, (List.forall_mem_cons.mpr ⟨lw_p174, (List.forall_mem_cons.mpr ⟨lw_p175, (List.forall_mem_cons.mpr ⟨lw_p176, (List.forall_mem_cons.mpr ⟨lw_p177, (List.forall_mem_cons.mpr ⟨lw_p178, (List.forall_mem_cons.mpr ⟨lw_p179, (List.forall_mem_cons.mpr ⟨lw_p180, (List.forall_mem_cons.mpr ⟨lw_p181, (List.forall_mem_cons.mpr ⟨lw_p182, (List.forall_mem_cons.mpr ⟨lw_p183, (List.forall_mem_cons.mpr ⟨lw_p184, (List.forall_mem_cons.mpr ⟨lw_p185, (List.forall_mem_cons.mpr ⟨lw_p186, (List.forall_mem_cons.mpr ⟨lw_p187, (List.forall_mem_cons.mpr ⟨lw_p188, (List.forall_mem_cons.mpr ⟨lw_p189, (List.forall_mem_cons.mpr ⟨lw_p190, (List.forall_mem_cons.mpr ⟨lw_p191, (List.forall_mem_cons.mpr ⟨lw_p192, (List.forall_mem_cons.mpr ⟨lw_p193, (List.forall_mem_cons.mpr ⟨lw_p194, (List.forall_mem_cons.mpr ⟨lw_p195, (List.forall_mem_cons.mpr ⟨lw_p196, (List.forall_mem_cons.mpr ⟨lw_p197, (List.forall_mem_cons.mpr ⟨lw_p198, (List.forall_mem_cons.mpr ⟨lw_p199, (fun _ h => absurd h List.not_mem_nil)⟩)⟩)⟩)⟩)⟩)⟩)⟩)⟩)⟩)⟩)⟩)⟩)⟩)⟩)⟩)⟩)⟩)⟩)⟩)⟩)⟩)⟩)⟩)⟩)⟩)⟩)⟩)⟩)⟩)⟩)⟩)⟩)⟩)⟩)⟩)⟩)⟩)⟩)⟩)⟩)
def lw_pv5 : List (MethodName × Nat) := [(⟨"LinkedUnitsModel", "behind", "(I)LLinkedUnitsModel$Value;"⟩, 100), (⟨"LinkedUnitsModel", "binary", "(II)LLinkedUnitsModel$Value;"⟩, 100), (⟨"LinkedUnitsModel", "block", "(I)V"⟩, 100), (⟨"LinkedUnitsModel", "bodiless", "()V"⟩, 100), (⟨"LinkedUnitsModel", "bodyOf", "(I)V"⟩, 100), (⟨"LinkedUnitsModel", "braces", "(IIIIZ)Z"⟩, 100), (⟨"LinkedUnitsModel", "call", "(II)LLinkedUnitsModel$Value;"⟩, 100), (⟨"LinkedUnitsModel", "call", "(III)I"⟩, 100), (⟨"LinkedUnitsModel", "choice", "(I)LLinkedUnitsModel$Value;"⟩, 100), (⟨"LinkedUnitsModel", "clear", "(I)V"⟩, 100), (⟨"LinkedUnitsModel", "close", "()V"⟩, 100), (⟨"LinkedUnitsModel", "code", "(II)I"⟩, 100), (⟨"LinkedUnitsModel", "codeEnd", "(II)I"⟩, 100), (⟨"LinkedUnitsModel", "codes", "(II)V"⟩, 100), (⟨"LinkedUnitsModel", "condition", "(I)V"⟩, 100), (⟨"LinkedUnitsModel", "cut", "()V"⟩, 100), (⟨"LinkedUnitsModel", "decided", "(ILLinkedUnitsModel$Value;II)LLinkedUnitsModel$Value;"⟩, 100), (⟨"LinkedUnitsModel", "declare", "(II)I"⟩, 100), (⟨"LinkedUnitsModel", "declareLocal", "(II)I"⟩, 100), (⟨"LinkedUnitsModel", "deeper", "(I)I"⟩, 100), (⟨"LinkedUnitsModel", "doStatement", "(II)V"⟩, 100), (⟨"LinkedUnitsModel", "emit", "(II)V"⟩, 100), (⟨"LinkedUnitsModel", "ends", "(III)V"⟩, 100), (⟨"LinkedUnitsModel", "enter", "(IIII)V"⟩, 100), (⟨"LinkedUnitsModel", "entity", "(I)I"⟩, 100), (⟨"LinkedUnitsModel", "expect", "(I)V"⟩, 100), (⟨"LinkedUnitsModel", "expression", "(I)LLinkedUnitsModel$Value;"⟩, 100), (⟨"LinkedUnitsModel", "fill", "(IIIZ)V"⟩, 100), (⟨"LinkedUnitsModel", "find", "(II)Z"⟩, 100), (⟨"LinkedUnitsModel", "forStatement", "(II)V"⟩, 100), (⟨"LinkedUnitsModel", "function", "(IIZ)V"⟩, 100), (⟨"LinkedUnitsModel", "getLocal", "(I)I"⟩, 100), (⟨"LinkedUnitsModel", "globalName", "(IIIZZ)I"⟩, 100), (⟨"LinkedUnitsModel", "hasLibraryType", "(II)Z"⟩, 100), (⟨"LinkedUnitsModel", "hasType", "(II)Z"⟩, 100), (⟨"LinkedUnitsModel", "head", "()V"⟩, 100), (⟨"LinkedUnitsModel", "hold", "(II)V"⟩, 100), (⟨"LinkedUnitsModel", "holds", "(IIII)Z"⟩, 100), (⟨"LinkedUnitsModel", "init", "(III)V"⟩, 100), (⟨"LinkedUnitsModel", "inner", "(I)V"⟩, 100)]
set_option maxRecDepth 100000 in
theorem lw_pv5_ok : ∀ q ∈ lw_pv5, lw_okq q := (List.forall_mem_cons.mpr ⟨lw_p200, (List.forall_mem_cons.mpr ⟨lw_p201, (List.forall_mem_cons.mpr ⟨lw_p202, (List.forall_mem_cons.mpr ⟨lw_p203, (List.forall_mem_cons.mpr ⟨lw_p204, (List.forall_mem_cons.mpr ⟨lw_p205, (List.forall_mem_cons.mpr ⟨lw_p206, (List.forall_mem_cons.mpr ⟨lw_p207, (List.forall_mem_cons.mpr ⟨lw_p208, (List.forall_mem_cons.mpr ⟨lw_p209, (List.forall_mem_cons.mpr ⟨lw_p210, (List.forall_mem_cons.mpr ⟨lw_p211, (List.forall_mem_cons.mpr ⟨lw_p212, (List.forall_mem_cons.mpr ⟨lw_p213, (List.forall_mem_cons.mpr ⟨lw_p214, (List.forall_mem_cons.mpr ⟨lw_p215, (List.forall_mem_cons.mpr ⟨lw_p216, (List.forall_mem_cons.mpr ⟨lw_p217, (List.forall_mem_cons.mpr ⟨lw_p218, (List.forall_mem_cons.mpr ⟨lw_p219, (List.forall_mem_cons.mpr ⟨lw_p220, (List.forall_mem_cons.mpr ⟨lw_p221, (List.forall_mem_cons.mpr ⟨lw_p222, (List.forall_mem_cons.mpr ⟨lw_p223, (List.forall_mem_cons.mpr ⟨lw_p224, (List.forall_mem_cons.mpr ⟨lw_p225, (List.forall_mem_cons.mpr ⟨lw_p226, (List.forall_mem_cons.mpr ⟨lw_p227, (List.forall_mem_cons.mpr ⟨lw_p228, (List.forall_mem_cons.mpr ⟨lw_p229, (List.forall_mem_cons.mpr ⟨lw_p230, (List.forall_mem_cons.mpr ⟨lw_p231, (List.forall_mem_cons.mpr ⟨lw_p232, (List.forall_mem_cons.mpr ⟨lw_p233, (List.forall_mem_cons.mpr ⟨lw_p234, (List.forall_mem_cons.mpr ⟨lw_p235, (List.forall_mem_cons.mpr ⟨lw_p236, (List.forall_mem_cons.mpr ⟨lw_p237, (List.forall_mem_cons.mpr ⟨lw_p238, (List.forall_mem_cons.mpr ⟨lw_p239, (fun _ h => absurd h List.not_mem_nil)⟩)⟩)⟩)⟩)⟩)⟩)⟩)⟩)⟩)⟩)⟩)⟩)⟩)⟩)⟩)⟩)⟩)⟩)⟩)⟩)⟩)⟩)⟩)⟩)⟩)⟩)⟩)⟩)⟩)⟩)⟩)⟩)⟩)⟩)⟩)⟩)⟩)⟩)⟩)⟩)
def lw_pv6 : List (MethodName × Nat) := [(⟨"LinkedUnitsModel", "is", "(I)Z"⟩, 100), (⟨"LinkedUnitsModel", "isAlike", "(II)Z"⟩, 100), (⟨"LinkedUnitsModel", "isFault", "(II)Z"⟩, 100), (⟨"LinkedUnitsModel", "isHeldHere", "(I)Z"⟩, 100), (⟨"LinkedUnitsModel", "isInitial", "(LLinkedUnitsModel$Value;I)Z"⟩, 100), (⟨"LinkedUnitsModel", "isNamed", "(II)Z"⟩, 100), (⟨"LinkedUnitsModel", "isObject", "(I)Z"⟩, 100), (⟨"LinkedUnitsModel", "isSame", "(II)Z"⟩, 100), (⟨"LinkedUnitsModel", "isSameHead", "(II)Z"⟩, 100), (⟨"LinkedUnitsModel", "isSymbol", "(IZ)Z"⟩, 100), (⟨"LinkedUnitsModel", "isTray", "(II)Z"⟩, 100), (⟨"LinkedUnitsModel", "isWord", "(I)Z"⟩, 100), (⟨"LinkedUnitsModel", "item", "()V"⟩, 100), (⟨"LinkedUnitsModel", "lay", "(III)V"⟩, 100), (⟨"LinkedUnitsModel", "layAll", "(I)V"⟩, 100), (⟨"LinkedUnitsModel", "leave", "(Z)I"⟩, 100), (⟨"LinkedUnitsModel", "library", "(I)I"⟩, 100), (⟨"LinkedUnitsModel", "library", "(II)V"⟩, 100), (⟨"LinkedUnitsModel", "lineEnd", "(I)I"⟩, 100), (⟨"LinkedUnitsModel", "local", "(I)I"⟩, 100), (⟨"LinkedUnitsModel", "localName", "(III)I"⟩, 100), (⟨"LinkedUnitsModel", "look", "(I)I"⟩, 100), (⟨"LinkedUnitsModel", "loop", "(III)V"⟩, 100), (⟨"LinkedUnitsModel", "made", "(ILLinkedUnitsModel$Value;LLinkedUnitsModel$Value;I)LLinkedUnitsModel$Value;"⟩, 100), (⟨"LinkedUnitsModel", "mainOf", "(I)I"⟩, 100), (⟨"LinkedUnitsModel", "must", "(ZI)V"⟩, 100), (⟨"LinkedUnitsModel", "nameEnd", "(II)I"⟩, 100), (⟨"LinkedUnitsModel", "named", "(I)LLinkedUnitsModel$Value;"⟩, 100), (⟨"LinkedUnitsModel", "numberEnd", "(II)I"⟩, 100), (⟨"LinkedUnitsModel", "one", "(II)I"⟩, 100), (⟨"LinkedUnitsModel", "one", "(IIIZ)Z"⟩, 100), (⟨"LinkedUnitsModel", "one", "(ILLinkedUnitsModel$Value;I)LLinkedUnitsModel$Value;"⟩, 100), (⟨"LinkedUnitsModel", "oneInitial", "(IIZ)Z"⟩, 100), (⟨"LinkedUnitsModel", "open", "(I)I"⟩, 100), (⟨"LinkedUnitsModel", "parametersOf", "(I)I"⟩, 100), (⟨"LinkedUnitsModel", "plain", "()V"⟩, 100), (⟨"LinkedUnitsModel", "pointed", "(LLinkedUnitsModel$Value;I)LLinkedUnitsModel$Value;"⟩, 100), (⟨"LinkedUnitsModel", "pointedTo", "(LLinkedUnitsModel$Value;I)LLinkedUnitsModel$Value;"⟩, 100), (⟨"LinkedUnitsModel", "pop", "()I"⟩, 100), (⟨"LinkedUnitsModel", "primary", "(I)LLinkedUnitsModel$Value;"⟩, 100)]
set_option maxRecDepth 100000 in
theorem lw_pv6_ok : ∀ q ∈ lw_pv6, lw_okq q := (List.forall_mem_cons.mpr ⟨lw_p240, (List.forall_mem_cons.mpr ⟨lw_p241, (List.forall_mem_cons.mpr ⟨lw_p242, (List.forall_mem_cons.mpr ⟨lw_p243, (List.forall_mem_cons.mpr ⟨lw_p244, (List.forall_mem_cons.mpr ⟨lw_p245, (List.forall_mem_cons.mpr ⟨lw_p246, (List.forall_mem_cons.mpr ⟨lw_p247, (List.forall_mem_cons.mpr ⟨lw_p248, (List.forall_mem_cons.mpr ⟨lw_p249, (List.forall_mem_cons.mpr ⟨lw_p250, (List.forall_mem_cons.mpr ⟨lw_p251, (List.forall_mem_cons.mpr ⟨lw_p252, (List.forall_mem_cons.mpr ⟨lw_p253, (List.forall_mem_cons.mpr ⟨lw_p254, (List.forall_mem_cons.mpr ⟨lw_p255, (List.forall_mem_cons.mpr ⟨lw_p256, (List.forall_mem_cons.mpr ⟨lw_p257, (List.forall_mem_cons.mpr ⟨lw_p258, (List.forall_mem_cons.mpr ⟨lw_p259, (List.forall_mem_cons.mpr ⟨lw_p260, (List.forall_mem_cons.mpr ⟨lw_p261, (List.forall_mem_cons.mpr ⟨lw_p262, (List.forall_mem_cons.mpr ⟨lw_p263, (List.forall_mem_cons.mpr ⟨lw_p264, (List.forall_mem_cons.mpr ⟨lw_p265, (List.forall_mem_cons.mpr ⟨lw_p266, (List.forall_mem_cons.mpr ⟨lw_p267, (List.forall_mem_cons.mpr ⟨lw_p268, (List.forall_mem_cons.mpr ⟨lw_p269, (List.forall_mem_cons.mpr ⟨lw_p270, (List.forall_mem_cons.mpr ⟨lw_p271, (List.forall_mem_cons.mpr ⟨lw_p272, (List.forall_mem_cons.mpr ⟨lw_p273, (List.forall_mem_cons.mpr ⟨lw_p274, (List.forall_mem_cons.mpr ⟨lw_p275, (List.forall_mem_cons.mpr ⟨lw_p276, (List.forall_mem_cons.mpr ⟨lw_p277, (List.forall_mem_cons.mpr ⟨lw_p278, (List.forall_mem_cons.mpr ⟨lw_p279, (fun _ h => absurd h List.not_mem_nil)⟩)⟩)⟩)⟩)⟩)⟩)⟩)⟩)⟩)⟩)⟩)⟩)⟩)⟩)⟩)⟩)⟩)⟩)⟩)⟩)⟩)⟩)⟩)⟩)⟩)⟩)⟩)⟩)⟩)⟩)⟩)⟩)⟩)⟩)⟩)⟩)⟩)⟩)⟩)⟩)
def lw_pv7 : List (MethodName × Nat) := [(⟨"LinkedUnitsModel", "print", "(II)V"⟩, 100), (⟨"LinkedUnitsModel", "push", "(I)V"⟩, 100), (⟨"LinkedUnitsModel", "put", "(I)V"⟩, 100), (⟨"LinkedUnitsModel", "put", "(II)V"⟩, 100), (⟨"LinkedUnitsModel", "put", "(III)V"⟩, 100), (⟨"LinkedUnitsModel", "read", "()I"⟩, 100), (⟨"LinkedUnitsModel", "read", "(LLinkedUnitsModel$Value;)V"⟩, 100), (⟨"LinkedUnitsModel", "read", "(LLinkedUnitsModel$Value;Z)V"⟩, 100), (⟨"LinkedUnitsModel", "remarkEnd", "(II)I"⟩, 100), (⟨"LinkedUnitsModel", "returnStatement", "(I)V"⟩, 100), (⟨"LinkedUnitsModel", "rowInitial", "(IIIZ)Z"⟩, 100), (⟨"LinkedUnitsModel", "rowOf", "(I)I"⟩, 100), (⟨"LinkedUnitsModel", "setLocal", "(II)V"⟩, 100), (⟨"LinkedUnitsModel", "sign", "()I"⟩, 100), (⟨"LinkedUnitsModel", "signEnd", "(II)I"⟩, 100), (⟨"LinkedUnitsModel", "sizeAt", "()I"⟩, 100), (⟨"LinkedUnitsModel", "stars", "()I"⟩, 100), (⟨"LinkedUnitsModel", "statement", "(I)V"⟩, 100), (⟨"LinkedUnitsModel", "step", "(I)I"⟩, 100), (⟨"LinkedUnitsModel", "stepMore", "(II)I"⟩, 100), (⟨"LinkedUnitsModel", "stepped", "(LLinkedUnitsModel$Value;III)LLinkedUnitsModel$Value;"⟩, 100), (⟨"LinkedUnitsModel", "stringEnd", "(II)I"⟩, 100), (⟨"LinkedUnitsModel", "symbolAt", "(II)I"⟩, 100), (⟨"LinkedUnitsModel", "symbols", "(I)I"⟩, 100), (⟨"LinkedUnitsModel", "tell", "(II)V"⟩, 100), (⟨"LinkedUnitsModel", "text", "(I)LLinkedUnitsModel$Value;"⟩, 100), (⟨"LinkedUnitsModel", "token", "(IIIII)V"⟩, 100), (⟨"LinkedUnitsModel", "told", "()I"⟩, 100), (⟨"LinkedUnitsModel", "trapped", "(II)V"⟩, 100), (⟨"LinkedUnitsModel", "two", "(ILLinkedUnitsModel$Value;LLinkedUnitsModel$Value;I)LLinkedUnitsModel$Value;"⟩, 100), (⟨"LinkedUnitsModel", "unary", "(I)LLinkedUnitsModel$Value;"⟩, 100), (⟨"LinkedUnitsModel", "variable", "(IIZZZ)V"⟩, 100), (⟨"LinkedUnitsModel", "variables", "(ZZZ)V"⟩, 100), (⟨"LinkedUnitsModel", "wrong", "()Ljava/lang/IllegalStateException;"⟩, 100), (⟨"LinkedUnitsModel", "wrongAt", "(I)Ljava/lang/IllegalStateException;"⟩, 100)]
set_option maxRecDepth 100000 in
theorem lw_pv7_ok : ∀ q ∈ lw_pv7, lw_okq q := (List.forall_mem_cons.mpr ⟨lw_p280, (List.forall_mem_cons.mpr ⟨lw_p281, (List.forall_mem_cons.mpr ⟨lw_p282, (List.forall_mem_cons.mpr ⟨lw_p283, (List.forall_mem_cons.mpr ⟨lw_p284, (List.forall_mem_cons.mpr ⟨lw_p285, (List.forall_mem_cons.mpr ⟨lw_p286, (List.forall_mem_cons.mpr ⟨lw_p287, (List.forall_mem_cons.mpr ⟨lw_p288, (List.forall_mem_cons.mpr ⟨lw_p289, (List.forall_mem_cons.mpr ⟨lw_p290, (List.forall_mem_cons.mpr ⟨lw_p291, (List.forall_mem_cons.mpr ⟨lw_p292, (List.forall_mem_cons.mpr ⟨lw_p293, (List.forall_mem_cons.mpr ⟨lw_p294, (List.forall_mem_cons.mpr ⟨lw_p295, (List.forall_mem_cons.mpr ⟨lw_p296, (List.forall_mem_cons.mpr ⟨lw_p297, (List.forall_mem_cons.mpr ⟨lw_p298, (List.forall_mem_cons.mpr ⟨lw_p299, (List.forall_mem_cons.mpr ⟨lw_p300, (List.forall_mem_cons.mpr ⟨lw_p301, (List.forall_mem_cons.mpr ⟨lw_p302, (List.forall_mem_cons.mpr ⟨lw_p303, (List.forall_mem_cons.mpr ⟨lw_p304, (List.forall_mem_cons.mpr ⟨lw_p305, (List.forall_mem_cons.mpr ⟨lw_p306, (List.forall_mem_cons.mpr ⟨lw_p307, (List.forall_mem_cons.mpr ⟨lw_p308, (List.forall_mem_cons.mpr ⟨lw_p309, (List.forall_mem_cons.mpr ⟨lw_p310, (List.forall_mem_cons.mpr ⟨lw_p311, (List.forall_mem_cons.mpr ⟨lw_p312, (List.forall_mem_cons.mpr ⟨lw_p313, (List.forall_mem_cons.mpr ⟨lw_p314, (fun _ h => absurd h List.not_mem_nil)⟩)⟩)⟩)⟩)⟩)⟩)⟩)⟩)⟩)⟩)⟩)⟩)⟩)⟩)⟩)⟩)⟩)⟩)⟩)⟩)⟩)⟩)⟩)⟩)⟩)⟩)⟩)⟩)⟩)⟩)⟩)⟩)⟩)⟩)⟩)
def lw_privs : List (MethodName × Nat) := lw_pv0 ++ lw_pv1 ++ lw_pv2 ++ lw_pv3 ++ lw_pv4 ++ lw_pv5 ++ lw_pv6 ++ lw_pv7
theorem lw_privs_ok : ∀ q ∈ lw_privs, lw_okq q := fun q h => by
  unfold lw_privs at h
  simp only [List.mem_append] at h
  rcases h with (((((((h | h) | h) | h) | h) | h) | h) | h)
  · exact lw_pv0_ok q h
  · exact lw_pv1_ok q h
  · exact lw_pv2_ok q h
  · exact lw_pv3_ok q h
  · exact lw_pv4_ok q h
  · exact lw_pv5_ok q h
  · exact lw_pv6_ok q h
  · exact lw_pv7_ok q h
def lw_tbl : List Cond := k2_sels lw_privs ++ tables_1
def TX0 : u_T := fun k => match k with
  | 0 => ("LinkedUnits$Code", "words", "[I", true)
  | _ => ("LinkedUnits$Code", "length", "I", false)
def tyX0 : Nat → FieldType := fun k => match k with
  | 0 => .array .int
  | _ => .int
theorem nmX0 : ∀ a, a < 2 → ∀ b, b < 2 → a ≠ b → (TX0 a).2.1 ≠ (TX0 b).2.1 := by decide +kernel
theorem tyX0_ok : ∀ k, k < 2 → parseFieldDescriptor (TX0 k).2.2.1 = some (tyX0 k) := by decide +kernel
def TX1 : u_T := fun k => match k with
  | 0 => ("LinkedUnits$Declarations", "grammar", "LLinkedUnits$Grammar;", true)
  | 1 => ("LinkedUnits$Declarations", "tokens", "LLinkedUnits$Tokens;", true)
  | 2 => ("LinkedUnits$Declarations", "unit", "LLinkedUnits$Unit;", true)
  | 3 => ("LinkedUnits$Declarations", "store", "LLinkedUnits$Store;", true)
  | 4 => ("LinkedUnits$Declarations", "code", "LLinkedUnits$Code;", true)
  | 5 => ("LinkedUnits$Declarations", "expressions", "LLinkedUnits$Expressions;", true)
  | 6 => ("LinkedUnits$Declarations", "square", "I", false)
  | 7 => ("LinkedUnits$Declarations", "size", "I", false)
  | 8 => ("LinkedUnits$Declarations", "given", "I", false)
  | 9 => ("LinkedUnits$Declarations", "isLocal", "Z", false)
  | 10 => ("LinkedUnits$Declarations", "variable", "I", false)
  | 11 => ("LinkedUnits$Declarations", "type", "I", false)
  | 12 => ("LinkedUnits$Declarations", "extent", "I", false)
  | 13 => ("LinkedUnits$Declarations", "isExtern", "Z", false)
  | 14 => ("LinkedUnits$Declarations", "firstCell", "I", false)
  | 15 => ("LinkedUnits$Declarations", "items", "I", false)
  | 16 => ("LinkedUnits$Declarations", "misfit", "Z", false)
  | _ => ("LinkedUnits$Declarations", "cellPlaces", "[I", true)
def tyX1 : Nat → FieldType := fun k => match k with
  | 0 => .object "LinkedUnits$Grammar"
  | 1 => .object "LinkedUnits$Tokens"
  | 2 => .object "LinkedUnits$Unit"
  | 3 => .object "LinkedUnits$Store"
  | 4 => .object "LinkedUnits$Code"
  | 5 => .object "LinkedUnits$Expressions"
  | 6 => .int
  | 7 => .int
  | 8 => .int
  | 9 => .boolean
  | 10 => .int
  | 11 => .int
  | 12 => .int
  | 13 => .boolean
  | 14 => .int
  | 15 => .int
  | 16 => .boolean
  | _ => .array .int
theorem nmX1 : ∀ a, a < 18 → ∀ b, b < 18 → a ≠ b → (TX1 a).2.1 ≠ (TX1 b).2.1 := by decide +kernel
theorem tyX1_ok : ∀ k, k < 18 → parseFieldDescriptor (TX1 k).2.2.1 = some (tyX1 k) := by decide +kernel
def TX2 : u_T := fun k => match k with
  | 0 => ("LinkedUnits$Expressions", "grammar", "LLinkedUnits$Grammar;", true)
  | 1 => ("LinkedUnits$Expressions", "tokens", "LLinkedUnits$Tokens;", true)
  | 2 => ("LinkedUnits$Expressions", "unit", "LLinkedUnits$Unit;", true)
  | 3 => ("LinkedUnits$Expressions", "store", "LLinkedUnits$Store;", true)
  | 4 => ("LinkedUnits$Expressions", "code", "LLinkedUnits$Code;", true)
  | 5 => ("LinkedUnits$Expressions", "operands", "[LLinkedUnits$Operand;", true)
  | 6 => ("LinkedUnits$Expressions", "none", "LLinkedUnits$Operand;", true)
  | _ => ("LinkedUnits$Expressions", "count", "I", false)
def tyX2 : Nat → FieldType := fun k => match k with
  | 0 => .object "LinkedUnits$Grammar"
  | 1 => .object "LinkedUnits$Tokens"
  | 2 => .object "LinkedUnits$Unit"
  | 3 => .object "LinkedUnits$Store"
  | 4 => .object "LinkedUnits$Code"
  | 5 => .array (.object "LinkedUnits$Operand")
  | 6 => .object "LinkedUnits$Operand"
  | _ => .int
theorem nmX2 : ∀ a, a < 8 → ∀ b, b < 8 → a ≠ b → (TX2 a).2.1 ≠ (TX2 b).2.1 := by decide +kernel
theorem tyX2_ok : ∀ k, k < 8 → parseFieldDescriptor (TX2 k).2.2.1 = some (tyX2 k) := by decide +kernel
def TX3 : u_T := fun k => match k with
  | 0 => ("LinkedUnits$Grammar", "tokens", "LLinkedUnits$Tokens;", true)
  | 1 => ("LinkedUnits$Grammar", "position", "I", false)
  | 2 => ("LinkedUnits$Grammar", "kind", "I", false)
  | 3 => ("LinkedUnits$Grammar", "wrong", "I", false)
  | 4 => ("LinkedUnits$Grammar", "count", "I", false)
  | 5 => ("LinkedUnits$Grammar", "acts", "[I", true)
  | 6 => ("LinkedUnits$Grammar", "ats", "[I", true)
  | 7 => ("LinkedUnits$Grammar", "firsts", "[I", true)
  | 8 => ("LinkedUnits$Grammar", "seconds", "[I", true)
  | 9 => ("LinkedUnits$Grammar", "pending", "I", false)
  | 10 => ("LinkedUnits$Grammar", "operators", "[I", true)
  | _ => ("LinkedUnits$Grammar", "parameterAt", "[I", true)
def tyX3 : Nat → FieldType := fun k => match k with
  | 0 => .object "LinkedUnits$Tokens"
  | 1 => .int
  | 2 => .int
  | 3 => .int
  | 4 => .int
  | 5 => .array .int
  | 6 => .array .int
  | 7 => .array .int
  | 8 => .array .int
  | 9 => .int
  | 10 => .array .int
  | _ => .array .int
theorem nmX3 : ∀ a, a < 12 → ∀ b, b < 12 → a ≠ b → (TX3 a).2.1 ≠ (TX3 b).2.1 := by decide +kernel
theorem tyX3_ok : ∀ k, k < 12 → parseFieldDescriptor (TX3 k).2.2.1 = some (tyX3 k) := by decide +kernel
def TX4 : u_T := fun k => match k with
  | 0 => ("LinkedUnits$Image", "store", "LLinkedUnits$Store;", true)
  | 1 => ("LinkedUnits$Image", "mainName", "[B", true)
  | 2 => ("LinkedUnits$Image", "ready", "Z", false)
  | 3 => ("LinkedUnits$Image", "faultObject", "I", false)
  | 4 => ("LinkedUnits$Image", "faultSymbol", "I", false)
  | 5 => ("LinkedUnits$Image", "picks", "I", false)
  | 6 => ("LinkedUnits$Image", "picked", "[I", true)
  | 7 => ("LinkedUnits$Image", "links", "I", false)
  | 8 => ("LinkedUnits$Image", "linked", "[I", true)
  | 9 => ("LinkedUnits$Image", "bases", "[I", true)
  | 10 => ("LinkedUnits$Image", "addresses", "[I", true)
  | _ => ("LinkedUnits$Image", "mainHeader", "I", false)
def tyX4 : Nat → FieldType := fun k => match k with
  | 0 => .object "LinkedUnits$Store"
  | 1 => .array .byte
  | 2 => .boolean
  | 3 => .int
  | 4 => .int
  | 5 => .int
  | 6 => .array .int
  | 7 => .int
  | 8 => .array .int
  | 9 => .array .int
  | 10 => .array .int
  | _ => .int
theorem nmX4 : ∀ a, a < 12 → ∀ b, b < 12 → a ≠ b → (TX4 a).2.1 ≠ (TX4 b).2.1 := by decide +kernel
theorem tyX4_ok : ∀ k, k < 12 → parseFieldDescriptor (TX4 k).2.2.1 = some (tyX4 k) := by decide +kernel
def TX5 : u_T := fun k => match k with
  | 0 => ("LinkedUnits$Machine", "store", "LLinkedUnits$Store;", true)
  | 1 => ("LinkedUnits$Machine", "image", "LLinkedUnits$Image;", true)
  | 2 => ("LinkedUnits$Machine", "tape", "LLinkedUnits$Tape;", true)
  | 3 => ("LinkedUnits$Machine", "words", "[I", true)
  | 4 => ("LinkedUnits$Machine", "memory", "[I", true)
  | 5 => ("LinkedUnits$Machine", "stack", "[I", true)
  | 6 => ("LinkedUnits$Machine", "kept", "[I", true)
  | 7 => ("LinkedUnits$Machine", "calls", "I", false)
  | 8 => ("LinkedUnits$Machine", "next", "I", false)
  | 9 => ("LinkedUnits$Machine", "top", "I", false)
  | 10 => ("LinkedUnits$Machine", "locals", "I", false)
  | 11 => ("LinkedUnits$Machine", "frame", "I", false)
  | 12 => ("LinkedUnits$Machine", "fuel", "I", false)
  | 13 => ("LinkedUnits$Machine", "outcome", "I", false)
  | 14 => ("LinkedUnits$Machine", "turned", "I", false)
  | 15 => ("LinkedUnits$Machine", "answer", "I", false)
  | 16 => ("LinkedUnits$Machine", "trapPlace", "I", false)
  | 17 => ("LinkedUnits$Machine", "trapLine", "I", false)
  | _ => ("LinkedUnits$Machine", "strayed", "I", false)
def tyX5 : Nat → FieldType := fun k => match k with
  | 0 => .object "LinkedUnits$Store"
  | 1 => .object "LinkedUnits$Image"
  | 2 => .object "LinkedUnits$Tape"
  | 3 => .array .int
  | 4 => .array .int
  | 5 => .array .int
  | 6 => .array .int
  | 7 => .int
  | 8 => .int
  | 9 => .int
  | 10 => .int
  | 11 => .int
  | 12 => .int
  | 13 => .int
  | 14 => .int
  | 15 => .int
  | 16 => .int
  | 17 => .int
  | _ => .int
theorem nmX5 : ∀ a, a < 19 → ∀ b, b < 19 → a ≠ b → (TX5 a).2.1 ≠ (TX5 b).2.1 := by decide +kernel
theorem tyX5_ok : ∀ k, k < 19 → parseFieldDescriptor (TX5 k).2.2.1 = some (tyX5 k) := by decide +kernel
def TX6 : u_T := fun k => match k with
  | 0 => ("LinkedUnits$Operand", "kind", "I", false)
  | 1 => ("LinkedUnits$Operand", "type", "I", false)
  | 2 => ("LinkedUnits$Operand", "height", "I", false)
  | 3 => ("LinkedUnits$Operand", "zero", "Z", false)
  | 4 => ("LinkedUnits$Operand", "index", "I", false)
  | 5 => ("LinkedUnits$Operand", "line", "I", false)
  | 6 => ("LinkedUnits$Operand", "form", "I", false)
  | 7 => ("LinkedUnits$Operand", "base", "I", false)
  | 8 => ("LinkedUnits$Operand", "value", "I", false)
  | 9 => ("LinkedUnits$Operand", "start", "I", false)
  | 10 => ("LinkedUnits$Operand", "jump", "I", false)
  | 11 => ("LinkedUnits$Operand", "arguments", "I", false)
  | _ => ("LinkedUnits$Operand", "misfit", "Z", false)
def tyX6 : Nat → FieldType := fun k => match k with
  | 0 => .int
  | 1 => .int
  | 2 => .int
  | 3 => .boolean
  | 4 => .int
  | 5 => .int
  | 6 => .int
  | 7 => .int
  | 8 => .int
  | 9 => .int
  | 10 => .int
  | 11 => .int
  | _ => .boolean
theorem nmX6 : ∀ a, a < 13 → ∀ b, b < 13 → a ≠ b → (TX6 a).2.1 ≠ (TX6 b).2.1 := by decide +kernel
theorem tyX6_ok : ∀ k, k < 13 → parseFieldDescriptor (TX6 k).2.2.1 = some (tyX6 k) := by decide +kernel
def TX7 : u_T := fun k => match k with
  | 0 => ("LinkedUnits$Statements", "grammar", "LLinkedUnits$Grammar;", true)
  | 1 => ("LinkedUnits$Statements", "unit", "LLinkedUnits$Unit;", true)
  | 2 => ("LinkedUnits$Statements", "code", "LLinkedUnits$Code;", true)
  | 3 => ("LinkedUnits$Statements", "expressions", "LLinkedUnits$Expressions;", true)
  | 4 => ("LinkedUnits$Statements", "declarations", "LLinkedUnits$Declarations;", true)
  | 5 => ("LinkedUnits$Statements", "open", "I", false)
  | 6 => ("LinkedUnits$Statements", "loops", "[I", true)
  | 7 => ("LinkedUnits$Statements", "tops", "[I", true)
  | 8 => ("LinkedUnits$Statements", "exits", "[I", true)
  | 9 => ("LinkedUnits$Statements", "agains", "[I", true)
  | 10 => ("LinkedUnits$Statements", "bodies", "[I", true)
  | _ => ("LinkedUnits$Statements", "lasts", "[I", true)
def tyX7 : Nat → FieldType := fun k => match k with
  | 0 => .object "LinkedUnits$Grammar"
  | 1 => .object "LinkedUnits$Unit"
  | 2 => .object "LinkedUnits$Code"
  | 3 => .object "LinkedUnits$Expressions"
  | 4 => .object "LinkedUnits$Declarations"
  | 5 => .int
  | 6 => .array .int
  | 7 => .array .int
  | 8 => .array .int
  | 9 => .array .int
  | 10 => .array .int
  | _ => .array .int
theorem nmX7 : ∀ a, a < 12 → ∀ b, b < 12 → a ≠ b → (TX7 a).2.1 ≠ (TX7 b).2.1 := by decide +kernel
theorem tyX7_ok : ∀ k, k < 12 → parseFieldDescriptor (TX7 k).2.2.1 = some (tyX7 k) := by decide +kernel
def TX8 : u_T := fun k => match k with
  | 0 => ("LinkedUnits$Store", "code", "LLinkedUnits$Code;", true)
  | 1 => ("LinkedUnits$Store", "declared", "I", false)
  | 2 => ("LinkedUnits$Store", "flags", "[I", true)
  | 3 => ("LinkedUnits$Store", "types", "[I", true)
  | 4 => ("LinkedUnits$Store", "extents", "[I", true)
  | 5 => ("LinkedUnits$Store", "values", "[I", true)
  | 6 => ("LinkedUnits$Store", "nameEnds", "[I", true)
  | 7 => ("LinkedUnits$Store", "named", "I", false)
  | 8 => ("LinkedUnits$Store", "names", "[B", true)
  | 9 => ("LinkedUnits$Store", "initials", "I", false)
  | 10 => ("LinkedUnits$Store", "initialCells", "[I", true)
  | 11 => ("LinkedUnits$Store", "initialBases", "[I", true)
  | 12 => ("LinkedUnits$Store", "initialValues", "[I", true)
  | 13 => ("LinkedUnits$Store", "objects", "I", false)
  | 14 => ("LinkedUnits$Store", "declarationEnds", "[I", true)
  | 15 => ("LinkedUnits$Store", "initialEnds", "[I", true)
  | 16 => ("LinkedUnits$Store", "codeEnds", "[I", true)
  | _ => ("LinkedUnits$Store", "dataCells", "[I", true)
def tyX8 : Nat → FieldType := fun k => match k with
  | 0 => .object "LinkedUnits$Code"
  | 1 => .int
  | 2 => .array .int
  | 3 => .array .int
  | 4 => .array .int
  | 5 => .array .int
  | 6 => .array .int
  | 7 => .int
  | 8 => .array .byte
  | 9 => .int
  | 10 => .array .int
  | 11 => .array .int
  | 12 => .array .int
  | 13 => .int
  | 14 => .array .int
  | 15 => .array .int
  | 16 => .array .int
  | _ => .array .int
theorem nmX8 : ∀ a, a < 18 → ∀ b, b < 18 → a ≠ b → (TX8 a).2.1 ≠ (TX8 b).2.1 := by decide +kernel
theorem tyX8_ok : ∀ k, k < 18 → parseFieldDescriptor (TX8 k).2.2.1 = some (tyX8 k) := by decide +kernel
def TX9 : u_T := fun k => match k with
  | 0 => ("LinkedUnits$Tape", "inputs", "I", false)
  | 1 => ("LinkedUnits$Tape", "taken", "I", false)
  | 2 => ("LinkedUnits$Tape", "outputs", "I", false)
  | 3 => ("LinkedUnits$Tape", "input", "[B", true)
  | _ => ("LinkedUnits$Tape", "output", "[B", true)
def tyX9 : Nat → FieldType := fun k => match k with
  | 0 => .int
  | 1 => .int
  | 2 => .int
  | 3 => .array .byte
  | _ => .array .byte
theorem nmX9 : ∀ a, a < 5 → ∀ b, b < 5 → a ≠ b → (TX9 a).2.1 ≠ (TX9 b).2.1 := by decide +kernel
theorem tyX9_ok : ∀ k, k < 5 → parseFieldDescriptor (TX9 k).2.2.1 = some (tyX9 k) := by decide +kernel
def TX10 : u_T := fun k => match k with
  | 0 => ("LinkedUnits$Tokens", "text", "[B", true)
  | 1 => ("LinkedUnits$Tokens", "size", "I", false)
  | 2 => ("LinkedUnits$Tokens", "position", "I", false)
  | 3 => ("LinkedUnits$Tokens", "row", "I", false)
  | 4 => ("LinkedUnits$Tokens", "count", "I", false)
  | 5 => ("LinkedUnits$Tokens", "kinds", "[I", true)
  | 6 => ("LinkedUnits$Tokens", "values", "[I", true)
  | 7 => ("LinkedUnits$Tokens", "places", "[I", true)
  | 8 => ("LinkedUnits$Tokens", "lines", "[I", true)
  | _ => ("LinkedUnits$Tokens", "codes", "[I", true)
def tyX10 : Nat → FieldType := fun k => match k with
  | 0 => .array .byte
  | 1 => .int
  | 2 => .int
  | 3 => .int
  | 4 => .int
  | 5 => .array .int
  | 6 => .array .int
  | 7 => .array .int
  | 8 => .array .int
  | _ => .array .int
theorem nmX10 : ∀ a, a < 10 → ∀ b, b < 10 → a ≠ b → (TX10 a).2.1 ≠ (TX10 b).2.1 := by decide +kernel
theorem tyX10_ok : ∀ k, k < 10 → parseFieldDescriptor (TX10 k).2.2.1 = some (tyX10 k) := by decide +kernel
def TX11 : u_T := fun k => match k with
  | 0 => ("LinkedUnits$Unit", "tokens", "LLinkedUnits$Tokens;", true)
  | 1 => ("LinkedUnits$Unit", "store", "LLinkedUnits$Store;", true)
  | 2 => ("LinkedUnits$Unit", "level", "I", false)
  | 3 => ("LinkedUnits$Unit", "fault", "I", false)
  | 4 => ("LinkedUnits$Unit", "faultToken", "I", false)
  | 5 => ("LinkedUnits$Unit", "data", "I", false)
  | 6 => ("LinkedUnits$Unit", "function", "I", false)
  | 7 => ("LinkedUnits$Unit", "outers", "I", false)
  | 8 => ("LinkedUnits$Unit", "outerTokens", "[I", true)
  | 9 => ("LinkedUnits$Unit", "callTokens", "[I", true)
  | 10 => ("LinkedUnits$Unit", "locals", "I", false)
  | 11 => ("LinkedUnits$Unit", "localTokens", "[I", true)
  | 12 => ("LinkedUnits$Unit", "localTypes", "[I", true)
  | 13 => ("LinkedUnits$Unit", "localSizes", "[I", true)
  | 14 => ("LinkedUnits$Unit", "localCells", "[I", true)
  | 15 => ("LinkedUnits$Unit", "seen", "I", false)
  | 16 => ("LinkedUnits$Unit", "seenLocals", "[I", true)
  | 17 => ("LinkedUnits$Unit", "scopes", "I", false)
  | _ => ("LinkedUnits$Unit", "scopeStarts", "[I", true)
def tyX11 : Nat → FieldType := fun k => match k with
  | 0 => .object "LinkedUnits$Tokens"
  | 1 => .object "LinkedUnits$Store"
  | 2 => .int
  | 3 => .int
  | 4 => .int
  | 5 => .int
  | 6 => .int
  | 7 => .int
  | 8 => .array .int
  | 9 => .array .int
  | 10 => .int
  | 11 => .array .int
  | 12 => .array .int
  | 13 => .array .int
  | 14 => .array .int
  | 15 => .int
  | 16 => .array .int
  | 17 => .int
  | _ => .array .int
theorem nmX11 : ∀ a, a < 19 → ∀ b, b < 19 → a ≠ b → (TX11 a).2.1 ≠ (TX11 b).2.1 := by decide +kernel
theorem tyX11_ok : ∀ k, k < 19 → parseFieldDescriptor (TX11 k).2.2.1 = some (tyX11 k) := by decide +kernel
def TX12 : u_T := fun k => match k with
  | 0 => ("LinkedUnits", "tray", "[B", true)
  | 1 => ("LinkedUnits", "held", "I", false)
  | 2 => ("LinkedUnits", "fed", "I", false)
  | 3 => ("LinkedUnits", "faultPlace", "I", false)
  | 4 => ("LinkedUnits", "tokens", "LLinkedUnits$Tokens;", true)
  | 5 => ("LinkedUnits", "grammar", "LLinkedUnits$Grammar;", true)
  | 6 => ("LinkedUnits", "code", "LLinkedUnits$Code;", true)
  | 7 => ("LinkedUnits", "store", "LLinkedUnits$Store;", true)
  | 8 => ("LinkedUnits", "unit", "LLinkedUnits$Unit;", true)
  | 9 => ("LinkedUnits", "expressions", "LLinkedUnits$Expressions;", true)
  | 10 => ("LinkedUnits", "declarations", "LLinkedUnits$Declarations;", true)
  | 11 => ("LinkedUnits", "statements", "LLinkedUnits$Statements;", true)
  | 12 => ("LinkedUnits", "image", "LLinkedUnits$Image;", true)
  | 13 => ("LinkedUnits", "tape", "LLinkedUnits$Tape;", true)
  | _ => ("LinkedUnits", "machine", "LLinkedUnits$Machine;", true)
def tyX12 : Nat → FieldType := fun k => match k with
  | 0 => .array .byte
  | 1 => .int
  | 2 => .int
  | 3 => .int
  | 4 => .object "LinkedUnits$Tokens"
  | 5 => .object "LinkedUnits$Grammar"
  | 6 => .object "LinkedUnits$Code"
  | 7 => .object "LinkedUnits$Store"
  | 8 => .object "LinkedUnits$Unit"
  | 9 => .object "LinkedUnits$Expressions"
  | 10 => .object "LinkedUnits$Declarations"
  | 11 => .object "LinkedUnits$Statements"
  | 12 => .object "LinkedUnits$Image"
  | 13 => .object "LinkedUnits$Tape"
  | _ => .object "LinkedUnits$Machine"
theorem nmX12 : ∀ a, a < 15 → ∀ b, b < 15 → a ≠ b → (TX12 a).2.1 ≠ (TX12 b).2.1 := by decide +kernel
theorem tyX12_ok : ∀ k, k < 15 → parseFieldDescriptor (TX12 k).2.2.1 = some (tyX12 k) := by decide +kernel
def TX14 : u_T := fun k => match k with
  | 0 => ("LinkedUnitsModel", "tray", "[B", true)
  | 1 => ("LinkedUnitsModel", "trayed", "I", false)
  | 2 => ("LinkedUnitsModel", "fed", "I", false)
  | 3 => ("LinkedUnitsModel", "kinds", "[I", true)
  | 4 => ("LinkedUnitsModel", "froms", "[I", true)
  | 5 => ("LinkedUnitsModel", "tos", "[I", true)
  | 6 => ("LinkedUnitsModel", "lines", "[I", true)
  | 7 => ("LinkedUnitsModel", "values", "[I", true)
  | 8 => ("LinkedUnitsModel", "tokens", "I", false)
  | 9 => ("LinkedUnitsModel", "size", "I", false)
  | 10 => ("LinkedUnitsModel", "at", "I", false)
  | 11 => ("LinkedUnitsModel", "stop", "Ljava/lang/IllegalStateException;", true)
  | 12 => ("LinkedUnitsModel", "fault", "I", false)
  | 13 => ("LinkedUnitsModel", "faultPlace", "I", false)
  | 14 => ("LinkedUnitsModel", "place", "I", false)
  | 15 => ("LinkedUnitsModel", "silent", "I", false)
  | 16 => ("LinkedUnitsModel", "words", "[I", false)
  | 17 => ("LinkedUnitsModel", "wordCount", "I", false)
  | 18 => ("LinkedUnitsModel", "sort", "[I", true)
  | 19 => ("LinkedUnitsModel", "types", "[I", true)
  | 20 => ("LinkedUnitsModel", "sizes", "[I", true)
  | 21 => ("LinkedUnitsModel", "isStatic", "[Z", true)
  | 22 => ("LinkedUnitsModel", "isDefined", "[Z", true)
  | 23 => ("LinkedUnitsModel", "isMeant", "[Z", true)
  | 24 => ("LinkedUnitsModel", "parameterCounts", "[I", true)
  | 25 => ("LinkedUnitsModel", "parameterTypes", "[I", true)
  | 26 => ("LinkedUnitsModel", "wheres", "[I", true)
  | 27 => ("LinkedUnitsModel", "nameFroms", "[I", true)
  | 28 => ("LinkedUnitsModel", "nameLengths", "[I", true)
  | 29 => ("LinkedUnitsModel", "names", "[B", true)
  | 30 => ("LinkedUnitsModel", "firstCalls", "[I", true)
  | 31 => ("LinkedUnitsModel", "nameBytes", "I", false)
  | 32 => ("LinkedUnitsModel", "firsts", "[I", true)
  | 33 => ("LinkedUnitsModel", "dataCounts", "[I", true)
  | 34 => ("LinkedUnitsModel", "initFirsts", "[I", true)
  | 35 => ("LinkedUnitsModel", "objects", "I", false)
  | 36 => ("LinkedUnitsModel", "entities", "I", false)
  | 37 => ("LinkedUnitsModel", "data", "I", false)
  | 38 => ("LinkedUnitsModel", "inits", "[I", false)
  | 39 => ("LinkedUnitsModel", "initCount", "I", false)
  | 40 => ("LinkedUnitsModel", "entries", "[I", true)
  | 41 => ("LinkedUnitsModel", "owners", "[I", true)
  | 42 => ("LinkedUnitsModel", "localCounts", "[I", true)
  | 43 => ("LinkedUnitsModel", "localRows", "[I", true)
  | 44 => ("LinkedUnitsModel", "frameCells", "[I", true)
  | 45 => ("LinkedUnitsModel", "bodies", "I", false)
  | 46 => ("LinkedUnitsModel", "localTypes", "[I", true)
  | 47 => ("LinkedUnitsModel", "localSizes", "[I", true)
  | 48 => ("LinkedUnitsModel", "hasCell", "[Z", true)
  | 49 => ("LinkedUnitsModel", "locals", "I", false)
  | 50 => ("LinkedUnitsModel", "heldTokens", "[I", true)
  | 51 => ("LinkedUnitsModel", "heldLocals", "[I", true)
  | 52 => ("LinkedUnitsModel", "heldScopes", "[I", true)
  | 53 => ("LinkedUnitsModel", "held", "I", false)
  | 54 => ("LinkedUnitsModel", "scope", "I", false)
  | 55 => ("LinkedUnitsModel", "isVoidBody", "Z", false)
  | 56 => ("LinkedUnitsModel", "resultType", "I", false)
  | 57 => ("LinkedUnitsModel", "loops", "I", false)
  | 58 => ("LinkedUnitsModel", "breaks", "I", false)
  | 59 => ("LinkedUnitsModel", "goesOn", "I", false)
  | 60 => ("LinkedUnitsModel", "outerBreaks", "I", false)
  | 61 => ("LinkedUnitsModel", "headTypes", "[I", true)
  | 62 => ("LinkedUnitsModel", "headNames", "[I", true)
  | 63 => ("LinkedUnitsModel", "headEnds", "[I", true)
  | 64 => ("LinkedUnitsModel", "headCount", "I", false)
  | 65 => ("LinkedUnitsModel", "headParameters", "I", false)
  | 66 => ("LinkedUnitsModel", "picks", "[I", true)
  | 67 => ("LinkedUnitsModel", "pickCount", "I", false)
  | 68 => ("LinkedUnitsModel", "linked", "[I", true)
  | 69 => ("LinkedUnitsModel", "bases", "[I", true)
  | 70 => ("LinkedUnitsModel", "linkedCount", "I", false)
  | 71 => ("LinkedUnitsModel", "faultObject", "I", false)
  | 72 => ("LinkedUnitsModel", "faultSymbol", "I", false)
  | 73 => ("LinkedUnitsModel", "foundAt", "I", false)
  | 74 => ("LinkedUnitsModel", "foundEntity", "I", false)
  | 75 => ("LinkedUnitsModel", "aims", "[I", true)
  | 76 => ("LinkedUnitsModel", "objectBases", "[I", true)
  | 77 => ("LinkedUnitsModel", "image", "[I", true)
  | 78 => ("LinkedUnitsModel", "mainBody", "I", false)
  | 79 => ("LinkedUnitsModel", "memory", "[I", true)
  | 80 => ("LinkedUnitsModel", "stack", "[I", true)
  | 81 => ("LinkedUnitsModel", "top", "I", false)
  | 82 => ("LinkedUnitsModel", "slots", "[I", true)
  | 83 => ("LinkedUnitsModel", "frames", "[I", true)
  | 84 => ("LinkedUnitsModel", "running", "[I", true)
  | 85 => ("LinkedUnitsModel", "returns", "[I", true)
  | 86 => ("LinkedUnitsModel", "depth", "I", false)
  | 87 => ("LinkedUnitsModel", "input", "[B", true)
  | 88 => ("LinkedUnitsModel", "inputs", "I", false)
  | 89 => ("LinkedUnitsModel", "taken", "I", false)
  | 90 => ("LinkedUnitsModel", "printed", "[B", true)
  | 91 => ("LinkedUnitsModel", "written", "I", false)
  | 92 => ("LinkedUnitsModel", "turns", "I", false)
  | 93 => ("LinkedUnitsModel", "fuel", "I", false)
  | 94 => ("LinkedUnitsModel", "result", "I", false)
  | 95 => ("LinkedUnitsModel", "trapObject", "I", false)
  | 96 => ("LinkedUnitsModel", "trapLine", "I", false)
  | 97 => ("LinkedUnitsModel", "outcome", "I", false)
  | 98 => ("LinkedUnitsModel", "hasRun", "Z", false)
  | _ => ("LinkedUnitsModel", "bodyParameters", "[I", true)
def tyX14 : Nat → FieldType := fun k => match k with
  | 0 => .array .byte
  | 1 => .int
  | 2 => .int
  | 3 => .array .int
  | 4 => .array .int
  | 5 => .array .int
  | 6 => .array .int
  | 7 => .array .int
  | 8 => .int
  | 9 => .int
  | 10 => .int
  | 11 => .object "java/lang/IllegalStateException"
  | 12 => .int
  | 13 => .int
  | 14 => .int
  | 15 => .int
  | 16 => .array .int
  | 17 => .int
  | 18 => .array .int
  | 19 => .array .int
  | 20 => .array .int
  | 21 => .array .boolean
  | 22 => .array .boolean
  | 23 => .array .boolean
  | 24 => .array .int
  | 25 => .array .int
  | 26 => .array .int
  | 27 => .array .int
  | 28 => .array .int
  | 29 => .array .byte
  | 30 => .array .int
  | 31 => .int
  | 32 => .array .int
  | 33 => .array .int
  | 34 => .array .int
  | 35 => .int
  | 36 => .int
  | 37 => .int
  | 38 => .array .int
  | 39 => .int
  | 40 => .array .int
  | 41 => .array .int
  | 42 => .array .int
  | 43 => .array .int
  | 44 => .array .int
  | 45 => .int
  | 46 => .array .int
  | 47 => .array .int
  | 48 => .array .boolean
  | 49 => .int
  | 50 => .array .int
  | 51 => .array .int
  | 52 => .array .int
  | 53 => .int
  | 54 => .int
  | 55 => .boolean
  | 56 => .int
  | 57 => .int
  | 58 => .int
  | 59 => .int
  | 60 => .int
  | 61 => .array .int
  | 62 => .array .int
  | 63 => .array .int
  | 64 => .int
  | 65 => .int
  | 66 => .array .int
  | 67 => .int
  | 68 => .array .int
  | 69 => .array .int
  | 70 => .int
  | 71 => .int
  | 72 => .int
  | 73 => .int
  | 74 => .int
  | 75 => .array .int
  | 76 => .array .int
  | 77 => .array .int
  | 78 => .int
  | 79 => .array .int
  | 80 => .array .int
  | 81 => .int
  | 82 => .array .int
  | 83 => .array .int
  | 84 => .array .int
  | 85 => .array .int
  | 86 => .int
  | 87 => .array .byte
  | 88 => .int
  | 89 => .int
  | 90 => .array .byte
  | 91 => .int
  | 92 => .int
  | 93 => .int
  | 94 => .int
  | 95 => .int
  | 96 => .int
  | 97 => .int
  | 98 => .boolean
  | _ => .array .int
theorem nmX14 : ∀ a, a < 100 → ∀ b, b < 100 → a ≠ b → (TX14 a).2.1 ≠ (TX14 b).2.1 := by decide +kernel
theorem tyX14_ok : ∀ k, k < 100 → parseFieldDescriptor (TX14 k).2.2.1 = some (tyX14 k) := by decide +kernel
def f0_X14 : List Value := [.null, .int 0, .int 0, .null, .null, .null, .null, .null, .int 0, .int 0, .int 0, .null, .int 0, .int 0, .int 0, .int 0, .null, .int 0, .null, .null, .null, .null, .null, .null, .null, .null, .null, .null, .null, .null, .null, .int 0, .null, .null, .null, .int 0, .int 0, .int 0, .null, .int 0, .null, .null, .null, .null, .null, .int 0, .null, .null, .null, .int 0, .null, .null, .null, .int 0, .int 0, .int 0, .int 0, .int 0, .int 0, .int 0, .int 0, .null, .null, .null, .int 0, .int 0, .null, .int 0, .null, .null, .int 0, .int 0, .int 0, .int 0, .int 0, .null, .null, .null, .int 0, .null, .null, .int 0, .null, .null, .null, .null, .int 0, .null, .int 0, .int 0, .null, .int 0, .int 0, .int 0, .int 0, .int 0, .int 0, .int 0, .int 0, .null]
def TXE : u_T := fun k => match k with
  | _ => ("", "", "", false)
def TX13 : u_T := fun k => match k with
  | 0 => ("LinkedUnitsModel$Value", "type", "I", false)
  | 1 => ("LinkedUnitsModel$Value", "how", "I", false)
  | 2 => ("LinkedUnitsModel$Value", "number", "I", false)
  | 3 => ("LinkedUnitsModel$Value", "height", "I", false)
  | 4 => ("LinkedUnitsModel$Value", "token", "I", false)
  | 5 => ("LinkedUnitsModel$Value", "isZero", "Z", false)
  | 6 => ("LinkedUnitsModel$Value", "known", "I", false)
  | 7 => ("LinkedUnitsModel$Value", "worth", "I", false)
  | _ => ("LinkedUnitsModel$Value", "base", "I", false)
def tyX13 : Nat → FieldType := fun k => match k with
  | 0 => .int
  | 1 => .int
  | 2 => .int
  | 3 => .int
  | 4 => .int
  | 5 => .boolean
  | 6 => .int
  | 7 => .int
  | _ => .int
theorem nmX13 : ∀ a, a < 9 → ∀ b, b < 9 → a ≠ b → (TX13 a).2.1 ≠ (TX13 b).2.1 := by decide +kernel
theorem tyX13_ok : ∀ k, k < 9 → parseFieldDescriptor (TX13 k).2.2.1 = some (tyX13 k) := by decide +kernel
abbrev vwCl : List vw_C := [("LinkedUnits$Code", TX0, 2), ("LinkedUnits$Declarations", TX1, 18), ("LinkedUnits$Expressions", TX2, 8), ("LinkedUnits$Grammar", TX3, 12), ("LinkedUnits$Image", TX4, 12), ("LinkedUnits$Machine", TX5, 19), ("LinkedUnits$Operand", TX6, 13), ("LinkedUnits$Statements", TX7, 12), ("LinkedUnits$Store", TX8, 18), ("LinkedUnits$Tape", TX9, 5), ("LinkedUnits$Tokens", TX10, 10), ("LinkedUnits$Unit", TX11, 19), ("LinkedUnits", TX12, 15), ("LinkedUnitsModel", TX14, 100), ("java/lang/IllegalStateException", TXE, 0), ("LinkedUnitsModel$Value", TX13, 9)]
def ciV : Nat := 15

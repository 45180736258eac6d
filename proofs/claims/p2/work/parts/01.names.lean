/-- a private method of a class that the tables say can be made, by its rows of tables_1 -/
def lw_okq (q : MethodName × Nat) : Prop := (q.1.cls ≠ "java/lang/invoke/MethodHandle" ∧ q.1.cls ≠ "java/lang/invoke/VarHandle") ∧ Cond.instantiable q.1.cls q.2 ∈ tables_1 ∧ Cond.privateMethod q.1 ∈ tables_1 ∧ Cond.instanceMethod q.1 ∈ tables_1
theorem lw_p0 : lw_okq (⟨"LinkedUnits$Tokens", "byteAt", "(I)I"⟩, 10) := ⟨⟨by decide +kernel, by decide +kernel⟩, List.mem_of_getElem? (i := 36) (by decide +kernel), List.mem_of_getElem? (i := 807) (by decide +kernel), List.mem_of_getElem? (i := 808) (by decide +kernel)⟩
theorem lw_p1 : lw_okq (⟨"LinkedUnits$Tokens", "add", "(III)Z"⟩, 10) := ⟨⟨by decide +kernel, by decide +kernel⟩, List.mem_of_getElem? (i := 36) (by decide +kernel), List.mem_of_getElem? (i := 822) (by decide +kernel), List.mem_of_getElem? (i := 823) (by decide +kernel)⟩
theorem lw_p2 : lw_okq (⟨"LinkedUnits$Grammar", "fail", "()V"⟩, 12) := ⟨⟨by decide +kernel, by decide +kernel⟩, List.mem_of_getElem? (i := 89) (by decide +kernel), List.mem_of_getElem? (i := 908) (by decide +kernel), List.mem_of_getElem? (i := 909) (by decide +kernel)⟩
theorem lw_p3 : lw_okq (⟨"LinkedUnits$Grammar", "advance", "()V"⟩, 12) := ⟨⟨by decide +kernel, by decide +kernel⟩, List.mem_of_getElem? (i := 89) (by decide +kernel), List.mem_of_getElem? (i := 900) (by decide +kernel), List.mem_of_getElem? (i := 901) (by decide +kernel)⟩
theorem lw_p4 : lw_okq (⟨"LinkedUnits$Grammar", "deeper", "(I)Z"⟩, 12) := ⟨⟨by decide +kernel, by decide +kernel⟩, List.mem_of_getElem? (i := 89) (by decide +kernel), List.mem_of_getElem? (i := 944) (by decide +kernel), List.mem_of_getElem? (i := 945) (by decide +kernel)⟩
theorem lw_p5 : lw_okq (⟨"LinkedUnits$Grammar", "add", "(IIII)I"⟩, 12) := ⟨⟨by decide +kernel, by decide +kernel⟩, List.mem_of_getElem? (i := 89) (by decide +kernel), List.mem_of_getElem? (i := 924) (by decide +kernel), List.mem_of_getElem? (i := 925) (by decide +kernel)⟩
theorem lw_p6 : lw_okq (⟨"LinkedUnits$Grammar", "stars", "()I"⟩, 12) := ⟨⟨by decide +kernel, by decide +kernel⟩, List.mem_of_getElem? (i := 89) (by decide +kernel), List.mem_of_getElem? (i := 912) (by decide +kernel), List.mem_of_getElem? (i := 913) (by decide +kernel)⟩
theorem lw_p7 : lw_okq (⟨"LinkedUnits$Tokens", "codeAt", "(II)I"⟩, 10) := ⟨⟨by decide +kernel, by decide +kernel⟩, List.mem_of_getElem? (i := 36) (by decide +kernel), List.mem_of_getElem? (i := 876) (by decide +kernel), List.mem_of_getElem? (i := 877) (by decide +kernel)⟩
theorem lw_p8 : lw_okq (⟨"LinkedUnits$Tokens", "widthAt", "(I)I"⟩, 10) := ⟨⟨by decide +kernel, by decide +kernel⟩, List.mem_of_getElem? (i := 36) (by decide +kernel), List.mem_of_getElem? (i := 880) (by decide +kernel), List.mem_of_getElem? (i := 881) (by decide +kernel)⟩
theorem lw_p9 : lw_okq (⟨"LinkedUnits$Tokens", "sameName", "(II)Z"⟩, 10) := ⟨⟨by decide +kernel, by decide +kernel⟩, List.mem_of_getElem? (i := 36) (by decide +kernel), List.mem_of_getElem? (i := 1114) (by decide +kernel), List.mem_of_getElem? (i := 1115) (by decide +kernel)⟩
theorem lw_p10 : lw_okq (⟨"LinkedUnits$Unit", "fail", "(II)V"⟩, 19) := ⟨⟨by decide +kernel, by decide +kernel⟩, List.mem_of_getElem? (i := 298) (by decide +kernel), List.mem_of_getElem? (i := 1091) (by decide +kernel), List.mem_of_getElem? (i := 1092) (by decide +kernel)⟩
theorem lw_p11 : lw_okq (⟨"LinkedUnits$Store", "mark", "(II)V"⟩, 18) := ⟨⟨by decide +kernel, by decide +kernel⟩, List.mem_of_getElem? (i := 163) (by decide +kernel), List.mem_of_getElem? (i := 1134) (by decide +kernel), List.mem_of_getElem? (i := 1135) (by decide +kernel)⟩
theorem lw_p12 : lw_okq (⟨"LinkedUnits$Code", "emit", "(IIII)I"⟩, 2) := ⟨⟨by decide +kernel, by decide +kernel⟩, List.mem_of_getElem? (i := 143) (by decide +kernel), List.mem_of_getElem? (i := 1072) (by decide +kernel), List.mem_of_getElem? (i := 1073) (by decide +kernel)⟩
theorem lw_p13 : lw_okq (⟨"LinkedUnits$Code", "aim", "(II)V"⟩, 2) := ⟨⟨by decide +kernel, by decide +kernel⟩, List.mem_of_getElem? (i := 143) (by decide +kernel), List.mem_of_getElem? (i := 1210) (by decide +kernel), List.mem_of_getElem? (i := 1211) (by decide +kernel)⟩
theorem lw_p14 : lw_okq (⟨"LinkedUnits$Unit", "outerOf", "(I)I"⟩, 19) := ⟨⟨by decide +kernel, by decide +kernel⟩, List.mem_of_getElem? (i := 298) (by decide +kernel), List.mem_of_getElem? (i := 1118) (by decide +kernel), List.mem_of_getElem? (i := 1119) (by decide +kernel)⟩
theorem lw_p15 : lw_okq (⟨"LinkedUnits$Store", "is", "(II)Z"⟩, 18) := ⟨⟨by decide +kernel, by decide +kernel⟩, List.mem_of_getElem? (i := 163) (by decide +kernel), List.mem_of_getElem? (i := 1122) (by decide +kernel), List.mem_of_getElem? (i := 1123) (by decide +kernel)⟩
theorem lw_p16 : lw_okq (⟨"LinkedUnits$Declarations", "checkOuter", "(IIZ)V"⟩, 18) := ⟨⟨by decide +kernel, by decide +kernel⟩, List.mem_of_getElem? (i := 484) (by decide +kernel), List.mem_of_getElem? (i := 1395) (by decide +kernel), List.mem_of_getElem? (i := 1396) (by decide +kernel)⟩
theorem lw_p17 : lw_okq (⟨"LinkedUnits$Unit", "leave", "()V"⟩, 19) := ⟨⟨by decide +kernel, by decide +kernel⟩, List.mem_of_getElem? (i := 298) (by decide +kernel), List.mem_of_getElem? (i := 1046) (by decide +kernel), List.mem_of_getElem? (i := 1047) (by decide +kernel)⟩
theorem lw_p18 : lw_okq (⟨"LinkedUnits$Unit", "open", "()V"⟩, 19) := ⟨⟨by decide +kernel, by decide +kernel⟩, List.mem_of_getElem? (i := 298) (by decide +kernel), List.mem_of_getElem? (i := 1290) (by decide +kernel), List.mem_of_getElem? (i := 1291) (by decide +kernel)⟩
theorem lw_p19 : lw_okq (⟨"LinkedUnits$Store", "has", "(I)Z"⟩, 18) := ⟨⟨by decide +kernel, by decide +kernel⟩, List.mem_of_getElem? (i := 163) (by decide +kernel), List.mem_of_getElem? (i := 1514) (by decide +kernel), List.mem_of_getElem? (i := 1515) (by decide +kernel)⟩
theorem lw_p20 : lw_okq (⟨"LinkedUnits$Store", "firstOf", "(I)I"⟩, 18) := ⟨⟨by decide +kernel, by decide +kernel⟩, List.mem_of_getElem? (i := 163) (by decide +kernel), List.mem_of_getElem? (i := 1522) (by decide +kernel), List.mem_of_getElem? (i := 1523) (by decide +kernel)⟩
theorem lw_p21 : lw_okq (⟨"LinkedUnits$Store", "nameStart", "(I)I"⟩, 18) := ⟨⟨by decide +kernel, by decide +kernel⟩, List.mem_of_getElem? (i := 163) (by decide +kernel), List.mem_of_getElem? (i := 1493) (by decide +kernel), List.mem_of_getElem? (i := 1494) (by decide +kernel)⟩
theorem lw_p22 : lw_okq (⟨"LinkedUnits$Machine", "pop", "()I"⟩, 19) := ⟨⟨by decide +kernel, by decide +kernel⟩, List.mem_of_getElem? (i := 664) (by decide +kernel), List.mem_of_getElem? (i := 1682) (by decide +kernel), List.mem_of_getElem? (i := 1683) (by decide +kernel)⟩
theorem lw_p23 : lw_okq (⟨"LinkedUnits$Machine", "push", "(I)V"⟩, 19) := ⟨⟨by decide +kernel, by decide +kernel⟩, List.mem_of_getElem? (i := 664) (by decide +kernel), List.mem_of_getElem? (i := 1687) (by decide +kernel), List.mem_of_getElem? (i := 1688) (by decide +kernel)⟩
theorem lw_p24 : lw_okq (⟨"LinkedUnits$Machine", "peeked", "()I"⟩, 19) := ⟨⟨by decide +kernel, by decide +kernel⟩, List.mem_of_getElem? (i := 664) (by decide +kernel), List.mem_of_getElem? (i := 1745) (by decide +kernel), List.mem_of_getElem? (i := 1746) (by decide +kernel)⟩
theorem lw_p25 : lw_okq (⟨"LinkedUnits$Tokens", "bad", "(I)Z"⟩, 10) := ⟨⟨by decide +kernel, by decide +kernel⟩, List.mem_of_getElem? (i := 36) (by decide +kernel), List.mem_of_getElem? (i := 818) (by decide +kernel), List.mem_of_getElem? (i := 819) (by decide +kernel)⟩
theorem lw_p26 : lw_okq (⟨"LinkedUnits$Grammar", "expect", "(I)V"⟩, 12) := ⟨⟨by decide +kernel, by decide +kernel⟩, List.mem_of_getElem? (i := 89) (by decide +kernel), List.mem_of_getElem? (i := 904) (by decide +kernel), List.mem_of_getElem? (i := 905) (by decide +kernel)⟩
theorem lw_p27 : lw_okq (⟨"LinkedUnits$Grammar", "accept", "(I)Z"⟩, 12) := ⟨⟨by decide +kernel, by decide +kernel⟩, List.mem_of_getElem? (i := 89) (by decide +kernel), List.mem_of_getElem? (i := 967) (by decide +kernel), List.mem_of_getElem? (i := 968) (by decide +kernel)⟩
theorem lw_p28 : lw_okq (⟨"LinkedUnits$Grammar", "settle", "(II)V"⟩, 12) := ⟨⟨by decide +kernel, by decide +kernel⟩, List.mem_of_getElem? (i := 89) (by decide +kernel), List.mem_of_getElem? (i := 976) (by decide +kernel), List.mem_of_getElem? (i := 977) (by decide +kernel)⟩
theorem lw_p29 : lw_okq (⟨"LinkedUnits$Unit", "finish", "()V"⟩, 19) := ⟨⟨by decide +kernel, by decide +kernel⟩, List.mem_of_getElem? (i := 298) (by decide +kernel), List.mem_of_getElem? (i := 1483) (by decide +kernel), List.mem_of_getElem? (i := 1484) (by decide +kernel)⟩
theorem lw_p30 : lw_okq (⟨"LinkedUnits$Unit", "scopeStart", "()I"⟩, 19) := ⟨⟨by decide +kernel, by decide +kernel⟩, List.mem_of_getElem? (i := 298) (by decide +kernel), List.mem_of_getElem? (i := 1366) (by decide +kernel), List.mem_of_getElem? (i := 1367) (by decide +kernel)⟩
theorem lw_p31 : lw_okq (⟨"LinkedUnits$Unit", "localFrom", "(II)I"⟩, 19) := ⟨⟨by decide +kernel, by decide +kernel⟩, List.mem_of_getElem? (i := 298) (by decide +kernel), List.mem_of_getElem? (i := 1109) (by decide +kernel), List.mem_of_getElem? (i := 1110) (by decide +kernel)⟩
theorem lw_p32 : lw_okq (⟨"LinkedUnits$Declarations", "checkSquare", "(Z)V"⟩, 18) := ⟨⟨by decide +kernel, by decide +kernel⟩, List.mem_of_getElem? (i := 484) (by decide +kernel), List.mem_of_getElem? (i := 1372) (by decide +kernel), List.mem_of_getElem? (i := 1373) (by decide +kernel)⟩
theorem lw_p33 : lw_okq (⟨"LinkedUnits$Unit", "declareLocal", "(III)V"⟩, 19) := ⟨⟨by decide +kernel, by decide +kernel⟩, List.mem_of_getElem? (i := 298) (by decide +kernel), List.mem_of_getElem? (i := 1376) (by decide +kernel), List.mem_of_getElem? (i := 1377) (by decide +kernel)⟩
theorem lw_p34 : lw_okq (⟨"LinkedUnits$Declarations", "storeLocal", "()V"⟩, 18) := ⟨⟨by decide +kernel, by decide +kernel⟩, List.mem_of_getElem? (i := 484) (by decide +kernel), List.mem_of_getElem? (i := 1381) (by decide +kernel), List.mem_of_getElem? (i := 1382) (by decide +kernel)⟩
theorem lw_p35 : lw_okq (⟨"LinkedUnits$Machine", "fail", "(II)V"⟩, 19) := ⟨⟨by decide +kernel, by decide +kernel⟩, List.mem_of_getElem? (i := 664) (by decide +kernel), List.mem_of_getElem? (i := 1657) (by decide +kernel), List.mem_of_getElem? (i := 1658) (by decide +kernel)⟩
theorem lw_p36 : lw_okq (⟨"LinkedUnits$Machine", "stray", "()V"⟩, 19) := ⟨⟨by decide +kernel, by decide +kernel⟩, List.mem_of_getElem? (i := 664) (by decide +kernel), List.mem_of_getElem? (i := 1674) (by decide +kernel), List.mem_of_getElem? (i := 1675) (by decide +kernel)⟩
theorem lw_p37 : lw_okq (⟨"LinkedUnits$Machine", "decide", "(ZI)V"⟩, 19) := ⟨⟨by decide +kernel, by decide +kernel⟩, List.mem_of_getElem? (i := 664) (by decide +kernel), List.mem_of_getElem? (i := 1695) (by decide +kernel), List.mem_of_getElem? (i := 1696) (by decide +kernel)⟩
theorem lw_p38 : lw_okq (⟨"LinkedUnits$Machine", "turn", "(I)Z"⟩, 19) := ⟨⟨by decide +kernel, by decide +kernel⟩, List.mem_of_getElem? (i := 664) (by decide +kernel), List.mem_of_getElem? (i := 1653) (by decide +kernel), List.mem_of_getElem? (i := 1654) (by decide +kernel)⟩
theorem lw_p39 : lw_okq (⟨"LinkedUnits$Machine", "stepped", "([III)V"⟩, 19) := ⟨⟨by decide +kernel, by decide +kernel⟩, List.mem_of_getElem? (i := 664) (by decide +kernel), List.mem_of_getElem? (i := 1737) (by decide +kernel), List.mem_of_getElem? (i := 1738) (by decide +kernel)⟩
theorem lw_p40 : lw_okq (⟨"LinkedUnits$Tokens", "skipComment", "()Z"⟩, 10) := ⟨⟨by decide +kernel, by decide +kernel⟩, List.mem_of_getElem? (i := 36) (by decide +kernel), List.mem_of_getElem? (i := 826) (by decide +kernel), List.mem_of_getElem? (i := 827) (by decide +kernel)⟩
theorem lw_p41 : lw_okq (⟨"LinkedUnits$Image", "fill", "([I)V"⟩, 12) := ⟨⟨by decide +kernel, by decide +kernel⟩, List.mem_of_getElem? (i := 591) (by decide +kernel), List.mem_of_getElem? (i := 1641) (by decide +kernel), List.mem_of_getElem? (i := 1642) (by decide +kernel)⟩
theorem lw_p42 : lw_okq (⟨"LinkedUnits$Tape", "begin", "()V"⟩, 5) := ⟨⟨by decide +kernel, by decide +kernel⟩, List.mem_of_getElem? (i := 641) (by decide +kernel), List.mem_of_getElem? (i := 1645) (by decide +kernel), List.mem_of_getElem? (i := 1646) (by decide +kernel)⟩
theorem lw_p43 : lw_okq (⟨"LinkedUnits$Machine", "copyParameters", "(II)V"⟩, 19) := ⟨⟨by decide +kernel, by decide +kernel⟩, List.mem_of_getElem? (i := 664) (by decide +kernel), List.mem_of_getElem? (i := 1663) (by decide +kernel), List.mem_of_getElem? (i := 1664) (by decide +kernel)⟩
theorem lw_p44 : lw_okq (⟨"LinkedUnits$Store", "isNamed", "(I[BII)Z"⟩, 18) := ⟨⟨by decide +kernel, by decide +kernel⟩, List.mem_of_getElem? (i := 163) (by decide +kernel), List.mem_of_getElem? (i := 1569) (by decide +kernel), List.mem_of_getElem? (i := 1570) (by decide +kernel)⟩
theorem lw_p45 : lw_okq (⟨"LinkedUnits$Tokens", "skipLine", "()Z"⟩, 10) := ⟨⟨by decide +kernel, by decide +kernel⟩, List.mem_of_getElem? (i := 36) (by decide +kernel), List.mem_of_getElem? (i := 811) (by decide +kernel), List.mem_of_getElem? (i := 812) (by decide +kernel)⟩
theorem lw_p46 : lw_okq (⟨"LinkedUnits$Grammar", "parameters", "()I"⟩, 12) := ⟨⟨by decide +kernel, by decide +kernel⟩, List.mem_of_getElem? (i := 89) (by decide +kernel), List.mem_of_getElem? (i := 991) (by decide +kernel), List.mem_of_getElem? (i := 992) (by decide +kernel)⟩
theorem lw_p47 : lw_okq (⟨"LinkedUnits$Image", "find", "([II[BII)I"⟩, 12) := ⟨⟨by decide +kernel, by decide +kernel⟩, List.mem_of_getElem? (i := 591) (by decide +kernel), List.mem_of_getElem? (i := 1563) (by decide +kernel), List.mem_of_getElem? (i := 1564) (by decide +kernel)⟩
theorem lw_p48 : lw_okq (⟨"LinkedUnits$Image", "definition", "(II)I"⟩, 12) := ⟨⟨by decide +kernel, by decide +kernel⟩, List.mem_of_getElem? (i := 591) (by decide +kernel), List.mem_of_getElem? (i := 1581) (by decide +kernel), List.mem_of_getElem? (i := 1582) (by decide +kernel)⟩
theorem lw_p49 : lw_okq (⟨"LinkedUnits$Machine", "plain", "(II)V"⟩, 19) := ⟨⟨by decide +kernel, by decide +kernel⟩, List.mem_of_getElem? (i := 664) (by decide +kernel), List.mem_of_getElem? (i := 1749) (by decide +kernel), List.mem_of_getElem? (i := 1750) (by decide +kernel)⟩
theorem lw_p50 : lw_okq (⟨"LinkedUnits$Machine", "inFrame", "(II)V"⟩, 19) := ⟨⟨by decide +kernel, by decide +kernel⟩, List.mem_of_getElem? (i := 664) (by decide +kernel), List.mem_of_getElem? (i := 1741) (by decide +kernel), List.mem_of_getElem? (i := 1742) (by decide +kernel)⟩
theorem lw_p51 : lw_okq (⟨"LinkedUnits$Machine", "reach", "(II)V"⟩, 19) := ⟨⟨by decide +kernel, by decide +kernel⟩, List.mem_of_getElem? (i := 664) (by decide +kernel), List.mem_of_getElem? (i := 1730) (by decide +kernel), List.mem_of_getElem? (i := 1731) (by decide +kernel)⟩
theorem lw_p52 : lw_okq (⟨"LinkedUnits$Tokens", "skipBlanks", "()Z"⟩, 10) := ⟨⟨by decide +kernel, by decide +kernel⟩, List.mem_of_getElem? (i := 36) (by decide +kernel), List.mem_of_getElem? (i := 803) (by decide +kernel), List.mem_of_getElem? (i := 804) (by decide +kernel)⟩
theorem lw_p53 : lw_okq (⟨"LinkedUnits$Grammar", "head", "(III)Z"⟩, 12) := ⟨⟨by decide +kernel, by decide +kernel⟩, List.mem_of_getElem? (i := 89) (by decide +kernel), List.mem_of_getElem? (i := 987) (by decide +kernel), List.mem_of_getElem? (i := 988) (by decide +kernel)⟩
theorem lw_p54 : lw_okq (⟨"LinkedUnits$Image", "agrees", "(II)Z"⟩, 12) := ⟨⟨by decide +kernel, by decide +kernel⟩, List.mem_of_getElem? (i := 591) (by decide +kernel), List.mem_of_getElem? (i := 1586) (by decide +kernel), List.mem_of_getElem? (i := 1587) (by decide +kernel)⟩
theorem lw_p55 : lw_okq (⟨"LinkedUnits$Image", "refer", "(I)V"⟩, 12) := ⟨⟨by decide +kernel, by decide +kernel⟩, List.mem_of_getElem? (i := 591) (by decide +kernel), List.mem_of_getElem? (i := 1602) (by decide +kernel), List.mem_of_getElem? (i := 1603) (by decide +kernel)⟩
theorem lw_p56 : lw_okq (⟨"LinkedUnits$Image", "settle", "()V"⟩, 12) := ⟨⟨by decide +kernel, by decide +kernel⟩, List.mem_of_getElem? (i := 591) (by decide +kernel), List.mem_of_getElem? (i := 1598) (by decide +kernel), List.mem_of_getElem? (i := 1599) (by decide +kernel)⟩
theorem lw_p57 : lw_okq (⟨"LinkedUnits$Image", "dataCells", "()I"⟩, 12) := ⟨⟨by decide +kernel, by decide +kernel⟩, List.mem_of_getElem? (i := 591) (by decide +kernel), List.mem_of_getElem? (i := 1594) (by decide +kernel), List.mem_of_getElem? (i := 1595) (by decide +kernel)⟩
theorem lw_p58 : lw_okq (⟨"LinkedUnits$Image", "isMain", "(I)Z"⟩, 12) := ⟨⟨by decide +kernel, by decide +kernel⟩, List.mem_of_getElem? (i := 591) (by decide +kernel), List.mem_of_getElem? (i := 1590) (by decide +kernel), List.mem_of_getElem? (i := 1591) (by decide +kernel)⟩
theorem lw_p59 : lw_okq (⟨"LinkedUnits$Image", "isWrong", "(III)Z"⟩, 12) := ⟨⟨by decide +kernel, by decide +kernel⟩, List.mem_of_getElem? (i := 591) (by decide +kernel), List.mem_of_getElem? (i := 1577) (by decide +kernel), List.mem_of_getElem? (i := 1578) (by decide +kernel)⟩
theorem lw_p60 : lw_okq (⟨"LinkedUnits$Image", "look", "(I)I"⟩, 12) := ⟨⟨by decide +kernel, by decide +kernel⟩, List.mem_of_getElem? (i := 591) (by decide +kernel), List.mem_of_getElem? (i := 1573) (by decide +kernel), List.mem_of_getElem? (i := 1574) (by decide +kernel)⟩
def lw_privs : List (MethodName × Nat) := [(⟨"LinkedUnits$Tokens", "byteAt", "(I)I"⟩, 10), (⟨"LinkedUnits$Tokens", "add", "(III)Z"⟩, 10), (⟨"LinkedUnits$Grammar", "fail", "()V"⟩, 12), (⟨"LinkedUnits$Grammar", "advance", "()V"⟩, 12), (⟨"LinkedUnits$Grammar", "deeper", "(I)Z"⟩, 12), (⟨"LinkedUnits$Grammar", "add", "(IIII)I"⟩, 12), (⟨"LinkedUnits$Grammar", "stars", "()I"⟩, 12), (⟨"LinkedUnits$Tokens", "codeAt", "(II)I"⟩, 10), (⟨"LinkedUnits$Tokens", "widthAt", "(I)I"⟩, 10), (⟨"LinkedUnits$Tokens", "sameName", "(II)Z"⟩, 10), (⟨"LinkedUnits$Unit", "fail", "(II)V"⟩, 19), (⟨"LinkedUnits$Store", "mark", "(II)V"⟩, 18), (⟨"LinkedUnits$Code", "emit", "(IIII)I"⟩, 2), (⟨"LinkedUnits$Code", "aim", "(II)V"⟩, 2), (⟨"LinkedUnits$Unit", "outerOf", "(I)I"⟩, 19), (⟨"LinkedUnits$Store", "is", "(II)Z"⟩, 18), (⟨"LinkedUnits$Declarations", "checkOuter", "(IIZ)V"⟩, 18), (⟨"LinkedUnits$Unit", "leave", "()V"⟩, 19), (⟨"LinkedUnits$Unit", "open", "()V"⟩, 19), (⟨"LinkedUnits$Store", "has", "(I)Z"⟩, 18), (⟨"LinkedUnits$Store", "firstOf", "(I)I"⟩, 18), (⟨"LinkedUnits$Store", "nameStart", "(I)I"⟩, 18), (⟨"LinkedUnits$Machine", "pop", "()I"⟩, 19), (⟨"LinkedUnits$Machine", "push", "(I)V"⟩, 19), (⟨"LinkedUnits$Machine", "peeked", "()I"⟩, 19), (⟨"LinkedUnits$Tokens", "bad", "(I)Z"⟩, 10), (⟨"LinkedUnits$Grammar", "expect", "(I)V"⟩, 12), (⟨"LinkedUnits$Grammar", "accept", "(I)Z"⟩, 12), (⟨"LinkedUnits$Grammar", "settle", "(II)V"⟩, 12), (⟨"LinkedUnits$Unit", "finish", "()V"⟩, 19), (⟨"LinkedUnits$Unit", "scopeStart", "()I"⟩, 19), (⟨"LinkedUnits$Unit", "localFrom", "(II)I"⟩, 19), (⟨"LinkedUnits$Declarations", "checkSquare", "(Z)V"⟩, 18), (⟨"LinkedUnits$Unit", "declareLocal", "(III)V"⟩, 19), (⟨"LinkedUnits$Declarations", "storeLocal", "()V"⟩, 18), (⟨"LinkedUnits$Machine", "fail", "(II)V"⟩, 19), (⟨"LinkedUnits$Machine", "stray", "()V"⟩, 19), (⟨"LinkedUnits$Machine", "decide", "(ZI)V"⟩, 19), (⟨"LinkedUnits$Machine", "turn", "(I)Z"⟩, 19), (⟨"LinkedUnits$Machine", "stepped", "([III)V"⟩, 19), (⟨"LinkedUnits$Tokens", "skipComment", "()Z"⟩, 10), (⟨"LinkedUnits$Image", "fill", "([I)V"⟩, 12), (⟨"LinkedUnits$Tape", "begin", "()V"⟩, 5), (⟨"LinkedUnits$Machine", "copyParameters", "(II)V"⟩, 19), (⟨"LinkedUnits$Store", "isNamed", "(I[BII)Z"⟩, 18), (⟨"LinkedUnits$Tokens", "skipLine", "()Z"⟩, 10), (⟨"LinkedUnits$Grammar", "parameters", "()I"⟩, 12), (⟨"LinkedUnits$Image", "find", "([II[BII)I"⟩, 12), (⟨"LinkedUnits$Image", "definition", "(II)I"⟩, 12), (⟨"LinkedUnits$Machine", "plain", "(II)V"⟩, 19), (⟨"LinkedUnits$Machine", "inFrame", "(II)V"⟩, 19), (⟨"LinkedUnits$Machine", "reach", "(II)V"⟩, 19), (⟨"LinkedUnits$Tokens", "skipBlanks", "()Z"⟩, 10), (⟨"LinkedUnits$Grammar", "head", "(III)Z"⟩, 12), (⟨"LinkedUnits$Image", "agrees", "(II)Z"⟩, 12), (⟨"LinkedUnits$Image", "refer", "(I)V"⟩, 12), (⟨"LinkedUnits$Image", "settle", "()V"⟩, 12), (⟨"LinkedUnits$Image", "dataCells", "()I"⟩, 12), (⟨"LinkedUnits$Image", "isMain", "(I)Z"⟩, 12), (⟨"LinkedUnits$Image", "isWrong", "(III)Z"⟩, 12), (⟨"LinkedUnits$Image", "look", "(I)I"⟩, 12)]
set_option maxRecDepth 100000 in
theorem lw_privs_ok : ∀ q ∈ lw_privs, lw_okq q := (List.forall_mem_cons.mpr ⟨lw_p0, (List.forall_mem_cons.mpr ⟨lw_p1, (List.forall_mem_cons.mpr ⟨lw_p2, (List.forall_mem_cons.mpr ⟨lw_p3, (List.forall_mem_cons.mpr ⟨lw_p4, (List.forall_mem_cons.mpr ⟨lw_p5, (List.forall_mem_cons.mpr ⟨lw_p6, (List.forall_mem_cons.mpr ⟨lw_p7, (List.forall_mem_cons.mpr ⟨lw_p8, (List.forall_mem_cons.mpr ⟨lw_p9, (List.forall_mem_cons.mpr ⟨lw_p10, (List.forall_mem_cons.mpr ⟨lw_p11, (List.forall_mem_cons.mpr ⟨lw_p12, (List.forall_mem_cons.mpr ⟨lw_p13, (List.forall_mem_cons.mpr ⟨lw_p14, (List.forall_mem_cons.mpr ⟨lw_p15, (List.forall_mem_cons.mpr ⟨lw_p16, (List.forall_mem_cons.mpr ⟨lw_p17, (List.forall_mem_cons.mpr ⟨lw_p18, (List.forall_mem_cons.mpr ⟨lw_p19, (List.forall_mem_cons.mpr ⟨lw_p20, (List.forall_mem_cons.mpr ⟨lw_p21, (List.forall_mem_cons.mpr ⟨lw_p22, (List.forall_mem_cons.mpr ⟨lw_p23, (List.forall_mem_cons.mpr ⟨lw_p24, (List.forall_mem_cons.mpr ⟨lw_p25, (List.forall_mem_cons.mpr ⟨lw_p26, (List.forall_mem_cons.mpr ⟨lw_p27, (List.forall_mem_cons.mpr ⟨lw_p28, (List.forall_mem_cons.mpr ⟨lw_p29, (List.forall_mem_cons.mpr ⟨lw_p30, (List.forall_mem_cons.mpr ⟨lw_p31, (List.forall_mem_cons.mpr ⟨lw_p32, (List.forall_mem_cons.mpr ⟨lw_p33, (List.forall_mem_cons.mpr ⟨lw_p34, (List.forall_mem_cons.mpr ⟨lw_p35, (List.forall_mem_cons.mpr ⟨lw_p36, (List.forall_mem_cons.mpr ⟨lw_p37, (List.forall_mem_cons.mpr ⟨lw_p38, (List.forall_mem_cons.mpr ⟨lw_p39, (List.forall_mem_cons.mpr ⟨lw_p40, (List.forall_mem_cons.mpr ⟨lw_p41, (List.forall_mem_cons.mpr ⟨lw_p42, (List.forall_mem_cons.mpr ⟨lw_p43, (List.forall_mem_cons.mpr ⟨lw_p44, (List.forall_mem_cons.mpr ⟨lw_p45, (List.forall_mem_cons.mpr ⟨lw_p46, (List.forall_mem_cons.mpr ⟨lw_p47, (List.forall_mem_cons.mpr ⟨lw_p48, (List.forall_mem_cons.mpr ⟨lw_p49, (List.forall_mem_cons.mpr ⟨lw_p50, (List.forall_mem_cons.mpr ⟨lw_p51, (List.forall_mem_cons.mpr ⟨lw_p52, (List.forall_mem_cons.mpr ⟨lw_p53, (List.forall_mem_cons.mpr ⟨lw_p54, (List.forall_mem_cons.mpr ⟨lw_p55, (List.forall_mem_cons.mpr ⟨lw_p56, (List.forall_mem_cons.mpr ⟨lw_p57, (List.forall_mem_cons.mpr ⟨lw_p58, (List.forall_mem_cons.mpr ⟨lw_p59, (List.forall_mem_cons.mpr ⟨lw_p60, (fun _ h => absurd h List.not_mem_nil)⟩)⟩)⟩)⟩)⟩)⟩)⟩)⟩)⟩)⟩)⟩)⟩)⟩)⟩)⟩)⟩)⟩)⟩)⟩)⟩)⟩)⟩)⟩)⟩)⟩)⟩)⟩)⟩)⟩)⟩)⟩)⟩)⟩)⟩)⟩)⟩)⟩)⟩)⟩)⟩)⟩)⟩)⟩)⟩)⟩)⟩)⟩)⟩)⟩)⟩)⟩)⟩)⟩)⟩)⟩)⟩)⟩)⟩)⟩)⟩)⟩)
def lw_tbl : List Cond := k2_sels lw_privs ++ tables_1
def TX0 : u_T := fun k => match k with
  | 0 => ("LinkedUnits$Code", "words", "[I", true)
  | _ => ("LinkedUnits$Code", "length", "I", false)
def tyX0 : Nat → FieldType := fun k => match k with
  | 0 => .array .int
  | _ => .int
theorem nmX0 : ∀ a, a < 2 → ∀ b, b < 2 → a ≠ b → (TX0 a).2.1 ≠ (TX0 b).2.1 := by decide +kernel
theorem tyX0_ok : ∀ k, k < 2 → parseFieldDescriptor (TX0 k).2.2.1 = some (tyX0 k) := by decide +kernel
def TX1 : u_T := fun k => match k with
  | 0 => ("LinkedUnits$Declarations", "grammar", "LLinkedUnits$Grammar;", true)
  | 1 => ("LinkedUnits$Declarations", "tokens", "LLinkedUnits$Tokens;", true)
  | 2 => ("LinkedUnits$Declarations", "unit", "LLinkedUnits$Unit;", true)
  | 3 => ("LinkedUnits$Declarations", "store", "LLinkedUnits$Store;", true)
  | 4 => ("LinkedUnits$Declarations", "code", "LLinkedUnits$Code;", true)
  | 5 => ("LinkedUnits$Declarations", "expressions", "LLinkedUnits$Expressions;", true)
  | 6 => ("LinkedUnits$Declarations", "square", "I", false)
  | 7 => ("LinkedUnits$Declarations", "size", "I", false)
  | 8 => ("LinkedUnits$Declarations", "given", "I", false)
  | 9 => ("LinkedUnits$Declarations", "isLocal", "Z", false)
  | 10 => ("LinkedUnits$Declarations", "variable", "I", false)
  | 11 => ("LinkedUnits$Declarations", "type", "I", false)
  | 12 => ("LinkedUnits$Declarations", "extent", "I", false)
  | 13 => ("LinkedUnits$Declarations", "isExtern", "Z", false)
  | 14 => ("LinkedUnits$Declarations", "firstCell", "I", false)
  | 15 => ("LinkedUnits$Declarations", "items", "I", false)
  | 16 => ("LinkedUnits$Declarations", "misfit", "Z", false)
  | _ => ("LinkedUnits$Declarations", "cellPlaces", "[I", true)
def tyX1 : Nat → FieldType := fun k => match k with
  | 0 => .object "LinkedUnits$Grammar"
  | 1 => .object "LinkedUnits$Tokens"
  | 2 => .object "LinkedUnits$Unit"
  | 3 => .object "LinkedUnits$Store"
  | 4 => .object "LinkedUnits$Code"
  | 5 => .object "LinkedUnits$Expressions"
  | 6 => .int
  | 7 => .int
  | 8 => .int
  | 9 => .boolean
  | 10 => .int
  | 11 => .int
  | 12 => .int
  | 13 => .boolean
  | 14 => .int
  | 15 => .int
  | 16 => .boolean
  | _ => .array .int
theorem nmX1 : ∀ a, a < 18 → ∀ b, b < 18 → a ≠ b → (TX1 a).2.1 ≠ (TX1 b).2.1 := by decide +kernel
theorem tyX1_ok : ∀ k, k < 18 → parseFieldDescriptor (TX1 k).2.2.1 = some (tyX1 k) := by decide +kernel
def TX2 : u_T := fun k => match k with
  | 0 => ("LinkedUnits$Expressions", "grammar", "LLinkedUnits$Grammar;", true)
  | 1 => ("LinkedUnits$Expressions", "tokens", "LLinkedUnits$Tokens;", true)
  | 2 => ("LinkedUnits$Expressions", "unit", "LLinkedUnits$Unit;", true)
  | 3 => ("LinkedUnits$Expressions", "store", "LLinkedUnits$Store;", true)
  | 4 => ("LinkedUnits$Expressions", "code", "LLinkedUnits$Code;", true)
  | 5 => ("LinkedUnits$Expressions", "operands", "[LLinkedUnits$Operand;", true)
  | 6 => ("LinkedUnits$Expressions", "none", "LLinkedUnits$Operand;", true)
  | _ => ("LinkedUnits$Expressions", "count", "I", false)
def tyX2 : Nat → FieldType := fun k => match k with
  | 0 => .object "LinkedUnits$Grammar"
  | 1 => .object "LinkedUnits$Tokens"
  | 2 => .object "LinkedUnits$Unit"
  | 3 => .object "LinkedUnits$Store"
  | 4 => .object "LinkedUnits$Code"
  | 5 => .array (.object "LinkedUnits$Operand")
  | 6 => .object "LinkedUnits$Operand"
  | _ => .int
theorem nmX2 : ∀ a, a < 8 → ∀ b, b < 8 → a ≠ b → (TX2 a).2.1 ≠ (TX2 b).2.1 := by decide +kernel
theorem tyX2_ok : ∀ k, k < 8 → parseFieldDescriptor (TX2 k).2.2.1 = some (tyX2 k) := by decide +kernel
def TX3 : u_T := fun k => match k with
  | 0 => ("LinkedUnits$Grammar", "tokens", "LLinkedUnits$Tokens;", true)
  | 1 => ("LinkedUnits$Grammar", "position", "I", false)
  | 2 => ("LinkedUnits$Grammar", "kind", "I", false)
  | 3 => ("LinkedUnits$Grammar", "wrong", "I", false)
  | 4 => ("LinkedUnits$Grammar", "count", "I", false)
  | 5 => ("LinkedUnits$Grammar", "acts", "[I", true)
  | 6 => ("LinkedUnits$Grammar", "ats", "[I", true)
  | 7 => ("LinkedUnits$Grammar", "firsts", "[I", true)
  | 8 => ("LinkedUnits$Grammar", "seconds", "[I", true)
  | 9 => ("LinkedUnits$Grammar", "pending", "I", false)
  | 10 => ("LinkedUnits$Grammar", "operators", "[I", true)
  | _ => ("LinkedUnits$Grammar", "parameterAt", "[I", true)
def tyX3 : Nat → FieldType := fun k => match k with
  | 0 => .object "LinkedUnits$Tokens"
  | 1 => .int
  | 2 => .int
  | 3 => .int
  | 4 => .int
  | 5 => .array .int
  | 6 => .array .int
  | 7 => .array .int
  | 8 => .array .int
  | 9 => .int
  | 10 => .array .int
  | _ => .array .int
theorem nmX3 : ∀ a, a < 12 → ∀ b, b < 12 → a ≠ b → (TX3 a).2.1 ≠ (TX3 b).2.1 := by decide +kernel
theorem tyX3_ok : ∀ k, k < 12 → parseFieldDescriptor (TX3 k).2.2.1 = some (tyX3 k) := by decide +kernel
def TX4 : u_T := fun k => match k with
  | 0 => ("LinkedUnits$Image", "store", "LLinkedUnits$Store;", true)
  | 1 => ("LinkedUnits$Image", "mainName", "[B", true)
  | 2 => ("LinkedUnits$Image", "ready", "Z", false)
  | 3 => ("LinkedUnits$Image", "faultObject", "I", false)
  | 4 => ("LinkedUnits$Image", "faultSymbol", "I", false)
  | 5 => ("LinkedUnits$Image", "picks", "I", false)
  | 6 => ("LinkedUnits$Image", "picked", "[I", true)
  | 7 => ("LinkedUnits$Image", "links", "I", false)
  | 8 => ("LinkedUnits$Image", "linked", "[I", true)
  | 9 => ("LinkedUnits$Image", "bases", "[I", true)
  | 10 => ("LinkedUnits$Image", "addresses", "[I", true)
  | _ => ("LinkedUnits$Image", "mainHeader", "I", false)
def tyX4 : Nat → FieldType := fun k => match k with
  | 0 => .object "LinkedUnits$Store"
  | 1 => .array .byte
  | 2 => .boolean
  | 3 => .int
  | 4 => .int
  | 5 => .int
  | 6 => .array .int
  | 7 => .int
  | 8 => .array .int
  | 9 => .array .int
  | 10 => .array .int
  | _ => .int
theorem nmX4 : ∀ a, a < 12 → ∀ b, b < 12 → a ≠ b → (TX4 a).2.1 ≠ (TX4 b).2.1 := by decide +kernel
theorem tyX4_ok : ∀ k, k < 12 → parseFieldDescriptor (TX4 k).2.2.1 = some (tyX4 k) := by decide +kernel
def TX5 : u_T := fun k => match k with
  | 0 => ("LinkedUnits$Machine", "store", "LLinkedUnits$Store;", true)
  | 1 => ("LinkedUnits$Machine", "image", "LLinkedUnits$Image;", true)
  | 2 => ("LinkedUnits$Machine", "tape", "LLinkedUnits$Tape;", true)
  | 3 => ("LinkedUnits$Machine", "words", "[I", true)
  | 4 => ("LinkedUnits$Machine", "memory", "[I", true)
  | 5 => ("LinkedUnits$Machine", "stack", "[I", true)
  | 6 => ("LinkedUnits$Machine", "kept", "[I", true)
  | 7 => ("LinkedUnits$Machine", "calls", "I", false)
  | 8 => ("LinkedUnits$Machine", "next", "I", false)
  | 9 => ("LinkedUnits$Machine", "top", "I", false)
  | 10 => ("LinkedUnits$Machine", "locals", "I", false)
  | 11 => ("LinkedUnits$Machine", "frame", "I", false)
  | 12 => ("LinkedUnits$Machine", "fuel", "I", false)
  | 13 => ("LinkedUnits$Machine", "outcome", "I", false)
  | 14 => ("LinkedUnits$Machine", "turned", "I", false)
  | 15 => ("LinkedUnits$Machine", "answer", "I", false)
  | 16 => ("LinkedUnits$Machine", "trapPlace", "I", false)
  | 17 => ("LinkedUnits$Machine", "trapLine", "I", false)
  | _ => ("LinkedUnits$Machine", "strayed", "I", false)
def tyX5 : Nat → FieldType := fun k => match k with
  | 0 => .object "LinkedUnits$Store"
  | 1 => .object "LinkedUnits$Image"
  | 2 => .object "LinkedUnits$Tape"
  | 3 => .array .int
  | 4 => .array .int
  | 5 => .array .int
  | 6 => .array .int
  | 7 => .int
  | 8 => .int
  | 9 => .int
  | 10 => .int
  | 11 => .int
  | 12 => .int
  | 13 => .int
  | 14 => .int
  | 15 => .int
  | 16 => .int
  | 17 => .int
  | _ => .int
theorem nmX5 : ∀ a, a < 19 → ∀ b, b < 19 → a ≠ b → (TX5 a).2.1 ≠ (TX5 b).2.1 := by decide +kernel
theorem tyX5_ok : ∀ k, k < 19 → parseFieldDescriptor (TX5 k).2.2.1 = some (tyX5 k) := by decide +kernel
def TX6 : u_T := fun k => match k with
  | 0 => ("LinkedUnits$Operand", "kind", "I", false)
  | 1 => ("LinkedUnits$Operand", "type", "I", false)
  | 2 => ("LinkedUnits$Operand", "height", "I", false)
  | 3 => ("LinkedUnits$Operand", "zero", "Z", false)
  | 4 => ("LinkedUnits$Operand", "index", "I", false)
  | 5 => ("LinkedUnits$Operand", "line", "I", false)
  | 6 => ("LinkedUnits$Operand", "form", "I", false)
  | 7 => ("LinkedUnits$Operand", "base", "I", false)
  | 8 => ("LinkedUnits$Operand", "value", "I", false)
  | 9 => ("LinkedUnits$Operand", "start", "I", false)
  | 10 => ("LinkedUnits$Operand", "jump", "I", false)
  | 11 => ("LinkedUnits$Operand", "arguments", "I", false)
  | _ => ("LinkedUnits$Operand", "misfit", "Z", false)
def tyX6 : Nat → FieldType := fun k => match k with
  | 0 => .int
  | 1 => .int
  | 2 => .int
  | 3 => .boolean
  | 4 => .int
  | 5 => .int
  | 6 => .int
  | 7 => .int
  | 8 => .int
  | 9 => .int
  | 10 => .int
  | 11 => .int
  | _ => .boolean
theorem nmX6 : ∀ a, a < 13 → ∀ b, b < 13 → a ≠ b → (TX6 a).2.1 ≠ (TX6 b).2.1 := by decide +kernel
theorem tyX6_ok : ∀ k, k < 13 → parseFieldDescriptor (TX6 k).2.2.1 = some (tyX6 k) := by decide +kernel
def TX7 : u_T := fun k => match k with
  | 0 => ("LinkedUnits$Statements", "grammar", "LLinkedUnits$Grammar;", true)
  | 1 => ("LinkedUnits$Statements", "unit", "LLinkedUnits$Unit;", true)
  | 2 => ("LinkedUnits$Statements", "code", "LLinkedUnits$Code;", true)
  | 3 => ("LinkedUnits$Statements", "expressions", "LLinkedUnits$Expressions;", true)
  | 4 => ("LinkedUnits$Statements", "declarations", "LLinkedUnits$Declarations;", true)
  | 5 => ("LinkedUnits$Statements", "open", "I", false)
  | 6 => ("LinkedUnits$Statements", "loops", "[I", true)
  | 7 => ("LinkedUnits$Statements", "tops", "[I", true)
  | 8 => ("LinkedUnits$Statements", "exits", "[I", true)
  | 9 => ("LinkedUnits$Statements", "agains", "[I", true)
  | 10 => ("LinkedUnits$Statements", "bodies", "[I", true)
  | _ => ("LinkedUnits$Statements", "lasts", "[I", true)
def tyX7 : Nat → FieldType := fun k => match k with
  | 0 => .object "LinkedUnits$Grammar"
  | 1 => .object "LinkedUnits$Unit"
  | 2 => .object "LinkedUnits$Code"
  | 3 => .object "LinkedUnits$Expressions"
  | 4 => .object "LinkedUnits$Declarations"
  | 5 => .int
  | 6 => .array .int
  | 7 => .array .int
  | 8 => .array .int
  | 9 => .array .int
  | 10 => .array .int
  | _ => .array .int
theorem nmX7 : ∀ a, a < 12 → ∀ b, b < 12 → a ≠ b → (TX7 a).2.1 ≠ (TX7 b).2.1 := by decide +kernel
theorem tyX7_ok : ∀ k, k < 12 → parseFieldDescriptor (TX7 k).2.2.1 = some (tyX7 k) := by decide +kernel
def TX8 : u_T := fun k => match k with
  | 0 => ("LinkedUnits$Store", "code", "LLinkedUnits$Code;", true)
  | 1 => ("LinkedUnits$Store", "declared", "I", false)
  | 2 => ("LinkedUnits$Store", "flags", "[I", true)
  | 3 => ("LinkedUnits$Store", "types", "[I", true)
  | 4 => ("LinkedUnits$Store", "extents", "[I", true)
  | 5 => ("LinkedUnits$Store", "values", "[I", true)
  | 6 => ("LinkedUnits$Store", "nameEnds", "[I", true)
  | 7 => ("LinkedUnits$Store", "named", "I", false)
  | 8 => ("LinkedUnits$Store", "names", "[B", true)
  | 9 => ("LinkedUnits$Store", "initials", "I", false)
  | 10 => ("LinkedUnits$Store", "initialCells", "[I", true)
  | 11 => ("LinkedUnits$Store", "initialBases", "[I", true)
  | 12 => ("LinkedUnits$Store", "initialValues", "[I", true)
  | 13 => ("LinkedUnits$Store", "objects", "I", false)
  | 14 => ("LinkedUnits$Store", "declarationEnds", "[I", true)
  | 15 => ("LinkedUnits$Store", "initialEnds", "[I", true)
  | 16 => ("LinkedUnits$Store", "codeEnds", "[I", true)
  | _ => ("LinkedUnits$Store", "dataCells", "[I", true)
def tyX8 : Nat → FieldType := fun k => match k with
  | 0 => .object "LinkedUnits$Code"
  | 1 => .int
  | 2 => .array .int
  | 3 => .array .int
  | 4 => .array .int
  | 5 => .array .int
  | 6 => .array .int
  | 7 => .int
  | 8 => .array .byte
  | 9 => .int
  | 10 => .array .int
  | 11 => .array .int
  | 12 => .array .int
  | 13 => .int
  | 14 => .array .int
  | 15 => .array .int
  | 16 => .array .int
  | _ => .array .int
theorem nmX8 : ∀ a, a < 18 → ∀ b, b < 18 → a ≠ b → (TX8 a).2.1 ≠ (TX8 b).2.1 := by decide +kernel
theorem tyX8_ok : ∀ k, k < 18 → parseFieldDescriptor (TX8 k).2.2.1 = some (tyX8 k) := by decide +kernel
def TX9 : u_T := fun k => match k with
  | 0 => ("LinkedUnits$Tape", "inputs", "I", false)
  | 1 => ("LinkedUnits$Tape", "taken", "I", false)
  | 2 => ("LinkedUnits$Tape", "outputs", "I", false)
  | 3 => ("LinkedUnits$Tape", "input", "[B", true)
  | _ => ("LinkedUnits$Tape", "output", "[B", true)
def tyX9 : Nat → FieldType := fun k => match k with
  | 0 => .int
  | 1 => .int
  | 2 => .int
  | 3 => .array .byte
  | _ => .array .byte
theorem nmX9 : ∀ a, a < 5 → ∀ b, b < 5 → a ≠ b → (TX9 a).2.1 ≠ (TX9 b).2.1 := by decide +kernel
theorem tyX9_ok : ∀ k, k < 5 → parseFieldDescriptor (TX9 k).2.2.1 = some (tyX9 k) := by decide +kernel
def TX10 : u_T := fun k => match k with
  | 0 => ("LinkedUnits$Tokens", "text", "[B", true)
  | 1 => ("LinkedUnits$Tokens", "size", "I", false)
  | 2 => ("LinkedUnits$Tokens", "position", "I", false)
  | 3 => ("LinkedUnits$Tokens", "row", "I", false)
  | 4 => ("LinkedUnits$Tokens", "count", "I", false)
  | 5 => ("LinkedUnits$Tokens", "kinds", "[I", true)
  | 6 => ("LinkedUnits$Tokens", "values", "[I", true)
  | 7 => ("LinkedUnits$Tokens", "places", "[I", true)
  | 8 => ("LinkedUnits$Tokens", "lines", "[I", true)
  | _ => ("LinkedUnits$Tokens", "codes", "[I", true)
def tyX10 : Nat → FieldType := fun k => match k with
  | 0 => .array .byte
  | 1 => .int
  | 2 => .int
  | 3 => .int
  | 4 => .int
  | 5 => .array .int
  | 6 => .array .int
  | 7 => .array .int
  | 8 => .array .int
  | _ => .array .int
theorem nmX10 : ∀ a, a < 10 → ∀ b, b < 10 → a ≠ b → (TX10 a).2.1 ≠ (TX10 b).2.1 := by decide +kernel
theorem tyX10_ok : ∀ k, k < 10 → parseFieldDescriptor (TX10 k).2.2.1 = some (tyX10 k) := by decide +kernel
def TX11 : u_T := fun k => match k with
  | 0 => ("LinkedUnits$Unit", "tokens", "LLinkedUnits$Tokens;", true)
  | 1 => ("LinkedUnits$Unit", "store", "LLinkedUnits$Store;", true)
  | 2 => ("LinkedUnits$Unit", "level", "I", false)
  | 3 => ("LinkedUnits$Unit", "fault", "I", false)
  | 4 => ("LinkedUnits$Unit", "faultToken", "I", false)
  | 5 => ("LinkedUnits$Unit", "data", "I", false)
  | 6 => ("LinkedUnits$Unit", "function", "I", false)
  | 7 => ("LinkedUnits$Unit", "outers", "I", false)
  | 8 => ("LinkedUnits$Unit", "outerTokens", "[I", true)
  | 9 => ("LinkedUnits$Unit", "callTokens", "[I", true)
  | 10 => ("LinkedUnits$Unit", "locals", "I", false)
  | 11 => ("LinkedUnits$Unit", "localTokens", "[I", true)
  | 12 => ("LinkedUnits$Unit", "localTypes", "[I", true)
  | 13 => ("LinkedUnits$Unit", "localSizes", "[I", true)
  | 14 => ("LinkedUnits$Unit", "localCells", "[I", true)
  | 15 => ("LinkedUnits$Unit", "seen", "I", false)
  | 16 => ("LinkedUnits$Unit", "seenLocals", "[I", true)
  | 17 => ("LinkedUnits$Unit", "scopes", "I", false)
  | _ => ("LinkedUnits$Unit", "scopeStarts", "[I", true)
def tyX11 : Nat → FieldType := fun k => match k with
  | 0 => .object "LinkedUnits$Tokens"
  | 1 => .object "LinkedUnits$Store"
  | 2 => .int
  | 3 => .int
  | 4 => .int
  | 5 => .int
  | 6 => .int
  | 7 => .int
  | 8 => .array .int
  | 9 => .array .int
  | 10 => .int
  | 11 => .array .int
  | 12 => .array .int
  | 13 => .array .int
  | 14 => .array .int
  | 15 => .int
  | 16 => .array .int
  | 17 => .int
  | _ => .array .int
theorem nmX11 : ∀ a, a < 19 → ∀ b, b < 19 → a ≠ b → (TX11 a).2.1 ≠ (TX11 b).2.1 := by decide +kernel
theorem tyX11_ok : ∀ k, k < 19 → parseFieldDescriptor (TX11 k).2.2.1 = some (tyX11 k) := by decide +kernel
def TX12 : u_T := fun k => match k with
  | 0 => ("LinkedUnits", "tray", "[B", true)
  | 1 => ("LinkedUnits", "held", "I", false)
  | 2 => ("LinkedUnits", "fed", "I", false)
  | 3 => ("LinkedUnits", "faultPlace", "I", false)
  | 4 => ("LinkedUnits", "tokens", "LLinkedUnits$Tokens;", true)
  | 5 => ("LinkedUnits", "grammar", "LLinkedUnits$Grammar;", true)
  | 6 => ("LinkedUnits", "code", "LLinkedUnits$Code;", true)
  | 7 => ("LinkedUnits", "store", "LLinkedUnits$Store;", true)
  | 8 => ("LinkedUnits", "unit", "LLinkedUnits$Unit;", true)
  | 9 => ("LinkedUnits", "expressions", "LLinkedUnits$Expressions;", true)
  | 10 => ("LinkedUnits", "declarations", "LLinkedUnits$Declarations;", true)
  | 11 => ("LinkedUnits", "statements", "LLinkedUnits$Statements;", true)
  | 12 => ("LinkedUnits", "image", "LLinkedUnits$Image;", true)
  | 13 => ("LinkedUnits", "tape", "LLinkedUnits$Tape;", true)
  | _ => ("LinkedUnits", "machine", "LLinkedUnits$Machine;", true)
def tyX12 : Nat → FieldType := fun k => match k with
  | 0 => .array .byte
  | 1 => .int
  | 2 => .int
  | 3 => .int
  | 4 => .object "LinkedUnits$Tokens"
  | 5 => .object "LinkedUnits$Grammar"
  | 6 => .object "LinkedUnits$Code"
  | 7 => .object "LinkedUnits$Store"
  | 8 => .object "LinkedUnits$Unit"
  | 9 => .object "LinkedUnits$Expressions"
  | 10 => .object "LinkedUnits$Declarations"
  | 11 => .object "LinkedUnits$Statements"
  | 12 => .object "LinkedUnits$Image"
  | 13 => .object "LinkedUnits$Tape"
  | _ => .object "LinkedUnits$Machine"
theorem nmX12 : ∀ a, a < 15 → ∀ b, b < 15 → a ≠ b → (TX12 a).2.1 ≠ (TX12 b).2.1 := by decide +kernel
theorem tyX12_ok : ∀ k, k < 15 → parseFieldDescriptor (TX12 k).2.2.1 = some (tyX12 k) := by decide +kernel
def TX14 : u_T := fun k => match k with
  | 0 => ("LinkedUnitsModel", "tray", "[B", true)
  | 1 => ("LinkedUnitsModel", "trayed", "I", false)
  | 2 => ("LinkedUnitsModel", "fed", "I", false)
  | 3 => ("LinkedUnitsModel", "kinds", "[I", true)
  | 4 => ("LinkedUnitsModel", "froms", "[I", true)
  | 5 => ("LinkedUnitsModel", "tos", "[I", true)
  | 6 => ("LinkedUnitsModel", "lines", "[I", true)
  | 7 => ("LinkedUnitsModel", "values", "[I", true)
  | 8 => ("LinkedUnitsModel", "tokens", "I", false)
  | 9 => ("LinkedUnitsModel", "size", "I", false)
  | 10 => ("LinkedUnitsModel", "at", "I", false)
  | 11 => ("LinkedUnitsModel", "stop", "Ljava/lang/IllegalStateException;", true)
  | 12 => ("LinkedUnitsModel", "fault", "I", false)
  | 13 => ("LinkedUnitsModel", "faultPlace", "I", false)
  | 14 => ("LinkedUnitsModel", "place", "I", false)
  | 15 => ("LinkedUnitsModel", "silent", "I", false)
  | 16 => ("LinkedUnitsModel", "words", "[I", false)
  | 17 => ("LinkedUnitsModel", "wordCount", "I", false)
  | 18 => ("LinkedUnitsModel", "sort", "[I", true)
  | 19 => ("LinkedUnitsModel", "types", "[I", true)
  | 20 => ("LinkedUnitsModel", "sizes", "[I", true)
  | 21 => ("LinkedUnitsModel", "isStatic", "[Z", true)
  | 22 => ("LinkedUnitsModel", "isDefined", "[Z", true)
  | 23 => ("LinkedUnitsModel", "isMeant", "[Z", true)
  | 24 => ("LinkedUnitsModel", "parameterCounts", "[I", true)
  | 25 => ("LinkedUnitsModel", "parameterTypes", "[I", true)
  | 26 => ("LinkedUnitsModel", "wheres", "[I", true)
  | 27 => ("LinkedUnitsModel", "nameFroms", "[I", true)
  | 28 => ("LinkedUnitsModel", "nameLengths", "[I", true)
  | 29 => ("LinkedUnitsModel", "names", "[B", true)
  | 30 => ("LinkedUnitsModel", "firstCalls", "[I", true)
  | 31 => ("LinkedUnitsModel", "nameBytes", "I", false)
  | 32 => ("LinkedUnitsModel", "firsts", "[I", true)
  | 33 => ("LinkedUnitsModel", "dataCounts", "[I", true)
  | 34 => ("LinkedUnitsModel", "initFirsts", "[I", true)
  | 35 => ("LinkedUnitsModel", "objects", "I", false)
  | 36 => ("LinkedUnitsModel", "entities", "I", false)
  | 37 => ("LinkedUnitsModel", "data", "I", false)
  | 38 => ("LinkedUnitsModel", "inits", "[I", false)
  | 39 => ("LinkedUnitsModel", "initCount", "I", false)
  | 40 => ("LinkedUnitsModel", "entries", "[I", true)
  | 41 => ("LinkedUnitsModel", "owners", "[I", true)
  | 42 => ("LinkedUnitsModel", "localCounts", "[I", true)
  | 43 => ("LinkedUnitsModel", "localRows", "[I", true)
  | 44 => ("LinkedUnitsModel", "frameCells", "[I", true)
  | 45 => ("LinkedUnitsModel", "bodies", "I", false)
  | 46 => ("LinkedUnitsModel", "localTypes", "[I", true)
  | 47 => ("LinkedUnitsModel", "localSizes", "[I", true)
  | 48 => ("LinkedUnitsModel", "hasCell", "[Z", true)
  | 49 => ("LinkedUnitsModel", "locals", "I", false)
  | 50 => ("LinkedUnitsModel", "heldTokens", "[I", true)
  | 51 => ("LinkedUnitsModel", "heldLocals", "[I", true)
  | 52 => ("LinkedUnitsModel", "heldScopes", "[I", true)
  | 53 => ("LinkedUnitsModel", "held", "I", false)
  | 54 => ("LinkedUnitsModel", "scope", "I", false)
  | 55 => ("LinkedUnitsModel", "isVoidBody", "Z", false)
  | 56 => ("LinkedUnitsModel", "resultType", "I", false)
  | 57 => ("LinkedUnitsModel", "loops", "I", false)
  | 58 => ("LinkedUnitsModel", "breaks", "I", false)
  | 59 => ("LinkedUnitsModel", "goesOn", "I", false)
  | 60 => ("LinkedUnitsModel", "outerBreaks", "I", false)
  | 61 => ("LinkedUnitsModel", "headTypes", "[I", true)
  | 62 => ("LinkedUnitsModel", "headNames", "[I", true)
  | 63 => ("LinkedUnitsModel", "headEnds", "[I", true)
  | 64 => ("LinkedUnitsModel", "headCount", "I", false)
  | 65 => ("LinkedUnitsModel", "headParameters", "I", false)
  | 66 => ("LinkedUnitsModel", "picks", "[I", true)
  | 67 => ("LinkedUnitsModel", "pickCount", "I", false)
  | 68 => ("LinkedUnitsModel", "linked", "[I", true)
  | 69 => ("LinkedUnitsModel", "bases", "[I", true)
  | 70 => ("LinkedUnitsModel", "linkedCount", "I", false)
  | 71 => ("LinkedUnitsModel", "faultObject", "I", false)
  | 72 => ("LinkedUnitsModel", "faultSymbol", "I", false)
  | 73 => ("LinkedUnitsModel", "foundAt", "I", false)
  | 74 => ("LinkedUnitsModel", "foundEntity", "I", false)
  | 75 => ("LinkedUnitsModel", "aims", "[I", true)
  | 76 => ("LinkedUnitsModel", "objectBases", "[I", true)
  | 77 => ("LinkedUnitsModel", "image", "[I", true)
  | 78 => ("LinkedUnitsModel", "mainBody", "I", false)
  | 79 => ("LinkedUnitsModel", "memory", "[I", true)
  | 80 => ("LinkedUnitsModel", "stack", "[I", true)
  | 81 => ("LinkedUnitsModel", "top", "I", false)
  | 82 => ("LinkedUnitsModel", "slots", "[I", true)
  | 83 => ("LinkedUnitsModel", "frames", "[I", true)
  | 84 => ("LinkedUnitsModel", "running", "[I", true)
  | 85 => ("LinkedUnitsModel", "returns", "[I", true)
  | 86 => ("LinkedUnitsModel", "depth", "I", false)
  | 87 => ("LinkedUnitsModel", "input", "[B", true)
  | 88 => ("LinkedUnitsModel", "inputs", "I", false)
  | 89 => ("LinkedUnitsModel", "taken", "I", false)
  | 90 => ("LinkedUnitsModel", "printed", "[B", true)
  | 91 => ("LinkedUnitsModel", "written", "I", false)
  | 92 => ("LinkedUnitsModel", "turns", "I", false)
  | 93 => ("LinkedUnitsModel", "fuel", "I", false)
  | 94 => ("LinkedUnitsModel", "result", "I", false)
  | 95 => ("LinkedUnitsModel", "trapObject", "I", false)
  | 96 => ("LinkedUnitsModel", "trapLine", "I", false)
  | 97 => ("LinkedUnitsModel", "outcome", "I", false)
  | 98 => ("LinkedUnitsModel", "hasRun", "Z", false)
  | _ => ("LinkedUnitsModel", "bodyParameters", "[I", true)
def tyX14 : Nat → FieldType := fun k => match k with
  | 0 => .array .byte
  | 1 => .int
  | 2 => .int
  | 3 => .array .int
  | 4 => .array .int
  | 5 => .array .int
  | 6 => .array .int
  | 7 => .array .int
  | 8 => .int
  | 9 => .int
  | 10 => .int
  | 11 => .object "java/lang/IllegalStateException"
  | 12 => .int
  | 13 => .int
  | 14 => .int
  | 15 => .int
  | 16 => .array .int
  | 17 => .int
  | 18 => .array .int
  | 19 => .array .int
  | 20 => .array .int
  | 21 => .array .boolean
  | 22 => .array .boolean
  | 23 => .array .boolean
  | 24 => .array .int
  | 25 => .array .int
  | 26 => .array .int
  | 27 => .array .int
  | 28 => .array .int
  | 29 => .array .byte
  | 30 => .array .int
  | 31 => .int
  | 32 => .array .int
  | 33 => .array .int
  | 34 => .array .int
  | 35 => .int
  | 36 => .int
  | 37 => .int
  | 38 => .array .int
  | 39 => .int
  | 40 => .array .int
  | 41 => .array .int
  | 42 => .array .int
  | 43 => .array .int
  | 44 => .array .int
  | 45 => .int
  | 46 => .array .int
  | 47 => .array .int
  | 48 => .array .boolean
  | 49 => .int
  | 50 => .array .int
  | 51 => .array .int
  | 52 => .array .int
  | 53 => .int
  | 54 => .int
  | 55 => .boolean
  | 56 => .int
  | 57 => .int
  | 58 => .int
  | 59 => .int
  | 60 => .int
  | 61 => .array .int
  | 62 => .array .int
  | 63 => .array .int
  | 64 => .int
  | 65 => .int
  | 66 => .array .int
  | 67 => .int
  | 68 => .array .int
  | 69 => .array .int
  | 70 => .int
  | 71 => .int
  | 72 => .int
  | 73 => .int
  | 74 => .int
  | 75 => .array .int
  | 76 => .array .int
  | 77 => .array .int
  | 78 => .int
  | 79 => .array .int
  | 80 => .array .int
  | 81 => .int
  | 82 => .array .int
  | 83 => .array .int
  | 84 => .array .int
  | 85 => .array .int
  | 86 => .int
  | 87 => .array .byte
  | 88 => .int
  | 89 => .int
  | 90 => .array .byte
  | 91 => .int
  | 92 => .int
  | 93 => .int
  | 94 => .int
  | 95 => .int
  | 96 => .int
  | 97 => .int
  | 98 => .boolean
  | _ => .array .int
theorem nmX14 : ∀ a, a < 100 → ∀ b, b < 100 → a ≠ b → (TX14 a).2.1 ≠ (TX14 b).2.1 := by decide +kernel
theorem tyX14_ok : ∀ k, k < 100 → parseFieldDescriptor (TX14 k).2.2.1 = some (tyX14 k) := by decide +kernel
def f0_X14 : List Value := [.null, .int 0, .int 0, .null, .null, .null, .null, .null, .int 0, .int 0, .int 0, .null, .int 0, .int 0, .int 0, .int 0, .null, .int 0, .null, .null, .null, .null, .null, .null, .null, .null, .null, .null, .null, .null, .null, .int 0, .null, .null, .null, .int 0, .int 0, .int 0, .null, .int 0, .null, .null, .null, .null, .null, .int 0, .null, .null, .null, .int 0, .null, .null, .null, .int 0, .int 0, .int 0, .int 0, .int 0, .int 0, .int 0, .int 0, .null, .null, .null, .int 0, .int 0, .null, .int 0, .null, .null, .int 0, .int 0, .int 0, .int 0, .int 0, .null, .null, .null, .int 0, .null, .null, .int 0, .null, .null, .null, .null, .int 0, .null, .int 0, .int 0, .null, .int 0, .int 0, .int 0, .int 0, .int 0, .int 0, .int 0, .int 0, .null]
def TXE : u_T := fun k => match k with
  | _ => ("", "", "", false)
abbrev vwCl : List vw_C := [("LinkedUnits$Code", TX0, 2), ("LinkedUnits$Declarations", TX1, 18), ("LinkedUnits$Expressions", TX2, 8), ("LinkedUnits$Grammar", TX3, 12), ("LinkedUnits$Image", TX4, 12), ("LinkedUnits$Machine", TX5, 19), ("LinkedUnits$Operand", TX6, 13), ("LinkedUnits$Statements", TX7, 12), ("LinkedUnits$Store", TX8, 18), ("LinkedUnits$Tape", TX9, 5), ("LinkedUnits$Tokens", TX10, 10), ("LinkedUnits$Unit", TX11, 19), ("LinkedUnits", TX12, 15), ("LinkedUnitsModel", TX14, 100), ("java/lang/IllegalStateException", TXE, 0)]

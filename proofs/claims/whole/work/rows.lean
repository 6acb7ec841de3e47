section
-- ===== PART A: goes FIRST, ahead of the names: the tables' words, and 'selects' of the private methods out of them =====
/-- a private method of a class that the tables say can be made, by its rows of tables_1 -/
def lw_okq (q : MethodName × Nat) : Prop := (q.1.cls ≠ "java/lang/invoke/MethodHandle" ∧ q.1.cls ≠ "java/lang/invoke/VarHandle") ∧ Cond.instantiable q.1.cls q.2 ∈ tables_1 ∧ Cond.privateMethod q.1 ∈ tables_1 ∧ Cond.instanceMethod q.1 ∈ tables_1
theorem lw_p0 : lw_okq (⟨"OrderAssembler", "shortageOfAll", "(I)I"⟩, 8) := ⟨⟨by decide +kernel, by decide +kernel⟩, List.mem_of_getElem? (i := 28) (by decide +kernel), List.mem_of_getElem? (i := 407) (by decide +kernel), List.mem_of_getElem? (i := 408) (by decide +kernel)⟩
theorem lw_p1 : lw_okq (⟨"OrderAssembler$Warehouse", "arrivingUntil", "(II)I"⟩, 7) := ⟨⟨by decide +kernel, by decide +kernel⟩, List.mem_of_getElem? (i := 147) (by decide +kernel), List.mem_of_getElem? (i := 445) (by decide +kernel), List.mem_of_getElem? (i := 446) (by decide +kernel)⟩
theorem lw_p2 : lw_okq (⟨"OrderAssembler", "promiseDate", "(II)I"⟩, 8) := ⟨⟨by decide +kernel, by decide +kernel⟩, List.mem_of_getElem? (i := 28) (by decide +kernel), List.mem_of_getElem? (i := 458) (by decide +kernel), List.mem_of_getElem? (i := 459) (by decide +kernel)⟩
theorem lw_p3 : lw_okq (⟨"OrderAssembler", "dayOfPart", "(II)I"⟩, 8) := ⟨⟨by decide +kernel, by decide +kernel⟩, List.mem_of_getElem? (i := 28) (by decide +kernel), List.mem_of_getElem? (i := 463) (by decide +kernel), List.mem_of_getElem? (i := 464) (by decide +kernel)⟩
theorem lw_p4 : lw_okq (⟨"OrderAssembler$Allocation", "begin", "(LOrderAssembler$Ledger;)V"⟩, 6) := ⟨⟨by decide +kernel, by decide +kernel⟩, List.mem_of_getElem? (i := 292) (by decide +kernel), List.mem_of_getElem? (i := 489) (by decide +kernel), List.mem_of_getElem? (i := 490) (by decide +kernel)⟩
theorem lw_p5 : lw_okq (⟨"OrderAssembler$OrderBook", "isServedBefore", "(II)Z"⟩, 9) := ⟨⟨by decide +kernel, by decide +kernel⟩, List.mem_of_getElem? (i := 178) (by decide +kernel), List.mem_of_getElem? (i := 501) (by decide +kernel), List.mem_of_getElem? (i := 502) (by decide +kernel)⟩
theorem lw_p6 : lw_okq (⟨"OrderAssembler$Allocation", "setQuotas", "(I)V"⟩, 6) := ⟨⟨by decide +kernel, by decide +kernel⟩, List.mem_of_getElem? (i := 292) (by decide +kernel), List.mem_of_getElem? (i := 575) (by decide +kernel), List.mem_of_getElem? (i := 576) (by decide +kernel)⟩
theorem lw_p7 : lw_okq (⟨"OrderAssembler$Allocation", "serve", "(LOrderAssembler$Catalog;LOrderAssembler$OrderBook;II)V"⟩, 6) := ⟨⟨by decide +kernel, by decide +kernel⟩, List.mem_of_getElem? (i := 292) (by decide +kernel), List.mem_of_getElem? (i := 584) (by decide +kernel), List.mem_of_getElem? (i := 585) (by decide +kernel)⟩
theorem lw_p8 : lw_okq (⟨"OrderAssembler$Parser", "readPart", "()Z"⟩, 5) := ⟨⟨by decide +kernel, by decide +kernel⟩, List.mem_of_getElem? (i := 36) (by decide +kernel), List.mem_of_getElem? (i := 760) (by decide +kernel), List.mem_of_getElem? (i := 761) (by decide +kernel)⟩
theorem lw_p9 : lw_okq (⟨"OrderAssembler$Parser", "isNewName", "()Z"⟩, 5) := ⟨⟨by decide +kernel, by decide +kernel⟩, List.mem_of_getElem? (i := 36) (by decide +kernel), List.mem_of_getElem? (i := 765) (by decide +kernel), List.mem_of_getElem? (i := 766) (by decide +kernel)⟩
theorem lw_p10 : lw_okq (⟨"OrderAssembler$Parser", "fail", "(I)Z"⟩, 5) := ⟨⟨by decide +kernel, by decide +kernel⟩, List.mem_of_getElem? (i := 36) (by decide +kernel), List.mem_of_getElem? (i := 773) (by decide +kernel), List.mem_of_getElem? (i := 774) (by decide +kernel)⟩
theorem lw_p11 : lw_okq (⟨"OrderAssembler$Parser", "readNumber", "(II)I"⟩, 5) := ⟨⟨by decide +kernel, by decide +kernel⟩, List.mem_of_getElem? (i := 36) (by decide +kernel), List.mem_of_getElem? (i := 793) (by decide +kernel), List.mem_of_getElem? (i := 794) (by decide +kernel)⟩
theorem lw_p12 : lw_okq (⟨"OrderAssembler$Parser", "readSemicolon", "()Z"⟩, 5) := ⟨⟨by decide +kernel, by decide +kernel⟩, List.mem_of_getElem? (i := 36) (by decide +kernel), List.mem_of_getElem? (i := 809) (by decide +kernel), List.mem_of_getElem? (i := 810) (by decide +kernel)⟩
theorem lw_p13 : lw_okq (⟨"OrderAssembler$Parser", "readProduct", "()Z"⟩, 5) := ⟨⟨by decide +kernel, by decide +kernel⟩, List.mem_of_getElem? (i := 36) (by decide +kernel), List.mem_of_getElem? (i := 818) (by decide +kernel), List.mem_of_getElem? (i := 819) (by decide +kernel)⟩
theorem lw_p14 : lw_okq (⟨"OrderAssembler$Parser", "readBillLine", "()Z"⟩, 5) := ⟨⟨by decide +kernel, by decide +kernel⟩, List.mem_of_getElem? (i := 36) (by decide +kernel), List.mem_of_getElem? (i := 827) (by decide +kernel), List.mem_of_getElem? (i := 828) (by decide +kernel)⟩
theorem lw_p15 : lw_okq (⟨"OrderAssembler$Catalog", "needWith", "(III)I"⟩, 14) := ⟨⟨by decide +kernel, by decide +kernel⟩, List.mem_of_getElem? (i := 80) (by decide +kernel), List.mem_of_getElem? (i := 844) (by decide +kernel), List.mem_of_getElem? (i := 845) (by decide +kernel)⟩
def lw_privs_1 : List (MethodName × Nat) := [(⟨"OrderAssembler", "shortageOfAll", "(I)I"⟩, 8), (⟨"OrderAssembler$Warehouse", "arrivingUntil", "(II)I"⟩, 7), (⟨"OrderAssembler", "promiseDate", "(II)I"⟩, 8), (⟨"OrderAssembler", "dayOfPart", "(II)I"⟩, 8), (⟨"OrderAssembler$Allocation", "begin", "(LOrderAssembler$Ledger;)V"⟩, 6), (⟨"OrderAssembler$OrderBook", "isServedBefore", "(II)Z"⟩, 9), (⟨"OrderAssembler$Allocation", "setQuotas", "(I)V"⟩, 6), (⟨"OrderAssembler$Allocation", "serve", "(LOrderAssembler$Catalog;LOrderAssembler$OrderBook;II)V"⟩, 6), (⟨"OrderAssembler$Parser", "readPart", "()Z"⟩, 5), (⟨"OrderAssembler$Parser", "isNewName", "()Z"⟩, 5), (⟨"OrderAssembler$Parser", "fail", "(I)Z"⟩, 5), (⟨"OrderAssembler$Parser", "readNumber", "(II)I"⟩, 5), (⟨"OrderAssembler$Parser", "readSemicolon", "()Z"⟩, 5), (⟨"OrderAssembler$Parser", "readProduct", "()Z"⟩, 5), (⟨"OrderAssembler$Parser", "readBillLine", "()Z"⟩, 5), (⟨"OrderAssembler$Catalog", "needWith", "(III)I"⟩, 14)]
theorem lw_r1 : ∀ q ∈ lw_privs_1, lw_okq q := List.forall_mem_cons.mpr ⟨lw_p0, List.forall_mem_cons.mpr ⟨lw_p1, List.forall_mem_cons.mpr ⟨lw_p2, List.forall_mem_cons.mpr ⟨lw_p3, List.forall_mem_cons.mpr ⟨lw_p4, List.forall_mem_cons.mpr ⟨lw_p5, List.forall_mem_cons.mpr ⟨lw_p6, List.forall_mem_cons.mpr ⟨lw_p7, List.forall_mem_cons.mpr ⟨lw_p8, List.forall_mem_cons.mpr ⟨lw_p9, List.forall_mem_cons.mpr ⟨lw_p10, List.forall_mem_cons.mpr ⟨lw_p11, List.forall_mem_cons.mpr ⟨lw_p12, List.forall_mem_cons.mpr ⟨lw_p13, List.forall_mem_cons.mpr ⟨lw_p14, List.forall_mem_cons.mpr ⟨lw_p15, fun _ h => absurd h List.not_mem_nil⟩⟩⟩⟩⟩⟩⟩⟩⟩⟩⟩⟩⟩⟩⟩⟩
theorem lw_p16 : lw_okq (⟨"OrderAssembler$Parser", "readRung", "()Z"⟩, 5) := ⟨⟨by decide +kernel, by decide +kernel⟩, List.mem_of_getElem? (i := 36) (by decide +kernel), List.mem_of_getElem? (i := 862) (by decide +kernel), List.mem_of_getElem? (i := 863) (by decide +kernel)⟩
theorem lw_p17 : lw_okq (⟨"OrderAssembler$Parser", "readOrder", "()Z"⟩, 5) := ⟨⟨by decide +kernel, by decide +kernel⟩, List.mem_of_getElem? (i := 36) (by decide +kernel), List.mem_of_getElem? (i := 868) (by decide +kernel), List.mem_of_getElem? (i := 869) (by decide +kernel)⟩
theorem lw_p18 : lw_okq (⟨"java/lang/Throwable", "fillInStackTrace", "(I)Ljava/lang/Throwable;"⟩, 6) := ⟨⟨by decide +kernel, by decide +kernel⟩, List.mem_of_getElem? (i := 916) (by decide +kernel), List.mem_of_getElem? (i := 914) (by decide +kernel), List.mem_of_getElem? (i := 915) (by decide +kernel)⟩
theorem lw_p19 : lw_okq (⟨"OrderAssembler", "checkProduct", "(I)V"⟩, 8) := ⟨⟨by decide +kernel, by decide +kernel⟩, List.mem_of_getElem? (i := 28) (by decide +kernel), List.mem_of_getElem? (i := 965) (by decide +kernel), List.mem_of_getElem? (i := 966) (by decide +kernel)⟩
theorem lw_p20 : lw_okq (⟨"OrderAssembler", "checkPart", "(I)V"⟩, 8) := ⟨⟨by decide +kernel, by decide +kernel⟩, List.mem_of_getElem? (i := 28) (by decide +kernel), List.mem_of_getElem? (i := 1020) (by decide +kernel), List.mem_of_getElem? (i := 1021) (by decide +kernel)⟩
theorem lw_p21 : lw_okq (⟨"OrderAssembler$Catalog", "oneMoreGains", "(II[II)Z"⟩, 14) := ⟨⟨by decide +kernel, by decide +kernel⟩, List.mem_of_getElem? (i := 80) (by decide +kernel), List.mem_of_getElem? (i := 1121) (by decide +kernel), List.mem_of_getElem? (i := 1122) (by decide +kernel)⟩
theorem lw_p22 : lw_okq (⟨"OrderAssembler$Catalog", "limitingPart", "(II[II)I"⟩, 14) := ⟨⟨by decide +kernel, by decide +kernel⟩, List.mem_of_getElem? (i := 80) (by decide +kernel), List.mem_of_getElem? (i := 1125) (by decide +kernel), List.mem_of_getElem? (i := 1126) (by decide +kernel)⟩
theorem lw_p23 : lw_okq (⟨"OrderAssembler$Catalog", "leftAfter", "(I[III)J"⟩, 14) := ⟨⟨by decide +kernel, by decide +kernel⟩, List.mem_of_getElem? (i := 80) (by decide +kernel), List.mem_of_getElem? (i := 1129) (by decide +kernel), List.mem_of_getElem? (i := 1130) (by decide +kernel)⟩
theorem lw_p24 : lw_okq (⟨"OrderAssembler", "checkOrder", "(I)V"⟩, 8) := ⟨⟨by decide +kernel, by decide +kernel⟩, List.mem_of_getElem? (i := 28) (by decide +kernel), List.mem_of_getElem? (i := 1140) (by decide +kernel), List.mem_of_getElem? (i := 1141) (by decide +kernel)⟩
theorem lw_p25 : lw_okq (⟨"OrderAssembler", "shortageOf", "(II)I"⟩, 8) := ⟨⟨by decide +kernel, by decide +kernel⟩, List.mem_of_getElem? (i := 28) (by decide +kernel), List.mem_of_getElem? (i := 1200) (by decide +kernel), List.mem_of_getElem? (i := 1201) (by decide +kernel)⟩
theorem lw_p26 : lw_okq (⟨"OrderAssembler", "isClosed", "(I)Z"⟩, 8) := ⟨⟨by decide +kernel, by decide +kernel⟩, List.mem_of_getElem? (i := 28) (by decide +kernel), List.mem_of_getElem? (i := 1225) (by decide +kernel), List.mem_of_getElem? (i := 1226) (by decide +kernel)⟩
theorem lw_p27 : lw_okq (⟨"OrderAssembler", "checkRung", "(I)V"⟩, 8) := ⟨⟨by decide +kernel, by decide +kernel⟩, List.mem_of_getElem? (i := 28) (by decide +kernel), List.mem_of_getElem? (i := 1261) (by decide +kernel), List.mem_of_getElem? (i := 1262) (by decide +kernel)⟩
theorem lw_p28 : lw_okq (⟨"OrderAssembler$OrderBook", "losesBefore", "(II)Z"⟩, 9) := ⟨⟨by decide +kernel, by decide +kernel⟩, List.mem_of_getElem? (i := 178) (by decide +kernel), List.mem_of_getElem? (i := 1402) (by decide +kernel), List.mem_of_getElem? (i := 1403) (by decide +kernel)⟩
theorem lw_p29 : lw_okq (⟨"OrderAssembler$FormattedText", "put", "(I)V"⟩, 2) := ⟨⟨by decide +kernel, by decide +kernel⟩, List.mem_of_getElem? (i := 317) (by decide +kernel), List.mem_of_getElem? (i := 1438) (by decide +kernel), List.mem_of_getElem? (i := 1439) (by decide +kernel)⟩
theorem lw_p30 : lw_okq (⟨"OrderAssemblerModel", "usualRung", "()V"⟩, 25) := ⟨⟨by decide +kernel, by decide +kernel⟩, List.mem_of_getElem? (i := 1496) (by decide +kernel), List.mem_of_getElem? (i := 1502) (by decide +kernel), List.mem_of_getElem? (i := 1503) (by decide +kernel)⟩
theorem lw_p31 : lw_okq (⟨"OrderAssemblerModel", "takesOver", "()V"⟩, 25) := ⟨⟨by decide +kernel, by decide +kernel⟩, List.mem_of_getElem? (i := 1496) (by decide +kernel), List.mem_of_getElem? (i := 1506) (by decide +kernel), List.mem_of_getElem? (i := 1507) (by decide +kernel)⟩
def lw_privs_2 : List (MethodName × Nat) := [(⟨"OrderAssembler$Parser", "readRung", "()Z"⟩, 5), (⟨"OrderAssembler$Parser", "readOrder", "()Z"⟩, 5), (⟨"java/lang/Throwable", "fillInStackTrace", "(I)Ljava/lang/Throwable;"⟩, 6), (⟨"OrderAssembler", "checkProduct", "(I)V"⟩, 8), (⟨"OrderAssembler", "checkPart", "(I)V"⟩, 8), (⟨"OrderAssembler$Catalog", "oneMoreGains", "(II[II)Z"⟩, 14), (⟨"OrderAssembler$Catalog", "limitingPart", "(II[II)I"⟩, 14), (⟨"OrderAssembler$Catalog", "leftAfter", "(I[III)J"⟩, 14), (⟨"OrderAssembler", "checkOrder", "(I)V"⟩, 8), (⟨"OrderAssembler", "shortageOf", "(II)I"⟩, 8), (⟨"OrderAssembler", "isClosed", "(I)Z"⟩, 8), (⟨"OrderAssembler", "checkRung", "(I)V"⟩, 8), (⟨"OrderAssembler$OrderBook", "losesBefore", "(II)Z"⟩, 9), (⟨"OrderAssembler$FormattedText", "put", "(I)V"⟩, 2), (⟨"OrderAssemblerModel", "usualRung", "()V"⟩, 25), (⟨"OrderAssemblerModel", "takesOver", "()V"⟩, 25)]
theorem lw_r2 : ∀ q ∈ lw_privs_2, lw_okq q := List.forall_mem_cons.mpr ⟨lw_p16, List.forall_mem_cons.mpr ⟨lw_p17, List.forall_mem_cons.mpr ⟨lw_p18, List.forall_mem_cons.mpr ⟨lw_p19, List.forall_mem_cons.mpr ⟨lw_p20, List.forall_mem_cons.mpr ⟨lw_p21, List.forall_mem_cons.mpr ⟨lw_p22, List.forall_mem_cons.mpr ⟨lw_p23, List.forall_mem_cons.mpr ⟨lw_p24, List.forall_mem_cons.mpr ⟨lw_p25, List.forall_mem_cons.mpr ⟨lw_p26, List.forall_mem_cons.mpr ⟨lw_p27, List.forall_mem_cons.mpr ⟨lw_p28, List.forall_mem_cons.mpr ⟨lw_p29, List.forall_mem_cons.mpr ⟨lw_p30, List.forall_mem_cons.mpr ⟨lw_p31, fun _ h => absurd h List.not_mem_nil⟩⟩⟩⟩⟩⟩⟩⟩⟩⟩⟩⟩⟩⟩⟩⟩
theorem lw_p32 : lw_okq (⟨"OrderAssemblerModel", "blanks", "()V"⟩, 25) := ⟨⟨by decide +kernel, by decide +kernel⟩, List.mem_of_getElem? (i := 1496) (by decide +kernel), List.mem_of_getElem? (i := 1590) (by decide +kernel), List.mem_of_getElem? (i := 1591) (by decide +kernel)⟩
theorem lw_p33 : lw_okq (⟨"OrderAssemblerModel", "isAt", "(II)Z"⟩, 25) := ⟨⟨by decide +kernel, by decide +kernel⟩, List.mem_of_getElem? (i := 1496) (by decide +kernel), List.mem_of_getElem? (i := 1594) (by decide +kernel), List.mem_of_getElem? (i := 1595) (by decide +kernel)⟩
theorem lw_p34 : lw_okq (⟨"OrderAssemblerModel", "hasFailed", "()Z"⟩, 25) := ⟨⟨by decide +kernel, by decide +kernel⟩, List.mem_of_getElem? (i := 1496) (by decide +kernel), List.mem_of_getElem? (i := 1598) (by decide +kernel), List.mem_of_getElem? (i := 1599) (by decide +kernel)⟩
theorem lw_p35 : lw_okq (⟨"OrderAssemblerModel", "isWord", "(Ljava/lang/String;)Z"⟩, 25) := ⟨⟨by decide +kernel, by decide +kernel⟩, List.mem_of_getElem? (i := 1496) (by decide +kernel), List.mem_of_getElem? (i := 1603) (by decide +kernel), List.mem_of_getElem? (i := 1604) (by decide +kernel)⟩
theorem lw_p36 : lw_okq (⟨"OrderAssemblerModel", "letters", "()I"⟩, 25) := ⟨⟨by decide +kernel, by decide +kernel⟩, List.mem_of_getElem? (i := 1496) (by decide +kernel), List.mem_of_getElem? (i := 1607) (by decide +kernel), List.mem_of_getElem? (i := 1608) (by decide +kernel)⟩
theorem lw_p37 : lw_okq (⟨"OrderAssemblerModel", "part", "()V"⟩, 25) := ⟨⟨by decide +kernel, by decide +kernel⟩, List.mem_of_getElem? (i := 1496) (by decide +kernel), List.mem_of_getElem? (i := 1613) (by decide +kernel), List.mem_of_getElem? (i := 1614) (by decide +kernel)⟩
theorem lw_p38 : lw_okq (⟨"OrderAssemblerModel", "must", "(ZI)V"⟩, 25) := ⟨⟨by decide +kernel, by decide +kernel⟩, List.mem_of_getElem? (i := 1496) (by decide +kernel), List.mem_of_getElem? (i := 1617) (by decide +kernel), List.mem_of_getElem? (i := 1618) (by decide +kernel)⟩
theorem lw_p39 : lw_okq (⟨"OrderAssemblerModel", "newName", "(I)V"⟩, 25) := ⟨⟨by decide +kernel, by decide +kernel⟩, List.mem_of_getElem? (i := 1496) (by decide +kernel), List.mem_of_getElem? (i := 1621) (by decide +kernel), List.mem_of_getElem? (i := 1622) (by decide +kernel)⟩
theorem lw_p40 : lw_okq (⟨"OrderAssemblerModel", "named", "()I"⟩, 25) := ⟨⟨by decide +kernel, by decide +kernel⟩, List.mem_of_getElem? (i := 1496) (by decide +kernel), List.mem_of_getElem? (i := 1625) (by decide +kernel), List.mem_of_getElem? (i := 1626) (by decide +kernel)⟩
theorem lw_p41 : lw_okq (⟨"OrderAssemblerModel", "number", "(II)I"⟩, 25) := ⟨⟨by decide +kernel, by decide +kernel⟩, List.mem_of_getElem? (i := 1496) (by decide +kernel), List.mem_of_getElem? (i := 1632) (by decide +kernel), List.mem_of_getElem? (i := 1633) (by decide +kernel)⟩
theorem lw_p42 : lw_okq (⟨"OrderAssemblerModel", "product", "()V"⟩, 25) := ⟨⟨by decide +kernel, by decide +kernel⟩, List.mem_of_getElem? (i := 1496) (by decide +kernel), List.mem_of_getElem? (i := 1637) (by decide +kernel), List.mem_of_getElem? (i := 1638) (by decide +kernel)⟩
theorem lw_p43 : lw_okq (⟨"OrderAssemblerModel", "line", "(II)V"⟩, 25) := ⟨⟨by decide +kernel, by decide +kernel⟩, List.mem_of_getElem? (i := 1496) (by decide +kernel), List.mem_of_getElem? (i := 1641) (by decide +kernel), List.mem_of_getElem? (i := 1642) (by decide +kernel)⟩
theorem lw_p44 : lw_okq (⟨"OrderAssemblerModel", "blanks0", "()V"⟩, 25) := ⟨⟨by decide +kernel, by decide +kernel⟩, List.mem_of_getElem? (i := 1496) (by decide +kernel), List.mem_of_getElem? (i := 1645) (by decide +kernel), List.mem_of_getElem? (i := 1646) (by decide +kernel)⟩
theorem lw_p45 : lw_okq (⟨"OrderAssemblerModel", "rung", "()V"⟩, 25) := ⟨⟨by decide +kernel, by decide +kernel⟩, List.mem_of_getElem? (i := 1496) (by decide +kernel), List.mem_of_getElem? (i := 1650) (by decide +kernel), List.mem_of_getElem? (i := 1651) (by decide +kernel)⟩
theorem lw_p46 : lw_okq (⟨"OrderAssemblerModel", "order", "()V"⟩, 25) := ⟨⟨by decide +kernel, by decide +kernel⟩, List.mem_of_getElem? (i := 1496) (by decide +kernel), List.mem_of_getElem? (i := 1655) (by decide +kernel), List.mem_of_getElem? (i := 1656) (by decide +kernel)⟩
theorem lw_p47 : lw_okq (⟨"OrderAssemblerModel", "takes", "(Ljava/lang/String;)Z"⟩, 25) := ⟨⟨by decide +kernel, by decide +kernel⟩, List.mem_of_getElem? (i := 1496) (by decide +kernel), List.mem_of_getElem? (i := 1660) (by decide +kernel), List.mem_of_getElem? (i := 1661) (by decide +kernel)⟩
def lw_privs_3 : List (MethodName × Nat) := [(⟨"OrderAssemblerModel", "blanks", "()V"⟩, 25), (⟨"OrderAssemblerModel", "isAt", "(II)Z"⟩, 25), (⟨"OrderAssemblerModel", "hasFailed", "()Z"⟩, 25), (⟨"OrderAssemblerModel", "isWord", "(Ljava/lang/String;)Z"⟩, 25), (⟨"OrderAssemblerModel", "letters", "()I"⟩, 25), (⟨"OrderAssemblerModel", "part", "()V"⟩, 25), (⟨"OrderAssemblerModel", "must", "(ZI)V"⟩, 25), (⟨"OrderAssemblerModel", "newName", "(I)V"⟩, 25), (⟨"OrderAssemblerModel", "named", "()I"⟩, 25), (⟨"OrderAssemblerModel", "number", "(II)I"⟩, 25), (⟨"OrderAssemblerModel", "product", "()V"⟩, 25), (⟨"OrderAssemblerModel", "line", "(II)V"⟩, 25), (⟨"OrderAssemblerModel", "blanks0", "()V"⟩, 25), (⟨"OrderAssemblerModel", "rung", "()V"⟩, 25), (⟨"OrderAssemblerModel", "order", "()V"⟩, 25), (⟨"OrderAssemblerModel", "takes", "(Ljava/lang/String;)Z"⟩, 25)]
theorem lw_r3 : ∀ q ∈ lw_privs_3, lw_okq q := List.forall_mem_cons.mpr ⟨lw_p32, List.forall_mem_cons.mpr ⟨lw_p33, List.forall_mem_cons.mpr ⟨lw_p34, List.forall_mem_cons.mpr ⟨lw_p35, List.forall_mem_cons.mpr ⟨lw_p36, List.forall_mem_cons.mpr ⟨lw_p37, List.forall_mem_cons.mpr ⟨lw_p38, List.forall_mem_cons.mpr ⟨lw_p39, List.forall_mem_cons.mpr ⟨lw_p40, List.forall_mem_cons.mpr ⟨lw_p41, List.forall_mem_cons.mpr ⟨lw_p42, List.forall_mem_cons.mpr ⟨lw_p43, List.forall_mem_cons.mpr ⟨lw_p44, List.forall_mem_cons.mpr ⟨lw_p45, List.forall_mem_cons.mpr ⟨lw_p46, List.forall_mem_cons.mpr ⟨lw_p47, fun _ h => absurd h List.not_mem_nil⟩⟩⟩⟩⟩⟩⟩⟩⟩⟩⟩⟩⟩⟩⟩⟩
theorem lw_p48 : lw_okq (⟨"OrderAssemblerModel", "throwsIf", "(ZI)Z"⟩, 25) := ⟨⟨by decide +kernel, by decide +kernel⟩, List.mem_of_getElem? (i := 1496) (by decide +kernel), List.mem_of_getElem? (i := 1664) (by decide +kernel), List.mem_of_getElem? (i := 1665) (by decide +kernel)⟩
theorem lw_p49 : lw_okq (⟨"OrderAssemblerModel", "noProduct", "(I)Z"⟩, 25) := ⟨⟨by decide +kernel, by decide +kernel⟩, List.mem_of_getElem? (i := 1496) (by decide +kernel), List.mem_of_getElem? (i := 1684) (by decide +kernel), List.mem_of_getElem? (i := 1685) (by decide +kernel)⟩
theorem lw_p50 : lw_okq (⟨"OrderAssemblerModel", "noPart", "(I)Z"⟩, 25) := ⟨⟨by decide +kernel, by decide +kernel⟩, List.mem_of_getElem? (i := 1496) (by decide +kernel), List.mem_of_getElem? (i := 1700) (by decide +kernel), List.mem_of_getElem? (i := 1701) (by decide +kernel)⟩
theorem lw_p51 : lw_okq (⟨"OrderAssemblerModel", "needs", "(II)I"⟩, 25) := ⟨⟨by decide +kernel, by decide +kernel⟩, List.mem_of_getElem? (i := 1496) (by decide +kernel), List.mem_of_getElem? (i := 1704) (by decide +kernel), List.mem_of_getElem? (i := 1705) (by decide +kernel)⟩
theorem lw_p52 : lw_okq (⟨"OrderAssemblerModel", "levelOf", "(I)I"⟩, 25) := ⟨⟨by decide +kernel, by decide +kernel⟩, List.mem_of_getElem? (i := 1496) (by decide +kernel), List.mem_of_getElem? (i := 1712) (by decide +kernel), List.mem_of_getElem? (i := 1713) (by decide +kernel)⟩
theorem lw_p53 : lw_okq (⟨"OrderAssemblerModel", "comesBy", "(II)I"⟩, 25) := ⟨⟨by decide +kernel, by decide +kernel⟩, List.mem_of_getElem? (i := 1496) (by decide +kernel), List.mem_of_getElem? (i := 1746) (by decide +kernel), List.mem_of_getElem? (i := 1747) (by decide +kernel)⟩
theorem lw_p54 : lw_okq (⟨"OrderAssemblerModel", "builds", "(I)I"⟩, 25) := ⟨⟨by decide +kernel, by decide +kernel⟩, List.mem_of_getElem? (i := 1496) (by decide +kernel), List.mem_of_getElem? (i := 1758) (by decide +kernel), List.mem_of_getElem? (i := 1759) (by decide +kernel)⟩
theorem lw_p55 : lw_okq (⟨"OrderAssemblerModel", "leastOf", "(I)I"⟩, 25) := ⟨⟨by decide +kernel, by decide +kernel⟩, List.mem_of_getElem? (i := 1496) (by decide +kernel), List.mem_of_getElem? (i := 1762) (by decide +kernel), List.mem_of_getElem? (i := 1763) (by decide +kernel)⟩
theorem lw_p56 : lw_okq (⟨"OrderAssemblerModel", "free", "(I)I"⟩, 25) := ⟨⟨by decide +kernel, by decide +kernel⟩, List.mem_of_getElem? (i := 1496) (by decide +kernel), List.mem_of_getElem? (i := 1766) (by decide +kernel), List.mem_of_getElem? (i := 1767) (by decide +kernel)⟩
theorem lw_p57 : lw_okq (⟨"OrderAssemblerModel", "noOrder", "(I)Z"⟩, 25) := ⟨⟨by decide +kernel, by decide +kernel⟩, List.mem_of_getElem? (i := 1496) (by decide +kernel), List.mem_of_getElem? (i := 1783) (by decide +kernel), List.mem_of_getElem? (i := 1784) (by decide +kernel)⟩
theorem lw_p58 : lw_okq (⟨"OrderAssemblerModel", "of", "(II)I"⟩, 25) := ⟨⟨by decide +kernel, by decide +kernel⟩, List.mem_of_getElem? (i := 1496) (by decide +kernel), List.mem_of_getElem? (i := 1787) (by decide +kernel), List.mem_of_getElem? (i := 1788) (by decide +kernel)⟩
theorem lw_p59 : lw_okq (⟨"OrderAssemblerModel", "open", "(I)I"⟩, 25) := ⟨⟨by decide +kernel, by decide +kernel⟩, List.mem_of_getElem? (i := 1496) (by decide +kernel), List.mem_of_getElem? (i := 1791) (by decide +kernel), List.mem_of_getElem? (i := 1792) (by decide +kernel)⟩
theorem lw_p60 : lw_okq (⟨"OrderAssemblerModel", "buys", "(I)I"⟩, 25) := ⟨⟨by decide +kernel, by decide +kernel⟩, List.mem_of_getElem? (i := 1496) (by decide +kernel), List.mem_of_getElem? (i := 1819) (by decide +kernel), List.mem_of_getElem? (i := 1820) (by decide +kernel)⟩
theorem lw_p61 : lw_okq (⟨"OrderAssemblerModel", "promises", "(II)I"⟩, 25) := ⟨⟨by decide +kernel, by decide +kernel⟩, List.mem_of_getElem? (i := 1496) (by decide +kernel), List.mem_of_getElem? (i := 1831) (by decide +kernel), List.mem_of_getElem? (i := 1832) (by decide +kernel)⟩
theorem lw_p62 : lw_okq (⟨"OrderAssemblerModel", "dayOf", "(II)I"⟩, 25) := ⟨⟨by decide +kernel, by decide +kernel⟩, List.mem_of_getElem? (i := 1496) (by decide +kernel), List.mem_of_getElem? (i := 1835) (by decide +kernel), List.mem_of_getElem? (i := 1836) (by decide +kernel)⟩
theorem lw_p63 : lw_okq (⟨"OrderAssemblerModel", "isOver", "(I)Z"⟩, 25) := ⟨⟨by decide +kernel, by decide +kernel⟩, List.mem_of_getElem? (i := 1496) (by decide +kernel), List.mem_of_getElem? (i := 1843) (by decide +kernel), List.mem_of_getElem? (i := 1844) (by decide +kernel)⟩
def lw_privs_4 : List (MethodName × Nat) := [(⟨"OrderAssemblerModel", "throwsIf", "(ZI)Z"⟩, 25), (⟨"OrderAssemblerModel", "noProduct", "(I)Z"⟩, 25), (⟨"OrderAssemblerModel", "noPart", "(I)Z"⟩, 25), (⟨"OrderAssemblerModel", "needs", "(II)I"⟩, 25), (⟨"OrderAssemblerModel", "levelOf", "(I)I"⟩, 25), (⟨"OrderAssemblerModel", "comesBy", "(II)I"⟩, 25), (⟨"OrderAssemblerModel", "builds", "(I)I"⟩, 25), (⟨"OrderAssemblerModel", "leastOf", "(I)I"⟩, 25), (⟨"OrderAssemblerModel", "free", "(I)I"⟩, 25), (⟨"OrderAssemblerModel", "noOrder", "(I)Z"⟩, 25), (⟨"OrderAssemblerModel", "of", "(II)I"⟩, 25), (⟨"OrderAssemblerModel", "open", "(I)I"⟩, 25), (⟨"OrderAssemblerModel", "buys", "(I)I"⟩, 25), (⟨"OrderAssemblerModel", "promises", "(II)I"⟩, 25), (⟨"OrderAssemblerModel", "dayOf", "(II)I"⟩, 25), (⟨"OrderAssemblerModel", "isOver", "(I)Z"⟩, 25)]
theorem lw_r4 : ∀ q ∈ lw_privs_4, lw_okq q := List.forall_mem_cons.mpr ⟨lw_p48, List.forall_mem_cons.mpr ⟨lw_p49, List.forall_mem_cons.mpr ⟨lw_p50, List.forall_mem_cons.mpr ⟨lw_p51, List.forall_mem_cons.mpr ⟨lw_p52, List.forall_mem_cons.mpr ⟨lw_p53, List.forall_mem_cons.mpr ⟨lw_p54, List.forall_mem_cons.mpr ⟨lw_p55, List.forall_mem_cons.mpr ⟨lw_p56, List.forall_mem_cons.mpr ⟨lw_p57, List.forall_mem_cons.mpr ⟨lw_p58, List.forall_mem_cons.mpr ⟨lw_p59, List.forall_mem_cons.mpr ⟨lw_p60, List.forall_mem_cons.mpr ⟨lw_p61, List.forall_mem_cons.mpr ⟨lw_p62, List.forall_mem_cons.mpr ⟨lw_p63, fun _ h => absurd h List.not_mem_nil⟩⟩⟩⟩⟩⟩⟩⟩⟩⟩⟩⟩⟩⟩⟩⟩
theorem lw_p64 : lw_okq (⟨"OrderAssemblerModel", "triesAll", "()V"⟩, 25) := ⟨⟨by decide +kernel, by decide +kernel⟩, List.mem_of_getElem? (i := 1496) (by decide +kernel), List.mem_of_getElem? (i := 1859) (by decide +kernel), List.mem_of_getElem? (i := 1860) (by decide +kernel)⟩
theorem lw_p65 : lw_okq (⟨"OrderAssemblerModel", "triesRung", "(I)V"⟩, 25) := ⟨⟨by decide +kernel, by decide +kernel⟩, List.mem_of_getElem? (i := 1496) (by decide +kernel), List.mem_of_getElem? (i := 1863) (by decide +kernel), List.mem_of_getElem? (i := 1864) (by decide +kernel)⟩
theorem lw_p66 : lw_okq (⟨"OrderAssemblerModel", "nextIn", "(I)I"⟩, 25) := ⟨⟨by decide +kernel, by decide +kernel⟩, List.mem_of_getElem? (i := 1496) (by decide +kernel), List.mem_of_getElem? (i := 1867) (by decide +kernel), List.mem_of_getElem? (i := 1868) (by decide +kernel)⟩
theorem lw_p67 : lw_okq (⟨"OrderAssemblerModel", "isAhead", "(II)Z"⟩, 25) := ⟨⟨by decide +kernel, by decide +kernel⟩, List.mem_of_getElem? (i := 1496) (by decide +kernel), List.mem_of_getElem? (i := 1871) (by decide +kernel), List.mem_of_getElem? (i := 1872) (by decide +kernel)⟩
theorem lw_p68 : lw_okq (⟨"OrderAssemblerModel", "can", "(I)I"⟩, 25) := ⟨⟨by decide +kernel, by decide +kernel⟩, List.mem_of_getElem? (i := 1496) (by decide +kernel), List.mem_of_getElem? (i := 1875) (by decide +kernel), List.mem_of_getElem? (i := 1876) (by decide +kernel)⟩
theorem lw_p69 : lw_okq (⟨"OrderAssemblerModel", "takes0", "(II)V"⟩, 25) := ⟨⟨by decide +kernel, by decide +kernel⟩, List.mem_of_getElem? (i := 1496) (by decide +kernel), List.mem_of_getElem? (i := 1879) (by decide +kernel), List.mem_of_getElem? (i := 1880) (by decide +kernel)⟩
theorem lw_p70 : lw_okq (⟨"OrderAssemblerModel", "nextOpen", "(I)I"⟩, 25) := ⟨⟨by decide +kernel, by decide +kernel⟩, List.mem_of_getElem? (i := 1496) (by decide +kernel), List.mem_of_getElem? (i := 1903) (by decide +kernel), List.mem_of_getElem? (i := 1904) (by decide +kernel)⟩
theorem lw_p71 : lw_okq (⟨"OrderAssemblerModel", "isCovered", "(I)Z"⟩, 25) := ⟨⟨by decide +kernel, by decide +kernel⟩, List.mem_of_getElem? (i := 1496) (by decide +kernel), List.mem_of_getElem? (i := 1907) (by decide +kernel), List.mem_of_getElem? (i := 1908) (by decide +kernel)⟩
theorem lw_p72 : lw_okq (⟨"OrderAssemblerModel", "keeps", "()V"⟩, 25) := ⟨⟨by decide +kernel, by decide +kernel⟩, List.mem_of_getElem? (i := 1496) (by decide +kernel), List.mem_of_getElem? (i := 1919) (by decide +kernel), List.mem_of_getElem? (i := 1920) (by decide +kernel)⟩
theorem lw_p73 : lw_okq (⟨"OrderAssemblerModel", "holds", "(II)V"⟩, 25) := ⟨⟨by decide +kernel, by decide +kernel⟩, List.mem_of_getElem? (i := 1496) (by decide +kernel), List.mem_of_getElem? (i := 1927) (by decide +kernel), List.mem_of_getElem? (i := 1928) (by decide +kernel)⟩
theorem lw_p74 : lw_okq (⟨"OrderAssemblerModel", "grows", "(III)V"⟩, 25) := ⟨⟨by decide +kernel, by decide +kernel⟩, List.mem_of_getElem? (i := 1496) (by decide +kernel), List.mem_of_getElem? (i := 1931) (by decide +kernel), List.mem_of_getElem? (i := 1932) (by decide +kernel)⟩
theorem lw_p75 : lw_okq (⟨"OrderAssemblerModel", "isOff", "(II)Z"⟩, 25) := ⟨⟨by decide +kernel, by decide +kernel⟩, List.mem_of_getElem? (i := 1496) (by decide +kernel), List.mem_of_getElem? (i := 1939) (by decide +kernel), List.mem_of_getElem? (i := 1940) (by decide +kernel)⟩
theorem lw_p76 : lw_okq (⟨"OrderAssemblerModel", "hasFor", "(II)Z"⟩, 25) := ⟨⟨by decide +kernel, by decide +kernel⟩, List.mem_of_getElem? (i := 1496) (by decide +kernel), List.mem_of_getElem? (i := 1943) (by decide +kernel), List.mem_of_getElem? (i := 1944) (by decide +kernel)⟩
theorem lw_p77 : lw_okq (⟨"OrderAssemblerModel", "logs", "(II)V"⟩, 25) := ⟨⟨by decide +kernel, by decide +kernel⟩, List.mem_of_getElem? (i := 1496) (by decide +kernel), List.mem_of_getElem? (i := 1959) (by decide +kernel), List.mem_of_getElem? (i := 1960) (by decide +kernel)⟩
theorem lw_p78 : lw_okq (⟨"OrderAssemblerModel", "loser", "(I)I"⟩, 25) := ⟨⟨by decide +kernel, by decide +kernel⟩, List.mem_of_getElem? (i := 1496) (by decide +kernel), List.mem_of_getElem? (i := 1971) (by decide +kernel), List.mem_of_getElem? (i := 1972) (by decide +kernel)⟩
theorem lw_p79 : lw_okq (⟨"OrderAssemblerModel", "comesNow", "()I"⟩, 25) := ⟨⟨by decide +kernel, by decide +kernel⟩, List.mem_of_getElem? (i := 1496) (by decide +kernel), List.mem_of_getElem? (i := 1979) (by decide +kernel), List.mem_of_getElem? (i := 1980) (by decide +kernel)⟩
def lw_privs_5 : List (MethodName × Nat) := [(⟨"OrderAssemblerModel", "triesAll", "()V"⟩, 25), (⟨"OrderAssemblerModel", "triesRung", "(I)V"⟩, 25), (⟨"OrderAssemblerModel", "nextIn", "(I)I"⟩, 25), (⟨"OrderAssemblerModel", "isAhead", "(II)Z"⟩, 25), (⟨"OrderAssemblerModel", "can", "(I)I"⟩, 25), (⟨"OrderAssemblerModel", "takes0", "(II)V"⟩, 25), (⟨"OrderAssemblerModel", "nextOpen", "(I)I"⟩, 25), (⟨"OrderAssemblerModel", "isCovered", "(I)Z"⟩, 25), (⟨"OrderAssemblerModel", "keeps", "()V"⟩, 25), (⟨"OrderAssemblerModel", "holds", "(II)V"⟩, 25), (⟨"OrderAssemblerModel", "grows", "(III)V"⟩, 25), (⟨"OrderAssemblerModel", "isOff", "(II)Z"⟩, 25), (⟨"OrderAssemblerModel", "hasFor", "(II)Z"⟩, 25), (⟨"OrderAssemblerModel", "logs", "(II)V"⟩, 25), (⟨"OrderAssemblerModel", "loser", "(I)I"⟩, 25), (⟨"OrderAssemblerModel", "comesNow", "()I"⟩, 25)]
theorem lw_r5 : ∀ q ∈ lw_privs_5, lw_okq q := List.forall_mem_cons.mpr ⟨lw_p64, List.forall_mem_cons.mpr ⟨lw_p65, List.forall_mem_cons.mpr ⟨lw_p66, List.forall_mem_cons.mpr ⟨lw_p67, List.forall_mem_cons.mpr ⟨lw_p68, List.forall_mem_cons.mpr ⟨lw_p69, List.forall_mem_cons.mpr ⟨lw_p70, List.forall_mem_cons.mpr ⟨lw_p71, List.forall_mem_cons.mpr ⟨lw_p72, List.forall_mem_cons.mpr ⟨lw_p73, List.forall_mem_cons.mpr ⟨lw_p74, List.forall_mem_cons.mpr ⟨lw_p75, List.forall_mem_cons.mpr ⟨lw_p76, List.forall_mem_cons.mpr ⟨lw_p77, List.forall_mem_cons.mpr ⟨lw_p78, List.forall_mem_cons.mpr ⟨lw_p79, fun _ h => absurd h List.not_mem_nil⟩⟩⟩⟩⟩⟩⟩⟩⟩⟩⟩⟩⟩⟩⟩⟩
theorem lw_p80 : lw_okq (⟨"OrderAssemblerModel", "saysName", "(I)V"⟩, 25) := ⟨⟨by decide +kernel, by decide +kernel⟩, List.mem_of_getElem? (i := 1496) (by decide +kernel), List.mem_of_getElem? (i := 1995) (by decide +kernel), List.mem_of_getElem? (i := 1996) (by decide +kernel)⟩
theorem lw_p81 : lw_okq (⟨"OrderAssemblerModel", "says", "(I)V"⟩, 25) := ⟨⟨by decide +kernel, by decide +kernel⟩, List.mem_of_getElem? (i := 1496) (by decide +kernel), List.mem_of_getElem? (i := 1999) (by decide +kernel), List.mem_of_getElem? (i := 2000) (by decide +kernel)⟩
theorem lw_p82 : lw_okq (⟨"OrderAssemblerModel", "saysPart", "(Ljava/lang/String;I)V"⟩, 25) := ⟨⟨by decide +kernel, by decide +kernel⟩, List.mem_of_getElem? (i := 1496) (by decide +kernel), List.mem_of_getElem? (i := 2004) (by decide +kernel), List.mem_of_getElem? (i := 2005) (by decide +kernel)⟩
theorem lw_p83 : lw_okq (⟨"OrderAssemblerModel", "saysWord", "(Ljava/lang/String;)V"⟩, 25) := ⟨⟨by decide +kernel, by decide +kernel⟩, List.mem_of_getElem? (i := 1496) (by decide +kernel), List.mem_of_getElem? (i := 2008) (by decide +kernel), List.mem_of_getElem? (i := 2009) (by decide +kernel)⟩
theorem lw_p84 : lw_okq (⟨"OrderAssemblerModel", "saysNumber", "(I)V"⟩, 25) := ⟨⟨by decide +kernel, by decide +kernel⟩, List.mem_of_getElem? (i := 1496) (by decide +kernel), List.mem_of_getElem? (i := 2012) (by decide +kernel), List.mem_of_getElem? (i := 2013) (by decide +kernel)⟩
def lw_privs_6 : List (MethodName × Nat) := [(⟨"OrderAssemblerModel", "saysName", "(I)V"⟩, 25), (⟨"OrderAssemblerModel", "says", "(I)V"⟩, 25), (⟨"OrderAssemblerModel", "saysPart", "(Ljava/lang/String;I)V"⟩, 25), (⟨"OrderAssemblerModel", "saysWord", "(Ljava/lang/String;)V"⟩, 25), (⟨"OrderAssemblerModel", "saysNumber", "(I)V"⟩, 25)]
theorem lw_r6 : ∀ q ∈ lw_privs_6, lw_okq q := List.forall_mem_cons.mpr ⟨lw_p80, List.forall_mem_cons.mpr ⟨lw_p81, List.forall_mem_cons.mpr ⟨lw_p82, List.forall_mem_cons.mpr ⟨lw_p83, List.forall_mem_cons.mpr ⟨lw_p84, fun _ h => absurd h List.not_mem_nil⟩⟩⟩⟩⟩
def lw_privs : List (MethodName × Nat) := lw_privs_1 ++ (lw_privs_2 ++ (lw_privs_3 ++ (lw_privs_4 ++ (lw_privs_5 ++ (lw_privs_6)))))
def lw_tbl : List Cond := k2_sels lw_privs ++ tables_1
theorem lw_privs_ok : ∀ q ∈ lw_privs, lw_okq q := by
  show ∀ q ∈ lw_privs_1 ++ (lw_privs_2 ++ (lw_privs_3 ++ (lw_privs_4 ++ (lw_privs_5 ++ (lw_privs_6))))), lw_okq q
  exact List.forall_mem_append.mpr ⟨lw_r1, List.forall_mem_append.mpr ⟨lw_r2, List.forall_mem_append.mpr ⟨lw_r3, List.forall_mem_append.mpr ⟨lw_r4, List.forall_mem_append.mpr ⟨lw_r5, lw_r6⟩⟩⟩⟩⟩
-- ===== end of PART A; then your names; then what follows =====
end
section
/-! ===== BEGIN words of one list among another's, by their places ===== -/
theorem goodIn_r {big : List Cond} (ws : List Cond) (ps : List Nat) (hp : ws = ps.filterMap (fun i => big[i]?)) (h : ws.all goodWord = true) : GoodIn big ws := by
  intro w hw
  have h1 := List.all_eq_true.mp h w hw
  rw [hp] at hw
  obtain ⟨i, -, hi⟩ := List.mem_filterMap.mp hw
  have hm : w ∈ big := by first | exact List.mem_of_getElem? hi | exact List.getElem?_mem hi
  exact ⟨hm, good_of_word h1⟩
theorem goodIn_app {big a b : List Cond} (ha : GoodIn big a) (hb : GoodIn big b) : GoodIn big (a ++ b) := fun w h => (List.mem_append.mp h).elim (ha w) (hb w)
theorem goodIn_ca {big a b : List Cond} {c : Cond} (ha : GoodIn big (c :: a)) (hb : GoodIn big b) : GoodIn big (c :: (a ++ b)) := fun w h => (List.mem_cons.mp h).elim (fun e => ha w (List.mem_cons.mpr (Or.inl e))) (fun h => (List.mem_append.mp h).elim (fun h => ha w (List.mem_cons.mpr (Or.inr h))) (hb w))
theorem goodIn_sub {big ws : List Cond} (hm : ∀ w ∈ ws, w ∈ big) (h : ws.all goodWord = true) : GoodIn big ws := fun w hw => ⟨hm w hw, good_of_word (List.all_eq_true.mp h w hw)⟩
/-! ===== END ===== -/
/-! ===== BEGIN exceptions that leave a method, and their catching by the caller (launches without stack traces) ===== -/
section VXA
/-! The laws vx_back, vx_callV, vx_callS, vx_callSW, vx_throw0, vx_throwS follow proofs of the library, with one case more: JvmDerived/Free/Laws.lean (Back.of_free), Shelf42/LK1.lean (callV, callS), Shelf/KitTraced.lean (throwNew0V, throwNewS). -/
/-- where a method has thrown q: the class by its name, the cell, what was written, the world -/
def vx_T (XC : String → State → State → Prop) (st : State) (q : Addr) (t : State) (mc ms : Nat) (free : Addr → Prop) : Prop :=
  ∃ (E : String) (ce : Cell) (L : List Loc), XC E st t ∧ t.heap[q]? = some ce ∧ ce.vm = .none ∧ st.vm.findClass E = some ce.cls ∧ st.WarmedH t.vm ∧ st.sameButNew ({ t with vm := st.vm } : State) L mc ms ∧ ∀ z ∈ L, free z.base
def vx_Q (Qc : Array Value → State → Outcome → State → Prop) (XC : String → State → State → Prop) (mc ms : Nat) (free : Addr → Prop) : Array Value → State → Outcome → State → Prop := fun a st o t =>
  (Qc a st o t ∧ ∃ L, FrameEnd st o t L mc ms ∧ ∀ q ∈ L, free q.base) ∨ ∃ q, o = .threw q ∧ vx_T XC st q t mc ms free
/-- a callee that returns or throws -/
def vx_Met (l : Launch) (y : MethodName) (ws : List Cond) (rm : Room) (Pc : Array Value → State → Prop) (Qc : Array Value → State → Outcome → State → Prop) (XC : String → State → State → Prop) (mc ms : Nat) (free : Addr → Prop) : Prop :=
  MetFree l y (headSpec ws rm) Pc (fun _ _ _ _ _ => True) (vx_Q Qc XC mc ms free)
def vx_Post (XC : String → State → State → Prop) (mc ms : Nat) (free : Addr → Prop) : Pt → Array Value → Addr → Pt → Prop := fun A a q B =>
  ∃ (g : JFrame) (mk : MethodId) (t : State) (L : List Loc) (E : String) (ce : Cell), B.U.heap = t.heap ∧ B.U.vm = t.vm ∧ XC E (A.U.calling g mk a) t ∧ t.heap[q]? = some ce ∧ ce.vm = .none ∧ A.U.vm.findClass E = some ce.cls ∧ B.locs = A.locs ++ L ∧ (∀ z ∈ L, free z.base) ∧ B.cells = A.cells + mc ∧ B.slots = A.slots + ms
def vx_Back (l : Launch) (R : Room) (p : Program) (e : Env) (below : List Frame) (s : State) (sargs : Array Value) (y : MethodName) (len W9 : Nat)
    (Pre : Pt → Array Value → Prop) (Post : Pt → Array Value → Option Value → Pt → Prop) (PostX : Pt → Array Value → Addr → Pt → Prop) : Prop :=
  ∀ (m : MethodId) (meth : Method) (c : Code) (A : Pt) (g : JFrame) (ig : Instr) (mk : MethodId) (a : Array Value),
    Stand p l e R s m sargs below meth c A.U A.locs A.cells A.slots → g.method = m → g.locals.size = c.maxLocals → decode c.code g.pc = .ok (ig, len) →
    2 * g.monitorRoom + (g.stack.map fun v => v.category).sum ≤ W9 → A.U.methodNamed? y = some mk → Pre A a →
    (∃ (v : Option Value) (B : Pt), Stand p l e R s m sargs below meth c B.U B.locs B.cells B.slots ∧ Post A a v B ∧
      Steps p.tables e below (doInvoke e (A.U.setTop g) [] mk a).1 (B.U.setTop { g with pc := g.pc + len, stack := v.toList ++ g.stack })) ∨
    (∃ (q : Addr) (B : Pt), Stand p l e R s m sargs below meth c B.U B.locs B.cells B.slots ∧ PostX A a q B ∧
      Steps p.tables e below (doInvoke e (A.U.setTop g) [] mk a).1 ((B.U.setTop g).pushFrame (.throwing q)))
section Payer
variable {l : Launch} {R : Room} {p : Program} {e : Env} {below : List Frame} {s : State} {sargs : Array Value} {y : MethodName} {len W9 : Nat}
theorem vx_back {ws : List Cond} {rm : Room} {Pc : Array Value → State → Prop} {Qc : Array Value → State → Outcome → State → Prop} {XC : String → State → State → Prop} {mc ms : Nat} {free : Addr → Prop} {bytes : ByteArray} {maxL : Nat} {ret : Option FieldType}
    (hM : vx_Met l y ws rm Pc Qc XC mc ms free) (hblind : FrameBlind Pc) (hrc : rm.cells = mc) (hrs : rm.slots = ms)
    (hframes : rm.frames + 1 ≤ R.frames) (hlocals : W9 + (maxL + 11) + rm.locals ≤ R.locals)
    (hws : ∀ w ∈ ws, ∀ a' U, s.WarmedH U.vm → w.before a' U = true) (hcode : Cond.code y bytes maxL ret ∈ ws) (hinit : ∀ a' U, s.WarmedH U.vm → (Cond.initialized y.cls).before a' U = true) :
    vx_Back l R p e below s sargs y len W9 (PreOf R mc ms Pc) (PostOf Qc mc ms free) (vx_Post XC mc ms free) := by
  intro m meth c A g ig mk a X hg hsize hdg hW hn hp
  have h1 : (headSpec ws rm).pre.before a A.U = true := atoms_intro fun w hw => hws w hw _ _ X.warmed
  have h2 : (Cond.code y bytes maxL ret).before a A.U = true := hws _ hcode _ _ X.warmed
  have h3 : (Cond.initialized y.cls).before a A.U = true := hinit _ _ X.warmed
  have h4 : A.cells + (headSpec ws rm).room.cells ≤ R.cells := by rw [show (headSpec ws rm).room.cells = mc from hrc]; exact hp.1
  have h5 : A.slots + (headSpec ws rm).room.slots ≤ R.slots := by rw [show (headSpec ws rm).room.slots = ms from hrs]; exact hp.2.1
  have hPc : Pc a (A.U.calling g mk a) := hblind _ _ _ _ hp.2.2
  obtain ⟨U, Ls, c0, s0⟩ := A
  dsimp only [Pt.U, Pt.locs, Pt.cells, Pt.slots] at h1 h2 h3 h4 h5 X hn hPc ⊢
  obtain ⟨methY, cY, hmY, hcY, -, hlY, -, -, -, -⟩ := Cond.code_spec hn h2
  obtain ⟨kY, hkY, -⟩ := className_of_methodNamed hn
  have hinitY : kY.init = .initialized := Cond.initialized_spec (findClass_of_methodNamed hn) hkY h3
  have h : At U g.method c below := by rw [hg]; exact X.here
  have hlocals9 : W9 + (maxL + 11) + (headSpec ws rm).room.locals ≤ R.locals := hlocals
  have happ : (headSpec ws rm).appliesLoose y e.platform (U.calling g mk a) = true :=
    Spec.appliesLoose_calling (g := g) h hdg hn hkY hinitY
      (X.room_calling (g := g) (R' := (headSpec ws rm).room) hsize hmY hcY hframes (by rw [hlY]; omega) h4 h5) h1
  obtain ⟨mid, hmid⟩ := h.above
  have hfr : (U.setTop g).frames = (.java g :: mid) ++ below := by rw [State.frames_setTop' g h.top, hmid]; rfl
  obtain ⟨o, s₂, hsteps, -, hend, hq⟩ := Steps.callFree hM p X.admits X.cas X.clock (acts := []) hfr happ hPc trivial
  have hq' : vx_Q Qc XC mc ms free a (U.calling g mk a) o s₂ := hq
  rw [State.frames_setTop' g h.top] at hend
  obtain ⟨g₀, hg0⟩ := Option.isSome_iff_exists.mp h.top
  obtain ⟨r, hr⟩ := State.topJava?_eq_some.mp hg0
  have hr' : (({ U with heap := s₂.heap, slotsUsed := s₂.slotsUsed } : State).setVm s₂.vm).frames = .java g₀ :: r := hr
  rcases hq' with ⟨hqc, L, hfe, hL⟩ | ⟨q, rfl, E, ce, L, hx, hce, hcv, hcl, hW₂, hsm, hL⟩
  · obtain ⟨⟨v, rfl⟩, hW₂, e2, q2, q3, q4, q5, q6⟩ := id hfe
    have e3 : s₂ = ({ (U.calling g mk a).setFrames s₂.frames with heap := s₂.heap, slotsUsed := s₂.slotsUsed } : State).setVm s₂.vm := by
      have : s₂ = ({ s₂ with vm := (U.calling g mk a).vm } : State).setVm s₂.vm := rfl
      rw [e2] at this
      exact this
    obtain ⟨c₂, i₂, len₂, hc₂, hd₂, hf₂⟩ := hend
    have hW' : U.WarmedH s₂.vm := hW₂
    have hcc : c₂ = c := by
      have h1 : s₂.code? g.method = U.code? g.method := by
        rw [State.code?_eq, State.code?_eq, hW'.alike.method?]
      exact Option.some.inj (hc₂.symm.trans (h1.trans h.code))
    subst hcc
    have hlen : len₂ = len := by rw [hdg] at hd₂; cases hd₂; rfl
    subst hlen
    have hs₂ : s₂ = (({ U with heap := s₂.heap, slotsUsed := s₂.slotsUsed } : State).setVm s₂.vm).setTop { g with pc := g.pc + len₂, stack := v.toList ++ g.stack } := by
      refine e3.trans ?_
      rw [hf₂, State.calling_eq h.top, State.setFrames_setFrames, State.setTop_of_frames _ hr', hr]
      rfl
    have hsame : U.sameButNew ({ U with heap := s₂.heap, slotsUsed := s₂.slotsUsed } : State) L mc ms := by
      refine ⟨?_, q2, q3, q4, q5, q6⟩
      obtain ⟨t, ht, -⟩ := State.frames_cons hr
      show ({ U with heap := s₂.heap, slotsUsed := s₂.slotsUsed } : State) = { U.setFrames U.frames with heap := s₂.heap, slotsUsed := s₂.slotsUsed }
      rw [State.setFrames_self ht]
    subst hg
    refine Or.inl ⟨v, ⟨(({ U with heap := s₂.heap, slotsUsed := s₂.slotsUsed } : State).setVm s₂.vm), Ls ++ L, c0 + mc, s0 + ms⟩,
      ⟨X.admits, X.cas, X.clock, X.frames, X.room, X.hears, X.method, X.code, (X.here.setHeapUsed s₂.heap s₂.slotsUsed).setVm hW'.alike, X.tail, State.WarmedH.trans X.warmed hW', X.limits, X.bytes, X.same.trans (hsame.setVm s.vm)⟩,
      ⟨g, mk, s₂, L, rfl, rfl, hqc, rfl, hL, rfl, rfl⟩, ?_⟩
    show Steps p.tables e below _ ((({ U with heap := s₂.heap, slotsUsed := s₂.slotsUsed } : State).setVm s₂.vm).setTop { g with pc := g.pc + len₂, stack := v.toList ++ g.stack })
    rw [← hs₂]
    exact hsteps
  · obtain ⟨e2, q2, q3, q4, q5, q6⟩ := id hsm
    have e3 : s₂ = ({ (U.calling g mk a).setFrames s₂.frames with heap := s₂.heap, slotsUsed := s₂.slotsUsed } : State).setVm s₂.vm := by
      have : s₂ = ({ s₂ with vm := (U.calling g mk a).vm } : State).setVm s₂.vm := rfl
      rw [e2] at this
      exact this
    have hf₂ : s₂.frames = .throwing q :: .java g :: U.frames.tail := hend
    have hW' : U.WarmedH s₂.vm := hW₂
    have hs₂ : s₂ = ((({ U with heap := s₂.heap, slotsUsed := s₂.slotsUsed } : State).setVm s₂.vm).setTop g).pushFrame (.throwing q) := by
      refine e3.trans ?_
      rw [hf₂, State.calling_eq h.top, State.setFrames_setFrames, State.pushFrame, State.frames_setTop _ hr', State.setTop_of_frames _ hr', State.setFrames_setFrames, hr]
      rfl
    have hsame : U.sameButNew ({ U with heap := s₂.heap, slotsUsed := s₂.slotsUsed } : State) L mc ms := by
      refine ⟨?_, q2, q3, q4, q5, q6⟩
      obtain ⟨t, ht, -⟩ := State.frames_cons hr
      show ({ U with heap := s₂.heap, slotsUsed := s₂.slotsUsed } : State) = { U.setFrames U.frames with heap := s₂.heap, slotsUsed := s₂.slotsUsed }
      rw [State.setFrames_self ht]
    subst hg
    refine Or.inr ⟨q, ⟨(({ U with heap := s₂.heap, slotsUsed := s₂.slotsUsed } : State).setVm s₂.vm), Ls ++ L, c0 + mc, s0 + ms⟩,
      ⟨X.admits, X.cas, X.clock, X.frames, X.room, X.hears, X.method, X.code, (X.here.setHeapUsed s₂.heap s₂.slotsUsed).setVm hW'.alike, X.tail, State.WarmedH.trans X.warmed hW', X.limits, X.bytes, X.same.trans (hsame.setVm s.vm)⟩,
      ⟨g, mk, s₂, L, E, ce, rfl, rfl, hx, hce, hcv, hcl, rfl, hL, rfl, rfl⟩, ?_⟩
    show Steps p.tables e below _ (((({ U with heap := s₂.heap, slotsUsed := s₂.slotsUsed } : State).setVm s₂.vm).setTop g).pushFrame (.throwing q))
    rw [← hs₂]
    exact hsteps
end Payer
section Calls
variable {p : Program} {l : Launch} {e : Env} {R : Room} {s : State} {m : MethodId} {args : Array Value} {below : List Frame} {meth : Method} {c : Code} {T : State} {locs : List Loc} {cells slots : Nat}
theorem vx_callV (X : Stand p l e R s m args below meth c T locs cells slots) (hexec : p.tables.exec = Jvm.exec) {own C : String} {index : Nat} {y : MethodName} {bytes : ByteArray} {maxL : Nat} {ret : Option FieldType}
    (hown : s.vm.findClass own = some m.cls) (hlink : (Cond.methodLink own index y).before args s = true) (hinst : (Cond.instanceMethod y).before args s = true) (hsel : (Cond.selects C y y).before args s = true)
    (hcode : (Cond.code y bytes maxL ret).before args s = true) (hy : y.cls ≠ "java/lang/invoke/MethodHandle" ∧ y.cls ≠ "java/lang/invoke/VarHandle")
    {W9 : Nat} {Pre : Pt → Array Value → Prop} {Post : Pt → Array Value → Option Value → Pt → Prop} {PostX : Pt → Array Value → Addr → Pt → Prop} (hK : vx_Back l R p e below s args y 3 W9 Pre Post PostX)
    {b : Addr} {cellB : Cell} (hcell : T.heap[b]? = some cellB) (hobj : cellB.vm.isStatics = false) (hcls : s.vm.findClass C = some cellB.cls)
    {g : JFrame} (hg : g.method = m) (hsize : g.locals.size = c.maxLocals) {argsL rest : List Value} (hlen : ∀ sig, parseMethodDescriptor y.desc = some sig → argsL.length = sig.parameters.length)
    (hstack : g.stack = argsL.reverse ++ .ref b :: rest) (hW : 2 * g.monitorRoom + (rest.map fun v => v.category).sum ≤ W9) (hdg : decode c.code g.pc = .ok (.invokevirtual index, 3))
    (hpre : ∀ vm₁, s.WarmedH vm₁ → Pre ⟨T.setVm vm₁, locs, cells, slots⟩ (Value.ref b :: argsL).toArray) :
    (∃ (v : Option Value) (vm₁ : Vm) (B : Pt), s.WarmedH vm₁ ∧ Stand p l e R s m args below meth c B.U B.locs B.cells B.slots ∧ Post ⟨T.setVm vm₁, locs, cells, slots⟩ (Value.ref b :: argsL).toArray v B ∧
      ∀ target, Steps p.tables e below (B.U.setTop { g with pc := g.pc + 3, stack := v.toList ++ rest }) target → Steps p.tables e below (T.setTop g) target) ∨
    (∃ (q : Addr) (vm₁ : Vm) (B : Pt), s.WarmedH vm₁ ∧ Stand p l e R s m args below meth c B.U B.locs B.cells B.slots ∧ PostX ⟨T.setVm vm₁, locs, cells, slots⟩ (Value.ref b :: argsL).toArray q B ∧
      Steps p.tables e below (T.setTop g) ((B.U.setTop { g with stack := rest }).pushFrame (.throwing q))) := by
  obtain ⟨mk, methM, hnamed, hmethM, hstM, habM⟩ := Cond.instanceMethod_spec hinst
  obtain ⟨methM', cM, hmethM', -, -, -, -, -, -, hsigM⟩ := Cond.code_spec hnamed hcode
  cases hmethM.symm.trans hmethM'
  obtain ⟨c2, r2, m2, q1, q2, q3, q4, kP, hkP, hkPi⟩ := Cond.selects_spec hsel
  cases hcls.symm.trans q1
  cases (State.methodFound?_of_named hnamed hy).symm.trans q2
  cases hnamed.symm.trans q3
  have hselP : selectMethod e.platform s.vm cellB.cls mk = .method mk := by rw [Launch.admits_selectMethod X.admits]; exact q4
  obtain ⟨vm₁, X₁, hstep₁⟩ := X.invokevirtual hexec hown hlink hnamed hmethM hstM hkP hkPi hy (a := b) (cell := cellB) hcell
    (fun z h => by rw [h] at hobj; cases hobj) hselP hmethM habM hkP hkPi (g := g) hg (argsL := argsL) (rest := rest) (hlen _ hsigM) hstack hdg
  rcases hK m meth c ⟨T.setVm vm₁, locs, cells, slots⟩ { g with stack := rest } (.invokevirtual index) mk (Value.ref b :: argsL).toArray X₁ hg hsize hdg hW (X₁.named hnamed) (hpre vm₁ X₁.warmed) with ⟨v, B, X', hpost, hsteps⟩ | ⟨q, B, X', hpost, hsteps⟩
  · exact Or.inl ⟨v, vm₁, B, X₁.warmed, X', hpost, fun target h => hstep₁ _ fun acts => by rw [doInvoke_state]; exact hsteps.trans h⟩
  · exact Or.inr ⟨q, vm₁, B, X₁.warmed, X', hpost, hstep₁ _ fun acts => by rw [doInvoke_state]; exact hsteps⟩
theorem vx_callS (X : Stand p l e R s m args below meth c T locs cells slots) (hexec : p.tables.exec = Jvm.exec) {own : String} {index : Nat} {y : MethodName} {bytes : ByteArray} {maxL : Nat} {ret : Option FieldType}
    (hown : s.vm.findClass own = some m.cls) (hlink : (Cond.methodLink own index y).before args s = true) (hstat : (Cond.static y).before args s = true) (hinit : (Cond.initialized y.cls).before args s = true)
    (hcode : (Cond.code y bytes maxL ret).before args s = true) (hy : y.cls ≠ "java/lang/invoke/MethodHandle" ∧ y.cls ≠ "java/lang/invoke/VarHandle")
    {W9 : Nat} {Pre : Pt → Array Value → Prop} {Post : Pt → Array Value → Option Value → Pt → Prop} {PostX : Pt → Array Value → Addr → Pt → Prop} (hK : vx_Back l R p e below s args y 3 W9 Pre Post PostX)
    {g : JFrame} (hg : g.method = m) (hsize : g.locals.size = c.maxLocals) {argsL rest : List Value} (hlen : ∀ sig, parseMethodDescriptor y.desc = some sig → argsL.length = sig.parameters.length)
    (hstack : g.stack = argsL.reverse ++ rest) (hW : 2 * g.monitorRoom + (rest.map fun v => v.category).sum ≤ W9) (hdg : decode c.code g.pc = .ok (.invokestatic index, 3))
    (hpre : ∀ vm₁, s.WarmedH vm₁ → Pre ⟨T.setVm vm₁, locs, cells, slots⟩ argsL.toArray) :
    (∃ (v : Option Value) (vm₁ : Vm) (B : Pt), s.WarmedH vm₁ ∧ Stand p l e R s m args below meth c B.U B.locs B.cells B.slots ∧ Post ⟨T.setVm vm₁, locs, cells, slots⟩ argsL.toArray v B ∧
      ∀ target, Steps p.tables e below (B.U.setTop { g with pc := g.pc + 3, stack := v.toList ++ rest }) target → Steps p.tables e below (T.setTop g) target) ∨
    (∃ (q : Addr) (vm₁ : Vm) (B : Pt), s.WarmedH vm₁ ∧ Stand p l e R s m args below meth c B.U B.locs B.cells B.slots ∧ PostX ⟨T.setVm vm₁, locs, cells, slots⟩ argsL.toArray q B ∧
      Steps p.tables e below (T.setTop g) ((B.U.setTop { g with stack := rest }).pushFrame (.throwing q))) := by
  obtain ⟨mk, hnamed⟩ := Cond.code_named hcode
  obtain ⟨methM, cM, hmethM, -, -, -, -, -, -, hsigM⟩ := Cond.code_spec hnamed hcode
  have hstatic : methM.isStatic = true := Cond.static_spec hnamed hmethM hstat
  obtain ⟨kP, hkP, -⟩ := className_of_methodNamed hnamed
  have hinitP : kP.init = .initialized := Cond.initialized_spec (findClass_of_methodNamed hnamed) hkP hinit
  obtain ⟨vm₁, X₁, hstep₁⟩ := X.invokestatic hexec hown hlink hnamed hmethM hstatic hkP hinitP hy (g := g) hg (argsL := argsL) (rest := rest) (hlen _ hsigM) hstack hdg
  rcases hK m meth c ⟨T.setVm vm₁, locs, cells, slots⟩ { g with stack := rest } (.invokestatic index) mk argsL.toArray X₁ hg hsize hdg hW (X₁.named hnamed) (hpre vm₁ X₁.warmed) with ⟨v, B, X', hpost, hsteps⟩ | ⟨q, B, X', hpost, hsteps⟩
  · exact Or.inl ⟨v, vm₁, B, X₁.warmed, X', hpost, fun target h => hstep₁ _ fun acts => by rw [doInvoke_state]; exact hsteps.trans h⟩
  · exact Or.inr ⟨q, vm₁, B, X₁.warmed, X', hpost, hstep₁ _ fun acts => by rw [doInvoke_state]; exact hsteps⟩
end Calls
theorem vx_cls {s : State} {T : State} {vm₁ : Vm} {E : String} {k : ClassId} (hW : s.WarmedH vm₁) (h : (T.setVm vm₁).vm.findClass E = some k) : s.vm.findClass E = some k := by
  have h1 : vm₁.findClass E = some k := h
  rw [hW.alike.findClass] at h1
  exact h1
/-- the method's frame g, with q thrown over it -/
def vx_W (p : Program) (l : Launch) (e : Env) (R : Room) (s : State) (m : MethodId) (args : Array Value) (below : List Frame) (meth : Method) (c : Code) (H : Heap) (locs : List Loc) (cells slots : Nat) (Q : State → Prop) (g : JFrame) (q : Addr) : Prop :=
  ∀ T : State, T.heap = H → Stand p l e R s m args below meth c T locs cells slots → ∃ t, Steps p.tables e below ((T.setTop g).pushFrame (.throwing q)) t ∧ Q t
def vx_Run (p : Program) (l : Launch) (e : Env) (R : Room) (s : State) (m : MethodId) (args : Array Value) (below : List Frame) (meth : Method) (c : Code) (H : Heap) (locs : List Loc) (cells slots mc ms : Nat) (g : JFrame) (rest : List Value) (Qa : State → Outcome → State → Prop) (XC : String → State → State → Prop) (free : Addr → Prop) : Prop :=
  ∀ T : State, T.heap = H → Stand p l e R s m args below meth c T locs cells slots →
    (∃ (v : Option Value) (st₀ t T' : State) (L : List Loc), st₀.heap = H ∧ Stand p l e R s m args below meth c T' (locs ++ L) (cells + mc) (slots + ms) ∧ (∀ q ∈ L, free q.base) ∧ T'.heap = t.heap ∧ T'.vm = t.vm ∧ Qa st₀ (.returned v) t ∧
      Goes p e below T g T' { g with pc := g.pc + 3, stack := v.toList ++ rest }) ∨
    (∃ (q : Addr) (st₀ t T' : State) (L : List Loc) (E : String) (ce : Cell), st₀.heap = H ∧ Stand p l e R s m args below meth c T' (locs ++ L) (cells + mc) (slots + ms) ∧ (∀ z ∈ L, free z.base) ∧ T'.heap = t.heap ∧ T'.vm = t.vm ∧ XC E st₀ t ∧ t.heap[q]? = some ce ∧ ce.vm = .none ∧ s.vm.findClass E = some ce.cls ∧
      Steps p.tables e below (T.setTop g) ((T'.setTop { g with stack := rest }).pushFrame (.throwing q)))
def vx_X {S : Type} (px : S → Prop) (B : String → S → State → Prop) (A : Nat → Prop) : String → State → State → Prop := fun E st t => ∃ u : S, px u ∧ B E u t ∧ va_F A st t
section Runs
variable {p : Program} {l : Launch} {e : Env} {R : Room} {s : State} {m : MethodId} {args : Array Value} {below : List Frame} {meth : Method} {c : Code} {H : Heap} {locs : List Loc} {cells slots : Nat}
variable {y : MethodName} {bytes cc : ByteArray} {maxL nL mc ms n index : Nat} {ret : Option FieldType} {ws : List Cond} {rm : Room} {Pc : Array Value → State → Prop} {Qc : Array Value → State → Outcome → State → Prop} {XC : String → State → State → Prop} {free : Addr → Prop} {Ts : List Cond} {own C : String} {b : Addr} {As rest : List Value} {g : JFrame}
theorem vx_callBack (cb : CallB R s args own index y bytes maxL ret ws rm mc ms n) (hM : vx_Met l y ws rm Pc Qc XC mc ms free) (hbl : FrameBlind Pc) : vx_Back l R p e below s args y 3 8 (PreOf R mc ms Pc) (PostOf Qc mc ms free) (vx_Post XC mc ms free) := by
  obtain ⟨hrc, hrs, hfr, hlo, hws, hcw, -, hini, -⟩ := cb
  exact vx_back (bytes := bytes) (maxL := maxL) (ret := ret) hM hbl hrc hrs hfr hlo hws hcw (fun a' U hW => word_at hW (Or.inl (by first | rfl | simp [Cond.onTables, Cond.keeps, Cond.steady])) hini)
theorem vx_runV (S : CallFix p m c cc nL s args Ts own) (hM : vx_Met l y ws rm Pc Qc XC mc ms free) (cw : CallW R s args own C index y bytes maxL ret ws rm mc ms n) (hp : PreV s H C b Pc As)
    (hg : g.method = m) (hn : As.length = n) (hsize : g.locals.size = nL) (hstack : g.stack = As.reverse ++ .ref b :: rest) (hW : 2 * g.monitorRoom + (rest.map fun v => v.category).sum ≤ 8) (hdg : decode cc g.pc = .ok (.invokevirtual index, 3)) (hf : cells + mc ≤ R.cells ∧ slots + ms ≤ R.slots) :
    vx_Run p l e R s m args below meth c H locs cells slots mc ms g rest (Qc (Value.ref b :: As).toArray) XC free := by
  have hK : vx_Back l R p e below s args y 3 8 (PreOf R mc ms Pc) (PostOf Qc mc ms free) (vx_Post XC mc ms free) := vx_callBack cw.1 hM hp.1
  obtain ⟨⟨-, -, -, -, -, -, hcode, -, hy, hlen, hl⟩, hin, hse⟩ := cw
  obtain ⟨hx, hb, hml, ho, -⟩ := S
  obtain ⟨-, ⟨cellB, hcB, hoB, hclB⟩, hPc⟩ := hp
  intro T hT X
  rcases vx_callV X hx (C := C) (bytes := bytes) (maxL := maxL) (ret := ret) ho hl hin hse hcode hy hK (by rw [hT]; exact hcB) hoB hclB hg (hsize.trans hml.symm) (argsL := As) (rest := rest) (fun sig h => hn.trans (hlen sig h)) hstack hW (by rw [hb]; exact hdg)
    (fun vm₁ hW₁ => ⟨hf.1, hf.2, hPc (T.setVm vm₁) hT hW₁⟩) with ⟨v, vm₁, ⟨U', l2, c2, s2⟩, hW₁, X', ⟨g', mk, t, L, e1, e2, hq, h1, hL, h2, h3⟩, st⟩ | ⟨q, vm₁, ⟨U', l2, c2, s2⟩, hW₁, X', ⟨g', mk, t, L, E, ce, e1, e2, hq, hce, hcv, hcl, h1, hL, h2, h3⟩, st⟩
  · dsimp only [Pt.U, Pt.locs, Pt.cells, Pt.slots] at X' e1 e2 h1 h2 h3 st
    subst h1; subst h2; subst h3
    exact Or.inl ⟨v, (T.setVm vm₁).calling g' mk (Value.ref b :: As).toArray, t, U', L, hT, X', hL, e1, e2, hq, st⟩
  · dsimp only [Pt.U, Pt.locs, Pt.cells, Pt.slots] at X' e1 e2 h1 h2 h3 st hcl
    subst h1; subst h2; subst h3
    exact Or.inr ⟨q, (T.setVm vm₁).calling g' mk (Value.ref b :: As).toArray, t, U', L, E, ce, hT, X', hL, e1, e2, hq, hce, hcv, vx_cls hW₁ hcl, st⟩
theorem vx_runS (S : CallFix p m c cc nL s args Ts own) (hM : vx_Met l y ws rm Pc Qc XC mc ms free) (cw : CallB R s args own index y bytes maxL ret ws rm mc ms n ∧ (Cond.static y).before args s = true) (hp : PreS s H Pc As)
    (hg : g.method = m) (hn : As.length = n) (hsize : g.locals.size = nL) (hstack : g.stack = As.reverse ++ rest) (hW : 2 * g.monitorRoom + (rest.map fun v => v.category).sum ≤ 8) (hdg : decode cc g.pc = .ok (.invokestatic index, 3)) (hf : cells + mc ≤ R.cells ∧ slots + ms ≤ R.slots) :
    vx_Run p l e R s m args below meth c H locs cells slots mc ms g rest (Qc As.toArray) XC free := by
  have hK : vx_Back l R p e below s args y 3 8 (PreOf R mc ms Pc) (PostOf Qc mc ms free) (vx_Post XC mc ms free) := vx_callBack cw.1 hM hp.1
  obtain ⟨⟨-, -, -, -, -, -, hcode, hini, hy, hlen, hl⟩, hstt⟩ := cw
  obtain ⟨hx, hb, hml, ho, -⟩ := S
  intro T hT X
  rcases vx_callS X hx (bytes := bytes) (maxL := maxL) (ret := ret) ho hl hstt hini hcode hy hK hg (hsize.trans hml.symm) (argsL := As) (rest := rest) (fun sig h => hn.trans (hlen sig h)) hstack hW (by rw [hb]; exact hdg)
    (fun vm₁ hW₁ => ⟨hf.1, hf.2, hp.2 (T.setVm vm₁) hT hW₁⟩) with ⟨v, vm₁, ⟨U', l2, c2, s2⟩, hW₁, X', ⟨g', mk, t, L, e1, e2, hq, h1, hL, h2, h3⟩, st⟩ | ⟨q, vm₁, ⟨U', l2, c2, s2⟩, hW₁, X', ⟨g', mk, t, L, E, ce, e1, e2, hq, hce, hcv, hcl, h1, hL, h2, h3⟩, st⟩
  · dsimp only [Pt.U, Pt.locs, Pt.cells, Pt.slots] at X' e1 e2 h1 h2 h3 st
    subst h1; subst h2; subst h3
    exact Or.inl ⟨v, (T.setVm vm₁).calling g' mk As.toArray, t, U', L, hT, X', hL, e1, e2, hq, st⟩
  · dsimp only [Pt.U, Pt.locs, Pt.cells, Pt.slots] at X' e1 e2 h1 h2 h3 st hcl
    subst h1; subst h2; subst h3
    exact Or.inr ⟨q, (T.setVm vm₁).calling g' mk As.toArray, t, U', L, E, ce, hT, X', hL, e1, e2, hq, hce, hcv, vx_cls hW₁ hcl, st⟩
end Runs
section Rows
variable {p : Program} {l : Launch} {e : Env} {R : Room} {s : State} {m : MethodId} {args : Array Value} {below : List Frame} {meth : Method} {c : Code} {H : Heap} {locs : List Loc} {cells slots : Nat} {Q : State → Prop}
variable {mc ms : Nat} {free : Addr → Prop} {A0 A1 : Nat → Prop} {H0 : Heap} {a : Array Value} {pc : Nat} {ls : Array Slot} {st0 rest : List Value}
theorem vx_keep {st₀ t T' : State} {L : List Loc} (h0 : st₀.heap = H) (e1 : T'.heap = t.heap) (hS : va_S A0 H0 H locs) (hA : ∀ q, q < H.size → A1 q → A0 q) (hf : ∀ q, free q → A0 q) (hL : ∀ q ∈ L, free q.base) (hF : va_F A1 st₀ t) :
    H.size ≤ T'.heap.size ∧ (∀ q : Nat, q < H.size → ¬ A1 q → T'.heap[q]? = H[q]?) ∧ va_S A0 H0 T'.heap (locs ++ L) := by
  obtain ⟨hz, hk⟩ := hF
  rw [h0] at hz hk
  exact ⟨by rw [e1]; exact hz, fun q h1 h2 => by rw [e1]; exact hk q h1 h2,
    ⟨Nat.le_trans hS.1 (by rw [e1]; exact hz), fun q h1 h2 => by rw [e1, hk q (Nat.lt_of_lt_of_le h1 hS.1) (fun z => h2 (hA q (Nat.lt_of_lt_of_le h1 hS.1) z))]; exact hS.2.1 q h1 h2, fun q hq => by
      rcases List.mem_append.mp hq with h | h
      · exact hS.2.2 q h
      · exact hf _ (hL q h)⟩⟩
theorem vx_calli {S SX : Type} {post : Int32 → S → Prop} {px : SX → Prop} {B : S → State → Prop} {BX : String → SX → State → Prop} {AX : Nat → Prop} (hr : vx_Run p l e R s m args below meth c H locs cells slots mc ms (F0 m pc ls st0) rest (va_Qi post B A1 a) (vx_X px BX AX) free) (hS : va_S A0 H0 H locs) (hA : ∀ q, q < H.size → A1 q → A0 q) (hf : ∀ q, free q → A0 q) (hAX : ∀ q, q < H.size → AX q → A0 q)
    (kx : ∀ (E : String) (ce : Cell) (q9 : Addr) (u : SX) (t : State) (H1 : Heap) (locs1 : List Loc), t.heap = H1 → s.vm.Alike t.vm → px u → BX E u t → H.size ≤ H1.size → (∀ q : Nat, q < H.size → ¬ AX q → H1[q]? = H[q]?) → va_S A0 H0 H1 locs1 → H1[q9]? = some ce → ce.vm = .none → s.vm.findClass E = some ce.cls → vx_W p l e R s m args below meth c H1 locs1 (cells + mc) (slots + ms) Q (F0 m pc ls rest) q9)
    (kk : ∀ (r : Int32) (u : S) (t : State) (H1 : Heap) (locs1 : List Loc), t.heap = H1 → s.vm.Alike t.vm → post r u → B u t → H.size ≤ H1.size → (∀ q : Nat, q < H.size → ¬ A1 q → H1[q]? = H[q]?) → va_S A0 H0 H1 locs1 → W p l e R s m args below meth c H1 locs1 (cells + mc) (slots + ms) Q (F0 m (pc + 3) ls (.int r :: rest))) : W p l e R s m args below meth c H locs cells slots Q (F0 m pc ls st0) := by
  intro T hT X
  rcases hr T hT X with ⟨v, st₀, t, T', L, h0, X', hL, e1, e2, ⟨⟨r, u, hv, hp, hb⟩, hF⟩, st⟩ | ⟨q, st₀, t, T', L, E, ce, h0, X', hL, e1, e2, ⟨u, hp, hb, hF⟩, hce, hcv, hcl, st⟩
  · cases hv
    obtain ⟨k1, k2, k3⟩ := vx_keep h0 e1 hS hA hf hL hF
    obtain ⟨t2, a1, b1⟩ := kk r u t T'.heap (locs ++ L) e1.symm (by rw [← e2]; exact X'.warmed.alike) hp hb k1 k2 k3 T' rfl X'
    exact ⟨t2, st t2 a1, b1⟩
  · obtain ⟨k1, k2, k3⟩ := vx_keep h0 e1 hS hAX hf hL hF
    obtain ⟨t2, a1, b1⟩ := kx E ce q u t T'.heap (locs ++ L) e1.symm (by rw [← e2]; exact X'.warmed.alike) hp hb k1 k2 k3 (by rw [e1]; exact hce) hcv hcl T' rfl X'
    exact ⟨t2, st.trans a1, b1⟩
theorem vx_calll {S SX : Type} {post : Int64 → S → Prop} {px : SX → Prop} {B : S → State → Prop} {BX : String → SX → State → Prop} {AX : Nat → Prop} (hr : vx_Run p l e R s m args below meth c H locs cells slots mc ms (F0 m pc ls st0) rest (va_Ql post B A1 a) (vx_X px BX AX) free) (hS : va_S A0 H0 H locs) (hA : ∀ q, q < H.size → A1 q → A0 q) (hf : ∀ q, free q → A0 q) (hAX : ∀ q, q < H.size → AX q → A0 q)
    (kx : ∀ (E : String) (ce : Cell) (q9 : Addr) (u : SX) (t : State) (H1 : Heap) (locs1 : List Loc), t.heap = H1 → s.vm.Alike t.vm → px u → BX E u t → H.size ≤ H1.size → (∀ q : Nat, q < H.size → ¬ AX q → H1[q]? = H[q]?) → va_S A0 H0 H1 locs1 → H1[q9]? = some ce → ce.vm = .none → s.vm.findClass E = some ce.cls → vx_W p l e R s m args below meth c H1 locs1 (cells + mc) (slots + ms) Q (F0 m pc ls rest) q9)
    (kk : ∀ (r : Int64) (u : S) (t : State) (H1 : Heap) (locs1 : List Loc), t.heap = H1 → s.vm.Alike t.vm → post r u → B u t → H.size ≤ H1.size → (∀ q : Nat, q < H.size → ¬ A1 q → H1[q]? = H[q]?) → va_S A0 H0 H1 locs1 → W p l e R s m args below meth c H1 locs1 (cells + mc) (slots + ms) Q (F0 m (pc + 3) ls (.long r :: rest))) : W p l e R s m args below meth c H locs cells slots Q (F0 m pc ls st0) := by
  intro T hT X
  rcases hr T hT X with ⟨v, st₀, t, T', L, h0, X', hL, e1, e2, ⟨⟨r, u, hv, hp, hb⟩, hF⟩, st⟩ | ⟨q, st₀, t, T', L, E, ce, h0, X', hL, e1, e2, ⟨u, hp, hb, hF⟩, hce, hcv, hcl, st⟩
  · cases hv
    obtain ⟨k1, k2, k3⟩ := vx_keep h0 e1 hS hA hf hL hF
    obtain ⟨t2, a1, b1⟩ := kk r u t T'.heap (locs ++ L) e1.symm (by rw [← e2]; exact X'.warmed.alike) hp hb k1 k2 k3 T' rfl X'
    exact ⟨t2, st t2 a1, b1⟩
  · obtain ⟨k1, k2, k3⟩ := vx_keep h0 e1 hS hAX hf hL hF
    obtain ⟨t2, a1, b1⟩ := kx E ce q u t T'.heap (locs ++ L) e1.symm (by rw [← e2]; exact X'.warmed.alike) hp hb k1 k2 k3 (by rw [e1]; exact hce) hcv hcl T' rfl X'
    exact ⟨t2, st.trans a1, b1⟩
theorem vx_callf {S SX : Type} {post : UInt32 → S → Prop} {px : SX → Prop} {B : S → State → Prop} {BX : String → SX → State → Prop} {AX : Nat → Prop} (hr : vx_Run p l e R s m args below meth c H locs cells slots mc ms (F0 m pc ls st0) rest (va_Qf post B A1 a) (vx_X px BX AX) free) (hS : va_S A0 H0 H locs) (hA : ∀ q, q < H.size → A1 q → A0 q) (hf : ∀ q, free q → A0 q) (hAX : ∀ q, q < H.size → AX q → A0 q)
    (kx : ∀ (E : String) (ce : Cell) (q9 : Addr) (u : SX) (t : State) (H1 : Heap) (locs1 : List Loc), t.heap = H1 → s.vm.Alike t.vm → px u → BX E u t → H.size ≤ H1.size → (∀ q : Nat, q < H.size → ¬ AX q → H1[q]? = H[q]?) → va_S A0 H0 H1 locs1 → H1[q9]? = some ce → ce.vm = .none → s.vm.findClass E = some ce.cls → vx_W p l e R s m args below meth c H1 locs1 (cells + mc) (slots + ms) Q (F0 m pc ls rest) q9)
    (kk : ∀ (r : UInt32) (u : S) (t : State) (H1 : Heap) (locs1 : List Loc), t.heap = H1 → s.vm.Alike t.vm → post r u → B u t → H.size ≤ H1.size → (∀ q : Nat, q < H.size → ¬ A1 q → H1[q]? = H[q]?) → va_S A0 H0 H1 locs1 → W p l e R s m args below meth c H1 locs1 (cells + mc) (slots + ms) Q (F0 m (pc + 3) ls (.float r :: rest))) : W p l e R s m args below meth c H locs cells slots Q (F0 m pc ls st0) := by
  intro T hT X
  rcases hr T hT X with ⟨v, st₀, t, T', L, h0, X', hL, e1, e2, ⟨⟨r, u, hv, hp, hb⟩, hF⟩, st⟩ | ⟨q, st₀, t, T', L, E, ce, h0, X', hL, e1, e2, ⟨u, hp, hb, hF⟩, hce, hcv, hcl, st⟩
  · cases hv
    obtain ⟨k1, k2, k3⟩ := vx_keep h0 e1 hS hA hf hL hF
    obtain ⟨t2, a1, b1⟩ := kk r u t T'.heap (locs ++ L) e1.symm (by rw [← e2]; exact X'.warmed.alike) hp hb k1 k2 k3 T' rfl X'
    exact ⟨t2, st t2 a1, b1⟩
  · obtain ⟨k1, k2, k3⟩ := vx_keep h0 e1 hS hAX hf hL hF
    obtain ⟨t2, a1, b1⟩ := kx E ce q u t T'.heap (locs ++ L) e1.symm (by rw [← e2]; exact X'.warmed.alike) hp hb k1 k2 k3 (by rw [e1]; exact hce) hcv hcl T' rfl X'
    exact ⟨t2, st.trans a1, b1⟩
theorem vx_calld {S SX : Type} {post : UInt64 → S → Prop} {px : SX → Prop} {B : S → State → Prop} {BX : String → SX → State → Prop} {AX : Nat → Prop} (hr : vx_Run p l e R s m args below meth c H locs cells slots mc ms (F0 m pc ls st0) rest (va_Qd post B A1 a) (vx_X px BX AX) free) (hS : va_S A0 H0 H locs) (hA : ∀ q, q < H.size → A1 q → A0 q) (hf : ∀ q, free q → A0 q) (hAX : ∀ q, q < H.size → AX q → A0 q)
    (kx : ∀ (E : String) (ce : Cell) (q9 : Addr) (u : SX) (t : State) (H1 : Heap) (locs1 : List Loc), t.heap = H1 → s.vm.Alike t.vm → px u → BX E u t → H.size ≤ H1.size → (∀ q : Nat, q < H.size → ¬ AX q → H1[q]? = H[q]?) → va_S A0 H0 H1 locs1 → H1[q9]? = some ce → ce.vm = .none → s.vm.findClass E = some ce.cls → vx_W p l e R s m args below meth c H1 locs1 (cells + mc) (slots + ms) Q (F0 m pc ls rest) q9)
    (kk : ∀ (r : UInt64) (u : S) (t : State) (H1 : Heap) (locs1 : List Loc), t.heap = H1 → s.vm.Alike t.vm → post r u → B u t → H.size ≤ H1.size → (∀ q : Nat, q < H.size → ¬ A1 q → H1[q]? = H[q]?) → va_S A0 H0 H1 locs1 → W p l e R s m args below meth c H1 locs1 (cells + mc) (slots + ms) Q (F0 m (pc + 3) ls (.double r :: rest))) : W p l e R s m args below meth c H locs cells slots Q (F0 m pc ls st0) := by
  intro T hT X
  rcases hr T hT X with ⟨v, st₀, t, T', L, h0, X', hL, e1, e2, ⟨⟨r, u, hv, hp, hb⟩, hF⟩, st⟩ | ⟨q, st₀, t, T', L, E, ce, h0, X', hL, e1, e2, ⟨u, hp, hb, hF⟩, hce, hcv, hcl, st⟩
  · cases hv
    obtain ⟨k1, k2, k3⟩ := vx_keep h0 e1 hS hA hf hL hF
    obtain ⟨t2, a1, b1⟩ := kk r u t T'.heap (locs ++ L) e1.symm (by rw [← e2]; exact X'.warmed.alike) hp hb k1 k2 k3 T' rfl X'
    exact ⟨t2, st t2 a1, b1⟩
  · obtain ⟨k1, k2, k3⟩ := vx_keep h0 e1 hS hAX hf hL hF
    obtain ⟨t2, a1, b1⟩ := kx E ce q u t T'.heap (locs ++ L) e1.symm (by rw [← e2]; exact X'.warmed.alike) hp hb k1 k2 k3 (by rw [e1]; exact hce) hcv hcl T' rfl X'
    exact ⟨t2, st.trans a1, b1⟩
theorem vx_callv {S SX : Type} {post : S → Prop} {px : SX → Prop} {B : S → State → Prop} {BX : String → SX → State → Prop} {AX : Nat → Prop} (hr : vx_Run p l e R s m args below meth c H locs cells slots mc ms (F0 m pc ls st0) rest (va_Qv post B A1 a) (vx_X px BX AX) free) (hS : va_S A0 H0 H locs) (hA : ∀ q, q < H.size → A1 q → A0 q) (hf : ∀ q, free q → A0 q) (hAX : ∀ q, q < H.size → AX q → A0 q)
    (kx : ∀ (E : String) (ce : Cell) (q9 : Addr) (u : SX) (t : State) (H1 : Heap) (locs1 : List Loc), t.heap = H1 → s.vm.Alike t.vm → px u → BX E u t → H.size ≤ H1.size → (∀ q : Nat, q < H.size → ¬ AX q → H1[q]? = H[q]?) → va_S A0 H0 H1 locs1 → H1[q9]? = some ce → ce.vm = .none → s.vm.findClass E = some ce.cls → vx_W p l e R s m args below meth c H1 locs1 (cells + mc) (slots + ms) Q (F0 m pc ls rest) q9)
    (kk : ∀ (u : S) (t : State) (H1 : Heap) (locs1 : List Loc), t.heap = H1 → s.vm.Alike t.vm → post u → B u t → H.size ≤ H1.size → (∀ q : Nat, q < H.size → ¬ A1 q → H1[q]? = H[q]?) → va_S A0 H0 H1 locs1 → W p l e R s m args below meth c H1 locs1 (cells + mc) (slots + ms) Q (F0 m (pc + 3) ls (rest))) : W p l e R s m args below meth c H locs cells slots Q (F0 m pc ls st0) := by
  intro T hT X
  rcases hr T hT X with ⟨v, st₀, t, T', L, h0, X', hL, e1, e2, ⟨⟨u, hv, hp, hb⟩, hF⟩, st⟩ | ⟨q, st₀, t, T', L, E, ce, h0, X', hL, e1, e2, ⟨u, hp, hb, hF⟩, hce, hcv, hcl, st⟩
  · cases hv
    obtain ⟨k1, k2, k3⟩ := vx_keep h0 e1 hS hA hf hL hF
    obtain ⟨t2, a1, b1⟩ := kk u t T'.heap (locs ++ L) e1.symm (by rw [← e2]; exact X'.warmed.alike) hp hb k1 k2 k3 T' rfl X'
    exact ⟨t2, st t2 a1, b1⟩
  · obtain ⟨k1, k2, k3⟩ := vx_keep h0 e1 hS hAX hf hL hF
    obtain ⟨t2, a1, b1⟩ := kx E ce q u t T'.heap (locs ++ L) e1.symm (by rw [← e2]; exact X'.warmed.alike) hp hb k1 k2 k3 (by rw [e1]; exact hce) hcv hcl T' rfl X'
    exact ⟨t2, st.trans a1, b1⟩
/-- caught by the row x of this method's table; the rows ahead don't take it -/
theorem vx_catch {own name : String} {E : String} {ce : Cell} {q : Addr} (hown : s.vm.findClass own = some m.cls) (pre : List ExceptionTableEntry) (x : ExceptionTableEntry) (suf : List ExceptionTableEntry) (hsplit : c.exceptionTable.toList = pre ++ x :: suf)
    (hpass : ∀ z ∈ pre, covers z pc = false ∨ (z.catchType ≠ 0 ∧ ∃ nm : String, (Cond.classLink own z.catchType nm).before args s = true ∧ va_Nc E nm s)) (hx : covers x pc = true) (h0 : x.catchType ≠ 0)
    (hlink : (Cond.classLink own x.catchType name).before args s = true) (hcast : (Cond.castable E name).before args s = true) (hcell : H[q]? = some ce) (hv : ce.vm = .none) (hcl : s.vm.findClass E = some ce.cls)
    (kk : W p l e R s m args below meth c H locs cells slots Q (F0 m x.handlerPc ls [.ref q])) : vx_W p l e R s m args below meth c H locs cells slots Q (F0 m pc ls rest) q := by
  intro T hT X
  have hpl : e.platform.magicAccessors = ({} : Platform).magicAccessors := by rw [X.admits.platform]
  obtain ⟨c3, c4, hc3, hc4, hasg⟩ := Cond.castable_spec hcast
  cases Option.some.inj (hc3.symm.trans hcl)
  obtain ⟨c5, hc5, hcl5⟩ := Cond.classLink_spec hown hlink e.platform hpl
  cases Option.some.inj (hc4.symm.trans hc5)
  obtain ⟨vm', X', st⟩ := X.thenCaughtThrough q (g := F0 m pc ls rest) rfl (Steps.refl _) (by rw [hT]; exact hcell) (by rw [hv]; rfl) (by obtain ⟨k9, h9, -⟩ := Vm.findClass_spec hcl; exact ⟨k9, h9⟩) pre x suf hsplit
    (fun z hz => by
      rcases hpass z hz with h | ⟨hz0, nm, hl1, hn1⟩
      · exact Or.inl h
      · obtain ⟨c6, hc6, hcl6⟩ := Cond.classLink_spec hown hl1 e.platform hpl
        obtain ⟨a8, b8, h1, h2, h3⟩ := hn1
        cases Option.some.inj (h1.symm.trans hcl)
        cases Option.some.inj (h2.symm.trans hc6)
        exact Or.inr ⟨hz0, _, hcl6, h3⟩) hx (Or.inr ⟨h0, c4, hcl5, hasg⟩)
  obtain ⟨t, a1, b1⟩ := kk (T.setVm vm') hT X'
  exact ⟨t, st.trans a1, b1⟩
end Rows
section Ends
variable {p : Program} {l : Launch} {e : Env} {R : Room} {s : State} {m : MethodId} {args : Array Value} {below : List Frame} {meth : Method} {c : Code} {H : Heap} {locs : List Loc} {cells slots : Nat} {Q : State → Prop}
variable {mc ms : Nat} {free : Addr → Prop} {A0 A1 : Nat → Prop} {H0 : Heap} {a : Array Value} {ls : Array Slot} {st0 rest : List Value}
variable {Qc : Array Value → State → Outcome → State → Prop} {XC : String → State → State → Prop}
/-- what a body that may throw owes at its end -/
def vx_MQ (below : List Frame) (Qc : Array Value → State → Outcome → State → Prop) (XC : String → State → State → Prop) (a : Array Value) (s : State) (mc ms : Nat) (free : Addr → Prop) : State → Prop := fun t =>
  ∃ o, t.status = .running ∧ Ended t below o ∧ vx_Q Qc XC mc ms free a s o t
theorem vx_ret {g : JFrame} {mc ms : Nat} (k : W p l e R s m args below meth c H locs cells slots (MQ below Qc args s mc ms free) g) : W p l e R s m args below meth c H locs cells slots (vx_MQ below Qc XC args s mc ms free) g := by
  intro T hT X
  obtain ⟨t, a1, o, b1, b2, b3, b4⟩ := k T hT X
  exact ⟨t, a1, o, b1, b2, Or.inl ⟨b3, b4⟩⟩
/-- not caught here: it goes on to the caller -/
theorem vx_widen {g : JFrame} {q : Addr} {k n : Nat} (h1 : cells ≤ k) (h2 : slots ≤ n) (kk : vx_W p l e R s m args below meth c H locs k n Q g q) : vx_W p l e R s m args below meth c H locs cells slots Q g q := fun T hT X => kk T hT (stand_widen X h1 h2)
theorem vx_out {pc : Nat} {E : String} {ce : Cell} {q : Addr} {mc ms : Nat} (hout : ∀ x ∈ c.exceptionTable.toList, covers x pc = false) (hlocks : meth.locks = false) (hcell : H[q]? = some ce) (hv : ce.vm = .none) (hcl : s.vm.findClass E = some ce.cls)
    (hx : ∀ t : State, t.heap = H → s.vm.Alike t.vm → XC E s t) (hf : ∀ z ∈ locs, free z.base) (hc : cells ≤ mc) (hs : slots ≤ ms) :
    vx_W p l e R s m args below meth c H locs cells slots (vx_MQ below Qc XC args s mc ms free) (F0 m pc ls rest) q := by
  intro T hT X
  obtain ⟨st1, hrun, hend, hW, hsm⟩ := X.leaveThrown q (g := F0 m pc ls rest) rfl rfl rfl hout hlocks
  have hcell9 : (T.setFrames (.throwing q :: below)).heap[q]? = some ce := by
    show T.heap[q]? = some ce
    rw [hT]; exact hcell
  exact ⟨_, st1, .threw q, hrun, hend, Or.inr ⟨q, rfl, E, ce, locs, hx _ hT hW.alike, hcell9, hv, hcl, hW, hsm.mono hc hs, hf⟩⟩
theorem vx_frame {U : State} {k n : Nat} (h : s.sameButNew ({ U with vm := s.vm } : State) locs k n) : s.heap.size ≤ U.heap.size ∧ ∀ q : Nat, q < s.heap.size → (∀ z ∈ locs, z.base ≠ q) → U.heap[q]? = s.heap[q]? := by
  obtain ⟨-, h2, -, -, -, h6⟩ := h
  refine ⟨h2, fun q hq hz => ?_⟩
  obtain ⟨c9, e1, e2, e3, e4⟩ := h6 q _ (Array.getElem?_eq_getElem hq)
  have hs : c9.slots = (s.heap[q]).slots := Array.ext_getElem? fun i => e4 i fun hm => hz _ hm rfl
  have h9 : c9 = s.heap[q] := by
    rw [hs] at e2
    exact e2
  have e5 : U.heap[q]? = some c9 := e1
  rw [e5, h9, Array.getElem?_eq_getElem hq]
/-- the words of a throw but the four that speak of the heap -/
def vx_no (w : Cond) : Bool := decide (w ≠ .isRef (.static Bundle.tN "UNASSIGNED_STACK" Bundle.steD)) && decide (w ≠ .isRef (.static Bundle.tN "SUPPRESSED_SENTINEL" Bundle.listD)) && decide (w ≠ .laysStatic Bundle.tN "UNASSIGNED_STACK" Bundle.steD) && decide (w ≠ .laysStatic Bundle.tN "SUPPRESSED_SENTINEL" Bundle.listD)
def vx_at0 (own : String) (ic : Nat) (X : String) (names : List String) : List Cond := (Bundle.ownAtoms0 own ic X names).filter vx_no
def vx_atS (own : String) (ic : Nat) (X : String) (names : List String) : List Cond := (Bundle.ownAtoms own ic X names).filter vx_no
/-- a word that the tables alone decide, or a good one -/
def vx_ot (w : Cond) : Bool := w.onTables || goodWord w
theorem vx_ot_at {args a' : Array Value} {s U : State} {w : Cond} (hW : s.WarmedH U.vm) (hvm : s.vm = U.vm) (hg : vx_ot w = true) (h : w.before args s = true) : w.before a' U = true := by
  simp only [vx_ot, Bool.or_eq_true] at hg
  rcases hg with hg | hg
  · exact va_tabs hg hvm h
  · exact word_at hW (good_of_word hg) h
/-- a list's words: the good ones out of the method's own list, the others by premises of their own -/
theorem vx_hat {args : Array Value} {s : State} {L B : List Cond} (h1 : ∀ w ∈ L.filter goodWord, w.before args s = true) (h2 : ∀ w ∈ L.filter (fun w => !goodWord w), w ∈ B) (h3 : ∀ w ∈ B, w.before args s = true) : ∀ w ∈ L, w.before args s = true := by
  intro w hw
  by_cases g : goodWord w = true
  · exact h1 w (List.mem_filter.mpr ⟨hw, g⟩)
  · refine h3 w (h2 w (List.mem_filter.mpr ⟨hw, ?_⟩))
    show (!goodWord w) = true
    cases hgw : goodWord w
    · rfl
    · exact absurd hgw g
theorem vx_c {args : Array Value} {s : State} {w : Cond} {B : List Cond} (h : w.before args s = true) (t : ∀ w ∈ B, w.before args s = true) : ∀ w' ∈ w :: B, w'.before args s = true := fun w' h' => (List.mem_cons.mp h').elim (fun e => by rw [e]; exact h) (t w')
theorem vx_n {args : Array Value} {s : State} : ∀ w ∈ ([] : List Cond), w.before args s = true := fun _ h => nomatch h
theorem vx_own {args : Array Value} {s : State} {L : List Cond} (h1 : ∀ w ∈ L.filter vx_no, w.before args s = true)
    (hU : (Cond.isRef (.static Bundle.tN "UNASSIGNED_STACK" Bundle.steD)).before args s = true) (hN : (Cond.isRef (.static Bundle.tN "SUPPRESSED_SENTINEL" Bundle.listD)).before args s = true)
    (lU : (Cond.laysStatic Bundle.tN "UNASSIGNED_STACK" Bundle.steD).before args s = true) (lN : (Cond.laysStatic Bundle.tN "SUPPRESSED_SENTINEL" Bundle.listD).before args s = true) : ∀ w ∈ L, w.before args s = true := by
  intro w hw
  by_cases e1 : w = .isRef (.static Bundle.tN "UNASSIGNED_STACK" Bundle.steD)
  · rw [e1]; exact hU
  · by_cases e2 : w = .isRef (.static Bundle.tN "SUPPRESSED_SENTINEL" Bundle.listD)
    · rw [e2]; exact hN
    · by_cases e3 : w = .laysStatic Bundle.tN "UNASSIGNED_STACK" Bundle.steD
      · rw [e3]; exact lU
      · by_cases e4 : w = .laysStatic Bundle.tN "SUPPRESSED_SENTINEL" Bundle.listD
        · rw [e4]; exact lN
        · exact h1 w (List.mem_filter.mpr ⟨hw, by unfold vx_no; rw [decide_eq_true e1, decide_eq_true e2, decide_eq_true e3, decide_eq_true e4]; rfl⟩)
/-- where a static field lies, its class's statics cell in H -/
def vx_L (C n d : String) (A : Nat → Prop) (U : State) (H : Heap) : Prop := ∃ (c : ClassId) (k : Class) (i : Nat) (f : Field) (a : Nat) (cell : Cell), U.vm.findClass C = some c ∧ U.fieldFound? C n d = some (c, k, i, f) ∧ f.isStatic = true ∧ k.statics = some a ∧ H[a]? = some cell ∧ cell.vm.isStatics = true ∧ cell.cls = c ∧ f.slot < cell.slots.size ∧ k.staticTypes[f.slot]? = some f.type ∧ ¬ A a
theorem vx_L.moved {C n d : String} {A : Nat → Prop} {u U : State} {H : Heap} (hvm : u.vm.Alike U.vm) (h : vx_L C n d A u H) : vx_L C n d A U H := by
  obtain ⟨c, k, i, f, a, cell, h1, h2, h3, h4, h5, h6, h7, h8, h9, h10⟩ := h
  obtain ⟨k', hi', he⟩ := State.fieldFound?_setVm hvm h2
  exact ⟨c, k', i, f, a, cell, by rw [hvm.findClass]; exact h1, hi', h3, by rw [he]; exact h4, h5, h6, h7, h8, by rw [he]; exact h9, h10⟩
theorem vx_L.kept {C n d : String} {A : Nat → Prop} {U : State} {H H1 : Heap} (h : vx_L C n d A U H) (hq : ∀ a : Nat, a < H.size → ¬ A a → H1[a]? = H[a]?) : vx_L C n d A U H1 := by
  obtain ⟨c, k, i, f, a, cell, h1, h2, h3, h4, h5, h6, h7, h8, h9, h10⟩ := h
  exact ⟨c, k, i, f, a, cell, h1, h2, h3, h4, by rw [hq a (Array.getElem?_eq_some_iff.mp h5).1 h10]; exact h5, h6, h7, h8, h9, h10⟩
theorem vx_L.narrow {C n d : String} {A B : Nat → Prop} {U : State} {H : Heap} (h : vx_L C n d A U H) (hAB : ∀ q, B q → A q) : vx_L C n d B U H := by
  obtain ⟨c, k, i, f, a, cell, h1, h2, h3, h4, h5, h6, h7, h8, h9, h10⟩ := h
  exact ⟨c, k, i, f, a, cell, h1, h2, h3, h4, h5, h6, h7, h8, h9, fun z => h10 (hAB _ z)⟩
theorem vx_L.word {C n d : String} {A : Nat → Prop} {s : State} {args : Array Value} (h : vx_L C n d A s s.heap) : (Cond.laysStatic C n d).before args s = true := by
  obtain ⟨c, k, i, f, a, cell, h1, h2, h3, h4, h5, h6, h7, h8, h9, -⟩ := h
  show (Cond.laysStatic C n d).holds args s none s [] = true
  exact Cond.laysStatic_of h1 h2 h3 h4 h5 h6 h7 h8 h9
/-- .. and what it holds: null or some reference -/
def vx_Zq (C n d : String) (A : Nat → Prop) (U : State) (H : Heap) : Prop := va_Zq C n d A U H ∧ vx_L C n d A U H
theorem vx_Zq.moved {C n d : String} {A : Nat → Prop} {u U : State} {H : Heap} (hvm : u.vm.Alike U.vm) (h : vx_Zq C n d A u H) : vx_Zq C n d A U H := ⟨va_Zq.moved hvm h.1, vx_L.moved hvm h.2⟩
theorem vx_Zq.kept {C n d : String} {A : Nat → Prop} {U : State} {H H1 : Heap} (h : vx_Zq C n d A U H) (hq : ∀ a : Nat, a < H.size → ¬ A a → H1[a]? = H[a]?) : vx_Zq C n d A U H1 := ⟨va_Zq.kept h.1 hq, vx_L.kept h.2 hq⟩
theorem vx_Zq.narrow {C n d : String} {A B : Nat → Prop} {U : State} {H : Heap} (h : vx_Zq C n d A U H) (hAB : ∀ q, B q → A q) : vx_Zq C n d B U H := ⟨va_Zq.narrow h.1 hAB, vx_L.narrow h.2 hAB⟩
theorem vx_Zqof {args : Array Value} {s : State} {C n d : String} {A : Nat → Prop} (hl : (Cond.laysStatic C n d).before args s = true) (hini : (Cond.initialized C).before args s = true) (h : (Cond.isRef (.static C n d)).before args s = true) (hA : ∀ a : Nat, a < s.heap.size → ¬ A a) : vx_Zq C n d A s s.heap := by
  refine ⟨va_Zqof hl hini h hA, ?_⟩
  obtain ⟨c, k, i, f, a, cell, h1, h2, h3, h4, h5, h6, h7, h8, h9⟩ := Cond.laysStatic_spec hl
  exact ⟨c, k, i, f, a, cell, h1, h2, h3, h4, h5, h6, h7, h8, h9, hA a (Array.getElem?_eq_some_iff.mp h5).1⟩
theorem vx_isRef {C n d : String} {v : Value} {A : Nat → Prop} {s : State} {args : Array Value} (h : va_Z C n d v A s s.heap) (hv : v.isRef = true) : (Cond.isRef (.static C n d)).before args s = true := by
  obtain ⟨cf, kf, fi, f, a, cell, h1, h2, h3, h4, h5, h6, h7, -⟩ := h
  have he : (Term.static C n d).eval args s none [] s = some v := by
    simp [Term.eval, State.fieldNamed?, h1, h2, h4, h5, h6, h7]
  simp only [Cond.before, Cond.holds, Cond.value, he]
  cases v <;> simp_all [Value.isRef]
theorem vx_isRefq {C n d : String} {A : Nat → Prop} {s : State} {args : Array Value} (h : va_Zq C n d A s s.heap) : (Cond.isRef (.static C n d)).before args s = true := by
  rcases h with h | ⟨t, h⟩
  · exact vx_isRef h rfl
  · exact vx_isRef h rfl
/-- the same frame, seen from here: as if the method were called anew in this heap -/
theorem vx_rebase {T : State} (X : Stand p l e R s m args below meth c T locs cells slots) {R' : Room} (hf : R'.frames ≤ R.frames) (hl : R'.locals ≤ R.locals) (hc : cells + R'.cells ≤ R.cells) (hs : slots + R'.slots ≤ R.slots) :
    Stand p l e R' ((T.setVm s.vm).setFrames (.invoking m args :: below)) m args below meth c T [] 0 0 := by
  have htop : (T.setVm s.vm).topJava?.isSome := X.here.top
  have hF : ((T.setVm s.vm).setFrames (.invoking m args :: below)).frames = .invoking m args :: below := State.frames_setFrames _ (State.cur_lt_of_top htop)
  obtain ⟨g₀, hg0⟩ := Option.isSome_iff_exists.mp htop
  obtain ⟨r, hr⟩ := State.topJava?_eq_some.mp hg0
  have hl9 : e.platform.stackLimits (T.setVm s.vm).me = e.platform.stackLimits s.me := X.limits
  have hb9 : (T.setVm s.vm).me.stackBytes = s.me.stackBytes := X.bytes
  refine ⟨X.admits, X.cas, X.clock, hF, ?_, X.hears, X.method, X.code, X.here, X.tail, X.warmed, ?_, ?_, ?_⟩
  · have h := X.room
    have hU : ((T.setVm s.vm).setFrames (.invoking m args :: below)).localsInUse = s.localsInUse := by
      rw [State.localsInUse_invoking hF (meth := meth) (c := c) X.method X.code, State.localsInUse_invoking X.frames X.method X.code]
    simp only [State.hasRoom, Bool.and_eq_true, decide_eq_true_eq] at h ⊢
    obtain ⟨⟨⟨⟨h1, h2, h3, h4, h5, h6⟩, h7⟩, h8⟩, h9⟩ := h
    rw [X.frames, List.length_cons] at h2 h3
    have q1 := X.heapSize
    have q2 := X.used
    simp only [hF, hU, List.length_cons, State.stackLimits_setFrames, State.stackBytes_setFrames, hl9, hb9]
    refine ⟨⟨⟨⟨by omega, by omega, by omega, by omega, by omega, h6⟩, ?_⟩, ?_⟩, X.book⟩
    · show T.heap.size + R'.cells ≤ e.platform.maxCells
      omega
    · show T.slotsUsed + R'.slots ≤ e.platform.maxSlots
      omega
  · rw [State.stackLimits_setFrames]; rfl
  · rw [State.stackBytes_setFrames]; rfl
  · refine ⟨?_, Nat.le_refl _, Nat.le_refl _, ?_, ?_, fun a c9 h9 => ⟨c9, h9, rfl, rfl, fun _ _ => rfl⟩⟩
    · obtain ⟨t, ht, -⟩ := State.frames_cons hr
      show T.setVm s.vm = { ((T.setVm s.vm).setFrames (.invoking m args :: below)).setFrames (T.setVm s.vm).frames with heap := T.heap, slotsUsed := T.slotsUsed }
      rw [State.setFrames_setFrames, State.setFrames_self ht]
      rfl
    · show T.slotsUsed = T.slotsUsed + ((T.heap.toList.drop T.heap.size).map (·.slots.size)).sum
      rw [List.drop_eq_nil_of_le (Nat.le_of_eq Array.length_toList)]
      rfl
    · show ((T.heap.toList.drop T.heap.size).map (·.slots.size)).sum ≤ 0
      rw [List.drop_eq_nil_of_le (Nat.le_of_eq Array.length_toList)]
      exact Nat.le_refl _
/-- 'throw new E()': new; dup; invokespecial; athrow -/
theorem vx_throw0 {cc : ByteArray} {pc : Nat} (hexec : p.tables.exec = Jvm.exec) (hb : c.code = cc) (hl : l.stackTraces = false) {own cls : String} {names : List String} {ik ic mc ms : Nat} {A : Nat → Prop}
    (hown : s.vm.findClass own = some m.cls) (hcls : Bundle.fit cls = true) (hnames : ∀ n ∈ names, Bundle.fit n = true)
    (hk : (Cond.classLink own ik cls).before args s = true) (hini : (Cond.initialized cls).before args s = true) (hat : ∀ w ∈ vx_at0 own ic cls names, w.before args s = true)
    (hgood : ∀ w ∈ Cond.classLink own ik cls :: Cond.initialized cls :: vx_at0 own ic cls names, vx_ot w = true)
    (hU : vx_Zq Bundle.tN "UNASSIGNED_STACK" Bundle.steD A s s.heap) (hN : vx_Zq Bundle.tN "SUPPRESSED_SENTINEL" Bundle.listD A s s.heap) (hS : va_S A s.heap H locs) (hsize : ls.size = c.maxLocals)
    (d0 : decode cc pc = .ok (.new ik, 3)) (d3 : decode cc (pc + 3) = .ok (.dup, 1)) (d4 : decode cc (pc + 4) = .ok (.invokespecial ic, 3)) (d7 : decode cc (pc + 7) = .ok (.athrow, 1))
    (hout : ∀ x ∈ c.exceptionTable.toList, covers x (pc + 7) = false)
    (hRframes : names.length + 3 < R.frames) (hRlocals : (rest.map fun v => v.category).sum + (13 * (names.length + 1) + 42) ≤ R.locals) (hRcells : cells + 1 ≤ R.cells) (hRslots : slots + 6 ≤ R.slots) (hlocks : meth.locks = false)
    (hx : ∀ t : State, s.vm.Alike t.vm → H.size ≤ t.heap.size → (∀ q : Nat, q < H.size → t.heap[q]? = H[q]?) → XC cls s t)
    (hf : ∀ z ∈ locs, free z.base) (hc : cells + 1 ≤ mc) (hs : slots + 6 ≤ ms) :
    W p l e R s m args below meth c H locs cells slots (vx_MQ below Qc XC args s mc ms free) (F0 m pc ls rest) := by
  intro T hT X
  have htr : e.platform.stackTraces = false := (show e.platform.stackTraces = l.stackTraces by rw [X.admits.platform]).trans hl
  have Y := vx_rebase X (R' := { frames := R.frames, locals := R.locals, cells := 1, slots := 6 }) (Nat.le_refl _) (Nat.le_refl _) hRcells hRslots
  obtain ⟨s', hA⟩ : ∃ z, z = (T.setVm s.vm).setFrames (.invoking m args :: below) := ⟨_, rfl⟩
  rw [← hA] at Y
  have hvm : s'.vm = s.vm := by rw [hA]; rfl
  have hhp : s'.heap = H := by rw [hA]; exact hT
  have hW0 : s.WarmedH s'.vm := by rw [hvm]; exact State.WarmedH.refl s
  have hat' : ∀ w ∈ vx_at0 own ic cls names, w.before args s' = true := fun w hw => vx_ot_at hW0 hvm.symm (hgood w (List.mem_cons_of_mem _ (List.mem_cons_of_mem _ hw))) (hat w hw)
  have hk' : (Cond.classLink own ik cls).before args s' = true := vx_ot_at hW0 hvm.symm (hgood _ List.mem_cons_self) hk
  have hini' : (Cond.initialized cls).before args s' = true := vx_ot_at hW0 hvm.symm (hgood _ (List.mem_cons_of_mem _ List.mem_cons_self)) hini
  have hU' : vx_Zq Bundle.tN "UNASSIGNED_STACK" Bundle.steD A s' s'.heap := by rw [hhp]; exact vx_Zq.moved hW0.alike (hU.kept hS.2.1)
  have hN' : vx_Zq Bundle.tN "SUPPRESSED_SENTINEL" Bundle.listD A s' s'.heap := by rw [hhp]; exact vx_Zq.moved hW0.alike (hN.kept hS.2.1)
  have h : ∀ w ∈ Bundle.ownAtoms0 own ic cls names, w.before args s' = true := vx_own hat' (vx_isRefq hU'.1) (vx_isRefq hN'.1) hU'.2.word hN'.2.word
  have hown' : s'.vm.findClass own = some m.cls := by rw [hvm]; exact hown
  have hins : (Cond.instantiable cls 6).before args s' = true := h _ (by simp [Bundle.ownAtoms0])
  obtain ⟨vm₁, cX, kX, hfX, hkX, -, -, X₁, st1⟩ := Y.newCold hexec (own := own) (C := cls) (index := ik) (n := 6) hown' hk' hins hini'
    (g := F0 m pc ls rest) rfl (by rw [hb]; exact d0) (Nat.le_refl _) (Nat.le_refl _)
  generalize hT1 : (T.setVm vm₁).pushCell { cls := cX, slots := kX.instanceTypes.map defaultValue, vm := .none } = T1 at X₁ st1
  have hcat : (Value.ref T.heap.size).category = 1 := rfl
  have hcellA : T1.heap[T.heap.size]? = some (freshCell cX kX) := by rw [← hT1]; exact State.heap_pushCell_size _ _
  have d3' : decode c.code (pc + 3) = .ok (.dup, 1) := by rw [hb]; exact d3
  obtain ⟨U, hsteps, hrun, hend, hW, hsame, ce, hce, hO⟩ := X₁.ctorThrow0 hexec htr (own := own) (cls := cls) (names := names) (ic := ic) hown' hcls hnames h (fun x hx => nomatch hx) hfX hkX hcellA (by rw [hhp, hT]; exact Nat.le_refl _)
    (g := { method := m, pc := pc + 4, locals := ls, stack := .ref T.heap.size :: .ref T.heap.size :: rest, locked := none }) rfl hsize rfl rfl (rest := rest) rfl
    (by rw [hb]; exact d4) (by rw [hb]; exact d7) hout hRframes (by simp only [List.map_cons, List.sum_cons, hcat]; omega) hlocks
  obtain ⟨f1, f2⟩ := vx_frame hsame
  rw [hhp] at f1 f2
  have hWs : s.WarmedH U.vm := State.WarmedH.trans hW0 hW
  have hcl : s.vm.findClass cls = some ce.cls := by
    have h9 := hO.cls
    rw [hvm] at h9
    exact h9
  have hall : s.sameButNew ({ U with vm := s.vm } : State) locs mc ms := by
    subst hA
    obtain ⟨e1, e2⟩ := hsame
    rw [State.setFrames_setFrames] at e1
    have h2 : (T.setVm s.vm).sameButNew ({ U with vm := s.vm } : State) [] (0 + 1) (0 + 6) := ⟨e1, e2⟩
    have h3 := X.same.trans h2
    rw [List.append_nil] at h3
    exact h3.mono hc hs
  refine ⟨U, ?_, .threw T.heap.size, hrun, hend, Or.inr ⟨T.heap.size, rfl, cls, ce, locs, hx U hWs.alike f1 (fun q hq => f2 q hq (fun z hz => nomatch hz)), hce, hO.vm, hcl, hWs, hall, hf⟩⟩
  refine st1 _ ?_
  show Steps p.tables e below (T1.setTop { method := m, pc := pc + 3, locals := ls, stack := .ref T.heap.size :: rest, locked := none }) _
  jvm_step X₁.here [X₁.here.top, hexec, d3', Value.category]
  exact hsteps
/-- 'throw new E("text")': new; dup; ldc; invokespecial; athrow -/
theorem vx_throwS {cc : ByteArray} {pc : Nat} (hexec : p.tables.exec = Jvm.exec) (hb : c.code = cc) (hl : l.stackTraces = false) {own cls text : String} {names : List String} {ik is ic mc ms sa : Nat} {A : Nat → Prop}
    (hown : s.vm.findClass own = some m.cls) (hcls : Bundle.fit cls = true) (hnames : ∀ n ∈ names, Bundle.fit n = true)
    (hk : (Cond.classLink own ik cls).before args s = true) (hini : (Cond.initialized cls).before args s = true) (hstr : vk_R own is text sa s) (hat : ∀ w ∈ vx_atS own ic cls names, w.before args s = true)
    (hgood : ∀ w ∈ Cond.classLink own ik cls :: Cond.initialized cls :: vx_atS own ic cls names, vx_ot w = true)
    (hU : vx_Zq Bundle.tN "UNASSIGNED_STACK" Bundle.steD A s s.heap) (hN : vx_Zq Bundle.tN "SUPPRESSED_SENTINEL" Bundle.listD A s s.heap) (hS : va_S A s.heap H locs) (hsize : ls.size = c.maxLocals)
    (d0 : decode cc pc = .ok (.new ik, 3)) (d3 : decode cc (pc + 3) = .ok (.dup, 1)) (d4 : decode cc (pc + 4) = .ok (.ldc is, 2)) (d6 : decode cc (pc + 6) = .ok (.invokespecial ic, 3)) (d9 : decode cc (pc + 9) = .ok (.athrow, 1))
    (hout : ∀ x ∈ c.exceptionTable.toList, covers x (pc + 9) = false)
    (hRframes : names.length + 3 < R.frames) (hRlocals : (rest.map fun v => v.category).sum + (13 * (names.length + 1) + 43) ≤ R.locals) (hRcells : cells + 1 ≤ R.cells) (hRslots : slots + 6 ≤ R.slots) (hlocks : meth.locks = false)
    (hx : ∀ t : State, s.vm.Alike t.vm → H.size ≤ t.heap.size → (∀ q : Nat, q < H.size → t.heap[q]? = H[q]?) → XC cls s t)
    (hf : ∀ z ∈ locs, free z.base) (hc : cells + 1 ≤ mc) (hs : slots + 6 ≤ ms) :
    W p l e R s m args below meth c H locs cells slots (vx_MQ below Qc XC args s mc ms free) (F0 m pc ls rest) := by
  intro T hT X
  have htr : e.platform.stackTraces = false := (show e.platform.stackTraces = l.stackTraces by rw [X.admits.platform]).trans hl
  have Y := vx_rebase X (R' := { frames := R.frames, locals := R.locals, cells := 1, slots := 6 }) (Nat.le_refl _) (Nat.le_refl _) hRcells hRslots
  obtain ⟨s', hA⟩ : ∃ z, z = (T.setVm s.vm).setFrames (.invoking m args :: below) := ⟨_, rfl⟩
  rw [← hA] at Y
  have hvm : s'.vm = s.vm := by rw [hA]; rfl
  have hhp : s'.heap = H := by rw [hA]; exact hT
  have hW0 : s.WarmedH s'.vm := by rw [hvm]; exact State.WarmedH.refl s
  have hat' : ∀ w ∈ vx_atS own ic cls names, w.before args s' = true := fun w hw => vx_ot_at hW0 hvm.symm (hgood w (List.mem_cons_of_mem _ (List.mem_cons_of_mem _ hw))) (hat w hw)
  have hk' : (Cond.classLink own ik cls).before args s' = true := vx_ot_at hW0 hvm.symm (hgood _ List.mem_cons_self) hk
  have hini' : (Cond.initialized cls).before args s' = true := vx_ot_at hW0 hvm.symm (hgood _ (List.mem_cons_of_mem _ List.mem_cons_self)) hini
  have hU' : vx_Zq Bundle.tN "UNASSIGNED_STACK" Bundle.steD A s' s'.heap := by rw [hhp]; exact vx_Zq.moved hW0.alike (hU.kept hS.2.1)
  have hN' : vx_Zq Bundle.tN "SUPPRESSED_SENTINEL" Bundle.listD A s' s'.heap := by rw [hhp]; exact vx_Zq.moved hW0.alike (hN.kept hS.2.1)
  have h : ∀ w ∈ Bundle.ownAtoms own ic cls names, w.before args s' = true := vx_own hat' (vx_isRefq hU'.1) (vx_isRefq hN'.1) hU'.2.word hN'.2.word
  have hown' : s'.vm.findClass own = some m.cls := by rw [hvm]; exact hown
  have hins : (Cond.instantiable cls 6).before args s' = true := h _ (by simp [Bundle.ownAtoms])
  obtain ⟨vm₁, cX, kX, hfX, hkX, -, -, X₁, st1⟩ := Y.newCold hexec (own := own) (C := cls) (index := ik) (n := 6) hown' hk' hins hini'
    (g := F0 m pc ls rest) rfl (by rw [hb]; exact d0) (Nat.le_refl _) (Nat.le_refl _)
  generalize hT1 : (T.setVm vm₁).pushCell { cls := cX, slots := kX.instanceTypes.map defaultValue, vm := .none } = T1 at X₁ st1
  have hcat : (Value.ref T.heap.size).category = 1 := rfl
  have hcellA : T1.heap[T.heap.size]? = some (freshCell cX kX) := by rw [← hT1]; exact State.heap_pushCell_size _ _
  have d3' : decode c.code (pc + 3) = .ok (.dup, 1) := by rw [hb]; exact d3
  have d4' : decode c.code (pc + 4) = .ok (.ldc is, 2) := by rw [hb]; exact d4
  have hstr' : vk_R own is text sa s' := vk_R.warm hW0 hstr
  obtain ⟨U, hsteps, hrun, hend, hW, hsame, ce, hce, hO⟩ := X₁.ctorThrowS hexec htr (own := own) (cls := cls) (names := names) (ic := ic) hown' hcls hnames h (fun x hx => nomatch hx) hfX hkX hcellA (by rw [hhp, hT]; exact Nat.le_refl _) (msg := .ref sa) rfl
    (g := { method := m, pc := pc + 6, locals := ls, stack := .ref sa :: .ref T.heap.size :: .ref T.heap.size :: rest, locked := none }) rfl hsize rfl rfl (rest := rest) rfl
    (by rw [hb]; exact d6) (by rw [hb]; exact d9) hout hRframes (by simp only [List.map_cons, List.sum_cons, hcat]; omega) hlocks
  obtain ⟨f1, f2⟩ := vx_frame hsame
  rw [hhp] at f1 f2
  have hWs : s.WarmedH U.vm := State.WarmedH.trans hW0 hW
  have hcl : s.vm.findClass cls = some ce.cls := by
    have h9 := hO.cls
    rw [hvm] at h9
    exact h9
  have hall : s.sameButNew ({ U with vm := s.vm } : State) locs mc ms := by
    subst hA
    obtain ⟨e1, e2⟩ := hsame
    rw [State.setFrames_setFrames] at e1
    have h2 : (T.setVm s.vm).sameButNew ({ U with vm := s.vm } : State) [] (0 + 1) (0 + 6) := ⟨e1, e2⟩
    have h3 := X.same.trans h2
    rw [List.append_nil] at h3
    exact h3.mono hc hs
  refine ⟨U, ?_, .threw T.heap.size, hrun, hend, Or.inr ⟨T.heap.size, rfl, cls, ce, locs, hx U hWs.alike f1 (fun q hq => f2 q hq (fun z hz => nomatch hz)), hce, hO.vm, hcl, hWs, hall, hf⟩⟩
  refine st1 _ ?_
  show Steps p.tables e below (T1.setTop { method := m, pc := pc + 3, locals := ls, stack := .ref T.heap.size :: rest, locked := none }) _
  jvm_step X₁.here [X₁.here.top, hexec, d3', Value.category]
  exact X₁.ldcString hexec (own := own) (text := text) (index := is) (a := sa) hown' hstr'.1 hstr'.2
    (g := { method := m, pc := pc + 4, locals := ls, stack := .ref T.heap.size :: .ref T.heap.size :: rest, locked := none }) rfl d4' _ hsteps
/-- 'throw new E("text")', the text by a wide index -/
theorem vx_throwSW {cc : ByteArray} {pc : Nat} (hexec : p.tables.exec = Jvm.exec) (hb : c.code = cc) (hl : l.stackTraces = false) {own cls text : String} {names : List String} {ik is ic mc ms sa : Nat} {A : Nat → Prop}
    (hown : s.vm.findClass own = some m.cls) (hcls : Bundle.fit cls = true) (hnames : ∀ n ∈ names, Bundle.fit n = true)
    (hk : (Cond.classLink own ik cls).before args s = true) (hini : (Cond.initialized cls).before args s = true) (hstr : vk_R own is text sa s) (hat : ∀ w ∈ vx_atS own ic cls names, w.before args s = true)
    (hgood : ∀ w ∈ Cond.classLink own ik cls :: Cond.initialized cls :: vx_atS own ic cls names, vx_ot w = true)
    (hU : vx_Zq Bundle.tN "UNASSIGNED_STACK" Bundle.steD A s s.heap) (hN : vx_Zq Bundle.tN "SUPPRESSED_SENTINEL" Bundle.listD A s s.heap) (hS : va_S A s.heap H locs) (hsize : ls.size = c.maxLocals)
    (d0 : decode cc pc = .ok (.new ik, 3)) (d3 : decode cc (pc + 3) = .ok (.dup, 1)) (d4 : decode cc (pc + 4) = .ok (.ldc_w is, 3)) (d7 : decode cc (pc + 7) = .ok (.invokespecial ic, 3)) (d10 : decode cc (pc + 10) = .ok (.athrow, 1))
    (hout : ∀ x ∈ c.exceptionTable.toList, covers x (pc + 10) = false)
    (hRframes : names.length + 3 < R.frames) (hRlocals : (rest.map fun v => v.category).sum + (13 * (names.length + 1) + 43) ≤ R.locals) (hRcells : cells + 1 ≤ R.cells) (hRslots : slots + 6 ≤ R.slots) (hlocks : meth.locks = false)
    (hx : ∀ t : State, s.vm.Alike t.vm → H.size ≤ t.heap.size → (∀ q : Nat, q < H.size → t.heap[q]? = H[q]?) → XC cls s t)
    (hf : ∀ z ∈ locs, free z.base) (hc : cells + 1 ≤ mc) (hs : slots + 6 ≤ ms) :
    W p l e R s m args below meth c H locs cells slots (vx_MQ below Qc XC args s mc ms free) (F0 m pc ls rest) := by
  intro T hT X
  have htr : e.platform.stackTraces = false := (show e.platform.stackTraces = l.stackTraces by rw [X.admits.platform]).trans hl
  have Y := vx_rebase X (R' := { frames := R.frames, locals := R.locals, cells := 1, slots := 6 }) (Nat.le_refl _) (Nat.le_refl _) hRcells hRslots
  obtain ⟨s', hA⟩ : ∃ z, z = (T.setVm s.vm).setFrames (.invoking m args :: below) := ⟨_, rfl⟩
  rw [← hA] at Y
  have hvm : s'.vm = s.vm := by rw [hA]; rfl
  have hhp : s'.heap = H := by rw [hA]; exact hT
  have hW0 : s.WarmedH s'.vm := by rw [hvm]; exact State.WarmedH.refl s
  have hat' : ∀ w ∈ vx_atS own ic cls names, w.before args s' = true := fun w hw => vx_ot_at hW0 hvm.symm (hgood w (List.mem_cons_of_mem _ (List.mem_cons_of_mem _ hw))) (hat w hw)
  have hk' : (Cond.classLink own ik cls).before args s' = true := vx_ot_at hW0 hvm.symm (hgood _ List.mem_cons_self) hk
  have hini' : (Cond.initialized cls).before args s' = true := vx_ot_at hW0 hvm.symm (hgood _ (List.mem_cons_of_mem _ List.mem_cons_self)) hini
  have hU' : vx_Zq Bundle.tN "UNASSIGNED_STACK" Bundle.steD A s' s'.heap := by rw [hhp]; exact vx_Zq.moved hW0.alike (hU.kept hS.2.1)
  have hN' : vx_Zq Bundle.tN "SUPPRESSED_SENTINEL" Bundle.listD A s' s'.heap := by rw [hhp]; exact vx_Zq.moved hW0.alike (hN.kept hS.2.1)
  have h : ∀ w ∈ Bundle.ownAtoms own ic cls names, w.before args s' = true := vx_own hat' (vx_isRefq hU'.1) (vx_isRefq hN'.1) hU'.2.word hN'.2.word
  have hown' : s'.vm.findClass own = some m.cls := by rw [hvm]; exact hown
  have hins : (Cond.instantiable cls 6).before args s' = true := h _ (by simp [Bundle.ownAtoms])
  obtain ⟨vm₁, cX, kX, hfX, hkX, -, -, X₁, st1⟩ := Y.newCold hexec (own := own) (C := cls) (index := ik) (n := 6) hown' hk' hins hini'
    (g := F0 m pc ls rest) rfl (by rw [hb]; exact d0) (Nat.le_refl _) (Nat.le_refl _)
  generalize hT1 : (T.setVm vm₁).pushCell { cls := cX, slots := kX.instanceTypes.map defaultValue, vm := .none } = T1 at X₁ st1
  have hcat : (Value.ref T.heap.size).category = 1 := rfl
  have hcellA : T1.heap[T.heap.size]? = some (freshCell cX kX) := by rw [← hT1]; exact State.heap_pushCell_size _ _
  have d3' : decode c.code (pc + 3) = .ok (.dup, 1) := by rw [hb]; exact d3
  have d4' : decode c.code (pc + 4) = .ok (.ldc_w is, 3) := by rw [hb]; exact d4
  have hstr' : vk_R own is text sa s' := vk_R.warm hW0 hstr
  obtain ⟨U, hsteps, hrun, hend, hW, hsame, ce, hce, hO⟩ := X₁.ctorThrowS hexec htr (own := own) (cls := cls) (names := names) (ic := ic) hown' hcls hnames h (fun x hx => nomatch hx) hfX hkX hcellA (by rw [hhp, hT]; exact Nat.le_refl _) (msg := .ref sa) rfl
    (g := { method := m, pc := pc + 7, locals := ls, stack := .ref sa :: .ref T.heap.size :: .ref T.heap.size :: rest, locked := none }) rfl hsize rfl rfl (rest := rest) rfl
    (by rw [hb]; exact d7) (by rw [hb]; exact d10) hout hRframes (by simp only [List.map_cons, List.sum_cons, hcat]; omega) hlocks
  obtain ⟨f1, f2⟩ := vx_frame hsame
  rw [hhp] at f1 f2
  have hWs : s.WarmedH U.vm := State.WarmedH.trans hW0 hW
  have hcl : s.vm.findClass cls = some ce.cls := by
    have h9 := hO.cls
    rw [hvm] at h9
    exact h9
  have hall : s.sameButNew ({ U with vm := s.vm } : State) locs mc ms := by
    subst hA
    obtain ⟨e1, e2⟩ := hsame
    rw [State.setFrames_setFrames] at e1
    have h2 : (T.setVm s.vm).sameButNew ({ U with vm := s.vm } : State) [] (0 + 1) (0 + 6) := ⟨e1, e2⟩
    have h3 := X.same.trans h2
    rw [List.append_nil] at h3
    exact h3.mono hc hs
  refine ⟨U, ?_, .threw T.heap.size, hrun, hend, Or.inr ⟨T.heap.size, rfl, cls, ce, locs, hx U hWs.alike f1 (fun q hq => f2 q hq (fun z hz => nomatch hz)), hce, hO.vm, hcl, hWs, hall, hf⟩⟩
  refine st1 _ ?_
  show Steps p.tables e below (T1.setTop { method := m, pc := pc + 3, locals := ls, stack := .ref T.heap.size :: rest, locked := none }) _
  jvm_step X₁.here [X₁.here.top, hexec, d3', Value.category]
  exact X₁.ldcStringW hexec (own := own) (text := text) (index := is) (a := sa) hown' hstr'.1 hstr'.2
    (g := { method := m, pc := pc + 4, locals := ls, stack := .ref T.heap.size :: .ref T.heap.size :: rest, locked := none }) rfl d4' _ hsteps
end Ends
section Bodies
variable {l : Launch}
theorem vx_ofW {y : MethodName} {ws ws' : List Cond} {rm : Room} {Pc : Array Value → State → Prop} {Qc : Array Value → State → Outcome → State → Prop} {XC : String → State → State → Prop} {mc ms : Nat} {free : Addr → Prop} {cc : ByteArray} {maxL : Nat} {ret : Option FieldType}
    (hy : plainName y.cls = true) (hw : ws = Cond.code y cc maxL ret :: ws')
    (body : ∀ p e s m args below meth c s₁, BodyLoose p l y (headSpec ws rm) cc maxL ret e s m args below meth c s₁ → c.maxLocals = maxL → (∀ x ∈ c.exceptionTable.toList, False) → Pc args s →
      W p l e (headSpec ws rm).room s m args below meth c s.heap [] 0 0 (vx_MQ below Qc XC args s mc ms free) (entryFrame m args maxL)) : vx_Met l y ws rm Pc Qc XC mc ms free := by
  refine MetFree.of_bodyS (code := cc) (maxLocals := maxL) (ret := ret) hy ?_ ?_
  · intro args s m h hn
    obtain ⟨meth, c, h1, h2, h3, h4, h5, h6, -, -⟩ := Cond.code_spec hn (atoms_spec (ws := ws) h _ (by rw [hw]; exact List.mem_cons_self))
    exact ⟨meth, c, h1, h2, h3, h4, h5, h6⟩
  · intro p e s m args below meth c s₁ B hml hP _
    have hh0 : s₁.heap = s.heap := by rw [B.state]; rfl
    have ht : ∀ x ∈ c.exceptionTable.toList, False := by
      obtain ⟨meth9, c9, h1, h2, -, -, -, -, h7, -⟩ := Cond.code_spec B.named (atoms_spec (ws := ws) B.pre _ (by rw [hw]; exact List.mem_cons_self))
      cases Option.some.inj (h1.symm.trans B.method)
      cases Option.some.inj (h2.symm.trans (Stand.of_body B).code)
      intro x hx
      rw [Array.isEmpty_iff.mp h7] at hx
      cases hx
    obtain ⟨t, a1, o, b1, b2, b3⟩ := body p e s m args below meth c s₁ B hml ht hP s₁ hh0 (Stand.of_body B)
    exact ⟨t, o, a1, b1, b2, b3⟩
/-- the table of a body with handlers -/
theorem vx_table {p : Program} {x y : MethodName} {S : Spec} {cc bytes : ByteArray} {maxL maxL' : Nat} {ret ret' : Option FieldType} {e : Env} {s s₁ : State} {m : MethodId} {args : Array Value} {below : List Frame} {meth : Method} {c : Code} {hh : List (Nat × Nat × Nat × Nat)}
    (B : BodyLoose p l y S cc maxL ret e s m args below meth c s₁) (h : (Cond.codeWith y bytes maxL' ret' hh).before args s = true) : c.exceptionTable.toList = tableOf hh := by
  obtain ⟨m9, meth9, c9, hn9, h1, h2, -, -, h6, -⟩ := Cond.codeWith_spec h
  cases Option.some.inj (hn9.symm.trans B.named)
  cases Option.some.inj (h1.symm.trans B.method)
  cases Option.some.inj (h2.symm.trans (Stand.of_body B).code)
  rw [← h6, table_eq]
end Bodies
end VXA
/-! ===== END ===== -/
/-! ===== BEGIN a static call of a method with an exception table ===== -/
section VXS
variable {p : Program} {l : Launch} {e : Env} {R : Room} {s : State} {m : MethodId} {args : Array Value} {below : List Frame} {meth : Method} {c : Code} {T : State} {H : Heap} {locs : List Loc} {cells slots : Nat}
abbrev vx_CSW (R : Room) (s : State) (args : Array Value) (own : String) (index : Nat) (y : MethodName) (bytes : ByteArray) (maxL : Nat) (ret : Option FieldType) (hh : List (Nat × Nat × Nat × Nat)) (ws : List Cond) (rm : Room) (mc ms n : Nat) : Prop :=
  (rm.cells = mc ∧ rm.slots = ms ∧ rm.frames + 1 ≤ R.frames ∧ 8 + (maxL + 11) + rm.locals ≤ R.locals ∧ (∀ w ∈ ws, ∀ (a' : Array Value) (U : State), s.WarmedH U.vm → w.before a' U = true) ∧ Cond.codeWith y bytes maxL ret hh ∈ ws) ∧
  (Cond.codeWith y bytes maxL ret hh).before args s = true ∧ (Cond.initialized y.cls).before args s = true ∧ (y.cls ≠ "java/lang/invoke/MethodHandle" ∧ y.cls ≠ "java/lang/invoke/VarHandle") ∧
  (∀ sig, parseMethodDescriptor y.desc = some sig → n = sig.parameters.length) ∧ (Cond.methodLink own index y).before args s = true ∧ (Cond.static y).before args s = true
theorem vx_cwSW {own : String} {index maxL mc ms : Nat} {y : MethodName} {bytes : ByteArray} {ret : Option FieldType} {hh : List (Nat × Nat × Nat × Nat)} {Ts ws ws' : List Cond} {rm : Room} (n : Nat) (ht : ∀ w ∈ Ts, w.before args s = true) (hT : GoodIn Ts (va_wsS own index y ws)) (hw : ws = Cond.codeWith y bytes maxL ret hh :: ws') (hrc : rm.cells = mc) (hrs : rm.slots = ms)
    (hd : y.cls ≠ "java/lang/invoke/MethodHandle" ∧ y.cls ≠ "java/lang/invoke/VarHandle" ∧ (parseMethodDescriptor y.desc).map (fun d => d.parameters.length) = some n) (hR : rm.frames + 1 ≤ R.frames ∧ 8 + (maxL + 11) + rm.locals ≤ R.locals) :
    vx_CSW R s args own index y bytes maxL ret hh ws rm mc ms n := by
  have ok : ∀ w ∈ va_wsS own index y ws, w.before args s = true := fun w h => ht w (hT w h).1
  have hG : GoodIn Ts ws := fun w h => hT w (by unfold va_wsS; exact List.mem_append_right _ h)
  have hc : Cond.codeWith y bytes maxL ret hh ∈ ws := by rw [hw]; exact List.mem_cons_self
  refine ⟨⟨hrc, hrs, hR.1, hR.2, pay_in ht hG, hc⟩, ht _ (hG _ hc).1, ok _ (by simp [va_wsS]), ⟨hd.1, hd.2.1⟩, fun sig h => ?_, ok _ (by simp [va_wsS]), ok _ (by simp [va_wsS])⟩
  have h2 := hd.2.2
  rw [h] at h2
  exact (Option.some.inj h2).symm
theorem vx_callSW (X : Stand p l e R s m args below meth c T locs cells slots) (hexec : p.tables.exec = Jvm.exec) {own : String} {index : Nat} {y : MethodName} {bytes : ByteArray} {maxL : Nat} {ret : Option FieldType} {hh : List (Nat × Nat × Nat × Nat)}
    (hown : s.vm.findClass own = some m.cls) (hlink : (Cond.methodLink own index y).before args s = true) (hstat : (Cond.static y).before args s = true) (hinit : (Cond.initialized y.cls).before args s = true)
    (hcode : (Cond.codeWith y bytes maxL ret hh).before args s = true) (hy : y.cls ≠ "java/lang/invoke/MethodHandle" ∧ y.cls ≠ "java/lang/invoke/VarHandle")
    {W9 : Nat} {Pre : Pt → Array Value → Prop} {Post : Pt → Array Value → Option Value → Pt → Prop} (hK : Back l R p e below s args y 3 W9 Pre Post)
    {g : JFrame} (hg : g.method = m) (hsize : g.locals.size = c.maxLocals) {argsL rest : List Value} (hlen : ∀ sig, parseMethodDescriptor y.desc = some sig → argsL.length = sig.parameters.length)
    (hstack : g.stack = argsL.reverse ++ rest) (hW : 2 * g.monitorRoom + (rest.map fun v => v.category).sum ≤ W9) (hdg : decode c.code g.pc = .ok (.invokestatic index, 3))
    (hpre : ∀ vm₁, s.WarmedH vm₁ → Pre ⟨T.setVm vm₁, locs, cells, slots⟩ argsL.toArray) :
    ∃ (v : Option Value) (vm₁ : Vm) (B : Pt), s.WarmedH vm₁ ∧ Stand p l e R s m args below meth c B.U B.locs B.cells B.slots ∧ Post ⟨T.setVm vm₁, locs, cells, slots⟩ argsL.toArray v B ∧
      ∀ target, Steps p.tables e below (B.U.setTop { g with pc := g.pc + 3, stack := v.toList ++ rest }) target → Steps p.tables e below (T.setTop g) target := by
  obtain ⟨mk, methM, cM, hnamed, hmethM, -, -, -, -, -, -, hsigM⟩ := Cond.codeWith_spec hcode
  have hstatic : methM.isStatic = true := Cond.static_spec hnamed hmethM hstat
  obtain ⟨kP, hkP, -⟩ := className_of_methodNamed hnamed
  have hinitP : kP.init = .initialized := Cond.initialized_spec (findClass_of_methodNamed hnamed) hkP hinit
  obtain ⟨vm₁, X₁, hstep₁⟩ := X.invokestatic hexec hown hlink hnamed hmethM hstatic hkP hinitP hy (g := g) hg (argsL := argsL) (rest := rest) (hlen _ hsigM) hstack hdg
  obtain ⟨v, B, X', hpost, hsteps⟩ := hK m meth c ⟨T.setVm vm₁, locs, cells, slots⟩ { g with stack := rest } (.invokestatic index) mk argsL.toArray X₁ hg hsize hdg hW (X₁.named hnamed) (hpre vm₁ X₁.warmed)
  exact ⟨v, vm₁, B, X₁.warmed, X', hpost, fun target h => hstep₁ _ fun acts => by rw [doInvoke_state]; exact hsteps.trans h⟩
theorem vx_runSW {y : MethodName} {bytes cc : ByteArray} {maxL nL mc ms n index : Nat} {ret : Option FieldType} {hh : List (Nat × Nat × Nat × Nat)} {ws : List Cond} {rm : Room} {Pc : Array Value → State → Prop} {Qc : Array Value → State → Outcome → State → Prop} {free : Addr → Prop} {Ts : List Cond} {own : String} {As rest : List Value} {g : JFrame}
    (S : CallFix p m c cc nL s args Ts own) (hM : Met l y ws rm Pc Qc mc ms free) (cw : vx_CSW R s args own index y bytes maxL ret hh ws rm mc ms n) (hp : PreS s H Pc As)
    (hg : g.method = m) (hn : As.length = n) (hsize : g.locals.size = nL) (hstack : g.stack = As.reverse ++ rest) (hW : 2 * g.monitorRoom + (rest.map fun v => v.category).sum ≤ 8) (hdg : decode cc g.pc = .ok (.invokestatic index, 3)) (hf : cells + mc ≤ R.cells ∧ slots + ms ≤ R.slots) :
    va_Run p l e R s m args below meth c H locs cells slots mc ms g rest (Qc As.toArray) (free) := by
  obtain ⟨⟨hrc, hrs, hfr, hlo, hws, hcw⟩, hcode, hini, hy, hlen, hl, hstt⟩ := cw
  have hK : Back l R p e below s args y 3 8 (PreOf R mc ms Pc) (PostOf Qc mc ms free) := va_backW (hh := hh) (bytes := bytes) (maxL := maxL) (ret := ret) hM hp.1 hrc hrs hfr hlo hws hcw (fun a' U hW => word_at hW (Or.inl (by first | rfl | simp [Cond.onTables, Cond.keeps, Cond.steady])) hini)
  obtain ⟨hx, hb, hml, ho, -⟩ := S
  intro T hT X
  obtain ⟨v, vm₁, ⟨U', l2, c2, s2⟩, hW₁, X', ⟨g', mk, t, L, e1, e2, hq, h1, hL, h2, h3⟩, st⟩ := vx_callSW X hx (hh := hh) (bytes := bytes) (maxL := maxL) (ret := ret) ho hl hstt hini hcode hy hK hg (hsize.trans hml.symm) (argsL := As) (rest := rest) (fun sig h => hn.trans (hlen sig h)) hstack hW (by rw [hb]; exact hdg)
    (fun vm₁ hW₁ => ⟨hf.1, hf.2, hp.2 (T.setVm vm₁) hT hW₁⟩)
  dsimp only [Pt.U, Pt.locs, Pt.cells, Pt.slots] at X' e1 e2 h1 h2 h3 st
  subst h1; subst h2; subst h3
  exact ⟨v, (T.setVm vm₁).calling g' mk As.toArray, t, U', L, hT, X', hL, e1, e2, hq, st⟩
/-- not caught here, past rows that name other classes: it goes on to the caller -/
theorem vx_outP {p : Program} {l : Launch} {e : Env} {R : Room} {s : State} {m : MethodId} {args : Array Value} {below : List Frame} {meth : Method} {c : Code} {H : Heap} {locs : List Loc} {cells slots : Nat} {free : Addr → Prop} {ls : Array Slot} {rest : List Value} {Qc : Array Value → State → Outcome → State → Prop} {XC : String → State → State → Prop}
    {pc : Nat} {own E : String} {ce : Cell} {q : Addr} {mc ms : Nat} (hown : s.vm.findClass own = some m.cls) (hlocks : meth.locks = false)
    (hpass : ∀ z ∈ c.exceptionTable.toList, covers z pc = false ∨ (z.catchType ≠ 0 ∧ ∃ nm : String, (Cond.classLink own z.catchType nm).before args s = true ∧ va_Nc E nm s)) (hcell : H[q]? = some ce) (hv : ce.vm = .none) (hcl : s.vm.findClass E = some ce.cls)
    (hx : ∀ t : State, t.heap = H → s.vm.Alike t.vm → XC E s t) (hf : ∀ z ∈ locs, free z.base) (hc : cells ≤ mc) (hs : slots ≤ ms) :
    vx_W p l e R s m args below meth c H locs cells slots (vx_MQ below Qc XC args s mc ms free) (F0 m pc ls rest) q := by
  intro T hT X
  have hpl : e.platform.magicAccessors = ({} : Platform).magicAccessors := by rw [X.admits.platform]
  obtain ⟨vm', hW', X', st⟩ := X.outThrough hlocks q (g := F0 m pc ls rest) rfl rfl rfl (cell := ce) (by rw [hT]; exact hcell) (by rw [hv]; rfl)
    (by obtain ⟨k9, h9, -⟩ := Vm.findClass_spec hcl; exact ⟨k9, h9⟩) (fun z hz => by
      rcases hpass z hz with h | ⟨hz0, nm, hl1, hn1⟩
      · exact Or.inl h
      · obtain ⟨c6, hc6, hcl6⟩ := Cond.classLink_spec hown hl1 e.platform hpl
        obtain ⟨a8, b8, h1, h2, h3⟩ := hn1
        cases Option.some.inj (h1.symm.trans hcl)
        cases Option.some.inj (h2.symm.trans hc6)
        exact Or.inr ⟨hz0, _, hcl6, h3⟩)
  obtain ⟨g₀, hfr⟩ := X'.frames_eq
  have hcell9 : ((T.setVm vm').setFrames (.throwing q :: below)).heap[q]? = some ce := by
    show T.heap[q]? = some ce
    rw [hT]; exact hcell
  have hend : Ended ((T.setVm vm').setFrames (.throwing q :: below)) below (.threw q) := State.frames_setFrames _ (State.cur_lt_of_frames hfr)
  refine ⟨(T.setVm vm').setFrames (.throwing q :: below), ?_, .threw q, X'.here.running, hend, Or.inr ⟨q, rfl, E, ce, locs, hx _ hT (X'.ends _).1.alike, hcell9, hv, hcl, (X'.ends _).1, (X'.ends _).2.mono hc hs, hf⟩⟩
  rw [X.pushThrowing_eq]
  exact st
/-- a thing of a world lies in the heap -/
theorem vx_lt {D : va_G} {cl : List vw_C} {ws : va_W} {H1 : Heap} (h : va_P D cl ws H1) {k : Nat} {q : Nat × va_E} (hk : ws[k]? = some q) : q.1 < H1.size := (h k q hk).lt
end VXS
/-! ===== END ===== -/
/-! ===== BEGIN new T[n][m]: the outer array a place, the inner ones among the pooled ===== -/
/-- f, but v at every address of l -/
def vr_up {α : Type} (f : Nat → α) (l : List Nat) (v : α) : Nat → α := fun a => if a ∈ l then v else f a
theorem vr_up_in {α : Type} {f : Nat → α} {l : List Nat} {v : α} {a : Nat} (h : a ∈ l) : vr_up f l v a = v := if_pos h
theorem vr_up_ne {α : Type} {f : Nat → α} {l : List Nat} {v : α} {a : Nat} (h : a ∉ l) : vr_up f l v a = f a := if_neg h
theorem vr_rows {L l : List Nat} {f : Nat → va_E} {e : va_E} (h : ∀ a, a ∈ l → a ∉ L) : va_pl L f ++ l.map (fun a => (a, e)) = va_pl (L ++ l) (vr_up f l e) := by
  unfold va_pl
  rw [List.map_append]
  congr 1
  · apply List.map_congr_left
    intro a ha
    rw [vr_up_ne (fun q => h a q ha)]
  · apply List.map_congr_left
    intro a ha
    rw [vr_up_in ha]
theorem vr_lay {X rows : va_W} {x : Nat × va_E} {pl : va_W} {D : va_G} {cl : List vw_C} {H : Heap} (hP : va_P D cl (((X ++ pl) ++ [x]) ++ rows) H) : va_P D cl ((X ++ [x]) ++ (pl ++ rows)) H := by
  rw [List.append_assoc (X ++ pl)] at hP
  have h := va_P.swap hP
  rw [← List.append_assoc X] at h
  have h2 := va_P.swap h
  rw [List.append_assoc (X ++ [x])] at h2
  exact h2
theorem vr_layD {X rows : va_W} {x : Nat × va_E} {pl : va_W} {A : Nat → Prop} (hD : va_D A (((X ++ pl) ++ [x]) ++ rows)) : va_D A ((X ++ [x]) ++ (pl ++ rows)) := by
  rw [List.append_assoc (X ++ pl)] at hD
  have h := va_D.swap hD
  rw [← List.append_assoc X] at h
  have h2 := va_D.swap h
  rw [List.append_assoc (X ++ [x])] at h2
  exact h2
theorem vr_outer (c : ClassId) (N h0 : Nat) : ∀ i : Nat, Jvm.Free.Multi.outerC c N h0 i = arrV c N (fun j => va_rf (if j < i then some (h0 + 1 + j) else none))
  | 0 => by
    show ({ cls := c, slots := Array.replicate N .null, vm := .none } : Cell) = _
    rw [arrV_new]
    refine congrArg (arrV c N) (funext fun j => ?_)
    simp [va_rf]
  | i + 1 => by
    show (Jvm.Free.Multi.outerC c N h0 i).setSlot i (.ref (h0 + 1 + i)) = _
    rw [vr_outer c N h0 i, arrV_store]
    refine congrArg (arrV c N) (funext fun j => ?_)
    by_cases e : j = i
    · subst e
      simp [updV, va_rf]
    · by_cases h : j < i
      · simp [updV, e, h, Nat.lt_succ_of_lt h]
      · simp [updV, e, h, show ¬ j < i + 1 by omega]
def va_AOA (ty : FieldType) (U : State) : Prop := (Cond.arrayOver (.array ty)).before #[] U = true
theorem va_AOA.use {ty : FieldType} {A : Array Value} {U : State} (h : va_AOA ty U) : (Cond.arrayOver (.array ty)).before A U = true := h
section VGM
variable {p : Program} {l : Launch} {e : Env} {R : Room} {s : State} {m : MethodId} {args : Array Value} {below : List Frame} {meth : Method} {c : Code} {H : Heap} {locs : List Loc} {cells slots : Nat} {Q : State → Prop}
variable {cc : ByteArray} {pc : Nat} {ls : Array Slot} {rest : List Value} {D : va_G} {cl : List vw_C} {A : Nat → Prop} {a : Nat} {tys : List (ClassId × FieldType)} {ws : va_W} {H0 : Heap}
theorem va_mna {X : va_W} {L : List Nat} {f : Nat → va_E} {cc : ByteArray} (hexec : p.tables.exec = Jvm.exec) (hb : c.code = cc) {own : String} {index : Nat} {ty : FieldType} {cy : ClassId} (hown : s.vm.findClass own = some m.cls) (hclink : (Cond.classLink own index ("[" ++ (FieldType.array ty).toString)).before args s = true) (hover : va_AOA ty s) (harr : (Cond.arrayClass ty).before args s = true) (hcy : s.vm.findClass (FieldType.array ty).toString = some cy)
    (hK : va_K D cl tys s) (hP : va_P D cl (X ++ va_pl L f) H) (hD : va_D A (X ++ va_pl L f)) (hS : va_S A H0 H locs) (hA : ∀ q, H0.size ≤ q → A q) {n k : Int32} {N' K' : Nat} {z : vp_A} (hn : ¬ n < 0) (hk : ¬ k < 0) (hN : n.toNatClampNeg = N') (hM : k.toNatClampNeg = K')
    (hb1 : N' * 4 ≤ 536870912) (hb2 : K' * componentBytes ty ≤ 536870912) (hb3 : K' ≤ 536870912) (hdf : fits ty (defaultValue ty) = true) (hdd : (defaultValue ty).isDefault = true) (hcells : cells + (1 + N') ≤ R.cells) (hslots : slots + (N' + N' * K') ≤ R.slots) (hz : ∀ c : ClassId, Jvm.Free.Multi.innerC c K' (defaultValue ty) = vp_cell c z) (hdg : decode cc pc = .ok (.multianewarray index 2, 4))
    (kk : ∀ (q : Nat) (r : Nat → Nat) (cA : ClassId) (H1 : Heap), (∀ i j : Nat, i < N' → j < N' → r i = r j → i = j) → (∀ i : Nat, i < N' → r i ∉ L) → va_K D cl (tys ++ [(cA, .array ty)]) s →
      va_P D cl ((X ++ [(q, .inl (cA, N', .inr (.inr (.inr (.inr (fun i => if i < N' then some (r i) else none))))))]) ++ va_pl (L ++ (List.range N').map r) (vr_up f ((List.range N').map r) (.inl (cy, z)))) H1 → va_D A ((X ++ [(q, .inl (cA, N', .inr (.inr (.inr (.inr (fun i => if i < N' then some (r i) else none))))))]) ++ va_pl (L ++ (List.range N').map r) (vr_up f ((List.range N').map r) (.inl (cy, z)))) → va_S A H0 H1 locs →
      W p l e R s m args below meth c H1 locs (cells + 1 + N') (slots + N' + N' * K') Q (F0 m (pc + 4) ls (.ref q :: rest))) : W p l e R s m args below meth c H locs cells slots Q (F0 m pc ls (.int k :: .int n :: rest)) := by
  subst hN
  subst hM
  intro T hT Xs
  obtain ⟨vm₁, cA, comp, -, fA, fC, hO, -, X', step⟩ := Xs.multianewarray2F hexec hown hclink (va_AOA.use hover) harr (g := F0 m pc ls (.int k :: .int n :: rest)) rfl (by rw [hb]; exact hdg) rfl hn hk hb1 hb2 hb3 hdf hdd hcells hslots
  have ec : some cy = some comp := hcy.symm.trans fC
  cases ec
  generalize hF : Jvm.Free.Multi.fill (T.setVm vm₁) cA cy n.toNatClampNeg k.toNatClampNeg (defaultValue ty) n.toNatClampNeg = F at X' step
  have hTh : (T.setVm vm₁).heap = H := hT
  obtain ⟨f1, f2, -, -⟩ := Jvm.Free.Multi.fill_facts (T.setVm vm₁) cA cy n.toNatClampNeg k.toNatClampNeg (defaultValue ty) n.toNatClampNeg
  rw [hF, hTh] at f1 f2
  have hold : ∀ x : Nat, x < H.size → F.heap[x]? = H[x]? := fun x hx => by
    have := Jvm.Free.Multi.fill_old (T.setVm vm₁) cA cy n.toNatClampNeg k.toNatClampNeg (defaultValue ty) (a := x) (by rw [hTh]; exact hx) n.toNatClampNeg
    rw [hF, hTh] at this
    exact this
  have hrow : ∀ j : Nat, j < n.toNatClampNeg → F.heap[H.size + 1 + j]? = some (vp_cell cy z) := fun j hj => by
    have := Jvm.Free.Multi.fill_inner (T.setVm vm₁) cA cy n.toNatClampNeg k.toNatClampNeg (defaultValue ty) n.toNatClampNeg j hj
    rw [hF, hTh, hz] at this
    exact this
  have hout : Jvm.Free.Multi.outerC cA n.toNatClampNeg H.size n.toNatClampNeg = vp_cell cA (n.toNatClampNeg, .inr (.inr (.inr (.inr (fun i => if i < n.toNatClampNeg then some (H.size + 1 + i) else none))))) := by
    rw [vp_cell_q]
    exact vr_outer cA n.toNatClampNeg H.size n.toNatClampNeg
  rw [hout] at f2
  have hlt : ∀ a, a ∈ L → a < H.size := fun a ha => by
    obtain ⟨k9, hk9⟩ := va_pl_get (X := X) (f := f) ha
    exact (hP k9 _ hk9).lt
  have hnl : ∀ i : Nat, i < n.toNatClampNeg → H.size + 1 + i ∉ L := fun i _ h => by
    have := hlt _ h
    omega
  have hnm : ∀ a, a ∈ (List.range n.toNatClampNeg).map (fun i => H.size + 1 + i) → a ∉ L := fun a ha h => by
    obtain ⟨i, -, rfl⟩ := List.mem_map.mp ha
    have := hlt _ h
    omega
  have hP0 : va_P D cl (X ++ va_pl L f) F.heap := hP.kept (fun k9 x hx => hold x.1 ((hP k9 x hx).lt))
  have hP1 : va_P D cl ((X ++ va_pl L f) ++ [(H.size, .inl (cA, n.toNatClampNeg, .inr (.inr (.inr (.inr (fun i => if i < n.toNatClampNeg then some (H.size + 1 + i) else none))))))]) F.heap := hP0.app (fun k9 x hx => by
    have h0 : k9 < 1 := (List.getElem?_eq_some_iff.mp hx).1
    rw [show k9 = 0 by omega] at hx
    cases hx
    exact f2)
  have hP2 : va_P D cl (((X ++ va_pl L f) ++ [(H.size, .inl (cA, n.toNatClampNeg, .inr (.inr (.inr (.inr (fun i => if i < n.toNatClampNeg then some (H.size + 1 + i) else none))))))]) ++ ((List.range n.toNatClampNeg).map (fun i => H.size + 1 + i)).map (fun a => (a, .inl (cy, z)))) F.heap := hP1.app (fun k9 x hx => by
    obtain ⟨a, ha, rfl⟩ := List.mem_map.mp (List.mem_of_getElem? hx)
    obtain ⟨i, hi, rfl⟩ := List.mem_map.mp ha
    exact hrow i (List.mem_range.mp hi))
  have hD2 : va_D A (((X ++ va_pl L f) ++ [(H.size, .inl (cA, n.toNatClampNeg, .inr (.inr (.inr (.inr (fun i => if i < n.toNatClampNeg then some (H.size + 1 + i) else none))))))]) ++ ((List.range n.toNatClampNeg).map (fun i => H.size + 1 + i)).map (fun a => (a, .inl (cy, z)))) := by
    have hD1 := hD.push (e := .inl (cA, n.toNatClampNeg, .inr (.inr (.inr (.inr (fun i => if i < n.toNatClampNeg then some (H.size + 1 + i) else none)))))) hP rfl (hA _ hS.1)
    generalize hW1 : (X ++ va_pl L f) ++ [(H.size, .inl (cA, n.toNatClampNeg, .inr (.inr (.inr (.inr (fun i => if i < n.toNatClampNeg then some (H.size + 1 + i) else none))))))] = W1 at hD1 hP1 ⊢
    have hle : ∀ (k9 : Nat) (x : Nat × va_E), W1[k9]? = some x → x.1 ≤ H.size := fun k9 x hx => by
      rw [← hW1] at hx
      by_cases hl : k9 < (X ++ va_pl L f).length
      · rw [List.getElem?_append_left hl] at hx
        exact Nat.le_of_lt ((hP k9 x hx).lt)
      · rw [List.getElem?_append_right (by omega)] at hx
        have h0 : k9 - (X ++ va_pl L f).length < 1 := (List.getElem?_eq_some_iff.mp hx).1
        rw [show k9 - (X ++ va_pl L f).length = 0 by omega] at hx
        cases hx
        exact Nat.le_refl _
    have hr : ∀ (k9 : Nat) (x : Nat × va_E), (((List.range n.toNatClampNeg).map (fun i => H.size + 1 + i)).map (fun a => ((a, .inl (cy, z)) : Nat × va_E)))[k9]? = some x → x.1 = H.size + 1 + k9 := fun k9 x hx => by
      rw [List.getElem?_map, List.getElem?_map] at hx
      by_cases h9 : k9 < n.toNatClampNeg
      · rw [List.getElem?_range h9] at hx
        cases hx
        rfl
      · have hn0 : (List.range n.toNatClampNeg)[k9]? = none := List.getElem?_eq_none (by rw [List.length_range]; omega)
        rw [hn0] at hx
        cases hx
    refine ⟨fun i j x y hi hj hxy => ?_, fun k9 x hx => ?_⟩
    · by_cases h1 : i < W1.length <;> by_cases h2 : j < W1.length
      · rw [List.getElem?_append_left h1] at hi
        rw [List.getElem?_append_left h2] at hj
        exact hD1.1 i j x y hi hj hxy
      · rw [List.getElem?_append_left h1] at hi
        rw [List.getElem?_append_right (by omega)] at hj
        have := hle _ _ hi
        have := hr _ _ hj
        omega
      · rw [List.getElem?_append_right (by omega)] at hi
        rw [List.getElem?_append_left h2] at hj
        have := hle _ _ hj
        have := hr _ _ hi
        omega
      · rw [List.getElem?_append_right (by omega)] at hi hj
        have := hr _ _ hi
        have := hr _ _ hj
        omega
    · by_cases h1 : k9 < W1.length
      · rw [List.getElem?_append_left h1] at hx
        exact hD1.2 k9 x hx
      · rw [List.getElem?_append_right (by omega)] at hx
        have := hr _ _ hx
        exact hA _ (by have := hS.1; omega)
  have hAr : ArrOfT s cA (.array ty) := fun N9 z9 => by
    obtain ⟨-, k9, hk9, cm9, hkk9⟩ := (hO 0 0 0).1
    exact ⟨(fun q hq => by cases hq), k9, hk9, cm9, hkk9⟩
  have hK2 : va_K D cl (tys ++ [(cA, .array ty)]) s := ⟨hK.1, fun k9 x hx => by
    by_cases hl : k9 < tys.length
    · rw [List.getElem?_append_left hl] at hx
      exact hK.2 k9 x hx
    · rw [List.getElem?_append_right (by omega)] at hx
      have h0 : k9 - tys.length < 1 := (List.getElem?_eq_some_iff.mp hx).1
      rw [show k9 - tys.length = 0 by omega] at hx
      cases hx
      exact ⟨hAr, fA⟩⟩
  obtain ⟨t, a1, b1⟩ := kk H.size (fun i => H.size + 1 + i) cA F.heap (fun i j _ _ h => by have h9 : H.size + 1 + i = H.size + 1 + j := h; omega) hnl hK2 (by rw [← vr_rows hnm]; exact vr_lay hP2) (by rw [← vr_rows hnm]; exact vr_layD hD2) ⟨by rw [f1]; have := hS.1; omega, fun x h1 h2 => (hold x (Nat.lt_of_lt_of_le h1 hS.1)).trans (hS.2.1 x h1 h2), hS.2.2⟩ F rfl X'
  refine ⟨t, step t ?_, b1⟩
  have e : T.heap.size = H.size := by rw [hT]
  rw [e]
  exact a1
end VGM
/-! ===== END ===== -/
/-! ===== BEGIN a private method of a nest mate that may throw (follows va_callVN, va_callSN, va_runVN, va_runSN) ===== -/
section
variable {p : Program} {l : Launch} {e : Env} {R : Room} {s : State} {m : MethodId} {args : Array Value} {below : List Frame} {meth : Method} {c : Code} {H : Heap} {locs : List Loc} {cells slots : Nat}
variable {T : State}
theorem vx_callVN (X : Stand p l e R s m args below meth c T locs cells slots) (hexec : p.tables.exec = Jvm.exec) {own C : String} {index : Nat} {host : String} {y : MethodName} {bytes : ByteArray} {maxL : Nat} {ret : Option FieldType}
    (hown : s.vm.findClass own = some m.cls) (hlink : (Cond.methodLinkNest own index y host).before args s = true) (hinst : (Cond.instanceMethod y).before args s = true) (hsel : (Cond.selects C y y).before args s = true)
    (hcode : (Cond.code y bytes maxL ret).before args s = true) (hy : y.cls ≠ "java/lang/invoke/MethodHandle" ∧ y.cls ≠ "java/lang/invoke/VarHandle")
    {W : Nat} {Pre : Pt → Array Value → Prop} {Post : Pt → Array Value → Option Value → Pt → Prop} {PostX : Pt → Array Value → Addr → Pt → Prop} (hK : vx_Back l R p e below s args y 3 W Pre Post PostX)
    {b : Addr} {cellB : Cell} (hcell : T.heap[b]? = some cellB) (hobj : cellB.vm.isStatics = false) (hcls : s.vm.findClass C = some cellB.cls)
    {g : JFrame} (hg : g.method = m) (hsize : g.locals.size = c.maxLocals) {argsL rest : List Value} (hlen : ∀ sig, parseMethodDescriptor y.desc = some sig → argsL.length = sig.parameters.length)
    (hstack : g.stack = argsL.reverse ++ .ref b :: rest) (hW : 2 * g.monitorRoom + (rest.map fun v => v.category).sum ≤ W) (hdg : decode c.code g.pc = .ok (.invokevirtual index, 3))
    (hpre : ∀ vm₁, s.WarmedH vm₁ → Pre ⟨T.setVm vm₁, locs, cells, slots⟩ (Value.ref b :: argsL).toArray) :
    (∃ (v : Option Value) (vm₁ : Vm) (B : Pt), s.WarmedH vm₁ ∧ Stand p l e R s m args below meth c B.U B.locs B.cells B.slots ∧ Post ⟨T.setVm vm₁, locs, cells, slots⟩ (Value.ref b :: argsL).toArray v B ∧
      ∀ target, Steps p.tables e below (B.U.setTop { g with pc := g.pc + 3, stack := v.toList ++ rest }) target → Steps p.tables e below (T.setTop g) target) ∨
    (∃ (q : Addr) (vm₁ : Vm) (B : Pt), s.WarmedH vm₁ ∧ Stand p l e R s m args below meth c B.U B.locs B.cells B.slots ∧ PostX ⟨T.setVm vm₁, locs, cells, slots⟩ (Value.ref b :: argsL).toArray q B ∧
      Steps p.tables e below (T.setTop g) ((B.U.setTop { g with stack := rest }).pushFrame (.throwing q))) := by
  obtain ⟨mk, methM, hnamed, hmethM, hstM, habM⟩ := Cond.instanceMethod_spec hinst
  obtain ⟨methM', cM, hmethM', -, -, -, -, -, -, hsigM⟩ := Cond.code_spec hnamed hcode
  cases hmethM.symm.trans hmethM'
  obtain ⟨c2, r2, m2, q1, q2, q3, q4, kP, hkP, hkPi⟩ := Cond.selects_spec hsel
  cases hcls.symm.trans q1
  cases (State.methodFound?_of_named hnamed hy).symm.trans q2
  cases hnamed.symm.trans q3
  have hselP : selectMethod e.platform s.vm cellB.cls mk = .method mk := by rw [Launch.admits_selectMethod X.admits]; exact q4
  obtain ⟨vm₁, X₁, hstep₁⟩ := X.invokevirtualNest hexec hown hlink hnamed hmethM hstM hkP hkPi hy (a := b) (cell := cellB) hcell
    (fun z h => by rw [h] at hobj; cases hobj) hselP hmethM habM hkP hkPi (g := g) hg (argsL := argsL) (rest := rest) (hlen _ hsigM) hstack hdg
  rcases hK m meth c ⟨T.setVm vm₁, locs, cells, slots⟩ { g with stack := rest } (.invokevirtual index) mk (Value.ref b :: argsL).toArray X₁ hg hsize hdg hW (X₁.named hnamed) (hpre vm₁ X₁.warmed) with ⟨v, B, X', hpost, hsteps⟩ | ⟨q, B, X', hpost, hsteps⟩
  · exact Or.inl ⟨v, vm₁, B, X₁.warmed, X', hpost, fun target h => hstep₁ _ fun acts => by rw [doInvoke_state]; exact hsteps.trans h⟩
  · exact Or.inr ⟨q, vm₁, B, X₁.warmed, X', hpost, hstep₁ _ fun acts => by rw [doInvoke_state]; exact hsteps⟩
theorem vx_callSN (X : Stand p l e R s m args below meth c T locs cells slots) (hexec : p.tables.exec = Jvm.exec) {own : String} {index : Nat} {host : String} {y : MethodName} {bytes : ByteArray} {maxL : Nat} {ret : Option FieldType}
    (hown : s.vm.findClass own = some m.cls) (hlink : (Cond.methodLinkNest own index y host).before args s = true) (hstat : (Cond.static y).before args s = true) (hinit : (Cond.initialized y.cls).before args s = true)
    (hcode : (Cond.code y bytes maxL ret).before args s = true) (hy : y.cls ≠ "java/lang/invoke/MethodHandle" ∧ y.cls ≠ "java/lang/invoke/VarHandle")
    {W : Nat} {Pre : Pt → Array Value → Prop} {Post : Pt → Array Value → Option Value → Pt → Prop} {PostX : Pt → Array Value → Addr → Pt → Prop} (hK : vx_Back l R p e below s args y 3 W Pre Post PostX)
    {g : JFrame} (hg : g.method = m) (hsize : g.locals.size = c.maxLocals) {argsL rest : List Value} (hlen : ∀ sig, parseMethodDescriptor y.desc = some sig → argsL.length = sig.parameters.length)
    (hstack : g.stack = argsL.reverse ++ rest) (hW : 2 * g.monitorRoom + (rest.map fun v => v.category).sum ≤ W) (hdg : decode c.code g.pc = .ok (.invokestatic index, 3))
    (hpre : ∀ vm₁, s.WarmedH vm₁ → Pre ⟨T.setVm vm₁, locs, cells, slots⟩ argsL.toArray) :
    (∃ (v : Option Value) (vm₁ : Vm) (B : Pt), s.WarmedH vm₁ ∧ Stand p l e R s m args below meth c B.U B.locs B.cells B.slots ∧ Post ⟨T.setVm vm₁, locs, cells, slots⟩ argsL.toArray v B ∧
      ∀ target, Steps p.tables e below (B.U.setTop { g with pc := g.pc + 3, stack := v.toList ++ rest }) target → Steps p.tables e below (T.setTop g) target) ∨
    (∃ (q : Addr) (vm₁ : Vm) (B : Pt), s.WarmedH vm₁ ∧ Stand p l e R s m args below meth c B.U B.locs B.cells B.slots ∧ PostX ⟨T.setVm vm₁, locs, cells, slots⟩ argsL.toArray q B ∧
      Steps p.tables e below (T.setTop g) ((B.U.setTop { g with stack := rest }).pushFrame (.throwing q))) := by
  obtain ⟨mk, hnamed⟩ := Cond.code_named hcode
  obtain ⟨methM, cM, hmethM, -, -, -, -, -, -, hsigM⟩ := Cond.code_spec hnamed hcode
  have hstatic : methM.isStatic = true := Cond.static_spec hnamed hmethM hstat
  obtain ⟨kP, hkP, -⟩ := className_of_methodNamed hnamed
  have hinitP : kP.init = .initialized := Cond.initialized_spec (findClass_of_methodNamed hnamed) hkP hinit
  obtain ⟨vm₁, X₁, hstep₁⟩ := X.invokestaticNest hexec hown hlink hnamed hmethM hstatic hkP hinitP hy (g := g) hg (argsL := argsL) (rest := rest) (hlen _ hsigM) hstack hdg
  rcases hK m meth c ⟨T.setVm vm₁, locs, cells, slots⟩ { g with stack := rest } (.invokestatic index) mk argsL.toArray X₁ hg hsize hdg hW (X₁.named hnamed) (hpre vm₁ X₁.warmed) with ⟨v, B, X', hpost, hsteps⟩ | ⟨q, B, X', hpost, hsteps⟩
  · exact Or.inl ⟨v, vm₁, B, X₁.warmed, X', hpost, fun target h => hstep₁ _ fun acts => by rw [doInvoke_state]; exact hsteps.trans h⟩
  · exact Or.inr ⟨q, vm₁, B, X₁.warmed, X', hpost, hstep₁ _ fun acts => by rw [doInvoke_state]; exact hsteps⟩
theorem vx_runVN {y : MethodName} {bytes cc : ByteArray} {maxL nL mc ms n index : Nat} {ret : Option FieldType} {ws : List Cond} {rm : Room} {Pc : Array Value → State → Prop} {Qc : Array Value → State → Outcome → State → Prop} {XC : String → State → State → Prop} {free : Addr → Prop} {Ts : List Cond} {own C host : String} {b : Addr} {As rest : List Value} {g : JFrame}
    (S : CallFix p m c cc nL s args Ts own) (hM : vx_Met l y ws rm Pc Qc XC mc ms free) (cw : va_CN R s args own index y host bytes maxL ret ws rm mc ms n ∧ (Cond.instanceMethod y).before args s = true ∧ (Cond.selects C y y).before args s = true) (hp : PreV s H C b Pc As)
    (hg : g.method = m) (hn : As.length = n) (hsize : g.locals.size = nL) (hstack : g.stack = As.reverse ++ .ref b :: rest) (hW : 2 * g.monitorRoom + (rest.map fun v => v.category).sum ≤ 8) (hdg : decode cc g.pc = .ok (.invokevirtual index, 3)) (hf : cells + mc ≤ R.cells ∧ slots + ms ≤ R.slots) :
    vx_Run p l e R s m args below meth c H locs cells slots mc ms g rest (Qc (Value.ref b :: As).toArray) XC free := by
  obtain ⟨⟨⟨hrc, hrs, hfr, hlo, hws, hcw⟩, hcode, hini, hy, hlen, hl⟩, hx1, hx2⟩ := cw
  have hK : vx_Back l R p e below s args y 3 8 (PreOf R mc ms Pc) (PostOf Qc mc ms free) (vx_Post XC mc ms free) := vx_back (bytes := bytes) (maxL := maxL) (ret := ret) hM hp.1 hrc hrs hfr hlo hws hcw (fun a' U hW => word_at hW (Or.inl (by first | rfl | simp [Cond.onTables, Cond.keeps, Cond.steady])) hini)
  obtain ⟨hx, hb, hml, ho, -⟩ := S
  obtain ⟨-, ⟨cellB, hcB, hoB, hclB⟩, hPc⟩ := hp
  intro T hT X
  rcases vx_callVN X hx (C := C) (bytes := bytes) (maxL := maxL) (ret := ret) ho hl hx1 hx2 hcode hy hK (by rw [hT]; exact hcB) hoB hclB hg (hsize.trans hml.symm) (argsL := As) (rest := rest) (fun sig h => hn.trans (hlen sig h)) hstack hW (by rw [hb]; exact hdg)
    (fun vm₁ hW₁ => ⟨hf.1, hf.2, hPc (T.setVm vm₁) hT hW₁⟩) with ⟨v, vm₁, ⟨U', l2, c2, s2⟩, hW₁, X', ⟨g', mk, t, L, e1, e2, hq, h1, hL, h2, h3⟩, st⟩ | ⟨q, vm₁, ⟨U', l2, c2, s2⟩, hW₁, X', ⟨g', mk, t, L, E, ce, e1, e2, hq, hce, hcv, hcl, h1, hL, h2, h3⟩, st⟩
  · dsimp only [Pt.U, Pt.locs, Pt.cells, Pt.slots] at X' e1 e2 h1 h2 h3 st
    subst h1; subst h2; subst h3
    exact Or.inl ⟨v, (T.setVm vm₁).calling g' mk (Value.ref b :: As).toArray, t, U', L, hT, X', hL, e1, e2, hq, st⟩
  · dsimp only [Pt.U, Pt.locs, Pt.cells, Pt.slots] at X' e1 e2 h1 h2 h3 st hcl
    subst h1; subst h2; subst h3
    exact Or.inr ⟨q, (T.setVm vm₁).calling g' mk (Value.ref b :: As).toArray, t, U', L, E, ce, hT, X', hL, e1, e2, hq, hce, hcv, vx_cls hW₁ hcl, st⟩
theorem vx_runSN {y : MethodName} {bytes cc : ByteArray} {maxL nL mc ms n index : Nat} {ret : Option FieldType} {ws : List Cond} {rm : Room} {Pc : Array Value → State → Prop} {Qc : Array Value → State → Outcome → State → Prop} {XC : String → State → State → Prop} {free : Addr → Prop} {Ts : List Cond} {own host : String} {As rest : List Value} {g : JFrame}
    (S : CallFix p m c cc nL s args Ts own) (hM : vx_Met l y ws rm Pc Qc XC mc ms free) (cw : va_CN R s args own index y host bytes maxL ret ws rm mc ms n ∧ (Cond.static y).before args s = true ∧ True) (hp : PreS s H Pc As)
    (hg : g.method = m) (hn : As.length = n) (hsize : g.locals.size = nL) (hstack : g.stack = As.reverse ++ rest) (hW : 2 * g.monitorRoom + (rest.map fun v => v.category).sum ≤ 8) (hdg : decode cc g.pc = .ok (.invokestatic index, 3)) (hf : cells + mc ≤ R.cells ∧ slots + ms ≤ R.slots) :
    vx_Run p l e R s m args below meth c H locs cells slots mc ms g rest (Qc As.toArray) XC free := by
  obtain ⟨⟨⟨hrc, hrs, hfr, hlo, hws, hcw⟩, hcode, hini, hy, hlen, hl⟩, hx1, hx2⟩ := cw
  have hK : vx_Back l R p e below s args y 3 8 (PreOf R mc ms Pc) (PostOf Qc mc ms free) (vx_Post XC mc ms free) := vx_back (bytes := bytes) (maxL := maxL) (ret := ret) hM hp.1 hrc hrs hfr hlo hws hcw (fun a' U hW => word_at hW (Or.inl (by first | rfl | simp [Cond.onTables, Cond.keeps, Cond.steady])) hini)
  obtain ⟨hx, hb, hml, ho, -⟩ := S
  have hPc := hp.2
  intro T hT X
  rcases vx_callSN X hx (bytes := bytes) (maxL := maxL) (ret := ret) ho hl hx1 hini hcode hy hK hg (hsize.trans hml.symm) (argsL := As) (rest := rest) (fun sig h => hn.trans (hlen sig h)) hstack hW (by rw [hb]; exact hdg)
    (fun vm₁ hW₁ => ⟨hf.1, hf.2, hPc (T.setVm vm₁) hT hW₁⟩) with ⟨v, vm₁, ⟨U', l2, c2, s2⟩, hW₁, X', ⟨g', mk, t, L, e1, e2, hq, h1, hL, h2, h3⟩, st⟩ | ⟨q, vm₁, ⟨U', l2, c2, s2⟩, hW₁, X', ⟨g', mk, t, L, E, ce, e1, e2, hq, hce, hcv, hcl, h1, hL, h2, h3⟩, st⟩
  · dsimp only [Pt.U, Pt.locs, Pt.cells, Pt.slots] at X' e1 e2 h1 h2 h3 st
    subst h1; subst h2; subst h3
    exact Or.inl ⟨v, (T.setVm vm₁).calling g' mk As.toArray, t, U', L, hT, X', hL, e1, e2, hq, st⟩
  · dsimp only [Pt.U, Pt.locs, Pt.cells, Pt.slots] at X' e1 e2 h1 h2 h3 st hcl
    subst h1; subst h2; subst h3
    exact Or.inr ⟨q, (T.setVm vm₁).calling g' mk As.toArray, t, U', L, E, ce, hT, X', hL, e1, e2, hq, hce, hcv, vx_cls hW₁ hcl, st⟩
end
/-! ===== END ===== -/
end
section
def RX0 : String := "OrderAssembler$Allocation"
def TX0 : u_T := fun k => match k with
  | 0 => ("OrderAssembler$Allocation", "left", "[I", true)
  | 1 => ("OrderAssembler$Allocation", "quotas", "[I", true)
  | 2 => ("OrderAssembler$Allocation", "turns", "[I", true)
  | 3 => ("OrderAssembler$Allocation", "grants", "[I", true)
  | 4 => ("OrderAssembler$Allocation", "firstRungs", "[I", true)
  | _ => ("OrderAssembler$Allocation", "rungSums", "[I", true)
def tyX0 : Nat → FieldType := fun k => match k with
  | 0 => .array .int
  | 1 => .array .int
  | 2 => .array .int
  | 3 => .array .int
  | 4 => .array .int
  | _ => .array .int
abbrev wsX00 : List Cond := u_ws RX0 TX0 6
theorem nmX0 : ∀ a, a < 6 → ∀ b, b < 6 → a ≠ b → (TX0 a).2.1 ≠ (TX0 b).2.1 := by decide +kernel
theorem tyX0_ok : ∀ k, k < 6 → parseFieldDescriptor (TX0 k).2.2.1 = some (tyX0 k) := by decide +kernel
abbrev cX0_init : ByteArray := prog_2_method_1_code
def yX0_init : MethodName := ⟨RX0, "<init>", "()V"⟩
abbrev cX0_tryOut : ByteArray := prog_2_method_2_code
def yX0_tryOut : MethodName := ⟨RX0, "tryOut", "(LOrderAssembler$Catalog;LOrderAssembler$Ledger;)V"⟩
abbrev cX0_begin : ByteArray := prog_2_method_3_code
def yX0_begin : MethodName := ⟨RX0, "begin", "(LOrderAssembler$Ledger;)V"⟩
abbrev cX0_setQuotas : ByteArray := prog_2_method_4_code
def yX0_setQuotas : MethodName := ⟨RX0, "setQuotas", "(I)V"⟩
abbrev cX0_serve : ByteArray := prog_2_method_5_code
def yX0_serve : MethodName := ⟨RX0, "serve", "(LOrderAssembler$Catalog;LOrderAssembler$OrderBook;II)V"⟩
abbrev cX0_grantOf : ByteArray := prog_2_method_6_code
def yX0_grantOf : MethodName := ⟨RX0, "grantOf", "(I)I"⟩
abbrev cX0_firstRungOf : ByteArray := prog_2_method_7_code
def yX0_firstRungOf : MethodName := ⟨RX0, "firstRungOf", "(I)I"⟩
abbrev cX0_unitsInRung : ByteArray := prog_2_method_8_code
def yX0_unitsInRung : MethodName := ⟨RX0, "unitsInRung", "(I)I"⟩
abbrev cX0_coveredSet : ByteArray := prog_2_method_9_code
def yX0_coveredSet : MethodName := ⟨RX0, "coveredSet", "(LOrderAssembler$Catalog;LOrderAssembler$Ledger;)I"⟩
def RX1 : String := "OrderAssembler$Catalog"
def TX1 : u_T := fun k => match k with
  | 0 => ("OrderAssembler$Catalog", "partCount", "I", false)
  | 1 => ("OrderAssembler$Catalog", "productCount", "I", false)
  | 2 => ("OrderAssembler$Catalog", "rungCount", "I", false)
  | 3 => ("OrderAssembler$Catalog", "partNames", "[J", true)
  | 4 => ("OrderAssembler$Catalog", "leadTimes", "[I", true)
  | 5 => ("OrderAssembler$Catalog", "productNames", "[J", true)
  | 6 => ("OrderAssembler$Catalog", "levels", "[I", true)
  | 7 => ("OrderAssembler$Catalog", "lineCounts", "[I", true)
  | 8 => ("OrderAssembler$Catalog", "items", "[[I", true)
  | 9 => ("OrderAssembler$Catalog", "quantities", "[[I", true)
  | 10 => ("OrderAssembler$Catalog", "needs", "[[I", true)
  | 11 => ("OrderAssembler$Catalog", "lowest", "[I", true)
  | 12 => ("OrderAssembler$Catalog", "highest", "[I", true)
  | _ => ("OrderAssembler$Catalog", "shares", "[I", true)
def tyX1 : Nat → FieldType := fun k => match k with
  | 0 => .int
  | 1 => .int
  | 2 => .int
  | 3 => .array .long
  | 4 => .array .int
  | 5 => .array .long
  | 6 => .array .int
  | 7 => .array .int
  | 8 => .array (.array .int)
  | 9 => .array (.array .int)
  | 10 => .array (.array .int)
  | 11 => .array .int
  | 12 => .array .int
  | _ => .array .int
abbrev wsX10 : List Cond := u_ws RX1 TX1 14
theorem nmX1 : ∀ a, a < 14 → ∀ b, b < 14 → a ≠ b → (TX1 a).2.1 ≠ (TX1 b).2.1 := by decide +kernel
theorem tyX1_ok : ∀ k, k < 14 → parseFieldDescriptor (TX1 k).2.2.1 = some (tyX1 k) := by decide +kernel
abbrev cX1_init : ByteArray := prog_3_method_1_code
def yX1_init : MethodName := ⟨RX1, "<init>", "()V"⟩
abbrev cX1_clear : ByteArray := prog_3_method_2_code
def yX1_clear : MethodName := ⟨RX1, "clear", "()V"⟩
abbrev cX1_addPart : ByteArray := prog_3_method_3_code
def yX1_addPart : MethodName := ⟨RX1, "addPart", "(JI)V"⟩
abbrev cX1_addRung : ByteArray := prog_3_method_4_code
def yX1_addRung : MethodName := ⟨RX1, "addRung", "(III)V"⟩
abbrev cX1_beginProduct : ByteArray := prog_3_method_5_code
def yX1_beginProduct : MethodName := ⟨RX1, "beginProduct", "(J)V"⟩
abbrev cX1_linesOfBegun : ByteArray := prog_3_method_6_code
def yX1_linesOfBegun : MethodName := ⟨RX1, "linesOfBegun", "()I"⟩
abbrev cX1_begunHas : ByteArray := prog_3_method_7_code
def yX1_begunHas : MethodName := ⟨RX1, "begunHas", "(I)Z"⟩
abbrev cX1_begunCanHold : ByteArray := prog_3_method_8_code
def yX1_begunCanHold : MethodName := ⟨RX1, "begunCanHold", "(II)Z"⟩
abbrev cX1_addLine : ByteArray := prog_3_method_9_code
def yX1_addLine : MethodName := ⟨RX1, "addLine", "(II)V"⟩
abbrev cX1_needWith : ByteArray := prog_3_method_10_code
def yX1_needWith : MethodName := ⟨RX1, "needWith", "(III)I"⟩
abbrev cX1_endProduct : ByteArray := prog_3_method_11_code
def yX1_endProduct : MethodName := ⟨RX1, "endProduct", "()V"⟩
abbrev cX1_partNamed : ByteArray := prog_3_method_12_code
def yX1_partNamed : MethodName := ⟨RX1, "partNamed", "(J)I"⟩
abbrev cX1_productNamed : ByteArray := prog_3_method_13_code
def yX1_productNamed : MethodName := ⟨RX1, "productNamed", "(J)I"⟩
abbrev cX1_itemNamed : ByteArray := prog_3_method_14_code
def yX1_itemNamed : MethodName := ⟨RX1, "itemNamed", "(J)I"⟩
abbrev cX1_partName : ByteArray := prog_3_method_15_code
def yX1_partName : MethodName := ⟨RX1, "partName", "(I)J"⟩
abbrev cX1_productName : ByteArray := prog_3_method_16_code
def yX1_productName : MethodName := ⟨RX1, "productName", "(I)J"⟩
abbrev cX1_leadTimeOf : ByteArray := prog_3_method_17_code
def yX1_leadTimeOf : MethodName := ⟨RX1, "leadTimeOf", "(I)I"⟩
abbrev cX1_linesOf : ByteArray := prog_3_method_18_code
def yX1_linesOf : MethodName := ⟨RX1, "linesOf", "(I)I"⟩
abbrev cX1_itemOf : ByteArray := prog_3_method_19_code
def yX1_itemOf : MethodName := ⟨RX1, "itemOf", "(II)I"⟩
abbrev cX1_quantityOf : ByteArray := prog_3_method_20_code
def yX1_quantityOf : MethodName := ⟨RX1, "quantityOf", "(II)I"⟩
abbrev cX1_levelOf : ByteArray := prog_3_method_21_code
def yX1_levelOf : MethodName := ⟨RX1, "levelOf", "(I)I"⟩
abbrev cX1_needOf : ByteArray := prog_3_method_22_code
def yX1_needOf : MethodName := ⟨RX1, "needOf", "(II)I"⟩
abbrev cX1_rungTakes : ByteArray := prog_3_method_23_code
def yX1_rungTakes : MethodName := ⟨RX1, "rungTakes", "(II)Z"⟩
abbrev cX1_shareOf : ByteArray := prog_3_method_24_code
def yX1_shareOf : MethodName := ⟨RX1, "shareOf", "(I)I"⟩
abbrev cX1_tightestPart : ByteArray := prog_3_method_25_code
def yX1_tightestPart : MethodName := ⟨RX1, "tightestPart", "(I[I)I"⟩
abbrev cX1_mostUnits : ByteArray := prog_3_method_26_code
def yX1_mostUnits : MethodName := ⟨RX1, "mostUnits", "(I[I)I"⟩
abbrev cX1_takePieces : ByteArray := prog_3_method_27_code
def yX1_takePieces : MethodName := ⟨RX1, "takePieces", "(II[I)V"⟩
abbrev cX1_mostTogether : ByteArray := prog_3_method_28_code
def yX1_mostTogether : MethodName := ⟨RX1, "mostTogether", "(II[I)I"⟩
abbrev cX1_oneMoreGains : ByteArray := prog_3_method_29_code
def yX1_oneMoreGains : MethodName := ⟨RX1, "oneMoreGains", "(II[II)Z"⟩
abbrev cX1_limitingPart : ByteArray := prog_3_method_30_code
def yX1_limitingPart : MethodName := ⟨RX1, "limitingPart", "(II[II)I"⟩
abbrev cX1_leftAfter : ByteArray := prog_3_method_31_code
def yX1_leftAfter : MethodName := ⟨RX1, "leftAfter", "(I[III)J"⟩
def RX2 : String := "OrderAssembler$FormattedText"
def TX2 : u_T := fun k => match k with
  | 0 => ("OrderAssembler$FormattedText", "length", "I", false)
  | _ => ("OrderAssembler$FormattedText", "bytes", "[B", true)
def tyX2 : Nat → FieldType := fun k => match k with
  | 0 => .int
  | _ => .array .byte
abbrev wsX20 : List Cond := u_ws RX2 TX2 2
theorem nmX2 : ∀ a, a < 2 → ∀ b, b < 2 → a ≠ b → (TX2 a).2.1 ≠ (TX2 b).2.1 := by decide +kernel
theorem tyX2_ok : ∀ k, k < 2 → parseFieldDescriptor (TX2 k).2.2.1 = some (tyX2 k) := by decide +kernel
abbrev cX2_init : ByteArray := prog_4_method_1_code
def yX2_init : MethodName := ⟨RX2, "<init>", "()V"⟩
abbrev cX2_begin : ByteArray := prog_4_method_2_code
def yX2_begin : MethodName := ⟨RX2, "begin", "(J)V"⟩
abbrev cX2_byteAt : ByteArray := prog_4_method_3_code
def yX2_byteAt : MethodName := ⟨RX2, "byteAt", "(I)I"⟩
abbrev cX2_put : ByteArray := prog_4_method_4_code
def yX2_put : MethodName := ⟨RX2, "put", "(I)V"⟩
abbrev cX2_putName : ByteArray := prog_4_method_5_code
def yX2_putName : MethodName := ⟨RX2, "putName", "(J)V"⟩
abbrev cX2_putText : ByteArray := prog_4_method_6_code
def yX2_putText : MethodName := ⟨RX2, "putText", "(Ljava/lang/String;)V"⟩
abbrev cX2_putNumbered : ByteArray := prog_4_method_7_code
def yX2_putNumbered : MethodName := ⟨RX2, "putNumbered", "(Ljava/lang/String;I)V"⟩
def RX3 : String := "OrderAssembler$History"
def TX3 : u_T := fun k => match k with
  | 0 => ("OrderAssembler$History", "depth", "I", false)
  | 1 => ("OrderAssembler$History", "next", "I", false)
  | _ => ("OrderAssembler$History", "ring", "[LOrderAssembler$Ledger;", true)
def tyX3 : Nat → FieldType := fun k => match k with
  | 0 => .int
  | 1 => .int
  | _ => .array (.object "OrderAssembler$Ledger")
abbrev wsX30 : List Cond := u_ws RX3 TX3 3
theorem nmX3 : ∀ a, a < 3 → ∀ b, b < 3 → a ≠ b → (TX3 a).2.1 ≠ (TX3 b).2.1 := by decide +kernel
theorem tyX3_ok : ∀ k, k < 3 → parseFieldDescriptor (TX3 k).2.2.1 = some (tyX3 k) := by decide +kernel
abbrev cX3_init : ByteArray := prog_5_method_1_code
def yX3_init : MethodName := ⟨RX3, "<init>", "()V"⟩
abbrev cX3_forget : ByteArray := prog_5_method_2_code
def yX3_forget : MethodName := ⟨RX3, "forget", "()V"⟩
abbrev cX3_record : ByteArray := prog_5_method_3_code
def yX3_record : MethodName := ⟨RX3, "record", "(LOrderAssembler$Ledger;)V"⟩
abbrev cX3_takeBack : ByteArray := prog_5_method_4_code
def yX3_takeBack : MethodName := ⟨RX3, "takeBack", "(LOrderAssembler$Ledger;)Z"⟩
def RX4 : String := "OrderAssembler$InputText"
def TX4 : u_T := fun k => match k with
  | 0 => ("OrderAssembler$InputText", "length", "I", false)
  | _ => ("OrderAssembler$InputText", "bytes", "[B", true)
def tyX4 : Nat → FieldType := fun k => match k with
  | 0 => .int
  | _ => .array .byte
abbrev wsX40 : List Cond := u_ws RX4 TX4 2
theorem nmX4 : ∀ a, a < 2 → ∀ b, b < 2 → a ≠ b → (TX4 a).2.1 ≠ (TX4 b).2.1 := by decide +kernel
theorem tyX4_ok : ∀ k, k < 2 → parseFieldDescriptor (TX4 k).2.2.1 = some (tyX4 k) := by decide +kernel
abbrev cX4_init : ByteArray := prog_6_method_1_code
def yX4_init : MethodName := ⟨RX4, "<init>", "()V"⟩
abbrev cX4_hasRoomFor : ByteArray := prog_6_method_2_code
def yX4_hasRoomFor : MethodName := ⟨RX4, "hasRoomFor", "(I)Z"⟩
abbrev cX4_putWord : ByteArray := prog_6_method_3_code
def yX4_putWord : MethodName := ⟨RX4, "putWord", "(I)V"⟩
abbrev cX4_shorten : ByteArray := prog_6_method_4_code
def yX4_shorten : MethodName := ⟨RX4, "shorten", "(I)Z"⟩
abbrev cX4_signAt : ByteArray := prog_6_method_5_code
def yX4_signAt : MethodName := ⟨RX4, "signAt", "(I)I"⟩
def RX5 : String := "OrderAssembler$Ledger"
def TX5 : u_T := fun k => match k with
  | 0 => ("OrderAssembler$Ledger", "warehouse", "LOrderAssembler$Warehouse;", true)
  | 1 => ("OrderAssembler$Ledger", "orders", "LOrderAssembler$OrderBook;", true)
  | _ => ("OrderAssembler$Ledger", "log", "LOrderAssembler$ShipmentLog;", true)
def tyX5 : Nat → FieldType := fun k => match k with
  | 0 => .object "OrderAssembler$Warehouse"
  | 1 => .object "OrderAssembler$OrderBook"
  | _ => .object "OrderAssembler$ShipmentLog"
abbrev wsX50 : List Cond := u_ws RX5 TX5 3
theorem nmX5 : ∀ a, a < 3 → ∀ b, b < 3 → a ≠ b → (TX5 a).2.1 ≠ (TX5 b).2.1 := by decide +kernel
theorem tyX5_ok : ∀ k, k < 3 → parseFieldDescriptor (TX5 k).2.2.1 = some (tyX5 k) := by decide +kernel
abbrev cX5_init : ByteArray := prog_7_method_1_code
def yX5_init : MethodName := ⟨RX5, "<init>", "()V"⟩
abbrev cX5_clear : ByteArray := prog_7_method_2_code
def yX5_clear : MethodName := ⟨RX5, "clear", "()V"⟩
abbrev cX5_copyFrom : ByteArray := prog_7_method_3_code
def yX5_copyFrom : MethodName := ⟨RX5, "copyFrom", "(LOrderAssembler$Ledger;)V"⟩
abbrev cX5_openPieces : ByteArray := prog_7_method_4_code
def yX5_openPieces : MethodName := ⟨RX5, "openPieces", "(LOrderAssembler$Catalog;I)I"⟩
abbrev cX5_changeReserved : ByteArray := prog_7_method_5_code
def yX5_changeReserved : MethodName := ⟨RX5, "changeReserved", "(LOrderAssembler$Catalog;II)V"⟩
abbrev cX5_sendReserved : ByteArray := prog_7_method_6_code
def yX5_sendReserved : MethodName := ⟨RX5, "sendReserved", "(LOrderAssembler$Catalog;I)I"⟩
abbrev cX5_releaseExcess : ByteArray := prog_7_method_7_code
def yX5_releaseExcess : MethodName := ⟨RX5, "releaseExcess", "(LOrderAssembler$Catalog;I)I"⟩
def RX6 : String := "OrderAssembler$OrderBook"
def TX6 : u_T := fun k => match k with
  | 0 => ("OrderAssembler$OrderBook", "size", "I", false)
  | 1 => ("OrderAssembler$OrderBook", "products", "[I", true)
  | 2 => ("OrderAssembler$OrderBook", "quantities", "[I", true)
  | 3 => ("OrderAssembler$OrderBook", "classes", "[I", true)
  | 4 => ("OrderAssembler$OrderBook", "dues", "[I", true)
  | 5 => ("OrderAssembler$OrderBook", "wholes", "[Z", true)
  | 6 => ("OrderAssembler$OrderBook", "cancellations", "[Z", true)
  | 7 => ("OrderAssembler$OrderBook", "reservations", "[I", true)
  | _ => ("OrderAssembler$OrderBook", "shipped", "[I", true)
def tyX6 : Nat → FieldType := fun k => match k with
  | 0 => .int
  | 1 => .array .int
  | 2 => .array .int
  | 3 => .array .int
  | 4 => .array .int
  | 5 => .array .boolean
  | 6 => .array .boolean
  | 7 => .array .int
  | _ => .array .int
abbrev wsX60 : List Cond := u_ws RX6 TX6 9
theorem nmX6 : ∀ a, a < 9 → ∀ b, b < 9 → a ≠ b → (TX6 a).2.1 ≠ (TX6 b).2.1 := by decide +kernel
theorem tyX6_ok : ∀ k, k < 9 → parseFieldDescriptor (TX6 k).2.2.1 = some (tyX6 k) := by decide +kernel
abbrev cX6_init : ByteArray := prog_8_method_1_code
def yX6_init : MethodName := ⟨RX6, "<init>", "()V"⟩
abbrev cX6_copyFrom : ByteArray := prog_8_method_2_code
def yX6_copyFrom : MethodName := ⟨RX6, "copyFrom", "(LOrderAssembler$OrderBook;)V"⟩
abbrev cX6_enter : ByteArray := prog_8_method_3_code
def yX6_enter : MethodName := ⟨RX6, "enter", "(IIIIZ)I"⟩
abbrev cX6_productOf : ByteArray := prog_8_method_4_code
def yX6_productOf : MethodName := ⟨RX6, "productOf", "(I)I"⟩
abbrev cX6_quantityOf : ByteArray := prog_8_method_5_code
def yX6_quantityOf : MethodName := ⟨RX6, "quantityOf", "(I)I"⟩
abbrev cX6_classOf : ByteArray := prog_8_method_6_code
def yX6_classOf : MethodName := ⟨RX6, "classOf", "(I)I"⟩
abbrev cX6_dueOf : ByteArray := prog_8_method_7_code
def yX6_dueOf : MethodName := ⟨RX6, "dueOf", "(I)I"⟩
abbrev cX6_isWhole : ByteArray := prog_8_method_8_code
def yX6_isWhole : MethodName := ⟨RX6, "isWhole", "(I)Z"⟩
abbrev cX6_reservedOf : ByteArray := prog_8_method_9_code
def yX6_reservedOf : MethodName := ⟨RX6, "reservedOf", "(I)I"⟩
abbrev cX6_shippedOf : ByteArray := prog_8_method_10_code
def yX6_shippedOf : MethodName := ⟨RX6, "shippedOf", "(I)I"⟩
abbrev cX6_openOf : ByteArray := prog_8_method_11_code
def yX6_openOf : MethodName := ⟨RX6, "openOf", "(I)I"⟩
abbrev cX6_stateFor : ByteArray := prog_8_method_12_code
def yX6_stateFor : MethodName := ⟨RX6, "stateFor", "(I)I"⟩
abbrev cX6_mayMove : ByteArray := prog_8_method_13_code
def yX6_mayMove : MethodName := ⟨RX6, "mayMove", "(II)Z"⟩
abbrev cX6_addReserved : ByteArray := prog_8_method_14_code
def yX6_addReserved : MethodName := ⟨RX6, "addReserved", "(II)V"⟩
abbrev cX6_addShipped : ByteArray := prog_8_method_15_code
def yX6_addShipped : MethodName := ⟨RX6, "addShipped", "(II)V"⟩
abbrev cX6_markCancelled : ByteArray := prog_8_method_16_code
def yX6_markCancelled : MethodName := ⟨RX6, "markCancelled", "(I)V"⟩
abbrev cX6_fillTurns : ByteArray := prog_8_method_17_code
def yX6_fillTurns : MethodName := ⟨RX6, "fillTurns", "([I)V"⟩
abbrev cX6_isServedBefore : ByteArray := prog_8_method_18_code
def yX6_isServedBefore : MethodName := ⟨RX6, "isServedBefore", "(II)Z"⟩
abbrev cX6_firstToLose : ByteArray := prog_8_method_19_code
def yX6_firstToLose : MethodName := ⟨RX6, "firstToLose", "(LOrderAssembler$Catalog;I)I"⟩
abbrev cX6_losesBefore : ByteArray := prog_8_method_20_code
def yX6_losesBefore : MethodName := ⟨RX6, "losesBefore", "(II)Z"⟩
def RX7 : String := "OrderAssembler$Parser"
def TX7 : u_T := fun k => match k with
  | 0 => ("OrderAssembler$Parser", "failOffset", "I", false)
  | 1 => ("OrderAssembler$Parser", "failKind", "I", false)
  | 2 => ("OrderAssembler$Parser", "tokens", "LOrderAssembler$Tokens;", true)
  | 3 => ("OrderAssembler$Parser", "catalog", "LOrderAssembler$Catalog;", false)
  | _ => ("OrderAssembler$Parser", "ledger", "LOrderAssembler$Ledger;", false)
def tyX7 : Nat → FieldType := fun k => match k with
  | 0 => .int
  | 1 => .int
  | 2 => .object "OrderAssembler$Tokens"
  | 3 => .object "OrderAssembler$Catalog"
  | _ => .object "OrderAssembler$Ledger"
abbrev wsX70 : List Cond := u_ws RX7 TX7 5
theorem nmX7 : ∀ a, a < 5 → ∀ b, b < 5 → a ≠ b → (TX7 a).2.1 ≠ (TX7 b).2.1 := by decide +kernel
theorem tyX7_ok : ∀ k, k < 5 → parseFieldDescriptor (TX7 k).2.2.1 = some (tyX7 k) := by decide +kernel
abbrev cX7_init : ByteArray := prog_9_method_1_code
def yX7_init : MethodName := ⟨RX7, "<init>", "()V"⟩
abbrev cX7_begin : ByteArray := prog_9_method_2_code
def yX7_begin : MethodName := ⟨RX7, "begin", "()V"⟩
abbrev cX7_hasLine : ByteArray := prog_9_method_3_code
def yX7_hasLine : MethodName := ⟨RX7, "hasLine", "()Z"⟩
abbrev cX7_swapCatalog : ByteArray := prog_9_method_4_code
def yX7_swapCatalog : MethodName := ⟨RX7, "swapCatalog", "(LOrderAssembler$Catalog;)LOrderAssembler$Catalog;"⟩
abbrev cX7_swapLedger : ByteArray := prog_9_method_5_code
def yX7_swapLedger : MethodName := ⟨RX7, "swapLedger", "(LOrderAssembler$Ledger;)LOrderAssembler$Ledger;"⟩
abbrev cX7_readLine : ByteArray := prog_9_method_6_code
def yX7_readLine : MethodName := ⟨RX7, "readLine", "()Z"⟩
abbrev cX7_fail : ByteArray := prog_9_method_7_code
def yX7_fail : MethodName := ⟨RX7, "fail", "(I)Z"⟩
abbrev cX7_readSemicolon : ByteArray := prog_9_method_8_code
def yX7_readSemicolon : MethodName := ⟨RX7, "readSemicolon", "()Z"⟩
abbrev cX7_readPart : ByteArray := prog_9_method_9_code
def yX7_readPart : MethodName := ⟨RX7, "readPart", "()Z"⟩
abbrev cX7_readProduct : ByteArray := prog_9_method_10_code
def yX7_readProduct : MethodName := ⟨RX7, "readProduct", "()Z"⟩
abbrev cX7_readBillLine : ByteArray := prog_9_method_11_code
def yX7_readBillLine : MethodName := ⟨RX7, "readBillLine", "()Z"⟩
abbrev cX7_readRung : ByteArray := prog_9_method_12_code
def yX7_readRung : MethodName := ⟨RX7, "readRung", "()Z"⟩
abbrev cX7_readOrder : ByteArray := prog_9_method_13_code
def yX7_readOrder : MethodName := ⟨RX7, "readOrder", "()Z"⟩
abbrev cX7_isNewName : ByteArray := prog_9_method_14_code
def yX7_isNewName : MethodName := ⟨RX7, "isNewName", "()Z"⟩
abbrev cX7_readNumber : ByteArray := prog_9_method_15_code
def yX7_readNumber : MethodName := ⟨RX7, "readNumber", "(II)I"⟩
def RX8 : String := "OrderAssembler$ShipmentLog"
def TX8 : u_T := fun k => match k with
  | 0 => ("OrderAssembler$ShipmentLog", "totals", "[I", true)
  | 1 => ("OrderAssembler$ShipmentLog", "orders", "[I", true)
  | 2 => ("OrderAssembler$ShipmentLog", "units", "[I", true)
  | _ => ("OrderAssembler$ShipmentLog", "days", "[I", true)
def tyX8 : Nat → FieldType := fun k => match k with
  | 0 => .array .int
  | 1 => .array .int
  | 2 => .array .int
  | _ => .array .int
abbrev wsX80 : List Cond := u_ws RX8 TX8 4
theorem nmX8 : ∀ a, a < 4 → ∀ b, b < 4 → a ≠ b → (TX8 a).2.1 ≠ (TX8 b).2.1 := by decide +kernel
theorem tyX8_ok : ∀ k, k < 4 → parseFieldDescriptor (TX8 k).2.2.1 = some (tyX8 k) := by decide +kernel
abbrev cX8_init : ByteArray := prog_10_method_1_code
def yX8_init : MethodName := ⟨RX8, "<init>", "()V"⟩
abbrev cX8_clear : ByteArray := prog_10_method_2_code
def yX8_clear : MethodName := ⟨RX8, "clear", "()V"⟩
abbrev cX8_copyFrom : ByteArray := prog_10_method_3_code
def yX8_copyFrom : MethodName := ⟨RX8, "copyFrom", "(LOrderAssembler$ShipmentLog;)V"⟩
abbrev cX8_addShipment : ByteArray := prog_10_method_4_code
def yX8_addShipment : MethodName := ⟨RX8, "addShipment", "(IIII)V"⟩
abbrev cX8_addBought : ByteArray := prog_10_method_5_code
def yX8_addBought : MethodName := ⟨RX8, "addBought", "(I)V"⟩
abbrev cX8_totalOf : ByteArray := prog_10_method_6_code
def yX8_totalOf : MethodName := ⟨RX8, "totalOf", "(I)I"⟩
abbrev cX8_entry : ByteArray := prog_10_method_7_code
def yX8_entry : MethodName := ⟨RX8, "entry", "(II)I"⟩
def RX9 : String := "OrderAssembler$Tokens"
def TX9 : u_T := fun k => match k with
  | 0 => ("OrderAssembler$Tokens", "kind", "I", false)
  | 1 => ("OrderAssembler$Tokens", "start", "I", false)
  | 2 => ("OrderAssembler$Tokens", "text", "LOrderAssembler$InputText;", true)
  | _ => ("OrderAssembler$Tokens", "end", "I", false)
def tyX9 : Nat → FieldType := fun k => match k with
  | 0 => .int
  | 1 => .int
  | 2 => .object "OrderAssembler$InputText"
  | _ => .int
abbrev wsX90 : List Cond := u_ws RX9 TX9 4
theorem nmX9 : ∀ a, a < 4 → ∀ b, b < 4 → a ≠ b → (TX9 a).2.1 ≠ (TX9 b).2.1 := by decide +kernel
theorem tyX9_ok : ∀ k, k < 4 → parseFieldDescriptor (TX9 k).2.2.1 = some (tyX9 k) := by decide +kernel
abbrev cX9_init : ByteArray := prog_11_method_1_code
def yX9_init : MethodName := ⟨RX9, "<init>", "()V"⟩
abbrev cX9_restart : ByteArray := prog_11_method_2_code
def yX9_restart : MethodName := ⟨RX9, "restart", "()V"⟩
abbrev cX9_step : ByteArray := prog_11_method_3_code
def yX9_step : MethodName := ⟨RX9, "step", "()V"⟩
abbrev cX9_isSpace : ByteArray := prog_11_method_4_code
def yX9_isSpace : MethodName := ⟨RX9, "isSpace", "(I)Z"⟩
abbrev cX9_kindOf : ByteArray := prog_11_method_5_code
def yX9_kindOf : MethodName := ⟨RX9, "kindOf", "(I)I"⟩
abbrev cX9_isWord : ByteArray := prog_11_method_6_code
def yX9_isWord : MethodName := ⟨RX9, "isWord", "(Ljava/lang/String;)Z"⟩
abbrev cX9_isSemicolon : ByteArray := prog_11_method_7_code
def yX9_isSemicolon : MethodName := ⟨RX9, "isSemicolon", "()Z"⟩
abbrev cX9_isName : ByteArray := prog_11_method_8_code
def yX9_isName : MethodName := ⟨RX9, "isName", "()Z"⟩
abbrev cX9_name : ByteArray := prog_11_method_9_code
def yX9_name : MethodName := ⟨RX9, "name", "()J"⟩
abbrev cX9_value : ByteArray := prog_11_method_10_code
def yX9_value : MethodName := ⟨RX9, "value", "()I"⟩
def RX10 : String := "OrderAssembler$Warehouse"
def TX10 : u_T := fun k => match k with
  | 0 => ("OrderAssembler$Warehouse", "today", "I", false)
  | 1 => ("OrderAssembler$Warehouse", "arrivalCount", "I", false)
  | 2 => ("OrderAssembler$Warehouse", "stocks", "[I", true)
  | 3 => ("OrderAssembler$Warehouse", "reservations", "[I", true)
  | 4 => ("OrderAssembler$Warehouse", "arrivalParts", "[I", true)
  | 5 => ("OrderAssembler$Warehouse", "arrivalPieces", "[I", true)
  | _ => ("OrderAssembler$Warehouse", "arrivalDays", "[I", true)
def tyX10 : Nat → FieldType := fun k => match k with
  | 0 => .int
  | 1 => .int
  | 2 => .array .int
  | 3 => .array .int
  | 4 => .array .int
  | 5 => .array .int
  | _ => .array .int
abbrev wsX100 : List Cond := u_ws RX10 TX10 7
theorem nmX10 : ∀ a, a < 7 → ∀ b, b < 7 → a ≠ b → (TX10 a).2.1 ≠ (TX10 b).2.1 := by decide +kernel
theorem tyX10_ok : ∀ k, k < 7 → parseFieldDescriptor (TX10 k).2.2.1 = some (tyX10 k) := by decide +kernel
abbrev cX10_init : ByteArray := prog_12_method_1_code
def yX10_init : MethodName := ⟨RX10, "<init>", "()V"⟩
abbrev cX10_clear : ByteArray := prog_12_method_2_code
def yX10_clear : MethodName := ⟨RX10, "clear", "()V"⟩
abbrev cX10_copyFrom : ByteArray := prog_12_method_3_code
def yX10_copyFrom : MethodName := ⟨RX10, "copyFrom", "(LOrderAssembler$Warehouse;)V"⟩
abbrev cX10_stockOf : ByteArray := prog_12_method_4_code
def yX10_stockOf : MethodName := ⟨RX10, "stockOf", "(I)I"⟩
abbrev cX10_reservedOf : ByteArray := prog_12_method_5_code
def yX10_reservedOf : MethodName := ⟨RX10, "reservedOf", "(I)I"⟩
abbrev cX10_freeOf : ByteArray := prog_12_method_6_code
def yX10_freeOf : MethodName := ⟨RX10, "freeOf", "(I)I"⟩
abbrev cX10_fillFree : ByteArray := prog_12_method_7_code
def yX10_fillFree : MethodName := ⟨RX10, "fillFree", "([I)V"⟩
abbrev cX10_setStock : ByteArray := prog_12_method_8_code
def yX10_setStock : MethodName := ⟨RX10, "setStock", "(II)V"⟩
abbrev cX10_addReserved : ByteArray := prog_12_method_9_code
def yX10_addReserved : MethodName := ⟨RX10, "addReserved", "(II)V"⟩
abbrev cX10_addArrival : ByteArray := prog_12_method_10_code
def yX10_addArrival : MethodName := ⟨RX10, "addArrival", "(III)I"⟩
abbrev cX10_passDay : ByteArray := prog_12_method_11_code
def yX10_passDay : MethodName := ⟨RX10, "passDay", "()I"⟩
abbrev cX10_allArriving : ByteArray := prog_12_method_12_code
def yX10_allArriving : MethodName := ⟨RX10, "allArriving", "(I)I"⟩
abbrev cX10_arrivingUntil : ByteArray := prog_12_method_13_code
def yX10_arrivingUntil : MethodName := ⟨RX10, "arrivingUntil", "(II)I"⟩
abbrev cX10_earliestArrival : ByteArray := prog_12_method_14_code
def yX10_earliestArrival : MethodName := ⟨RX10, "earliestArrival", "(I)I"⟩
abbrev cX10_dayFor : ByteArray := prog_12_method_15_code
def yX10_dayFor : MethodName := ⟨RX10, "dayFor", "(III)I"⟩
def RX11 : String := "OrderAssembler"
def TX11 : u_T := fun k => match k with
  | 0 => ("OrderAssembler", "parser", "LOrderAssembler$Parser;", true)
  | 1 => ("OrderAssembler", "input", "LOrderAssembler$InputText;", true)
  | 2 => ("OrderAssembler", "history", "LOrderAssembler$History;", true)
  | 3 => ("OrderAssembler", "allocation", "LOrderAssembler$Allocation;", true)
  | 4 => ("OrderAssembler", "formatted", "LOrderAssembler$FormattedText;", true)
  | 5 => ("OrderAssembler", "free", "[I", true)
  | 6 => ("OrderAssembler", "catalog", "LOrderAssembler$Catalog;", false)
  | _ => ("OrderAssembler", "ledger", "LOrderAssembler$Ledger;", false)
def tyX11 : Nat → FieldType := fun k => match k with
  | 0 => .object "OrderAssembler$Parser"
  | 1 => .object "OrderAssembler$InputText"
  | 2 => .object "OrderAssembler$History"
  | 3 => .object "OrderAssembler$Allocation"
  | 4 => .object "OrderAssembler$FormattedText"
  | 5 => .array .int
  | 6 => .object "OrderAssembler$Catalog"
  | _ => .object "OrderAssembler$Ledger"
abbrev wsX110 : List Cond := u_ws RX11 TX11 8
theorem nmX11 : ∀ a, a < 8 → ∀ b, b < 8 → a ≠ b → (TX11 a).2.1 ≠ (TX11 b).2.1 := by decide +kernel
theorem tyX11_ok : ∀ k, k < 8 → parseFieldDescriptor (TX11 k).2.2.1 = some (tyX11 k) := by decide +kernel
abbrev cX11_init : ByteArray := prog_1_method_1_code
def yX11_init : MethodName := ⟨RX11, "<init>", "()V"⟩
abbrev cX11_append : ByteArray := prog_1_method_2_code
def yX11_append : MethodName := ⟨RX11, "append", "(IIIII)I"⟩
abbrev cX11_truncate : ByteArray := prog_1_method_3_code
def yX11_truncate : MethodName := ⟨RX11, "truncate", "(I)Z"⟩
abbrev cX11_load : ByteArray := prog_1_method_4_code
def yX11_load : MethodName := ⟨RX11, "load", "()I"⟩
abbrev cX11_errorOffset : ByteArray := prog_1_method_5_code
def yX11_errorOffset : MethodName := ⟨RX11, "errorOffset", "()I"⟩
abbrev cX11_errorKind : ByteArray := prog_1_method_6_code
def yX11_errorKind : MethodName := ⟨RX11, "errorKind", "()I"⟩
abbrev cX11_count : ByteArray := prog_1_method_7_code
def yX11_count : MethodName := ⟨RX11, "count", "(I)I"⟩
abbrev cX11_lineCount : ByteArray := prog_1_method_8_code
def yX11_lineCount : MethodName := ⟨RX11, "lineCount", "(I)I"⟩
abbrev cX11_lineItem : ByteArray := prog_1_method_9_code
def yX11_lineItem : MethodName := ⟨RX11, "lineItem", "(II)I"⟩
abbrev cX11_lineQuantity : ByteArray := prog_1_method_10_code
def yX11_lineQuantity : MethodName := ⟨RX11, "lineQuantity", "(II)I"⟩
abbrev cX11_need : ByteArray := prog_1_method_11_code
def yX11_need : MethodName := ⟨RX11, "need", "(II)I"⟩
abbrev cX11_level : ByteArray := prog_1_method_12_code
def yX11_level : MethodName := ⟨RX11, "level", "(I)I"⟩
abbrev cX11_pieces : ByteArray := prog_1_method_13_code
def yX11_pieces : MethodName := ⟨RX11, "pieces", "(I)I"⟩
abbrev cX11_usedBy : ByteArray := prog_1_method_14_code
def yX11_usedBy : MethodName := ⟨RX11, "usedBy", "(I)I"⟩
abbrev cX11_commonParts : ByteArray := prog_1_method_15_code
def yX11_commonParts : MethodName := ⟨RX11, "commonParts", "(II)I"⟩
abbrev cX11_day : ByteArray := prog_1_method_16_code
def yX11_day : MethodName := ⟨RX11, "day", "()I"⟩
abbrev cX11_stock : ByteArray := prog_1_method_17_code
def yX11_stock : MethodName := ⟨RX11, "stock", "(I)I"⟩
abbrev cX11_reserved : ByteArray := prog_1_method_18_code
def yX11_reserved : MethodName := ⟨RX11, "reserved", "(I)I"⟩
abbrev cX11_arriving : ByteArray := prog_1_method_19_code
def yX11_arriving : MethodName := ⟨RX11, "arriving", "(I)I"⟩
abbrev cX11_nextArrival : ByteArray := prog_1_method_20_code
def yX11_nextArrival : MethodName := ⟨RX11, "nextArrival", "(I)I"⟩
abbrev cX11_buildable : ByteArray := prog_1_method_21_code
def yX11_buildable : MethodName := ⟨RX11, "buildable", "(I)I"⟩
abbrev cX11_bottleneck : ByteArray := prog_1_method_22_code
def yX11_bottleneck : MethodName := ⟨RX11, "bottleneck", "(I)I"⟩
abbrev cX11_buildableTogether : ByteArray := prog_1_method_23_code
def yX11_buildableTogether : MethodName := ⟨RX11, "buildableTogether", "(II)I"⟩
abbrev cX11_stateOf : ByteArray := prog_1_method_24_code
def yX11_stateOf : MethodName := ⟨RX11, "stateOf", "(I)I"⟩
abbrev cX11_openUnits : ByteArray := prog_1_method_25_code
def yX11_openUnits : MethodName := ⟨RX11, "openUnits", "(I)I"⟩
abbrev cX11_reservedUnits : ByteArray := prog_1_method_26_code
def yX11_reservedUnits : MethodName := ⟨RX11, "reservedUnits", "(I)I"⟩
abbrev cX11_shippedUnits : ByteArray := prog_1_method_27_code
def yX11_shippedUnits : MethodName := ⟨RX11, "shippedUnits", "(I)I"⟩
abbrev cX11_orderField : ByteArray := prog_1_method_28_code
def yX11_orderField : MethodName := ⟨RX11, "orderField", "(II)I"⟩
abbrev cX11_missing : ByteArray := prog_1_method_29_code
def yX11_missing : MethodName := ⟨RX11, "missing", "(II)I"⟩
abbrev cX11_toBuy : ByteArray := prog_1_method_30_code
def yX11_toBuy : MethodName := ⟨RX11, "toBuy", "(I)I"⟩
abbrev cX11_scarcestPart : ByteArray := prog_1_method_31_code
def yX11_scarcestPart : MethodName := ⟨RX11, "scarcestPart", "()I"⟩
abbrev cX11_promise : ByteArray := prog_1_method_32_code
def yX11_promise : MethodName := ⟨RX11, "promise", "(II)I"⟩
abbrev cX11_promiseOf : ByteArray := prog_1_method_33_code
def yX11_promiseOf : MethodName := ⟨RX11, "promiseOf", "(I)I"⟩
abbrev cX11_delayingPart : ByteArray := prog_1_method_34_code
def yX11_delayingPart : MethodName := ⟨RX11, "delayingPart", "(I)I"⟩
abbrev cX11_lateOrders : ByteArray := prog_1_method_35_code
def yX11_lateOrders : MethodName := ⟨RX11, "lateOrders", "()I"⟩
abbrev cX11_wouldGet : ByteArray := prog_1_method_36_code
def yX11_wouldGet : MethodName := ⟨RX11, "wouldGet", "(I)I"⟩
abbrev cX11_rungOf : ByteArray := prog_1_method_37_code
def yX11_rungOf : MethodName := ⟨RX11, "rungOf", "(I)I"⟩
abbrev cX11_rungUnits : ByteArray := prog_1_method_38_code
def yX11_rungUnits : MethodName := ⟨RX11, "rungUnits", "(I)I"⟩
abbrev cX11_missingPieces : ByteArray := prog_1_method_39_code
def yX11_missingPieces : MethodName := ⟨RX11, "missingPieces", "(I)I"⟩
abbrev cX11_buildableAfter : ByteArray := prog_1_method_40_code
def yX11_buildableAfter : MethodName := ⟨RX11, "buildableAfter", "(III)I"⟩
abbrev cX11_coveredOrders : ByteArray := prog_1_method_41_code
def yX11_coveredOrders : MethodName := ⟨RX11, "coveredOrders", "()I"⟩
abbrev cX11_promiseOfAll : ByteArray := prog_1_method_42_code
def yX11_promiseOfAll : MethodName := ⟨RX11, "promiseOfAll", "()I"⟩
abbrev cX11_addOrder : ByteArray := prog_1_method_43_code
def yX11_addOrder : MethodName := ⟨RX11, "addOrder", "(IIIIZ)I"⟩
abbrev cX11_cancel : ByteArray := prog_1_method_44_code
def yX11_cancel : MethodName := ⟨RX11, "cancel", "(I)I"⟩
abbrev cX11_reserve : ByteArray := prog_1_method_45_code
def yX11_reserve : MethodName := ⟨RX11, "reserve", "(II)I"⟩
abbrev cX11_release : ByteArray := prog_1_method_46_code
def yX11_release : MethodName := ⟨RX11, "release", "(II)I"⟩
abbrev cX11_allocate : ByteArray := prog_1_method_47_code
def yX11_allocate : MethodName := ⟨RX11, "allocate", "()I"⟩
abbrev cX11_ship : ByteArray := prog_1_method_48_code
def yX11_ship : MethodName := ⟨RX11, "ship", "(I)I"⟩
abbrev cX11_buy : ByteArray := prog_1_method_49_code
def yX11_buy : MethodName := ⟨RX11, "buy", "(II)I"⟩
abbrev cX11_adjust : ByteArray := prog_1_method_50_code
def yX11_adjust : MethodName := ⟨RX11, "adjust", "(II)I"⟩
abbrev cX11_advance : ByteArray := prog_1_method_51_code
def yX11_advance : MethodName := ⟨RX11, "advance", "(I)I"⟩
abbrev cX11_undo : ByteArray := prog_1_method_52_code
def yX11_undo : MethodName := ⟨RX11, "undo", "()I"⟩
abbrev cX11_undoDepth : ByteArray := prog_1_method_53_code
def yX11_undoDepth : MethodName := ⟨RX11, "undoDepth", "()I"⟩
abbrev cX11_total : ByteArray := prog_1_method_54_code
def yX11_total : MethodName := ⟨RX11, "total", "(I)I"⟩
abbrev cX11_shipment : ByteArray := prog_1_method_55_code
def yX11_shipment : MethodName := ⟨RX11, "shipment", "(II)I"⟩
abbrev cX11_formatOrder : ByteArray := prog_1_method_56_code
def yX11_formatOrder : MethodName := ⟨RX11, "formatOrder", "(I)I"⟩
abbrev cX11_formatNeeds : ByteArray := prog_1_method_57_code
def yX11_formatNeeds : MethodName := ⟨RX11, "formatNeeds", "(I)I"⟩
abbrev cX11_formattedByte : ByteArray := prog_1_method_58_code
def yX11_formattedByte : MethodName := ⟨RX11, "formattedByte", "(I)I"⟩
abbrev cX11_checkPart : ByteArray := prog_1_method_59_code
def yX11_checkPart : MethodName := ⟨RX11, "checkPart", "(I)V"⟩
abbrev cX11_checkProduct : ByteArray := prog_1_method_60_code
def yX11_checkProduct : MethodName := ⟨RX11, "checkProduct", "(I)V"⟩
abbrev cX11_checkOrder : ByteArray := prog_1_method_61_code
def yX11_checkOrder : MethodName := ⟨RX11, "checkOrder", "(I)V"⟩
abbrev cX11_checkRung : ByteArray := prog_1_method_62_code
def yX11_checkRung : MethodName := ⟨RX11, "checkRung", "(I)V"⟩
abbrev cX11_checkArgument : ByteArray := prog_1_method_63_code
def yX11_checkArgument : MethodName := ⟨RX11, "checkArgument", "(Z)V"⟩
abbrev cX11_checkState : ByteArray := prog_1_method_64_code
def yX11_checkState : MethodName := ⟨RX11, "checkState", "(Z)V"⟩
abbrev cX11_isInside : ByteArray := prog_1_method_65_code
def yX11_isInside : MethodName := ⟨RX11, "isInside", "(II)Z"⟩
abbrev cX11_isClosed : ByteArray := prog_1_method_66_code
def yX11_isClosed : MethodName := ⟨RX11, "isClosed", "(I)Z"⟩
abbrev cX11_shortageOf : ByteArray := prog_1_method_67_code
def yX11_shortageOf : MethodName := ⟨RX11, "shortageOf", "(II)I"⟩
abbrev cX11_shortageOfAll : ByteArray := prog_1_method_68_code
def yX11_shortageOfAll : MethodName := ⟨RX11, "shortageOfAll", "(I)I"⟩
abbrev cX11_dayOfPart : ByteArray := prog_1_method_69_code
def yX11_dayOfPart : MethodName := ⟨RX11, "dayOfPart", "(II)I"⟩
abbrev cX11_promiseDate : ByteArray := prog_1_method_70_code
def yX11_promiseDate : MethodName := ⟨RX11, "promiseDate", "(II)I"⟩
def RX12 : String := "OrderAssemblerModel"
def TX12 : u_T := fun k => match k with
  | 0 => ("OrderAssemblerModel", "thrown", "I", false)
  | 1 => ("OrderAssemblerModel", "tape", "[B", true)
  | 2 => ("OrderAssemblerModel", "five", "[I", true)
  | 3 => ("OrderAssemblerModel", "taped", "I", false)
  | 4 => ("OrderAssemblerModel", "point", "I", false)
  | 5 => ("OrderAssemblerModel", "begin", "I", false)
  | 6 => ("OrderAssemblerModel", "size", "I", false)
  | 7 => ("OrderAssemblerModel", "faultAt", "I", false)
  | 8 => ("OrderAssemblerModel", "faultKind", "I", false)
  | 9 => ("OrderAssemblerModel", "errorAt", "I", false)
  | 10 => ("OrderAssemblerModel", "kindOfError", "I", false)
  | 11 => ("OrderAssemblerModel", "told", "[I", true)
  | 12 => ("OrderAssemblerModel", "read", "[I", true)
  | 13 => ("OrderAssemblerModel", "rungsRead", "I", false)
  | 14 => ("OrderAssemblerModel", "now", "[I", true)
  | 15 => ("OrderAssemblerModel", "past", "[I", true)
  | 16 => ("OrderAssemblerModel", "depth", "I", false)
  | 17 => ("OrderAssemblerModel", "left", "[I", true)
  | 18 => ("OrderAssemblerModel", "quota", "[I", true)
  | 19 => ("OrderAssemblerModel", "gets", "[I", true)
  | 20 => ("OrderAssemblerModel", "first", "[I", true)
  | 21 => ("OrderAssemblerModel", "gives", "[I", true)
  | 22 => ("OrderAssemblerModel", "done", "I", false)
  | 23 => ("OrderAssemblerModel", "text", "[B", true)
  | _ => ("OrderAssemblerModel", "written", "I", false)
def tyX12 : Nat → FieldType := fun k => match k with
  | 0 => .int
  | 1 => .array .byte
  | 2 => .array .int
  | 3 => .int
  | 4 => .int
  | 5 => .int
  | 6 => .int
  | 7 => .int
  | 8 => .int
  | 9 => .int
  | 10 => .int
  | 11 => .array .int
  | 12 => .array .int
  | 13 => .int
  | 14 => .array .int
  | 15 => .array .int
  | 16 => .int
  | 17 => .array .int
  | 18 => .array .int
  | 19 => .array .int
  | 20 => .array .int
  | 21 => .array .int
  | 22 => .int
  | 23 => .array .byte
  | _ => .int
abbrev wsX120 : List Cond := u_ws RX12 TX12 25
theorem nmX12 : ∀ a, a < 25 → ∀ b, b < 25 → a ≠ b → (TX12 a).2.1 ≠ (TX12 b).2.1 := by decide +kernel
theorem tyX12_ok : ∀ k, k < 25 → parseFieldDescriptor (TX12 k).2.2.1 = some (tyX12 k) := by decide +kernel
abbrev cX12_thrown : ByteArray := prog_14_method_1_code
def yX12_thrown : MethodName := ⟨RX12, "thrown", "()I"⟩
abbrev cX12_throwsIf : ByteArray := prog_14_method_2_code
def yX12_throwsIf : MethodName := ⟨RX12, "throwsIf", "(ZI)Z"⟩
abbrev cX12_in : ByteArray := prog_14_method_3_code
def yX12_in : MethodName := ⟨RX12, "in", "(III)Z"⟩
abbrev cX12_append : ByteArray := prog_14_method_4_code
def yX12_append : MethodName := ⟨RX12, "append", "(IIIII)I"⟩
abbrev cX12_truncate : ByteArray := prog_14_method_5_code
def yX12_truncate : MethodName := ⟨RX12, "truncate", "(I)Z"⟩
abbrev cX12_errorOffset : ByteArray := prog_14_method_6_code
def yX12_errorOffset : MethodName := ⟨RX12, "errorOffset", "()I"⟩
abbrev cX12_errorKind : ByteArray := prog_14_method_7_code
def yX12_errorKind : MethodName := ⟨RX12, "errorKind", "()I"⟩
abbrev cX12_hasFailed : ByteArray := prog_14_method_8_code
def yX12_hasFailed : MethodName := ⟨RX12, "hasFailed", "()Z"⟩
abbrev cX12_isAt : ByteArray := prog_14_method_9_code
def yX12_isAt : MethodName := ⟨RX12, "isAt", "(II)Z"⟩
abbrev cX12_blanks : ByteArray := prog_14_method_10_code
def yX12_blanks : MethodName := ⟨RX12, "blanks", "()V"⟩
abbrev cX12_must : ByteArray := prog_14_method_11_code
def yX12_must : MethodName := ⟨RX12, "must", "(ZI)V"⟩
abbrev cX12_letters : ByteArray := prog_14_method_12_code
def yX12_letters : MethodName := ⟨RX12, "letters", "()I"⟩
abbrev cX12_isWord : ByteArray := prog_14_method_13_code
def yX12_isWord : MethodName := ⟨RX12, "isWord", "(Ljava/lang/String;)Z"⟩
abbrev cX12_takes : ByteArray := prog_14_method_14_code
def yX12_takes : MethodName := ⟨RX12, "takes", "(Ljava/lang/String;)Z"⟩
abbrev cX12_number : ByteArray := prog_14_method_15_code
def yX12_number : MethodName := ⟨RX12, "number", "(II)I"⟩
abbrev cX12_init : ByteArray := prog_14_method_16_code
def yX12_init : MethodName := ⟨RX12, "<init>", "()V"⟩
abbrev cX12_usualRung : ByteArray := prog_14_method_17_code
def yX12_usualRung : MethodName := ⟨RX12, "usualRung", "()V"⟩
abbrev cX12_named : ByteArray := prog_14_method_18_code
def yX12_named : MethodName := ⟨RX12, "named", "()I"⟩
abbrev cX12_newName : ByteArray := prog_14_method_19_code
def yX12_newName : MethodName := ⟨RX12, "newName", "(I)V"⟩
abbrev cX12_part : ByteArray := prog_14_method_20_code
def yX12_part : MethodName := ⟨RX12, "part", "()V"⟩
abbrev cX12_product : ByteArray := prog_14_method_21_code
def yX12_product : MethodName := ⟨RX12, "product", "()V"⟩
abbrev cX12_blanks0 : ByteArray := prog_14_method_22_code
def yX12_blanks0 : MethodName := ⟨RX12, "blanks0", "()V"⟩
abbrev cX12_line : ByteArray := prog_14_method_23_code
def yX12_line : MethodName := ⟨RX12, "line", "(II)V"⟩
abbrev cX12_rung : ByteArray := prog_14_method_24_code
def yX12_rung : MethodName := ⟨RX12, "rung", "()V"⟩
abbrev cX12_order : ByteArray := prog_14_method_25_code
def yX12_order : MethodName := ⟨RX12, "order", "()V"⟩
abbrev cX12_load : ByteArray := prog_14_method_26_code
def yX12_load : MethodName := ⟨RX12, "load", "()I"⟩
abbrev cX12_takesOver : ByteArray := prog_14_method_27_code
def yX12_takesOver : MethodName := ⟨RX12, "takesOver", "()V"⟩
abbrev cX12_keeps : ByteArray := prog_14_method_28_code
def yX12_keeps : MethodName := ⟨RX12, "keeps", "()V"⟩
abbrev cX12_undo : ByteArray := prog_14_method_29_code
def yX12_undo : MethodName := ⟨RX12, "undo", "()I"⟩
abbrev cX12_undoDepth : ByteArray := prog_14_method_30_code
def yX12_undoDepth : MethodName := ⟨RX12, "undoDepth", "()I"⟩
abbrev cX12_noPart : ByteArray := prog_14_method_31_code
def yX12_noPart : MethodName := ⟨RX12, "noPart", "(I)Z"⟩
abbrev cX12_noProduct : ByteArray := prog_14_method_32_code
def yX12_noProduct : MethodName := ⟨RX12, "noProduct", "(I)Z"⟩
abbrev cX12_noOrder : ByteArray := prog_14_method_33_code
def yX12_noOrder : MethodName := ⟨RX12, "noOrder", "(I)Z"⟩
abbrev cX12_needs : ByteArray := prog_14_method_34_code
def yX12_needs : MethodName := ⟨RX12, "needs", "(II)I"⟩
abbrev cX12_free : ByteArray := prog_14_method_35_code
def yX12_free : MethodName := ⟨RX12, "free", "(I)I"⟩
abbrev cX12_of : ByteArray := prog_14_method_36_code
def yX12_of : MethodName := ⟨RX12, "of", "(II)I"⟩
abbrev cX12_grows : ByteArray := prog_14_method_37_code
def yX12_grows : MethodName := ⟨RX12, "grows", "(III)V"⟩
abbrev cX12_open : ByteArray := prog_14_method_38_code
def yX12_open : MethodName := ⟨RX12, "open", "(I)I"⟩
abbrev cX12_count : ByteArray := prog_14_method_39_code
def yX12_count : MethodName := ⟨RX12, "count", "(I)I"⟩
abbrev cX12_lineCount : ByteArray := prog_14_method_40_code
def yX12_lineCount : MethodName := ⟨RX12, "lineCount", "(I)I"⟩
abbrev cX12_lineItem : ByteArray := prog_14_method_41_code
def yX12_lineItem : MethodName := ⟨RX12, "lineItem", "(II)I"⟩
abbrev cX12_lineQuantity : ByteArray := prog_14_method_42_code
def yX12_lineQuantity : MethodName := ⟨RX12, "lineQuantity", "(II)I"⟩
abbrev cX12_need : ByteArray := prog_14_method_43_code
def yX12_need : MethodName := ⟨RX12, "need", "(II)I"⟩
abbrev cX12_levelOf : ByteArray := prog_14_method_44_code
def yX12_levelOf : MethodName := ⟨RX12, "levelOf", "(I)I"⟩
abbrev cX12_level : ByteArray := prog_14_method_45_code
def yX12_level : MethodName := ⟨RX12, "level", "(I)I"⟩
abbrev cX12_pieces : ByteArray := prog_14_method_46_code
def yX12_pieces : MethodName := ⟨RX12, "pieces", "(I)I"⟩
abbrev cX12_usedBy : ByteArray := prog_14_method_47_code
def yX12_usedBy : MethodName := ⟨RX12, "usedBy", "(I)I"⟩
abbrev cX12_commonParts : ByteArray := prog_14_method_48_code
def yX12_commonParts : MethodName := ⟨RX12, "commonParts", "(II)I"⟩
abbrev cX12_day : ByteArray := prog_14_method_49_code
def yX12_day : MethodName := ⟨RX12, "day", "()I"⟩
abbrev cX12_stock : ByteArray := prog_14_method_50_code
def yX12_stock : MethodName := ⟨RX12, "stock", "(I)I"⟩
abbrev cX12_reserved : ByteArray := prog_14_method_51_code
def yX12_reserved : MethodName := ⟨RX12, "reserved", "(I)I"⟩
abbrev cX12_comesBy : ByteArray := prog_14_method_52_code
def yX12_comesBy : MethodName := ⟨RX12, "comesBy", "(II)I"⟩
abbrev cX12_arriving : ByteArray := prog_14_method_53_code
def yX12_arriving : MethodName := ⟨RX12, "arriving", "(I)I"⟩
abbrev cX12_nextArrival : ByteArray := prog_14_method_54_code
def yX12_nextArrival : MethodName := ⟨RX12, "nextArrival", "(I)I"⟩
abbrev cX12_leastOf : ByteArray := prog_14_method_55_code
def yX12_leastOf : MethodName := ⟨RX12, "leastOf", "(I)I"⟩
abbrev cX12_builds : ByteArray := prog_14_method_56_code
def yX12_builds : MethodName := ⟨RX12, "builds", "(I)I"⟩
abbrev cX12_buildable : ByteArray := prog_14_method_57_code
def yX12_buildable : MethodName := ⟨RX12, "buildable", "(I)I"⟩
abbrev cX12_bottleneck : ByteArray := prog_14_method_58_code
def yX12_bottleneck : MethodName := ⟨RX12, "bottleneck", "(I)I"⟩
abbrev cX12_buildableTogether : ByteArray := prog_14_method_59_code
def yX12_buildableTogether : MethodName := ⟨RX12, "buildableTogether", "(II)I"⟩
abbrev cX12_stateOf : ByteArray := prog_14_method_60_code
def yX12_stateOf : MethodName := ⟨RX12, "stateOf", "(I)I"⟩
abbrev cX12_openUnits : ByteArray := prog_14_method_61_code
def yX12_openUnits : MethodName := ⟨RX12, "openUnits", "(I)I"⟩
abbrev cX12_reservedUnits : ByteArray := prog_14_method_62_code
def yX12_reservedUnits : MethodName := ⟨RX12, "reservedUnits", "(I)I"⟩
abbrev cX12_shippedUnits : ByteArray := prog_14_method_63_code
def yX12_shippedUnits : MethodName := ⟨RX12, "shippedUnits", "(I)I"⟩
abbrev cX12_orderField : ByteArray := prog_14_method_64_code
def yX12_orderField : MethodName := ⟨RX12, "orderField", "(II)I"⟩
abbrev cX12_missing : ByteArray := prog_14_method_65_code
def yX12_missing : MethodName := ⟨RX12, "missing", "(II)I"⟩
abbrev cX12_buys : ByteArray := prog_14_method_66_code
def yX12_buys : MethodName := ⟨RX12, "buys", "(I)I"⟩
abbrev cX12_toBuy : ByteArray := prog_14_method_67_code
def yX12_toBuy : MethodName := ⟨RX12, "toBuy", "(I)I"⟩
abbrev cX12_scarcestPart : ByteArray := prog_14_method_68_code
def yX12_scarcestPart : MethodName := ⟨RX12, "scarcestPart", "()I"⟩
abbrev cX12_dayOf : ByteArray := prog_14_method_69_code
def yX12_dayOf : MethodName := ⟨RX12, "dayOf", "(II)I"⟩
abbrev cX12_promises : ByteArray := prog_14_method_70_code
def yX12_promises : MethodName := ⟨RX12, "promises", "(II)I"⟩
abbrev cX12_promise : ByteArray := prog_14_method_71_code
def yX12_promise : MethodName := ⟨RX12, "promise", "(II)I"⟩
abbrev cX12_isOver : ByteArray := prog_14_method_72_code
def yX12_isOver : MethodName := ⟨RX12, "isOver", "(I)Z"⟩
abbrev cX12_promiseOf : ByteArray := prog_14_method_73_code
def yX12_promiseOf : MethodName := ⟨RX12, "promiseOf", "(I)I"⟩
abbrev cX12_delayingPart : ByteArray := prog_14_method_74_code
def yX12_delayingPart : MethodName := ⟨RX12, "delayingPart", "(I)I"⟩
abbrev cX12_lateOrders : ByteArray := prog_14_method_75_code
def yX12_lateOrders : MethodName := ⟨RX12, "lateOrders", "()I"⟩
abbrev cX12_isAhead : ByteArray := prog_14_method_76_code
def yX12_isAhead : MethodName := ⟨RX12, "isAhead", "(II)Z"⟩
abbrev cX12_nextIn : ByteArray := prog_14_method_77_code
def yX12_nextIn : MethodName := ⟨RX12, "nextIn", "(I)I"⟩
abbrev cX12_triesAll : ByteArray := prog_14_method_78_code
def yX12_triesAll : MethodName := ⟨RX12, "triesAll", "()V"⟩
abbrev cX12_triesRung : ByteArray := prog_14_method_79_code
def yX12_triesRung : MethodName := ⟨RX12, "triesRung", "(I)V"⟩
abbrev cX12_can : ByteArray := prog_14_method_80_code
def yX12_can : MethodName := ⟨RX12, "can", "(I)I"⟩
abbrev cX12_takes0 : ByteArray := prog_14_method_81_code
def yX12_takes0 : MethodName := ⟨RX12, "takes0", "(II)V"⟩
abbrev cX12_wouldGet : ByteArray := prog_14_method_82_code
def yX12_wouldGet : MethodName := ⟨RX12, "wouldGet", "(I)I"⟩
abbrev cX12_rungOf : ByteArray := prog_14_method_83_code
def yX12_rungOf : MethodName := ⟨RX12, "rungOf", "(I)I"⟩
abbrev cX12_rungUnits : ByteArray := prog_14_method_84_code
def yX12_rungUnits : MethodName := ⟨RX12, "rungUnits", "(I)I"⟩
abbrev cX12_missingPieces : ByteArray := prog_14_method_85_code
def yX12_missingPieces : MethodName := ⟨RX12, "missingPieces", "(I)I"⟩
abbrev cX12_buildableAfter : ByteArray := prog_14_method_86_code
def yX12_buildableAfter : MethodName := ⟨RX12, "buildableAfter", "(III)I"⟩
abbrev cX12_coveredOrders : ByteArray := prog_14_method_87_code
def yX12_coveredOrders : MethodName := ⟨RX12, "coveredOrders", "()I"⟩
abbrev cX12_nextOpen : ByteArray := prog_14_method_88_code
def yX12_nextOpen : MethodName := ⟨RX12, "nextOpen", "(I)I"⟩
abbrev cX12_isCovered : ByteArray := prog_14_method_89_code
def yX12_isCovered : MethodName := ⟨RX12, "isCovered", "(I)Z"⟩
abbrev cX12_promiseOfAll : ByteArray := prog_14_method_90_code
def yX12_promiseOfAll : MethodName := ⟨RX12, "promiseOfAll", "()I"⟩
abbrev cX12_addOrder : ByteArray := prog_14_method_91_code
def yX12_addOrder : MethodName := ⟨RX12, "addOrder", "(IIIIZ)I"⟩
abbrev cX12_holds : ByteArray := prog_14_method_92_code
def yX12_holds : MethodName := ⟨RX12, "holds", "(II)V"⟩
abbrev cX12_cancel : ByteArray := prog_14_method_93_code
def yX12_cancel : MethodName := ⟨RX12, "cancel", "(I)I"⟩
abbrev cX12_hasFor : ByteArray := prog_14_method_94_code
def yX12_hasFor : MethodName := ⟨RX12, "hasFor", "(II)Z"⟩
abbrev cX12_isOff : ByteArray := prog_14_method_95_code
def yX12_isOff : MethodName := ⟨RX12, "isOff", "(II)Z"⟩
abbrev cX12_reserve : ByteArray := prog_14_method_96_code
def yX12_reserve : MethodName := ⟨RX12, "reserve", "(II)I"⟩
abbrev cX12_release : ByteArray := prog_14_method_97_code
def yX12_release : MethodName := ⟨RX12, "release", "(II)I"⟩
abbrev cX12_allocate : ByteArray := prog_14_method_98_code
def yX12_allocate : MethodName := ⟨RX12, "allocate", "()I"⟩
abbrev cX12_ship : ByteArray := prog_14_method_99_code
def yX12_ship : MethodName := ⟨RX12, "ship", "(I)I"⟩
abbrev cX12_logs : ByteArray := prog_14_method_100_code
def yX12_logs : MethodName := ⟨RX12, "logs", "(II)V"⟩
abbrev cX12_buy : ByteArray := prog_14_method_101_code
def yX12_buy : MethodName := ⟨RX12, "buy", "(II)I"⟩
abbrev cX12_loser : ByteArray := prog_14_method_102_code
def yX12_loser : MethodName := ⟨RX12, "loser", "(I)I"⟩
abbrev cX12_adjust : ByteArray := prog_14_method_103_code
def yX12_adjust : MethodName := ⟨RX12, "adjust", "(II)I"⟩
abbrev cX12_comesNow : ByteArray := prog_14_method_104_code
def yX12_comesNow : MethodName := ⟨RX12, "comesNow", "()I"⟩
abbrev cX12_advance : ByteArray := prog_14_method_105_code
def yX12_advance : MethodName := ⟨RX12, "advance", "(I)I"⟩
abbrev cX12_total : ByteArray := prog_14_method_106_code
def yX12_total : MethodName := ⟨RX12, "total", "(I)I"⟩
abbrev cX12_shipment : ByteArray := prog_14_method_107_code
def yX12_shipment : MethodName := ⟨RX12, "shipment", "(II)I"⟩
abbrev cX12_says : ByteArray := prog_14_method_108_code
def yX12_says : MethodName := ⟨RX12, "says", "(I)V"⟩
abbrev cX12_saysNumber : ByteArray := prog_14_method_109_code
def yX12_saysNumber : MethodName := ⟨RX12, "saysNumber", "(I)V"⟩
abbrev cX12_saysWord : ByteArray := prog_14_method_110_code
def yX12_saysWord : MethodName := ⟨RX12, "saysWord", "(Ljava/lang/String;)V"⟩
abbrev cX12_saysName : ByteArray := prog_14_method_111_code
def yX12_saysName : MethodName := ⟨RX12, "saysName", "(I)V"⟩
abbrev cX12_saysPart : ByteArray := prog_14_method_112_code
def yX12_saysPart : MethodName := ⟨RX12, "saysPart", "(Ljava/lang/String;I)V"⟩
abbrev cX12_formatOrder : ByteArray := prog_14_method_113_code
def yX12_formatOrder : MethodName := ⟨RX12, "formatOrder", "(I)I"⟩
abbrev cX12_formatNeeds : ByteArray := prog_14_method_114_code
def yX12_formatNeeds : MethodName := ⟨RX12, "formatNeeds", "(I)I"⟩
abbrev cX12_formattedByte : ByteArray := prog_14_method_115_code
def yX12_formattedByte : MethodName := ⟨RX12, "formattedByte", "(I)I"⟩
def RJ9 : String := "java/lang/Math"
abbrev cJ9_floorMod_7cf53 : ByteArray := prog_19_method_50_code
def yJ9_floorMod_7cf53 : MethodName := ⟨RJ9, "floorMod", "(II)I"⟩
abbrev cJ9_max_7cf53 : ByteArray := prog_19_method_65_code
def yJ9_max_7cf53 : MethodName := ⟨RJ9, "max", "(II)I"⟩
abbrev cJ9_min_7cf53 : ByteArray := prog_19_method_69_code
def yJ9_min_7cf53 : MethodName := ⟨RJ9, "min", "(II)I"⟩
def RJ0 : String := "java/lang/String"
abbrev cJ0_length_8abf5 : ByteArray := prog_21_method_54_code
def yJ0_length_8abf5 : MethodName := ⟨RJ0, "length", "()I"⟩
abbrev cJ0_charAt_5068e : ByteArray := prog_21_method_56_code
def yJ0_charAt_5068e : MethodName := ⟨RJ0, "charAt", "(I)C"⟩
abbrev cJ0_coder_7d493 : ByteArray := prog_21_method_152_code
def yJ0_coder_7d493 : MethodName := ⟨RJ0, "coder", "()B"⟩
abbrev cJ0_isLatin1_aae02 : ByteArray := prog_21_method_154_code
def yJ0_isLatin1_aae02 : MethodName := ⟨RJ0, "isLatin1", "()Z"⟩
abbrev cJ0_checkIndex_df160 : ByteArray := prog_21_method_155_code
def yJ0_checkIndex_df160 : MethodName := ⟨RJ0, "checkIndex", "(II)V"⟩
def RJ1 : String := "java/lang/StringLatin1"
abbrev cJ1_charAt_3b067 : ByteArray := prog_22_method_2_code
def yJ1_charAt_3b067 : MethodName := ⟨RJ1, "charAt", "([BI)C"⟩
def RJ2 : String := "java/lang/StringUTF16"
abbrev cJ2_getChar_3b067 : ByteArray := prog_23_method_5_code
def yJ2_getChar_3b067 : MethodName := ⟨RJ2, "getChar", "([BI)C"⟩
abbrev cJ2_length_9d52b : ByteArray := prog_23_method_6_code
def yJ2_length_9d52b : MethodName := ⟨RJ2, "length", "([B)I"⟩
abbrev cJ2_charAt_3b067 : ByteArray := prog_23_method_83_code
def yJ2_charAt_3b067 : MethodName := ⟨RJ2, "charAt", "([BI)C"⟩
abbrev cJ2_checkIndex_2214a : ByteArray := prog_23_method_91_code
def yJ2_checkIndex_2214a : MethodName := ⟨RJ2, "checkIndex", "(I[B)V"⟩
def RJ10 : String := "java/lang/System"
def RJ7 : String := "java/util/Arrays"
abbrev cJ7_fill_53178 : ByteArray := prog_26_method_103_code
def yJ7_fill_53178 : MethodName := ⟨RJ7, "fill", "([II)V"⟩
def RJ3 : String := "jdk/internal/util/Preconditions"
abbrev cJ3_checkIndex_8e157 : ByteArray := prog_27_method_11_code
def yJ3_checkIndex_8e157 : MethodName := ⟨RJ3, "checkIndex", "(IILjava/util/function/BiFunction;)I"⟩
def RL : String := "OrderAssemblerLaw"
abbrev cL_load : ByteArray := method_3_code
def yL_load : MethodName := ⟨RL, "load", "(LOrderAssembler;[J)I"⟩
abbrev cL_lineCount : ByteArray := method_4_code
def yL_lineCount : MethodName := ⟨RL, "lineCount", "(LOrderAssembler;I[J)I"⟩
abbrev cL_lineItem : ByteArray := method_5_code
def yL_lineItem : MethodName := ⟨RL, "lineItem", "(LOrderAssembler;II[J)I"⟩
abbrev cL_lineQuantity : ByteArray := method_6_code
def yL_lineQuantity : MethodName := ⟨RL, "lineQuantity", "(LOrderAssembler;II[J)I"⟩
abbrev cL_need : ByteArray := method_7_code
def yL_need : MethodName := ⟨RL, "need", "(LOrderAssembler;II[J)I"⟩
abbrev cL_level : ByteArray := method_8_code
def yL_level : MethodName := ⟨RL, "level", "(LOrderAssembler;I[J)I"⟩
abbrev cL_pieces : ByteArray := method_9_code
def yL_pieces : MethodName := ⟨RL, "pieces", "(LOrderAssembler;I[J)I"⟩
abbrev cL_usedBy : ByteArray := method_10_code
def yL_usedBy : MethodName := ⟨RL, "usedBy", "(LOrderAssembler;I[J)I"⟩
abbrev cL_commonParts : ByteArray := method_11_code
def yL_commonParts : MethodName := ⟨RL, "commonParts", "(LOrderAssembler;II[J)I"⟩
abbrev cL_stock : ByteArray := method_12_code
def yL_stock : MethodName := ⟨RL, "stock", "(LOrderAssembler;I[J)I"⟩
abbrev cL_reserved : ByteArray := method_13_code
def yL_reserved : MethodName := ⟨RL, "reserved", "(LOrderAssembler;I[J)I"⟩
abbrev cL_arriving : ByteArray := method_14_code
def yL_arriving : MethodName := ⟨RL, "arriving", "(LOrderAssembler;I[J)I"⟩
abbrev cL_nextArrival : ByteArray := method_15_code
def yL_nextArrival : MethodName := ⟨RL, "nextArrival", "(LOrderAssembler;I[J)I"⟩
abbrev cL_buildable : ByteArray := method_16_code
def yL_buildable : MethodName := ⟨RL, "buildable", "(LOrderAssembler;I[J)I"⟩
abbrev cL_bottleneck : ByteArray := method_17_code
def yL_bottleneck : MethodName := ⟨RL, "bottleneck", "(LOrderAssembler;I[J)I"⟩
abbrev cL_buildableTogether : ByteArray := method_18_code
def yL_buildableTogether : MethodName := ⟨RL, "buildableTogether", "(LOrderAssembler;II[J)I"⟩
abbrev cL_stateOf : ByteArray := method_19_code
def yL_stateOf : MethodName := ⟨RL, "stateOf", "(LOrderAssembler;I[J)I"⟩
abbrev cL_openUnits : ByteArray := method_20_code
def yL_openUnits : MethodName := ⟨RL, "openUnits", "(LOrderAssembler;I[J)I"⟩
abbrev cL_reservedUnits : ByteArray := method_21_code
def yL_reservedUnits : MethodName := ⟨RL, "reservedUnits", "(LOrderAssembler;I[J)I"⟩
abbrev cL_shippedUnits : ByteArray := method_22_code
def yL_shippedUnits : MethodName := ⟨RL, "shippedUnits", "(LOrderAssembler;I[J)I"⟩
abbrev cL_orderField : ByteArray := method_23_code
def yL_orderField : MethodName := ⟨RL, "orderField", "(LOrderAssembler;II[J)I"⟩
abbrev cL_missing : ByteArray := method_24_code
def yL_missing : MethodName := ⟨RL, "missing", "(LOrderAssembler;II[J)I"⟩
abbrev cL_toBuy : ByteArray := method_25_code
def yL_toBuy : MethodName := ⟨RL, "toBuy", "(LOrderAssembler;I[J)I"⟩
abbrev cL_promise : ByteArray := method_26_code
def yL_promise : MethodName := ⟨RL, "promise", "(LOrderAssembler;II[J)I"⟩
abbrev cL_promiseOf : ByteArray := method_27_code
def yL_promiseOf : MethodName := ⟨RL, "promiseOf", "(LOrderAssembler;I[J)I"⟩
abbrev cL_delayingPart : ByteArray := method_28_code
def yL_delayingPart : MethodName := ⟨RL, "delayingPart", "(LOrderAssembler;I[J)I"⟩
abbrev cL_wouldGet : ByteArray := method_29_code
def yL_wouldGet : MethodName := ⟨RL, "wouldGet", "(LOrderAssembler;I[J)I"⟩
abbrev cL_rungOf : ByteArray := method_30_code
def yL_rungOf : MethodName := ⟨RL, "rungOf", "(LOrderAssembler;I[J)I"⟩
abbrev cL_rungUnits : ByteArray := method_31_code
def yL_rungUnits : MethodName := ⟨RL, "rungUnits", "(LOrderAssembler;I[J)I"⟩
abbrev cL_missingPieces : ByteArray := method_32_code
def yL_missingPieces : MethodName := ⟨RL, "missingPieces", "(LOrderAssembler;I[J)I"⟩
abbrev cL_buildableAfter : ByteArray := method_33_code
def yL_buildableAfter : MethodName := ⟨RL, "buildableAfter", "(LOrderAssembler;III[J)I"⟩
abbrev cL_addOrder : ByteArray := method_34_code
def yL_addOrder : MethodName := ⟨RL, "addOrder", "(LOrderAssembler;IIIIZ[J)I"⟩
abbrev cL_cancel : ByteArray := method_35_code
def yL_cancel : MethodName := ⟨RL, "cancel", "(LOrderAssembler;I[J)I"⟩
abbrev cL_reserve : ByteArray := method_36_code
def yL_reserve : MethodName := ⟨RL, "reserve", "(LOrderAssembler;II[J)I"⟩
abbrev cL_release : ByteArray := method_37_code
def yL_release : MethodName := ⟨RL, "release", "(LOrderAssembler;II[J)I"⟩
abbrev cL_ship : ByteArray := method_38_code
def yL_ship : MethodName := ⟨RL, "ship", "(LOrderAssembler;I[J)I"⟩
abbrev cL_buy : ByteArray := method_39_code
def yL_buy : MethodName := ⟨RL, "buy", "(LOrderAssembler;II[J)I"⟩
abbrev cL_adjust : ByteArray := method_40_code
def yL_adjust : MethodName := ⟨RL, "adjust", "(LOrderAssembler;II[J)I"⟩
abbrev cL_advance : ByteArray := method_41_code
def yL_advance : MethodName := ⟨RL, "advance", "(LOrderAssembler;I[J)I"⟩
abbrev cL_formatOrder : ByteArray := method_42_code
def yL_formatOrder : MethodName := ⟨RL, "formatOrder", "(LOrderAssembler;I[J)I"⟩
abbrev cL_formatNeeds : ByteArray := method_43_code
def yL_formatNeeds : MethodName := ⟨RL, "formatNeeds", "(LOrderAssembler;I[J)I"⟩
abbrev cL_law : ByteArray := code
def yL_law : MethodName := ⟨RL, "law", "([I)Z"⟩
abbrev vwCl : List vw_C := [(RX0, TX0, 6), (RX1, TX1, 14), (RX2, TX2, 2), (RX3, TX3, 3), (RX4, TX4, 2), (RX5, TX5, 3), (RX6, TX6, 9), (RX7, TX7, 5), (RX8, TX8, 4), (RX9, TX9, 4), (RX10, TX10, 7), (RX11, TX11, 8), (RX12, TX12, 25)]
end
section
def oa_kdL : List (Nat × Nat × List (Nat × Nat)) := [(0, 0, [(2, 13), (2, 14), (2, 15), (2, 16), (2, 17), (2, 18)]), (0, 1, [(0, 0), (0, 0), (0, 0), (2, 19), (2, 20), (2, 21), (2, 22), (2, 23), (2, 24), (2, 26), (2, 28), (2, 30), (2, 31), (2, 32)]), (0, 2, [(0, 0), (2, 33)]), (0, 3, [(0, 0), (0, 0), (2, 34)]), (0, 4, [(0, 0), (2, 35)]), (0, 5, [(2, 10), (2, 6), (2, 8)]), (0, 6, [(0, 0), (2, 36), (2, 37), (2, 38), (2, 39), (2, 40), (2, 41), (2, 42), (2, 43)]), (0, 7, [(0, 0), (0, 0), (2, 9), (3, 1), (3, 5)]), (0, 8, [(2, 44), (2, 45), (2, 46), (2, 47)]), (0, 9, [(0, 0), (0, 0), (2, 4), (0, 0)]), (0, 10, [(0, 0), (0, 0), (2, 48), (2, 49), (2, 50), (2, 51), (2, 52)]), (0, 11, [(2, 7), (2, 4), (2, 3), (2, 0), (2, 2), (2, 53), (3, 1), (3, 5)]), (0, 12, [(0, 0), (2, 54), (2, 55), (0, 0), (0, 0), (0, 0), (0, 0), (0, 0), (0, 0), (0, 0), (0, 0), (2, 56), (2, 57), (0, 0), (2, 58), (2, 59), (0, 0), (2, 60), (2, 61), (2, 62), (2, 63), (2, 64), (0, 0), (2, 65), (0, 0)]), (1, 12, []), (1, 12, []), (1, 20, []), (1, 20, []), (1, 20, []), (1, 6, []), (3, 12, []), (1, 12, []), (3, 8, []), (1, 8, []), (1, 8, []), (6, 8, [(8, 25)]), (1, 6, []), (6, 8, [(8, 27)]), (1, 6, []), (6, 8, [(8, 29)]), (1, 12, []), (1, 6, []), (1, 6, []), (1, 6, []), (2, 200, []), (5, 12, [(2, 5)]), (2, 900, []), (1, 20, []), (1, 20, []), (1, 20, []), (1, 20, []), (4, 20, []), (4, 20, []), (1, 20, []), (1, 20, []), (1, 5, []), (1, 16, []), (1, 16, []), (1, 16, []), (1, 12, []), (1, 12, []), (1, 20, []), (1, 20, []), (1, 20, []), (1, 12, []), (2, 900, []), (1, 5, []), (1, 506, []), (1, 506, []), (1, 301, []), (1, 3612, []), (1, 12, []), (1, 12, []), (1, 20, []), (1, 20, []), (1, 6, []), (2, 320, []), (3, 1, [])]
def oa_cnL : List Nat := [1, 2, 1, 1, 1, 14, 14, 1, 14, 1, 14, 1, 1, 1, 1, 1, 1, 1, 1, 2, 2, 2, 2, 2, 2, 16, 2, 16, 2, 16, 2, 2, 2, 1, 1, 1, 14, 14, 14, 14, 14, 14, 14, 14, 14, 14, 14, 14, 14, 14, 14, 14, 14, 1, 1, 1, 1, 1, 1, 1, 1, 1, 1, 1, 1, 1, 1]
def oa_nT : Nat := 67
/-! abstract values, abstract heap, worlds -/
abbrev AV : Type := Int32 ⊕ Int64 ⊕ (Nat × Nat) ⊕ Unit
abbrev vI (x : Int32) : AV := .inl x
abbrev vJ (x : Int64) : AV := .inr (.inl x)
abbrev vR (t i : Nat) : AV := .inr (.inr (.inl (t, i)))
abbrev vN : AV := .inr (.inr (.inr ()))
abbrev Hp : Type := (Nat → Nat → Nat → Int32) × (Nat → Nat → Nat → Int64) × (Nat → Nat → Nat → Nat)
/-- a method: name, code, locals, answer's type, handlers -/
abbrev MD : Type := MethodName × ByteArray × Nat × Option FieldType × List (Nat × Nat × Nat × Nat)
/-- a world: class numbers, array classes, addresses, the first address of ours -/
abbrev WD : Type := va_G × (Nat → ClassId) × (Nat → Nat → Nat) × Nat
def oa_kd (t : Nat) : Nat × Nat × List (Nat × Nat) := oa_kdL.getD t (9, 0, [])
/-- how many cells of a kind there are; from 1000 on: string constants; 2000: the script -/
def oa_cn (t : Nat) : Nat := if 1000 ≤ t then 1 else oa_cnL.getD t 0
def oa_cat : AV → Nat
  | .inr (.inl _) => 2
  | _ => 1
def oa_cz (w : WD) : AV → Value
  | .inl x => .int x
  | .inr (.inl x) => .long x
  | .inr (.inr (.inl r)) => .ref (w.2.2.1 r.1 r.2)
  | .inr (.inr (.inr _)) => .null
def oa_vd : AV → Prop
  | .inr (.inr (.inl r)) => r.2 < oa_cn r.1
  | _ => True
theorem oa_cat_cz (w : WD) (v : AV) : (oa_cz w v).category = oa_cat v := by
  rcases v with x | x | x | x <;> rfl
def oa_A (w : WD) : Nat → Prop := fun q => w.2.2.2 ≤ q
def oa_tys (w : WD) : List (ClassId × FieldType) := [(w.2.1 0, .int), (w.2.1 1, .byte), (w.2.1 2, .long), (w.2.1 3, .boolean), (w.2.1 4, .object "OrderAssembler$Ledger"), (w.2.1 5, .array .int)]
def oa_fv (w : WD) (h : Hp) (t i k : Nat) (f : Nat × Nat) : Value := match f.1 with
  | 0 => .int (h.1 t i k)
  | 2 => .ref (w.2.2.1 f.2 i)
  | 3 => .ref (w.2.2.1 f.2 (h.2.2 t i k))
  | _ => .null
def oa_ent (w : WD) (h : Hp) (t i : Nat) : va_E := match (oa_kd t).1 with
  | 0 => .inr ((oa_kd t).2.1, (oa_kd t).2.2.mapIdx fun k f => oa_fv w h t i k f)
  | 1 => .inl (w.2.1 0, (oa_kd t).2.1, .inl (h.1 t i))
  | 2 => .inl (w.2.1 1, (oa_kd t).2.1, .inl (h.1 t i))
  | 3 => .inl (w.2.1 2, (oa_kd t).2.1, .inr (.inl (h.2.1 t i)))
  | 4 => .inl (w.2.1 3, (oa_kd t).2.1, .inl (h.1 t i))
  | 5 => .inl (w.2.1 4, (oa_kd t).2.1, .inr (.inr (.inr (.inr fun j => if j < (oa_kd t).2.1 then some (w.2.2.1 ((oa_kd t).2.2.headD (0, 0)).2 (((oa_kd t).2.2.headD (0, 0)).1 + j)) else none))))
  | _ => .inl (w.2.1 5, (oa_kd t).2.1, .inr (.inr (.inr (.inr fun j => if j < (oa_kd t).2.1 then some (w.2.2.1 ((oa_kd t).2.2.headD (0, 0)).2 (((oa_kd t).2.2.headD (0, 0)).1 * i + j)) else none))))
def oa_ix : List (Nat × Nat) := (List.range oa_nT).flatMap fun t => (List.range (oa_cn t)).map fun i => (t, i)
def oa_ws (w : WD) (h : Hp) : va_W := oa_ix.map fun r => (w.2.2.1 r.1 r.2, oa_ent w h r.1 r.2)
/-- the heap's own facts: the mutable references are of cells that are there, truth values are 0 or 1 -/
def oa_ok (h : Hp) : Prop := (∀ t i k t', (oa_kd t).2.2[k]? = some (3, t') → i < oa_cn t → h.2.2 t i k < oa_cn t') ∧ ∀ t i k, (oa_kd t).1 = 4 → h.1 t i k = 0 ∨ h.1 t i k = 1
def oa_RP (w : WD) (h : Hp) (H : Heap) : Prop := va_P w.1 vwCl (oa_ws w h) H ∧ va_D (oa_A w) (oa_ws w h) ∧ oa_ok h
theorem oa_ix_mem {t i : Nat} (ht : t < oa_nT) (hi : i < oa_cn t) : ∃ k : Nat, oa_ix[k]? = some (t, i) := by
  have h : (t, i) ∈ oa_ix := by
    unfold oa_ix
    rw [List.mem_flatMap]
    exact ⟨t, List.mem_range.mpr ht, List.mem_map.mpr ⟨i, List.mem_range.mpr hi, rfl⟩⟩
  exact List.getElem?_of_mem h
theorem oa_ws_at {w : WD} {h : Hp} {t i : Nat} (ht : t < oa_nT) (hi : i < oa_cn t) : ∃ k : Nat, oa_ix[k]? = some (t, i) ∧ (oa_ws w h)[k]? = some (w.2.2.1 t i, oa_ent w h t i) := by
  obtain ⟨k, hk⟩ := oa_ix_mem ht hi
  exact ⟨k, hk, by unfold oa_ws; rw [List.getElem?_map, hk]; rfl⟩
def oa_pos (r : Nat × Nat) : Nat := (oa_cnL.take r.1).sum + r.2
theorem oa_ix_pos : (oa_ix.zipIdx.all fun q => oa_pos q.1 == q.2) = true := by decide +kernel
theorem oa_ix_inj : ∀ (i j : Nat) (r : Nat × Nat), oa_ix[i]? = some r → oa_ix[j]? = some r → i = j := by
  intro i j r hi hj
  have h1 := List.all_eq_true.mp oa_ix_pos (r, i) (List.mem_zipIdx_iff_getElem?.mpr hi)
  have h2 := List.all_eq_true.mp oa_ix_pos (r, j) (List.mem_zipIdx_iff_getElem?.mpr hj)
  exact (beq_iff_eq.mp h1).symm.trans (beq_iff_eq.mp h2)
/-- one cell changed -/
theorem oa_ws_set {w : WD} {h h' : Hp} {t i k : Nat} (hk : oa_ix[k]? = some (t, i)) (he : ∀ t' i', (t', i') ≠ (t, i) → oa_ent w h' t' i' = oa_ent w h t' i') :
    (oa_ws w h).set k (w.2.2.1 t i, oa_ent w h' t i) = oa_ws w h' := by
  apply List.ext_getElem?
  intro j
  have hl : k < (oa_ws w h).length := by
    unfold oa_ws
    rw [List.length_map]
    exact (List.getElem?_eq_some_iff.mp hk).1
  by_cases hj : j = k
  · subst hj
    rw [List.getElem?_set_self hl]
    unfold oa_ws
    rw [List.getElem?_map, hk]
    rfl
  · rw [List.getElem?_set_ne (Ne.symm hj)]
    unfold oa_ws
    rw [List.getElem?_map, List.getElem?_map]
    cases hr : oa_ix[j]? with
    | none => rfl
    | some r =>
      have hne : (r.1, r.2) ≠ (t, i) := fun e => hj (oa_ix_inj j k (t, i) (by rw [hr, ← e]) hk)
      simp only [Option.map_some]
      rw [he r.1 r.2 hne]
/-- the cells lie apart whatever they hold -/
theorem oa_D_any {w : WD} {h h' : Hp} (hD : va_D (oa_A w) (oa_ws w h)) : va_D (oa_A w) (oa_ws w h') := by
  have key : ∀ (k : Nat) (q : Nat × va_E), (oa_ws w h')[k]? = some q → ∃ q0, (oa_ws w h)[k]? = some q0 ∧ q0.1 = q.1 := by
    intro k q hk
    unfold oa_ws at hk ⊢
    rw [List.getElem?_map] at hk ⊢
    cases hr : oa_ix[k]? with
    | none => rw [hr] at hk; cases hk
    | some r =>
      rw [hr] at hk
      cases hk
      exact ⟨_, rfl, rfl⟩
  refine ⟨fun i j x y hi hj hxy => ?_, fun k q hk => ?_⟩
  · obtain ⟨x0, h1, h2⟩ := key i x hi
    obtain ⟨y0, h3, h4⟩ := key j y hj
    exact hD.1 i j x0 y0 h1 h3 (h2.trans (hxy.trans h4.symm))
  · obtain ⟨q0, h1, h2⟩ := key k q hk
    rw [← h2]
    exact hD.2 k q0 h1
/-! what a frame knows of the machine -/
def oa_GT : List Cond := lw_tbl.filter goodWord
theorem oa_gm {q : Cond} (i : Nat) (h : lw_tbl[i]? = some q) (g : goodWord q = true) : q ∈ oa_GT := List.mem_filter.mpr ⟨List.mem_of_getElem? h, g⟩
def oa_SL : List (String × Nat × String × List Int32) := [("OrderAssembler$Parser", 56, "part", [112, 97, 114, 116]), ("OrderAssembler$Parser", 73, "product", [112, 114, 111, 100, 117, 99, 116]), ("OrderAssembler$Parser", 81, "rung", [114, 117, 110, 103]), ("OrderAssembler$Parser", 86, "order", [111, 114, 100, 101, 114]), ("OrderAssembler$Parser", 171, "whole", [119, 104, 111, 108, 101]), ("OrderAssembler", 101, "the text does not match", [116, 104, 101, 32, 116, 101, 120, 116, 32, 100, 111, 101, 115, 32, 110, 111, 116, 32, 109, 97, 116, 99, 104]), ("OrderAssembler", 399, "no such product", [110, 111, 32, 115, 117, 99, 104, 32, 112, 114, 111, 100, 117, 99, 116]), ("OrderAssembler", 396, "no such part", [110, 111, 32, 115, 117, 99, 104, 32, 112, 97, 114, 116]), ("OrderAssembler", 405, "an argument is out of range", [97, 110, 32, 97, 114, 103, 117, 109, 101, 110, 116, 32, 105, 115, 32, 111, 117, 116, 32, 111, 102, 32, 114, 97, 110, 103, 101]), ("OrderAssembler", 401, "no such order", [110, 111, 32, 115, 117, 99, 104, 32, 111, 114, 100, 101, 114]), ("OrderAssembler", 403, "no such rung", [110, 111, 32, 115, 117, 99, 104, 32, 114, 117, 110, 103]), ("OrderAssembler", 409, "not possible now", [110, 111, 116, 32, 112, 111, 115, 115, 105, 98, 108, 101, 32, 110, 111, 119]), ("OrderAssembler", 354, " x", [32, 120]), ("OrderAssembler", 360, " c", [32, 99]), ("OrderAssembler", 362, " d", [32, 100]), ("OrderAssembler", 364, " w", [32, 119]), ("OrderAssembler", 369, " o", [32, 111]), ("OrderAssembler", 371, " \x72", [32, 114]), ("OrderAssembler", 373, " s", [32, 115]), ("OrderAssembler", 375, " cancelled", [32, 99, 97, 110, 99, 101, 108, 108, 101, 100]), ("OrderAssembler", 378, ":", [58]), ("OrderAssembler", 380, " ", [32]), ("OrderAssemblerModel", 143, "part", [112, 97, 114, 116]), ("OrderAssemblerModel", 147, "product", [112, 114, 111, 100, 117, 99, 116]), ("OrderAssemblerModel", 151, "rung", [114, 117, 110, 103]), ("OrderAssemblerModel", 155, "order", [111, 114, 100, 101, 114]), ("OrderAssemblerModel", 138, "whole", [119, 104, 111, 108, 101]), ("OrderAssemblerModel", 292, " x", [32, 120]), ("OrderAssemblerModel", 298, " c", [32, 99]), ("OrderAssemblerModel", 300, " d", [32, 100]), ("OrderAssemblerModel", 302, " w", [32, 119]), ("OrderAssemblerModel", 304, " o", [32, 111]), ("OrderAssemblerModel", 306, " \x72", [32, 114]), ("OrderAssemblerModel", 308, " s", [32, 115]), ("OrderAssemblerModel", 310, " cancelled", [32, 99, 97, 110, 99, 101, 108, 108, 101, 100]), ("OrderAssemblerModel", 312, " ", [32])]
def oa_NC : List (String × String) := [("java/lang/IllegalArgumentException", "java/lang/IndexOutOfBoundsException"), ("java/lang/IllegalStateException", "java/lang/IndexOutOfBoundsException"), ("java/lang/IllegalStateException", "java/lang/IllegalArgumentException")]
/-- the string constants: 1000 + j is the j-th, 1500 + j its bytes -/
def oa_SF (w : WD) (U : State) (H : Heap) : Prop :=
  (∀ (j : Nat) (q : String × Nat × String × List Int32), oa_SL[j]? = some q → vk_R q.1 q.2.1 q.2.2.1 (w.2.2.1 (1000 + j) 0) U ∧ va_O "java/lang/String" (w.2.2.1 (1000 + j) 0) (oa_A w) U H ∧ va_OF "java/lang/String" "coder" "B" (.int 0) (w.2.2.1 (1000 + j) 0) (oa_A w) U H ∧
    va_OF "java/lang/String" "value" "[B" (.ref (w.2.2.1 (1500 + j) 0)) (w.2.2.1 (1000 + j) 0) (oa_A w) U H ∧ va_T .byte (w.2.2.1 (1500 + j) 0) q.2.2.2.length (fun i => .int (q.2.2.2.getD i 0)) (oa_A w) U H) ∧
  va_Z "java/lang/String" "COMPACT_STRINGS" "Z" (.int 1) (oa_A w) U H ∧ va_Zq "jdk/internal/util/Preconditions" "SIOOBE_FORMATTER" "Ljava/util/function/BiFunction;" (oa_A w) U H ∧ (∀ q ∈ oa_NC, va_Nc q.1 q.2 U)
theorem oa_SF.moved {w : WD} {s U : State} {H H1 : Heap} (h : oa_SF w s H) (hW : s.WarmedH U.vm) (hq : ∀ q : Nat, q < H.size → ¬ oa_A w q → H1[q]? = H[q]?) : oa_SF w U H1 := by
  obtain ⟨h1, h2, h3, h4⟩ := h
  refine ⟨fun j q hj => ?_, (va_Z.moved hW.alike h2).kept hq, (va_Zq.moved hW.alike h3).kept hq, fun q hq' => va_Nc.moved hW.alike (h4 q hq')⟩
  obtain ⟨a1, a2, a3, a4, a5⟩ := h1 j q hj
  exact ⟨vk_R.warm hW a1, (va_O.moved hW.alike a2).kept hq, (va_OF.moved hW.alike a3).kept hq, (va_OF.moved hW.alike a4).kept hq, (va_T.moved hW.alike a5).kept hq⟩
/-- facts of a state that every method hands to its callees -/
def oa_JF (w : WD) (l : Launch) (U : State) (H : Heap) : Prop :=
  l.flags = flags0 ∧ (∀ q ∈ oa_GT, ∀ a : Array Value, q.before a U = true) ∧ (∀ (o : String) (i : Nat) (y : MethodName) (n : String), Cond.methodLinkNest o i y n ∈ lw_tbl → va_Nw (.methodLinkNest o i y n) U) ∧
  va_K w.1 vwCl (oa_tys w) U ∧ w.2.2.2 ≤ H.size ∧
  vx_Zq Bundle.tN "UNASSIGNED_STACK" Bundle.steD (oa_A w) U H ∧ vx_Zq Bundle.tN "SUPPRESSED_SENTINEL" Bundle.listD (oa_A w) U H ∧
  (∀ C T : String, Cond.castable C T ∈ lw_tbl → va_Nw (.castable C T) U) ∧ (∀ x : MethodName, Cond.declares x ∈ lw_tbl → va_Nw (.declares x) U) ∧ oa_SF w U H
theorem oa_JF.moved {w : WD} {l : Launch} {s U : State} {H H1 : Heap} (h : oa_JF w l s H) (hW : s.WarmedH U.vm) (hz : H.size ≤ H1.size) (hq : ∀ q : Nat, q < H.size → ¬ oa_A w q → H1[q]? = H[q]?) : oa_JF w l U H1 := by
  obtain ⟨h1, h2, h3, h4, h5, h6, h7, h8, h9, h10⟩ := h
  refine ⟨h1, fun q hq' a => ?_, fun o i y n hn => (h3 o i y n hn).warmM hW, va_K.moved hW.alike h4, Nat.le_trans h5 hz, (vx_Zq.moved hW.alike h6).kept hq, (vx_Zq.moved hW.alike h7).kept hq, fun C T hc => (h8 C T hc).warmC hW, fun x hx => (h9 x hx).warmD hW, h10.moved hW hq⟩
  exact word_at hW (good_of_word (List.mem_filter.mp hq').2) (h2 q hq' #[])
/-- the frame of method M: what never changes while it runs -/
def oa_Fx (w : WD) (p : Program) (l : Launch) (s : State) (m : MethodId) (meth : Method) (c : Code) (M : MD) : Prop :=
  p.tables.exec = Jvm.exec ∧ c.code = M.2.1 ∧ c.maxLocals = M.2.2.1 ∧ meth.sig.returnType = M.2.2.2.1 ∧ s.vm.findClass M.1.cls = some m.cls ∧ meth.locks = false ∧ c.exceptionTable.toList = tableOf M.2.2.2.2 ∧ oa_JF w l s s.heap
def oa_QC (w : WD) (Qr : Option AV → Hp → Prop) : Array Value → State → Outcome → State → Prop := fun _ st o t => ∃ (v : Option AV) (h' : Hp), o = .returned (v.map (oa_cz w)) ∧ (∀ x ∈ v, oa_vd x) ∧ Qr v h' ∧ oa_RP w h' t.heap ∧ va_F (oa_A w) st t
def oa_XC (w : WD) (Qx : String → Hp → Prop) : String → State → State → Prop := fun E st t => ∃ h' : Hp, Qx E h' ∧ oa_RP w h' t.heap ∧ va_F (oa_A w) st t
def oa_lz (w : WD) (L : List (Nat × AV)) : List (Nat × Value) := L.map fun q => (q.1, oa_cz w q.2)
/-- from here, with room for rb throws and d frames more, M ends: by a return with Qr, or by a throw with Qx -/
def AW (X : WD → State → Prop) (d rb : Nat) (M : MD) (pc : Nat) (L : List (Nat × AV)) (S : List AV) (h : Hp) (Qr : Option AV → Hp → Prop) (Qx : String → Hp → Prop) : Prop :=
  ∀ (w : WD) (p : Program) (l : Launch) (e : Env) (R : Room) (s : State) (m : MethodId) (args : Array Value) (below : List Frame) (meth : Method) (c : Code) (mc ms : Nat),
    oa_Fx w p l s m meth c M → X w s → d ≤ R.frames → 64 * d ≤ R.locals → mc ≤ R.cells → ms ≤ R.slots →
    ∀ (H : Heap) (locs : List Loc) (cells slots : Nat) (ls : Array Slot), cells + rb ≤ mc → slots + 6 * rb ≤ ms → oa_RP w h H → va_S (oa_A w) s.heap H locs → lv_has ls M.2.2.1 (oa_lz w L) → (∀ q ∈ L, oa_vd q.2) → (∀ v ∈ S, oa_vd v) →
    W p l e R s m args below meth c H locs cells slots (vx_MQ below (oa_QC w Qr) (oa_XC w Qx) args s mc ms (oa_A w)) (F0 m pc ls (S.map (oa_cz w)))
def oa_rm (d k : Nat) : Room := { frames := d, cells := k, slots := 6 * k, locals := 64 * d }
def oa_cw (M : MD) : Cond := .code M.1 M.2.1 M.2.2.1 M.2.2.2.1
def oa_PC (w : WD) (l : Launch) (as : List AV) (h : Hp) : Array Value → State → Prop := fun a U => a = (as.map (oa_cz w)).toArray ∧ (∀ v ∈ as, oa_vd v) ∧ oa_JF w l U U.heap ∧ oa_RP w h U.heap
/-- a call of M: k throws at most, d frames -/
def CL (k d : Nat) (M : MD) (as : List AV) (h : Hp) (Qr : Option AV → Hp → Prop) (Qx : String → Hp → Prop) : Prop :=
  ∀ (w : WD) (l : Launch), vx_Met l M.1 [oa_cw M] (oa_rm d k) (oa_PC w l as h) (oa_QC w Qr) (oa_XC w Qx) k (6 * k) (oa_A w)
end
section
section AWR
variable {X : WD → State → Prop} {d rb : Nat} {M : MD} {pc n : Nat} {L L2 : List (Nat × AV)} {S : List AV} {h : Hp} {Qr : Option AV → Hp → Prop} {Qx : String → Hp → Prop}
theorem oa_at {ls : Array Slot} {nL : Nat} {w : WD} {L : List (Nat × AV)} {j i : Nat} {v : AV} (hl : lv_has ls nL (oa_lz w L)) (hq : L[j]? = some (i, v)) : ls[i]? = some (.val (oa_cz w v)) :=
  lv_at hl j (by unfold oa_lz; rw [List.getElem?_map, hq]; rfl)
theorem oa_vget {L : List (Nat × AV)} {j i : Nat} {v : AV} (hL : ∀ q ∈ L, oa_vd q.2) (hq : L[j]? = some (i, v)) : oa_vd v := hL (i, v) (List.mem_of_getElem? hq)
theorem oa_vc {v : AV} {S : List AV} (h1 : oa_vd v) (h2 : ∀ u ∈ S, oa_vd u) : ∀ u ∈ v :: S, oa_vd u := List.forall_mem_cons.mpr ⟨h1, h2⟩
theorem oa_v1 {v : AV} {S : List AV} (h : ∀ u ∈ v :: S, oa_vd u) : ∀ u ∈ S, oa_vd u := (List.forall_mem_cons.mp h).2
theorem oa_vh {v : AV} {S : List AV} (h : ∀ u ∈ v :: S, oa_vd u) : oa_vd v := (List.forall_mem_cons.mp h).1
def oa_st (L : List (Nat × AV)) (i : Nat) (v : AV) : List (Nat × AV) := (i, v) :: L.filter (fun q => !(q.1 == i) && !(q.1 + 1 == i && oa_cat q.2 == 2))
def oa_st2 (L : List (Nat × AV)) (i : Nat) (v : AV) : List (Nat × AV) := (i, v) :: L.filter (fun q => !(q.1 == i) && (!(q.1 == i + 1) && !(q.1 + 1 == i && oa_cat q.2 == 2)))
theorem oa_lz_st (w : WD) (L : List (Nat × AV)) (i : Nat) (v : AV) : (i, oa_cz w v) :: (oa_lz w L).filter (fun q => !(q.1 == i) && !(q.1 + 1 == i && q.2.category == 2)) = oa_lz w (oa_st L i v) := by
  unfold oa_st
  show _ = (i, oa_cz w v) :: oa_lz w _
  refine congrArg _ ?_
  unfold oa_lz
  rw [List.filter_map]
  refine congrArg _ (List.filter_congr fun q _ => ?_)
  simp only [Function.comp, oa_cat_cz]
theorem oa_lz_st2 (w : WD) (L : List (Nat × AV)) (i : Nat) (v : AV) : (i, oa_cz w v) :: (oa_lz w L).filter (fun q => !(q.1 == i) && (!(q.1 == i + 1) && !(q.1 + 1 == i && q.2.category == 2))) = oa_lz w (oa_st2 L i v) := by
  unfold oa_st2
  show _ = (i, oa_cz w v) :: oa_lz w _
  refine congrArg _ ?_
  unfold oa_lz
  rw [List.filter_map]
  refine congrArg _ (List.filter_congr fun q _ => ?_)
  simp only [Function.comp, oa_cat_cz]
theorem oa_vst {L : List (Nat × AV)} {i : Nat} {v : AV} (hL : ∀ q ∈ L, oa_vd q.2) (hv : oa_vd v) : ∀ q ∈ oa_st L i v, oa_vd q.2 := by
  intro q hq
  rcases List.mem_cons.mp hq with rfl | hq
  · exact hv
  · exact hL q (List.mem_filter.mp hq).1
theorem oa_vst2 {L : List (Nat × AV)} {i : Nat} {v : AV} (hL : ∀ q ∈ L, oa_vd q.2) (hv : oa_vd v) : ∀ q ∈ oa_st2 L i v, oa_vd q.2 := by
  intro q hq
  rcases List.mem_cons.mp hq with rfl | hq
  · exact hv
  · exact hL q (List.mem_filter.mp hq).1
/-- fewer locals, in any order -/
theorem aw_sub (js : List Nat) (hj : js.filterMap (fun j => L[j]?) = L2) (k : AW X d rb M pc L2 S h Qr Qx) : AW X d rb M pc L S h Qr Qx := by
  intro w p l e R s m args below meth c mc ms F hX hf hlo hmc hms H locs cells slots ls hc hs hRP hS hl hL hV
  subst hj
  refine k w p l e R s m args below meth c mc ms F hX hf hlo hmc hms H locs cells slots ls hc hs hRP hS ?_ (fun q hq => ?_) hV
  · refine ⟨hl.1, hl.2.1, fun q hq => ?_⟩
    obtain ⟨q0, h0, rfl⟩ := List.mem_map.mp hq
    obtain ⟨j, -, hj⟩ := List.mem_filterMap.mp h0
    exact hl.2.2 _ (List.mem_map.mpr ⟨q0, List.mem_of_getElem? hj, rfl⟩)
  · obtain ⟨j, -, hj⟩ := List.mem_filterMap.mp hq
    exact hL q (List.mem_of_getElem? hj)
theorem aw_iadd {x y : Int32} (hd : decode M.2.1 pc = .ok (.iadd, 1)) (hn : pc + 1 = n)  (k : AW X d rb M n L (vI (x + y) :: S) h Qr Qx) : AW X d rb M pc L (vI y :: vI x :: S) h Qr Qx := by
  intro w p l e R s m args below meth c mc ms F hX hf hlo hmc hms H locs cells slots ls hc hs hRP hS hl hL hV
  subst hn
  exact lv_iadd F.1 F.2.1 hd  (k w p l e R s m args below meth c mc ms F hX hf hlo hmc hms H locs cells slots ls hc hs hRP hS hl hL (oa_vc trivial (oa_v1 (oa_v1 hV))))
theorem aw_isub {x y : Int32} (hd : decode M.2.1 pc = .ok (.isub, 1)) (hn : pc + 1 = n)  (k : AW X d rb M n L (vI (x - y) :: S) h Qr Qx) : AW X d rb M pc L (vI y :: vI x :: S) h Qr Qx := by
  intro w p l e R s m args below meth c mc ms F hX hf hlo hmc hms H locs cells slots ls hc hs hRP hS hl hL hV
  subst hn
  exact lv_isub F.1 F.2.1 hd  (k w p l e R s m args below meth c mc ms F hX hf hlo hmc hms H locs cells slots ls hc hs hRP hS hl hL (oa_vc trivial (oa_v1 (oa_v1 hV))))
theorem aw_imul {x y : Int32} (hd : decode M.2.1 pc = .ok (.imul, 1)) (hn : pc + 1 = n)  (k : AW X d rb M n L (vI (x * y) :: S) h Qr Qx) : AW X d rb M pc L (vI y :: vI x :: S) h Qr Qx := by
  intro w p l e R s m args below meth c mc ms F hX hf hlo hmc hms H locs cells slots ls hc hs hRP hS hl hL hV
  subst hn
  exact lv_imul F.1 F.2.1 hd  (k w p l e R s m args below meth c mc ms F hX hf hlo hmc hms H locs cells slots ls hc hs hRP hS hl hL (oa_vc trivial (oa_v1 (oa_v1 hV))))
theorem aw_iand {x y : Int32} (hd : decode M.2.1 pc = .ok (.iand, 1)) (hn : pc + 1 = n)  (k : AW X d rb M n L (vI (x &&& y) :: S) h Qr Qx) : AW X d rb M pc L (vI y :: vI x :: S) h Qr Qx := by
  intro w p l e R s m args below meth c mc ms F hX hf hlo hmc hms H locs cells slots ls hc hs hRP hS hl hL hV
  subst hn
  exact lv_iand F.1 F.2.1 hd  (k w p l e R s m args below meth c mc ms F hX hf hlo hmc hms H locs cells slots ls hc hs hRP hS hl hL (oa_vc trivial (oa_v1 (oa_v1 hV))))
theorem aw_ior {x y : Int32} (hd : decode M.2.1 pc = .ok (.ior, 1)) (hn : pc + 1 = n)  (k : AW X d rb M n L (vI (x ||| y) :: S) h Qr Qx) : AW X d rb M pc L (vI y :: vI x :: S) h Qr Qx := by
  intro w p l e R s m args below meth c mc ms F hX hf hlo hmc hms H locs cells slots ls hc hs hRP hS hl hL hV
  subst hn
  exact lv_ior F.1 F.2.1 hd  (k w p l e R s m args below meth c mc ms F hX hf hlo hmc hms H locs cells slots ls hc hs hRP hS hl hL (oa_vc trivial (oa_v1 (oa_v1 hV))))
theorem aw_ixor {x y : Int32} (hd : decode M.2.1 pc = .ok (.ixor, 1)) (hn : pc + 1 = n)  (k : AW X d rb M n L (vI (x ^^^ y) :: S) h Qr Qx) : AW X d rb M pc L (vI y :: vI x :: S) h Qr Qx := by
  intro w p l e R s m args below meth c mc ms F hX hf hlo hmc hms H locs cells slots ls hc hs hRP hS hl hL hV
  subst hn
  exact lv_ixor F.1 F.2.1 hd  (k w p l e R s m args below meth c mc ms F hX hf hlo hmc hms H locs cells slots ls hc hs hRP hS hl hL (oa_vc trivial (oa_v1 (oa_v1 hV))))
theorem aw_ishl {x y : Int32} (hd : decode M.2.1 pc = .ok (.ishl, 1)) (hn : pc + 1 = n)  (k : AW X d rb M n L (vI (x <<< (y &&& 31)) :: S) h Qr Qx) : AW X d rb M pc L (vI y :: vI x :: S) h Qr Qx := by
  intro w p l e R s m args below meth c mc ms F hX hf hlo hmc hms H locs cells slots ls hc hs hRP hS hl hL hV
  subst hn
  exact lv_ishl F.1 F.2.1 hd  (k w p l e R s m args below meth c mc ms F hX hf hlo hmc hms H locs cells slots ls hc hs hRP hS hl hL (oa_vc trivial (oa_v1 (oa_v1 hV))))
theorem aw_ishr {x y : Int32} (hd : decode M.2.1 pc = .ok (.ishr, 1)) (hn : pc + 1 = n)  (k : AW X d rb M n L (vI (x >>> (y &&& 31)) :: S) h Qr Qx) : AW X d rb M pc L (vI y :: vI x :: S) h Qr Qx := by
  intro w p l e R s m args below meth c mc ms F hX hf hlo hmc hms H locs cells slots ls hc hs hRP hS hl hL hV
  subst hn
  exact lv_ishr F.1 F.2.1 hd  (k w p l e R s m args below meth c mc ms F hX hf hlo hmc hms H locs cells slots ls hc hs hRP hS hl hL (oa_vc trivial (oa_v1 (oa_v1 hV))))
theorem aw_idiv {x y : Int32} (hd : decode M.2.1 pc = .ok (.idiv, 1)) (hn : pc + 1 = n) (hz : ¬ y = 0) (k : AW X d rb M n L (vI (x / y) :: S) h Qr Qx) : AW X d rb M pc L (vI y :: vI x :: S) h Qr Qx := by
  intro w p l e R s m args below meth c mc ms F hX hf hlo hmc hms H locs cells slots ls hc hs hRP hS hl hL hV
  subst hn
  exact lv_idiv F.1 F.2.1 hd hz (k w p l e R s m args below meth c mc ms F hX hf hlo hmc hms H locs cells slots ls hc hs hRP hS hl hL (oa_vc trivial (oa_v1 (oa_v1 hV))))
theorem aw_irem {x y : Int32} (hd : decode M.2.1 pc = .ok (.irem, 1)) (hn : pc + 1 = n) (hz : ¬ y = 0) (k : AW X d rb M n L (vI (x - x / y * y) :: S) h Qr Qx) : AW X d rb M pc L (vI y :: vI x :: S) h Qr Qx := by
  intro w p l e R s m args below meth c mc ms F hX hf hlo hmc hms H locs cells slots ls hc hs hRP hS hl hL hV
  subst hn
  exact lv_irem F.1 F.2.1 hd hz (k w p l e R s m args below meth c mc ms F hX hf hlo hmc hms H locs cells slots ls hc hs hRP hS hl hL (oa_vc trivial (oa_v1 (oa_v1 hV))))
theorem aw_ineg {x : Int32} (hd : decode M.2.1 pc = .ok (.ineg, 1)) (hn : pc + 1 = n)  (k : AW X d rb M n L (vI (-x) :: S) h Qr Qx) : AW X d rb M pc L (vI x :: S) h Qr Qx := by
  intro w p l e R s m args below meth c mc ms F hX hf hlo hmc hms H locs cells slots ls hc hs hRP hS hl hL hV
  subst hn
  exact lv_ineg F.1 F.2.1 hd  (k w p l e R s m args below meth c mc ms F hX hf hlo hmc hms H locs cells slots ls hc hs hRP hS hl hL (oa_vc trivial (oa_v1 hV)))
theorem aw_iushr {x y : Int32} (hd : decode M.2.1 pc = .ok (.iushr, 1)) (hn : pc + 1 = n)  (k : AW X d rb M n L (vI (x.toUInt32 >>> (y.toUInt32 &&& Int32.toUInt32 31)).toInt32 :: S) h Qr Qx) : AW X d rb M pc L (vI y :: vI x :: S) h Qr Qx := by
  intro w p l e R s m args below meth c mc ms F hX hf hlo hmc hms H locs cells slots ls hc hs hRP hS hl hL hV
  subst hn
  exact lv_iushr F.1 F.2.1 hd rfl (k w p l e R s m args below meth c mc ms F hX hf hlo hmc hms H locs cells slots ls hc hs hRP hS hl hL (oa_vc trivial (oa_v1 (oa_v1 hV))))
theorem aw_ladd {x y : Int64} (hd : decode M.2.1 pc = .ok (.ladd, 1)) (hn : pc + 1 = n)  (k : AW X d rb M n L (vJ (x + y) :: S) h Qr Qx) : AW X d rb M pc L (vJ y :: vJ x :: S) h Qr Qx := by
  intro w p l e R s m args below meth c mc ms F hX hf hlo hmc hms H locs cells slots ls hc hs hRP hS hl hL hV
  subst hn
  exact lv_ladd F.1 F.2.1 hd  (k w p l e R s m args below meth c mc ms F hX hf hlo hmc hms H locs cells slots ls hc hs hRP hS hl hL (oa_vc trivial (oa_v1 (oa_v1 hV))))
theorem aw_lsub {x y : Int64} (hd : decode M.2.1 pc = .ok (.lsub, 1)) (hn : pc + 1 = n)  (k : AW X d rb M n L (vJ (x - y) :: S) h Qr Qx) : AW X d rb M pc L (vJ y :: vJ x :: S) h Qr Qx := by
  intro w p l e R s m args below meth c mc ms F hX hf hlo hmc hms H locs cells slots ls hc hs hRP hS hl hL hV
  subst hn
  exact lv_lsub F.1 F.2.1 hd  (k w p l e R s m args below meth c mc ms F hX hf hlo hmc hms H locs cells slots ls hc hs hRP hS hl hL (oa_vc trivial (oa_v1 (oa_v1 hV))))
theorem aw_lmul {x y : Int64} (hd : decode M.2.1 pc = .ok (.lmul, 1)) (hn : pc + 1 = n)  (k : AW X d rb M n L (vJ (x * y) :: S) h Qr Qx) : AW X d rb M pc L (vJ y :: vJ x :: S) h Qr Qx := by
  intro w p l e R s m args below meth c mc ms F hX hf hlo hmc hms H locs cells slots ls hc hs hRP hS hl hL hV
  subst hn
  exact lv_lmul F.1 F.2.1 hd  (k w p l e R s m args below meth c mc ms F hX hf hlo hmc hms H locs cells slots ls hc hs hRP hS hl hL (oa_vc trivial (oa_v1 (oa_v1 hV))))
theorem aw_lor {x y : Int64} (hd : decode M.2.1 pc = .ok (.lor, 1)) (hn : pc + 1 = n)  (k : AW X d rb M n L (vJ (x ||| y) :: S) h Qr Qx) : AW X d rb M pc L (vJ y :: vJ x :: S) h Qr Qx := by
  intro w p l e R s m args below meth c mc ms F hX hf hlo hmc hms H locs cells slots ls hc hs hRP hS hl hL hV
  subst hn
  exact lv_lor F.1 F.2.1 hd  (k w p l e R s m args below meth c mc ms F hX hf hlo hmc hms H locs cells slots ls hc hs hRP hS hl hL (oa_vc trivial (oa_v1 (oa_v1 hV))))
theorem aw_ldiv {x y : Int64} (hd : decode M.2.1 pc = .ok (.ldiv, 1)) (hn : pc + 1 = n) (hz : ¬ y = 0) (k : AW X d rb M n L (vJ (x / y) :: S) h Qr Qx) : AW X d rb M pc L (vJ y :: vJ x :: S) h Qr Qx := by
  intro w p l e R s m args below meth c mc ms F hX hf hlo hmc hms H locs cells slots ls hc hs hRP hS hl hL hV
  subst hn
  exact lv_ldiv F.1 F.2.1 hd hz (k w p l e R s m args below meth c mc ms F hX hf hlo hmc hms H locs cells slots ls hc hs hRP hS hl hL (oa_vc trivial (oa_v1 (oa_v1 hV))))
theorem aw_lushr {x : Int64} {y : Int32} (hd : decode M.2.1 pc = .ok (.lushr, 1)) (hn : pc + 1 = n)  (k : AW X d rb M n L (vJ (x.toUInt64 >>> (y.toInt64.toUInt64 &&& Int64.toUInt64 63)).toInt64 :: S) h Qr Qx) : AW X d rb M pc L (vI y :: vJ x :: S) h Qr Qx := by
  intro w p l e R s m args below meth c mc ms F hX hf hlo hmc hms H locs cells slots ls hc hs hRP hS hl hL hV
  subst hn
  exact lv_lushr F.1 F.2.1 hd rfl (k w p l e R s m args below meth c mc ms F hX hf hlo hmc hms H locs cells slots ls hc hs hRP hS hl hL (oa_vc trivial (oa_v1 (oa_v1 hV))))
theorem aw_lshl {x : Int64} {y : Int32} (hd : decode M.2.1 pc = .ok (.lshl, 1)) (hn : pc + 1 = n)  (k : AW X d rb M n L (vJ (x <<< (y.toInt64 &&& 63)) :: S) h Qr Qx) : AW X d rb M pc L (vI y :: vJ x :: S) h Qr Qx := by
  intro w p l e R s m args below meth c mc ms F hX hf hlo hmc hms H locs cells slots ls hc hs hRP hS hl hL hV
  subst hn
  exact lv_lshl F.1 F.2.1 hd rfl (k w p l e R s m args below meth c mc ms F hX hf hlo hmc hms H locs cells slots ls hc hs hRP hS hl hL (oa_vc trivial (oa_v1 (oa_v1 hV))))
theorem aw_i2l {x : Int32} (hd : decode M.2.1 pc = .ok (.i2l, 1)) (hn : pc + 1 = n)  (k : AW X d rb M n L (vJ x.toInt64 :: S) h Qr Qx) : AW X d rb M pc L (vI x :: S) h Qr Qx := by
  intro w p l e R s m args below meth c mc ms F hX hf hlo hmc hms H locs cells slots ls hc hs hRP hS hl hL hV
  subst hn
  exact lv_i2l F.1 F.2.1 hd rfl (k w p l e R s m args below meth c mc ms F hX hf hlo hmc hms H locs cells slots ls hc hs hRP hS hl hL (oa_vc trivial (oa_v1 hV)))
theorem aw_l2i {x : Int64} (hd : decode M.2.1 pc = .ok (.l2i, 1)) (hn : pc + 1 = n)  (k : AW X d rb M n L (vI x.toInt32 :: S) h Qr Qx) : AW X d rb M pc L (vJ x :: S) h Qr Qx := by
  intro w p l e R s m args below meth c mc ms F hX hf hlo hmc hms H locs cells slots ls hc hs hRP hS hl hL hV
  subst hn
  exact lv_l2i F.1 F.2.1 hd rfl (k w p l e R s m args below meth c mc ms F hX hf hlo hmc hms H locs cells slots ls hc hs hRP hS hl hL (oa_vc trivial (oa_v1 hV)))
theorem aw_i2b {x : Int32} (hd : decode M.2.1 pc = .ok (.i2b, 1)) (hn : pc + 1 = n)  (k : AW X d rb M n L (vI x.toInt8.toInt32 :: S) h Qr Qx) : AW X d rb M pc L (vI x :: S) h Qr Qx := by
  intro w p l e R s m args below meth c mc ms F hX hf hlo hmc hms H locs cells slots ls hc hs hRP hS hl hL hV
  subst hn
  exact lv_i2b F.1 F.2.1 hd rfl (k w p l e R s m args below meth c mc ms F hX hf hlo hmc hms H locs cells slots ls hc hs hRP hS hl hL (oa_vc trivial (oa_v1 hV)))
theorem aw_iconst {z : Int} {v : Int32} (hd : decode M.2.1 pc = .ok (.iconst z, 1)) (hn : pc + 1 = n) (hv : Int32.ofInt z = v) (k : AW X d rb M n L (vI v :: S) h Qr Qx) : AW X d rb M pc L S h Qr Qx := by
  intro w p l e R s m args below meth c mc ms F hX hf hlo hmc hms H locs cells slots ls hc hs hRP hS hl hL hV
  subst hn
  exact lv_iconst F.1 F.2.1 hd hv (k w p l e R s m args below meth c mc ms F hX hf hlo hmc hms H locs cells slots ls hc hs hRP hS hl hL (oa_vc trivial hV))
theorem aw_bipush {z : Int} {v : Int32} (hd : decode M.2.1 pc = .ok (.bipush z, 2)) (hn : pc + 2 = n) (hv : (Int8.ofInt z).toInt32 = v) (k : AW X d rb M n L (vI v :: S) h Qr Qx) : AW X d rb M pc L S h Qr Qx := by
  intro w p l e R s m args below meth c mc ms F hX hf hlo hmc hms H locs cells slots ls hc hs hRP hS hl hL hV
  subst hn
  exact lv_bipush F.1 F.2.1 hd hv (k w p l e R s m args below meth c mc ms F hX hf hlo hmc hms H locs cells slots ls hc hs hRP hS hl hL (oa_vc trivial hV))
theorem aw_sipush {z : Int} {v : Int32} (hd : decode M.2.1 pc = .ok (.sipush z, 3)) (hn : pc + 3 = n) (hv : (Int16.ofInt z).toInt32 = v) (k : AW X d rb M n L (vI v :: S) h Qr Qx) : AW X d rb M pc L S h Qr Qx := by
  intro w p l e R s m args below meth c mc ms F hX hf hlo hmc hms H locs cells slots ls hc hs hRP hS hl hL hV
  subst hn
  exact lv_sipush F.1 F.2.1 hd hv (k w p l e R s m args below meth c mc ms F hX hf hlo hmc hms H locs cells slots ls hc hs hRP hS hl hL (oa_vc trivial hV))
theorem aw_lconst {z : Fin 2} {v : Int64} (hd : decode M.2.1 pc = .ok (.lconst z, 1)) (hn : pc + 1 = n) (hv : Int64.ofNat (z : Nat) = v) (k : AW X d rb M n L (vJ v :: S) h Qr Qx) : AW X d rb M pc L S h Qr Qx := by
  intro w p l e R s m args below meth c mc ms F hX hf hlo hmc hms H locs cells slots ls hc hs hRP hS hl hL hV
  subst hn
  exact lv_lconst F.1 F.2.1 hd hv (k w p l e R s m args below meth c mc ms F hX hf hlo hmc hms H locs cells slots ls hc hs hRP hS hl hL (oa_vc trivial hV))
theorem aw_ldcI {i : Nat} {v : Int32} (hd : decode M.2.1 pc = .ok (.ldc i, 2)) (hn : pc + 2 = n) (hw : Cond.constant M.1.cls i v ∈ oa_GT) (k : AW X d rb M n L (vI v :: S) h Qr Qx) : AW X d rb M pc L S h Qr Qx := by
  intro w p l e R s m args below meth c mc ms F hX hf hlo hmc hms H locs cells slots ls hc hs hRP hS hl hL hV
  subst hn
  exact lv_ldc F.1 F.2.1 F.2.2.2.2.1 (F.2.2.2.2.2.2.2.2.1 _ hw args) hd (k w p l e R s m args below meth c mc ms F hX hf hlo hmc hms H locs cells slots ls hc hs hRP hS hl hL (oa_vc trivial hV))
theorem aw_dup {v : AV} (hd : decode M.2.1 pc = .ok (.dup, 1)) (hn : pc + 1 = n) (hv : oa_cat v = 1) (k : AW X d rb M n L (v :: v :: S) h Qr Qx) : AW X d rb M pc L (v :: S) h Qr Qx := by
  intro w p l e R s m args below meth c mc ms F hX hf hlo hmc hms H locs cells slots ls hc hs hRP hS hl hL hV
  subst hn
  exact lv_dup F.1 F.2.1 hd ((oa_cat_cz w v).trans hv) (k w p l e R s m args below meth c mc ms F hX hf hlo hmc hms H locs cells slots ls hc hs hRP hS hl hL (oa_vc (oa_vh hV) hV))
theorem aw_pop {v : AV} (hd : decode M.2.1 pc = .ok (.pop, 1)) (hn : pc + 1 = n) (hv : oa_cat v = 1) (k : AW X d rb M n L S h Qr Qx) : AW X d rb M pc L (v :: S) h Qr Qx := by
  intro w p l e R s m args below meth c mc ms F hX hf hlo hmc hms H locs cells slots ls hc hs hRP hS hl hL hV
  subst hn
  exact lv_pop F.1 F.2.1 hd ((oa_cat_cz w v).trans hv) (k w p l e R s m args below meth c mc ms F hX hf hlo hmc hms H locs cells slots ls hc hs hRP hS hl hL (oa_v1 hV))
theorem aw_dup2 {v u : AV} (hd : decode M.2.1 pc = .ok (.dup2, 1)) (hn : pc + 1 = n) (hv : oa_cat v = 1) (hu : oa_cat u = 1) (k : AW X d rb M n L (v :: u :: v :: u :: S) h Qr Qx) : AW X d rb M pc L (v :: u :: S) h Qr Qx := by
  intro w p l e R s m args below meth c mc ms F hX hf hlo hmc hms H locs cells slots ls hc hs hRP hS hl hL hV
  subst hn
  exact lv_dup2_11 F.1 F.2.1 hd ((oa_cat_cz w v).trans hv) ((oa_cat_cz w u).trans hu) (k w p l e R s m args below meth c mc ms F hX hf hlo hmc hms H locs cells slots ls hc hs hRP hS hl hL (oa_vc (oa_vh hV) (oa_vc (oa_vh (oa_v1 hV)) hV)))
theorem aw_lcmp {x y : Int64} (hd : decode M.2.1 pc = .ok (.lcmp, 1)) (hn : pc + 1 = n) (k : AW X d rb M n L (vI (lg_cmp x y) :: S) h Qr Qx) : AW X d rb M pc L (vJ y :: vJ x :: S) h Qr Qx := by
  intro w p l e R s m args below meth c mc ms F hX hf hlo hmc hms H locs cells slots ls hc hs hRP hS hl hL hV
  subst hn
  exact W.lcmp F.1 F.2.1 hd (k w p l e R s m args below meth c mc ms F hX hf hlo hmc hms H locs cells slots ls hc hs hRP hS hl hL (oa_vc trivial (oa_v1 (oa_v1 hV))))
theorem aw_iload_n {q : Fin 4} {j i : Nat} {x : Int32} (hd : decode M.2.1 pc = .ok (.iload_n q, 1)) (hn : pc + 1 = n) (hi : (q : Nat) = i) (hq : L[j]? = some (i, vI x)) (k : AW X d rb M n L (vI x :: S) h Qr Qx) : AW X d rb M pc L S h Qr Qx := by
  intro w p l e R s m args below meth c mc ms F hX hf hlo hmc hms H locs cells slots ls hc hs hRP hS hl hL hV
  subst hn
  exact lv_iload_n F.1 F.2.1 hd hi (oa_at hl hq) (k w p l e R s m args below meth c mc ms F hX hf hlo hmc hms H locs cells slots ls hc hs hRP hS hl hL (oa_vc trivial hV))
theorem aw_iload {j i : Nat} {x : Int32} (hd : decode M.2.1 pc = .ok (.iload i, 2)) (hn : pc + 2 = n) (hq : L[j]? = some (i, vI x)) (k : AW X d rb M n L (vI x :: S) h Qr Qx) : AW X d rb M pc L S h Qr Qx := by
  intro w p l e R s m args below meth c mc ms F hX hf hlo hmc hms H locs cells slots ls hc hs hRP hS hl hL hV
  subst hn
  exact lv_iload F.1 F.2.1 hd (oa_at hl hq) (k w p l e R s m args below meth c mc ms F hX hf hlo hmc hms H locs cells slots ls hc hs hRP hS hl hL (oa_vc trivial hV))
theorem aw_lload_n {q : Fin 4} {j i : Nat} {x : Int64} (hd : decode M.2.1 pc = .ok (.lload_n q, 1)) (hn : pc + 1 = n) (hi : (q : Nat) = i) (hq : L[j]? = some (i, vJ x)) (k : AW X d rb M n L (vJ x :: S) h Qr Qx) : AW X d rb M pc L S h Qr Qx := by
  intro w p l e R s m args below meth c mc ms F hX hf hlo hmc hms H locs cells slots ls hc hs hRP hS hl hL hV
  subst hn
  exact lv_lload_n F.1 F.2.1 hd hi (oa_at hl hq) (k w p l e R s m args below meth c mc ms F hX hf hlo hmc hms H locs cells slots ls hc hs hRP hS hl hL (oa_vc trivial hV))
theorem aw_lload {j i : Nat} {x : Int64} (hd : decode M.2.1 pc = .ok (.lload i, 2)) (hn : pc + 2 = n) (hq : L[j]? = some (i, vJ x)) (k : AW X d rb M n L (vJ x :: S) h Qr Qx) : AW X d rb M pc L S h Qr Qx := by
  intro w p l e R s m args below meth c mc ms F hX hf hlo hmc hms H locs cells slots ls hc hs hRP hS hl hL hV
  subst hn
  exact lv_lload F.1 F.2.1 hd (oa_at hl hq) (k w p l e R s m args below meth c mc ms F hX hf hlo hmc hms H locs cells slots ls hc hs hRP hS hl hL (oa_vc trivial hV))
theorem aw_aload_n {q : Fin 4} {j i t z : Nat} (hd : decode M.2.1 pc = .ok (.aload_n q, 1)) (hn : pc + 1 = n) (hi : (q : Nat) = i) (hq : L[j]? = some (i, vR t z)) (k : AW X d rb M n L (vR t z :: S) h Qr Qx) : AW X d rb M pc L S h Qr Qx := by
  intro w p l e R s m args below meth c mc ms F hX hf hlo hmc hms H locs cells slots ls hc hs hRP hS hl hL hV
  subst hn
  exact lv_aload_n F.1 F.2.1 hd hi (oa_at hl hq) (k w p l e R s m args below meth c mc ms F hX hf hlo hmc hms H locs cells slots ls hc hs hRP hS hl hL (oa_vc (oa_vget hL hq) hV))
theorem aw_aload {j i t z : Nat} (hd : decode M.2.1 pc = .ok (.aload i, 2)) (hn : pc + 2 = n) (hq : L[j]? = some (i, vR t z)) (k : AW X d rb M n L (vR t z :: S) h Qr Qx) : AW X d rb M pc L S h Qr Qx := by
  intro w p l e R s m args below meth c mc ms F hX hf hlo hmc hms H locs cells slots ls hc hs hRP hS hl hL hV
  subst hn
  exact lv_aload F.1 F.2.1 hd (oa_at hl hq) (k w p l e R s m args below meth c mc ms F hX hf hlo hmc hms H locs cells slots ls hc hs hRP hS hl hL (oa_vc (oa_vget hL hq) hV))
theorem aw_istore_n {q : Fin 4} {i : Nat} {x : Int32} (hd : decode M.2.1 pc = .ok (.istore_n q, 1)) (hn : pc + 1 = n) (hi : (q : Nat) = i) (hb : i < M.2.2.1) (hst : oa_st L i (vI x) = L2) (k : AW X d rb M n L2 S h Qr Qx) : AW X d rb M pc L (vI x :: S) h Qr Qx := by
  intro w p l e R s m args below meth c mc ms F hX hf hlo hmc hms H locs cells slots ls hc hs hRP hS hl hL hV
  subst hn
  subst hst
  exact lv_istore_n F.1 F.2.1 hd hi hl hb (oa_lz_st w L i (vI x)) (fun ls hl => k w p l e R s m args below meth c mc ms F hX hf hlo hmc hms H locs cells slots ls hc hs hRP hS hl (oa_vst hL (oa_vh hV)) (oa_v1 hV))
theorem aw_istore {i : Nat} {x : Int32} (hd : decode M.2.1 pc = .ok (.istore i, 2)) (hn : pc + 2 = n) (hb : i < M.2.2.1) (hst : oa_st L i (vI x) = L2) (k : AW X d rb M n L2 S h Qr Qx) : AW X d rb M pc L (vI x :: S) h Qr Qx := by
  intro w p l e R s m args below meth c mc ms F hX hf hlo hmc hms H locs cells slots ls hc hs hRP hS hl hL hV
  subst hn
  subst hst
  exact lv_istore F.1 F.2.1 hd hl hb (oa_lz_st w L i (vI x)) (fun ls hl => k w p l e R s m args below meth c mc ms F hX hf hlo hmc hms H locs cells slots ls hc hs hRP hS hl (oa_vst hL (oa_vh hV)) (oa_v1 hV))
theorem aw_astore_n {q : Fin 4} {i : Nat} {t z : Nat} (hd : decode M.2.1 pc = .ok (.astore_n q, 1)) (hn : pc + 1 = n) (hi : (q : Nat) = i) (hb : i < M.2.2.1) (hst : oa_st L i (vR t z) = L2) (k : AW X d rb M n L2 S h Qr Qx) : AW X d rb M pc L (vR t z :: S) h Qr Qx := by
  intro w p l e R s m args below meth c mc ms F hX hf hlo hmc hms H locs cells slots ls hc hs hRP hS hl hL hV
  subst hn
  subst hst
  exact lv_astore_n F.1 F.2.1 hd hi hl hb (oa_lz_st w L i (vR t z)) (fun ls hl => k w p l e R s m args below meth c mc ms F hX hf hlo hmc hms H locs cells slots ls hc hs hRP hS hl (oa_vst hL (oa_vh hV)) (oa_v1 hV))
theorem aw_astore {i : Nat} {t z : Nat} (hd : decode M.2.1 pc = .ok (.astore i, 2)) (hn : pc + 2 = n) (hb : i < M.2.2.1) (hst : oa_st L i (vR t z) = L2) (k : AW X d rb M n L2 S h Qr Qx) : AW X d rb M pc L (vR t z :: S) h Qr Qx := by
  intro w p l e R s m args below meth c mc ms F hX hf hlo hmc hms H locs cells slots ls hc hs hRP hS hl hL hV
  subst hn
  subst hst
  exact lv_astore F.1 F.2.1 hd hl hb (oa_lz_st w L i (vR t z)) (fun ls hl => k w p l e R s m args below meth c mc ms F hX hf hlo hmc hms H locs cells slots ls hc hs hRP hS hl (oa_vst hL (oa_vh hV)) (oa_v1 hV))
theorem aw_lstore_n {q : Fin 4} {i : Nat} {x : Int64} (hd : decode M.2.1 pc = .ok (.lstore_n q, 1)) (hn : pc + 1 = n) (hi : (q : Nat) = i) (hb : i + 1 < M.2.2.1) (hst : oa_st2 L i (vJ x) = L2) (k : AW X d rb M n L2 S h Qr Qx) : AW X d rb M pc L (vJ x :: S) h Qr Qx := by
  intro w p l e R s m args below meth c mc ms F hX hf hlo hmc hms H locs cells slots ls hc hs hRP hS hl hL hV
  subst hn
  subst hst
  exact lv_lstore_n F.1 F.2.1 hd hi hl hb (oa_lz_st2 w L i (vJ x)) (fun ls hl => k w p l e R s m args below meth c mc ms F hX hf hlo hmc hms H locs cells slots ls hc hs hRP hS hl (oa_vst2 hL (oa_vh hV)) (oa_v1 hV))
theorem aw_lstore {i : Nat} {x : Int64} (hd : decode M.2.1 pc = .ok (.lstore i, 2)) (hn : pc + 2 = n) (hb : i + 1 < M.2.2.1) (hst : oa_st2 L i (vJ x) = L2) (k : AW X d rb M n L2 S h Qr Qx) : AW X d rb M pc L (vJ x :: S) h Qr Qx := by
  intro w p l e R s m args below meth c mc ms F hX hf hlo hmc hms H locs cells slots ls hc hs hRP hS hl hL hV
  subst hn
  subst hst
  exact lv_lstore F.1 F.2.1 hd hl hb (oa_lz_st2 w L i (vJ x)) (fun ls hl => k w p l e R s m args below meth c mc ms F hX hf hlo hmc hms H locs cells slots ls hc hs hRP hS hl (oa_vst2 hL (oa_vh hV)) (oa_v1 hV))
theorem aw_iinc {i j : Nat} {z : Int} {x v : Int32} (hd : decode M.2.1 pc = .ok (.iinc i z, 3)) (hn : pc + 3 = n) (hb : i < M.2.2.1) (hq : L[j]? = some (i, vI x)) (hv : x + Int32.ofInt z = v) (hst : oa_st L i (vI v) = L2) (k : AW X d rb M n L2 S h Qr Qx) : AW X d rb M pc L S h Qr Qx := by
  intro w p l e R s m args below meth c mc ms F hX hf hlo hmc hms H locs cells slots ls hc hs hRP hS hl hL hV
  subst hn
  subst hst
  exact lv_iinc F.1 F.2.1 hd hl (k := j) (by unfold oa_lz; rw [List.getElem?_map, hq]; rfl) hv hb (oa_lz_st w L i (vI v)) (fun ls hl => k w p l e R s m args below meth c mc ms F hX hf hlo hmc hms H locs cells slots ls hc hs hRP hS hl (oa_vst hL trivial) hV)
theorem aw_icmp_eq {x y : Int32} {z : Int} (tg : Nat) (hd : decode M.2.1 pc = .ok (.if_icmp .eq z, 3)) (hn : pc + 3 = n) (ht : (pc : Int) + z = (tg : Int)) (kt : x = y → AW X d rb M tg L S h Qr Qx) (kf : ¬ x = y → AW X d rb M n L S h Qr Qx) : AW X d rb M pc L (vI y :: vI x :: S) h Qr Qx := by
  intro w p l e R s m args below meth c mc ms F hX hf hlo hmc hms H locs cells slots ls hc hs hRP hS hl hL hV
  subst hn
  exact lv_icmp_eq F.1 F.2.1 hd ht (fun q => kt q w p l e R s m args below meth c mc ms F hX hf hlo hmc hms H locs cells slots ls hc hs hRP hS hl hL (oa_v1 (oa_v1 hV))) (fun q => kf q w p l e R s m args below meth c mc ms F hX hf hlo hmc hms H locs cells slots ls hc hs hRP hS hl hL (oa_v1 (oa_v1 hV)))
theorem aw_if_eq {x : Int32} {z : Int} (tg : Nat) (hd : decode M.2.1 pc = .ok (.ifCond .eq z, 3)) (hn : pc + 3 = n) (ht : (pc : Int) + z = (tg : Int)) (kt : x = 0 → AW X d rb M tg L S h Qr Qx) (kf : ¬ x = 0 → AW X d rb M n L S h Qr Qx) : AW X d rb M pc L (vI x :: S) h Qr Qx := by
  intro w p l e R s m args below meth c mc ms F hX hf hlo hmc hms H locs cells slots ls hc hs hRP hS hl hL hV
  subst hn
  exact lv_if_eq F.1 F.2.1 hd ht (fun q => kt q w p l e R s m args below meth c mc ms F hX hf hlo hmc hms H locs cells slots ls hc hs hRP hS hl hL (oa_v1 hV)) (fun q => kf q w p l e R s m args below meth c mc ms F hX hf hlo hmc hms H locs cells slots ls hc hs hRP hS hl hL (oa_v1 hV))
theorem aw_icmp_ne {x y : Int32} {z : Int} (tg : Nat) (hd : decode M.2.1 pc = .ok (.if_icmp .ne z, 3)) (hn : pc + 3 = n) (ht : (pc : Int) + z = (tg : Int)) (kt : ¬ x = y → AW X d rb M tg L S h Qr Qx) (kf : x = y → AW X d rb M n L S h Qr Qx) : AW X d rb M pc L (vI y :: vI x :: S) h Qr Qx := by
  intro w p l e R s m args below meth c mc ms F hX hf hlo hmc hms H locs cells slots ls hc hs hRP hS hl hL hV
  subst hn
  exact lv_icmp_ne F.1 F.2.1 hd ht (fun q => kt q w p l e R s m args below meth c mc ms F hX hf hlo hmc hms H locs cells slots ls hc hs hRP hS hl hL (oa_v1 (oa_v1 hV))) (fun q => kf q w p l e R s m args below meth c mc ms F hX hf hlo hmc hms H locs cells slots ls hc hs hRP hS hl hL (oa_v1 (oa_v1 hV)))
theorem aw_if_ne {x : Int32} {z : Int} (tg : Nat) (hd : decode M.2.1 pc = .ok (.ifCond .ne z, 3)) (hn : pc + 3 = n) (ht : (pc : Int) + z = (tg : Int)) (kt : ¬ x = 0 → AW X d rb M tg L S h Qr Qx) (kf : x = 0 → AW X d rb M n L S h Qr Qx) : AW X d rb M pc L (vI x :: S) h Qr Qx := by
  intro w p l e R s m args below meth c mc ms F hX hf hlo hmc hms H locs cells slots ls hc hs hRP hS hl hL hV
  subst hn
  exact lv_if_ne F.1 F.2.1 hd ht (fun q => kt q w p l e R s m args below meth c mc ms F hX hf hlo hmc hms H locs cells slots ls hc hs hRP hS hl hL (oa_v1 hV)) (fun q => kf q w p l e R s m args below meth c mc ms F hX hf hlo hmc hms H locs cells slots ls hc hs hRP hS hl hL (oa_v1 hV))
theorem aw_icmp_lt {x y : Int32} {z : Int} (tg : Nat) (hd : decode M.2.1 pc = .ok (.if_icmp .lt z, 3)) (hn : pc + 3 = n) (ht : (pc : Int) + z = (tg : Int)) (kt : x < y → AW X d rb M tg L S h Qr Qx) (kf : ¬ x < y → AW X d rb M n L S h Qr Qx) : AW X d rb M pc L (vI y :: vI x :: S) h Qr Qx := by
  intro w p l e R s m args below meth c mc ms F hX hf hlo hmc hms H locs cells slots ls hc hs hRP hS hl hL hV
  subst hn
  exact lv_icmp_lt F.1 F.2.1 hd ht (fun q => kt q w p l e R s m args below meth c mc ms F hX hf hlo hmc hms H locs cells slots ls hc hs hRP hS hl hL (oa_v1 (oa_v1 hV))) (fun q => kf q w p l e R s m args below meth c mc ms F hX hf hlo hmc hms H locs cells slots ls hc hs hRP hS hl hL (oa_v1 (oa_v1 hV)))
theorem aw_if_lt {x : Int32} {z : Int} (tg : Nat) (hd : decode M.2.1 pc = .ok (.ifCond .lt z, 3)) (hn : pc + 3 = n) (ht : (pc : Int) + z = (tg : Int)) (kt : x < 0 → AW X d rb M tg L S h Qr Qx) (kf : ¬ x < 0 → AW X d rb M n L S h Qr Qx) : AW X d rb M pc L (vI x :: S) h Qr Qx := by
  intro w p l e R s m args below meth c mc ms F hX hf hlo hmc hms H locs cells slots ls hc hs hRP hS hl hL hV
  subst hn
  exact lv_if_lt F.1 F.2.1 hd ht (fun q => kt q w p l e R s m args below meth c mc ms F hX hf hlo hmc hms H locs cells slots ls hc hs hRP hS hl hL (oa_v1 hV)) (fun q => kf q w p l e R s m args below meth c mc ms F hX hf hlo hmc hms H locs cells slots ls hc hs hRP hS hl hL (oa_v1 hV))
theorem aw_icmp_ge {x y : Int32} {z : Int} (tg : Nat) (hd : decode M.2.1 pc = .ok (.if_icmp .ge z, 3)) (hn : pc + 3 = n) (ht : (pc : Int) + z = (tg : Int)) (kt : y ≤ x → AW X d rb M tg L S h Qr Qx) (kf : ¬ y ≤ x → AW X d rb M n L S h Qr Qx) : AW X d rb M pc L (vI y :: vI x :: S) h Qr Qx := by
  intro w p l e R s m args below meth c mc ms F hX hf hlo hmc hms H locs cells slots ls hc hs hRP hS hl hL hV
  subst hn
  exact lv_icmp_ge F.1 F.2.1 hd ht (fun q => kt q w p l e R s m args below meth c mc ms F hX hf hlo hmc hms H locs cells slots ls hc hs hRP hS hl hL (oa_v1 (oa_v1 hV))) (fun q => kf q w p l e R s m args below meth c mc ms F hX hf hlo hmc hms H locs cells slots ls hc hs hRP hS hl hL (oa_v1 (oa_v1 hV)))
theorem aw_if_ge {x : Int32} {z : Int} (tg : Nat) (hd : decode M.2.1 pc = .ok (.ifCond .ge z, 3)) (hn : pc + 3 = n) (ht : (pc : Int) + z = (tg : Int)) (kt : 0 ≤ x → AW X d rb M tg L S h Qr Qx) (kf : ¬ 0 ≤ x → AW X d rb M n L S h Qr Qx) : AW X d rb M pc L (vI x :: S) h Qr Qx := by
  intro w p l e R s m args below meth c mc ms F hX hf hlo hmc hms H locs cells slots ls hc hs hRP hS hl hL hV
  subst hn
  exact lv_if_ge F.1 F.2.1 hd ht (fun q => kt q w p l e R s m args below meth c mc ms F hX hf hlo hmc hms H locs cells slots ls hc hs hRP hS hl hL (oa_v1 hV)) (fun q => kf q w p l e R s m args below meth c mc ms F hX hf hlo hmc hms H locs cells slots ls hc hs hRP hS hl hL (oa_v1 hV))
theorem aw_icmp_gt {x y : Int32} {z : Int} (tg : Nat) (hd : decode M.2.1 pc = .ok (.if_icmp .gt z, 3)) (hn : pc + 3 = n) (ht : (pc : Int) + z = (tg : Int)) (kt : y < x → AW X d rb M tg L S h Qr Qx) (kf : ¬ y < x → AW X d rb M n L S h Qr Qx) : AW X d rb M pc L (vI y :: vI x :: S) h Qr Qx := by
  intro w p l e R s m args below meth c mc ms F hX hf hlo hmc hms H locs cells slots ls hc hs hRP hS hl hL hV
  subst hn
  exact lv_icmp_gt F.1 F.2.1 hd ht (fun q => kt q w p l e R s m args below meth c mc ms F hX hf hlo hmc hms H locs cells slots ls hc hs hRP hS hl hL (oa_v1 (oa_v1 hV))) (fun q => kf q w p l e R s m args below meth c mc ms F hX hf hlo hmc hms H locs cells slots ls hc hs hRP hS hl hL (oa_v1 (oa_v1 hV)))
theorem aw_if_gt {x : Int32} {z : Int} (tg : Nat) (hd : decode M.2.1 pc = .ok (.ifCond .gt z, 3)) (hn : pc + 3 = n) (ht : (pc : Int) + z = (tg : Int)) (kt : 0 < x → AW X d rb M tg L S h Qr Qx) (kf : ¬ 0 < x → AW X d rb M n L S h Qr Qx) : AW X d rb M pc L (vI x :: S) h Qr Qx := by
  intro w p l e R s m args below meth c mc ms F hX hf hlo hmc hms H locs cells slots ls hc hs hRP hS hl hL hV
  subst hn
  exact lv_if_gt F.1 F.2.1 hd ht (fun q => kt q w p l e R s m args below meth c mc ms F hX hf hlo hmc hms H locs cells slots ls hc hs hRP hS hl hL (oa_v1 hV)) (fun q => kf q w p l e R s m args below meth c mc ms F hX hf hlo hmc hms H locs cells slots ls hc hs hRP hS hl hL (oa_v1 hV))
theorem aw_icmp_le {x y : Int32} {z : Int} (tg : Nat) (hd : decode M.2.1 pc = .ok (.if_icmp .le z, 3)) (hn : pc + 3 = n) (ht : (pc : Int) + z = (tg : Int)) (kt : x ≤ y → AW X d rb M tg L S h Qr Qx) (kf : ¬ x ≤ y → AW X d rb M n L S h Qr Qx) : AW X d rb M pc L (vI y :: vI x :: S) h Qr Qx := by
  intro w p l e R s m args below meth c mc ms F hX hf hlo hmc hms H locs cells slots ls hc hs hRP hS hl hL hV
  subst hn
  exact lv_icmp_le F.1 F.2.1 hd ht (fun q => kt q w p l e R s m args below meth c mc ms F hX hf hlo hmc hms H locs cells slots ls hc hs hRP hS hl hL (oa_v1 (oa_v1 hV))) (fun q => kf q w p l e R s m args below meth c mc ms F hX hf hlo hmc hms H locs cells slots ls hc hs hRP hS hl hL (oa_v1 (oa_v1 hV)))
theorem aw_if_le {x : Int32} {z : Int} (tg : Nat) (hd : decode M.2.1 pc = .ok (.ifCond .le z, 3)) (hn : pc + 3 = n) (ht : (pc : Int) + z = (tg : Int)) (kt : x ≤ 0 → AW X d rb M tg L S h Qr Qx) (kf : ¬ x ≤ 0 → AW X d rb M n L S h Qr Qx) : AW X d rb M pc L (vI x :: S) h Qr Qx := by
  intro w p l e R s m args below meth c mc ms F hX hf hlo hmc hms H locs cells slots ls hc hs hRP hS hl hL hV
  subst hn
  exact lv_if_le F.1 F.2.1 hd ht (fun q => kt q w p l e R s m args below meth c mc ms F hX hf hlo hmc hms H locs cells slots ls hc hs hRP hS hl hL (oa_v1 hV)) (fun q => kf q w p l e R s m args below meth c mc ms F hX hf hlo hmc hms H locs cells slots ls hc hs hRP hS hl hL (oa_v1 hV))
theorem aw_goto {z : Int} (tg : Nat) (hd : decode M.2.1 pc = .ok (.goto z, 3)) (ht : (pc : Int) + z = (tg : Int)) (k : AW X d rb M tg L S h Qr Qx) : AW X d rb M pc L S h Qr Qx := by
  intro w p l e R s m args below meth c mc ms F hX hf hlo hmc hms H locs cells slots ls hc hs hRP hS hl hL hV
  exact lv_goto F.1 F.2.1 hd ht (k w p l e R s m args below meth c mc ms F hX hf hlo hmc hms H locs cells slots ls hc hs hRP hS hl hL hV)
theorem aw_tabIn {df lo hi z : Int} {of : Array Int} {len : Nat} {x : Int32} (tg : Nat) (hd : decode M.2.1 pc = .ok (.tableswitch df lo hi of, len)) (h1 : ¬ x.toInt < lo) (h2 : ¬ hi < x.toInt) (ho : of[(x.toInt - lo).toNat]? = some z) (ht : (pc : Int) + z = (tg : Int)) (k : AW X d rb M tg L S h Qr Qx) : AW X d rb M pc L (vI x :: S) h Qr Qx := by
  intro w p l e R s m args below meth c mc ms F hX hf hlo hmc hms H locs cells slots ls hc hs hRP hS hl hL hV
  exact lv_tableIn F.1 F.2.1 hd h1 h2 ho ht (k w p l e R s m args below meth c mc ms F hX hf hlo hmc hms H locs cells slots ls hc hs hRP hS hl hL (oa_v1 hV))
theorem aw_tabOut {df lo hi : Int} {of : Array Int} {len : Nat} {x : Int32} (tg : Nat) (hd : decode M.2.1 pc = .ok (.tableswitch df lo hi of, len)) (h1 : x.toInt < lo ∨ hi < x.toInt) (ht : (pc : Int) + df = (tg : Int)) (k : AW X d rb M tg L S h Qr Qx) : AW X d rb M pc L (vI x :: S) h Qr Qx := by
  intro w p l e R s m args below meth c mc ms F hX hf hlo hmc hms H locs cells slots ls hc hs hRP hS hl hL hV
  exact lv_tableOut F.1 F.2.1 hd h1 ht (k w p l e R s m args below meth c mc ms F hX hf hlo hmc hms H locs cells slots ls hc hs hRP hS hl hL (oa_v1 hV))
theorem aw_ifnull {t i : Nat} {z : Int} (hd : decode M.2.1 pc = .ok (.ifnull z, 3)) (hn : pc + 3 = n) (k : AW X d rb M n L S h Qr Qx) : AW X d rb M pc L (vR t i :: S) h Qr Qx := by
  intro w p l e R s m args below meth c mc ms F hX hf hlo hmc hms H locs cells slots ls hc hs hRP hS hl hL hV
  subst hn
  exact lv_ifnull F.1 F.2.1 hd (k w p l e R s m args below meth c mc ms F hX hf hlo hmc hms H locs cells slots ls hc hs hRP hS hl hL (oa_v1 hV))
theorem aw_ifnonnull {t i : Nat} {z : Int} (tg : Nat) (hd : decode M.2.1 pc = .ok (.ifnonnull z, 3)) (ht : (pc : Int) + z = (tg : Int)) (k : AW X d rb M tg L S h Qr Qx) : AW X d rb M pc L (vR t i :: S) h Qr Qx := by
  intro w p l e R s m args below meth c mc ms F hX hf hlo hmc hms H locs cells slots ls hc hs hRP hS hl hL hV
  exact lv_ifnonnull F.1 F.2.1 hd ht (k w p l e R s m args below meth c mc ms F hX hf hlo hmc hms H locs cells slots ls hc hs hRP hS hl hL (oa_v1 hV))
theorem aw_iret {x : Int32} (hd : decode M.2.1 pc = .ok (.ireturn, 1)) (hr : M.2.2.2.1 = some .int) (q : Qr (some (vI x)) h) : AW X d rb M pc L [vI x] h Qr Qx := by
  intro w p l e R s m args below meth c mc ms F hX hf hlo hmc hms H locs cells slots ls hc hs hRP hS hl hL hV
  exact vx_ret (W.widen (k := mc) (n := ms) (Nat.le_trans (Nat.le_add_right _ _) hc) (Nat.le_trans (Nat.le_add_right _ _) hs) (W.iret (v := x) F.1 F.2.1 (F.2.2.2.1.trans hr) (fun t ht _ => ⟨some (vI x), h, rfl, fun u hu => by cases hu; trivial, q, by rw [ht]; exact hRP, hS.F ht⟩) hS.2.2 hd F.2.2.2.2.2.1))
theorem aw_zret {x : Int32} (hd : decode M.2.1 pc = .ok (.ireturn, 1)) (hr : M.2.2.2.1 = some .boolean) (hz : x = 0 ∨ x = 1) (q : Qr (some (vI x)) h) : AW X d rb M pc L [vI x] h Qr Qx := by
  intro w p l e R s m args below meth c mc ms F hX hf hlo hmc hms H locs cells slots ls hc hs hRP hS hl hL hV
  exact vx_ret (W.widen (k := mc) (n := ms) (Nat.le_trans (Nat.le_add_right _ _) hc) (Nat.le_trans (Nat.le_add_right _ _) hs) (W.zret (v := x) F.1 F.2.1 (F.2.2.2.1.trans hr) (by rcases hz with rfl | rfl <;> rfl) (fun t ht _ => ⟨some (vI x), h, rfl, fun u hu => by cases hu; trivial, q, by rw [ht]; exact hRP, hS.F ht⟩) hS.2.2 hd F.2.2.2.2.2.1))
theorem aw_lret {x : Int64} (hd : decode M.2.1 pc = .ok (.lreturn, 1)) (hr : M.2.2.2.1 = some .long) (q : Qr (some (vJ x)) h) : AW X d rb M pc L [vJ x] h Qr Qx := by
  intro w p l e R s m args below meth c mc ms F hX hf hlo hmc hms H locs cells slots ls hc hs hRP hS hl hL hV
  exact vx_ret (W.widen (k := mc) (n := ms) (Nat.le_trans (Nat.le_add_right _ _) hc) (Nat.le_trans (Nat.le_add_right _ _) hs) (W.lret (v := x) F.1 F.2.1 (F.2.2.2.1.trans hr) (fun t ht _ => ⟨some (vJ x), h, rfl, fun u hu => by cases hu; trivial, q, by rw [ht]; exact hRP, hS.F ht⟩) hS.2.2 hd F.2.2.2.2.2.1))
theorem aw_vret  (hd : decode M.2.1 pc = .ok (.return_, 1)) (hr : M.2.2.2.1 = none) (q : Qr (none) h) : AW X d rb M pc L [] h Qr Qx := by
  intro w p l e R s m args below meth c mc ms F hX hf hlo hmc hms H locs cells slots ls hc hs hRP hS hl hL hV
  exact vx_ret (W.widen (k := mc) (n := ms) (Nat.le_trans (Nat.le_add_right _ _) hc) (Nat.le_trans (Nat.le_add_right _ _) hs) (W.vret F.1 F.2.1 (F.2.2.2.1.trans hr) (fun t ht _ => ⟨(none : Option AV), h, rfl, fun (u : AV) (hu : u ∈ (none : Option AV)) => absurd hu (by simp), q, by rw [ht]; exact hRP, hS.F ht⟩) hS.2.2 hd F.2.2.2.2.2.1))
theorem aw_aret {ta i : Nat} {cn : String} (hd : decode M.2.1 pc = .ok (.areturn, 1)) (hr : M.2.2.2.1 = some (.object cn)) (q : Qr (some (vR ta i)) h) : AW X d rb M pc L [vR ta i] h Qr Qx := by
  intro w p l e R s m args below meth c mc ms F hX hf hlo hmc hms H locs cells slots ls hc hs hRP hS hl hL hV
  exact vx_ret (W.widen (k := mc) (n := ms) (Nat.le_trans (Nat.le_add_right _ _) hc) (Nat.le_trans (Nat.le_add_right _ _) hs) (W.aret F.1 F.2.1 (F.2.2.2.1.trans hr) (Or.inl ⟨_, rfl⟩) (Or.inr ⟨_, rfl⟩) (fun t ht _ => ⟨some (vR ta i), h, rfl, fun u hu => by cases hu; exact oa_vh hV, q, by rw [ht]; exact hRP, hS.F ht⟩) hS.2.2 hd F.2.2.2.2.2.1))
end AWR
end
section
/-! changed heaps -/
def hp_a (h : Hp) (t i : Nat) (f : Nat → Int32) : Hp := (fun a b => if a = t ∧ b = i then f else h.1 a b, h.2)
def hp_i (h : Hp) (t i k : Nat) (x : Int32) : Hp := hp_a h t i (upd (h.1 t i) k x)
def hp_b (h : Hp) (t i : Nat) (f : Nat → Int64) : Hp := (h.1, fun a b => if a = t ∧ b = i then f else h.2.1 a b, h.2.2)
def hp_l (h : Hp) (t i k : Nat) (x : Int64) : Hp := hp_b h t i (vp_updL (h.2.1 t i) k x)
def hp_r (h : Hp) (t i k z : Nat) : Hp := (h.1, h.2.1, fun a b c => if a = t ∧ b = i ∧ c = k then z else h.2.2 a b c)
theorem hp_a_s {h : Hp} {t i : Nat} {f : Nat → Int32} : (hp_a h t i f).1 t i = f := if_pos ⟨rfl, rfl⟩
theorem hp_a_n {h : Hp} {t i a b : Nat} {f : Nat → Int32} (hn : ¬ (a = t ∧ b = i)) : (hp_a h t i f).1 a b = h.1 a b := if_neg hn
theorem hp_b_s {h : Hp} {t i : Nat} {f : Nat → Int64} : (hp_b h t i f).2.1 t i = f := if_pos ⟨rfl, rfl⟩
theorem hp_b_n {h : Hp} {t i a b : Nat} {f : Nat → Int64} (hn : ¬ (a = t ∧ b = i)) : (hp_b h t i f).2.1 a b = h.2.1 a b := if_neg hn
theorem oa_ent_congr {w : WD} {h h' : Hp} {t i : Nat} (h1 : h'.1 t i = h.1 t i) (h2 : h'.2.1 t i = h.2.1 t i) (h3 : h'.2.2 t i = h.2.2 t i) : oa_ent w h' t i = oa_ent w h t i := by
  have hf : (fun k f => oa_fv w h' t i k f) = (fun k f => oa_fv w h t i k f) := by
    funext k f
    simp only [oa_fv, h1, h3]
  simp only [oa_ent, h1, h2, hf]
theorem oa_ent0 {w : WD} {h : Hp} {t i ci : Nat} {fs : List (Nat × Nat)} (hk : oa_kd t = (0, ci, fs)) : oa_ent w h t i = .inr (ci, fs.mapIdx fun k f => oa_fv w h t i k f) := by
  unfold oa_ent; rw [hk]; rfl
theorem oa_ent1 {w : WD} {h : Hp} {t i n : Nat} {fs : List (Nat × Nat)} (hk : oa_kd t = (1, n, fs)) : oa_ent w h t i = .inl (w.2.1 0, n, .inl (h.1 t i)) := by
  unfold oa_ent; rw [hk]; rfl
theorem oa_ent2 {w : WD} {h : Hp} {t i n : Nat} {fs : List (Nat × Nat)} (hk : oa_kd t = (2, n, fs)) : oa_ent w h t i = .inl (w.2.1 1, n, .inl (h.1 t i)) := by
  unfold oa_ent; rw [hk]; rfl
theorem oa_ent3 {w : WD} {h : Hp} {t i n : Nat} {fs : List (Nat × Nat)} (hk : oa_kd t = (3, n, fs)) : oa_ent w h t i = .inl (w.2.1 2, n, .inr (.inl (h.2.1 t i))) := by
  unfold oa_ent; rw [hk]; rfl
theorem oa_ent4 {w : WD} {h : Hp} {t i n : Nat} {fs : List (Nat × Nat)} (hk : oa_kd t = (4, n, fs)) : oa_ent w h t i = .inl (w.2.1 3, n, .inl (h.1 t i)) := by
  unfold oa_ent; rw [hk]; rfl
theorem oa_ent5 {w : WD} {h : Hp} {t i n o u : Nat} (hk : oa_kd t = (5, n, [(o, u)])) : oa_ent w h t i = .inl (w.2.1 4, n, .inr (.inr (.inr (.inr fun j => if j < n then some (w.2.2.1 u (o + j)) else none)))) := by
  unfold oa_ent; rw [hk]; rfl
theorem oa_ent6 {w : WD} {h : Hp} {t i n o u : Nat} (hk : oa_kd t = (6, n, [(o, u)])) : oa_ent w h t i = .inl (w.2.1 5, n, .inr (.inr (.inr (.inr fun j => if j < n then some (w.2.2.1 u (o * i + j)) else none)))) := by
  unfold oa_ent; rw [hk]; rfl
/-- the row of ints of one cell is replaced -/
theorem oa_RP_a {w : WD} {h : Hp} {t i k : Nat} {f : Nat → Int32} {H1 : Heap} (hk : oa_ix[k]? = some (t, i)) (hok : oa_ok h) (hz : (oa_kd t).1 = 4 → ∀ j, f j = 0 ∨ f j = 1)
    (hP : va_P w.1 vwCl ((oa_ws w h).set k (w.2.2.1 t i, oa_ent w (hp_a h t i f) t i)) H1) (hD : va_D (oa_A w) (oa_ws w h)) : oa_RP w (hp_a h t i f) H1 := by
  rw [oa_ws_set hk (fun t' i' hne => oa_ent_congr (hp_a_n (fun e => hne (by rw [e.1, e.2]))) rfl rfl)] at hP
  refine ⟨hP, oa_D_any hD, hok.1, fun t' i' k' h4 => ?_⟩
  by_cases e : t' = t ∧ i' = i
  · obtain ⟨rfl, rfl⟩ := e
    rw [hp_a_s]
    exact hz h4 k'
  · rw [hp_a_n e]
    exact hok.2 t' i' k' h4
theorem oa_RP_b {w : WD} {h : Hp} {t i k : Nat} {f : Nat → Int64} {H1 : Heap} (hk : oa_ix[k]? = some (t, i)) (hok : oa_ok h)
    (hP : va_P w.1 vwCl ((oa_ws w h).set k (w.2.2.1 t i, oa_ent w (hp_b h t i f) t i)) H1) (hD : va_D (oa_A w) (oa_ws w h)) : oa_RP w (hp_b h t i f) H1 := by
  rw [oa_ws_set (h := h) (h' := hp_b h t i f) hk (fun t' i' hne => oa_ent_congr rfl (hp_b_n (fun e => hne (by rw [e.1, e.2]))) rfl)] at hP
  exact ⟨hP, oa_D_any hD, hok⟩
theorem oa_RP_r {w : WD} {h : Hp} {t i k c z : Nat} {H1 : Heap} (hk : oa_ix[k]? = some (t, i)) (hok : oa_ok h) (hz : ∀ t', (oa_kd t).2.2[c]? = some (3, t') → z < oa_cn t')
    (hP : va_P w.1 vwCl ((oa_ws w h).set k (w.2.2.1 t i, oa_ent w (hp_r h t i c z) t i)) H1) (hD : va_D (oa_A w) (oa_ws w h)) : oa_RP w (hp_r h t i c z) H1 := by
  rw [oa_ws_set (h := h) (h' := hp_r h t i c z) hk (fun t' i' hne => oa_ent_congr rfl rfl (funext fun c' => if_neg (fun e => hne (by rw [e.1, e.2.1]))))] at hP
  refine ⟨hP, oa_D_any hD, fun t' i' k' u hu hi => ?_, hok.2⟩
  show (if t' = t ∧ i' = i ∧ k' = c then z else h.2.2 t' i' k') < _
  by_cases e : t' = t ∧ i' = i ∧ k' = c
  · rw [if_pos e]
    obtain ⟨rfl, rfl, rfl⟩ := e
    exact hz u hu
  · rw [if_neg e]
    exact hok.1 t' i' k' u hu hi
/-- what the tables say of a class of ours -/
def oa_CB (ci : Nat) (C : String) (T : u_T) (N : Nat) (ty : Nat → FieldType) : Prop := vwCl[ci]? = some (C, T, N) ∧ (∀ q ∈ u_ws C T N, q ∈ oa_GT) ∧ (∀ k, k < N → parseFieldDescriptor (T k).2.2.1 = some (ty k)) ∧ ∀ a, a < N → ∀ b, b < N → a ≠ b → (T a).2.1 ≠ (T b).2.1
section AWH
variable {X : WD → State → Prop} {d rb : Nat} {M : MD} {pc n : Nat} {L L2 : List (Nat × AV)} {S : List AV} {h : Hp} {Qr : Option AV → Hp → Prop} {Qx : String → Hp → Prop}
theorem aw_get {t i k idx ci N : Nat} {fs : List (Nat × Nat)} {f : Nat × Nat} {C : String} {T : u_T} {ty : Nat → FieldType} {v : AV} (hd : decode M.2.1 pc = .ok (.getfield idx, 3)) (hn : pc + 3 = n) (ht : t < oa_nT) (hk : oa_kd t = (0, ci, fs)) (hf : fs[k]? = some f) (hB : oa_CB ci C T N ty) (hkN : k < N)
    (hw : Cond.fieldLink M.1.cls idx (T k).1 (T k).2.1 (T k).2.2.1 ∈ oa_GT) (hv : ∀ w, oa_fv w h t i k f = oa_cz w v) (hvd : oa_ok h → i < oa_cn t → oa_vd v) (kk : AW X d rb M n L (v :: S) h Qr Qx) : AW X d rb M pc L (vR t i :: S) h Qr Qx := by
  intro w p l e R s m args below meth c mc ms F hX hf' hlo hmc hms H locs cells slots ls hc hs hRP hS hl hL hV
  subst hn
  have hi : i < oa_cn t := oa_vh hV
  obtain ⟨q0, hq0, he⟩ := oa_ws_at (w := w) (h := h) ht hi
  rw [oa_ent0 hk] at he
  obtain ⟨-, hts, -, hK, -⟩ := F.2.2.2.2.2.2.2
  refine va_get F.1 F.2.1 (Ts := oa_GT) (fun q hq => hts q hq args) hB.2.1 F.2.2.2.2.1 hK hRP.1 q0 he hB.1 k hkN (hts _ hw args) (fun _ z => z) (v := oa_cz w v) ?_ hd (kk w p l e R s m args below meth c mc ms F hX hf' hlo hmc hms H locs cells slots ls hc hs hRP hS hl hL (oa_vc (hvd hRP.2.2 hi) (oa_v1 hV)))
  rw [List.getElem?_mapIdx, hf, ← hv w]
  rfl
theorem aw_geti {t i k idx ci N z : Nat} {fs : List (Nat × Nat)} {C : String} {T : u_T} {ty : Nat → FieldType} (hd : decode M.2.1 pc = .ok (.getfield idx, 3)) (hn : pc + 3 = n) (ht : t < oa_nT) (hk : oa_kd t = (0, ci, fs)) (hf : fs[k]? = some (0, z)) (hB : oa_CB ci C T N ty) (hkN : k < N)
    (hw : Cond.fieldLink M.1.cls idx (T k).1 (T k).2.1 (T k).2.2.1 ∈ oa_GT) (kk : AW X d rb M n L (vI (h.1 t i k) :: S) h Qr Qx) : AW X d rb M pc L (vR t i :: S) h Qr Qx :=
  aw_get (v := vI (h.1 t i k)) hd hn ht hk hf hB hkN hw (fun _ => rfl) (fun _ _ => trivial) kk
theorem aw_getf {t i k idx ci N z : Nat} {fs : List (Nat × Nat)} {C : String} {T : u_T} {ty : Nat → FieldType} (hd : decode M.2.1 pc = .ok (.getfield idx, 3)) (hn : pc + 3 = n) (ht : t < oa_nT) (hk : oa_kd t = (0, ci, fs)) (hf : fs[k]? = some (2, z)) (hz : oa_cn t = oa_cn z) (hB : oa_CB ci C T N ty) (hkN : k < N)
    (hw : Cond.fieldLink M.1.cls idx (T k).1 (T k).2.1 (T k).2.2.1 ∈ oa_GT) (kk : AW X d rb M n L (vR z i :: S) h Qr Qx) : AW X d rb M pc L (vR t i :: S) h Qr Qx :=
  aw_get (v := vR z i) hd hn ht hk hf hB hkN hw (fun _ => rfl) (fun _ hi => by rw [hz] at hi; exact hi) kk
theorem aw_getm {t i k idx ci N z : Nat} {fs : List (Nat × Nat)} {C : String} {T : u_T} {ty : Nat → FieldType} (hd : decode M.2.1 pc = .ok (.getfield idx, 3)) (hn : pc + 3 = n) (ht : t < oa_nT) (hk : oa_kd t = (0, ci, fs)) (hf : fs[k]? = some (3, z)) (hB : oa_CB ci C T N ty) (hkN : k < N)
    (hw : Cond.fieldLink M.1.cls idx (T k).1 (T k).2.1 (T k).2.2.1 ∈ oa_GT) (kk : AW X d rb M n L (vR z (h.2.2 t i k) :: S) h Qr Qx) : AW X d rb M pc L (vR t i :: S) h Qr Qx :=
  aw_get (v := vR z (h.2.2 t i k)) hd hn ht hk hf hB hkN hw (fun _ => rfl) (fun hok hi => hok.1 t i k z (by rw [hk]; exact hf) hi) kk
theorem aw_puti {t i k idx ci N z : Nat} {x : Int32} {fs : List (Nat × Nat)} {C : String} {T : u_T} {ty : Nat → FieldType} (hd : decode M.2.1 pc = .ok (.putfield idx, 3)) (hn : pc + 3 = n) (ht : t < oa_nT) (hk : oa_kd t = (0, ci, fs)) (hf : fs[k]? = some (0, z)) (hB : oa_CB ci C T N ty) (hkN : k < N) (hfin : (T k).2.2.2 = false) (hty : ty k = .int)
    (hw : Cond.fieldLink M.1.cls idx (T k).1 (T k).2.1 (T k).2.2.1 ∈ oa_GT) (kk : AW X d rb M n L S (hp_i h t i k x) Qr Qx) : AW X d rb M pc L (vI x :: vR t i :: S) h Qr Qx := by
  intro w p l e R s m args below meth c mc ms F hX hf' hlo hmc hms H locs cells slots ls hc hs hRP hS hl hL hV
  subst hn
  have hi : i < oa_cn t := oa_vh (oa_v1 hV)
  obtain ⟨q0, hq0, he⟩ := oa_ws_at (w := w) (h := h) ht hi
  rw [oa_ent0 hk] at he
  obtain ⟨-, hts, -, hK, -⟩ := F.2.2.2.2.2.2.2
  refine va_put F.1 F.2.1 (Ts := oa_GT) (fun q hq => hts q hq args) hB.2.1 ty hB.2.2.1 hB.2.2.2 F.2.2.2.2.1 hK hRP.1 hRP.2.1 hS q0 he hB.1 k hkN (hts _ hw args) (fun _ z => z) hfin (ty := .int) (v := .int x) (by rw [hB.2.2.1 k hkN, hty]) rfl rfl (by rw [List.length_mapIdx]; exact (List.getElem?_eq_some_iff.mp hf).1) hd (fun H1 locs1 hP1 hD1 hS1 => ?_)
  refine kk w p l e R s m args below meth c mc ms F hX hf' hlo hmc hms H1 locs1 cells slots ls hc hs ?_ hS1 hl hL (oa_v1 (oa_v1 hV))
  refine oa_RP_a hq0 hRP.2.2 (fun h4 => by rw [hk] at h4; cases h4) ?_ hRP.2.1
  rw [oa_ent0 hk]
  have e2 : (fs.mapIdx fun k' f => oa_fv w (hp_a h t i (upd (h.1 t i) k x)) t i k' f) = (fs.mapIdx fun k f => oa_fv w h t i k f).set k (.int x) := by
    apply List.ext_getElem?
    intro j
    by_cases hj : j = k
    · subst hj
      rw [List.getElem?_set_self (by rw [List.length_mapIdx]; exact (List.getElem?_eq_some_iff.mp hf).1), List.getElem?_mapIdx, hf]
      show some (Value.int ((hp_a h t i (upd (h.1 t i) j x)).1 t i j)) = _
      rw [hp_a_s, pk_us]
    · rw [List.getElem?_set_ne (Ne.symm hj), List.getElem?_mapIdx, List.getElem?_mapIdx]
      cases fs[j]? with
      | none => rfl
      | some g =>
        show some _ = some _
        simp only [oa_fv, hp_a_s]
        rw [pk_un hj]
        rfl
  rw [e2]
  exact hP1
theorem aw_putm {t i k idx ci N z u : Nat} {fs : List (Nat × Nat)} {C : String} {T : u_T} {ty : Nat → FieldType} {cn : String} (hd : decode M.2.1 pc = .ok (.putfield idx, 3)) (hn : pc + 3 = n) (ht : t < oa_nT) (hk : oa_kd t = (0, ci, fs)) (hf : fs[k]? = some (3, z)) (hB : oa_CB ci C T N ty) (hkN : k < N) (hfin : (T k).2.2.2 = false) (hty : ty k = .object cn)
    (hw : Cond.fieldLink M.1.cls idx (T k).1 (T k).2.1 (T k).2.2.1 ∈ oa_GT) (kk : AW X d rb M n L S (hp_r h t i k u) Qr Qx) : AW X d rb M pc L (vR z u :: vR t i :: S) h Qr Qx := by
  intro w p l e R s m args below meth c mc ms F hX hf' hlo hmc hms H locs cells slots ls hc hs hRP hS hl hL hV
  subst hn
  have hu : u < oa_cn z := oa_vh hV
  have hi : i < oa_cn t := oa_vh (oa_v1 hV)
  obtain ⟨q0, hq0, he⟩ := oa_ws_at (w := w) (h := h) ht hi
  rw [oa_ent0 hk] at he
  obtain ⟨-, hts, -, hK, -⟩ := F.2.2.2.2.2.2.2
  refine va_put F.1 F.2.1 (Ts := oa_GT) (fun q hq => hts q hq args) hB.2.1 ty hB.2.2.1 hB.2.2.2 F.2.2.2.2.1 hK hRP.1 hRP.2.1 hS q0 he hB.1 k hkN (hts _ hw args) (fun _ z => z) hfin (ty := .object cn) (v := .ref (w.2.2.1 z u)) (by rw [hB.2.2.1 k hkN, hty]) rfl rfl (by rw [List.length_mapIdx]; exact (List.getElem?_eq_some_iff.mp hf).1) hd (fun H1 locs1 hP1 hD1 hS1 => ?_)
  refine kk w p l e R s m args below meth c mc ms F hX hf' hlo hmc hms H1 locs1 cells slots ls hc hs ?_ hS1 hl hL (oa_v1 (oa_v1 hV))
  refine oa_RP_r hq0 hRP.2.2 (fun t' h3 => by rw [hk] at h3; cases hf.symm.trans h3; exact hu) ?_ hRP.2.1
  rw [oa_ent0 hk]
  have e2 : (fs.mapIdx fun k' f => oa_fv w (hp_r h t i k u) t i k' f) = (fs.mapIdx fun k f => oa_fv w h t i k f).set k (.ref (w.2.2.1 z u)) := by
    apply List.ext_getElem?
    intro j
    by_cases hj : j = k
    · subst hj
      rw [List.getElem?_set_self (by rw [List.length_mapIdx]; exact (List.getElem?_eq_some_iff.mp hf).1), List.getElem?_mapIdx, hf]
      show some (Value.ref (w.2.2.1 z (if t = t ∧ i = i ∧ j = j then u else _))) = _
      rw [if_pos ⟨rfl, rfl, rfl⟩]
    · rw [List.getElem?_set_ne (Ne.symm hj), List.getElem?_mapIdx, List.getElem?_mapIdx]
      cases fs[j]? with
      | none => rfl
      | some g =>
        show some _ = some _
        have e3 : (hp_r h t i k u).2.2 t i j = h.2.2 t i j := if_neg (fun z => hj z.2.2)
        simp only [oa_fv, e3]
        rfl
  rw [e2]
  exact hP1
theorem aw_iald {t i len : Nat} {fs : List (Nat × Nat)} {j : Int32} (hd : decode M.2.1 pc = .ok (.iaload, 1)) (hn : pc + 1 = n) (ht : t < oa_nT) (hk : oa_kd t = (1, len, fs)) (hin : vp_in j len) (kk : AW X d rb M n L (vI (h.1 t i j.toNatClampNeg) :: S) h Qr Qx) : AW X d rb M pc L (vI j :: vR t i :: S) h Qr Qx := by
  intro w p l e R s m args below meth c mc ms F hX hf' hlo hmc hms H locs cells slots ls hc hs hRP hS hl hL hV
  subst hn
  obtain ⟨q0, hq0, he⟩ := oa_ws_at (w := w) (h := h) ht (oa_vh (oa_v1 hV))
  rw [oa_ent1 hk] at he
  obtain ⟨-, hts, -, hK, -⟩ := F.2.2.2.2.2.2.2
  exact va_iald F.1 F.2.1 hK hRP.1 q0 0 he rfl hin hd (kk w p l e R s m args below meth c mc ms F hX hf' hlo hmc hms H locs cells slots ls hc hs hRP hS hl hL (oa_vc trivial (oa_v1 (oa_v1 hV))))
theorem aw_bald {t i len : Nat} {fs : List (Nat × Nat)} {j : Int32} (hd : decode M.2.1 pc = .ok (.baload, 1)) (hn : pc + 1 = n) (ht : t < oa_nT) (hk : oa_kd t = (2, len, fs)) (hin : vp_in j len) (kk : AW X d rb M n L (vI (h.1 t i j.toNatClampNeg) :: S) h Qr Qx) : AW X d rb M pc L (vI j :: vR t i :: S) h Qr Qx := by
  intro w p l e R s m args below meth c mc ms F hX hf' hlo hmc hms H locs cells slots ls hc hs hRP hS hl hL hV
  subst hn
  obtain ⟨q0, hq0, he⟩ := oa_ws_at (w := w) (h := h) ht (oa_vh (oa_v1 hV))
  rw [oa_ent2 hk] at he
  obtain ⟨-, hts, -, hK, -⟩ := F.2.2.2.2.2.2.2
  exact va_bald F.1 F.2.1 hK hRP.1 q0 1 he rfl hin hd (kk w p l e R s m args below meth c mc ms F hX hf' hlo hmc hms H locs cells slots ls hc hs hRP hS hl hL (oa_vc trivial (oa_v1 (oa_v1 hV))))
theorem aw_zald {t i len : Nat} {fs : List (Nat × Nat)} {j : Int32} (hd : decode M.2.1 pc = .ok (.baload, 1)) (hn : pc + 1 = n) (ht : t < oa_nT) (hk : oa_kd t = (4, len, fs)) (hin : vp_in j len) (kk : AW X d rb M n L (vI (h.1 t i j.toNatClampNeg) :: S) h Qr Qx) : AW X d rb M pc L (vI j :: vR t i :: S) h Qr Qx := by
  intro w p l e R s m args below meth c mc ms F hX hf' hlo hmc hms H locs cells slots ls hc hs hRP hS hl hL hV
  subst hn
  obtain ⟨q0, hq0, he⟩ := oa_ws_at (w := w) (h := h) ht (oa_vh (oa_v1 hV))
  rw [oa_ent4 hk] at he
  obtain ⟨-, hts, -, hK, -⟩ := F.2.2.2.2.2.2.2
  exact va_zald F.1 F.2.1 hK hRP.1 q0 3 he rfl hin hd (kk w p l e R s m args below meth c mc ms F hX hf' hlo hmc hms H locs cells slots ls hc hs hRP hS hl hL (oa_vc trivial (oa_v1 (oa_v1 hV))))
theorem aw_lald {t i len : Nat} {fs : List (Nat × Nat)} {j : Int32} (hd : decode M.2.1 pc = .ok (.laload, 1)) (hn : pc + 1 = n) (ht : t < oa_nT) (hk : oa_kd t = (3, len, fs)) (hin : vp_in j len) (kk : AW X d rb M n L (vJ (h.2.1 t i j.toNatClampNeg) :: S) h Qr Qx) : AW X d rb M pc L (vI j :: vR t i :: S) h Qr Qx := by
  intro w p l e R s m args below meth c mc ms F hX hf' hlo hmc hms H locs cells slots ls hc hs hRP hS hl hL hV
  subst hn
  obtain ⟨q0, hq0, he⟩ := oa_ws_at (w := w) (h := h) ht (oa_vh (oa_v1 hV))
  rw [oa_ent3 hk] at he
  obtain ⟨-, hts, -, hK, -⟩ := F.2.2.2.2.2.2.2
  exact va_lald F.1 F.2.1 hK hRP.1 q0 2 he rfl hin hd (kk w p l e R s m args below meth c mc ms F hX hf' hlo hmc hms H locs cells slots ls hc hs hRP hS hl hL (oa_vc trivial (oa_v1 (oa_v1 hV))))
theorem aw_aald5 {t i len o u : Nat} {j : Int32} (hd : decode M.2.1 pc = .ok (.aaload, 1)) (hn : pc + 1 = n) (ht : t < oa_nT) (hk : oa_kd t = (5, len, [(o, u)])) (hu : ∀ a, a < len → o + a < oa_cn u) (hin : vp_in j len) (kk : AW X d rb M n L (vR u (o + j.toNatClampNeg) :: S) h Qr Qx) : AW X d rb M pc L (vI j :: vR t i :: S) h Qr Qx := by
  intro w p l e R s m args below meth c mc ms F hX hf' hlo hmc hms H locs cells slots ls hc hs hRP hS hl hL hV
  subst hn
  obtain ⟨q0, hq0, he⟩ := oa_ws_at (w := w) (h := h) ht (oa_vh (oa_v1 hV))
  rw [oa_ent5 hk] at he
  obtain ⟨-, hts, -, hK, -⟩ := F.2.2.2.2.2.2.2
  have hj : j.toNatClampNeg < len := Nat.not_le.mp fun q => hin (Or.inr q)
  refine va_aldq F.1 F.2.1 hK hRP.1 q0 4 he rfl hin hd ?_
  rw [if_pos hj]
  exact kk w p l e R s m args below meth c mc ms F hX hf' hlo hmc hms H locs cells slots ls hc hs hRP hS hl hL (oa_vc (hu _ hj) (oa_v1 (oa_v1 hV)))
theorem aw_aald6 {t i len o u : Nat} {j : Int32} (hd : decode M.2.1 pc = .ok (.aaload, 1)) (hn : pc + 1 = n) (ht : t < oa_nT) (hk : oa_kd t = (6, len, [(o, u)])) (hu : ∀ b a, b < oa_cn t → a < len → o * b + a < oa_cn u) (hin : vp_in j len) (kk : AW X d rb M n L (vR u (o * i + j.toNatClampNeg) :: S) h Qr Qx) : AW X d rb M pc L (vI j :: vR t i :: S) h Qr Qx := by
  intro w p l e R s m args below meth c mc ms F hX hf' hlo hmc hms H locs cells slots ls hc hs hRP hS hl hL hV
  subst hn
  have hi : i < oa_cn t := oa_vh (oa_v1 hV)
  obtain ⟨q0, hq0, he⟩ := oa_ws_at (w := w) (h := h) ht hi
  rw [oa_ent6 hk] at he
  obtain ⟨-, hts, -, hK, -⟩ := F.2.2.2.2.2.2.2
  have hj : j.toNatClampNeg < len := Nat.not_le.mp fun q => hin (Or.inr q)
  refine W.aald (v := .ref (w.2.2.1 u (o * i + j.toNatClampNeg))) (ty := .array .int) F.1 F.2.1 (hRP.1 q0 _ he) ((hK.2 5 _ rfl).1 len (fun a => va_rf (if a < len then some (w.2.2.1 u (o * i + a)) else none))) rfl (fun q => by cases q) (by show ¬ (j < 0 ∨ (arrV _ _ _).slots.size ≤ _); rw [arrV_size]; exact hin) (by show (arrV _ _ _).slots[_]? = _; rw [arrV_read _ _ hj]; exact congrArg (fun o => some (va_rf o)) (if_pos hj)) rfl rfl hd ?_
  exact kk w p l e R s m args below meth c mc ms F hX hf' hlo hmc hms H locs cells slots ls hc hs hRP hS hl hL (oa_vc (hu _ _ hi hj) (oa_v1 (oa_v1 hV)))
theorem aw_iast {t i len : Nat} {fs : List (Nat × Nat)} {j x : Int32} (hd : decode M.2.1 pc = .ok (.iastore, 1)) (hn : pc + 1 = n) (ht : t < oa_nT) (hk : oa_kd t = (1, len, fs)) (hin : vp_in j len) (kk : AW X d rb M n L S (hp_i h t i j.toNatClampNeg x) Qr Qx) : AW X d rb M pc L (vI x :: vI j :: vR t i :: S) h Qr Qx := by
  intro w p l e R s m args below meth c mc ms F hX hf' hlo hmc hms H locs cells slots ls hc hs hRP hS hl hL hV
  subst hn
  obtain ⟨q0, hq0, he⟩ := oa_ws_at (w := w) (h := h) ht (oa_vh (oa_v1 (oa_v1 hV)))
  rw [oa_ent1 hk] at he
  obtain ⟨-, hts, -, hK, -⟩ := F.2.2.2.2.2.2.2
  refine va_iast F.1 F.2.1 hK hRP.1 hRP.2.1 hS q0 0 he rfl hin hd (fun H1 locs1 hP1 hD1 hS1 => ?_)
  refine kk w p l e R s m args below meth c mc ms F hX hf' hlo hmc hms H1 locs1 cells slots ls hc hs ?_ hS1 hl hL (oa_v1 (oa_v1 (oa_v1 hV)))
  refine oa_RP_a hq0 hRP.2.2 (fun h4 => by rw [hk] at h4; cases h4) ?_ hRP.2.1
  rw [oa_ent1 hk, hp_a_s]
  exact hP1
theorem aw_bast {t i len : Nat} {fs : List (Nat × Nat)} {j x : Int32} (hd : decode M.2.1 pc = .ok (.bastore, 1)) (hn : pc + 1 = n) (ht : t < oa_nT) (hk : oa_kd t = (2, len, fs)) (hin : vp_in j len) (kk : AW X d rb M n L S (hp_i h t i j.toNatClampNeg (vp_nar .byte x)) Qr Qx) : AW X d rb M pc L (vI x :: vI j :: vR t i :: S) h Qr Qx := by
  intro w p l e R s m args below meth c mc ms F hX hf' hlo hmc hms H locs cells slots ls hc hs hRP hS hl hL hV
  subst hn
  obtain ⟨q0, hq0, he⟩ := oa_ws_at (w := w) (h := h) ht (oa_vh (oa_v1 (oa_v1 hV)))
  rw [oa_ent2 hk] at he
  obtain ⟨-, hts, -, hK, -⟩ := F.2.2.2.2.2.2.2
  refine va_bast F.1 F.2.1 hK hRP.1 hRP.2.1 hS q0 1 he rfl hin hd (fun H1 locs1 hP1 hD1 hS1 => ?_)
  refine kk w p l e R s m args below meth c mc ms F hX hf' hlo hmc hms H1 locs1 cells slots ls hc hs ?_ hS1 hl hL (oa_v1 (oa_v1 (oa_v1 hV)))
  refine oa_RP_a hq0 hRP.2.2 (fun h4 => by rw [hk] at h4; cases h4) ?_ hRP.2.1
  rw [oa_ent2 hk, hp_a_s]
  exact hP1
theorem aw_zast {t i len : Nat} {fs : List (Nat × Nat)} {j x : Int32} (hd : decode M.2.1 pc = .ok (.bastore, 1)) (hn : pc + 1 = n) (ht : t < oa_nT) (hk : oa_kd t = (4, len, fs)) (hin : vp_in j len) (hx : x = 0 ∨ x = 1) (kk : AW X d rb M n L S (hp_i h t i j.toNatClampNeg x) Qr Qx) : AW X d rb M pc L (vI x :: vI j :: vR t i :: S) h Qr Qx := by
  intro w p l e R s m args below meth c mc ms F hX hf' hlo hmc hms H locs cells slots ls hc hs hRP hS hl hL hV
  subst hn
  obtain ⟨q0, hq0, he⟩ := oa_ws_at (w := w) (h := h) ht (oa_vh (oa_v1 (oa_v1 hV)))
  rw [oa_ent4 hk] at he
  obtain ⟨-, hts, -, hK, -⟩ := F.2.2.2.2.2.2.2
  refine va_zast F.1 F.2.1 hK hRP.1 hRP.2.1 hS q0 3 he rfl hin hd (fun H1 locs1 hP1 hD1 hS1 => ?_)
  refine kk w p l e R s m args below meth c mc ms F hX hf' hlo hmc hms H1 locs1 cells slots ls hc hs ?_ hS1 hl hL (oa_v1 (oa_v1 (oa_v1 hV)))
  have hx2 : vp_nar .boolean x = x := by rcases hx with rfl | rfl <;> rfl
  rw [hx2] at hP1
  refine oa_RP_a hq0 hRP.2.2 (fun h4 a => ?_) ?_ hRP.2.1
  · by_cases ha : a = j.toNatClampNeg
    · subst ha
      rw [pk_us]
      exact hx
    · rw [pk_un ha]
      exact hRP.2.2.2 t i a h4
  · rw [oa_ent4 hk, hp_a_s]
    exact hP1
theorem aw_last {t i len : Nat} {fs : List (Nat × Nat)} {j : Int32} {x : Int64} (hd : decode M.2.1 pc = .ok (.lastore, 1)) (hn : pc + 1 = n) (ht : t < oa_nT) (hk : oa_kd t = (3, len, fs)) (hin : vp_in j len) (kk : AW X d rb M n L S (hp_l h t i j.toNatClampNeg x) Qr Qx) : AW X d rb M pc L (vJ x :: vI j :: vR t i :: S) h Qr Qx := by
  intro w p l e R s m args below meth c mc ms F hX hf' hlo hmc hms H locs cells slots ls hc hs hRP hS hl hL hV
  subst hn
  obtain ⟨q0, hq0, he⟩ := oa_ws_at (w := w) (h := h) ht (oa_vh (oa_v1 (oa_v1 hV)))
  rw [oa_ent3 hk] at he
  obtain ⟨-, hts, -, hK, -⟩ := F.2.2.2.2.2.2.2
  refine va_last F.1 F.2.1 hK hRP.1 hRP.2.1 hS q0 2 he rfl hin hd (fun H1 locs1 hP1 hD1 hS1 => ?_)
  refine kk w p l e R s m args below meth c mc ms F hX hf' hlo hmc hms H1 locs1 cells slots ls hc hs ?_ hS1 hl hL (oa_v1 (oa_v1 (oa_v1 hV)))
  refine oa_RP_b hq0 hRP.2.2 ?_ hRP.2.1
  rw [oa_ent3 hk, hp_b_s]
  exact hP1
theorem aw_alen {t i len : Nat} {fs : List (Nat × Nat)} {v : Int32} (hd : decode M.2.1 pc = .ok (.arraylength, 1)) (hn : pc + 1 = n) (ht : t < oa_nT) (hk : oa_kd t = (1, len, fs)) (hv : Int32.ofNat len = v) (kk : AW X d rb M n L (vI v :: S) h Qr Qx) : AW X d rb M pc L (vR t i :: S) h Qr Qx := by
  intro w p l e R s m args below meth c mc ms F hX hf' hlo hmc hms H locs cells slots ls hc hs hRP hS hl hL hV
  subst hn
  obtain ⟨q0, hq0, he⟩ := oa_ws_at (w := w) (h := h) ht (oa_vh hV)
  rw [oa_ent1 hk] at he
  obtain ⟨-, hts, -, hK, -⟩ := F.2.2.2.2.2.2.2
  exact va_alen F.1 F.2.1 hK hRP.1 q0 0 he (ty := .int) rfl hv hd (kk w p l e R s m args below meth c mc ms F hX hf' hlo hmc hms H locs cells slots ls hc hs hRP hS hl hL (oa_vc trivial (oa_v1 hV)))
end AWH
end
section
/-! calls -/
theorem oa_PC_blind {w : WD} {l : Launch} {as : List AV} {h : Hp} : FrameBlind (oa_PC w l as h) := by
  intro a U g mk q
  obtain ⟨q1, q2, q3, q4⟩ := q
  exact ⟨q1, q2, oa_JF.moved (s := U) (U := U.calling g mk a) (H := U.heap) (H1 := (U.calling g mk a).heap) q3 (State.WarmedH.refl U) (Nat.le_refl _) (fun _ _ _ => rfl), q4⟩
def oa_la : Nat → List AV → List (Nat × AV)
  | _, [] => []
  | i, v :: vs => (i, v) :: oa_la (if oa_cat v = 2 then i + 2 else i + 1) vs
theorem oa_la_lz (w : WD) (as : List AV) : ∀ i, lv_args i (as.map (oa_cz w)) = oa_lz w (oa_la i as) := by
  induction as with
  | nil => intro i; rfl
  | cons v vs ih =>
    intro i
    show (i, oa_cz w v) :: lv_args (if (oa_cz w v).category = 2 then i + 2 else i + 1) (vs.map (oa_cz w)) = (i, oa_cz w v) :: oa_lz w (oa_la (if oa_cat v = 2 then i + 2 else i + 1) vs)
    rw [oa_cat_cz, ih]
theorem oa_la_mem {as : List AV} : ∀ {i : Nat} {q : Nat × AV}, q ∈ oa_la i as → q.2 ∈ as := by
  induction as with
  | nil => intro i q h; cases h
  | cons v vs ih =>
    intro i q h
    rcases List.mem_cons.mp h with rfl | h
    · exact List.mem_cons_self
    · exact List.mem_cons_of_mem _ (ih h)
theorem oa_sl_len (w : WD) (as : List AV) : (lg_sl (as.map (oa_cz w))).length = (as.map oa_cat).sum := by
  induction as with
  | nil => rfl
  | cons v vs ih =>
    have e : lg_sl ((v :: vs).map (oa_cz w)) = (if (oa_cz w v).category = 2 then [Slot.val (oa_cz w v), .second] else [.val (oa_cz w v)]) ++ lg_sl (vs.map (oa_cz w)) := rfl
    rw [e, List.length_append, ih, List.map_cons, List.sum_cons]
    congr 1
    rw [oa_cat_cz]
    rcases v with x | x | x | x <;> rfl
theorem oa_sumcat (w : WD) (S : List AV) : ((S.map (oa_cz w)).map fun v => v.category).sum = (S.map oa_cat).sum := by
  rw [List.map_map]
  refine congrArg _ (List.map_congr_left fun v _ => oa_cat_cz w v)
/-- a method's contract out of its walk -/
theorem CL.of {k d : Nat} {M : MD} {as : List AV} {h : Hp} {Qr : Option AV → Hp → Prop} {Qx : String → Hp → Prop} (hy : plainName M.1.cls = true) (hh : M.2.2.2.2 = []) (hl : (as.map oa_cat).sum ≤ M.2.2.1)
    (kk : AW (fun _ _ => True) d k M 0 (oa_la 0 as) [] h Qr Qx) : CL k d M as h Qr Qx := by
  intro w l
  refine vx_ofW (cc := M.2.1) (maxL := M.2.2.1) (ret := M.2.2.2.1) (ws' := []) hy rfl ?_
  intro p e s m args below meth c s₁ B hml ht hv
  obtain ⟨rfl, hvd, hJ, hRP⟩ := hv
  have hown : s.vm.findClass M.1.cls = some m.cls := findClass_of_methodNamed B.named
  have hle := lv_entry (as.map (oa_cz w)) (n := M.2.2.1) (by rw [oa_sl_len]; exact hl)
  rw [oa_la_lz] at hle
  rw [lg_entry_eq]
  refine kk w p l e _ s m _ below meth c k (6 * k) ⟨B.exec, B.bytes, hml, B.returns, hown, B.notSynchronized, ?_, hJ⟩ trivial (Nat.le_refl _) (Nat.le_refl _) (Nat.le_refl _) (Nat.le_refl _) s.heap [] 0 0 _ (by omega) (by omega) hRP va_S.rf hle (fun q hq => hvd _ (oa_la_mem hq)) (fun v hv => nomatch hv)
  rw [hh]
  exact List.eq_nil_iff_forall_not_mem.mpr (fun x hx => ht x hx)
/-- what a call of M' needs of the tables (by its class's own name) -/
def oa_MB (M' : MD) (n : Nat) : Prop := oa_cw M' ∈ oa_GT ∧ (Cond.initialized M'.1.cls) ∈ oa_GT ∧ (M'.1.cls ≠ "java/lang/invoke/MethodHandle" ∧ M'.1.cls ≠ "java/lang/invoke/VarHandle") ∧ (parseMethodDescriptor M'.1.desc).map (fun d => d.parameters.length) = some n ∧ M'.2.2.1 ≤ 45
section AWC
variable {X : WD → State → Prop} {d rb : Nat} {M : MD} {pc n : Nat} {L L2 : List (Nat × AV)} {S St : List AV} {h : Hp} {Qr : Option AV → Hp → Prop} {Qx : String → Hp → Prop}
/-- behind a call -/
theorem oa_after {w : WD} {p : Program} {l : Launch} {e : Env} {R : Room} {s : State} {m : MethodId} {args : Array Value} {below : List Frame} {meth : Method} {c : Code} {mc ms k : Nat} {H : Heap} {locs : List Loc} {cells slots : Nat} {ls : Array Slot} {a : Array Value} {st0 : List Value}
    (F : oa_Fx w p l s m meth c M) (hX : X w s) (hf : d ≤ R.frames) (hlo : 64 * d ≤ R.locals) (hmc : mc ≤ R.cells) (hms : ms ≤ R.slots) (hk : k ≤ rb) (hc : cells + rb ≤ mc) (hs : slots + 6 * rb ≤ ms) (hS : va_S (oa_A w) s.heap H locs) (hl : lv_has ls M.2.2.1 (oa_lz w L)) (hL : ∀ q ∈ L, oa_vd q.2) (hV : ∀ v ∈ S, oa_vd v)
    (hh : M.2.2.2.2 = [])
    (hr : vx_Run p l e R s m args below meth c H locs cells slots k (6 * k) (F0 m pc ls st0) (S.map (oa_cz w)) (oa_QC w (fun v h' => AW X d (rb - k) M (pc + 3) L (v.toList ++ S) h' Qr Qx) a) (oa_XC w Qx) (oa_A w)) :
    W p l e R s m args below meth c H locs cells slots (vx_MQ below (oa_QC w Qr) (oa_XC w Qx) args s mc ms (oa_A w)) (F0 m pc ls st0) := by
  intro T hT X0
  rcases hr T hT X0 with ⟨v, st₀, t, T', L', h0, X', hL', e1, e2, ⟨v', h', hv, hvd, hq, hRP', hF⟩, st⟩ | ⟨q, st₀, t, T', L', E, ce, h0, X', hL', e1, e2, ⟨h', hq, hRP', hF⟩, hce, hcv, hcl, st⟩
  · cases hv
    obtain ⟨k1, k2, k3⟩ := vx_keep (A1 := oa_A w) (free := oa_A w) h0 e1 hS (fun _ _ z => z) (fun _ z => z) hL' hF
    have hV' : ∀ u ∈ v'.toList ++ S, oa_vd u := by
      intro u hu
      rcases List.mem_append.mp hu with hu | hu
      · exact hvd u (Option.mem_toList.mp hu)
      · exact hV u hu
    obtain ⟨t2, a1, b1⟩ := hq w p l e R s m args below meth c mc ms F hX hf hlo hmc hms T'.heap (locs ++ L') (cells + k) (slots + 6 * k) ls (by omega) (by omega) (by rw [e1]; exact hRP') k3 hl hL hV' T' rfl X'
    refine ⟨t2, st t2 ?_, b1⟩
    have e3 : (v'.map (oa_cz w)).toList ++ S.map (oa_cz w) = (v'.toList ++ S).map (oa_cz w) := by
      rw [List.map_append]
      congr 1
      cases v' <;> rfl
    rw [e3]
    exact a1
  · obtain ⟨k1, k2, k3⟩ := vx_keep (A1 := oa_A w) (free := oa_A w) h0 e1 hS (fun _ _ z => z) (fun _ z => z) hL' hF
    have hno : ∀ x ∈ c.exceptionTable.toList, covers x pc = false := by
      intro x hx
      rw [F.2.2.2.2.2.2.1, hh] at hx
      cases hx
    obtain ⟨t2, a1, b1⟩ := vx_out (p := p) (l := l) (e := e) (R := R) (below := below) (args := args) (Qc := oa_QC w Qr) (XC := oa_XC w Qx) (free := oa_A w) (locs := locs ++ L') (cells := cells + k) (slots := slots + 6 * k) (mc := mc) (ms := ms) (ls := ls) (rest := S.map (oa_cz w)) (pc := pc) (H := T'.heap) hno F.2.2.2.2.2.1 (by rw [e1]; exact hce) hcv hcl
      (fun t3 ht3 _ => ⟨h', hq, by rw [ht3, e1]; exact hRP', k3.F ht3⟩) k3.2.2 (by omega) (by omega) T' rfl X'
    exact ⟨t2, st.trans a1, b1⟩
theorem oa_CB1 {w : WD} {l : Launch} {R : Room} {s : State} {args : Array Value} {own : String} {idx k na : Nat} {M' : MD} (J : oa_JF w l s s.heap) (hM : oa_MB M' na) (hl : (Cond.methodLink own idx M'.1) ∈ oa_GT) (hf : d + 1 ≤ R.frames) (hlo : 64 * (d + 1) ≤ R.locals) :
    CallB R s args own idx M'.1 M'.2.1 M'.2.2.1 M'.2.2.2.1 [oa_cw M'] (oa_rm d k) k (6 * k) na := by
  obtain ⟨m1, m2, m3, m4, m5⟩ := hM
  refine ⟨rfl, rfl, hf, by show 8 + (M'.2.2.1 + 11) + 64 * d ≤ R.locals; omega, ?_, List.mem_cons_self, J.2.1 _ m1 args, J.2.1 _ m2 args, m3, fun sig hs => ?_, J.2.1 _ hl args⟩
  · intro q hq a' U hW
    rcases List.mem_singleton.mp hq with rfl
    exact word_at hW (good_of_word (List.mem_filter.mp m1).2) (J.2.1 _ m1 args)
  · rw [hs] at m4
    exact (Option.some.inj m4).symm
theorem oa_pre {w : WD} {p : Program} {l : Launch} {s : State} {m : MethodId} {meth : Method} {c : Code} {H : Heap} {locs : List Loc} {as : List AV} (F : oa_Fx w p l s m meth c M) (hS : va_S (oa_A w) s.heap H locs) (hRP : oa_RP w h H) (hvd : ∀ v ∈ as, oa_vd v) :
    ∀ U : State, U.heap = H → s.WarmedH U.vm → oa_PC w l as h (as.map (oa_cz w)).toArray U := by
  intro U hU hW
  refine ⟨rfl, hvd, ?_, by rw [hU]; exact hRP⟩
  rw [hU]
  exact F.2.2.2.2.2.2.2.moved hW hS.1 hS.2.1
theorem aw_callS {M' : MD} {idx k : Nat} {as : List AV} (hd : decode M.2.1 pc = .ok (.invokestatic idx, 3)) (hn : pc + 3 = n) (hl : (Cond.methodLink M.1.cls idx M'.1) ∈ oa_GT) (hst : (Cond.static M'.1) ∈ oa_GT) (hM : oa_MB M' as.length) (hh : M.2.2.2.2 = []) (hk : k ≤ rb) (hcat : (S.map oa_cat).sum ≤ 8) (hSt : St = as.reverse ++ S)
    (cc : CL k d M' as h (fun v h' => AW X (d + 1) (rb - k) M n L (v.toList ++ S) h' Qr Qx) Qx) : AW X (d + 1) rb M pc L St h Qr Qx := by
  intro w p l e R s m args below meth c mc ms F hX hf hlo hmc hms H locs cells slots ls hc hs hRP hS hl' hL hV
  subst hn
  subst hSt
  have hvS : ∀ v ∈ S, oa_vd v := fun v hv => hV v (List.mem_append_right _ hv)
  have hva : ∀ v ∈ as, oa_vd v := fun v hv => hV v (List.mem_append_left _ (List.mem_reverse.mpr hv))
  refine oa_after (k := k) (S := S) F hX hf hlo hmc hms hk hc hs hS hl' hL hvS hh (a := (as.map (oa_cz w)).toArray) ?_
  refine vx_runS (Ts := oa_GT) (nL := M.2.2.1) (As := as.map (oa_cz w)) (rest := S.map (oa_cz w)) ⟨F.1, F.2.1, F.2.2.1, F.2.2.2.2.1, fun q hq => F.2.2.2.2.2.2.2.2.1 q hq args⟩ (cc w l) ⟨oa_CB1 F.2.2.2.2.2.2.2 hM hl hf hlo, F.2.2.2.2.2.2.2.2.1 _ hst args⟩ ⟨oa_PC_blind, oa_pre F hS hRP hva⟩ rfl (by rw [List.length_map]) hl'.1 ?_ (lv_room (by rw [oa_sumcat]; exact hcat)) hd ⟨by omega, by omega⟩
  show (as.reverse ++ S).map (oa_cz w) = _
  rw [List.map_append, List.map_reverse]
theorem aw_callSN {M' : MD} {idx k : Nat} {as : List AV} {host : String} (hd : decode M.2.1 pc = .ok (.invokestatic idx, 3)) (hn : pc + 3 = n) (hl : (Cond.methodLinkNest M.1.cls idx M'.1 host) ∈ lw_tbl) (hst : (Cond.static M'.1) ∈ oa_GT) (hM : oa_MB M' as.length) (hh : M.2.2.2.2 = []) (hk : k ≤ rb) (hcat : (S.map oa_cat).sum ≤ 8) (hSt : St = as.reverse ++ S)
    (cc : CL k d M' as h (fun v h' => AW X (d + 1) (rb - k) M n L (v.toList ++ S) h' Qr Qx) Qx) : AW X (d + 1) rb M pc L St h Qr Qx := by
  intro w p l e R s m args below meth c mc ms F hX hf hlo hmc hms H locs cells slots ls hc hs hRP hS hl' hL hV
  subst hn
  subst hSt
  have hvS : ∀ v ∈ S, oa_vd v := fun v hv => hV v (List.mem_append_right _ hv)
  have hva : ∀ v ∈ as, oa_vd v := fun v hv => hV v (List.mem_append_left _ (List.mem_reverse.mpr hv))
  obtain ⟨m1, m2, m3, m4, m5⟩ := hM
  have J := F.2.2.2.2.2.2.2
  refine oa_after (k := k) (S := S) F hX hf hlo hmc hms hk hc hs hS hl' hL hvS hh (a := (as.map (oa_cz w)).toArray) ?_
  refine vx_runSN (Ts := oa_GT) (nL := M.2.2.1) (As := as.map (oa_cz w)) (rest := S.map (oa_cz w)) (n := as.length) (host := host) (bytes := M'.2.1) (maxL := M'.2.2.1) (ret := M'.2.2.2.1) ⟨F.1, F.2.1, F.2.2.1, F.2.2.2.2.1, fun q hq => J.2.1 q hq args⟩ (cc w l)
    ⟨⟨⟨rfl, rfl, hf, by show 8 + (M'.2.2.1 + 11) + 64 * d ≤ R.locals; omega, ?_, List.mem_cons_self⟩, J.2.1 _ m1 args, J.2.1 _ m2 args, m3, fun sig hs => ?_, va_Nw.use rfl (J.2.2.1 _ _ _ _ hl)⟩, J.2.1 _ hst args, trivial⟩ ⟨oa_PC_blind, oa_pre F hS hRP hva⟩ rfl (by rw [List.length_map]) hl'.1 ?_ (lv_room (by rw [oa_sumcat]; exact hcat)) hd ⟨by omega, by omega⟩
  · intro q hq a' U hW
    rcases List.mem_singleton.mp hq with rfl
    exact word_at hW (good_of_word (List.mem_filter.mp m1).2) (J.2.1 _ m1 args)
  · rw [hs] at m4
    exact (Option.some.inj m4).symm
  · show (as.reverse ++ S).map (oa_cz w) = _
    rw [List.map_append, List.map_reverse]
theorem aw_callV {M' : MD} {idx k t i ci N : Nat} {as : List AV} {fs : List (Nat × Nat)} {T : u_T} (hd : decode M.2.1 pc = .ok (.invokevirtual idx, 3)) (hn : pc + 3 = n) (ht : t < oa_nT) (hkd : oa_kd t = (0, ci, fs)) (hci : vwCl[ci]? = some (M'.1.cls, T, N)) (hl : (Cond.methodLink M.1.cls idx M'.1) ∈ oa_GT) (hin : (Cond.instanceMethod M'.1) ∈ oa_GT) (hse : (Cond.selects M'.1.cls M'.1 M'.1) ∈ oa_GT) (hM : oa_MB M' as.length) (hh : M.2.2.2.2 = []) (hk : k ≤ rb) (hcat : (S.map oa_cat).sum ≤ 8) (hSt : St = as.reverse ++ vR t i :: S)
    (cc : CL k d M' (vR t i :: as) h (fun v h' => AW X (d + 1) (rb - k) M n L (v.toList ++ S) h' Qr Qx) Qx) : AW X (d + 1) rb M pc L St h Qr Qx := by
  intro w p l e R s m args below meth c mc ms F hX hf hlo hmc hms H locs cells slots ls hc hs hRP hS hl' hL hV
  subst hn
  subst hSt
  have hvS : ∀ v ∈ S, oa_vd v := fun v hv => hV v (List.mem_append_right _ (List.mem_cons_of_mem _ hv))
  have hv0 : oa_vd (vR t i) := hV _ (List.mem_append_right _ List.mem_cons_self)
  have hva : ∀ v ∈ vR t i :: as, oa_vd v := oa_vc hv0 fun v hv => hV v (List.mem_append_left _ (List.mem_reverse.mpr hv))
  obtain ⟨q0, hq0, he⟩ := oa_ws_at (w := w) (h := h) ht hv0
  rw [oa_ent0 hkd] at he
  have J := F.2.2.2.2.2.2.2
  refine oa_after (k := k) (S := S) F hX hf hlo hmc hms hk hc hs hS hl' hL hvS hh (a := ((vR t i :: as).map (oa_cz w)).toArray) ?_
  refine vx_runV (Ts := oa_GT) (nL := M.2.2.1) (C := M'.1.cls) (b := w.2.2.1 t i) (As := as.map (oa_cz w)) (rest := S.map (oa_cz w)) ⟨F.1, F.2.1, F.2.2.1, F.2.2.2.2.1, fun q hq => J.2.1 q hq args⟩ (cc w l) ⟨oa_CB1 J hM hl hf hlo, J.2.1 _ hin args, J.2.1 _ hse args⟩ ⟨oa_PC_blind, va_recv J.2.2.2.1 hRP.1 hci he, oa_pre F hS hRP hva⟩ rfl (by rw [List.length_map]) hl'.1 ?_ (lv_room (by rw [oa_sumcat]; exact hcat)) hd ⟨by omega, by omega⟩
  show (as.reverse ++ vR t i :: S).map (oa_cz w) = _
  rw [List.map_append, List.map_reverse]
  rfl
/-- more room than is needed -/
theorem AW.mono {d' rb' : Nat} (hd : d ≤ d') (hb : rb ≤ rb') (k : AW X d rb M pc L S h Qr Qx) : AW X d' rb' M pc L S h Qr Qx := by
  intro w p l e R s m args below meth c mc ms F hX hf hlo hmc hms H locs cells slots ls hc hs hRP hS hl hL hV
  exact k w p l e R s m args below meth c mc ms F hX (by omega) (by omega) hmc hms H locs cells slots ls (by omega) (by omega) hRP hS hl hL hV
theorem AW.imp {Qr' : Option AV → Hp → Prop} {Qx' : String → Hp → Prop} (k : AW X d rb M pc L S h Qr Qx) (h1 : ∀ v h', Qr v h' → Qr' v h') (h2 : ∀ E h', Qx E h' → Qx' E h') : AW X d rb M pc L S h Qr' Qx' := by
  intro w p l e R s m args below meth c mc ms F hX hf hlo hmc hms H locs cells slots ls hc hs hRP hS hl hL hV T hT X0
  obtain ⟨t, a1, o, b1, b2, b3⟩ := k w p l e R s m args below meth c mc ms F hX hf hlo hmc hms H locs cells slots ls hc hs hRP hS hl hL hV T hT X0
  refine ⟨t, a1, o, b1, b2, ?_⟩
  rcases b3 with ⟨⟨v, h', c1, c2, c3, c4⟩, c5⟩ | ⟨q, c1, E, ce, LL, ⟨h', c3, c4⟩, c5⟩
  · exact Or.inl ⟨⟨v, h', c1, c2, h1 v h' c3, c4⟩, c5⟩
  · exact Or.inr ⟨q, c1, E, ce, LL, ⟨h', h2 E h' c3, c4⟩, c5⟩
end AWC
end
section
/-! throws, library members -/
def oa_exN : List String := ["java/lang/RuntimeException", "java/lang/Exception"]
def oa_cd : Cond → Bool
  | .castable _ _ => true
  | .declares _ => true
  | q => goodWord q
theorem oa_stk {l : Launch} (h : l.flags = flags0) : l.stackTraces = false := by
  unfold Launch.stackTraces
  rw [h]
  decide +kernel
theorem oa_words {w : WD} {l : Launch} {s : State} {Ls : List Cond} (J : oa_JF w l s s.heap) (h1 : ∀ q ∈ Ls, q ∈ lw_tbl) (h2 : Ls.all oa_cd = true) : ∀ q ∈ Ls, ∀ a : Array Value, q.before a s = true := by
  intro q hq a
  have g := List.all_eq_true.mp h2 q hq
  have hm := h1 q hq
  by_cases gg : goodWord q = true
  · exact J.2.1 q (List.mem_filter.mpr ⟨hm, gg⟩) a
  · cases q <;> first | exact va_Nw.use rfl (J.2.2.2.2.2.2.2.1 _ _ hm) | exact va_Nw.use rfl (J.2.2.2.2.2.2.2.2.1 _ hm) | exact absurd g gg
section AWT
variable {X : WD → State → Prop} {d rb : Nat} {M : MD} {pc n : Nat} {L L2 : List (Nat × AV)} {S St : List AV} {h : Hp} {Qr : Option AV → Hp → Prop} {Qx : String → Hp → Prop}
theorem oa_RP.kept {w : WD} {H H1 : Heap} (hRP : oa_RP w h H) (hq : ∀ q : Nat, q < H.size → H1[q]? = H[q]?) : oa_RP w h H1 :=
  ⟨hRP.1.kept (fun k q hk => hq _ (hRP.1 k q hk).lt), hRP.2⟩
theorem aw_throwS {ik is ic j : Nat} {cls text : String} {bs : List Int32} (hh : M.2.2.2.2 = []) (d0 : decode M.2.1 pc = .ok (.new ik, 3)) (d3 : decode M.2.1 (pc + 3) = .ok (.dup, 1)) (d4 : decode M.2.1 (pc + 4) = .ok (.ldc is, 2)) (d6 : decode M.2.1 (pc + 6) = .ok (.invokespecial ic, 3)) (d9 : decode M.2.1 (pc + 9) = .ok (.athrow, 1))
    (hj : oa_SL[j]? = some (M.1.cls, is, text, bs)) (hw1 : Cond.classLink M.1.cls ik cls ∈ oa_GT) (hw2 : Cond.initialized cls ∈ oa_GT) (hf1 : Bundle.fit cls = true) (hf2 : ∀ n ∈ oa_exN, Bundle.fit n = true) (ha1 : ∀ q ∈ vx_atS M.1.cls ic cls oa_exN, q ∈ lw_tbl) (ha2 : (vx_atS M.1.cls ic cls oa_exN).all oa_cd = true)
    (ha3 : ∀ q ∈ Cond.classLink M.1.cls ik cls :: Cond.initialized cls :: vx_atS M.1.cls ic cls oa_exN, vx_ot q = true) (hcat : (S.map oa_cat).sum ≤ 8) (q : Qx cls h) : AW X (d + 6) (rb + 1) M pc L S h Qr Qx := by
  intro w p l e R s m args below meth c mc ms F hX hf hlo hmc hms H locs cells slots ls hc hs hRP hS hl hL hV
  have J := F.2.2.2.2.2.2.2
  have hstr := (J.2.2.2.2.2.2.2.2.2.1 j _ hj).1
  refine vx_throwS F.1 F.2.1 (oa_stk J.1) F.2.2.2.2.1 hf1 hf2 (J.2.1 _ hw1 args) (J.2.1 _ hw2 args) hstr (fun q hq => oa_words J ha1 ha2 q hq args) ha3 J.2.2.2.2.2.1 J.2.2.2.2.2.2.1 hS (hl.1.trans F.2.2.1.symm) d0 d3 d4 d6 d9
    (fun x hx => by rw [F.2.2.2.2.2.2.1, hh] at hx; cases hx) (by show 2 + 3 < R.frames; omega) (by rw [oa_sumcat]; show _ + (13 * (2 + 1) + 43) ≤ R.locals; omega) (by omega) (by omega) F.2.2.2.2.2.1
    (fun t _ hz hk => ⟨h, q, hRP.kept hk, Nat.le_trans hS.1 hz, fun a ha1 ha2 => by rw [hk a (Nat.lt_of_lt_of_le ha1 hS.1)]; exact hS.2.1 a ha1 ha2⟩) hS.2.2 (by omega) (by omega)
theorem aw_throwW {ik is ic j : Nat} {cls text : String} {bs : List Int32} (hh : M.2.2.2.2 = []) (d0 : decode M.2.1 pc = .ok (.new ik, 3)) (d3 : decode M.2.1 (pc + 3) = .ok (.dup, 1)) (d4 : decode M.2.1 (pc + 4) = .ok (.ldc_w is, 3)) (d6 : decode M.2.1 (pc + 7) = .ok (.invokespecial ic, 3)) (d9 : decode M.2.1 (pc + 10) = .ok (.athrow, 1))
    (hj : oa_SL[j]? = some (M.1.cls, is, text, bs)) (hw1 : Cond.classLink M.1.cls ik cls ∈ oa_GT) (hw2 : Cond.initialized cls ∈ oa_GT) (hf1 : Bundle.fit cls = true) (hf2 : ∀ n ∈ oa_exN, Bundle.fit n = true) (ha1 : ∀ q ∈ vx_atS M.1.cls ic cls oa_exN, q ∈ lw_tbl) (ha2 : (vx_atS M.1.cls ic cls oa_exN).all oa_cd = true)
    (ha3 : ∀ q ∈ Cond.classLink M.1.cls ik cls :: Cond.initialized cls :: vx_atS M.1.cls ic cls oa_exN, vx_ot q = true) (hcat : (S.map oa_cat).sum ≤ 8) (q : Qx cls h) : AW X (d + 6) (rb + 1) M pc L S h Qr Qx := by
  intro w p l e R s m args below meth c mc ms F hX hf hlo hmc hms H locs cells slots ls hc hs hRP hS hl hL hV
  have J := F.2.2.2.2.2.2.2
  have hstr := (J.2.2.2.2.2.2.2.2.2.1 j _ hj).1
  refine vx_throwSW F.1 F.2.1 (oa_stk J.1) F.2.2.2.2.1 hf1 hf2 (J.2.1 _ hw1 args) (J.2.1 _ hw2 args) hstr (fun q hq => oa_words J ha1 ha2 q hq args) ha3 J.2.2.2.2.2.1 J.2.2.2.2.2.2.1 hS (hl.1.trans F.2.2.1.symm) d0 d3 d4 d6 d9
    (fun x hx => by rw [F.2.2.2.2.2.2.1, hh] at hx; cases hx) (by show 2 + 3 < R.frames; omega) (by rw [oa_sumcat]; show _ + (13 * (2 + 1) + 43) ≤ R.locals; omega) (by omega) (by omega) F.2.2.2.2.2.1
    (fun t _ hz hk => ⟨h, q, hRP.kept hk, Nat.le_trans hS.1 hz, fun a ha1 ha2 => by rw [hk a (Nat.lt_of_lt_of_le ha1 hS.1)]; exact hS.2.1 a ha1 ha2⟩) hS.2.2 (by omega) (by omega)
theorem aw_max {idx : Nat} {x y : Int32} (hd : decode M.2.1 pc = .ok (.invokestatic idx, 3)) (hn : pc + 3 = n) (hl : (Cond.methodLink M.1.cls idx Lib.Math.max.name) ∈ oa_GT) (h1 : (Cond.static Lib.Math.max.name) ∈ oa_GT) (h2 : (Cond.initialized "java/lang/Math") ∈ oa_GT) (h3 : (Cond.code Lib.Math.max.name Lib.Math.max.code 2 (some .int)) ∈ oa_GT) (hcat : (S.map oa_cat).sum ≤ 8)
    (k : AW X (d + 1) rb M n L (vI (if x < y then y else x) :: S) h Qr Qx) : AW X (d + 1) rb M pc L (vI y :: vI x :: S) h Qr Qx := by
  intro w p l e R s m args below meth c mc ms F hX hf hlo hmc hms H locs cells slots ls hc hs hRP hS hl' hL hV
  subst hn
  have J := F.2.2.2.2.2.2.2
  exact va_mmax F.1 F.2.1 (F.2.2.1.trans hl'.1.symm) F.2.2.2.2.1 (J.2.1 _ hl args) (J.2.1 _ h1 args) (J.2.1 _ h2 args) (J.2.1 _ h3 args) (by omega) (by rw [oa_sumcat]; omega) (by omega) (by omega) hd (k w p l e R s m args below meth c mc ms F hX hf hlo hmc hms H locs cells slots ls hc hs hRP hS hl' hL (oa_vc trivial (oa_v1 (oa_v1 hV))))
theorem aw_min {idx : Nat} {x y : Int32} (hd : decode M.2.1 pc = .ok (.invokestatic idx, 3)) (hn : pc + 3 = n) (hl : (Cond.methodLink M.1.cls idx Lib.Math.min.name) ∈ oa_GT) (h1 : (Cond.static Lib.Math.min.name) ∈ oa_GT) (h2 : (Cond.initialized "java/lang/Math") ∈ oa_GT) (h3 : (Cond.code Lib.Math.min.name Lib.Math.min.code 2 (some .int)) ∈ oa_GT) (hcat : (S.map oa_cat).sum ≤ 8)
    (k : AW X (d + 1) rb M n L (vI (if y < x then y else x) :: S) h Qr Qx) : AW X (d + 1) rb M pc L (vI y :: vI x :: S) h Qr Qx := by
  intro w p l e R s m args below meth c mc ms F hX hf hlo hmc hms H locs cells slots ls hc hs hRP hS hl' hL hV
  subst hn
  have J := F.2.2.2.2.2.2.2
  exact va_mmin F.1 F.2.1 (F.2.2.1.trans hl'.1.symm) F.2.2.2.2.1 (J.2.1 _ hl args) (J.2.1 _ h1 args) (J.2.1 _ h2 args) (J.2.1 _ h3 args) (by omega) (by rw [oa_sumcat]; omega) (by omega) (by omega) hd (k w p l e R s m args below meth c mc ms F hX hf hlo hmc hms H locs cells slots ls hc hs hRP hS hl' hL (oa_vc trivial (oa_v1 (oa_v1 hV))))
/-- System.arraycopy of int or boolean rows, from 0 to 0 -/
theorem aw_copy {idx kc t1 i1 t2 i2 n1 n2 : Nat} {fs1 fs2 : List (Nat × Nat)} {v : Int32} (hd : decode M.2.1 pc = .ok (.invokestatic idx, 3)) (hn : pc + 3 = n) (hl : (Cond.methodLink M.1.cls idx arraycopyName) ∈ oa_GT) (g1 : (Cond.native arraycopyName) ∈ oa_GT) (g2 : (Cond.static arraycopyName) ∈ oa_GT) (g3 : (Cond.initialized "java/lang/System") ∈ oa_GT)
    (ht1 : t1 < oa_nT) (ht2 : t2 < oa_nT) (hkc : kc = 1 ∨ kc = 4) (hk1 : oa_kd t1 = (kc, n1, fs1)) (hk2 : oa_kd t2 = (kc, n2, fs2)) (hv : ¬ v < 0) (hv1 : v.toNatClampNeg ≤ n1) (hv2 : v.toNatClampNeg ≤ n2) (hcat : (S.map oa_cat).sum ≤ 8)
    (k : AW X (d + 1) rb M n L S (hp_a h t2 i2 (va_cpy (h.1 t1 i1) (h.1 t2 i2) 0 0 v.toNatClampNeg)) Qr Qx) : AW X (d + 1) rb M pc L (vI v :: vI 0 :: vR t2 i2 :: vI 0 :: vR t1 i1 :: S) h Qr Qx := by
  intro w p l e R s m args below meth c mc ms F hX hf hlo hmc hms H locs cells slots ls hc hs hRP hS hl' hL hV
  subst hn
  have J := F.2.2.2.2.2.2.2
  have hi2 : i2 < oa_cn t2 := oa_vh (oa_v1 (oa_v1 hV))
  have hi1 : i1 < oa_cn t1 := oa_vh (oa_v1 (oa_v1 (oa_v1 (oa_v1 hV))))
  obtain ⟨q1, hq1, he1⟩ := oa_ws_at (w := w) (h := h) ht1 hi1
  obtain ⟨q2, hq2, he2⟩ := oa_ws_at (w := w) (h := h) ht2 hi2
  have hfr : nativeFrameWords "java/lang/System" "arraycopy" 5 + 11 ≤ 40 := by decide +kernel
  have hlz : (rest : List Value) → rest = S.map (oa_cz w) → (rest.map fun v => v.category).sum + (nativeFrameWords "java/lang/System" "arraycopy" 5 + 11) ≤ R.locals := by
    intro rest hr
    rw [hr, oa_sumcat]
    omega
  have z0 : (0 : Int32).toNatClampNeg = 0 := rfl
  rcases hkc with rfl | rfl
  · rw [oa_ent1 hk1] at he1
    rw [oa_ent1 hk2] at he2
    refine va_copyi F.1 F.2.1 (F.2.2.1.trans hl'.1.symm) F.2.2.2.2.1 (J.2.1 _ hl args) (J.2.1 _ g1 args) (J.2.1 _ g2 args) (J.2.1 _ g3 args) J.2.2.2.1 hRP.1 hRP.2.1 hS q1 q2 0 0 he1 he2 rfl rfl rfl (by decide) (by decide) hv (by rw [z0]; omega) (by rw [z0]; omega) (fun i _ => rfl) (by omega) (hlz _ rfl) hd (fun H1 locs1 hP1 hD1 hS1 => ?_)
    refine k w p l e R s m args below meth c mc ms F hX hf hlo hmc hms H1 locs1 cells slots ls hc hs ?_ hS1 hl' hL (oa_v1 (oa_v1 (oa_v1 (oa_v1 (oa_v1 hV)))))
    refine oa_RP_a hq2 hRP.2.2 (fun h4 => by rw [hk2] at h4; cases h4) ?_ hRP.2.1
    rw [oa_ent1 hk2, hp_a_s]
    exact hP1
  · rw [oa_ent4 hk1] at he1
    rw [oa_ent4 hk2] at he2
    have hz1 : ∀ i, h.1 t1 i1 i = 0 ∨ h.1 t1 i1 i = 1 := fun i => hRP.2.2.2 t1 i1 i (by rw [hk1])
    refine va_copyi F.1 F.2.1 (F.2.2.1.trans hl'.1.symm) F.2.2.2.2.1 (J.2.1 _ hl args) (J.2.1 _ g1 args) (J.2.1 _ g2 args) (J.2.1 _ g3 args) J.2.2.2.1 hRP.1 hRP.2.1 hS q1 q2 3 3 he1 he2 rfl rfl rfl (by decide) (by decide) hv (by rw [z0]; omega) (by rw [z0]; omega) (fun i _ => by rcases hz1 ((0 : Int32).toNatClampNeg + i) with q | q <;> rw [q] <;> rfl) (by omega) (hlz _ rfl) hd (fun H1 locs1 hP1 hD1 hS1 => ?_)
    refine k w p l e R s m args below meth c mc ms F hX hf hlo hmc hms H1 locs1 cells slots ls hc hs ?_ hS1 hl' hL (oa_v1 (oa_v1 (oa_v1 (oa_v1 (oa_v1 hV)))))
    refine oa_RP_a hq2 hRP.2.2 (fun h4 a => ?_) ?_ hRP.2.1
    · unfold va_cpy
      split
      · exact hz1 _
      · exact hRP.2.2.2 t2 i2 a h4
    · rw [oa_ent4 hk2, hp_a_s]
      exact hP1
/-- a string constant -/
theorem aw_ldcS {is j : Nat} {text : String} {bs : List Int32} (hd : decode M.2.1 pc = .ok (.ldc is, 2)) (hn : pc + 2 = n) (hj : oa_SL[j]? = some (M.1.cls, is, text, bs)) (k : AW X d rb M n L (vR (1000 + j) 0 :: S) h Qr Qx) : AW X d rb M pc L S h Qr Qx := by
  intro w p l e R s m args below meth c mc ms F hX hf hlo hmc hms H locs cells slots ls hc hs hRP hS hl hL hV
  subst hn
  have J := F.2.2.2.2.2.2.2
  refine va_ldcS F.1 F.2.1 F.2.2.2.2.1 (J.2.2.2.2.2.2.2.2.2.1 j _ hj).1 hd (k w p l e R s m args below meth c mc ms F hX hf hlo hmc hms H locs cells slots ls hc hs hRP hS hl hL (oa_vc ?_ hV))
  show 0 < oa_cn (1000 + j)
  unfold oa_cn
  rw [if_pos (Nat.le_add_right _ _)]
  exact Nat.one_pos
end AWT
end
section
/-! what the printed conditions use -/
def oI (P : Int32 → Hp → Prop) : Option AV → Hp → Prop := fun v h => match v with
  | some (.inl r) => P r h
  | _ => False
def oJ (P : Int64 → Hp → Prop) : Option AV → Hp → Prop := fun v h => match v with
  | some (.inr (.inl r)) => P r h
  | _ => False
def oV (P : Hp → Prop) : Option AV → Hp → Prop := fun v h => match v with
  | none => P h
  | _ => False
def oR (t : Nat) (P : Nat → Hp → Prop) : Option AV → Hp → Prop := fun v h => match v with
  | some (.inr (.inr (.inl r))) => r.1 = t ∧ P r.2 h
  | _ => False
theorem oI_of {P : Int32 → Hp → Prop} {v : Option AV} {h : Hp} (k : oI P v h) : ∃ r, v = some (vI r) ∧ P r h := by
  rcases v with _ | x | x | x | x
  · exact k.elim
  · exact ⟨x, rfl, k⟩
  · exact k.elim
  · exact k.elim
  · exact k.elim
theorem oJ_of {P : Int64 → Hp → Prop} {v : Option AV} {h : Hp} (k : oJ P v h) : ∃ r, v = some (vJ r) ∧ P r h := by
  rcases v with _ | x | x | x | x
  · exact k.elim
  · exact k.elim
  · exact ⟨x, rfl, k⟩
  · exact k.elim
  · exact k.elim
theorem oV_of {P : Hp → Prop} {v : Option AV} {h : Hp} (k : oV P v h) : v = none ∧ P h := by
  rcases v with _ | x
  · exact ⟨rfl, k⟩
  · exact k.elim
theorem oR_of {t : Nat} {P : Nat → Hp → Prop} {v : Option AV} {h : Hp} (k : oR t P v h) : ∃ r, v = some (vR t r) ∧ P r h := by
  rcases v with _ | x | x | x | x
  · exact k.elim
  · exact k.elim
  · exact k.elim
  · obtain ⟨a, b⟩ := x
    obtain ⟨rfl, k⟩ := k
    exact ⟨b, rfl, k⟩
  · exact k.elim
theorem CL.imp {k d : Nat} {M : MD} {as : List AV} {h : Hp} {Qr Qr' : Option AV → Hp → Prop} {Qx Qx' : String → Hp → Prop} (c : CL k d M as h Qr Qx) (h1 : ∀ v h', Qr v h' → Qr' v h') (h2 : ∀ E h', Qx E h' → Qx' E h') : CL k d M as h Qr' Qx' := by
  intro w l p e ha hc hk s m args below hf happ hP hK
  obtain ⟨n, o, a1, a2, a3, a4⟩ := c w l p e ha hc hk s m args below hf happ hP hK
  refine ⟨n, o, a1, a2, a3, ?_⟩
  rcases a4 with ⟨⟨v, h', c1, c2, c3, c4⟩, c5⟩ | ⟨q, c1, E, ce, LL, ⟨h', c3, c4⟩, c5⟩
  · exact Or.inl ⟨⟨v, h', c1, c2, h1 v h' c3, c4⟩, c5⟩
  · exact Or.inr ⟨q, c1, E, ce, LL, ⟨h', h2 E h' c3, c4⟩, c5⟩
theorem oa_sw (n : Nat) (hn : n < 2 ^ 31) (x : Int32) : (x < 0 ∨ nI n < x) ∨ ∃ j, j ≤ n ∧ x = nI j := by
  by_cases h0 : x < 0
  · exact Or.inl (Or.inl h0)
  · by_cases h1 : nI n < x
    · exact Or.inl (Or.inr h1)
    · obtain ⟨j, hj, rfl⟩ := nI_of h0
      exact Or.inr ⟨j, Nat.not_lt.mp fun z => h1 ((nI_ltI hn hj).mpr z), rfl⟩
theorem oa_swo {x n : Int32} {hi : Int} (hn : n.toInt = hi) (h : x < 0 ∨ n < x) : x.toInt < 0 ∨ hi < x.toInt := by
  rw [Int32.lt_iff_toInt_lt, Int32.lt_iff_toInt_lt, hn, Int32.toInt_zero] at h
  exact h
theorem oa_hu24 : ∀ b a, b < oa_cn 24 → a < 8 → 8 * b + a < oa_cn 25 := by
  show ∀ b a, b < 2 → a < 8 → 8 * b + a < 16
  omega
theorem oa_hu26 : ∀ b a, b < oa_cn 26 → a < 8 → 8 * b + a < oa_cn 27 := by
  show ∀ b a, b < 2 → a < 8 → 8 * b + a < 16
  omega
theorem oa_hu28 : ∀ b a, b < oa_cn 28 → a < 8 → 8 * b + a < oa_cn 29 := by
  show ∀ b a, b < 2 → a < 8 → 8 * b + a < 16
  omega
section AWS
variable {X : WD → State → Prop} {d rb : Nat} {M : MD} {pc n : Nat} {L L2 : List (Nat × AV)} {S St : List AV} {h : Hp} {Qr : Option AV → Hp → Prop} {Qx : String → Hp → Prop}
theorem aw_ldcSW {is j : Nat} {text : String} {bs : List Int32} (hd : decode M.2.1 pc = .ok (.ldc_w is, 3)) (hn : pc + 3 = n) (hj : oa_SL[j]? = some (M.1.cls, is, text, bs)) (k : AW X d rb M n L (vR (1000 + j) 0 :: S) h Qr Qx) : AW X d rb M pc L S h Qr Qx := by
  intro w p l e R s m args below meth c mc ms F hX hf hlo hmc hms H locs cells slots ls hc hs hRP hS hl hL hV
  subst hn
  have J := F.2.2.2.2.2.2.2
  have hZ := (J.2.2.2.2.2.2.2.2.2.1 j _ hj).1
  have kk := k w p l e R s m args below meth c mc ms F hX hf hlo hmc hms H locs cells slots ls hc hs hRP hS hl hL (oa_vc (by show 0 < oa_cn (1000 + j); unfold oa_cn; rw [if_pos (Nat.le_add_right _ _)]; exact Nat.one_pos) hV)
  intro T hT X0
  obtain ⟨t, a1, b1⟩ := kk T hT X0
  exact ⟨t, X0.ldcStringW F.1 F.2.2.2.2.1 (text := text) (a := w.2.2.1 (1000 + j) 0) hZ.1 hZ.2 (g := F0 m pc ls (S.map (oa_cz w))) rfl (by rw [F.2.1]; exact hd) t a1, b1⟩
theorem aw_callStr {M' : MD} {idx k j : Nat} {as : List AV} (hd : decode M.2.1 pc = .ok (.invokevirtual idx, 3)) (hn : pc + 3 = n) (hl : (Cond.methodLink M.1.cls idx M'.1) ∈ oa_GT) (hin : (Cond.instanceMethod M'.1) ∈ oa_GT) (hse : (Cond.selects M'.1.cls M'.1 M'.1) ∈ oa_GT) (hM : oa_MB M' as.length) (hh : M.2.2.2.2 = []) (hk : k ≤ rb) (hcat : (S.map oa_cat).sum ≤ 8) (hSt : St = as.reverse ++ vR (1000 + j) 0 :: S) (hj : j < 36) (hcl : M'.1.cls = "java/lang/String")
    (cc : CL k d M' (vR (1000 + j) 0 :: as) h (fun v h' => AW X (d + 1) (rb - k) M n L (v.toList ++ S) h' Qr Qx) Qx) : AW X (d + 1) rb M pc L St h Qr Qx := by
  intro w p l e R s m args below meth c mc ms F hX hf hlo hmc hms H locs cells slots ls hc hs hRP hS hl' hL hV
  subst hn
  subst hSt
  have hvS : ∀ v ∈ S, oa_vd v := fun v hv => hV v (List.mem_append_right _ (List.mem_cons_of_mem _ hv))
  have hv0 : oa_vd (vR (1000 + j) 0) := hV _ (List.mem_append_right _ List.mem_cons_self)
  have hva : ∀ v ∈ vR (1000 + j) 0 :: as, oa_vd v := oa_vc hv0 fun v hv => hV v (List.mem_append_left _ (List.mem_reverse.mpr hv))
  have J := F.2.2.2.2.2.2.2
  obtain ⟨q, hq⟩ : ∃ q, oa_SL[j]? = some q := ⟨_, List.getElem?_eq_getElem (show j < oa_SL.length from hj)⟩
  obtain ⟨cell, h1, h2, h3, -⟩ := (J.2.2.2.2.2.2.2.2.2.1 j _ hq).2.1.kept hS.2.1
  refine oa_after (k := k) (S := S) F hX hf hlo hmc hms hk hc hs hS hl' hL hvS hh (a := ((vR (1000 + j) 0 :: as).map (oa_cz w)).toArray) ?_
  refine vx_runV (Ts := oa_GT) (nL := M.2.2.1) (C := M'.1.cls) (b := w.2.2.1 (1000 + j) 0) (As := as.map (oa_cz w)) (rest := S.map (oa_cz w)) ⟨F.1, F.2.1, F.2.2.1, F.2.2.2.2.1, fun q hq => J.2.1 q hq args⟩ (cc w l) ⟨oa_CB1 J hM hl hf hlo, J.2.1 _ hin args, J.2.1 _ hse args⟩ ⟨oa_PC_blind, ⟨cell, h1, h2, by rw [hcl]; exact h3⟩, oa_pre F hS hRP hva⟩ rfl (by rw [List.length_map]) hl'.1 ?_ (lv_room (by rw [oa_sumcat]; exact hcat)) hd ⟨by omega, by omega⟩
  show (as.reverse ++ vR (1000 + j) 0 :: S).map (oa_cz w) = _
  rw [List.map_append, List.map_reverse]
  rfl
end AWS
end
section
theorem oa_gp {q : Cond} (i : Nat) (h : (k2_sels lw_privs)[i]? = some q) (g : goodWord q = true) : q ∈ oa_GT := List.mem_filter.mpr ⟨List.mem_append_left _ (List.mem_of_getElem? h), g⟩
theorem oa_g1 {q : Cond} (i : Nat) (h : tables_1_1[i]? = some q) (g : goodWord q = true) : q ∈ oa_GT := List.mem_filter.mpr ⟨List.mem_append_right _ (show q ∈ tables_1 from (List.mem_append_left _ (List.mem_of_getElem? h))), g⟩
theorem oa_g2 {q : Cond} (i : Nat) (h : tables_1_2[i]? = some q) (g : goodWord q = true) : q ∈ oa_GT := List.mem_filter.mpr ⟨List.mem_append_right _ (show q ∈ tables_1 from (List.mem_append_right _ (List.mem_append_left _ (List.mem_of_getElem? h)))), g⟩
theorem oa_g3 {q : Cond} (i : Nat) (h : tables_1_3[i]? = some q) (g : goodWord q = true) : q ∈ oa_GT := List.mem_filter.mpr ⟨List.mem_append_right _ (show q ∈ tables_1 from (List.mem_append_right _ (List.mem_append_right _ (List.mem_append_left _ (List.mem_of_getElem? h))))), g⟩
theorem oa_g4 {q : Cond} (i : Nat) (h : tables_1_4[i]? = some q) (g : goodWord q = true) : q ∈ oa_GT := List.mem_filter.mpr ⟨List.mem_append_right _ (show q ∈ tables_1 from (List.mem_append_right _ (List.mem_append_right _ (List.mem_append_right _ (List.mem_append_left _ (List.mem_of_getElem? h)))))), g⟩
theorem oa_g5 {q : Cond} (i : Nat) (h : tables_1_5[i]? = some q) (g : goodWord q = true) : q ∈ oa_GT := List.mem_filter.mpr ⟨List.mem_append_right _ (show q ∈ tables_1 from (List.mem_append_right _ (List.mem_append_right _ (List.mem_append_right _ (List.mem_append_right _ (List.mem_append_left _ (List.mem_of_getElem? h))))))), g⟩
theorem oa_g6 {q : Cond} (i : Nat) (h : tables_1_6[i]? = some q) (g : goodWord q = true) : q ∈ oa_GT := List.mem_filter.mpr ⟨List.mem_append_right _ (show q ∈ tables_1 from (List.mem_append_right _ (List.mem_append_right _ (List.mem_append_right _ (List.mem_append_right _ (List.mem_append_right _ (List.mem_append_left _ (List.mem_of_getElem? h)))))))), g⟩
theorem oa_g7 {q : Cond} (i : Nat) (h : tables_1_7[i]? = some q) (g : goodWord q = true) : q ∈ oa_GT := List.mem_filter.mpr ⟨List.mem_append_right _ (show q ∈ tables_1 from (List.mem_append_right _ (List.mem_append_right _ (List.mem_append_right _ (List.mem_append_right _ (List.mem_append_right _ (List.mem_append_right _ (List.mem_append_left _ (List.mem_of_getElem? h))))))))), g⟩
theorem oa_g8 {q : Cond} (i : Nat) (h : tables_1_8[i]? = some q) (g : goodWord q = true) : q ∈ oa_GT := List.mem_filter.mpr ⟨List.mem_append_right _ (show q ∈ tables_1 from (List.mem_append_right _ (List.mem_append_right _ (List.mem_append_right _ (List.mem_append_right _ (List.mem_append_right _ (List.mem_append_right _ (List.mem_append_right _ (List.mem_append_left _ (List.mem_of_getElem? h)))))))))), g⟩
theorem oa_g9 {q : Cond} (i : Nat) (h : tables_1_9[i]? = some q) (g : goodWord q = true) : q ∈ oa_GT := List.mem_filter.mpr ⟨List.mem_append_right _ (show q ∈ tables_1 from (List.mem_append_right _ (List.mem_append_right _ (List.mem_append_right _ (List.mem_append_right _ (List.mem_append_right _ (List.mem_append_right _ (List.mem_append_right _ (List.mem_append_right _ (List.mem_of_getElem? h)))))))))), g⟩
abbrev mX0_tryOut : MD := (yX0_tryOut, cX0_tryOut, 5, none, [])
abbrev mX0_begin : MD := (yX0_begin, cX0_begin, 2, none, [])
abbrev mX0_setQuotas : MD := (yX0_setQuotas, cX0_setQuotas, 3, none, [])
abbrev mX0_serve : MD := (yX0_serve, cX0_serve, 9, none, [])
abbrev mX0_grantOf : MD := (yX0_grantOf, cX0_grantOf, 2, (some .int), [])
abbrev mX0_firstRungOf : MD := (yX0_firstRungOf, cX0_firstRungOf, 2, (some .int), [])
abbrev mX0_unitsInRung : MD := (yX0_unitsInRung, cX0_unitsInRung, 2, (some .int), [])
abbrev mX0_coveredSet : MD := (yX0_coveredSet, cX0_coveredSet, 8, (some .int), [])
abbrev mX1_clear : MD := (yX1_clear, cX1_clear, 1, none, [])
abbrev mX1_addPart : MD := (yX1_addPart, cX1_addPart, 4, none, [])
abbrev mX1_addRung : MD := (yX1_addRung, cX1_addRung, 4, none, [])
abbrev mX1_beginProduct : MD := (yX1_beginProduct, cX1_beginProduct, 3, none, [])
abbrev mX1_linesOfBegun : MD := (yX1_linesOfBegun, cX1_linesOfBegun, 1, (some .int), [])
abbrev mX1_begunHas : MD := (yX1_begunHas, cX1_begunHas, 3, (some .boolean), [])
abbrev mX1_begunCanHold : MD := (yX1_begunCanHold, cX1_begunCanHold, 4, (some .boolean), [])
abbrev mX1_addLine : MD := (yX1_addLine, cX1_addLine, 5, none, [])
abbrev mX1_needWith : MD := (yX1_needWith, cX1_needWith, 6, (some .int), [])
abbrev mX1_endProduct : MD := (yX1_endProduct, cX1_endProduct, 1, none, [])
abbrev mX1_partNamed : MD := (yX1_partNamed, cX1_partNamed, 4, (some .int), [])
abbrev mX1_productNamed : MD := (yX1_productNamed, cX1_productNamed, 4, (some .int), [])
abbrev mX1_itemNamed : MD := (yX1_itemNamed, cX1_itemNamed, 4, (some .int), [])
abbrev mX1_partName : MD := (yX1_partName, cX1_partName, 2, (some .long), [])
abbrev mX1_productName : MD := (yX1_productName, cX1_productName, 2, (some .long), [])
abbrev mX1_leadTimeOf : MD := (yX1_leadTimeOf, cX1_leadTimeOf, 2, (some .int), [])
abbrev mX1_linesOf : MD := (yX1_linesOf, cX1_linesOf, 2, (some .int), [])
abbrev mX1_itemOf : MD := (yX1_itemOf, cX1_itemOf, 3, (some .int), [])
abbrev mX1_quantityOf : MD := (yX1_quantityOf, cX1_quantityOf, 3, (some .int), [])
abbrev mX1_levelOf : MD := (yX1_levelOf, cX1_levelOf, 2, (some .int), [])
abbrev mX1_needOf : MD := (yX1_needOf, cX1_needOf, 4, (some .int), [])
abbrev mX1_rungTakes : MD := (yX1_rungTakes, cX1_rungTakes, 3, (some .boolean), [])
abbrev mX1_shareOf : MD := (yX1_shareOf, cX1_shareOf, 2, (some .int), [])
abbrev mX1_tightestPart : MD := (yX1_tightestPart, cX1_tightestPart, 7, (some .int), [])
abbrev mX1_mostUnits : MD := (yX1_mostUnits, cX1_mostUnits, 5, (some .int), [])
abbrev mX1_takePieces : MD := (yX1_takePieces, cX1_takePieces, 5, none, [])
abbrev mX1_mostTogether : MD := (yX1_mostTogether, cX1_mostTogether, 8, (some .int), [])
abbrev mX1_oneMoreGains : MD := (yX1_oneMoreGains, cX1_oneMoreGains, 15, (some .boolean), [])
abbrev mX1_limitingPart : MD := (yX1_limitingPart, cX1_limitingPart, 9, (some .int), [])
abbrev mX1_leftAfter : MD := (yX1_leftAfter, cX1_leftAfter, 5, (some .long), [])
abbrev mX2_begin : MD := (yX2_begin, cX2_begin, 3, none, [])
abbrev mX2_byteAt : MD := (yX2_byteAt, cX2_byteAt, 2, (some .int), [])
abbrev mX2_put : MD := (yX2_put, cX2_put, 2, none, [])
abbrev mX2_putName : MD := (yX2_putName, cX2_putName, 5, none, [])
abbrev mX2_putText : MD := (yX2_putText, cX2_putText, 3, none, [])
abbrev mX2_putNumbered : MD := (yX2_putNumbered, cX2_putNumbered, 6, none, [])
abbrev mX3_forget : MD := (yX3_forget, cX3_forget, 1, none, [])
abbrev mX3_record : MD := (yX3_record, cX3_record, 3, none, [])
abbrev mX3_takeBack : MD := (yX3_takeBack, cX3_takeBack, 4, (some .boolean), [])
abbrev mX4_hasRoomFor : MD := (yX4_hasRoomFor, cX4_hasRoomFor, 2, (some .boolean), [])
abbrev mX4_putWord : MD := (yX4_putWord, cX4_putWord, 3, none, [])
abbrev mX4_shorten : MD := (yX4_shorten, cX4_shorten, 2, (some .boolean), [])
abbrev mX4_signAt : MD := (yX4_signAt, cX4_signAt, 2, (some .int), [])
abbrev mX5_clear : MD := (yX5_clear, cX5_clear, 1, none, [])
abbrev mX5_copyFrom : MD := (yX5_copyFrom, cX5_copyFrom, 2, none, [])
abbrev mX5_openPieces : MD := (yX5_openPieces, cX5_openPieces, 5, (some .int), [])
abbrev mX5_changeReserved : MD := (yX5_changeReserved, cX5_changeReserved, 6, none, [])
abbrev mX5_sendReserved : MD := (yX5_sendReserved, cX5_sendReserved, 7, (some .int), [])
abbrev mX5_releaseExcess : MD := (yX5_releaseExcess, cX5_releaseExcess, 7, (some .int), [])
abbrev mX6_copyFrom : MD := (yX6_copyFrom, cX6_copyFrom, 2, none, [])
abbrev mX6_enter : MD := (yX6_enter, cX6_enter, 6, (some .int), [])
abbrev mX6_productOf : MD := (yX6_productOf, cX6_productOf, 2, (some .int), [])
abbrev mX6_quantityOf : MD := (yX6_quantityOf, cX6_quantityOf, 2, (some .int), [])
abbrev mX6_classOf : MD := (yX6_classOf, cX6_classOf, 2, (some .int), [])
abbrev mX6_dueOf : MD := (yX6_dueOf, cX6_dueOf, 2, (some .int), [])
abbrev mX6_isWhole : MD := (yX6_isWhole, cX6_isWhole, 2, (some .boolean), [])
abbrev mX6_reservedOf : MD := (yX6_reservedOf, cX6_reservedOf, 2, (some .int), [])
abbrev mX6_shippedOf : MD := (yX6_shippedOf, cX6_shippedOf, 2, (some .int), [])
abbrev mX6_openOf : MD := (yX6_openOf, cX6_openOf, 2, (some .int), [])
abbrev mX6_stateFor : MD := (yX6_stateFor, cX6_stateFor, 2, (some .int), [])
abbrev mX6_mayMove : MD := (yX6_mayMove, cX6_mayMove, 3, (some .boolean), [])
abbrev mX6_addReserved : MD := (yX6_addReserved, cX6_addReserved, 3, none, [])
abbrev mX6_addShipped : MD := (yX6_addShipped, cX6_addShipped, 3, none, [])
abbrev mX6_markCancelled : MD := (yX6_markCancelled, cX6_markCancelled, 2, none, [])
abbrev mX6_fillTurns : MD := (yX6_fillTurns, cX6_fillTurns, 4, none, [])
abbrev mX6_isServedBefore : MD := (yX6_isServedBefore, cX6_isServedBefore, 3, (some .boolean), [])
abbrev mX6_firstToLose : MD := (yX6_firstToLose, cX6_firstToLose, 6, (some .int), [])
abbrev mX6_losesBefore : MD := (yX6_losesBefore, cX6_losesBefore, 3, (some .boolean), [])
abbrev mX7_begin : MD := (yX7_begin, cX7_begin, 1, none, [])
abbrev mX7_hasLine : MD := (yX7_hasLine, cX7_hasLine, 1, (some .boolean), [])
abbrev mX7_swapCatalog : MD := (yX7_swapCatalog, cX7_swapCatalog, 3, (some (.object "OrderAssembler$Catalog")), [])
abbrev mX7_swapLedger : MD := (yX7_swapLedger, cX7_swapLedger, 3, (some (.object "OrderAssembler$Ledger")), [])
abbrev mX7_readLine : MD := (yX7_readLine, cX7_readLine, 1, (some .boolean), [])
abbrev mX7_fail : MD := (yX7_fail, cX7_fail, 2, (some .boolean), [])
abbrev mX7_readSemicolon : MD := (yX7_readSemicolon, cX7_readSemicolon, 1, (some .boolean), [])
abbrev mX7_readPart : MD := (yX7_readPart, cX7_readPart, 5, (some .boolean), [])
abbrev mX7_readProduct : MD := (yX7_readProduct, cX7_readProduct, 3, (some .boolean), [])
abbrev mX7_readBillLine : MD := (yX7_readBillLine, cX7_readBillLine, 3, (some .boolean), [])
abbrev mX7_readRung : MD := (yX7_readRung, cX7_readRung, 4, (some .boolean), [])
abbrev mX7_readOrder : MD := (yX7_readOrder, cX7_readOrder, 6, (some .boolean), [])
abbrev mX7_isNewName : MD := (yX7_isNewName, cX7_isNewName, 1, (some .boolean), [])
abbrev mX7_readNumber : MD := (yX7_readNumber, cX7_readNumber, 4, (some .int), [])
abbrev mX8_clear : MD := (yX8_clear, cX8_clear, 1, none, [])
abbrev mX8_copyFrom : MD := (yX8_copyFrom, cX8_copyFrom, 2, none, [])
abbrev mX8_addShipment : MD := (yX8_addShipment, cX8_addShipment, 6, none, [])
abbrev mX8_addBought : MD := (yX8_addBought, cX8_addBought, 2, none, [])
abbrev mX8_totalOf : MD := (yX8_totalOf, cX8_totalOf, 2, (some .int), [])
abbrev mX8_entry : MD := (yX8_entry, cX8_entry, 4, (some .int), [])
abbrev mX9_restart : MD := (yX9_restart, cX9_restart, 1, none, [])
abbrev mX9_step : MD := (yX9_step, cX9_step, 2, none, [])
abbrev mX9_isSpace : MD := (yX9_isSpace, cX9_isSpace, 1, (some .boolean), [])
abbrev mX9_kindOf : MD := (yX9_kindOf, cX9_kindOf, 1, (some .int), [])
abbrev mX9_isWord : MD := (yX9_isWord, cX9_isWord, 3, (some .boolean), [])
abbrev mX9_isSemicolon : MD := (yX9_isSemicolon, cX9_isSemicolon, 1, (some .boolean), [])
abbrev mX9_isName : MD := (yX9_isName, cX9_isName, 1, (some .boolean), [])
abbrev mX9_name : MD := (yX9_name, cX9_name, 4, (some .long), [])
abbrev mX9_value : MD := (yX9_value, cX9_value, 3, (some .int), [])
abbrev mX10_clear : MD := (yX10_clear, cX10_clear, 1, none, [])
abbrev mX10_copyFrom : MD := (yX10_copyFrom, cX10_copyFrom, 2, none, [])
abbrev mX10_stockOf : MD := (yX10_stockOf, cX10_stockOf, 2, (some .int), [])
abbrev mX10_reservedOf : MD := (yX10_reservedOf, cX10_reservedOf, 2, (some .int), [])
abbrev mX10_freeOf : MD := (yX10_freeOf, cX10_freeOf, 2, (some .int), [])
abbrev mX10_fillFree : MD := (yX10_fillFree, cX10_fillFree, 3, none, [])
abbrev mX10_setStock : MD := (yX10_setStock, cX10_setStock, 3, none, [])
abbrev mX10_addReserved : MD := (yX10_addReserved, cX10_addReserved, 3, none, [])
abbrev mX10_addArrival : MD := (yX10_addArrival, cX10_addArrival, 5, (some .int), [])
abbrev mX10_passDay : MD := (yX10_passDay, cX10_passDay, 4, (some .int), [])
abbrev mX10_allArriving : MD := (yX10_allArriving, cX10_allArriving, 2, (some .int), [])
abbrev mX10_arrivingUntil : MD := (yX10_arrivingUntil, cX10_arrivingUntil, 5, (some .int), [])
abbrev mX10_earliestArrival : MD := (yX10_earliestArrival, cX10_earliestArrival, 4, (some .int), [])
abbrev mX10_dayFor : MD := (yX10_dayFor, cX10_dayFor, 8, (some .int), [])
abbrev mX11_append : MD := (yX11_append, cX11_append, 6, (some .int), [])
abbrev mX11_truncate : MD := (yX11_truncate, cX11_truncate, 2, (some .boolean), [])
abbrev mX11_load : MD := (yX11_load, cX11_load, 3, (some .int), [])
abbrev mX11_errorOffset : MD := (yX11_errorOffset, cX11_errorOffset, 1, (some .int), [])
abbrev mX11_errorKind : MD := (yX11_errorKind, cX11_errorKind, 1, (some .int), [])
abbrev mX11_count : MD := (yX11_count, cX11_count, 2, (some .int), [])
abbrev mX11_lineCount : MD := (yX11_lineCount, cX11_lineCount, 2, (some .int), [])
abbrev mX11_lineItem : MD := (yX11_lineItem, cX11_lineItem, 3, (some .int), [])
abbrev mX11_lineQuantity : MD := (yX11_lineQuantity, cX11_lineQuantity, 3, (some .int), [])
abbrev mX11_need : MD := (yX11_need, cX11_need, 3, (some .int), [])
abbrev mX11_level : MD := (yX11_level, cX11_level, 2, (some .int), [])
abbrev mX11_pieces : MD := (yX11_pieces, cX11_pieces, 4, (some .int), [])
abbrev mX11_usedBy : MD := (yX11_usedBy, cX11_usedBy, 4, (some .int), [])
abbrev mX11_commonParts : MD := (yX11_commonParts, cX11_commonParts, 5, (some .int), [])
abbrev mX11_day : MD := (yX11_day, cX11_day, 1, (some .int), [])
abbrev mX11_stock : MD := (yX11_stock, cX11_stock, 2, (some .int), [])
abbrev mX11_reserved : MD := (yX11_reserved, cX11_reserved, 2, (some .int), [])
abbrev mX11_arriving : MD := (yX11_arriving, cX11_arriving, 2, (some .int), [])
abbrev mX11_nextArrival : MD := (yX11_nextArrival, cX11_nextArrival, 2, (some .int), [])
abbrev mX11_buildable : MD := (yX11_buildable, cX11_buildable, 2, (some .int), [])
abbrev mX11_bottleneck : MD := (yX11_bottleneck, cX11_bottleneck, 2, (some .int), [])
abbrev mX11_buildableTogether : MD := (yX11_buildableTogether, cX11_buildableTogether, 3, (some .int), [])
abbrev mX11_stateOf : MD := (yX11_stateOf, cX11_stateOf, 2, (some .int), [])
abbrev mX11_openUnits : MD := (yX11_openUnits, cX11_openUnits, 2, (some .int), [])
abbrev mX11_reservedUnits : MD := (yX11_reservedUnits, cX11_reservedUnits, 2, (some .int), [])
abbrev mX11_shippedUnits : MD := (yX11_shippedUnits, cX11_shippedUnits, 2, (some .int), [])
abbrev mX11_orderField : MD := (yX11_orderField, cX11_orderField, 4, (some .int), [])
abbrev mX11_missing : MD := (yX11_missing, cX11_missing, 3, (some .int), [])
abbrev mX11_toBuy : MD := (yX11_toBuy, cX11_toBuy, 2, (some .int), [])
abbrev mX11_scarcestPart : MD := (yX11_scarcestPart, cX11_scarcestPart, 5, (some .int), [])
abbrev mX11_promise : MD := (yX11_promise, cX11_promise, 3, (some .int), [])
abbrev mX11_promiseOf : MD := (yX11_promiseOf, cX11_promiseOf, 2, (some .int), [])
abbrev mX11_delayingPart : MD := (yX11_delayingPart, cX11_delayingPart, 9, (some .int), [])
abbrev mX11_lateOrders : MD := (yX11_lateOrders, cX11_lateOrders, 5, (some .int), [])
abbrev mX11_wouldGet : MD := (yX11_wouldGet, cX11_wouldGet, 2, (some .int), [])
abbrev mX11_rungOf : MD := (yX11_rungOf, cX11_rungOf, 2, (some .int), [])
abbrev mX11_rungUnits : MD := (yX11_rungUnits, cX11_rungUnits, 2, (some .int), [])
abbrev mX11_missingPieces : MD := (yX11_missingPieces, cX11_missingPieces, 4, (some .int), [])
abbrev mX11_buildableAfter : MD := (yX11_buildableAfter, cX11_buildableAfter, 4, (some .int), [])
abbrev mX11_coveredOrders : MD := (yX11_coveredOrders, cX11_coveredOrders, 1, (some .int), [])
abbrev mX11_promiseOfAll : MD := (yX11_promiseOfAll, cX11_promiseOfAll, 4, (some .int), [])
abbrev mX11_addOrder : MD := (yX11_addOrder, cX11_addOrder, 6, (some .int), [])
abbrev mX11_cancel : MD := (yX11_cancel, cX11_cancel, 3, (some .int), [])
abbrev mX11_reserve : MD := (yX11_reserve, cX11_reserve, 4, (some .int), [])
abbrev mX11_release : MD := (yX11_release, cX11_release, 4, (some .int), [])
abbrev mX11_allocate : MD := (yX11_allocate, cX11_allocate, 4, (some .int), [])
abbrev mX11_ship : MD := (yX11_ship, cX11_ship, 2, (some .int), [])
abbrev mX11_buy : MD := (yX11_buy, cX11_buy, 3, (some .int), [])
abbrev mX11_adjust : MD := (yX11_adjust, cX11_adjust, 3, (some .int), [])
abbrev mX11_advance : MD := (yX11_advance, cX11_advance, 4, (some .int), [])
abbrev mX11_undo : MD := (yX11_undo, cX11_undo, 1, (some .int), [])
abbrev mX11_undoDepth : MD := (yX11_undoDepth, cX11_undoDepth, 1, (some .int), [])
abbrev mX11_total : MD := (yX11_total, cX11_total, 2, (some .int), [])
abbrev mX11_shipment : MD := (yX11_shipment, cX11_shipment, 3, (some .int), [])
abbrev mX11_formatOrder : MD := (yX11_formatOrder, cX11_formatOrder, 3, (some .int), [])
abbrev mX11_formatNeeds : MD := (yX11_formatNeeds, cX11_formatNeeds, 4, (some .int), [])
abbrev mX11_formattedByte : MD := (yX11_formattedByte, cX11_formattedByte, 2, (some .int), [])
abbrev mX11_checkPart : MD := (yX11_checkPart, cX11_checkPart, 2, none, [])
abbrev mX11_checkProduct : MD := (yX11_checkProduct, cX11_checkProduct, 2, none, [])
abbrev mX11_checkOrder : MD := (yX11_checkOrder, cX11_checkOrder, 2, none, [])
abbrev mX11_checkRung : MD := (yX11_checkRung, cX11_checkRung, 2, none, [])
abbrev mX11_checkArgument : MD := (yX11_checkArgument, cX11_checkArgument, 1, none, [])
abbrev mX11_checkState : MD := (yX11_checkState, cX11_checkState, 1, none, [])
abbrev mX11_isInside : MD := (yX11_isInside, cX11_isInside, 2, (some .boolean), [])
abbrev mX11_isClosed : MD := (yX11_isClosed, cX11_isClosed, 3, (some .boolean), [])
abbrev mX11_shortageOf : MD := (yX11_shortageOf, cX11_shortageOf, 4, (some .int), [])
abbrev mX11_shortageOfAll : MD := (yX11_shortageOfAll, cX11_shortageOfAll, 4, (some .int), [])
abbrev mX11_dayOfPart : MD := (yX11_dayOfPart, cX11_dayOfPart, 3, (some .int), [])
abbrev mX11_promiseDate : MD := (yX11_promiseDate, cX11_promiseDate, 6, (some .int), [])
abbrev mX12_thrown : MD := (yX12_thrown, cX12_thrown, 1, (some .int), [])
abbrev mX12_throwsIf : MD := (yX12_throwsIf, cX12_throwsIf, 3, (some .boolean), [])
abbrev mX12_in : MD := (yX12_in, cX12_in, 3, (some .boolean), [])
abbrev mX12_append : MD := (yX12_append, cX12_append, 7, (some .int), [])
abbrev mX12_truncate : MD := (yX12_truncate, cX12_truncate, 2, (some .boolean), [])
abbrev mX12_errorOffset : MD := (yX12_errorOffset, cX12_errorOffset, 1, (some .int), [])
abbrev mX12_errorKind : MD := (yX12_errorKind, cX12_errorKind, 1, (some .int), [])
abbrev mX12_hasFailed : MD := (yX12_hasFailed, cX12_hasFailed, 1, (some .boolean), [])
abbrev mX12_isAt : MD := (yX12_isAt, cX12_isAt, 3, (some .boolean), [])
abbrev mX12_blanks : MD := (yX12_blanks, cX12_blanks, 1, none, [])
abbrev mX12_must : MD := (yX12_must, cX12_must, 3, none, [])
abbrev mX12_letters : MD := (yX12_letters, cX12_letters, 2, (some .int), [])
abbrev mX12_isWord : MD := (yX12_isWord, cX12_isWord, 4, (some .boolean), [])
abbrev mX12_takes : MD := (yX12_takes, cX12_takes, 3, (some .boolean), [])
abbrev mX12_number : MD := (yX12_number, cX12_number, 4, (some .int), [])
abbrev mX12_usualRung : MD := (yX12_usualRung, cX12_usualRung, 1, none, [])
abbrev mX12_named : MD := (yX12_named, cX12_named, 5, (some .int), [])
abbrev mX12_newName : MD := (yX12_newName, cX12_newName, 5, none, [])
abbrev mX12_part : MD := (yX12_part, cX12_part, 2, none, [])
abbrev mX12_product : MD := (yX12_product, cX12_product, 4, none, [])
abbrev mX12_blanks0 : MD := (yX12_blanks0, cX12_blanks0, 1, none, [])
abbrev mX12_line : MD := (yX12_line, cX12_line, 6, none, [])
abbrev mX12_rung : MD := (yX12_rung, cX12_rung, 2, none, [])
abbrev mX12_order : MD := (yX12_order, cX12_order, 3, none, [])
abbrev mX12_load : MD := (yX12_load, cX12_load, 2, (some .int), [])
abbrev mX12_takesOver : MD := (yX12_takesOver, cX12_takesOver, 3, none, [])
abbrev mX12_keeps : MD := (yX12_keeps, cX12_keeps, 2, none, [])
abbrev mX12_undo : MD := (yX12_undo, cX12_undo, 2, (some .int), [])
abbrev mX12_undoDepth : MD := (yX12_undoDepth, cX12_undoDepth, 1, (some .int), [])
abbrev mX12_noPart : MD := (yX12_noPart, cX12_noPart, 2, (some .boolean), [])
abbrev mX12_noProduct : MD := (yX12_noProduct, cX12_noProduct, 2, (some .boolean), [])
abbrev mX12_noOrder : MD := (yX12_noOrder, cX12_noOrder, 2, (some .boolean), [])
abbrev mX12_needs : MD := (yX12_needs, cX12_needs, 3, (some .int), [])
abbrev mX12_free : MD := (yX12_free, cX12_free, 2, (some .int), [])
abbrev mX12_of : MD := (yX12_of, cX12_of, 3, (some .int), [])
abbrev mX12_grows : MD := (yX12_grows, cX12_grows, 4, none, [])
abbrev mX12_open : MD := (yX12_open, cX12_open, 2, (some .int), [])
abbrev mX12_count : MD := (yX12_count, cX12_count, 2, (some .int), [])
abbrev mX12_lineCount : MD := (yX12_lineCount, cX12_lineCount, 2, (some .int), [])
abbrev mX12_lineItem : MD := (yX12_lineItem, cX12_lineItem, 4, (some .int), [])
abbrev mX12_lineQuantity : MD := (yX12_lineQuantity, cX12_lineQuantity, 3, (some .int), [])
abbrev mX12_need : MD := (yX12_need, cX12_need, 3, (some .int), [])
abbrev mX12_levelOf : MD := (yX12_levelOf, cX12_levelOf, 5, (some .int), [])
abbrev mX12_level : MD := (yX12_level, cX12_level, 2, (some .int), [])
abbrev mX12_pieces : MD := (yX12_pieces, cX12_pieces, 4, (some .int), [])
abbrev mX12_usedBy : MD := (yX12_usedBy, cX12_usedBy, 4, (some .int), [])
abbrev mX12_commonParts : MD := (yX12_commonParts, cX12_commonParts, 5, (some .int), [])
abbrev mX12_day : MD := (yX12_day, cX12_day, 1, (some .int), [])
abbrev mX12_stock : MD := (yX12_stock, cX12_stock, 2, (some .int), [])
abbrev mX12_reserved : MD := (yX12_reserved, cX12_reserved, 2, (some .int), [])
abbrev mX12_comesBy : MD := (yX12_comesBy, cX12_comesBy, 5, (some .int), [])
abbrev mX12_arriving : MD := (yX12_arriving, cX12_arriving, 2, (some .int), [])
abbrev mX12_nextArrival : MD := (yX12_nextArrival, cX12_nextArrival, 5, (some .int), [])
abbrev mX12_leastOf : MD := (yX12_leastOf, cX12_leastOf, 4, (some .int), [])
abbrev mX12_builds : MD := (yX12_builds, cX12_builds, 2, (some .int), [])
abbrev mX12_buildable : MD := (yX12_buildable, cX12_buildable, 2, (some .int), [])
abbrev mX12_bottleneck : MD := (yX12_bottleneck, cX12_bottleneck, 2, (some .int), [])
abbrev mX12_buildableTogether : MD := (yX12_buildableTogether, cX12_buildableTogether, 7, (some .int), [])
abbrev mX12_stateOf : MD := (yX12_stateOf, cX12_stateOf, 2, (some .int), [])
abbrev mX12_openUnits : MD := (yX12_openUnits, cX12_openUnits, 2, (some .int), [])
abbrev mX12_reservedUnits : MD := (yX12_reservedUnits, cX12_reservedUnits, 2, (some .int), [])
abbrev mX12_shippedUnits : MD := (yX12_shippedUnits, cX12_shippedUnits, 2, (some .int), [])
abbrev mX12_orderField : MD := (yX12_orderField, cX12_orderField, 3, (some .int), [])
abbrev mX12_missing : MD := (yX12_missing, cX12_missing, 3, (some .int), [])
abbrev mX12_buys : MD := (yX12_buys, cX12_buys, 4, (some .int), [])
abbrev mX12_toBuy : MD := (yX12_toBuy, cX12_toBuy, 2, (some .int), [])
abbrev mX12_scarcestPart : MD := (yX12_scarcestPart, cX12_scarcestPart, 3, (some .int), [])
abbrev mX12_dayOf : MD := (yX12_dayOf, cX12_dayOf, 7, (some .int), [])
abbrev mX12_promises : MD := (yX12_promises, cX12_promises, 5, (some .int), [])
abbrev mX12_promise : MD := (yX12_promise, cX12_promise, 3, (some .int), [])
abbrev mX12_isOver : MD := (yX12_isOver, cX12_isOver, 2, (some .boolean), [])
abbrev mX12_promiseOf : MD := (yX12_promiseOf, cX12_promiseOf, 2, (some .int), [])
abbrev mX12_delayingPart : MD := (yX12_delayingPart, cX12_delayingPart, 6, (some .int), [])
abbrev mX12_lateOrders : MD := (yX12_lateOrders, cX12_lateOrders, 3, (some .int), [])
abbrev mX12_isAhead : MD := (yX12_isAhead, cX12_isAhead, 3, (some .boolean), [])
abbrev mX12_nextIn : MD := (yX12_nextIn, cX12_nextIn, 5, (some .int), [])
abbrev mX12_triesAll : MD := (yX12_triesAll, cX12_triesAll, 2, none, [])
abbrev mX12_triesRung : MD := (yX12_triesRung, cX12_triesRung, 4, none, [])
abbrev mX12_can : MD := (yX12_can, cX12_can, 5, (some .int), [])
abbrev mX12_takes0 : MD := (yX12_takes0, cX12_takes0, 4, none, [])
abbrev mX12_wouldGet : MD := (yX12_wouldGet, cX12_wouldGet, 2, (some .int), [])
abbrev mX12_rungOf : MD := (yX12_rungOf, cX12_rungOf, 2, (some .int), [])
abbrev mX12_rungUnits : MD := (yX12_rungUnits, cX12_rungUnits, 2, (some .int), [])
abbrev mX12_missingPieces : MD := (yX12_missingPieces, cX12_missingPieces, 4, (some .int), [])
abbrev mX12_buildableAfter : MD := (yX12_buildableAfter, cX12_buildableAfter, 7, (some .int), [])
abbrev mX12_coveredOrders : MD := (yX12_coveredOrders, cX12_coveredOrders, 4, (some .int), [])
abbrev mX12_nextOpen : MD := (yX12_nextOpen, cX12_nextOpen, 4, (some .int), [])
abbrev mX12_isCovered : MD := (yX12_isCovered, cX12_isCovered, 3, (some .boolean), [])
abbrev mX12_promiseOfAll : MD := (yX12_promiseOfAll, cX12_promiseOfAll, 5, (some .int), [])
abbrev mX12_addOrder : MD := (yX12_addOrder, cX12_addOrder, 9, (some .int), [])
abbrev mX12_holds : MD := (yX12_holds, cX12_holds, 4, none, [])
abbrev mX12_cancel : MD := (yX12_cancel, cX12_cancel, 3, (some .int), [])
abbrev mX12_hasFor : MD := (yX12_hasFor, cX12_hasFor, 4, (some .boolean), [])
abbrev mX12_isOff : MD := (yX12_isOff, cX12_isOff, 3, (some .boolean), [])
abbrev mX12_reserve : MD := (yX12_reserve, cX12_reserve, 3, (some .int), [])
abbrev mX12_release : MD := (yX12_release, cX12_release, 3, (some .int), [])
abbrev mX12_allocate : MD := (yX12_allocate, cX12_allocate, 3, (some .int), [])
abbrev mX12_ship : MD := (yX12_ship, cX12_ship, 4, (some .int), [])
abbrev mX12_logs : MD := (yX12_logs, cX12_logs, 4, none, [])
abbrev mX12_buy : MD := (yX12_buy, cX12_buy, 4, (some .int), [])
abbrev mX12_loser : MD := (yX12_loser, cX12_loser, 5, (some .int), [])
abbrev mX12_adjust : MD := (yX12_adjust, cX12_adjust, 6, (some .int), [])
abbrev mX12_comesNow : MD := (yX12_comesNow, cX12_comesNow, 6, (some .int), [])
abbrev mX12_advance : MD := (yX12_advance, cX12_advance, 4, (some .int), [])
abbrev mX12_total : MD := (yX12_total, cX12_total, 2, (some .int), [])
abbrev mX12_shipment : MD := (yX12_shipment, cX12_shipment, 3, (some .int), [])
abbrev mX12_says : MD := (yX12_says, cX12_says, 2, none, [])
abbrev mX12_saysNumber : MD := (yX12_saysNumber, cX12_saysNumber, 2, none, [])
abbrev mX12_saysWord : MD := (yX12_saysWord, cX12_saysWord, 3, none, [])
abbrev mX12_saysName : MD := (yX12_saysName, cX12_saysName, 3, none, [])
abbrev mX12_saysPart : MD := (yX12_saysPart, cX12_saysPart, 3, none, [])
abbrev mX12_formatOrder : MD := (yX12_formatOrder, cX12_formatOrder, 2, (some .int), [])
abbrev mX12_formatNeeds : MD := (yX12_formatNeeds, cX12_formatNeeds, 3, (some .int), [])
abbrev mX12_formattedByte : MD := (yX12_formattedByte, cX12_formattedByte, 2, (some .int), [])
abbrev mJ9_floorMod_7cf53 : MD := (yJ9_floorMod_7cf53, cJ9_floorMod_7cf53, 3, (some .int), [])
abbrev mJ7_fill_53178 : MD := (yJ7_fill_53178, cJ7_fill_53178, 4, none, [])
abbrev mJ0_length_8abf5 : MD := (yJ0_length_8abf5, cJ0_length_8abf5, 1, (some .int), [])
abbrev mJ0_charAt_5068e : MD := (yJ0_charAt_5068e, cJ0_charAt_5068e, 2, (some .char), [])
abbrev mJ0_coder_7d493 : MD := (yJ0_coder_7d493, cJ0_coder_7d493, 1, (some .byte), [])
abbrev mJ0_isLatin1_aae02 : MD := (yJ0_isLatin1_aae02, cJ0_isLatin1_aae02, 1, (some .boolean), [])
abbrev mJ0_checkIndex_df160 : MD := (yJ0_checkIndex_df160, cJ0_checkIndex_df160, 2, none, [])
abbrev mJ1_charAt_3b067 : MD := (yJ1_charAt_3b067, cJ1_charAt_3b067, 2, (some .char), [])
abbrev mJ3_checkIndex_8e157 : MD := (yJ3_checkIndex_8e157, cJ3_checkIndex_8e157, 3, (some .int), [])
theorem gw_0 : (Cond.selects RX11 yX11_shortageOfAll yX11_shortageOfAll) ∈ oa_GT := oa_gp 0 (by decide +kernel) rfl
theorem gw_1 : (Cond.selects RX10 yX10_arrivingUntil yX10_arrivingUntil) ∈ oa_GT := oa_gp 1 (by decide +kernel) rfl
theorem gw_2 : (Cond.selects RX11 yX11_promiseDate yX11_promiseDate) ∈ oa_GT := oa_gp 2 (by decide +kernel) rfl
theorem gw_3 : (Cond.selects RX11 yX11_dayOfPart yX11_dayOfPart) ∈ oa_GT := oa_gp 3 (by decide +kernel) rfl
theorem gw_4 : (Cond.selects RX0 yX0_begin yX0_begin) ∈ oa_GT := oa_gp 4 (by decide +kernel) rfl
theorem gw_5 : (Cond.selects RX6 yX6_isServedBefore yX6_isServedBefore) ∈ oa_GT := oa_gp 5 (by decide +kernel) rfl
theorem gw_6 : (Cond.selects RX0 yX0_setQuotas yX0_setQuotas) ∈ oa_GT := oa_gp 6 (by decide +kernel) rfl
theorem gw_7 : (Cond.selects RX0 yX0_serve yX0_serve) ∈ oa_GT := oa_gp 7 (by decide +kernel) rfl
theorem gw_8 : (Cond.selects RX7 yX7_readPart yX7_readPart) ∈ oa_GT := oa_gp 8 (by decide +kernel) rfl
theorem gw_9 : (Cond.selects RX7 yX7_isNewName yX7_isNewName) ∈ oa_GT := oa_gp 9 (by decide +kernel) rfl
theorem gw_10 : (Cond.selects RX7 yX7_fail yX7_fail) ∈ oa_GT := oa_gp 10 (by decide +kernel) rfl
theorem gw_11 : (Cond.selects RX7 yX7_readNumber yX7_readNumber) ∈ oa_GT := oa_gp 11 (by decide +kernel) rfl
theorem gw_12 : (Cond.selects RX7 yX7_readSemicolon yX7_readSemicolon) ∈ oa_GT := oa_gp 12 (by decide +kernel) rfl
theorem gw_13 : (Cond.selects RX7 yX7_readProduct yX7_readProduct) ∈ oa_GT := oa_gp 13 (by decide +kernel) rfl
theorem gw_14 : (Cond.selects RX7 yX7_readBillLine yX7_readBillLine) ∈ oa_GT := oa_gp 14 (by decide +kernel) rfl
theorem gw_15 : (Cond.selects RX1 yX1_needWith yX1_needWith) ∈ oa_GT := oa_gp 15 (by decide +kernel) rfl
theorem gw_16 : (Cond.selects RX7 yX7_readRung yX7_readRung) ∈ oa_GT := oa_gp 16 (by decide +kernel) rfl
theorem gw_17 : (Cond.selects RX7 yX7_readOrder yX7_readOrder) ∈ oa_GT := oa_gp 17 (by decide +kernel) rfl
theorem gw_19 : (Cond.selects RX11 yX11_checkProduct yX11_checkProduct) ∈ oa_GT := oa_gp 19 (by decide +kernel) rfl
theorem gw_20 : (Cond.selects RX11 yX11_checkPart yX11_checkPart) ∈ oa_GT := oa_gp 20 (by decide +kernel) rfl
theorem gw_21 : (Cond.selects RX1 yX1_oneMoreGains yX1_oneMoreGains) ∈ oa_GT := oa_gp 21 (by decide +kernel) rfl
theorem gw_22 : (Cond.selects RX1 yX1_limitingPart yX1_limitingPart) ∈ oa_GT := oa_gp 22 (by decide +kernel) rfl
theorem gw_23 : (Cond.selects RX1 yX1_leftAfter yX1_leftAfter) ∈ oa_GT := oa_gp 23 (by decide +kernel) rfl
theorem gw_24 : (Cond.selects RX11 yX11_checkOrder yX11_checkOrder) ∈ oa_GT := oa_gp 24 (by decide +kernel) rfl
theorem gw_25 : (Cond.selects RX11 yX11_shortageOf yX11_shortageOf) ∈ oa_GT := oa_gp 25 (by decide +kernel) rfl
theorem gw_26 : (Cond.selects RX11 yX11_isClosed yX11_isClosed) ∈ oa_GT := oa_gp 26 (by decide +kernel) rfl
theorem gw_27 : (Cond.selects RX11 yX11_checkRung yX11_checkRung) ∈ oa_GT := oa_gp 27 (by decide +kernel) rfl
theorem gw_28 : (Cond.selects RX6 yX6_losesBefore yX6_losesBefore) ∈ oa_GT := oa_gp 28 (by decide +kernel) rfl
theorem gw_29 : (Cond.selects RX2 yX2_put yX2_put) ∈ oa_GT := oa_gp 29 (by decide +kernel) rfl
theorem gw_30 : (Cond.selects RX12 yX12_usualRung yX12_usualRung) ∈ oa_GT := oa_gp 30 (by decide +kernel) rfl
theorem gw_31 : (Cond.selects RX12 yX12_takesOver yX12_takesOver) ∈ oa_GT := oa_gp 31 (by decide +kernel) rfl
theorem gw_32 : (Cond.selects RX12 yX12_blanks yX12_blanks) ∈ oa_GT := oa_gp 32 (by decide +kernel) rfl
theorem gw_33 : (Cond.selects RX12 yX12_isAt yX12_isAt) ∈ oa_GT := oa_gp 33 (by decide +kernel) rfl
theorem gw_34 : (Cond.selects RX12 yX12_hasFailed yX12_hasFailed) ∈ oa_GT := oa_gp 34 (by decide +kernel) rfl
theorem gw_35 : (Cond.selects RX12 yX12_isWord yX12_isWord) ∈ oa_GT := oa_gp 35 (by decide +kernel) rfl
theorem gw_36 : (Cond.selects RX12 yX12_letters yX12_letters) ∈ oa_GT := oa_gp 36 (by decide +kernel) rfl
theorem gw_37 : (Cond.selects RX12 yX12_part yX12_part) ∈ oa_GT := oa_gp 37 (by decide +kernel) rfl
theorem gw_38 : (Cond.selects RX12 yX12_must yX12_must) ∈ oa_GT := oa_gp 38 (by decide +kernel) rfl
theorem gw_39 : (Cond.selects RX12 yX12_newName yX12_newName) ∈ oa_GT := oa_gp 39 (by decide +kernel) rfl
theorem gw_40 : (Cond.selects RX12 yX12_named yX12_named) ∈ oa_GT := oa_gp 40 (by decide +kernel) rfl
theorem gw_41 : (Cond.selects RX12 yX12_number yX12_number) ∈ oa_GT := oa_gp 41 (by decide +kernel) rfl
theorem gw_42 : (Cond.selects RX12 yX12_product yX12_product) ∈ oa_GT := oa_gp 42 (by decide +kernel) rfl
theorem gw_43 : (Cond.selects RX12 yX12_line yX12_line) ∈ oa_GT := oa_gp 43 (by decide +kernel) rfl
theorem gw_44 : (Cond.selects RX12 yX12_blanks0 yX12_blanks0) ∈ oa_GT := oa_gp 44 (by decide +kernel) rfl
theorem gw_45 : (Cond.selects RX12 yX12_rung yX12_rung) ∈ oa_GT := oa_gp 45 (by decide +kernel) rfl
theorem gw_46 : (Cond.selects RX12 yX12_order yX12_order) ∈ oa_GT := oa_gp 46 (by decide +kernel) rfl
theorem gw_47 : (Cond.selects RX12 yX12_takes yX12_takes) ∈ oa_GT := oa_gp 47 (by decide +kernel) rfl
theorem gw_48 : (Cond.selects RX12 yX12_throwsIf yX12_throwsIf) ∈ oa_GT := oa_gp 48 (by decide +kernel) rfl
theorem gw_49 : (Cond.selects RX12 yX12_noProduct yX12_noProduct) ∈ oa_GT := oa_gp 49 (by decide +kernel) rfl
theorem gw_50 : (Cond.selects RX12 yX12_noPart yX12_noPart) ∈ oa_GT := oa_gp 50 (by decide +kernel) rfl
theorem gw_51 : (Cond.selects RX12 yX12_needs yX12_needs) ∈ oa_GT := oa_gp 51 (by decide +kernel) rfl
theorem gw_52 : (Cond.selects RX12 yX12_levelOf yX12_levelOf) ∈ oa_GT := oa_gp 52 (by decide +kernel) rfl
theorem gw_53 : (Cond.selects RX12 yX12_comesBy yX12_comesBy) ∈ oa_GT := oa_gp 53 (by decide +kernel) rfl
theorem gw_54 : (Cond.selects RX12 yX12_builds yX12_builds) ∈ oa_GT := oa_gp 54 (by decide +kernel) rfl
theorem gw_55 : (Cond.selects RX12 yX12_leastOf yX12_leastOf) ∈ oa_GT := oa_gp 55 (by decide +kernel) rfl
theorem gw_56 : (Cond.selects RX12 yX12_free yX12_free) ∈ oa_GT := oa_gp 56 (by decide +kernel) rfl
theorem gw_57 : (Cond.selects RX12 yX12_noOrder yX12_noOrder) ∈ oa_GT := oa_gp 57 (by decide +kernel) rfl
theorem gw_58 : (Cond.selects RX12 yX12_of yX12_of) ∈ oa_GT := oa_gp 58 (by decide +kernel) rfl
theorem gw_59 : (Cond.selects RX12 yX12_open yX12_open) ∈ oa_GT := oa_gp 59 (by decide +kernel) rfl
theorem gw_60 : (Cond.selects RX12 yX12_buys yX12_buys) ∈ oa_GT := oa_gp 60 (by decide +kernel) rfl
theorem gw_61 : (Cond.selects RX12 yX12_promises yX12_promises) ∈ oa_GT := oa_gp 61 (by decide +kernel) rfl
theorem gw_62 : (Cond.selects RX12 yX12_dayOf yX12_dayOf) ∈ oa_GT := oa_gp 62 (by decide +kernel) rfl
theorem gw_63 : (Cond.selects RX12 yX12_isOver yX12_isOver) ∈ oa_GT := oa_gp 63 (by decide +kernel) rfl
theorem gw_64 : (Cond.selects RX12 yX12_triesAll yX12_triesAll) ∈ oa_GT := oa_gp 64 (by decide +kernel) rfl
theorem gw_65 : (Cond.selects RX12 yX12_triesRung yX12_triesRung) ∈ oa_GT := oa_gp 65 (by decide +kernel) rfl
theorem gw_66 : (Cond.selects RX12 yX12_nextIn yX12_nextIn) ∈ oa_GT := oa_gp 66 (by decide +kernel) rfl
theorem gw_67 : (Cond.selects RX12 yX12_isAhead yX12_isAhead) ∈ oa_GT := oa_gp 67 (by decide +kernel) rfl
theorem gw_68 : (Cond.selects RX12 yX12_can yX12_can) ∈ oa_GT := oa_gp 68 (by decide +kernel) rfl
theorem gw_69 : (Cond.selects RX12 yX12_takes0 yX12_takes0) ∈ oa_GT := oa_gp 69 (by decide +kernel) rfl
theorem gw_70 : (Cond.selects RX12 yX12_nextOpen yX12_nextOpen) ∈ oa_GT := oa_gp 70 (by decide +kernel) rfl
theorem gw_71 : (Cond.selects RX12 yX12_isCovered yX12_isCovered) ∈ oa_GT := oa_gp 71 (by decide +kernel) rfl
theorem gw_72 : (Cond.selects RX12 yX12_keeps yX12_keeps) ∈ oa_GT := oa_gp 72 (by decide +kernel) rfl
theorem gw_73 : (Cond.selects RX12 yX12_holds yX12_holds) ∈ oa_GT := oa_gp 73 (by decide +kernel) rfl
theorem gw_74 : (Cond.selects RX12 yX12_grows yX12_grows) ∈ oa_GT := oa_gp 74 (by decide +kernel) rfl
theorem gw_75 : (Cond.selects RX12 yX12_isOff yX12_isOff) ∈ oa_GT := oa_gp 75 (by decide +kernel) rfl
theorem gw_76 : (Cond.selects RX12 yX12_hasFor yX12_hasFor) ∈ oa_GT := oa_gp 76 (by decide +kernel) rfl
theorem gw_77 : (Cond.selects RX12 yX12_logs yX12_logs) ∈ oa_GT := oa_gp 77 (by decide +kernel) rfl
theorem gw_78 : (Cond.selects RX12 yX12_loser yX12_loser) ∈ oa_GT := oa_gp 78 (by decide +kernel) rfl
theorem gw_79 : (Cond.selects RX12 yX12_comesNow yX12_comesNow) ∈ oa_GT := oa_gp 79 (by decide +kernel) rfl
theorem gw_80 : (Cond.selects RX12 yX12_saysName yX12_saysName) ∈ oa_GT := oa_gp 80 (by decide +kernel) rfl
theorem gw_81 : (Cond.selects RX12 yX12_says yX12_says) ∈ oa_GT := oa_gp 81 (by decide +kernel) rfl
theorem gw_82 : (Cond.selects RX12 yX12_saysPart yX12_saysPart) ∈ oa_GT := oa_gp 82 (by decide +kernel) rfl
theorem gw_83 : (Cond.selects RX12 yX12_saysWord yX12_saysWord) ∈ oa_GT := oa_gp 83 (by decide +kernel) rfl
theorem gw_84 : (Cond.selects RX12 yX12_saysNumber yX12_saysNumber) ∈ oa_GT := oa_gp 84 (by decide +kernel) rfl
theorem gw_86 : (Cond.initialized RX11) ∈ oa_GT := oa_g1 1 rfl rfl
theorem gw_87 : (Cond.initialized RX7) ∈ oa_GT := oa_g1 2 rfl rfl
theorem gw_88 : (Cond.initialized RX9) ∈ oa_GT := oa_g1 3 rfl rfl
theorem gw_89 : (Cond.initialized RX4) ∈ oa_GT := oa_g1 4 rfl rfl
theorem gw_90 : (Cond.initialized RX1) ∈ oa_GT := oa_g1 5 rfl rfl
theorem gw_91 : (Cond.initialized RX5) ∈ oa_GT := oa_g1 6 rfl rfl
theorem gw_92 : (Cond.initialized RX10) ∈ oa_GT := oa_g1 7 rfl rfl
theorem gw_93 : (Cond.initialized RX6) ∈ oa_GT := oa_g1 8 rfl rfl
theorem gw_94 : (Cond.initialized RX8) ∈ oa_GT := oa_g1 9 rfl rfl
theorem gw_95 : (Cond.initialized RX3) ∈ oa_GT := oa_g1 10 rfl rfl
theorem gw_96 : (Cond.initialized RX0) ∈ oa_GT := oa_g1 11 rfl rfl
theorem gw_97 : (Cond.initialized RX2) ∈ oa_GT := oa_g1 12 rfl rfl
theorem gw_98 : (Cond.initialized RX12) ∈ oa_GT := oa_g1 13 rfl rfl
theorem gw_99 : (Cond.initialized RJ7) ∈ oa_GT := oa_g1 14 rfl rfl
theorem gw_100 : (Cond.initialized RJ0) ∈ oa_GT := oa_g1 15 rfl rfl
theorem gw_101 : (Cond.initialized RJ1) ∈ oa_GT := oa_g1 16 rfl rfl
theorem gw_102 : (Cond.initialized RJ3) ∈ oa_GT := oa_g1 17 rfl rfl
theorem gw_104 : (Cond.initialized RJ9) ∈ oa_GT := oa_g1 19 rfl rfl
theorem gw_108 : (Cond.initialized "java/lang/IllegalArgumentException") ∈ oa_GT := oa_g1 23 rfl rfl
theorem gw_109 : (Cond.initialized "java/lang/IndexOutOfBoundsException") ∈ oa_GT := oa_g1 24 rfl rfl
theorem gw_110 : (Cond.initialized "java/lang/IllegalStateException") ∈ oa_GT := oa_g1 25 rfl rfl
theorem gw_111 : (Cond.initialized RJ10) ∈ oa_GT := oa_g1 26 rfl rfl
theorem gw_138 : (Cond.fieldLink RX4 15 (TX4 0).1 (TX4 0).2.1 (TX4 0).2.2.1) ∈ oa_GT := oa_g1 53 rfl rfl
theorem gw_139 : (Cond.fieldLink RX11 82 (TX4 0).1 (TX4 0).2.1 (TX4 0).2.2.1) ∈ oa_GT := oa_g1 54 rfl rfl
theorem gw_140 : (Cond.fieldLink RX9 28 (TX4 0).1 (TX4 0).2.1 (TX4 0).2.2.1) ∈ oa_GT := oa_g1 55 rfl rfl
theorem gw_141 : (Cond.fieldLink RX4 9 (TX4 1).1 (TX4 1).2.1 (TX4 1).2.2.1) ∈ oa_GT := oa_g1 56 rfl rfl
theorem gw_148 : (Cond.fieldLink RX7 46 (TX9 0).1 (TX9 0).2.1 (TX9 0).2.2.1) ∈ oa_GT := oa_g1 63 rfl rfl
theorem gw_149 : (Cond.fieldLink RX9 42 (TX9 0).1 (TX9 0).2.1 (TX9 0).2.2.1) ∈ oa_GT := oa_g1 64 rfl rfl
theorem gw_150 : (Cond.fieldLink RX9 25 (TX9 1).1 (TX9 1).2.1 (TX9 1).2.2.1) ∈ oa_GT := oa_g1 65 rfl rfl
theorem gw_151 : (Cond.fieldLink RX7 100 (TX9 1).1 (TX9 1).2.1 (TX9 1).2.2.1) ∈ oa_GT := oa_g1 66 rfl rfl
theorem gw_152 : (Cond.fieldLink RX9 12 (TX9 2).1 (TX9 2).2.1 (TX9 2).2.2.1) ∈ oa_GT := oa_g1 67 rfl rfl
theorem gw_154 : (Cond.fieldLink RX9 18 (TX9 3).1 (TX9 3).2.1 (TX9 3).2.2.1) ∈ oa_GT := oa_g1 69 rfl rfl
theorem gw_172 : (Cond.fieldLink RX1 48 (TX1 0).1 (TX1 0).2.1 (TX1 0).2.2.1) ∈ oa_GT := oa_g1 87 rfl rfl
theorem gw_173 : (Cond.fieldLink RX5 67 (TX1 0).1 (TX1 0).2.1 (TX1 0).2.2.1) ∈ oa_GT := oa_g1 88 rfl rfl
theorem gw_174 : (Cond.fieldLink RX7 62 (TX1 0).1 (TX1 0).2.1 (TX1 0).2.2.1) ∈ oa_GT := oa_g1 89 rfl rfl
theorem gw_175 : (Cond.fieldLink RX11 126 (TX1 0).1 (TX1 0).2.1 (TX1 0).2.2.1) ∈ oa_GT := oa_g1 90 rfl rfl
theorem gw_176 : (Cond.fieldLink RX1 52 (TX1 1).1 (TX1 1).2.1 (TX1 1).2.2.1) ∈ oa_GT := oa_g1 91 rfl rfl
theorem gw_177 : (Cond.fieldLink RX11 117 (TX1 1).1 (TX1 1).2.1 (TX1 1).2.2.1) ∈ oa_GT := oa_g1 92 rfl rfl
theorem gw_178 : (Cond.fieldLink RX7 75 (TX1 1).1 (TX1 1).2.1 (TX1 1).2.2.1) ∈ oa_GT := oa_g1 93 rfl rfl
theorem gw_179 : (Cond.fieldLink RX0 34 (TX1 2).1 (TX1 2).2.1 (TX1 2).2.2.1) ∈ oa_GT := oa_g1 94 rfl rfl
theorem gw_180 : (Cond.fieldLink RX1 55 (TX1 2).1 (TX1 2).2.1 (TX1 2).2.2.1) ∈ oa_GT := oa_g1 95 rfl rfl
theorem gw_181 : (Cond.fieldLink RX7 49 (TX1 2).1 (TX1 2).2.1 (TX1 2).2.2.1) ∈ oa_GT := oa_g1 96 rfl rfl
theorem gw_182 : (Cond.fieldLink RX11 138 (TX1 2).1 (TX1 2).2.1 (TX1 2).2.2.1) ∈ oa_GT := oa_g1 97 rfl rfl
theorem gw_183 : (Cond.fieldLink RX1 9 (TX1 3).1 (TX1 3).2.1 (TX1 3).2.2.1) ∈ oa_GT := oa_g1 98 rfl rfl
theorem gw_184 : (Cond.fieldLink RX1 15 (TX1 4).1 (TX1 4).2.1 (TX1 4).2.2.1) ∈ oa_GT := oa_g1 99 rfl rfl
theorem gw_185 : (Cond.fieldLink RX1 19 (TX1 5).1 (TX1 5).2.1 (TX1 5).2.2.1) ∈ oa_GT := oa_g1 100 rfl rfl
theorem gw_186 : (Cond.fieldLink RX1 22 (TX1 6).1 (TX1 6).2.1 (TX1 6).2.2.1) ∈ oa_GT := oa_g1 101 rfl rfl
theorem gw_187 : (Cond.fieldLink RX1 25 (TX1 7).1 (TX1 7).2.1 (TX1 7).2.2.1) ∈ oa_GT := oa_g1 102 rfl rfl
theorem gw_188 : (Cond.fieldLink RX1 30 (TX1 8).1 (TX1 8).2.1 (TX1 8).2.2.1) ∈ oa_GT := oa_g1 103 rfl rfl
theorem gw_189 : (Cond.fieldLink RX1 33 (TX1 9).1 (TX1 9).2.1 (TX1 9).2.2.1) ∈ oa_GT := oa_g1 104 rfl rfl
theorem gw_190 : (Cond.fieldLink RX1 36 (TX1 10).1 (TX1 10).2.1 (TX1 10).2.2.1) ∈ oa_GT := oa_g1 105 rfl rfl
theorem gw_191 : (Cond.fieldLink RX1 39 (TX1 11).1 (TX1 11).2.1 (TX1 11).2.2.1) ∈ oa_GT := oa_g1 106 rfl rfl
theorem gw_192 : (Cond.fieldLink RX1 42 (TX1 12).1 (TX1 12).2.1 (TX1 12).2.2.1) ∈ oa_GT := oa_g1 107 rfl rfl
theorem gw_193 : (Cond.fieldLink RX1 45 (TX1 13).1 (TX1 13).2.1 (TX1 13).2.2.1) ∈ oa_GT := oa_g1 108 rfl rfl
theorem gw_237 : (Cond.fieldLink RX10 27 (TX10 0).1 (TX10 0).2.1 (TX10 0).2.2.1) ∈ oa_GT := oa_g1 152 rfl rfl
theorem gw_238 : (Cond.fieldLink RX5 87 (TX10 0).1 (TX10 0).2.1 (TX10 0).2.2.1) ∈ oa_GT := oa_g1 153 rfl rfl
theorem gw_239 : (Cond.fieldLink RX11 173 (TX10 0).1 (TX10 0).2.1 (TX10 0).2.2.1) ∈ oa_GT := oa_g1 154 rfl rfl
theorem gw_240 : (Cond.fieldLink RX10 31 (TX10 1).1 (TX10 1).2.1 (TX10 1).2.2.1) ∈ oa_GT := oa_g1 155 rfl rfl
theorem gw_241 : (Cond.fieldLink RX11 145 (TX10 1).1 (TX10 1).2.1 (TX10 1).2.2.1) ∈ oa_GT := oa_g1 156 rfl rfl
theorem gw_242 : (Cond.fieldLink RX10 9 (TX10 2).1 (TX10 2).2.1 (TX10 2).2.2.1) ∈ oa_GT := oa_g1 157 rfl rfl
theorem gw_243 : (Cond.fieldLink RX10 15 (TX10 3).1 (TX10 3).2.1 (TX10 3).2.2.1) ∈ oa_GT := oa_g1 158 rfl rfl
theorem gw_244 : (Cond.fieldLink RX10 18 (TX10 4).1 (TX10 4).2.1 (TX10 4).2.2.1) ∈ oa_GT := oa_g1 159 rfl rfl
theorem gw_245 : (Cond.fieldLink RX10 21 (TX10 5).1 (TX10 5).2.1 (TX10 5).2.2.1) ∈ oa_GT := oa_g1 160 rfl rfl
theorem gw_246 : (Cond.fieldLink RX10 24 (TX10 6).1 (TX10 6).2.1 (TX10 6).2.2.1) ∈ oa_GT := oa_g1 161 rfl rfl
theorem gw_268 : (Cond.fieldLink RX6 37 (TX6 0).1 (TX6 0).2.1 (TX6 0).2.2.1) ∈ oa_GT := oa_g1 183 rfl rfl
theorem gw_269 : (Cond.fieldLink RX5 35 (TX6 0).1 (TX6 0).2.1 (TX6 0).2.2.1) ∈ oa_GT := oa_g1 184 rfl rfl
theorem gw_270 : (Cond.fieldLink RX0 54 (TX6 0).1 (TX6 0).2.1 (TX6 0).2.2.1) ∈ oa_GT := oa_g1 185 rfl rfl
theorem gw_271 : (Cond.fieldLink RX7 92 (TX6 0).1 (TX6 0).2.1 (TX6 0).2.2.1) ∈ oa_GT := oa_g1 186 rfl rfl
theorem gw_272 : (Cond.fieldLink RX11 133 (TX6 0).1 (TX6 0).2.1 (TX6 0).2.2.1) ∈ oa_GT := oa_g1 187 rfl rfl
theorem gw_273 : (Cond.fieldLink RX6 9 (TX6 1).1 (TX6 1).2.1 (TX6 1).2.2.1) ∈ oa_GT := oa_g1 188 rfl rfl
theorem gw_274 : (Cond.fieldLink RX6 15 (TX6 2).1 (TX6 2).2.1 (TX6 2).2.2.1) ∈ oa_GT := oa_g1 189 rfl rfl
theorem gw_275 : (Cond.fieldLink RX6 18 (TX6 3).1 (TX6 3).2.1 (TX6 3).2.2.1) ∈ oa_GT := oa_g1 190 rfl rfl
theorem gw_276 : (Cond.fieldLink RX6 21 (TX6 4).1 (TX6 4).2.1 (TX6 4).2.2.1) ∈ oa_GT := oa_g1 191 rfl rfl
theorem gw_277 : (Cond.fieldLink RX6 24 (TX6 5).1 (TX6 5).2.1 (TX6 5).2.2.1) ∈ oa_GT := oa_g1 192 rfl rfl
theorem gw_278 : (Cond.fieldLink RX6 28 (TX6 6).1 (TX6 6).2.1 (TX6 6).2.2.1) ∈ oa_GT := oa_g1 193 rfl rfl
theorem gw_279 : (Cond.fieldLink RX6 31 (TX6 7).1 (TX6 7).2.1 (TX6 7).2.2.1) ∈ oa_GT := oa_g1 194 rfl rfl
theorem gw_280 : (Cond.fieldLink RX6 34 (TX6 8).1 (TX6 8).2.1 (TX6 8).2.2.1) ∈ oa_GT := oa_g1 195 rfl rfl
theorem gw_307 : (Cond.fieldLink RX8 9 (TX8 0).1 (TX8 0).2.1 (TX8 0).2.2.1) ∈ oa_GT := oa_g1 222 rfl rfl
theorem gw_308 : (Cond.fieldLink RX8 15 (TX8 1).1 (TX8 1).2.1 (TX8 1).2.2.1) ∈ oa_GT := oa_g1 223 rfl rfl
theorem gw_309 : (Cond.fieldLink RX8 18 (TX8 2).1 (TX8 2).2.1 (TX8 2).2.2.1) ∈ oa_GT := oa_g1 224 rfl rfl
theorem gw_310 : (Cond.fieldLink RX8 21 (TX8 3).1 (TX8 3).2.1 (TX8 3).2.2.1) ∈ oa_GT := oa_g1 225 rfl rfl
theorem gw_320 : (Cond.fieldLink RX5 12 (TX5 0).1 (TX5 0).2.1 (TX5 0).2.2.1) ∈ oa_GT := oa_g1 235 rfl rfl
theorem gw_321 : (Cond.fieldLink RX0 70 (TX5 0).1 (TX5 0).2.1 (TX5 0).2.2.1) ∈ oa_GT := oa_g1 236 rfl rfl
theorem gw_322 : (Cond.fieldLink RX11 141 (TX5 0).1 (TX5 0).2.1 (TX5 0).2.2.1) ∈ oa_GT := oa_g1 237 rfl rfl
theorem gw_323 : (Cond.fieldLink RX7 120 (TX5 0).1 (TX5 0).2.1 (TX5 0).2.2.1) ∈ oa_GT := oa_g1 238 rfl rfl
theorem gw_324 : (Cond.fieldLink RX5 21 (TX5 1).1 (TX5 1).2.1 (TX5 1).2.2.1) ∈ oa_GT := oa_g1 239 rfl rfl
theorem gw_325 : (Cond.fieldLink RX0 48 (TX5 1).1 (TX5 1).2.1 (TX5 1).2.2.1) ∈ oa_GT := oa_g2 0 rfl rfl
theorem gw_326 : (Cond.fieldLink RX7 88 (TX5 1).1 (TX5 1).2.1 (TX5 1).2.2.1) ∈ oa_GT := oa_g2 1 rfl rfl
theorem gw_327 : (Cond.fieldLink RX11 129 (TX5 1).1 (TX5 1).2.1 (TX5 1).2.2.1) ∈ oa_GT := oa_g2 2 rfl rfl
theorem gw_328 : (Cond.fieldLink RX5 28 (TX5 2).1 (TX5 2).2.1 (TX5 2).2.2.1) ∈ oa_GT := oa_g2 3 rfl rfl
theorem gw_329 : (Cond.fieldLink RX11 307 (TX5 2).1 (TX5 2).2.1 (TX5 2).2.2.1) ∈ oa_GT := oa_g2 4 rfl rfl
theorem gw_337 : (Cond.fieldLink RX7 9 (TX7 0).1 (TX7 0).2.1 (TX7 0).2.2.1) ∈ oa_GT := oa_g2 12 rfl rfl
theorem gw_338 : (Cond.fieldLink RX11 120 (TX7 0).1 (TX7 0).2.1 (TX7 0).2.2.1) ∈ oa_GT := oa_g2 13 rfl rfl
theorem gw_339 : (Cond.fieldLink RX7 40 (TX7 1).1 (TX7 1).2.1 (TX7 1).2.2.1) ∈ oa_GT := oa_g2 14 rfl rfl
theorem gw_340 : (Cond.fieldLink RX11 123 (TX7 1).1 (TX7 1).2.1 (TX7 1).2.2.1) ∈ oa_GT := oa_g2 15 rfl rfl
theorem gw_341 : (Cond.fieldLink RX7 18 (TX7 2).1 (TX7 2).2.1 (TX7 2).2.2.1) ∈ oa_GT := oa_g2 16 rfl rfl
theorem gw_343 : (Cond.fieldLink RX7 25 (TX7 3).1 (TX7 3).2.1 (TX7 3).2.2.1) ∈ oa_GT := oa_g2 18 rfl rfl
theorem gw_344 : (Cond.fieldLink RX7 32 (TX7 4).1 (TX7 4).2.1 (TX7 4).2.2.1) ∈ oa_GT := oa_g2 19 rfl rfl
theorem gw_365 : (Cond.fieldLink RX3 18 (TX3 0).1 (TX3 0).2.1 (TX3 0).2.2.1) ∈ oa_GT := oa_g2 40 rfl rfl
theorem gw_366 : (Cond.fieldLink RX11 338 (TX3 0).1 (TX3 0).2.1 (TX3 0).2.2.1) ∈ oa_GT := oa_g2 41 rfl rfl
theorem gw_367 : (Cond.fieldLink RX3 22 (TX3 1).1 (TX3 1).2.1 (TX3 1).2.2.1) ∈ oa_GT := oa_g2 42 rfl rfl
theorem gw_368 : (Cond.fieldLink RX3 11 (TX3 2).1 (TX3 2).2.1 (TX3 2).2.2.1) ∈ oa_GT := oa_g2 43 rfl rfl
theorem gw_382 : (Cond.fieldLink RX0 9 (TX0 0).1 (TX0 0).2.1 (TX0 0).2.2.1) ∈ oa_GT := oa_g2 57 rfl rfl
theorem gw_383 : (Cond.fieldLink RX0 15 (TX0 1).1 (TX0 1).2.1 (TX0 1).2.2.1) ∈ oa_GT := oa_g2 58 rfl rfl
theorem gw_384 : (Cond.fieldLink RX0 18 (TX0 2).1 (TX0 2).2.1 (TX0 2).2.2.1) ∈ oa_GT := oa_g2 59 rfl rfl
theorem gw_385 : (Cond.fieldLink RX0 21 (TX0 3).1 (TX0 3).2.1 (TX0 3).2.2.1) ∈ oa_GT := oa_g2 60 rfl rfl
theorem gw_386 : (Cond.fieldLink RX0 24 (TX0 4).1 (TX0 4).2.1 (TX0 4).2.2.1) ∈ oa_GT := oa_g2 61 rfl rfl
theorem gw_387 : (Cond.fieldLink RX0 27 (TX0 5).1 (TX0 5).2.1 (TX0 5).2.2.1) ∈ oa_GT := oa_g2 62 rfl rfl
theorem gw_407 : (Cond.fieldLink RX2 15 (TX2 0).1 (TX2 0).2.1 (TX2 0).2.2.1) ∈ oa_GT := oa_g2 82 rfl rfl
theorem gw_408 : (Cond.fieldLink RX11 377 (TX2 0).1 (TX2 0).2.1 (TX2 0).2.2.1) ∈ oa_GT := oa_g2 83 rfl rfl
theorem gw_409 : (Cond.fieldLink RX2 9 (TX2 1).1 (TX2 1).2.1 (TX2 1).2.2.1) ∈ oa_GT := oa_g2 84 rfl rfl
theorem gw_420 : (Cond.instanceMethod yX1_addRung) ∈ oa_GT := oa_g2 95 rfl rfl
theorem gw_421 : (Cond.selects RX1 yX1_addRung yX1_addRung) ∈ oa_GT := oa_g2 96 rfl rfl
theorem gw_422 : (oa_cw mX1_addRung) ∈ oa_GT := oa_g2 97 rfl rfl
theorem gw_423 : (Cond.fieldLink RX11 10 (TX11 0).1 (TX11 0).2.1 (TX11 0).2.2.1) ∈ oa_GT := oa_g2 98 rfl rfl
theorem gw_424 : (Cond.fieldLink RX11 26 (TX11 1).1 (TX11 1).2.1 (TX11 1).2.2.1) ∈ oa_GT := oa_g2 99 rfl rfl
theorem gw_425 : (Cond.fieldLink RX11 32 (TX11 2).1 (TX11 2).2.1 (TX11 2).2.2.1) ∈ oa_GT := oa_g2 100 rfl rfl
theorem gw_426 : (Cond.fieldLink RX11 39 (TX11 3).1 (TX11 3).2.1 (TX11 3).2.2.1) ∈ oa_GT := oa_g2 101 rfl rfl
theorem gw_427 : (Cond.fieldLink RX11 46 (TX11 4).1 (TX11 4).2.1 (TX11 4).2.2.1) ∈ oa_GT := oa_g2 102 rfl rfl
theorem gw_428 : (Cond.fieldLink RX11 50 (TX11 5).1 (TX11 5).2.1 (TX11 5).2.2.1) ∈ oa_GT := oa_g2 103 rfl rfl
theorem gw_429 : (Cond.fieldLink RX11 57 (TX11 6).1 (TX11 6).2.1 (TX11 6).2.2.1) ∈ oa_GT := oa_g2 104 rfl rfl
theorem gw_430 : (Cond.fieldLink RX11 64 (TX11 7).1 (TX11 7).2.1 (TX11 7).2.2.1) ∈ oa_GT := oa_g2 105 rfl rfl
theorem gw_451 : (oa_cw mX11_append) ∈ oa_GT := oa_g2 126 rfl rfl
theorem gw_452 : (Cond.methodLink RX11 72 yX4_hasRoomFor) ∈ oa_GT := oa_g2 127 rfl rfl
theorem gw_453 : (Cond.instanceMethod yX4_hasRoomFor) ∈ oa_GT := oa_g2 128 rfl rfl
theorem gw_454 : (Cond.selects RX4 yX4_hasRoomFor yX4_hasRoomFor) ∈ oa_GT := oa_g2 129 rfl rfl
theorem gw_455 : (oa_cw mX4_hasRoomFor) ∈ oa_GT := oa_g2 130 rfl rfl
theorem gw_456 : (Cond.methodLink RX11 78 yX4_putWord) ∈ oa_GT := oa_g2 131 rfl rfl
theorem gw_457 : (Cond.instanceMethod yX4_putWord) ∈ oa_GT := oa_g2 132 rfl rfl
theorem gw_458 : (Cond.selects RX4 yX4_putWord yX4_putWord) ∈ oa_GT := oa_g2 133 rfl rfl
theorem gw_459 : (oa_cw mX4_putWord) ∈ oa_GT := oa_g2 134 rfl rfl
theorem gw_461 : (Cond.static yX11_isInside) ∈ oa_GT := oa_g2 136 rfl rfl
theorem gw_462 : (oa_cw mX11_isInside) ∈ oa_GT := oa_g2 137 rfl rfl
theorem gw_466 : (oa_cw mX11_truncate) ∈ oa_GT := oa_g2 141 rfl rfl
theorem gw_467 : (Cond.methodLink RX11 86 yX4_shorten) ∈ oa_GT := oa_g2 142 rfl rfl
theorem gw_468 : (Cond.instanceMethod yX4_shorten) ∈ oa_GT := oa_g2 143 rfl rfl
theorem gw_469 : (Cond.selects RX4 yX4_shorten yX4_shorten) ∈ oa_GT := oa_g2 144 rfl rfl
theorem gw_470 : (oa_cw mX4_shorten) ∈ oa_GT := oa_g2 145 rfl rfl
theorem gw_474 : (oa_cw mX11_errorOffset) ∈ oa_GT := oa_g2 149 rfl rfl
theorem gw_478 : (oa_cw mX11_errorKind) ∈ oa_GT := oa_g2 153 rfl rfl
theorem gw_482 : (oa_cw mX11_count) ∈ oa_GT := oa_g2 157 rfl rfl
theorem gw_486 : (oa_cw mX11_day) ∈ oa_GT := oa_g2 161 rfl rfl
theorem gw_490 : (oa_cw mX11_scarcestPart) ∈ oa_GT := oa_g2 165 rfl rfl
theorem gw_491 : (Cond.methodLink RX11 237 yX11_shortageOfAll) ∈ oa_GT := oa_g2 166 rfl rfl
theorem gw_493 : (Cond.instanceMethod yX11_shortageOfAll) ∈ oa_GT := oa_g2 168 rfl rfl
theorem gw_494 : (oa_cw mX11_shortageOfAll) ∈ oa_GT := oa_g2 169 rfl rfl
theorem gw_495 : (Cond.methodLink RX11 273 yX5_openPieces) ∈ oa_GT := oa_g2 170 rfl rfl
theorem gw_496 : (Cond.instanceMethod yX5_openPieces) ∈ oa_GT := oa_g2 171 rfl rfl
theorem gw_497 : (Cond.selects RX5 yX5_openPieces yX5_openPieces) ∈ oa_GT := oa_g2 172 rfl rfl
theorem gw_498 : (oa_cw mX5_openPieces) ∈ oa_GT := oa_g2 173 rfl rfl
theorem gw_499 : (Cond.methodLink RX5 50 yX6_openOf) ∈ oa_GT := oa_g2 174 rfl rfl
theorem gw_500 : (Cond.instanceMethod yX6_openOf) ∈ oa_GT := oa_g2 175 rfl rfl
theorem gw_501 : (Cond.selects RX6 yX6_openOf yX6_openOf) ∈ oa_GT := oa_g2 176 rfl rfl
theorem gw_502 : (oa_cw mX6_openOf) ∈ oa_GT := oa_g2 177 rfl rfl
theorem gw_504 : (Cond.methodLink RX5 54 yX6_productOf) ∈ oa_GT := oa_g2 179 rfl rfl
theorem gw_505 : (Cond.instanceMethod yX6_productOf) ∈ oa_GT := oa_g2 180 rfl rfl
theorem gw_506 : (Cond.selects RX6 yX6_productOf yX6_productOf) ∈ oa_GT := oa_g2 181 rfl rfl
theorem gw_507 : (oa_cw mX6_productOf) ∈ oa_GT := oa_g2 182 rfl rfl
theorem gw_508 : (Cond.methodLink RX5 57 yX1_needOf) ∈ oa_GT := oa_g2 183 rfl rfl
theorem gw_509 : (Cond.instanceMethod yX1_needOf) ∈ oa_GT := oa_g2 184 rfl rfl
theorem gw_510 : (Cond.selects RX1 yX1_needOf yX1_needOf) ∈ oa_GT := oa_g2 185 rfl rfl
theorem gw_511 : (oa_cw mX1_needOf) ∈ oa_GT := oa_g2 186 rfl rfl
theorem gw_512 : (Cond.methodLink RX11 412 yX10_freeOf) ∈ oa_GT := oa_g2 187 rfl rfl
theorem gw_513 : (Cond.instanceMethod yX10_freeOf) ∈ oa_GT := oa_g2 188 rfl rfl
theorem gw_514 : (Cond.selects RX10 yX10_freeOf yX10_freeOf) ∈ oa_GT := oa_g2 189 rfl rfl
theorem gw_515 : (oa_cw mX10_freeOf) ∈ oa_GT := oa_g2 190 rfl rfl
theorem gw_516 : (Cond.methodLink RX10 50 yX10_stockOf) ∈ oa_GT := oa_g2 191 rfl rfl
theorem gw_517 : (Cond.instanceMethod yX10_stockOf) ∈ oa_GT := oa_g2 192 rfl rfl
theorem gw_518 : (Cond.selects RX10 yX10_stockOf yX10_stockOf) ∈ oa_GT := oa_g2 193 rfl rfl
theorem gw_519 : (oa_cw mX10_stockOf) ∈ oa_GT := oa_g2 194 rfl rfl
theorem gw_521 : (Cond.methodLink RX10 54 yX10_reservedOf) ∈ oa_GT := oa_g2 196 rfl rfl
theorem gw_522 : (Cond.instanceMethod yX10_reservedOf) ∈ oa_GT := oa_g2 197 rfl rfl
theorem gw_523 : (Cond.selects RX10 yX10_reservedOf yX10_reservedOf) ∈ oa_GT := oa_g2 198 rfl rfl
theorem gw_524 : (oa_cw mX10_reservedOf) ∈ oa_GT := oa_g2 199 rfl rfl
theorem gw_525 : (Cond.methodLink RX11 182 yX10_allArriving) ∈ oa_GT := oa_g2 200 rfl rfl
theorem gw_526 : (Cond.instanceMethod yX10_allArriving) ∈ oa_GT := oa_g2 201 rfl rfl
theorem gw_527 : (Cond.selects RX10 yX10_allArriving yX10_allArriving) ∈ oa_GT := oa_g2 202 rfl rfl
theorem gw_528 : (oa_cw mX10_allArriving) ∈ oa_GT := oa_g2 203 rfl rfl
theorem gw_529 : (Cond.methodLink RX10 64 yX10_arrivingUntil) ∈ oa_GT := oa_g2 204 rfl rfl
theorem gw_531 : (Cond.instanceMethod yX10_arrivingUntil) ∈ oa_GT := oa_g2 206 rfl rfl
theorem gw_532 : (oa_cw mX10_arrivingUntil) ∈ oa_GT := oa_g2 207 rfl rfl
theorem gw_533 : (Cond.methodLink RX11 277 Lib.Math.max.name) ∈ oa_GT := oa_g2 208 rfl rfl
theorem gw_534 : (Cond.static Lib.Math.max.name) ∈ oa_GT := oa_g2 209 rfl rfl
theorem gw_535 : (Cond.code Lib.Math.max.name Lib.Math.max.code 2 (some .int)) ∈ oa_GT := oa_g2 210 rfl rfl
theorem gw_539 : (oa_cw mX11_lateOrders) ∈ oa_GT := oa_g2 214 rfl rfl
theorem gw_540 : (Cond.methodLink RX11 213 yX6_openOf) ∈ oa_GT := oa_g2 215 rfl rfl
theorem gw_541 : (Cond.methodLink RX11 220 yX6_productOf) ∈ oa_GT := oa_g2 216 rfl rfl
theorem gw_542 : (Cond.methodLink RX11 240 yX11_promiseDate) ∈ oa_GT := oa_g2 217 rfl rfl
theorem gw_544 : (Cond.instanceMethod yX11_promiseDate) ∈ oa_GT := oa_g2 219 rfl rfl
theorem gw_545 : (oa_cw mX11_promiseDate) ∈ oa_GT := oa_g2 220 rfl rfl
theorem gw_546 : (Cond.methodLink RX11 167 yX1_needOf) ∈ oa_GT := oa_g2 221 rfl rfl
theorem gw_547 : (Cond.methodLink RX11 246 yX11_dayOfPart) ∈ oa_GT := oa_g2 222 rfl rfl
theorem gw_549 : (Cond.instanceMethod yX11_dayOfPart) ∈ oa_GT := oa_g2 224 rfl rfl
theorem gw_550 : (oa_cw mX11_dayOfPart) ∈ oa_GT := oa_g2 225 rfl rfl
theorem gw_551 : (Cond.methodLink RX11 316 yX1_leadTimeOf) ∈ oa_GT := oa_g2 226 rfl rfl
theorem gw_552 : (Cond.instanceMethod yX1_leadTimeOf) ∈ oa_GT := oa_g2 227 rfl rfl
theorem gw_553 : (Cond.selects RX1 yX1_leadTimeOf yX1_leadTimeOf) ∈ oa_GT := oa_g2 228 rfl rfl
theorem gw_554 : (oa_cw mX1_leadTimeOf) ∈ oa_GT := oa_g2 229 rfl rfl
theorem gw_556 : (Cond.methodLink RX11 415 yX10_dayFor) ∈ oa_GT := oa_g2 231 rfl rfl
theorem gw_557 : (Cond.instanceMethod yX10_dayFor) ∈ oa_GT := oa_g2 232 rfl rfl
theorem gw_558 : (Cond.selects RX10 yX10_dayFor yX10_dayFor) ∈ oa_GT := oa_g2 233 rfl rfl
theorem gw_559 : (oa_cw mX10_dayFor) ∈ oa_GT := oa_g2 234 rfl rfl
theorem gw_560 : (Cond.methodLink RX10 57 yX10_freeOf) ∈ oa_GT := oa_g2 235 rfl rfl
theorem gw_561 : (Cond.methodLink RX11 228 yX6_dueOf) ∈ oa_GT := oa_g2 236 rfl rfl
theorem gw_562 : (Cond.instanceMethod yX6_dueOf) ∈ oa_GT := oa_g2 237 rfl rfl
theorem gw_563 : (Cond.selects RX6 yX6_dueOf yX6_dueOf) ∈ oa_GT := oa_g2 238 rfl rfl
theorem gw_564 : (oa_cw mX6_dueOf) ∈ oa_GT := oa_g2 239 rfl rfl
theorem gw_568 : (oa_cw mX11_coveredOrders) ∈ oa_GT := oa_g3 3 rfl rfl
theorem gw_569 : (Cond.methodLink RX11 269 yX0_coveredSet) ∈ oa_GT := oa_g3 4 rfl rfl
theorem gw_570 : (Cond.instanceMethod yX0_coveredSet) ∈ oa_GT := oa_g3 5 rfl rfl
theorem gw_571 : (Cond.selects RX0 yX0_coveredSet yX0_coveredSet) ∈ oa_GT := oa_g3 6 rfl rfl
theorem gw_572 : (oa_cw mX0_coveredSet) ∈ oa_GT := oa_g3 7 rfl rfl
theorem gw_573 : (Cond.methodLink RX0 30 yX0_begin) ∈ oa_GT := oa_g3 8 rfl rfl
theorem gw_575 : (Cond.instanceMethod yX0_begin) ∈ oa_GT := oa_g3 10 rfl rfl
theorem gw_576 : (oa_cw mX0_begin) ∈ oa_GT := oa_g3 11 rfl rfl
theorem gw_577 : (Cond.methodLink RX0 74 yX10_fillFree) ∈ oa_GT := oa_g3 12 rfl rfl
theorem gw_578 : (Cond.instanceMethod yX10_fillFree) ∈ oa_GT := oa_g3 13 rfl rfl
theorem gw_579 : (Cond.selects RX10 yX10_fillFree yX10_fillFree) ∈ oa_GT := oa_g3 14 rfl rfl
theorem gw_580 : (oa_cw mX10_fillFree) ∈ oa_GT := oa_g3 15 rfl rfl
theorem gw_581 : (Cond.methodLink RX0 80 yX6_fillTurns) ∈ oa_GT := oa_g3 16 rfl rfl
theorem gw_582 : (Cond.instanceMethod yX6_fillTurns) ∈ oa_GT := oa_g3 17 rfl rfl
theorem gw_583 : (Cond.selects RX6 yX6_fillTurns yX6_fillTurns) ∈ oa_GT := oa_g3 18 rfl rfl
theorem gw_584 : (oa_cw mX6_fillTurns) ∈ oa_GT := oa_g3 19 rfl rfl
theorem gw_585 : (Cond.methodLink RX6 65 yX6_isServedBefore) ∈ oa_GT := oa_g3 20 rfl rfl
theorem gw_587 : (Cond.instanceMethod yX6_isServedBefore) ∈ oa_GT := oa_g3 22 rfl rfl
theorem gw_588 : (oa_cw mX6_isServedBefore) ∈ oa_GT := oa_g3 23 rfl rfl
theorem gw_589 : (Cond.methodLink RX6 68 yX6_dueOf) ∈ oa_GT := oa_g3 24 rfl rfl
theorem gw_590 : (Cond.methodLink RX6 71 yX6_classOf) ∈ oa_GT := oa_g3 25 rfl rfl
theorem gw_591 : (Cond.instanceMethod yX6_classOf) ∈ oa_GT := oa_g3 26 rfl rfl
theorem gw_592 : (Cond.selects RX6 yX6_classOf yX6_classOf) ∈ oa_GT := oa_g3 27 rfl rfl
theorem gw_593 : (oa_cw mX6_classOf) ∈ oa_GT := oa_g3 28 rfl rfl
theorem gw_594 : (Cond.methodLink RX0 83 yJ7_fill_53178) ∈ oa_GT := oa_g3 29 rfl rfl
theorem gw_595 : (Cond.static yJ7_fill_53178) ∈ oa_GT := oa_g3 30 rfl rfl
theorem gw_596 : (oa_cw mJ7_fill_53178) ∈ oa_GT := oa_g3 31 rfl rfl
theorem gw_597 : (Cond.methodLink RX0 89 yX6_productOf) ∈ oa_GT := oa_g3 32 rfl rfl
theorem gw_598 : (Cond.methodLink RX0 92 yX6_openOf) ∈ oa_GT := oa_g3 33 rfl rfl
theorem gw_599 : (Cond.methodLink RX0 98 yX1_mostUnits) ∈ oa_GT := oa_g3 34 rfl rfl
theorem gw_600 : (Cond.instanceMethod yX1_mostUnits) ∈ oa_GT := oa_g3 35 rfl rfl
theorem gw_601 : (Cond.selects RX1 yX1_mostUnits yX1_mostUnits) ∈ oa_GT := oa_g3 36 rfl rfl
theorem gw_602 : (oa_cw mX1_mostUnits) ∈ oa_GT := oa_g3 37 rfl rfl
theorem gw_603 : (Cond.methodLink RX1 99 yX1_tightestPart) ∈ oa_GT := oa_g3 38 rfl rfl
theorem gw_604 : (Cond.instanceMethod yX1_tightestPart) ∈ oa_GT := oa_g3 39 rfl rfl
theorem gw_605 : (Cond.selects RX1 yX1_tightestPart yX1_tightestPart) ∈ oa_GT := oa_g3 40 rfl rfl
theorem gw_606 : (oa_cw mX1_tightestPart) ∈ oa_GT := oa_g3 41 rfl rfl
theorem gw_607 : (Cond.methodLink RX1 82 yX1_needOf) ∈ oa_GT := oa_g3 42 rfl rfl
theorem gw_608 : (Cond.methodLink RX0 115 yX1_takePieces) ∈ oa_GT := oa_g3 43 rfl rfl
theorem gw_609 : (Cond.instanceMethod yX1_takePieces) ∈ oa_GT := oa_g3 44 rfl rfl
theorem gw_610 : (Cond.selects RX1 yX1_takePieces yX1_takePieces) ∈ oa_GT := oa_g3 45 rfl rfl
theorem gw_611 : (oa_cw mX1_takePieces) ∈ oa_GT := oa_g3 46 rfl rfl
theorem gw_615 : (oa_cw mX11_promiseOfAll) ∈ oa_GT := oa_g3 50 rfl rfl
theorem gw_619 : (oa_cw mX11_allocate) ∈ oa_GT := oa_g3 54 rfl rfl
theorem gw_620 : (Cond.methodLink RX11 285 yX3_record) ∈ oa_GT := oa_g3 55 rfl rfl
theorem gw_621 : (Cond.instanceMethod yX3_record) ∈ oa_GT := oa_g3 56 rfl rfl
theorem gw_622 : (Cond.selects RX3 yX3_record yX3_record) ∈ oa_GT := oa_g3 57 rfl rfl
theorem gw_623 : (oa_cw mX3_record) ∈ oa_GT := oa_g3 58 rfl rfl
theorem gw_624 : (Cond.methodLink RX3 25 yJ9_floorMod_7cf53) ∈ oa_GT := oa_g3 59 rfl rfl
theorem gw_625 : (Cond.static yJ9_floorMod_7cf53) ∈ oa_GT := oa_g3 60 rfl rfl
theorem gw_626 : (oa_cw mJ9_floorMod_7cf53) ∈ oa_GT := oa_g3 61 rfl rfl
theorem gw_627 : (Cond.methodLink RX3 31 yX5_copyFrom) ∈ oa_GT := oa_g3 62 rfl rfl
theorem gw_628 : (Cond.instanceMethod yX5_copyFrom) ∈ oa_GT := oa_g3 63 rfl rfl
theorem gw_629 : (Cond.selects RX5 yX5_copyFrom yX5_copyFrom) ∈ oa_GT := oa_g3 64 rfl rfl
theorem gw_630 : (oa_cw mX5_copyFrom) ∈ oa_GT := oa_g3 65 rfl rfl
theorem gw_631 : (Cond.methodLink RX5 40 yX10_copyFrom) ∈ oa_GT := oa_g3 66 rfl rfl
theorem gw_632 : (Cond.instanceMethod yX10_copyFrom) ∈ oa_GT := oa_g3 67 rfl rfl
theorem gw_633 : (Cond.selects RX10 yX10_copyFrom yX10_copyFrom) ∈ oa_GT := oa_g3 68 rfl rfl
theorem gw_634 : (oa_cw mX10_copyFrom) ∈ oa_GT := oa_g3 69 rfl rfl
theorem gw_635 : (Cond.methodLink RX10 40 arraycopyName) ∈ oa_GT := oa_g3 70 rfl rfl
theorem gw_636 : (Cond.static arraycopyName) ∈ oa_GT := oa_g3 71 rfl rfl
theorem gw_637 : (Cond.native arraycopyName) ∈ oa_GT := oa_g3 72 rfl rfl
theorem gw_638 : (Cond.methodLink RX5 44 yX6_copyFrom) ∈ oa_GT := oa_g3 73 rfl rfl
theorem gw_639 : (Cond.instanceMethod yX6_copyFrom) ∈ oa_GT := oa_g3 74 rfl rfl
theorem gw_640 : (Cond.selects RX6 yX6_copyFrom yX6_copyFrom) ∈ oa_GT := oa_g3 75 rfl rfl
theorem gw_641 : (oa_cw mX6_copyFrom) ∈ oa_GT := oa_g3 76 rfl rfl
theorem gw_642 : (Cond.methodLink RX6 41 arraycopyName) ∈ oa_GT := oa_g3 77 rfl rfl
theorem gw_643 : (Cond.methodLink RX5 47 yX8_copyFrom) ∈ oa_GT := oa_g3 78 rfl rfl
theorem gw_644 : (Cond.instanceMethod yX8_copyFrom) ∈ oa_GT := oa_g3 79 rfl rfl
theorem gw_645 : (Cond.selects RX8 yX8_copyFrom yX8_copyFrom) ∈ oa_GT := oa_g3 80 rfl rfl
theorem gw_646 : (oa_cw mX8_copyFrom) ∈ oa_GT := oa_g3 81 rfl rfl
theorem gw_647 : (Cond.methodLink RX8 30 arraycopyName) ∈ oa_GT := oa_g3 82 rfl rfl
theorem gw_648 : (Cond.methodLink RX3 35 Lib.Math.min.name) ∈ oa_GT := oa_g3 83 rfl rfl
theorem gw_649 : (Cond.static Lib.Math.min.name) ∈ oa_GT := oa_g3 84 rfl rfl
theorem gw_650 : (Cond.code Lib.Math.min.name Lib.Math.min.code 2 (some .int)) ∈ oa_GT := oa_g3 85 rfl rfl
theorem gw_651 : (Cond.methodLink RX11 249 yX0_tryOut) ∈ oa_GT := oa_g3 86 rfl rfl
theorem gw_652 : (Cond.instanceMethod yX0_tryOut) ∈ oa_GT := oa_g3 87 rfl rfl
theorem gw_653 : (Cond.selects RX0 yX0_tryOut yX0_tryOut) ∈ oa_GT := oa_g3 88 rfl rfl
theorem gw_654 : (oa_cw mX0_tryOut) ∈ oa_GT := oa_g3 89 rfl rfl
theorem gw_655 : (Cond.methodLink RX0 40 yX1_shareOf) ∈ oa_GT := oa_g3 90 rfl rfl
theorem gw_656 : (Cond.instanceMethod yX1_shareOf) ∈ oa_GT := oa_g3 91 rfl rfl
theorem gw_657 : (Cond.selects RX1 yX1_shareOf yX1_shareOf) ∈ oa_GT := oa_g3 92 rfl rfl
theorem gw_658 : (oa_cw mX1_shareOf) ∈ oa_GT := oa_g3 93 rfl rfl
theorem gw_659 : (Cond.methodLink RX0 44 yX0_setQuotas) ∈ oa_GT := oa_g3 94 rfl rfl
theorem gw_661 : (Cond.instanceMethod yX0_setQuotas) ∈ oa_GT := oa_g3 96 rfl rfl
theorem gw_662 : (oa_cw mX0_setQuotas) ∈ oa_GT := oa_g3 97 rfl rfl
theorem gw_663 : (Cond.methodLink RX0 59 yX6_classOf) ∈ oa_GT := oa_g3 98 rfl rfl
theorem gw_664 : (Cond.methodLink RX0 62 yX1_rungTakes) ∈ oa_GT := oa_g3 99 rfl rfl
theorem gw_665 : (Cond.instanceMethod yX1_rungTakes) ∈ oa_GT := oa_g3 100 rfl rfl
theorem gw_666 : (Cond.selects RX1 yX1_rungTakes yX1_rungTakes) ∈ oa_GT := oa_g3 101 rfl rfl
theorem gw_667 : (oa_cw mX1_rungTakes) ∈ oa_GT := oa_g3 102 rfl rfl
theorem gw_668 : (Cond.methodLink RX0 66 yX0_serve) ∈ oa_GT := oa_g3 103 rfl rfl
theorem gw_670 : (Cond.instanceMethod yX0_serve) ∈ oa_GT := oa_g3 105 rfl rfl
theorem gw_671 : (oa_cw mX0_serve) ∈ oa_GT := oa_g3 106 rfl rfl
theorem gw_672 : (Cond.methodLink RX0 95 yX0_grantOf) ∈ oa_GT := oa_g3 107 rfl rfl
theorem gw_673 : (Cond.instanceMethod yX0_grantOf) ∈ oa_GT := oa_g3 108 rfl rfl
theorem gw_674 : (Cond.selects RX0 yX0_grantOf yX0_grantOf) ∈ oa_GT := oa_g3 109 rfl rfl
theorem gw_675 : (oa_cw mX0_grantOf) ∈ oa_GT := oa_g3 110 rfl rfl
theorem gw_677 : (Cond.methodLink RX0 102 Lib.Math.min.name) ∈ oa_GT := oa_g3 112 rfl rfl
theorem gw_678 : (Cond.methodLink RX0 108 yX6_isWhole) ∈ oa_GT := oa_g3 113 rfl rfl
theorem gw_679 : (Cond.instanceMethod yX6_isWhole) ∈ oa_GT := oa_g3 114 rfl rfl
theorem gw_680 : (Cond.selects RX6 yX6_isWhole yX6_isWhole) ∈ oa_GT := oa_g3 115 rfl rfl
theorem gw_681 : (oa_cw mX6_isWhole) ∈ oa_GT := oa_g3 116 rfl rfl
theorem gw_682 : (Cond.methodLink RX11 253 yX0_grantOf) ∈ oa_GT := oa_g3 117 rfl rfl
theorem gw_683 : (Cond.methodLink RX11 293 yX5_changeReserved) ∈ oa_GT := oa_g3 118 rfl rfl
theorem gw_684 : (Cond.instanceMethod yX5_changeReserved) ∈ oa_GT := oa_g3 119 rfl rfl
theorem gw_685 : (Cond.selects RX5 yX5_changeReserved yX5_changeReserved) ∈ oa_GT := oa_g3 120 rfl rfl
theorem gw_686 : (oa_cw mX5_changeReserved) ∈ oa_GT := oa_g3 121 rfl rfl
theorem gw_687 : (Cond.methodLink RX5 63 yX6_addReserved) ∈ oa_GT := oa_g3 122 rfl rfl
theorem gw_688 : (Cond.instanceMethod yX6_addReserved) ∈ oa_GT := oa_g3 123 rfl rfl
theorem gw_689 : (Cond.selects RX6 yX6_addReserved yX6_addReserved) ∈ oa_GT := oa_g3 124 rfl rfl
theorem gw_690 : (oa_cw mX6_addReserved) ∈ oa_GT := oa_g3 125 rfl rfl
theorem gw_691 : (Cond.methodLink RX5 70 yX10_addReserved) ∈ oa_GT := oa_g3 126 rfl rfl
theorem gw_692 : (Cond.instanceMethod yX10_addReserved) ∈ oa_GT := oa_g3 127 rfl rfl
theorem gw_693 : (Cond.selects RX10 yX10_addReserved yX10_addReserved) ∈ oa_GT := oa_g3 128 rfl rfl
theorem gw_694 : (oa_cw mX10_addReserved) ∈ oa_GT := oa_g3 129 rfl rfl
theorem gw_698 : (oa_cw mX11_undo) ∈ oa_GT := oa_g3 133 rfl rfl
theorem gw_699 : (Cond.methodLink RX11 334 yX3_takeBack) ∈ oa_GT := oa_g3 134 rfl rfl
theorem gw_700 : (Cond.instanceMethod yX3_takeBack) ∈ oa_GT := oa_g3 135 rfl rfl
theorem gw_701 : (Cond.selects RX3 yX3_takeBack yX3_takeBack) ∈ oa_GT := oa_g3 136 rfl rfl
theorem gw_702 : (oa_cw mX3_takeBack) ∈ oa_GT := oa_g3 137 rfl rfl
theorem gw_706 : (oa_cw mX11_undoDepth) ∈ oa_GT := oa_g3 141 rfl rfl
theorem gw_710 : (oa_cw mX11_total) ∈ oa_GT := oa_g3 145 rfl rfl
theorem gw_711 : (Cond.methodLink RX11 341 yX8_totalOf) ∈ oa_GT := oa_g3 146 rfl rfl
theorem gw_712 : (Cond.instanceMethod yX8_totalOf) ∈ oa_GT := oa_g3 147 rfl rfl
theorem gw_713 : (Cond.selects RX8 yX8_totalOf yX8_totalOf) ∈ oa_GT := oa_g3 148 rfl rfl
theorem gw_714 : (oa_cw mX8_totalOf) ∈ oa_GT := oa_g3 149 rfl rfl
theorem gw_719 : (oa_cw mX11_shipment) ∈ oa_GT := oa_g3 154 rfl rfl
theorem gw_720 : (Cond.methodLink RX11 344 yX8_entry) ∈ oa_GT := oa_g3 155 rfl rfl
theorem gw_721 : (Cond.instanceMethod yX8_entry) ∈ oa_GT := oa_g3 156 rfl rfl
theorem gw_722 : (Cond.selects RX8 yX8_entry yX8_entry) ∈ oa_GT := oa_g3 157 rfl rfl
theorem gw_723 : (oa_cw mX8_entry) ∈ oa_GT := oa_g3 158 rfl rfl
theorem gw_724 : (Cond.methodLink RX8 46 Lib.Math.min.name) ∈ oa_GT := oa_g3 159 rfl rfl
theorem gw_725 : (Cond.methodLink RX8 36 yJ9_floorMod_7cf53) ∈ oa_GT := oa_g3 160 rfl rfl
theorem gw_729 : (oa_cw mX11_formattedByte) ∈ oa_GT := oa_g3 164 rfl rfl
theorem gw_730 : (Cond.methodLink RX11 388 yX2_byteAt) ∈ oa_GT := oa_g3 165 rfl rfl
theorem gw_731 : (Cond.instanceMethod yX2_byteAt) ∈ oa_GT := oa_g3 166 rfl rfl
theorem gw_732 : (Cond.selects RX2 yX2_byteAt yX2_byteAt) ∈ oa_GT := oa_g3 167 rfl rfl
theorem gw_733 : (oa_cw mX2_byteAt) ∈ oa_GT := oa_g3 168 rfl rfl
theorem gw_742 : (oa_cw mX11_load) ∈ oa_GT := oa_g3 177 rfl rfl
theorem gw_743 : (Cond.methodLink RX11 89 yX7_begin) ∈ oa_GT := oa_g3 178 rfl rfl
theorem gw_744 : (Cond.instanceMethod yX7_begin) ∈ oa_GT := oa_g3 179 rfl rfl
theorem gw_745 : (Cond.selects RX7 yX7_begin yX7_begin) ∈ oa_GT := oa_g3 180 rfl rfl
theorem gw_746 : (oa_cw mX7_begin) ∈ oa_GT := oa_g3 181 rfl rfl
theorem gw_747 : (Cond.methodLink RX7 36 yX1_clear) ∈ oa_GT := oa_g3 182 rfl rfl
theorem gw_748 : (Cond.instanceMethod yX1_clear) ∈ oa_GT := oa_g3 183 rfl rfl
theorem gw_749 : (Cond.selects RX1 yX1_clear yX1_clear) ∈ oa_GT := oa_g3 184 rfl rfl
theorem gw_750 : (oa_cw mX1_clear) ∈ oa_GT := oa_g3 185 rfl rfl
theorem gw_751 : (Cond.methodLink RX7 39 yX5_clear) ∈ oa_GT := oa_g3 186 rfl rfl
theorem gw_752 : (Cond.instanceMethod yX5_clear) ∈ oa_GT := oa_g3 187 rfl rfl
theorem gw_753 : (Cond.selects RX5 yX5_clear yX5_clear) ∈ oa_GT := oa_g3 188 rfl rfl
theorem gw_754 : (oa_cw mX5_clear) ∈ oa_GT := oa_g3 189 rfl rfl
theorem gw_755 : (Cond.methodLink RX5 32 yX10_clear) ∈ oa_GT := oa_g3 190 rfl rfl
theorem gw_756 : (Cond.instanceMethod yX10_clear) ∈ oa_GT := oa_g3 191 rfl rfl
theorem gw_757 : (Cond.selects RX10 yX10_clear yX10_clear) ∈ oa_GT := oa_g3 192 rfl rfl
theorem gw_758 : (oa_cw mX10_clear) ∈ oa_GT := oa_g3 193 rfl rfl
theorem gw_759 : (Cond.methodLink RX10 34 yJ7_fill_53178) ∈ oa_GT := oa_g3 194 rfl rfl
theorem gw_760 : (Cond.methodLink RX5 39 yX8_clear) ∈ oa_GT := oa_g3 195 rfl rfl
theorem gw_761 : (Cond.instanceMethod yX8_clear) ∈ oa_GT := oa_g3 196 rfl rfl
theorem gw_762 : (Cond.selects RX8 yX8_clear yX8_clear) ∈ oa_GT := oa_g3 197 rfl rfl
theorem gw_763 : (oa_cw mX8_clear) ∈ oa_GT := oa_g3 198 rfl rfl
theorem gw_764 : (Cond.methodLink RX8 24 yJ7_fill_53178) ∈ oa_GT := oa_g3 199 rfl rfl
theorem gw_765 : (Cond.methodLink RX7 43 yX9_restart) ∈ oa_GT := oa_g3 200 rfl rfl
theorem gw_766 : (Cond.instanceMethod yX9_restart) ∈ oa_GT := oa_g3 201 rfl rfl
theorem gw_767 : (Cond.selects RX9 yX9_restart yX9_restart) ∈ oa_GT := oa_g3 202 rfl rfl
theorem gw_768 : (oa_cw mX9_restart) ∈ oa_GT := oa_g3 203 rfl rfl
theorem gw_769 : (Cond.methodLink RX9 22 yX9_step) ∈ oa_GT := oa_g3 204 rfl rfl
theorem gw_770 : (Cond.instanceMethod yX9_step) ∈ oa_GT := oa_g3 205 rfl rfl
theorem gw_771 : (Cond.selects RX9 yX9_step yX9_step) ∈ oa_GT := oa_g3 206 rfl rfl
theorem gw_772 : (oa_cw mX9_step) ∈ oa_GT := oa_g3 207 rfl rfl
theorem gw_773 : (Cond.methodLink RX9 31 yX4_signAt) ∈ oa_GT := oa_g3 208 rfl rfl
theorem gw_774 : (Cond.instanceMethod yX4_signAt) ∈ oa_GT := oa_g3 209 rfl rfl
theorem gw_775 : (Cond.selects RX4 yX4_signAt yX4_signAt) ∈ oa_GT := oa_g3 210 rfl rfl
theorem gw_776 : (oa_cw mX4_signAt) ∈ oa_GT := oa_g3 211 rfl rfl
theorem gw_777 : (Cond.methodLink RX9 35 yX9_isSpace) ∈ oa_GT := oa_g3 212 rfl rfl
theorem gw_778 : (Cond.static yX9_isSpace) ∈ oa_GT := oa_g3 213 rfl rfl
theorem gw_779 : (oa_cw mX9_isSpace) ∈ oa_GT := oa_g3 214 rfl rfl
theorem gw_780 : (Cond.methodLink RX9 39 yX9_kindOf) ∈ oa_GT := oa_g3 215 rfl rfl
theorem gw_781 : (Cond.static yX9_kindOf) ∈ oa_GT := oa_g3 216 rfl rfl
theorem gw_782 : (oa_cw mX9_kindOf) ∈ oa_GT := oa_g3 217 rfl rfl
theorem gw_783 : (Cond.methodLink RX11 92 yX7_hasLine) ∈ oa_GT := oa_g3 218 rfl rfl
theorem gw_784 : (Cond.instanceMethod yX7_hasLine) ∈ oa_GT := oa_g3 219 rfl rfl
theorem gw_785 : (Cond.selects RX7 yX7_hasLine yX7_hasLine) ∈ oa_GT := oa_g3 220 rfl rfl
theorem gw_786 : (oa_cw mX7_hasLine) ∈ oa_GT := oa_g3 221 rfl rfl
theorem gw_787 : (Cond.methodLink RX11 96 yX7_readLine) ∈ oa_GT := oa_g3 222 rfl rfl
theorem gw_788 : (Cond.instanceMethod yX7_readLine) ∈ oa_GT := oa_g3 223 rfl rfl
theorem gw_789 : (Cond.selects RX7 yX7_readLine yX7_readLine) ∈ oa_GT := oa_g3 224 rfl rfl
theorem gw_790 : (oa_cw mX7_readLine) ∈ oa_GT := oa_g3 225 rfl rfl
theorem gw_792 : (Cond.methodLink RX7 58 yX9_isWord) ∈ oa_GT := oa_g3 227 rfl rfl
theorem gw_793 : (Cond.instanceMethod yX9_isWord) ∈ oa_GT := oa_g3 228 rfl rfl
theorem gw_794 : (Cond.selects RX9 yX9_isWord yX9_isWord) ∈ oa_GT := oa_g3 229 rfl rfl
theorem gw_795 : (oa_cw mX9_isWord) ∈ oa_GT := oa_g3 230 rfl rfl
theorem gw_796 : (Cond.methodLink RX9 45 yJ0_length_8abf5) ∈ oa_GT := oa_g3 231 rfl rfl
theorem gw_797 : (Cond.instanceMethod yJ0_length_8abf5) ∈ oa_GT := oa_g3 232 rfl rfl
theorem gw_798 : (Cond.selects RJ0 yJ0_length_8abf5 yJ0_length_8abf5) ∈ oa_GT := oa_g3 233 rfl rfl
theorem gw_799 : (oa_cw mJ0_length_8abf5) ∈ oa_GT := oa_g3 234 rfl rfl
theorem gw_803 : (oa_cw mJ0_coder_7d493) ∈ oa_GT := oa_g3 238 rfl rfl
theorem gw_806 : (Cond.methodLink RX9 50 yJ0_charAt_5068e) ∈ oa_GT := oa_g4 1 rfl rfl
theorem gw_807 : (Cond.instanceMethod yJ0_charAt_5068e) ∈ oa_GT := oa_g4 2 rfl rfl
theorem gw_808 : (Cond.selects RJ0 yJ0_charAt_5068e yJ0_charAt_5068e) ∈ oa_GT := oa_g4 3 rfl rfl
theorem gw_809 : (oa_cw mJ0_charAt_5068e) ∈ oa_GT := oa_g4 4 rfl rfl
theorem gw_813 : (oa_cw mJ0_isLatin1_aae02) ∈ oa_GT := oa_g4 8 rfl rfl
theorem gw_816 : (oa_cw mJ1_charAt_3b067) ∈ oa_GT := oa_g4 11 rfl rfl
theorem gw_819 : (oa_cw mJ0_checkIndex_df160) ∈ oa_GT := oa_g4 14 rfl rfl
theorem gw_824 : (oa_cw mJ3_checkIndex_8e157) ∈ oa_GT := oa_g4 19 rfl rfl
theorem gw_844 : (Cond.methodLink RX7 65 yX7_readPart) ∈ oa_GT := oa_g4 39 rfl rfl
theorem gw_846 : (Cond.instanceMethod yX7_readPart) ∈ oa_GT := oa_g4 41 rfl rfl
theorem gw_847 : (oa_cw mX7_readPart) ∈ oa_GT := oa_g4 42 rfl rfl
theorem gw_848 : (Cond.methodLink RX7 106 yX9_step) ∈ oa_GT := oa_g4 43 rfl rfl
theorem gw_849 : (Cond.methodLink RX7 109 yX7_isNewName) ∈ oa_GT := oa_g4 44 rfl rfl
theorem gw_851 : (Cond.instanceMethod yX7_isNewName) ∈ oa_GT := oa_g4 46 rfl rfl
theorem gw_852 : (oa_cw mX7_isNewName) ∈ oa_GT := oa_g4 47 rfl rfl
theorem gw_853 : (Cond.methodLink RX7 151 yX9_isName) ∈ oa_GT := oa_g4 48 rfl rfl
theorem gw_854 : (Cond.instanceMethod yX9_isName) ∈ oa_GT := oa_g4 49 rfl rfl
theorem gw_855 : (Cond.selects RX9 yX9_isName yX9_isName) ∈ oa_GT := oa_g4 50 rfl rfl
theorem gw_856 : (oa_cw mX9_isName) ∈ oa_GT := oa_g4 51 rfl rfl
theorem gw_857 : (Cond.methodLink RX7 69 yX7_fail) ∈ oa_GT := oa_g4 52 rfl rfl
theorem gw_859 : (Cond.instanceMethod yX7_fail) ∈ oa_GT := oa_g4 54 rfl rfl
theorem gw_860 : (oa_cw mX7_fail) ∈ oa_GT := oa_g4 55 rfl rfl
theorem gw_861 : (Cond.methodLink RX7 112 yX9_name) ∈ oa_GT := oa_g4 56 rfl rfl
theorem gw_862 : (Cond.instanceMethod yX9_name) ∈ oa_GT := oa_g4 57 rfl rfl
theorem gw_863 : (Cond.selects RX9 yX9_name yX9_name) ∈ oa_GT := oa_g4 58 rfl rfl
theorem gw_864 : (oa_cw mX9_name) ∈ oa_GT := oa_g4 59 rfl rfl
theorem gw_865 : (Cond.methodLink RX7 154 yX1_itemNamed) ∈ oa_GT := oa_g4 60 rfl rfl
theorem gw_866 : (Cond.instanceMethod yX1_itemNamed) ∈ oa_GT := oa_g4 61 rfl rfl
theorem gw_867 : (Cond.selects RX1 yX1_itemNamed yX1_itemNamed) ∈ oa_GT := oa_g4 62 rfl rfl
theorem gw_868 : (oa_cw mX1_itemNamed) ∈ oa_GT := oa_g4 63 rfl rfl
theorem gw_869 : (Cond.methodLink RX1 85 yX1_productNamed) ∈ oa_GT := oa_g4 64 rfl rfl
theorem gw_870 : (Cond.instanceMethod yX1_productNamed) ∈ oa_GT := oa_g4 65 rfl rfl
theorem gw_871 : (Cond.selects RX1 yX1_productNamed yX1_productNamed) ∈ oa_GT := oa_g4 66 rfl rfl
theorem gw_872 : (oa_cw mX1_productNamed) ∈ oa_GT := oa_g4 67 rfl rfl
theorem gw_873 : (Cond.methodLink RX1 89 yX1_partNamed) ∈ oa_GT := oa_g4 68 rfl rfl
theorem gw_874 : (Cond.instanceMethod yX1_partNamed) ∈ oa_GT := oa_g4 69 rfl rfl
theorem gw_875 : (Cond.selects RX1 yX1_partNamed yX1_partNamed) ∈ oa_GT := oa_g4 70 rfl rfl
theorem gw_876 : (oa_cw mX1_partNamed) ∈ oa_GT := oa_g4 71 rfl rfl
theorem gw_877 : (Cond.methodLink RX7 116 yX7_readNumber) ∈ oa_GT := oa_g4 72 rfl rfl
theorem gw_879 : (Cond.instanceMethod yX7_readNumber) ∈ oa_GT := oa_g4 74 rfl rfl
theorem gw_880 : (oa_cw mX7_readNumber) ∈ oa_GT := oa_g4 75 rfl rfl
theorem gw_881 : (Cond.methodLink RX7 177 yX9_value) ∈ oa_GT := oa_g4 76 rfl rfl
theorem gw_882 : (Cond.instanceMethod yX9_value) ∈ oa_GT := oa_g4 77 rfl rfl
theorem gw_883 : (Cond.selects RX9 yX9_value yX9_value) ∈ oa_GT := oa_g4 78 rfl rfl
theorem gw_884 : (oa_cw mX9_value) ∈ oa_GT := oa_g4 79 rfl rfl
theorem gw_885 : (Cond.methodLink RX7 124 yX10_setStock) ∈ oa_GT := oa_g4 80 rfl rfl
theorem gw_886 : (Cond.instanceMethod yX10_setStock) ∈ oa_GT := oa_g4 81 rfl rfl
theorem gw_887 : (Cond.selects RX10 yX10_setStock yX10_setStock) ∈ oa_GT := oa_g4 82 rfl rfl
theorem gw_888 : (oa_cw mX10_setStock) ∈ oa_GT := oa_g4 83 rfl rfl
theorem gw_889 : (Cond.methodLink RX7 130 yX1_addPart) ∈ oa_GT := oa_g4 84 rfl rfl
theorem gw_890 : (Cond.instanceMethod yX1_addPart) ∈ oa_GT := oa_g4 85 rfl rfl
theorem gw_891 : (Cond.selects RX1 yX1_addPart yX1_addPart) ∈ oa_GT := oa_g4 86 rfl rfl
theorem gw_892 : (oa_cw mX1_addPart) ∈ oa_GT := oa_g4 87 rfl rfl
theorem gw_893 : (Cond.methodLink RX7 134 yX7_readSemicolon) ∈ oa_GT := oa_g4 88 rfl rfl
theorem gw_895 : (Cond.instanceMethod yX7_readSemicolon) ∈ oa_GT := oa_g4 90 rfl rfl
theorem gw_896 : (oa_cw mX7_readSemicolon) ∈ oa_GT := oa_g4 91 rfl rfl
theorem gw_897 : (Cond.methodLink RX7 103 yX9_isSemicolon) ∈ oa_GT := oa_g4 92 rfl rfl
theorem gw_898 : (Cond.instanceMethod yX9_isSemicolon) ∈ oa_GT := oa_g4 93 rfl rfl
theorem gw_899 : (Cond.selects RX9 yX9_isSemicolon yX9_isSemicolon) ∈ oa_GT := oa_g4 94 rfl rfl
theorem gw_900 : (oa_cw mX9_isSemicolon) ∈ oa_GT := oa_g4 95 rfl rfl
theorem gw_902 : (Cond.methodLink RX7 78 yX7_readProduct) ∈ oa_GT := oa_g4 97 rfl rfl
theorem gw_904 : (Cond.instanceMethod yX7_readProduct) ∈ oa_GT := oa_g4 99 rfl rfl
theorem gw_905 : (oa_cw mX7_readProduct) ∈ oa_GT := oa_g4 100 rfl rfl
theorem gw_906 : (Cond.methodLink RX7 137 yX1_beginProduct) ∈ oa_GT := oa_g4 101 rfl rfl
theorem gw_907 : (Cond.instanceMethod yX1_beginProduct) ∈ oa_GT := oa_g4 102 rfl rfl
theorem gw_908 : (Cond.selects RX1 yX1_beginProduct yX1_beginProduct) ∈ oa_GT := oa_g4 103 rfl rfl
theorem gw_909 : (oa_cw mX1_beginProduct) ∈ oa_GT := oa_g4 104 rfl rfl
theorem gw_910 : (Cond.methodLink RX1 58 yJ7_fill_53178) ∈ oa_GT := oa_g4 105 rfl rfl
theorem gw_911 : (Cond.methodLink RX7 141 yX7_readBillLine) ∈ oa_GT := oa_g4 106 rfl rfl
theorem gw_913 : (Cond.instanceMethod yX7_readBillLine) ∈ oa_GT := oa_g4 108 rfl rfl
theorem gw_914 : (oa_cw mX7_readBillLine) ∈ oa_GT := oa_g4 109 rfl rfl
theorem gw_915 : (Cond.methodLink RX7 147 yX1_linesOfBegun) ∈ oa_GT := oa_g4 110 rfl rfl
theorem gw_916 : (Cond.instanceMethod yX1_linesOfBegun) ∈ oa_GT := oa_g4 111 rfl rfl
theorem gw_917 : (Cond.selects RX1 yX1_linesOfBegun yX1_linesOfBegun) ∈ oa_GT := oa_g4 112 rfl rfl
theorem gw_918 : (oa_cw mX1_linesOfBegun) ∈ oa_GT := oa_g4 113 rfl rfl
theorem gw_919 : (Cond.methodLink RX7 158 yX1_begunHas) ∈ oa_GT := oa_g4 114 rfl rfl
theorem gw_920 : (Cond.instanceMethod yX1_begunHas) ∈ oa_GT := oa_g4 115 rfl rfl
theorem gw_921 : (Cond.selects RX1 yX1_begunHas yX1_begunHas) ∈ oa_GT := oa_g4 116 rfl rfl
theorem gw_922 : (oa_cw mX1_begunHas) ∈ oa_GT := oa_g4 117 rfl rfl
theorem gw_923 : (Cond.methodLink RX1 64 yX1_linesOfBegun) ∈ oa_GT := oa_g4 118 rfl rfl
theorem gw_924 : (Cond.methodLink RX7 161 yX1_begunCanHold) ∈ oa_GT := oa_g4 119 rfl rfl
theorem gw_925 : (Cond.instanceMethod yX1_begunCanHold) ∈ oa_GT := oa_g4 120 rfl rfl
theorem gw_926 : (Cond.selects RX1 yX1_begunCanHold yX1_begunCanHold) ∈ oa_GT := oa_g4 121 rfl rfl
theorem gw_927 : (oa_cw mX1_begunCanHold) ∈ oa_GT := oa_g4 122 rfl rfl
theorem gw_928 : (Cond.methodLink RX1 68 yX1_needWith) ∈ oa_GT := oa_g4 123 rfl rfl
theorem gw_930 : (Cond.instanceMethod yX1_needWith) ∈ oa_GT := oa_g4 125 rfl rfl
theorem gw_931 : (oa_cw mX1_needWith) ∈ oa_GT := oa_g4 126 rfl rfl
theorem gw_932 : (Cond.methodLink RX7 165 yX1_addLine) ∈ oa_GT := oa_g4 127 rfl rfl
theorem gw_933 : (Cond.instanceMethod yX1_addLine) ∈ oa_GT := oa_g4 128 rfl rfl
theorem gw_934 : (Cond.selects RX1 yX1_addLine yX1_addLine) ∈ oa_GT := oa_g4 129 rfl rfl
theorem gw_935 : (oa_cw mX1_addLine) ∈ oa_GT := oa_g4 130 rfl rfl
theorem gw_936 : (Cond.methodLink RX1 72 yX1_levelOf) ∈ oa_GT := oa_g4 131 rfl rfl
theorem gw_937 : (Cond.instanceMethod yX1_levelOf) ∈ oa_GT := oa_g4 132 rfl rfl
theorem gw_938 : (Cond.selects RX1 yX1_levelOf yX1_levelOf) ∈ oa_GT := oa_g4 133 rfl rfl
theorem gw_939 : (oa_cw mX1_levelOf) ∈ oa_GT := oa_g4 134 rfl rfl
theorem gw_940 : (Cond.methodLink RX1 76 Lib.Math.max.name) ∈ oa_GT := oa_g4 135 rfl rfl
theorem gw_941 : (Cond.methodLink RX7 144 yX1_endProduct) ∈ oa_GT := oa_g4 136 rfl rfl
theorem gw_942 : (Cond.instanceMethod yX1_endProduct) ∈ oa_GT := oa_g4 137 rfl rfl
theorem gw_943 : (Cond.selects RX1 yX1_endProduct yX1_endProduct) ∈ oa_GT := oa_g4 138 rfl rfl
theorem gw_944 : (oa_cw mX1_endProduct) ∈ oa_GT := oa_g4 139 rfl rfl
theorem gw_946 : (Cond.methodLink RX7 83 yX7_readRung) ∈ oa_GT := oa_g4 141 rfl rfl
theorem gw_948 : (Cond.instanceMethod yX7_readRung) ∈ oa_GT := oa_g4 143 rfl rfl
theorem gw_949 : (oa_cw mX7_readRung) ∈ oa_GT := oa_g4 144 rfl rfl
theorem gw_950 : (Cond.methodLink RX7 52 yX1_addRung) ∈ oa_GT := oa_g4 145 rfl rfl
theorem gw_952 : (Cond.methodLink RX7 97 yX7_readOrder) ∈ oa_GT := oa_g4 147 rfl rfl
theorem gw_954 : (Cond.instanceMethod yX7_readOrder) ∈ oa_GT := oa_g4 149 rfl rfl
theorem gw_955 : (oa_cw mX7_readOrder) ∈ oa_GT := oa_g4 150 rfl rfl
theorem gw_956 : (Cond.methodLink RX7 168 yX1_productNamed) ∈ oa_GT := oa_g4 151 rfl rfl
theorem gw_958 : (Cond.methodLink RX7 173 yX6_enter) ∈ oa_GT := oa_g4 153 rfl rfl
theorem gw_959 : (Cond.instanceMethod yX6_enter) ∈ oa_GT := oa_g4 154 rfl rfl
theorem gw_960 : (Cond.selects RX6 yX6_enter yX6_enter) ∈ oa_GT := oa_g4 155 rfl rfl
theorem gw_961 : (oa_cw mX6_enter) ∈ oa_GT := oa_g4 156 rfl rfl
theorem gw_962 : (Cond.classLink RX11 99 "java/lang/IllegalArgumentException") ∈ oa_GT := oa_g4 157 rfl rfl
theorem gw_1029 : (Cond.methodLink RX11 106 yX7_swapCatalog) ∈ oa_GT := oa_g4 224 rfl rfl
theorem gw_1030 : (Cond.instanceMethod yX7_swapCatalog) ∈ oa_GT := oa_g4 225 rfl rfl
theorem gw_1031 : (Cond.selects RX7 yX7_swapCatalog yX7_swapCatalog) ∈ oa_GT := oa_g4 226 rfl rfl
theorem gw_1032 : (oa_cw mX7_swapCatalog) ∈ oa_GT := oa_g4 227 rfl rfl
theorem gw_1033 : (Cond.methodLink RX11 110 yX7_swapLedger) ∈ oa_GT := oa_g4 228 rfl rfl
theorem gw_1034 : (Cond.instanceMethod yX7_swapLedger) ∈ oa_GT := oa_g4 229 rfl rfl
theorem gw_1035 : (Cond.selects RX7 yX7_swapLedger yX7_swapLedger) ∈ oa_GT := oa_g4 230 rfl rfl
theorem gw_1036 : (oa_cw mX7_swapLedger) ∈ oa_GT := oa_g4 231 rfl rfl
theorem gw_1037 : (Cond.methodLink RX11 114 yX3_forget) ∈ oa_GT := oa_g4 232 rfl rfl
theorem gw_1038 : (Cond.instanceMethod yX3_forget) ∈ oa_GT := oa_g4 233 rfl rfl
theorem gw_1039 : (Cond.selects RX3 yX3_forget yX3_forget) ∈ oa_GT := oa_g4 234 rfl rfl
theorem gw_1040 : (oa_cw mX3_forget) ∈ oa_GT := oa_g4 235 rfl rfl
theorem gw_1048 : (oa_cw mX11_lineCount) ∈ oa_GT := oa_g5 3 rfl rfl
theorem gw_1049 : (Cond.methodLink RX11 150 yX11_checkProduct) ∈ oa_GT := oa_g5 4 rfl rfl
theorem gw_1051 : (Cond.instanceMethod yX11_checkProduct) ∈ oa_GT := oa_g5 6 rfl rfl
theorem gw_1052 : (oa_cw mX11_checkProduct) ∈ oa_GT := oa_g5 7 rfl rfl
theorem gw_1053 : (Cond.methodLink RX11 391 yX11_isInside) ∈ oa_GT := oa_g5 8 rfl rfl
theorem gw_1054 : (Cond.classLink RX11 394 "java/lang/IndexOutOfBoundsException") ∈ oa_GT := oa_g5 9 rfl rfl
theorem gw_1070 : (Cond.methodLink RX11 153 yX1_linesOf) ∈ oa_GT := oa_g5 25 rfl rfl
theorem gw_1071 : (Cond.instanceMethod yX1_linesOf) ∈ oa_GT := oa_g5 26 rfl rfl
theorem gw_1072 : (Cond.selects RX1 yX1_linesOf yX1_linesOf) ∈ oa_GT := oa_g5 27 rfl rfl
theorem gw_1073 : (oa_cw mX1_linesOf) ∈ oa_GT := oa_g5 28 rfl rfl
theorem gw_1080 : (oa_cw mX11_lineItem) ∈ oa_GT := oa_g5 35 rfl rfl
theorem gw_1081 : (Cond.methodLink RX11 157 yX1_itemOf) ∈ oa_GT := oa_g5 36 rfl rfl
theorem gw_1082 : (Cond.instanceMethod yX1_itemOf) ∈ oa_GT := oa_g5 37 rfl rfl
theorem gw_1083 : (Cond.selects RX1 yX1_itemOf yX1_itemOf) ∈ oa_GT := oa_g5 38 rfl rfl
theorem gw_1084 : (oa_cw mX1_itemOf) ∈ oa_GT := oa_g5 39 rfl rfl
theorem gw_1085 : (Cond.methodLink RX1 96 yX1_linesOf) ∈ oa_GT := oa_g5 40 rfl rfl
theorem gw_1092 : (oa_cw mX11_lineQuantity) ∈ oa_GT := oa_g5 47 rfl rfl
theorem gw_1093 : (Cond.methodLink RX11 161 yX1_quantityOf) ∈ oa_GT := oa_g5 48 rfl rfl
theorem gw_1094 : (Cond.instanceMethod yX1_quantityOf) ∈ oa_GT := oa_g5 49 rfl rfl
theorem gw_1095 : (Cond.selects RX1 yX1_quantityOf yX1_quantityOf) ∈ oa_GT := oa_g5 50 rfl rfl
theorem gw_1096 : (oa_cw mX1_quantityOf) ∈ oa_GT := oa_g5 51 rfl rfl
theorem gw_1103 : (oa_cw mX11_need) ∈ oa_GT := oa_g5 58 rfl rfl
theorem gw_1104 : (Cond.methodLink RX11 164 yX11_checkPart) ∈ oa_GT := oa_g5 59 rfl rfl
theorem gw_1106 : (Cond.instanceMethod yX11_checkPart) ∈ oa_GT := oa_g5 61 rfl rfl
theorem gw_1107 : (oa_cw mX11_checkPart) ∈ oa_GT := oa_g5 62 rfl rfl
theorem gw_1115 : (oa_cw mX11_level) ∈ oa_GT := oa_g5 70 rfl rfl
theorem gw_1116 : (Cond.methodLink RX11 170 yX1_levelOf) ∈ oa_GT := oa_g5 71 rfl rfl
theorem gw_1123 : (oa_cw mX11_pieces) ∈ oa_GT := oa_g5 78 rfl rfl
theorem gw_1130 : (oa_cw mX11_usedBy) ∈ oa_GT := oa_g5 85 rfl rfl
theorem gw_1137 : (oa_cw mX11_commonParts) ∈ oa_GT := oa_g5 92 rfl rfl
theorem gw_1144 : (oa_cw mX11_stock) ∈ oa_GT := oa_g5 99 rfl rfl
theorem gw_1145 : (Cond.methodLink RX11 176 yX10_stockOf) ∈ oa_GT := oa_g5 100 rfl rfl
theorem gw_1152 : (oa_cw mX11_reserved) ∈ oa_GT := oa_g5 107 rfl rfl
theorem gw_1153 : (Cond.methodLink RX11 179 yX10_reservedOf) ∈ oa_GT := oa_g5 108 rfl rfl
theorem gw_1160 : (oa_cw mX11_arriving) ∈ oa_GT := oa_g5 115 rfl rfl
theorem gw_1167 : (oa_cw mX11_nextArrival) ∈ oa_GT := oa_g5 122 rfl rfl
theorem gw_1168 : (Cond.methodLink RX11 185 yX10_earliestArrival) ∈ oa_GT := oa_g5 123 rfl rfl
theorem gw_1169 : (Cond.instanceMethod yX10_earliestArrival) ∈ oa_GT := oa_g5 124 rfl rfl
theorem gw_1170 : (Cond.selects RX10 yX10_earliestArrival yX10_earliestArrival) ∈ oa_GT := oa_g5 125 rfl rfl
theorem gw_1171 : (oa_cw mX10_earliestArrival) ∈ oa_GT := oa_g5 126 rfl rfl
theorem gw_1178 : (oa_cw mX11_buildable) ∈ oa_GT := oa_g5 133 rfl rfl
theorem gw_1179 : (Cond.methodLink RX11 188 yX10_fillFree) ∈ oa_GT := oa_g5 134 rfl rfl
theorem gw_1180 : (Cond.methodLink RX11 192 yX1_mostUnits) ∈ oa_GT := oa_g5 135 rfl rfl
theorem gw_1187 : (oa_cw mX11_bottleneck) ∈ oa_GT := oa_g5 142 rfl rfl
theorem gw_1188 : (Cond.methodLink RX11 196 yX1_tightestPart) ∈ oa_GT := oa_g5 143 rfl rfl
theorem gw_1195 : (oa_cw mX11_buildableTogether) ∈ oa_GT := oa_g5 150 rfl rfl
theorem gw_1196 : (Cond.methodLink RX11 199 yX11_checkArgument) ∈ oa_GT := oa_g5 151 rfl rfl
theorem gw_1197 : (Cond.static yX11_checkArgument) ∈ oa_GT := oa_g5 152 rfl rfl
theorem gw_1198 : (oa_cw mX11_checkArgument) ∈ oa_GT := oa_g5 153 rfl rfl
theorem gw_1200 : (Cond.methodLink RX11 203 yX1_mostTogether) ∈ oa_GT := oa_g5 155 rfl rfl
theorem gw_1201 : (Cond.instanceMethod yX1_mostTogether) ∈ oa_GT := oa_g5 156 rfl rfl
theorem gw_1202 : (Cond.selects RX1 yX1_mostTogether yX1_mostTogether) ∈ oa_GT := oa_g5 157 rfl rfl
theorem gw_1203 : (oa_cw mX1_mostTogether) ∈ oa_GT := oa_g5 158 rfl rfl
theorem gw_1204 : (Cond.methodLink RX1 103 yX1_mostUnits) ∈ oa_GT := oa_g5 159 rfl rfl
theorem gw_1205 : (Cond.methodLink RX1 106 yX1_oneMoreGains) ∈ oa_GT := oa_g5 160 rfl rfl
theorem gw_1207 : (Cond.instanceMethod yX1_oneMoreGains) ∈ oa_GT := oa_g5 162 rfl rfl
theorem gw_1208 : (oa_cw mX1_oneMoreGains) ∈ oa_GT := oa_g5 163 rfl rfl
theorem gw_1209 : (Cond.methodLink RX1 110 yX1_limitingPart) ∈ oa_GT := oa_g5 164 rfl rfl
theorem gw_1211 : (Cond.instanceMethod yX1_limitingPart) ∈ oa_GT := oa_g5 166 rfl rfl
theorem gw_1212 : (oa_cw mX1_limitingPart) ∈ oa_GT := oa_g5 167 rfl rfl
theorem gw_1213 : (Cond.methodLink RX1 114 yX1_leftAfter) ∈ oa_GT := oa_g5 168 rfl rfl
theorem gw_1215 : (Cond.instanceMethod yX1_leftAfter) ∈ oa_GT := oa_g5 170 rfl rfl
theorem gw_1216 : (oa_cw mX1_leftAfter) ∈ oa_GT := oa_g5 171 rfl rfl
theorem gw_1223 : (oa_cw mX11_stateOf) ∈ oa_GT := oa_g5 178 rfl rfl
theorem gw_1224 : (Cond.methodLink RX11 207 yX11_checkOrder) ∈ oa_GT := oa_g5 179 rfl rfl
theorem gw_1226 : (Cond.instanceMethod yX11_checkOrder) ∈ oa_GT := oa_g5 181 rfl rfl
theorem gw_1227 : (oa_cw mX11_checkOrder) ∈ oa_GT := oa_g5 182 rfl rfl
theorem gw_1229 : (Cond.methodLink RX11 210 yX6_stateFor) ∈ oa_GT := oa_g5 184 rfl rfl
theorem gw_1230 : (Cond.instanceMethod yX6_stateFor) ∈ oa_GT := oa_g5 185 rfl rfl
theorem gw_1231 : (Cond.selects RX6 yX6_stateFor yX6_stateFor) ∈ oa_GT := oa_g5 186 rfl rfl
theorem gw_1232 : (oa_cw mX6_stateFor) ∈ oa_GT := oa_g5 187 rfl rfl
theorem gw_1233 : (Cond.methodLink RX6 51 yX6_openOf) ∈ oa_GT := oa_g5 188 rfl rfl
theorem gw_1234 : (Cond.methodLink RX6 55 yX6_reservedOf) ∈ oa_GT := oa_g5 189 rfl rfl
theorem gw_1235 : (Cond.instanceMethod yX6_reservedOf) ∈ oa_GT := oa_g5 190 rfl rfl
theorem gw_1236 : (Cond.selects RX6 yX6_reservedOf yX6_reservedOf) ∈ oa_GT := oa_g5 191 rfl rfl
theorem gw_1237 : (oa_cw mX6_reservedOf) ∈ oa_GT := oa_g5 192 rfl rfl
theorem gw_1244 : (oa_cw mX11_openUnits) ∈ oa_GT := oa_g5 199 rfl rfl
theorem gw_1251 : (oa_cw mX11_reservedUnits) ∈ oa_GT := oa_g5 206 rfl rfl
theorem gw_1252 : (Cond.methodLink RX11 216 yX6_reservedOf) ∈ oa_GT := oa_g5 207 rfl rfl
theorem gw_1259 : (oa_cw mX11_shippedUnits) ∈ oa_GT := oa_g5 214 rfl rfl
theorem gw_1260 : (Cond.methodLink RX11 217 yX6_shippedOf) ∈ oa_GT := oa_g5 215 rfl rfl
theorem gw_1261 : (Cond.instanceMethod yX6_shippedOf) ∈ oa_GT := oa_g5 216 rfl rfl
theorem gw_1262 : (Cond.selects RX6 yX6_shippedOf yX6_shippedOf) ∈ oa_GT := oa_g5 217 rfl rfl
theorem gw_1263 : (oa_cw mX6_shippedOf) ∈ oa_GT := oa_g5 218 rfl rfl
theorem gw_1270 : (oa_cw mX11_orderField) ∈ oa_GT := oa_g5 225 rfl rfl
theorem gw_1271 : (Cond.methodLink RX11 223 yX6_quantityOf) ∈ oa_GT := oa_g5 226 rfl rfl
theorem gw_1272 : (Cond.instanceMethod yX6_quantityOf) ∈ oa_GT := oa_g5 227 rfl rfl
theorem gw_1273 : (Cond.selects RX6 yX6_quantityOf yX6_quantityOf) ∈ oa_GT := oa_g5 228 rfl rfl
theorem gw_1274 : (oa_cw mX6_quantityOf) ∈ oa_GT := oa_g5 229 rfl rfl
theorem gw_1275 : (Cond.methodLink RX11 225 yX6_classOf) ∈ oa_GT := oa_g5 230 rfl rfl
theorem gw_1276 : (Cond.methodLink RX11 231 yX6_isWhole) ∈ oa_GT := oa_g5 231 rfl rfl
theorem gw_1283 : (oa_cw mX11_missing) ∈ oa_GT := oa_g5 238 rfl rfl
theorem gw_1284 : (Cond.methodLink RX11 234 yX11_shortageOf) ∈ oa_GT := oa_g5 239 rfl rfl
theorem gw_1286 : (Cond.instanceMethod yX11_shortageOf) ∈ oa_GT := oa_g6 1 rfl rfl
theorem gw_1287 : (oa_cw mX11_shortageOf) ∈ oa_GT := oa_g6 2 rfl rfl
theorem gw_1294 : (oa_cw mX11_toBuy) ∈ oa_GT := oa_g6 9 rfl rfl
theorem gw_1301 : (oa_cw mX11_promise) ∈ oa_GT := oa_g6 16 rfl rfl
theorem gw_1308 : (oa_cw mX11_promiseOf) ∈ oa_GT := oa_g6 23 rfl rfl
theorem gw_1309 : (Cond.methodLink RX11 243 yX11_isClosed) ∈ oa_GT := oa_g6 24 rfl rfl
theorem gw_1311 : (Cond.instanceMethod yX11_isClosed) ∈ oa_GT := oa_g6 26 rfl rfl
theorem gw_1312 : (oa_cw mX11_isClosed) ∈ oa_GT := oa_g6 27 rfl rfl
theorem gw_1319 : (oa_cw mX11_delayingPart) ∈ oa_GT := oa_g6 34 rfl rfl
theorem gw_1326 : (oa_cw mX11_wouldGet) ∈ oa_GT := oa_g6 41 rfl rfl
theorem gw_1333 : (oa_cw mX11_rungOf) ∈ oa_GT := oa_g6 48 rfl rfl
theorem gw_1334 : (Cond.methodLink RX11 256 yX0_firstRungOf) ∈ oa_GT := oa_g6 49 rfl rfl
theorem gw_1335 : (Cond.instanceMethod yX0_firstRungOf) ∈ oa_GT := oa_g6 50 rfl rfl
theorem gw_1336 : (Cond.selects RX0 yX0_firstRungOf yX0_firstRungOf) ∈ oa_GT := oa_g6 51 rfl rfl
theorem gw_1337 : (oa_cw mX0_firstRungOf) ∈ oa_GT := oa_g6 52 rfl rfl
theorem gw_1344 : (oa_cw mX11_rungUnits) ∈ oa_GT := oa_g6 59 rfl rfl
theorem gw_1345 : (Cond.methodLink RX11 259 yX11_checkRung) ∈ oa_GT := oa_g6 60 rfl rfl
theorem gw_1347 : (Cond.instanceMethod yX11_checkRung) ∈ oa_GT := oa_g6 62 rfl rfl
theorem gw_1348 : (oa_cw mX11_checkRung) ∈ oa_GT := oa_g6 63 rfl rfl
theorem gw_1350 : (Cond.methodLink RX11 262 yX0_unitsInRung) ∈ oa_GT := oa_g6 65 rfl rfl
theorem gw_1351 : (Cond.instanceMethod yX0_unitsInRung) ∈ oa_GT := oa_g6 66 rfl rfl
theorem gw_1352 : (Cond.selects RX0 yX0_unitsInRung yX0_unitsInRung) ∈ oa_GT := oa_g6 67 rfl rfl
theorem gw_1353 : (oa_cw mX0_unitsInRung) ∈ oa_GT := oa_g6 68 rfl rfl
theorem gw_1360 : (oa_cw mX11_missingPieces) ∈ oa_GT := oa_g6 75 rfl rfl
theorem gw_1367 : (oa_cw mX11_buildableAfter) ∈ oa_GT := oa_g6 82 rfl rfl
theorem gw_1368 : (Cond.methodLink RX11 265 yX1_takePieces) ∈ oa_GT := oa_g6 83 rfl rfl
theorem gw_1376 : (oa_cw mX11_addOrder) ∈ oa_GT := oa_g6 91 rfl rfl
theorem gw_1377 : (Cond.methodLink RX11 282 yX11_checkState) ∈ oa_GT := oa_g6 92 rfl rfl
theorem gw_1378 : (Cond.static yX11_checkState) ∈ oa_GT := oa_g6 93 rfl rfl
theorem gw_1379 : (oa_cw mX11_checkState) ∈ oa_GT := oa_g6 94 rfl rfl
theorem gw_1380 : (Cond.classLink RX11 407 "java/lang/IllegalStateException") ∈ oa_GT := oa_g6 95 rfl rfl
theorem gw_1396 : (Cond.methodLink RX11 289 yX6_enter) ∈ oa_GT := oa_g6 111 rfl rfl
theorem gw_1403 : (oa_cw mX11_cancel) ∈ oa_GT := oa_g6 118 rfl rfl
theorem gw_1404 : (Cond.methodLink RX11 297 yX6_markCancelled) ∈ oa_GT := oa_g6 119 rfl rfl
theorem gw_1405 : (Cond.instanceMethod yX6_markCancelled) ∈ oa_GT := oa_g6 120 rfl rfl
theorem gw_1406 : (Cond.selects RX6 yX6_markCancelled yX6_markCancelled) ∈ oa_GT := oa_g6 121 rfl rfl
theorem gw_1407 : (oa_cw mX6_markCancelled) ∈ oa_GT := oa_g6 122 rfl rfl
theorem gw_1414 : (oa_cw mX11_reserve) ∈ oa_GT := oa_g6 129 rfl rfl
theorem gw_1415 : (Cond.methodLink RX11 300 yX6_mayMove) ∈ oa_GT := oa_g6 130 rfl rfl
theorem gw_1416 : (Cond.instanceMethod yX6_mayMove) ∈ oa_GT := oa_g6 131 rfl rfl
theorem gw_1417 : (Cond.selects RX6 yX6_mayMove yX6_mayMove) ∈ oa_GT := oa_g6 132 rfl rfl
theorem gw_1418 : (oa_cw mX6_mayMove) ∈ oa_GT := oa_g6 133 rfl rfl
theorem gw_1419 : (Cond.methodLink RX6 58 yX6_isWhole) ∈ oa_GT := oa_g6 134 rfl rfl
theorem gw_1420 : (Cond.methodLink RX6 62 yX6_quantityOf) ∈ oa_GT := oa_g6 135 rfl rfl
theorem gw_1427 : (oa_cw mX11_release) ∈ oa_GT := oa_g6 142 rfl rfl
theorem gw_1434 : (oa_cw mX11_ship) ∈ oa_GT := oa_g6 149 rfl rfl
theorem gw_1435 : (Cond.methodLink RX11 304 yX5_sendReserved) ∈ oa_GT := oa_g6 150 rfl rfl
theorem gw_1436 : (Cond.instanceMethod yX5_sendReserved) ∈ oa_GT := oa_g6 151 rfl rfl
theorem gw_1437 : (Cond.selects RX5 yX5_sendReserved yX5_sendReserved) ∈ oa_GT := oa_g6 152 rfl rfl
theorem gw_1438 : (oa_cw mX5_sendReserved) ∈ oa_GT := oa_g6 153 rfl rfl
theorem gw_1439 : (Cond.methodLink RX5 71 yX6_reservedOf) ∈ oa_GT := oa_g6 154 rfl rfl
theorem gw_1440 : (Cond.methodLink RX5 74 yX10_stockOf) ∈ oa_GT := oa_g6 155 rfl rfl
theorem gw_1441 : (Cond.methodLink RX5 77 yX10_setStock) ∈ oa_GT := oa_g6 156 rfl rfl
theorem gw_1442 : (Cond.methodLink RX5 80 yX5_changeReserved) ∈ oa_GT := oa_g6 157 rfl rfl
theorem gw_1443 : (Cond.methodLink RX5 84 yX6_addShipped) ∈ oa_GT := oa_g6 158 rfl rfl
theorem gw_1444 : (Cond.instanceMethod yX6_addShipped) ∈ oa_GT := oa_g6 159 rfl rfl
theorem gw_1445 : (Cond.selects RX6 yX6_addShipped yX6_addShipped) ∈ oa_GT := oa_g6 160 rfl rfl
theorem gw_1446 : (oa_cw mX6_addShipped) ∈ oa_GT := oa_g6 161 rfl rfl
theorem gw_1447 : (Cond.methodLink RX5 90 yX6_dueOf) ∈ oa_GT := oa_g6 162 rfl rfl
theorem gw_1448 : (Cond.methodLink RX5 93 yX8_addShipment) ∈ oa_GT := oa_g6 163 rfl rfl
theorem gw_1449 : (Cond.instanceMethod yX8_addShipment) ∈ oa_GT := oa_g6 164 rfl rfl
theorem gw_1450 : (Cond.selects RX8 yX8_addShipment yX8_addShipment) ∈ oa_GT := oa_g6 165 rfl rfl
theorem gw_1451 : (oa_cw mX8_addShipment) ∈ oa_GT := oa_g6 166 rfl rfl
theorem gw_1458 : (oa_cw mX11_buy) ∈ oa_GT := oa_g6 173 rfl rfl
theorem gw_1459 : (Cond.methodLink RX11 311 yX8_addBought) ∈ oa_GT := oa_g6 174 rfl rfl
theorem gw_1460 : (Cond.instanceMethod yX8_addBought) ∈ oa_GT := oa_g6 175 rfl rfl
theorem gw_1461 : (Cond.selects RX8 yX8_addBought yX8_addBought) ∈ oa_GT := oa_g6 176 rfl rfl
theorem gw_1462 : (oa_cw mX8_addBought) ∈ oa_GT := oa_g6 177 rfl rfl
theorem gw_1463 : (Cond.methodLink RX11 319 yX10_addArrival) ∈ oa_GT := oa_g6 178 rfl rfl
theorem gw_1464 : (Cond.instanceMethod yX10_addArrival) ∈ oa_GT := oa_g6 179 rfl rfl
theorem gw_1465 : (Cond.selects RX10 yX10_addArrival yX10_addArrival) ∈ oa_GT := oa_g6 180 rfl rfl
theorem gw_1466 : (oa_cw mX10_addArrival) ∈ oa_GT := oa_g6 181 rfl rfl
theorem gw_1473 : (oa_cw mX11_adjust) ∈ oa_GT := oa_g6 188 rfl rfl
theorem gw_1474 : (Cond.methodLink RX11 323 yX10_setStock) ∈ oa_GT := oa_g6 189 rfl rfl
theorem gw_1475 : (Cond.methodLink RX11 327 yX5_releaseExcess) ∈ oa_GT := oa_g6 190 rfl rfl
theorem gw_1476 : (Cond.instanceMethod yX5_releaseExcess) ∈ oa_GT := oa_g6 191 rfl rfl
theorem gw_1477 : (Cond.selects RX5 yX5_releaseExcess yX5_releaseExcess) ∈ oa_GT := oa_g6 192 rfl rfl
theorem gw_1478 : (oa_cw mX5_releaseExcess) ∈ oa_GT := oa_g6 193 rfl rfl
theorem gw_1479 : (Cond.methodLink RX5 97 yX10_freeOf) ∈ oa_GT := oa_g6 194 rfl rfl
theorem gw_1480 : (Cond.methodLink RX5 100 yX6_firstToLose) ∈ oa_GT := oa_g6 195 rfl rfl
theorem gw_1481 : (Cond.instanceMethod yX6_firstToLose) ∈ oa_GT := oa_g6 196 rfl rfl
theorem gw_1482 : (Cond.selects RX6 yX6_firstToLose yX6_firstToLose) ∈ oa_GT := oa_g6 197 rfl rfl
theorem gw_1483 : (oa_cw mX6_firstToLose) ∈ oa_GT := oa_g6 198 rfl rfl
theorem gw_1484 : (Cond.methodLink RX6 74 yX6_productOf) ∈ oa_GT := oa_g6 199 rfl rfl
theorem gw_1485 : (Cond.methodLink RX6 77 yX1_needOf) ∈ oa_GT := oa_g6 200 rfl rfl
theorem gw_1486 : (Cond.methodLink RX6 83 yX6_losesBefore) ∈ oa_GT := oa_g6 201 rfl rfl
theorem gw_1488 : (Cond.instanceMethod yX6_losesBefore) ∈ oa_GT := oa_g6 203 rfl rfl
theorem gw_1489 : (oa_cw mX6_losesBefore) ∈ oa_GT := oa_g6 204 rfl rfl
theorem gw_1490 : (Cond.methodLink RX5 104 yX6_isWhole) ∈ oa_GT := oa_g6 205 rfl rfl
theorem gw_1497 : (oa_cw mX11_advance) ∈ oa_GT := oa_g6 212 rfl rfl
theorem gw_1498 : (Cond.methodLink RX11 330 yX10_passDay) ∈ oa_GT := oa_g6 213 rfl rfl
theorem gw_1499 : (Cond.instanceMethod yX10_passDay) ∈ oa_GT := oa_g6 214 rfl rfl
theorem gw_1500 : (Cond.selects RX10 yX10_passDay yX10_passDay) ∈ oa_GT := oa_g6 215 rfl rfl
theorem gw_1501 : (oa_cw mX10_passDay) ∈ oa_GT := oa_g6 216 rfl rfl
theorem gw_1502 : (Cond.methodLink RX10 60 yX10_setStock) ∈ oa_GT := oa_g6 217 rfl rfl
theorem gw_1509 : (oa_cw mX11_formatOrder) ∈ oa_GT := oa_g6 224 rfl rfl
theorem gw_1510 : (Cond.methodLink RX11 347 yX1_productName) ∈ oa_GT := oa_g6 225 rfl rfl
theorem gw_1511 : (Cond.instanceMethod yX1_productName) ∈ oa_GT := oa_g6 226 rfl rfl
theorem gw_1512 : (Cond.selects RX1 yX1_productName yX1_productName) ∈ oa_GT := oa_g6 227 rfl rfl
theorem gw_1513 : (oa_cw mX1_productName) ∈ oa_GT := oa_g6 228 rfl rfl
theorem gw_1514 : (Cond.methodLink RX11 351 yX2_begin) ∈ oa_GT := oa_g6 229 rfl rfl
theorem gw_1515 : (Cond.instanceMethod yX2_begin) ∈ oa_GT := oa_g6 230 rfl rfl
theorem gw_1516 : (Cond.selects RX2 yX2_begin yX2_begin) ∈ oa_GT := oa_g6 231 rfl rfl
theorem gw_1517 : (oa_cw mX2_begin) ∈ oa_GT := oa_g6 232 rfl rfl
theorem gw_1518 : (Cond.methodLink RX2 19 yX2_putName) ∈ oa_GT := oa_g6 233 rfl rfl
theorem gw_1519 : (Cond.instanceMethod yX2_putName) ∈ oa_GT := oa_g6 234 rfl rfl
theorem gw_1520 : (Cond.selects RX2 yX2_putName yX2_putName) ∈ oa_GT := oa_g6 235 rfl rfl
theorem gw_1521 : (oa_cw mX2_putName) ∈ oa_GT := oa_g6 236 rfl rfl
theorem gw_1522 : (Cond.methodLink RX2 27 yX2_put) ∈ oa_GT := oa_g6 237 rfl rfl
theorem gw_1524 : (Cond.instanceMethod yX2_put) ∈ oa_GT := oa_g6 239 rfl rfl
theorem gw_1525 : (oa_cw mX2_put) ∈ oa_GT := oa_g7 0 rfl rfl
theorem gw_1527 : (Cond.methodLink RX11 356 yX2_putNumbered) ∈ oa_GT := oa_g7 2 rfl rfl
theorem gw_1528 : (Cond.instanceMethod yX2_putNumbered) ∈ oa_GT := oa_g7 3 rfl rfl
theorem gw_1529 : (Cond.selects RX2 yX2_putNumbered yX2_putNumbered) ∈ oa_GT := oa_g7 4 rfl rfl
theorem gw_1530 : (oa_cw mX2_putNumbered) ∈ oa_GT := oa_g7 5 rfl rfl
theorem gw_1531 : (Cond.methodLink RX2 40 yX2_putText) ∈ oa_GT := oa_g7 6 rfl rfl
theorem gw_1532 : (Cond.instanceMethod yX2_putText) ∈ oa_GT := oa_g7 7 rfl rfl
theorem gw_1533 : (Cond.selects RX2 yX2_putText yX2_putText) ∈ oa_GT := oa_g7 8 rfl rfl
theorem gw_1534 : (oa_cw mX2_putText) ∈ oa_GT := oa_g7 9 rfl rfl
theorem gw_1535 : (Cond.methodLink RX2 31 yJ0_length_8abf5) ∈ oa_GT := oa_g7 10 rfl rfl
theorem gw_1536 : (Cond.methodLink RX2 36 yJ0_charAt_5068e) ∈ oa_GT := oa_g7 11 rfl rfl
theorem gw_1537 : (Cond.constant RX2 44 1000000000) ∈ oa_GT := oa_g7 12 rfl rfl
theorem gw_1541 : (Cond.methodLink RX11 366 yX2_putText) ∈ oa_GT := oa_g7 16 rfl rfl
theorem gw_1552 : (oa_cw mX11_formatNeeds) ∈ oa_GT := oa_g7 27 rfl rfl
theorem gw_1555 : (Cond.methodLink RX11 382 yX1_partName) ∈ oa_GT := oa_g7 30 rfl rfl
theorem gw_1556 : (Cond.instanceMethod yX1_partName) ∈ oa_GT := oa_g7 31 rfl rfl
theorem gw_1557 : (Cond.selects RX1 yX1_partName yX1_partName) ∈ oa_GT := oa_g7 32 rfl rfl
theorem gw_1558 : (oa_cw mX1_partName) ∈ oa_GT := oa_g7 33 rfl rfl
theorem gw_1559 : (Cond.methodLink RX11 385 yX2_putName) ∈ oa_GT := oa_g7 34 rfl rfl
theorem gw_1563 : (oa_cw mX12_thrown) ∈ oa_GT := oa_g7 38 rfl rfl
theorem gw_1567 : (oa_cw mX12_append) ∈ oa_GT := oa_g7 42 rfl rfl
theorem gw_1571 : (oa_cw mX12_truncate) ∈ oa_GT := oa_g7 46 rfl rfl
theorem gw_1575 : (oa_cw mX12_errorOffset) ∈ oa_GT := oa_g7 50 rfl rfl
theorem gw_1579 : (oa_cw mX12_errorKind) ∈ oa_GT := oa_g7 54 rfl rfl
theorem gw_1586 : (Cond.methodLink RX12 111 yX12_usualRung) ∈ oa_GT := oa_g7 61 rfl rfl
theorem gw_1588 : (Cond.instanceMethod yX12_usualRung) ∈ oa_GT := oa_g7 63 rfl rfl
theorem gw_1589 : (oa_cw mX12_usualRung) ∈ oa_GT := oa_g7 64 rfl rfl
theorem gw_1590 : (Cond.methodLink RX12 114 yX12_takesOver) ∈ oa_GT := oa_g7 65 rfl rfl
theorem gw_1592 : (Cond.instanceMethod yX12_takesOver) ∈ oa_GT := oa_g7 67 rfl rfl
theorem gw_1593 : (oa_cw mX12_takesOver) ∈ oa_GT := oa_g7 68 rfl rfl
theorem gw_1594 : (Cond.fieldLink RX12 3 (TX12 0).1 (TX12 0).2.1 (TX12 0).2.2.1) ∈ oa_GT := oa_g7 69 rfl rfl
theorem gw_1595 : (Cond.fieldLink RX12 14 (TX12 1).1 (TX12 1).2.1 (TX12 1).2.2.1) ∈ oa_GT := oa_g7 70 rfl rfl
theorem gw_1596 : (Cond.fieldLink RX12 10 (TX12 2).1 (TX12 2).2.1 (TX12 2).2.2.1) ∈ oa_GT := oa_g7 71 rfl rfl
theorem gw_1597 : (Cond.fieldLink RX12 7 (TX12 3).1 (TX12 3).2.1 (TX12 3).2.2.1) ∈ oa_GT := oa_g7 72 rfl rfl
theorem gw_1598 : (Cond.fieldLink RX12 27 (TX12 4).1 (TX12 4).2.1 (TX12 4).2.2.1) ∈ oa_GT := oa_g7 73 rfl rfl
theorem gw_1599 : (Cond.fieldLink RX12 37 (TX12 5).1 (TX12 5).2.1 (TX12 5).2.2.1) ∈ oa_GT := oa_g7 74 rfl rfl
theorem gw_1600 : (Cond.fieldLink RX12 30 (TX12 6).1 (TX12 6).2.1 (TX12 6).2.2.1) ∈ oa_GT := oa_g7 75 rfl rfl
theorem gw_1601 : (Cond.fieldLink RX12 24 (TX12 7).1 (TX12 7).2.1 (TX12 7).2.2.1) ∈ oa_GT := oa_g7 76 rfl rfl
theorem gw_1602 : (Cond.fieldLink RX12 44 (TX12 8).1 (TX12 8).2.1 (TX12 8).2.2.1) ∈ oa_GT := oa_g7 77 rfl rfl
theorem gw_1603 : (Cond.fieldLink RX12 18 (TX12 9).1 (TX12 9).2.1 (TX12 9).2.2.1) ∈ oa_GT := oa_g7 78 rfl rfl
theorem gw_1604 : (Cond.fieldLink RX12 21 (TX12 10).1 (TX12 10).2.1 (TX12 10).2.2.1) ∈ oa_GT := oa_g7 79 rfl rfl
theorem gw_1605 : (Cond.fieldLink RX12 81 (TX12 11).1 (TX12 11).2.1 (TX12 11).2.2.1) ∈ oa_GT := oa_g7 80 rfl rfl
theorem gw_1606 : (Cond.fieldLink RX12 84 (TX12 12).1 (TX12 12).2.1 (TX12 12).2.2.1) ∈ oa_GT := oa_g7 81 rfl rfl
theorem gw_1607 : (Cond.fieldLink RX12 135 (TX12 13).1 (TX12 13).2.1 (TX12 13).2.2.1) ∈ oa_GT := oa_g7 82 rfl rfl
theorem gw_1608 : (Cond.fieldLink RX12 87 (TX12 14).1 (TX12 14).2.1 (TX12 14).2.2.1) ∈ oa_GT := oa_g7 83 rfl rfl
theorem gw_1609 : (Cond.fieldLink RX12 90 (TX12 15).1 (TX12 15).2.1 (TX12 15).2.2.1) ∈ oa_GT := oa_g7 84 rfl rfl
theorem gw_1610 : (Cond.fieldLink RX12 163 (TX12 16).1 (TX12 16).2.1 (TX12 16).2.2.1) ∈ oa_GT := oa_g7 85 rfl rfl
theorem gw_1611 : (Cond.fieldLink RX12 93 (TX12 17).1 (TX12 17).2.1 (TX12 17).2.2.1) ∈ oa_GT := oa_g7 86 rfl rfl
theorem gw_1612 : (Cond.fieldLink RX12 96 (TX12 18).1 (TX12 18).2.1 (TX12 18).2.2.1) ∈ oa_GT := oa_g7 87 rfl rfl
theorem gw_1613 : (Cond.fieldLink RX12 99 (TX12 19).1 (TX12 19).2.1 (TX12 19).2.2.1) ∈ oa_GT := oa_g7 88 rfl rfl
theorem gw_1614 : (Cond.fieldLink RX12 102 (TX12 20).1 (TX12 20).2.1 (TX12 20).2.2.1) ∈ oa_GT := oa_g7 89 rfl rfl
theorem gw_1615 : (Cond.fieldLink RX12 105 (TX12 21).1 (TX12 21).2.1 (TX12 21).2.2.1) ∈ oa_GT := oa_g7 90 rfl rfl
theorem gw_1616 : (Cond.fieldLink RX12 224 (TX12 22).1 (TX12 22).2.1 (TX12 22).2.2.1) ∈ oa_GT := oa_g7 91 rfl rfl
theorem gw_1617 : (Cond.fieldLink RX12 108 (TX12 23).1 (TX12 23).2.1 (TX12 23).2.2.1) ∈ oa_GT := oa_g7 92 rfl rfl
theorem gw_1618 : (Cond.fieldLink RX12 276 (TX12 24).1 (TX12 24).2.1 (TX12 24).2.2.1) ∈ oa_GT := oa_g7 93 rfl rfl
theorem gw_1673 : (oa_cw mX12_load) ∈ oa_GT := oa_g7 148 rfl rfl
theorem gw_1674 : (Cond.methodLink RX12 47 yX12_blanks) ∈ oa_GT := oa_g7 149 rfl rfl
theorem gw_1676 : (Cond.instanceMethod yX12_blanks) ∈ oa_GT := oa_g7 151 rfl rfl
theorem gw_1677 : (oa_cw mX12_blanks) ∈ oa_GT := oa_g7 152 rfl rfl
theorem gw_1678 : (Cond.methodLink RX12 33 yX12_isAt) ∈ oa_GT := oa_g7 153 rfl rfl
theorem gw_1680 : (Cond.instanceMethod yX12_isAt) ∈ oa_GT := oa_g7 155 rfl rfl
theorem gw_1681 : (oa_cw mX12_isAt) ∈ oa_GT := oa_g7 156 rfl rfl
theorem gw_1682 : (Cond.methodLink RX12 40 yX12_hasFailed) ∈ oa_GT := oa_g7 157 rfl rfl
theorem gw_1684 : (Cond.instanceMethod yX12_hasFailed) ∈ oa_GT := oa_g7 159 rfl rfl
theorem gw_1685 : (oa_cw mX12_hasFailed) ∈ oa_GT := oa_g7 160 rfl rfl
theorem gw_1687 : (Cond.methodLink RX12 64 yX12_isWord) ∈ oa_GT := oa_g7 162 rfl rfl
theorem gw_1689 : (Cond.instanceMethod yX12_isWord) ∈ oa_GT := oa_g7 164 rfl rfl
theorem gw_1690 : (oa_cw mX12_isWord) ∈ oa_GT := oa_g7 165 rfl rfl
theorem gw_1691 : (Cond.methodLink RX12 51 yX12_letters) ∈ oa_GT := oa_g7 166 rfl rfl
theorem gw_1693 : (Cond.instanceMethod yX12_letters) ∈ oa_GT := oa_g7 168 rfl rfl
theorem gw_1694 : (oa_cw mX12_letters) ∈ oa_GT := oa_g7 169 rfl rfl
theorem gw_1695 : (Cond.methodLink RX12 55 yJ0_length_8abf5) ∈ oa_GT := oa_g7 170 rfl rfl
theorem gw_1696 : (Cond.methodLink RX12 60 yJ0_charAt_5068e) ∈ oa_GT := oa_g7 171 rfl rfl
theorem gw_1697 : (Cond.methodLink RX12 145 yX12_part) ∈ oa_GT := oa_g7 172 rfl rfl
theorem gw_1699 : (Cond.instanceMethod yX12_part) ∈ oa_GT := oa_g7 174 rfl rfl
theorem gw_1700 : (oa_cw mX12_part) ∈ oa_GT := oa_g7 175 rfl rfl
theorem gw_1701 : (Cond.methodLink RX12 68 yX12_must) ∈ oa_GT := oa_g7 176 rfl rfl
theorem gw_1703 : (Cond.instanceMethod yX12_must) ∈ oa_GT := oa_g7 178 rfl rfl
theorem gw_1704 : (oa_cw mX12_must) ∈ oa_GT := oa_g7 179 rfl rfl
theorem gw_1705 : (Cond.methodLink RX12 120 yX12_newName) ∈ oa_GT := oa_g7 180 rfl rfl
theorem gw_1707 : (Cond.instanceMethod yX12_newName) ∈ oa_GT := oa_g7 182 rfl rfl
theorem gw_1708 : (oa_cw mX12_newName) ∈ oa_GT := oa_g7 183 rfl rfl
theorem gw_1709 : (Cond.methodLink RX12 117 yX12_named) ∈ oa_GT := oa_g7 184 rfl rfl
theorem gw_1711 : (Cond.instanceMethod yX12_named) ∈ oa_GT := oa_g7 186 rfl rfl
theorem gw_1712 : (oa_cw mX12_named) ∈ oa_GT := oa_g7 187 rfl rfl
theorem gw_1713 : (Cond.methodLink RX12 72 yX12_in) ∈ oa_GT := oa_g7 188 rfl rfl
theorem gw_1714 : (Cond.static yX12_in) ∈ oa_GT := oa_g7 189 rfl rfl
theorem gw_1715 : (oa_cw mX12_in) ∈ oa_GT := oa_g7 190 rfl rfl
theorem gw_1716 : (Cond.methodLink RX12 124 yX12_number) ∈ oa_GT := oa_g7 191 rfl rfl
theorem gw_1718 : (Cond.instanceMethod yX12_number) ∈ oa_GT := oa_g7 193 rfl rfl
theorem gw_1719 : (oa_cw mX12_number) ∈ oa_GT := oa_g7 194 rfl rfl
theorem gw_1721 : (Cond.methodLink RX12 149 yX12_product) ∈ oa_GT := oa_g7 196 rfl rfl
theorem gw_1723 : (Cond.instanceMethod yX12_product) ∈ oa_GT := oa_g7 198 rfl rfl
theorem gw_1724 : (oa_cw mX12_product) ∈ oa_GT := oa_g7 199 rfl rfl
theorem gw_1725 : (Cond.methodLink RX12 128 yX12_line) ∈ oa_GT := oa_g7 200 rfl rfl
theorem gw_1727 : (Cond.instanceMethod yX12_line) ∈ oa_GT := oa_g7 202 rfl rfl
theorem gw_1728 : (oa_cw mX12_line) ∈ oa_GT := oa_g7 203 rfl rfl
theorem gw_1729 : (Cond.methodLink RX12 132 yX12_blanks0) ∈ oa_GT := oa_g7 204 rfl rfl
theorem gw_1731 : (Cond.instanceMethod yX12_blanks0) ∈ oa_GT := oa_g7 206 rfl rfl
theorem gw_1732 : (oa_cw mX12_blanks0) ∈ oa_GT := oa_g7 207 rfl rfl
theorem gw_1734 : (Cond.methodLink RX12 153 yX12_rung) ∈ oa_GT := oa_g7 209 rfl rfl
theorem gw_1736 : (Cond.instanceMethod yX12_rung) ∈ oa_GT := oa_g7 211 rfl rfl
theorem gw_1737 : (oa_cw mX12_rung) ∈ oa_GT := oa_g7 212 rfl rfl
theorem gw_1739 : (Cond.methodLink RX12 157 yX12_order) ∈ oa_GT := oa_g7 214 rfl rfl
theorem gw_1741 : (Cond.instanceMethod yX12_order) ∈ oa_GT := oa_g7 216 rfl rfl
theorem gw_1742 : (oa_cw mX12_order) ∈ oa_GT := oa_g7 217 rfl rfl
theorem gw_1744 : (Cond.methodLink RX12 140 yX12_takes) ∈ oa_GT := oa_g7 219 rfl rfl
theorem gw_1746 : (Cond.instanceMethod yX12_takes) ∈ oa_GT := oa_g7 221 rfl rfl
theorem gw_1747 : (oa_cw mX12_takes) ∈ oa_GT := oa_g7 222 rfl rfl
theorem gw_1748 : (Cond.methodLink RX12 159 yX12_throwsIf) ∈ oa_GT := oa_g7 223 rfl rfl
theorem gw_1750 : (Cond.instanceMethod yX12_throwsIf) ∈ oa_GT := oa_g7 225 rfl rfl
theorem gw_1751 : (oa_cw mX12_throwsIf) ∈ oa_GT := oa_g7 226 rfl rfl
theorem gw_1755 : (oa_cw mX12_undo) ∈ oa_GT := oa_g7 230 rfl rfl
theorem gw_1759 : (oa_cw mX12_undoDepth) ∈ oa_GT := oa_g7 234 rfl rfl
theorem gw_1763 : (oa_cw mX12_count) ∈ oa_GT := oa_g7 238 rfl rfl
theorem gw_1767 : (oa_cw mX12_lineCount) ∈ oa_GT := oa_g8 2 rfl rfl
theorem gw_1768 : (Cond.methodLink RX12 169 yX12_noProduct) ∈ oa_GT := oa_g8 3 rfl rfl
theorem gw_1770 : (Cond.instanceMethod yX12_noProduct) ∈ oa_GT := oa_g8 5 rfl rfl
theorem gw_1771 : (oa_cw mX12_noProduct) ∈ oa_GT := oa_g8 6 rfl rfl
theorem gw_1775 : (oa_cw mX12_lineItem) ∈ oa_GT := oa_g8 10 rfl rfl
theorem gw_1779 : (oa_cw mX12_lineQuantity) ∈ oa_GT := oa_g8 14 rfl rfl
theorem gw_1783 : (oa_cw mX12_need) ∈ oa_GT := oa_g8 18 rfl rfl
theorem gw_1784 : (Cond.methodLink RX12 173 yX12_noPart) ∈ oa_GT := oa_g8 19 rfl rfl
theorem gw_1786 : (Cond.instanceMethod yX12_noPart) ∈ oa_GT := oa_g8 21 rfl rfl
theorem gw_1787 : (oa_cw mX12_noPart) ∈ oa_GT := oa_g8 22 rfl rfl
theorem gw_1788 : (Cond.methodLink RX12 176 yX12_needs) ∈ oa_GT := oa_g8 23 rfl rfl
theorem gw_1790 : (Cond.instanceMethod yX12_needs) ∈ oa_GT := oa_g8 25 rfl rfl
theorem gw_1791 : (oa_cw mX12_needs) ∈ oa_GT := oa_g8 26 rfl rfl
theorem gw_1795 : (oa_cw mX12_level) ∈ oa_GT := oa_g8 30 rfl rfl
theorem gw_1796 : (Cond.methodLink RX12 179 yX12_levelOf) ∈ oa_GT := oa_g8 31 rfl rfl
theorem gw_1798 : (Cond.instanceMethod yX12_levelOf) ∈ oa_GT := oa_g8 33 rfl rfl
theorem gw_1799 : (oa_cw mX12_levelOf) ∈ oa_GT := oa_g8 34 rfl rfl
theorem gw_1800 : (Cond.methodLink RX12 183 Lib.Math.max.name) ∈ oa_GT := oa_g8 35 rfl rfl
theorem gw_1804 : (oa_cw mX12_pieces) ∈ oa_GT := oa_g8 39 rfl rfl
theorem gw_1808 : (oa_cw mX12_usedBy) ∈ oa_GT := oa_g8 43 rfl rfl
theorem gw_1812 : (oa_cw mX12_commonParts) ∈ oa_GT := oa_g8 47 rfl rfl
theorem gw_1816 : (oa_cw mX12_day) ∈ oa_GT := oa_g8 51 rfl rfl
theorem gw_1820 : (oa_cw mX12_stock) ∈ oa_GT := oa_g8 55 rfl rfl
theorem gw_1824 : (oa_cw mX12_reserved) ∈ oa_GT := oa_g8 59 rfl rfl
theorem gw_1828 : (oa_cw mX12_arriving) ∈ oa_GT := oa_g8 63 rfl rfl
theorem gw_1829 : (Cond.constant RX12 190 2147483647) ∈ oa_GT := oa_g8 64 rfl rfl
theorem gw_1830 : (Cond.methodLink RX12 191 yX12_comesBy) ∈ oa_GT := oa_g8 65 rfl rfl
theorem gw_1832 : (Cond.instanceMethod yX12_comesBy) ∈ oa_GT := oa_g8 67 rfl rfl
theorem gw_1833 : (oa_cw mX12_comesBy) ∈ oa_GT := oa_g8 68 rfl rfl
theorem gw_1837 : (oa_cw mX12_nextArrival) ∈ oa_GT := oa_g8 72 rfl rfl
theorem gw_1841 : (oa_cw mX12_buildable) ∈ oa_GT := oa_g8 76 rfl rfl
theorem gw_1842 : (Cond.methodLink RX12 200 yX12_builds) ∈ oa_GT := oa_g8 77 rfl rfl
theorem gw_1844 : (Cond.instanceMethod yX12_builds) ∈ oa_GT := oa_g8 79 rfl rfl
theorem gw_1845 : (oa_cw mX12_builds) ∈ oa_GT := oa_g8 80 rfl rfl
theorem gw_1846 : (Cond.methodLink RX12 197 yX12_leastOf) ∈ oa_GT := oa_g8 81 rfl rfl
theorem gw_1848 : (Cond.instanceMethod yX12_leastOf) ∈ oa_GT := oa_g8 83 rfl rfl
theorem gw_1849 : (oa_cw mX12_leastOf) ∈ oa_GT := oa_g8 84 rfl rfl
theorem gw_1850 : (Cond.methodLink RX12 194 yX12_free) ∈ oa_GT := oa_g8 85 rfl rfl
theorem gw_1852 : (Cond.instanceMethod yX12_free) ∈ oa_GT := oa_g8 87 rfl rfl
theorem gw_1853 : (oa_cw mX12_free) ∈ oa_GT := oa_g8 88 rfl rfl
theorem gw_1857 : (oa_cw mX12_bottleneck) ∈ oa_GT := oa_g8 92 rfl rfl
theorem gw_1861 : (oa_cw mX12_buildableTogether) ∈ oa_GT := oa_g8 96 rfl rfl
theorem gw_1862 : (Cond.methodLink RX12 203 Lib.Math.min.name) ∈ oa_GT := oa_g8 97 rfl rfl
theorem gw_1866 : (oa_cw mX12_stateOf) ∈ oa_GT := oa_g8 101 rfl rfl
theorem gw_1867 : (Cond.methodLink RX12 206 yX12_noOrder) ∈ oa_GT := oa_g8 102 rfl rfl
theorem gw_1869 : (Cond.instanceMethod yX12_noOrder) ∈ oa_GT := oa_g8 104 rfl rfl
theorem gw_1870 : (oa_cw mX12_noOrder) ∈ oa_GT := oa_g8 105 rfl rfl
theorem gw_1871 : (Cond.methodLink RX12 166 yX12_of) ∈ oa_GT := oa_g8 106 rfl rfl
theorem gw_1873 : (Cond.instanceMethod yX12_of) ∈ oa_GT := oa_g8 108 rfl rfl
theorem gw_1874 : (oa_cw mX12_of) ∈ oa_GT := oa_g8 109 rfl rfl
theorem gw_1875 : (Cond.methodLink RX12 209 yX12_open) ∈ oa_GT := oa_g8 110 rfl rfl
theorem gw_1877 : (Cond.instanceMethod yX12_open) ∈ oa_GT := oa_g8 112 rfl rfl
theorem gw_1878 : (oa_cw mX12_open) ∈ oa_GT := oa_g8 113 rfl rfl
theorem gw_1882 : (oa_cw mX12_openUnits) ∈ oa_GT := oa_g8 117 rfl rfl
theorem gw_1886 : (oa_cw mX12_reservedUnits) ∈ oa_GT := oa_g8 121 rfl rfl
theorem gw_1890 : (oa_cw mX12_shippedUnits) ∈ oa_GT := oa_g8 125 rfl rfl
theorem gw_1894 : (oa_cw mX12_orderField) ∈ oa_GT := oa_g8 129 rfl rfl
theorem gw_1898 : (oa_cw mX12_missing) ∈ oa_GT := oa_g8 133 rfl rfl
theorem gw_1902 : (oa_cw mX12_toBuy) ∈ oa_GT := oa_g8 137 rfl rfl
theorem gw_1903 : (Cond.methodLink RX12 212 yX12_buys) ∈ oa_GT := oa_g8 138 rfl rfl
theorem gw_1905 : (Cond.instanceMethod yX12_buys) ∈ oa_GT := oa_g8 140 rfl rfl
theorem gw_1906 : (oa_cw mX12_buys) ∈ oa_GT := oa_g8 141 rfl rfl
theorem gw_1910 : (oa_cw mX12_scarcestPart) ∈ oa_GT := oa_g8 145 rfl rfl
theorem gw_1914 : (oa_cw mX12_promise) ∈ oa_GT := oa_g8 149 rfl rfl
theorem gw_1915 : (Cond.methodLink RX12 218 yX12_promises) ∈ oa_GT := oa_g8 150 rfl rfl
theorem gw_1917 : (Cond.instanceMethod yX12_promises) ∈ oa_GT := oa_g8 152 rfl rfl
theorem gw_1918 : (oa_cw mX12_promises) ∈ oa_GT := oa_g8 153 rfl rfl
theorem gw_1919 : (Cond.methodLink RX12 215 yX12_dayOf) ∈ oa_GT := oa_g8 154 rfl rfl
theorem gw_1921 : (Cond.instanceMethod yX12_dayOf) ∈ oa_GT := oa_g8 156 rfl rfl
theorem gw_1922 : (oa_cw mX12_dayOf) ∈ oa_GT := oa_g8 157 rfl rfl
theorem gw_1926 : (oa_cw mX12_promiseOf) ∈ oa_GT := oa_g8 161 rfl rfl
theorem gw_1927 : (Cond.methodLink RX12 221 yX12_isOver) ∈ oa_GT := oa_g8 162 rfl rfl
theorem gw_1929 : (Cond.instanceMethod yX12_isOver) ∈ oa_GT := oa_g8 164 rfl rfl
theorem gw_1930 : (oa_cw mX12_isOver) ∈ oa_GT := oa_g8 165 rfl rfl
theorem gw_1934 : (oa_cw mX12_delayingPart) ∈ oa_GT := oa_g8 169 rfl rfl
theorem gw_1938 : (oa_cw mX12_lateOrders) ∈ oa_GT := oa_g8 173 rfl rfl
theorem gw_1942 : (oa_cw mX12_wouldGet) ∈ oa_GT := oa_g8 177 rfl rfl
theorem gw_1943 : (Cond.methodLink RX12 242 yX12_triesAll) ∈ oa_GT := oa_g8 178 rfl rfl
theorem gw_1945 : (Cond.instanceMethod yX12_triesAll) ∈ oa_GT := oa_g8 180 rfl rfl
theorem gw_1946 : (oa_cw mX12_triesAll) ∈ oa_GT := oa_g8 181 rfl rfl
theorem gw_1947 : (Cond.methodLink RX12 230 yX12_triesRung) ∈ oa_GT := oa_g8 182 rfl rfl
theorem gw_1949 : (Cond.instanceMethod yX12_triesRung) ∈ oa_GT := oa_g8 184 rfl rfl
theorem gw_1950 : (oa_cw mX12_triesRung) ∈ oa_GT := oa_g8 185 rfl rfl
theorem gw_1951 : (Cond.methodLink RX12 233 yX12_nextIn) ∈ oa_GT := oa_g8 186 rfl rfl
theorem gw_1953 : (Cond.instanceMethod yX12_nextIn) ∈ oa_GT := oa_g8 188 rfl rfl
theorem gw_1954 : (oa_cw mX12_nextIn) ∈ oa_GT := oa_g8 189 rfl rfl
theorem gw_1955 : (Cond.methodLink RX12 227 yX12_isAhead) ∈ oa_GT := oa_g8 190 rfl rfl
theorem gw_1957 : (Cond.instanceMethod yX12_isAhead) ∈ oa_GT := oa_g8 192 rfl rfl
theorem gw_1958 : (oa_cw mX12_isAhead) ∈ oa_GT := oa_g8 193 rfl rfl
theorem gw_1959 : (Cond.methodLink RX12 236 yX12_can) ∈ oa_GT := oa_g8 194 rfl rfl
theorem gw_1961 : (Cond.instanceMethod yX12_can) ∈ oa_GT := oa_g8 196 rfl rfl
theorem gw_1962 : (oa_cw mX12_can) ∈ oa_GT := oa_g8 197 rfl rfl
theorem gw_1963 : (Cond.methodLink RX12 239 yX12_takes0) ∈ oa_GT := oa_g8 198 rfl rfl
theorem gw_1965 : (Cond.instanceMethod yX12_takes0) ∈ oa_GT := oa_g8 200 rfl rfl
theorem gw_1966 : (oa_cw mX12_takes0) ∈ oa_GT := oa_g8 201 rfl rfl
theorem gw_1970 : (oa_cw mX12_rungOf) ∈ oa_GT := oa_g8 205 rfl rfl
theorem gw_1974 : (oa_cw mX12_rungUnits) ∈ oa_GT := oa_g8 209 rfl rfl
theorem gw_1978 : (oa_cw mX12_missingPieces) ∈ oa_GT := oa_g8 213 rfl rfl
theorem gw_1982 : (oa_cw mX12_buildableAfter) ∈ oa_GT := oa_g8 217 rfl rfl
theorem gw_1986 : (oa_cw mX12_coveredOrders) ∈ oa_GT := oa_g8 221 rfl rfl
theorem gw_1987 : (Cond.methodLink RX12 245 yX12_nextOpen) ∈ oa_GT := oa_g8 222 rfl rfl
theorem gw_1989 : (Cond.instanceMethod yX12_nextOpen) ∈ oa_GT := oa_g8 224 rfl rfl
theorem gw_1990 : (oa_cw mX12_nextOpen) ∈ oa_GT := oa_g8 225 rfl rfl
theorem gw_1991 : (Cond.methodLink RX12 248 yX12_isCovered) ∈ oa_GT := oa_g8 226 rfl rfl
theorem gw_1993 : (Cond.instanceMethod yX12_isCovered) ∈ oa_GT := oa_g8 228 rfl rfl
theorem gw_1994 : (oa_cw mX12_isCovered) ∈ oa_GT := oa_g8 229 rfl rfl
theorem gw_1998 : (oa_cw mX12_promiseOfAll) ∈ oa_GT := oa_g8 233 rfl rfl
theorem gw_2002 : (oa_cw mX12_addOrder) ∈ oa_GT := oa_g8 237 rfl rfl
theorem gw_2003 : (Cond.methodLink RX12 251 yX12_keeps) ∈ oa_GT := oa_g8 238 rfl rfl
theorem gw_2005 : (Cond.instanceMethod yX12_keeps) ∈ oa_GT := oa_g9 0 rfl rfl
theorem gw_2006 : (oa_cw mX12_keeps) ∈ oa_GT := oa_g9 1 rfl rfl
theorem gw_2010 : (oa_cw mX12_cancel) ∈ oa_GT := oa_g9 5 rfl rfl
theorem gw_2011 : (Cond.methodLink RX12 258 yX12_holds) ∈ oa_GT := oa_g9 6 rfl rfl
theorem gw_2013 : (Cond.instanceMethod yX12_holds) ∈ oa_GT := oa_g9 8 rfl rfl
theorem gw_2014 : (oa_cw mX12_holds) ∈ oa_GT := oa_g9 9 rfl rfl
theorem gw_2015 : (Cond.methodLink RX12 254 yX12_grows) ∈ oa_GT := oa_g9 10 rfl rfl
theorem gw_2017 : (Cond.instanceMethod yX12_grows) ∈ oa_GT := oa_g9 12 rfl rfl
theorem gw_2018 : (oa_cw mX12_grows) ∈ oa_GT := oa_g9 13 rfl rfl
theorem gw_2022 : (oa_cw mX12_reserve) ∈ oa_GT := oa_g9 17 rfl rfl
theorem gw_2023 : (Cond.methodLink RX12 261 yX12_isOff) ∈ oa_GT := oa_g9 18 rfl rfl
theorem gw_2025 : (Cond.instanceMethod yX12_isOff) ∈ oa_GT := oa_g9 20 rfl rfl
theorem gw_2026 : (oa_cw mX12_isOff) ∈ oa_GT := oa_g9 21 rfl rfl
theorem gw_2027 : (Cond.methodLink RX12 264 yX12_hasFor) ∈ oa_GT := oa_g9 22 rfl rfl
theorem gw_2029 : (Cond.instanceMethod yX12_hasFor) ∈ oa_GT := oa_g9 24 rfl rfl
theorem gw_2030 : (oa_cw mX12_hasFor) ∈ oa_GT := oa_g9 25 rfl rfl
theorem gw_2034 : (oa_cw mX12_release) ∈ oa_GT := oa_g9 29 rfl rfl
theorem gw_2038 : (oa_cw mX12_allocate) ∈ oa_GT := oa_g9 33 rfl rfl
theorem gw_2042 : (oa_cw mX12_ship) ∈ oa_GT := oa_g9 37 rfl rfl
theorem gw_2043 : (Cond.methodLink RX12 267 yX12_logs) ∈ oa_GT := oa_g9 38 rfl rfl
theorem gw_2045 : (Cond.instanceMethod yX12_logs) ∈ oa_GT := oa_g9 40 rfl rfl
theorem gw_2046 : (oa_cw mX12_logs) ∈ oa_GT := oa_g9 41 rfl rfl
theorem gw_2050 : (oa_cw mX12_buy) ∈ oa_GT := oa_g9 45 rfl rfl
theorem gw_2054 : (oa_cw mX12_adjust) ∈ oa_GT := oa_g9 49 rfl rfl
theorem gw_2055 : (Cond.methodLink RX12 270 yX12_loser) ∈ oa_GT := oa_g9 50 rfl rfl
theorem gw_2057 : (Cond.instanceMethod yX12_loser) ∈ oa_GT := oa_g9 52 rfl rfl
theorem gw_2058 : (oa_cw mX12_loser) ∈ oa_GT := oa_g9 53 rfl rfl
theorem gw_2062 : (oa_cw mX12_advance) ∈ oa_GT := oa_g9 57 rfl rfl
theorem gw_2063 : (Cond.methodLink RX12 273 yX12_comesNow) ∈ oa_GT := oa_g9 58 rfl rfl
theorem gw_2065 : (Cond.instanceMethod yX12_comesNow) ∈ oa_GT := oa_g9 60 rfl rfl
theorem gw_2066 : (oa_cw mX12_comesNow) ∈ oa_GT := oa_g9 61 rfl rfl
theorem gw_2070 : (oa_cw mX12_total) ∈ oa_GT := oa_g9 65 rfl rfl
theorem gw_2074 : (oa_cw mX12_shipment) ∈ oa_GT := oa_g9 69 rfl rfl
theorem gw_2078 : (oa_cw mX12_formatOrder) ∈ oa_GT := oa_g9 73 rfl rfl
theorem gw_2079 : (Cond.methodLink RX12 289 yX12_saysName) ∈ oa_GT := oa_g9 74 rfl rfl
theorem gw_2081 : (Cond.instanceMethod yX12_saysName) ∈ oa_GT := oa_g9 76 rfl rfl
theorem gw_2082 : (oa_cw mX12_saysName) ∈ oa_GT := oa_g9 77 rfl rfl
theorem gw_2083 : (Cond.methodLink RX12 282 yX12_says) ∈ oa_GT := oa_g9 78 rfl rfl
theorem gw_2085 : (Cond.instanceMethod yX12_says) ∈ oa_GT := oa_g9 80 rfl rfl
theorem gw_2086 : (oa_cw mX12_says) ∈ oa_GT := oa_g9 81 rfl rfl
theorem gw_2088 : (Cond.methodLink RX12 294 yX12_saysPart) ∈ oa_GT := oa_g9 83 rfl rfl
theorem gw_2090 : (Cond.instanceMethod yX12_saysPart) ∈ oa_GT := oa_g9 85 rfl rfl
theorem gw_2091 : (oa_cw mX12_saysPart) ∈ oa_GT := oa_g9 86 rfl rfl
theorem gw_2092 : (Cond.methodLink RX12 285 yX12_saysWord) ∈ oa_GT := oa_g9 87 rfl rfl
theorem gw_2094 : (Cond.instanceMethod yX12_saysWord) ∈ oa_GT := oa_g9 89 rfl rfl
theorem gw_2095 : (oa_cw mX12_saysWord) ∈ oa_GT := oa_g9 90 rfl rfl
theorem gw_2096 : (Cond.methodLink RX12 279 yX12_saysNumber) ∈ oa_GT := oa_g9 91 rfl rfl
theorem gw_2098 : (Cond.instanceMethod yX12_saysNumber) ∈ oa_GT := oa_g9 93 rfl rfl
theorem gw_2099 : (oa_cw mX12_saysNumber) ∈ oa_GT := oa_g9 94 rfl rfl
theorem gw_2110 : (oa_cw mX12_formatNeeds) ∈ oa_GT := oa_g9 105 rfl rfl
theorem gw_2115 : (oa_cw mX12_formattedByte) ∈ oa_GT := oa_g9 110 rfl rfl
theorem nw_676 : (Cond.methodLinkNest RX0 112 yX11_isInside "OrderAssembler") ∈ lw_tbl := List.mem_of_getElem? (i := 676) (by decide +kernel)
theorem nw_555 : (Cond.methodLinkNest RX1 92 yX11_isInside "OrderAssembler") ∈ lw_tbl := List.mem_of_getElem? (i := 555) (by decide +kernel)
theorem nw_734 : (Cond.methodLinkNest RX2 23 yX11_isInside "OrderAssembler") ∈ lw_tbl := List.mem_of_getElem? (i := 734) (by decide +kernel)
theorem nw_460 : (Cond.methodLinkNest RX4 19 yX11_isInside "OrderAssembler") ∈ lw_tbl := List.mem_of_getElem? (i := 460) (by decide +kernel)
theorem nw_503 : (Cond.methodLinkNest RX6 47 yX11_isInside "OrderAssembler") ∈ lw_tbl := List.mem_of_getElem? (i := 503) (by decide +kernel)
theorem nw_715 : (Cond.methodLinkNest RX8 42 yX11_isInside "OrderAssembler") ∈ lw_tbl := List.mem_of_getElem? (i := 715) (by decide +kernel)
theorem nw_520 : (Cond.methodLinkNest RX10 46 yX11_isInside "OrderAssembler") ∈ lw_tbl := List.mem_of_getElem? (i := 520) (by decide +kernel)
theorem cg_0 : ∀ q ∈ u_ws RX0 TX0 6, q ∈ oa_GT := by
  have h : GoodIn lw_tbl (u_ws RX0 TX0 6) := goodIn_of _ (by decide +kernel)
  exact fun q hq => List.mem_filter.mpr ⟨(h q hq).1, List.all_eq_true.mp (show (u_ws RX0 TX0 6).all goodWord = true by decide +kernel) q hq⟩
theorem cb_0 : oa_CB 0 RX0 TX0 6 tyX0 := ⟨rfl, cg_0, tyX0_ok, nmX0⟩
theorem cg_1 : ∀ q ∈ u_ws RX1 TX1 14, q ∈ oa_GT := by
  have h : GoodIn lw_tbl (u_ws RX1 TX1 14) := goodIn_of _ (by decide +kernel)
  exact fun q hq => List.mem_filter.mpr ⟨(h q hq).1, List.all_eq_true.mp (show (u_ws RX1 TX1 14).all goodWord = true by decide +kernel) q hq⟩
theorem cb_1 : oa_CB 1 RX1 TX1 14 tyX1 := ⟨rfl, cg_1, tyX1_ok, nmX1⟩
theorem cg_2 : ∀ q ∈ u_ws RX2 TX2 2, q ∈ oa_GT := by
  have h : GoodIn lw_tbl (u_ws RX2 TX2 2) := goodIn_of _ (by decide +kernel)
  exact fun q hq => List.mem_filter.mpr ⟨(h q hq).1, List.all_eq_true.mp (show (u_ws RX2 TX2 2).all goodWord = true by decide +kernel) q hq⟩
theorem cb_2 : oa_CB 2 RX2 TX2 2 tyX2 := ⟨rfl, cg_2, tyX2_ok, nmX2⟩
theorem cg_3 : ∀ q ∈ u_ws RX3 TX3 3, q ∈ oa_GT := by
  have h : GoodIn lw_tbl (u_ws RX3 TX3 3) := goodIn_of _ (by decide +kernel)
  exact fun q hq => List.mem_filter.mpr ⟨(h q hq).1, List.all_eq_true.mp (show (u_ws RX3 TX3 3).all goodWord = true by decide +kernel) q hq⟩
theorem cb_3 : oa_CB 3 RX3 TX3 3 tyX3 := ⟨rfl, cg_3, tyX3_ok, nmX3⟩
theorem cg_4 : ∀ q ∈ u_ws RX4 TX4 2, q ∈ oa_GT := by
  have h : GoodIn lw_tbl (u_ws RX4 TX4 2) := goodIn_of _ (by decide +kernel)
  exact fun q hq => List.mem_filter.mpr ⟨(h q hq).1, List.all_eq_true.mp (show (u_ws RX4 TX4 2).all goodWord = true by decide +kernel) q hq⟩
theorem cb_4 : oa_CB 4 RX4 TX4 2 tyX4 := ⟨rfl, cg_4, tyX4_ok, nmX4⟩
theorem cg_5 : ∀ q ∈ u_ws RX5 TX5 3, q ∈ oa_GT := by
  have h : GoodIn lw_tbl (u_ws RX5 TX5 3) := goodIn_of _ (by decide +kernel)
  exact fun q hq => List.mem_filter.mpr ⟨(h q hq).1, List.all_eq_true.mp (show (u_ws RX5 TX5 3).all goodWord = true by decide +kernel) q hq⟩
theorem cb_5 : oa_CB 5 RX5 TX5 3 tyX5 := ⟨rfl, cg_5, tyX5_ok, nmX5⟩
theorem cg_6 : ∀ q ∈ u_ws RX6 TX6 9, q ∈ oa_GT := by
  have h : GoodIn lw_tbl (u_ws RX6 TX6 9) := goodIn_of _ (by decide +kernel)
  exact fun q hq => List.mem_filter.mpr ⟨(h q hq).1, List.all_eq_true.mp (show (u_ws RX6 TX6 9).all goodWord = true by decide +kernel) q hq⟩
theorem cb_6 : oa_CB 6 RX6 TX6 9 tyX6 := ⟨rfl, cg_6, tyX6_ok, nmX6⟩
theorem cg_7 : ∀ q ∈ u_ws RX7 TX7 5, q ∈ oa_GT := by
  have h : GoodIn lw_tbl (u_ws RX7 TX7 5) := goodIn_of _ (by decide +kernel)
  exact fun q hq => List.mem_filter.mpr ⟨(h q hq).1, List.all_eq_true.mp (show (u_ws RX7 TX7 5).all goodWord = true by decide +kernel) q hq⟩
theorem cb_7 : oa_CB 7 RX7 TX7 5 tyX7 := ⟨rfl, cg_7, tyX7_ok, nmX7⟩
theorem cg_8 : ∀ q ∈ u_ws RX8 TX8 4, q ∈ oa_GT := by
  have h : GoodIn lw_tbl (u_ws RX8 TX8 4) := goodIn_of _ (by decide +kernel)
  exact fun q hq => List.mem_filter.mpr ⟨(h q hq).1, List.all_eq_true.mp (show (u_ws RX8 TX8 4).all goodWord = true by decide +kernel) q hq⟩
theorem cb_8 : oa_CB 8 RX8 TX8 4 tyX8 := ⟨rfl, cg_8, tyX8_ok, nmX8⟩
theorem cg_9 : ∀ q ∈ u_ws RX9 TX9 4, q ∈ oa_GT := by
  have h : GoodIn lw_tbl (u_ws RX9 TX9 4) := goodIn_of _ (by decide +kernel)
  exact fun q hq => List.mem_filter.mpr ⟨(h q hq).1, List.all_eq_true.mp (show (u_ws RX9 TX9 4).all goodWord = true by decide +kernel) q hq⟩
theorem cb_9 : oa_CB 9 RX9 TX9 4 tyX9 := ⟨rfl, cg_9, tyX9_ok, nmX9⟩
theorem cg_10 : ∀ q ∈ u_ws RX10 TX10 7, q ∈ oa_GT := by
  have h : GoodIn lw_tbl (u_ws RX10 TX10 7) := goodIn_of _ (by decide +kernel)
  exact fun q hq => List.mem_filter.mpr ⟨(h q hq).1, List.all_eq_true.mp (show (u_ws RX10 TX10 7).all goodWord = true by decide +kernel) q hq⟩
theorem cb_10 : oa_CB 10 RX10 TX10 7 tyX10 := ⟨rfl, cg_10, tyX10_ok, nmX10⟩
theorem cg_11 : ∀ q ∈ u_ws RX11 TX11 8, q ∈ oa_GT := by
  have h : GoodIn lw_tbl (u_ws RX11 TX11 8) := goodIn_of _ (by decide +kernel)
  exact fun q hq => List.mem_filter.mpr ⟨(h q hq).1, List.all_eq_true.mp (show (u_ws RX11 TX11 8).all goodWord = true by decide +kernel) q hq⟩
theorem cb_11 : oa_CB 11 RX11 TX11 8 tyX11 := ⟨rfl, cg_11, tyX11_ok, nmX11⟩
theorem cg_12 : ∀ q ∈ u_ws RX12 TX12 25, q ∈ oa_GT := by
  have h : GoodIn lw_tbl (u_ws RX12 TX12 25) := goodIn_of _ (by decide +kernel)
  exact fun q hq => List.mem_filter.mpr ⟨(h q hq).1, List.all_eq_true.mp (show (u_ws RX12 TX12 25).all goodWord = true by decide +kernel) q hq⟩
theorem cb_12 : oa_CB 12 RX12 TX12 25 tyX12 := ⟨rfl, cg_12, tyX12_ok, nmX12⟩
theorem mb_J0_charAt_5068e : oa_MB mJ0_charAt_5068e 1 := ⟨gw_809, gw_100, ⟨by decide +kernel, by decide +kernel⟩, by decide +kernel, by decide⟩
theorem mb_J0_checkIndex_df160 : oa_MB mJ0_checkIndex_df160 2 := ⟨gw_819, gw_100, ⟨by decide +kernel, by decide +kernel⟩, by decide +kernel, by decide⟩
theorem mb_J0_coder_7d493 : oa_MB mJ0_coder_7d493 0 := ⟨gw_803, gw_100, ⟨by decide +kernel, by decide +kernel⟩, by decide +kernel, by decide⟩
theorem mb_J0_isLatin1_aae02 : oa_MB mJ0_isLatin1_aae02 0 := ⟨gw_813, gw_100, ⟨by decide +kernel, by decide +kernel⟩, by decide +kernel, by decide⟩
theorem mb_J0_length_8abf5 : oa_MB mJ0_length_8abf5 0 := ⟨gw_799, gw_100, ⟨by decide +kernel, by decide +kernel⟩, by decide +kernel, by decide⟩
theorem mb_J1_charAt_3b067 : oa_MB mJ1_charAt_3b067 2 := ⟨gw_816, gw_101, ⟨by decide +kernel, by decide +kernel⟩, by decide +kernel, by decide⟩
theorem mb_J3_checkIndex_8e157 : oa_MB mJ3_checkIndex_8e157 3 := ⟨gw_824, gw_102, ⟨by decide +kernel, by decide +kernel⟩, by decide +kernel, by decide⟩
theorem mb_J7_fill_53178 : oa_MB mJ7_fill_53178 2 := ⟨gw_596, gw_99, ⟨by decide +kernel, by decide +kernel⟩, by decide +kernel, by decide⟩
theorem mb_J9_floorMod_7cf53 : oa_MB mJ9_floorMod_7cf53 2 := ⟨gw_626, gw_104, ⟨by decide +kernel, by decide +kernel⟩, by decide +kernel, by decide⟩
theorem mb_X0_begin : oa_MB mX0_begin 1 := ⟨gw_576, gw_96, ⟨by decide +kernel, by decide +kernel⟩, by decide +kernel, by decide⟩
theorem mb_X0_coveredSet : oa_MB mX0_coveredSet 2 := ⟨gw_572, gw_96, ⟨by decide +kernel, by decide +kernel⟩, by decide +kernel, by decide⟩
theorem mb_X0_firstRungOf : oa_MB mX0_firstRungOf 1 := ⟨gw_1337, gw_96, ⟨by decide +kernel, by decide +kernel⟩, by decide +kernel, by decide⟩
theorem mb_X0_grantOf : oa_MB mX0_grantOf 1 := ⟨gw_675, gw_96, ⟨by decide +kernel, by decide +kernel⟩, by decide +kernel, by decide⟩
theorem mb_X0_serve : oa_MB mX0_serve 4 := ⟨gw_671, gw_96, ⟨by decide +kernel, by decide +kernel⟩, by decide +kernel, by decide⟩
theorem mb_X0_setQuotas : oa_MB mX0_setQuotas 1 := ⟨gw_662, gw_96, ⟨by decide +kernel, by decide +kernel⟩, by decide +kernel, by decide⟩
theorem mb_X0_tryOut : oa_MB mX0_tryOut 2 := ⟨gw_654, gw_96, ⟨by decide +kernel, by decide +kernel⟩, by decide +kernel, by decide⟩
theorem mb_X0_unitsInRung : oa_MB mX0_unitsInRung 1 := ⟨gw_1353, gw_96, ⟨by decide +kernel, by decide +kernel⟩, by decide +kernel, by decide⟩
theorem mb_X10_addArrival : oa_MB mX10_addArrival 3 := ⟨gw_1466, gw_92, ⟨by decide +kernel, by decide +kernel⟩, by decide +kernel, by decide⟩
theorem mb_X10_addReserved : oa_MB mX10_addReserved 2 := ⟨gw_694, gw_92, ⟨by decide +kernel, by decide +kernel⟩, by decide +kernel, by decide⟩
theorem mb_X10_allArriving : oa_MB mX10_allArriving 1 := ⟨gw_528, gw_92, ⟨by decide +kernel, by decide +kernel⟩, by decide +kernel, by decide⟩
theorem mb_X10_arrivingUntil : oa_MB mX10_arrivingUntil 2 := ⟨gw_532, gw_92, ⟨by decide +kernel, by decide +kernel⟩, by decide +kernel, by decide⟩
theorem mb_X10_clear : oa_MB mX10_clear 0 := ⟨gw_758, gw_92, ⟨by decide +kernel, by decide +kernel⟩, by decide +kernel, by decide⟩
theorem mb_X10_copyFrom : oa_MB mX10_copyFrom 1 := ⟨gw_634, gw_92, ⟨by decide +kernel, by decide +kernel⟩, by decide +kernel, by decide⟩
theorem mb_X10_dayFor : oa_MB mX10_dayFor 3 := ⟨gw_559, gw_92, ⟨by decide +kernel, by decide +kernel⟩, by decide +kernel, by decide⟩
theorem mb_X10_earliestArrival : oa_MB mX10_earliestArrival 1 := ⟨gw_1171, gw_92, ⟨by decide +kernel, by decide +kernel⟩, by decide +kernel, by decide⟩
theorem mb_X10_fillFree : oa_MB mX10_fillFree 1 := ⟨gw_580, gw_92, ⟨by decide +kernel, by decide +kernel⟩, by decide +kernel, by decide⟩
theorem mb_X10_freeOf : oa_MB mX10_freeOf 1 := ⟨gw_515, gw_92, ⟨by decide +kernel, by decide +kernel⟩, by decide +kernel, by decide⟩
theorem mb_X10_passDay : oa_MB mX10_passDay 0 := ⟨gw_1501, gw_92, ⟨by decide +kernel, by decide +kernel⟩, by decide +kernel, by decide⟩
theorem mb_X10_reservedOf : oa_MB mX10_reservedOf 1 := ⟨gw_524, gw_92, ⟨by decide +kernel, by decide +kernel⟩, by decide +kernel, by decide⟩
theorem mb_X10_setStock : oa_MB mX10_setStock 2 := ⟨gw_888, gw_92, ⟨by decide +kernel, by decide +kernel⟩, by decide +kernel, by decide⟩
theorem mb_X10_stockOf : oa_MB mX10_stockOf 1 := ⟨gw_519, gw_92, ⟨by decide +kernel, by decide +kernel⟩, by decide +kernel, by decide⟩
theorem mb_X11_addOrder : oa_MB mX11_addOrder 5 := ⟨gw_1376, gw_86, ⟨by decide +kernel, by decide +kernel⟩, by decide +kernel, by decide⟩
theorem mb_X11_adjust : oa_MB mX11_adjust 2 := ⟨gw_1473, gw_86, ⟨by decide +kernel, by decide +kernel⟩, by decide +kernel, by decide⟩
theorem mb_X11_advance : oa_MB mX11_advance 1 := ⟨gw_1497, gw_86, ⟨by decide +kernel, by decide +kernel⟩, by decide +kernel, by decide⟩
theorem mb_X11_allocate : oa_MB mX11_allocate 0 := ⟨gw_619, gw_86, ⟨by decide +kernel, by decide +kernel⟩, by decide +kernel, by decide⟩
theorem mb_X11_append : oa_MB mX11_append 5 := ⟨gw_451, gw_86, ⟨by decide +kernel, by decide +kernel⟩, by decide +kernel, by decide⟩
theorem mb_X11_arriving : oa_MB mX11_arriving 1 := ⟨gw_1160, gw_86, ⟨by decide +kernel, by decide +kernel⟩, by decide +kernel, by decide⟩
theorem mb_X11_bottleneck : oa_MB mX11_bottleneck 1 := ⟨gw_1187, gw_86, ⟨by decide +kernel, by decide +kernel⟩, by decide +kernel, by decide⟩
theorem mb_X11_buildable : oa_MB mX11_buildable 1 := ⟨gw_1178, gw_86, ⟨by decide +kernel, by decide +kernel⟩, by decide +kernel, by decide⟩
theorem mb_X11_buildableAfter : oa_MB mX11_buildableAfter 3 := ⟨gw_1367, gw_86, ⟨by decide +kernel, by decide +kernel⟩, by decide +kernel, by decide⟩
theorem mb_X11_buildableTogether : oa_MB mX11_buildableTogether 2 := ⟨gw_1195, gw_86, ⟨by decide +kernel, by decide +kernel⟩, by decide +kernel, by decide⟩
theorem mb_X11_buy : oa_MB mX11_buy 2 := ⟨gw_1458, gw_86, ⟨by decide +kernel, by decide +kernel⟩, by decide +kernel, by decide⟩
theorem mb_X11_cancel : oa_MB mX11_cancel 1 := ⟨gw_1403, gw_86, ⟨by decide +kernel, by decide +kernel⟩, by decide +kernel, by decide⟩
theorem mb_X11_checkArgument : oa_MB mX11_checkArgument 1 := ⟨gw_1198, gw_86, ⟨by decide +kernel, by decide +kernel⟩, by decide +kernel, by decide⟩
theorem mb_X11_checkOrder : oa_MB mX11_checkOrder 1 := ⟨gw_1227, gw_86, ⟨by decide +kernel, by decide +kernel⟩, by decide +kernel, by decide⟩
theorem mb_X11_checkPart : oa_MB mX11_checkPart 1 := ⟨gw_1107, gw_86, ⟨by decide +kernel, by decide +kernel⟩, by decide +kernel, by decide⟩
theorem mb_X11_checkProduct : oa_MB mX11_checkProduct 1 := ⟨gw_1052, gw_86, ⟨by decide +kernel, by decide +kernel⟩, by decide +kernel, by decide⟩
theorem mb_X11_checkRung : oa_MB mX11_checkRung 1 := ⟨gw_1348, gw_86, ⟨by decide +kernel, by decide +kernel⟩, by decide +kernel, by decide⟩
theorem mb_X11_checkState : oa_MB mX11_checkState 1 := ⟨gw_1379, gw_86, ⟨by decide +kernel, by decide +kernel⟩, by decide +kernel, by decide⟩
theorem mb_X11_commonParts : oa_MB mX11_commonParts 2 := ⟨gw_1137, gw_86, ⟨by decide +kernel, by decide +kernel⟩, by decide +kernel, by decide⟩
theorem mb_X11_count : oa_MB mX11_count 1 := ⟨gw_482, gw_86, ⟨by decide +kernel, by decide +kernel⟩, by decide +kernel, by decide⟩
theorem mb_X11_coveredOrders : oa_MB mX11_coveredOrders 0 := ⟨gw_568, gw_86, ⟨by decide +kernel, by decide +kernel⟩, by decide +kernel, by decide⟩
theorem mb_X11_day : oa_MB mX11_day 0 := ⟨gw_486, gw_86, ⟨by decide +kernel, by decide +kernel⟩, by decide +kernel, by decide⟩
theorem mb_X11_dayOfPart : oa_MB mX11_dayOfPart 2 := ⟨gw_550, gw_86, ⟨by decide +kernel, by decide +kernel⟩, by decide +kernel, by decide⟩
theorem mb_X11_delayingPart : oa_MB mX11_delayingPart 1 := ⟨gw_1319, gw_86, ⟨by decide +kernel, by decide +kernel⟩, by decide +kernel, by decide⟩
theorem mb_X11_errorKind : oa_MB mX11_errorKind 0 := ⟨gw_478, gw_86, ⟨by decide +kernel, by decide +kernel⟩, by decide +kernel, by decide⟩
theorem mb_X11_errorOffset : oa_MB mX11_errorOffset 0 := ⟨gw_474, gw_86, ⟨by decide +kernel, by decide +kernel⟩, by decide +kernel, by decide⟩
theorem mb_X11_formatNeeds : oa_MB mX11_formatNeeds 1 := ⟨gw_1552, gw_86, ⟨by decide +kernel, by decide +kernel⟩, by decide +kernel, by decide⟩
theorem mb_X11_formatOrder : oa_MB mX11_formatOrder 1 := ⟨gw_1509, gw_86, ⟨by decide +kernel, by decide +kernel⟩, by decide +kernel, by decide⟩
theorem mb_X11_formattedByte : oa_MB mX11_formattedByte 1 := ⟨gw_729, gw_86, ⟨by decide +kernel, by decide +kernel⟩, by decide +kernel, by decide⟩
theorem mb_X11_isClosed : oa_MB mX11_isClosed 1 := ⟨gw_1312, gw_86, ⟨by decide +kernel, by decide +kernel⟩, by decide +kernel, by decide⟩
theorem mb_X11_isInside : oa_MB mX11_isInside 2 := ⟨gw_462, gw_86, ⟨by decide +kernel, by decide +kernel⟩, by decide +kernel, by decide⟩
theorem mb_X11_lateOrders : oa_MB mX11_lateOrders 0 := ⟨gw_539, gw_86, ⟨by decide +kernel, by decide +kernel⟩, by decide +kernel, by decide⟩
theorem mb_X11_level : oa_MB mX11_level 1 := ⟨gw_1115, gw_86, ⟨by decide +kernel, by decide +kernel⟩, by decide +kernel, by decide⟩
theorem mb_X11_lineCount : oa_MB mX11_lineCount 1 := ⟨gw_1048, gw_86, ⟨by decide +kernel, by decide +kernel⟩, by decide +kernel, by decide⟩
theorem mb_X11_lineItem : oa_MB mX11_lineItem 2 := ⟨gw_1080, gw_86, ⟨by decide +kernel, by decide +kernel⟩, by decide +kernel, by decide⟩
theorem mb_X11_lineQuantity : oa_MB mX11_lineQuantity 2 := ⟨gw_1092, gw_86, ⟨by decide +kernel, by decide +kernel⟩, by decide +kernel, by decide⟩
theorem mb_X11_load : oa_MB mX11_load 0 := ⟨gw_742, gw_86, ⟨by decide +kernel, by decide +kernel⟩, by decide +kernel, by decide⟩
theorem mb_X11_missing : oa_MB mX11_missing 2 := ⟨gw_1283, gw_86, ⟨by decide +kernel, by decide +kernel⟩, by decide +kernel, by decide⟩
theorem mb_X11_missingPieces : oa_MB mX11_missingPieces 1 := ⟨gw_1360, gw_86, ⟨by decide +kernel, by decide +kernel⟩, by decide +kernel, by decide⟩
theorem mb_X11_need : oa_MB mX11_need 2 := ⟨gw_1103, gw_86, ⟨by decide +kernel, by decide +kernel⟩, by decide +kernel, by decide⟩
theorem mb_X11_nextArrival : oa_MB mX11_nextArrival 1 := ⟨gw_1167, gw_86, ⟨by decide +kernel, by decide +kernel⟩, by decide +kernel, by decide⟩
theorem mb_X11_openUnits : oa_MB mX11_openUnits 1 := ⟨gw_1244, gw_86, ⟨by decide +kernel, by decide +kernel⟩, by decide +kernel, by decide⟩
theorem mb_X11_orderField : oa_MB mX11_orderField 2 := ⟨gw_1270, gw_86, ⟨by decide +kernel, by decide +kernel⟩, by decide +kernel, by decide⟩
theorem mb_X11_pieces : oa_MB mX11_pieces 1 := ⟨gw_1123, gw_86, ⟨by decide +kernel, by decide +kernel⟩, by decide +kernel, by decide⟩
theorem mb_X11_promise : oa_MB mX11_promise 2 := ⟨gw_1301, gw_86, ⟨by decide +kernel, by decide +kernel⟩, by decide +kernel, by decide⟩
theorem mb_X11_promiseDate : oa_MB mX11_promiseDate 2 := ⟨gw_545, gw_86, ⟨by decide +kernel, by decide +kernel⟩, by decide +kernel, by decide⟩
theorem mb_X11_promiseOf : oa_MB mX11_promiseOf 1 := ⟨gw_1308, gw_86, ⟨by decide +kernel, by decide +kernel⟩, by decide +kernel, by decide⟩
theorem mb_X11_promiseOfAll : oa_MB mX11_promiseOfAll 0 := ⟨gw_615, gw_86, ⟨by decide +kernel, by decide +kernel⟩, by decide +kernel, by decide⟩
theorem mb_X11_release : oa_MB mX11_release 2 := ⟨gw_1427, gw_86, ⟨by decide +kernel, by decide +kernel⟩, by decide +kernel, by decide⟩
theorem mb_X11_reserve : oa_MB mX11_reserve 2 := ⟨gw_1414, gw_86, ⟨by decide +kernel, by decide +kernel⟩, by decide +kernel, by decide⟩
theorem mb_X11_reserved : oa_MB mX11_reserved 1 := ⟨gw_1152, gw_86, ⟨by decide +kernel, by decide +kernel⟩, by decide +kernel, by decide⟩
theorem mb_X11_reservedUnits : oa_MB mX11_reservedUnits 1 := ⟨gw_1251, gw_86, ⟨by decide +kernel, by decide +kernel⟩, by decide +kernel, by decide⟩
theorem mb_X11_rungOf : oa_MB mX11_rungOf 1 := ⟨gw_1333, gw_86, ⟨by decide +kernel, by decide +kernel⟩, by decide +kernel, by decide⟩
theorem mb_X11_rungUnits : oa_MB mX11_rungUnits 1 := ⟨gw_1344, gw_86, ⟨by decide +kernel, by decide +kernel⟩, by decide +kernel, by decide⟩
theorem mb_X11_scarcestPart : oa_MB mX11_scarcestPart 0 := ⟨gw_490, gw_86, ⟨by decide +kernel, by decide +kernel⟩, by decide +kernel, by decide⟩
theorem mb_X11_ship : oa_MB mX11_ship 1 := ⟨gw_1434, gw_86, ⟨by decide +kernel, by decide +kernel⟩, by decide +kernel, by decide⟩
theorem mb_X11_shipment : oa_MB mX11_shipment 2 := ⟨gw_719, gw_86, ⟨by decide +kernel, by decide +kernel⟩, by decide +kernel, by decide⟩
theorem mb_X11_shippedUnits : oa_MB mX11_shippedUnits 1 := ⟨gw_1259, gw_86, ⟨by decide +kernel, by decide +kernel⟩, by decide +kernel, by decide⟩
theorem mb_X11_shortageOf : oa_MB mX11_shortageOf 2 := ⟨gw_1287, gw_86, ⟨by decide +kernel, by decide +kernel⟩, by decide +kernel, by decide⟩
theorem mb_X11_shortageOfAll : oa_MB mX11_shortageOfAll 1 := ⟨gw_494, gw_86, ⟨by decide +kernel, by decide +kernel⟩, by decide +kernel, by decide⟩
theorem mb_X11_stateOf : oa_MB mX11_stateOf 1 := ⟨gw_1223, gw_86, ⟨by decide +kernel, by decide +kernel⟩, by decide +kernel, by decide⟩
theorem mb_X11_stock : oa_MB mX11_stock 1 := ⟨gw_1144, gw_86, ⟨by decide +kernel, by decide +kernel⟩, by decide +kernel, by decide⟩
theorem mb_X11_toBuy : oa_MB mX11_toBuy 1 := ⟨gw_1294, gw_86, ⟨by decide +kernel, by decide +kernel⟩, by decide +kernel, by decide⟩
theorem mb_X11_total : oa_MB mX11_total 1 := ⟨gw_710, gw_86, ⟨by decide +kernel, by decide +kernel⟩, by decide +kernel, by decide⟩
theorem mb_X11_truncate : oa_MB mX11_truncate 1 := ⟨gw_466, gw_86, ⟨by decide +kernel, by decide +kernel⟩, by decide +kernel, by decide⟩
theorem mb_X11_undo : oa_MB mX11_undo 0 := ⟨gw_698, gw_86, ⟨by decide +kernel, by decide +kernel⟩, by decide +kernel, by decide⟩
theorem mb_X11_undoDepth : oa_MB mX11_undoDepth 0 := ⟨gw_706, gw_86, ⟨by decide +kernel, by decide +kernel⟩, by decide +kernel, by decide⟩
theorem mb_X11_usedBy : oa_MB mX11_usedBy 1 := ⟨gw_1130, gw_86, ⟨by decide +kernel, by decide +kernel⟩, by decide +kernel, by decide⟩
theorem mb_X11_wouldGet : oa_MB mX11_wouldGet 1 := ⟨gw_1326, gw_86, ⟨by decide +kernel, by decide +kernel⟩, by decide +kernel, by decide⟩
theorem mb_X12_addOrder : oa_MB mX12_addOrder 5 := ⟨gw_2002, gw_98, ⟨by decide +kernel, by decide +kernel⟩, by decide +kernel, by decide⟩
theorem mb_X12_adjust : oa_MB mX12_adjust 2 := ⟨gw_2054, gw_98, ⟨by decide +kernel, by decide +kernel⟩, by decide +kernel, by decide⟩
theorem mb_X12_advance : oa_MB mX12_advance 1 := ⟨gw_2062, gw_98, ⟨by decide +kernel, by decide +kernel⟩, by decide +kernel, by decide⟩
theorem mb_X12_allocate : oa_MB mX12_allocate 0 := ⟨gw_2038, gw_98, ⟨by decide +kernel, by decide +kernel⟩, by decide +kernel, by decide⟩
theorem mb_X12_append : oa_MB mX12_append 5 := ⟨gw_1567, gw_98, ⟨by decide +kernel, by decide +kernel⟩, by decide +kernel, by decide⟩
theorem mb_X12_arriving : oa_MB mX12_arriving 1 := ⟨gw_1828, gw_98, ⟨by decide +kernel, by decide +kernel⟩, by decide +kernel, by decide⟩
theorem mb_X12_blanks : oa_MB mX12_blanks 0 := ⟨gw_1677, gw_98, ⟨by decide +kernel, by decide +kernel⟩, by decide +kernel, by decide⟩
theorem mb_X12_blanks0 : oa_MB mX12_blanks0 0 := ⟨gw_1732, gw_98, ⟨by decide +kernel, by decide +kernel⟩, by decide +kernel, by decide⟩
theorem mb_X12_bottleneck : oa_MB mX12_bottleneck 1 := ⟨gw_1857, gw_98, ⟨by decide +kernel, by decide +kernel⟩, by decide +kernel, by decide⟩
theorem mb_X12_buildable : oa_MB mX12_buildable 1 := ⟨gw_1841, gw_98, ⟨by decide +kernel, by decide +kernel⟩, by decide +kernel, by decide⟩
theorem mb_X12_buildableAfter : oa_MB mX12_buildableAfter 3 := ⟨gw_1982, gw_98, ⟨by decide +kernel, by decide +kernel⟩, by decide +kernel, by decide⟩
theorem mb_X12_buildableTogether : oa_MB mX12_buildableTogether 2 := ⟨gw_1861, gw_98, ⟨by decide +kernel, by decide +kernel⟩, by decide +kernel, by decide⟩
theorem mb_X12_builds : oa_MB mX12_builds 1 := ⟨gw_1845, gw_98, ⟨by decide +kernel, by decide +kernel⟩, by decide +kernel, by decide⟩
theorem mb_X12_buy : oa_MB mX12_buy 2 := ⟨gw_2050, gw_98, ⟨by decide +kernel, by decide +kernel⟩, by decide +kernel, by decide⟩
theorem mb_X12_buys : oa_MB mX12_buys 1 := ⟨gw_1906, gw_98, ⟨by decide +kernel, by decide +kernel⟩, by decide +kernel, by decide⟩
theorem mb_X12_can : oa_MB mX12_can 1 := ⟨gw_1962, gw_98, ⟨by decide +kernel, by decide +kernel⟩, by decide +kernel, by decide⟩
theorem mb_X12_cancel : oa_MB mX12_cancel 1 := ⟨gw_2010, gw_98, ⟨by decide +kernel, by decide +kernel⟩, by decide +kernel, by decide⟩
theorem mb_X12_comesBy : oa_MB mX12_comesBy 2 := ⟨gw_1833, gw_98, ⟨by decide +kernel, by decide +kernel⟩, by decide +kernel, by decide⟩
theorem mb_X12_comesNow : oa_MB mX12_comesNow 0 := ⟨gw_2066, gw_98, ⟨by decide +kernel, by decide +kernel⟩, by decide +kernel, by decide⟩
theorem mb_X12_commonParts : oa_MB mX12_commonParts 2 := ⟨gw_1812, gw_98, ⟨by decide +kernel, by decide +kernel⟩, by decide +kernel, by decide⟩
theorem mb_X12_count : oa_MB mX12_count 1 := ⟨gw_1763, gw_98, ⟨by decide +kernel, by decide +kernel⟩, by decide +kernel, by decide⟩
theorem mb_X12_coveredOrders : oa_MB mX12_coveredOrders 0 := ⟨gw_1986, gw_98, ⟨by decide +kernel, by decide +kernel⟩, by decide +kernel, by decide⟩
theorem mb_X12_day : oa_MB mX12_day 0 := ⟨gw_1816, gw_98, ⟨by decide +kernel, by decide +kernel⟩, by decide +kernel, by decide⟩
theorem mb_X12_dayOf : oa_MB mX12_dayOf 2 := ⟨gw_1922, gw_98, ⟨by decide +kernel, by decide +kernel⟩, by decide +kernel, by decide⟩
theorem mb_X12_delayingPart : oa_MB mX12_delayingPart 1 := ⟨gw_1934, gw_98, ⟨by decide +kernel, by decide +kernel⟩, by decide +kernel, by decide⟩
theorem mb_X12_errorKind : oa_MB mX12_errorKind 0 := ⟨gw_1579, gw_98, ⟨by decide +kernel, by decide +kernel⟩, by decide +kernel, by decide⟩
theorem mb_X12_errorOffset : oa_MB mX12_errorOffset 0 := ⟨gw_1575, gw_98, ⟨by decide +kernel, by decide +kernel⟩, by decide +kernel, by decide⟩
theorem mb_X12_formatNeeds : oa_MB mX12_formatNeeds 1 := ⟨gw_2110, gw_98, ⟨by decide +kernel, by decide +kernel⟩, by decide +kernel, by decide⟩
theorem mb_X12_formatOrder : oa_MB mX12_formatOrder 1 := ⟨gw_2078, gw_98, ⟨by decide +kernel, by decide +kernel⟩, by decide +kernel, by decide⟩
theorem mb_X12_formattedByte : oa_MB mX12_formattedByte 1 := ⟨gw_2115, gw_98, ⟨by decide +kernel, by decide +kernel⟩, by decide +kernel, by decide⟩
theorem mb_X12_free : oa_MB mX12_free 1 := ⟨gw_1853, gw_98, ⟨by decide +kernel, by decide +kernel⟩, by decide +kernel, by decide⟩
theorem mb_X12_grows : oa_MB mX12_grows 3 := ⟨gw_2018, gw_98, ⟨by decide +kernel, by decide +kernel⟩, by decide +kernel, by decide⟩
theorem mb_X12_hasFailed : oa_MB mX12_hasFailed 0 := ⟨gw_1685, gw_98, ⟨by decide +kernel, by decide +kernel⟩, by decide +kernel, by decide⟩
theorem mb_X12_hasFor : oa_MB mX12_hasFor 2 := ⟨gw_2030, gw_98, ⟨by decide +kernel, by decide +kernel⟩, by decide +kernel, by decide⟩
theorem mb_X12_holds : oa_MB mX12_holds 2 := ⟨gw_2014, gw_98, ⟨by decide +kernel, by decide +kernel⟩, by decide +kernel, by decide⟩
theorem mb_X12_in : oa_MB mX12_in 3 := ⟨gw_1715, gw_98, ⟨by decide +kernel, by decide +kernel⟩, by decide +kernel, by decide⟩
theorem mb_X12_isAhead : oa_MB mX12_isAhead 2 := ⟨gw_1958, gw_98, ⟨by decide +kernel, by decide +kernel⟩, by decide +kernel, by decide⟩
theorem mb_X12_isAt : oa_MB mX12_isAt 2 := ⟨gw_1681, gw_98, ⟨by decide +kernel, by decide +kernel⟩, by decide +kernel, by decide⟩
theorem mb_X12_isCovered : oa_MB mX12_isCovered 1 := ⟨gw_1994, gw_98, ⟨by decide +kernel, by decide +kernel⟩, by decide +kernel, by decide⟩
theorem mb_X12_isOff : oa_MB mX12_isOff 2 := ⟨gw_2026, gw_98, ⟨by decide +kernel, by decide +kernel⟩, by decide +kernel, by decide⟩
theorem mb_X12_isOver : oa_MB mX12_isOver 1 := ⟨gw_1930, gw_98, ⟨by decide +kernel, by decide +kernel⟩, by decide +kernel, by decide⟩
theorem mb_X12_isWord : oa_MB mX12_isWord 1 := ⟨gw_1690, gw_98, ⟨by decide +kernel, by decide +kernel⟩, by decide +kernel, by decide⟩
theorem mb_X12_keeps : oa_MB mX12_keeps 0 := ⟨gw_2006, gw_98, ⟨by decide +kernel, by decide +kernel⟩, by decide +kernel, by decide⟩
theorem mb_X12_lateOrders : oa_MB mX12_lateOrders 0 := ⟨gw_1938, gw_98, ⟨by decide +kernel, by decide +kernel⟩, by decide +kernel, by decide⟩
theorem mb_X12_leastOf : oa_MB mX12_leastOf 1 := ⟨gw_1849, gw_98, ⟨by decide +kernel, by decide +kernel⟩, by decide +kernel, by decide⟩
theorem mb_X12_letters : oa_MB mX12_letters 0 := ⟨gw_1694, gw_98, ⟨by decide +kernel, by decide +kernel⟩, by decide +kernel, by decide⟩
theorem mb_X12_level : oa_MB mX12_level 1 := ⟨gw_1795, gw_98, ⟨by decide +kernel, by decide +kernel⟩, by decide +kernel, by decide⟩
theorem mb_X12_levelOf : oa_MB mX12_levelOf 1 := ⟨gw_1799, gw_98, ⟨by decide +kernel, by decide +kernel⟩, by decide +kernel, by decide⟩
theorem mb_X12_line : oa_MB mX12_line 2 := ⟨gw_1728, gw_98, ⟨by decide +kernel, by decide +kernel⟩, by decide +kernel, by decide⟩
theorem mb_X12_lineCount : oa_MB mX12_lineCount 1 := ⟨gw_1767, gw_98, ⟨by decide +kernel, by decide +kernel⟩, by decide +kernel, by decide⟩
theorem mb_X12_lineItem : oa_MB mX12_lineItem 2 := ⟨gw_1775, gw_98, ⟨by decide +kernel, by decide +kernel⟩, by decide +kernel, by decide⟩
theorem mb_X12_lineQuantity : oa_MB mX12_lineQuantity 2 := ⟨gw_1779, gw_98, ⟨by decide +kernel, by decide +kernel⟩, by decide +kernel, by decide⟩
theorem mb_X12_load : oa_MB mX12_load 0 := ⟨gw_1673, gw_98, ⟨by decide +kernel, by decide +kernel⟩, by decide +kernel, by decide⟩
theorem mb_X12_logs : oa_MB mX12_logs 2 := ⟨gw_2046, gw_98, ⟨by decide +kernel, by decide +kernel⟩, by decide +kernel, by decide⟩
theorem mb_X12_loser : oa_MB mX12_loser 1 := ⟨gw_2058, gw_98, ⟨by decide +kernel, by decide +kernel⟩, by decide +kernel, by decide⟩
theorem mb_X12_missing : oa_MB mX12_missing 2 := ⟨gw_1898, gw_98, ⟨by decide +kernel, by decide +kernel⟩, by decide +kernel, by decide⟩
theorem mb_X12_missingPieces : oa_MB mX12_missingPieces 1 := ⟨gw_1978, gw_98, ⟨by decide +kernel, by decide +kernel⟩, by decide +kernel, by decide⟩
theorem mb_X12_must : oa_MB mX12_must 2 := ⟨gw_1704, gw_98, ⟨by decide +kernel, by decide +kernel⟩, by decide +kernel, by decide⟩
theorem mb_X12_named : oa_MB mX12_named 0 := ⟨gw_1712, gw_98, ⟨by decide +kernel, by decide +kernel⟩, by decide +kernel, by decide⟩
theorem mb_X12_need : oa_MB mX12_need 2 := ⟨gw_1783, gw_98, ⟨by decide +kernel, by decide +kernel⟩, by decide +kernel, by decide⟩
theorem mb_X12_needs : oa_MB mX12_needs 2 := ⟨gw_1791, gw_98, ⟨by decide +kernel, by decide +kernel⟩, by decide +kernel, by decide⟩
theorem mb_X12_newName : oa_MB mX12_newName 1 := ⟨gw_1708, gw_98, ⟨by decide +kernel, by decide +kernel⟩, by decide +kernel, by decide⟩
theorem mb_X12_nextArrival : oa_MB mX12_nextArrival 1 := ⟨gw_1837, gw_98, ⟨by decide +kernel, by decide +kernel⟩, by decide +kernel, by decide⟩
theorem mb_X12_nextIn : oa_MB mX12_nextIn 1 := ⟨gw_1954, gw_98, ⟨by decide +kernel, by decide +kernel⟩, by decide +kernel, by decide⟩
theorem mb_X12_nextOpen : oa_MB mX12_nextOpen 1 := ⟨gw_1990, gw_98, ⟨by decide +kernel, by decide +kernel⟩, by decide +kernel, by decide⟩
theorem mb_X12_noOrder : oa_MB mX12_noOrder 1 := ⟨gw_1870, gw_98, ⟨by decide +kernel, by decide +kernel⟩, by decide +kernel, by decide⟩
theorem mb_X12_noPart : oa_MB mX12_noPart 1 := ⟨gw_1787, gw_98, ⟨by decide +kernel, by decide +kernel⟩, by decide +kernel, by decide⟩
theorem mb_X12_noProduct : oa_MB mX12_noProduct 1 := ⟨gw_1771, gw_98, ⟨by decide +kernel, by decide +kernel⟩, by decide +kernel, by decide⟩
theorem mb_X12_number : oa_MB mX12_number 2 := ⟨gw_1719, gw_98, ⟨by decide +kernel, by decide +kernel⟩, by decide +kernel, by decide⟩
theorem mb_X12_of : oa_MB mX12_of 2 := ⟨gw_1874, gw_98, ⟨by decide +kernel, by decide +kernel⟩, by decide +kernel, by decide⟩
theorem mb_X12_open : oa_MB mX12_open 1 := ⟨gw_1878, gw_98, ⟨by decide +kernel, by decide +kernel⟩, by decide +kernel, by decide⟩
theorem mb_X12_openUnits : oa_MB mX12_openUnits 1 := ⟨gw_1882, gw_98, ⟨by decide +kernel, by decide +kernel⟩, by decide +kernel, by decide⟩
theorem mb_X12_order : oa_MB mX12_order 0 := ⟨gw_1742, gw_98, ⟨by decide +kernel, by decide +kernel⟩, by decide +kernel, by decide⟩
theorem mb_X12_orderField : oa_MB mX12_orderField 2 := ⟨gw_1894, gw_98, ⟨by decide +kernel, by decide +kernel⟩, by decide +kernel, by decide⟩
theorem mb_X12_part : oa_MB mX12_part 0 := ⟨gw_1700, gw_98, ⟨by decide +kernel, by decide +kernel⟩, by decide +kernel, by decide⟩
theorem mb_X12_pieces : oa_MB mX12_pieces 1 := ⟨gw_1804, gw_98, ⟨by decide +kernel, by decide +kernel⟩, by decide +kernel, by decide⟩
theorem mb_X12_product : oa_MB mX12_product 0 := ⟨gw_1724, gw_98, ⟨by decide +kernel, by decide +kernel⟩, by decide +kernel, by decide⟩
theorem mb_X12_promise : oa_MB mX12_promise 2 := ⟨gw_1914, gw_98, ⟨by decide +kernel, by decide +kernel⟩, by decide +kernel, by decide⟩
theorem mb_X12_promiseOf : oa_MB mX12_promiseOf 1 := ⟨gw_1926, gw_98, ⟨by decide +kernel, by decide +kernel⟩, by decide +kernel, by decide⟩
theorem mb_X12_promiseOfAll : oa_MB mX12_promiseOfAll 0 := ⟨gw_1998, gw_98, ⟨by decide +kernel, by decide +kernel⟩, by decide +kernel, by decide⟩
theorem mb_X12_promises : oa_MB mX12_promises 2 := ⟨gw_1918, gw_98, ⟨by decide +kernel, by decide +kernel⟩, by decide +kernel, by decide⟩
theorem mb_X12_release : oa_MB mX12_release 2 := ⟨gw_2034, gw_98, ⟨by decide +kernel, by decide +kernel⟩, by decide +kernel, by decide⟩
theorem mb_X12_reserve : oa_MB mX12_reserve 2 := ⟨gw_2022, gw_98, ⟨by decide +kernel, by decide +kernel⟩, by decide +kernel, by decide⟩
theorem mb_X12_reserved : oa_MB mX12_reserved 1 := ⟨gw_1824, gw_98, ⟨by decide +kernel, by decide +kernel⟩, by decide +kernel, by decide⟩
theorem mb_X12_reservedUnits : oa_MB mX12_reservedUnits 1 := ⟨gw_1886, gw_98, ⟨by decide +kernel, by decide +kernel⟩, by decide +kernel, by decide⟩
theorem mb_X12_rung : oa_MB mX12_rung 0 := ⟨gw_1737, gw_98, ⟨by decide +kernel, by decide +kernel⟩, by decide +kernel, by decide⟩
theorem mb_X12_rungOf : oa_MB mX12_rungOf 1 := ⟨gw_1970, gw_98, ⟨by decide +kernel, by decide +kernel⟩, by decide +kernel, by decide⟩
theorem mb_X12_rungUnits : oa_MB mX12_rungUnits 1 := ⟨gw_1974, gw_98, ⟨by decide +kernel, by decide +kernel⟩, by decide +kernel, by decide⟩
theorem mb_X12_says : oa_MB mX12_says 1 := ⟨gw_2086, gw_98, ⟨by decide +kernel, by decide +kernel⟩, by decide +kernel, by decide⟩
theorem mb_X12_saysName : oa_MB mX12_saysName 1 := ⟨gw_2082, gw_98, ⟨by decide +kernel, by decide +kernel⟩, by decide +kernel, by decide⟩
theorem mb_X12_saysNumber : oa_MB mX12_saysNumber 1 := ⟨gw_2099, gw_98, ⟨by decide +kernel, by decide +kernel⟩, by decide +kernel, by decide⟩
theorem mb_X12_saysPart : oa_MB mX12_saysPart 2 := ⟨gw_2091, gw_98, ⟨by decide +kernel, by decide +kernel⟩, by decide +kernel, by decide⟩
theorem mb_X12_saysWord : oa_MB mX12_saysWord 1 := ⟨gw_2095, gw_98, ⟨by decide +kernel, by decide +kernel⟩, by decide +kernel, by decide⟩
theorem mb_X12_scarcestPart : oa_MB mX12_scarcestPart 0 := ⟨gw_1910, gw_98, ⟨by decide +kernel, by decide +kernel⟩, by decide +kernel, by decide⟩
theorem mb_X12_ship : oa_MB mX12_ship 1 := ⟨gw_2042, gw_98, ⟨by decide +kernel, by decide +kernel⟩, by decide +kernel, by decide⟩
theorem mb_X12_shipment : oa_MB mX12_shipment 2 := ⟨gw_2074, gw_98, ⟨by decide +kernel, by decide +kernel⟩, by decide +kernel, by decide⟩
theorem mb_X12_shippedUnits : oa_MB mX12_shippedUnits 1 := ⟨gw_1890, gw_98, ⟨by decide +kernel, by decide +kernel⟩, by decide +kernel, by decide⟩
theorem mb_X12_stateOf : oa_MB mX12_stateOf 1 := ⟨gw_1866, gw_98, ⟨by decide +kernel, by decide +kernel⟩, by decide +kernel, by decide⟩
theorem mb_X12_stock : oa_MB mX12_stock 1 := ⟨gw_1820, gw_98, ⟨by decide +kernel, by decide +kernel⟩, by decide +kernel, by decide⟩
theorem mb_X12_takes : oa_MB mX12_takes 1 := ⟨gw_1747, gw_98, ⟨by decide +kernel, by decide +kernel⟩, by decide +kernel, by decide⟩
theorem mb_X12_takes0 : oa_MB mX12_takes0 2 := ⟨gw_1966, gw_98, ⟨by decide +kernel, by decide +kernel⟩, by decide +kernel, by decide⟩
theorem mb_X12_takesOver : oa_MB mX12_takesOver 0 := ⟨gw_1593, gw_98, ⟨by decide +kernel, by decide +kernel⟩, by decide +kernel, by decide⟩
theorem mb_X12_thrown : oa_MB mX12_thrown 0 := ⟨gw_1563, gw_98, ⟨by decide +kernel, by decide +kernel⟩, by decide +kernel, by decide⟩
theorem mb_X12_throwsIf : oa_MB mX12_throwsIf 2 := ⟨gw_1751, gw_98, ⟨by decide +kernel, by decide +kernel⟩, by decide +kernel, by decide⟩
theorem mb_X12_toBuy : oa_MB mX12_toBuy 1 := ⟨gw_1902, gw_98, ⟨by decide +kernel, by decide +kernel⟩, by decide +kernel, by decide⟩
theorem mb_X12_total : oa_MB mX12_total 1 := ⟨gw_2070, gw_98, ⟨by decide +kernel, by decide +kernel⟩, by decide +kernel, by decide⟩
theorem mb_X12_triesAll : oa_MB mX12_triesAll 0 := ⟨gw_1946, gw_98, ⟨by decide +kernel, by decide +kernel⟩, by decide +kernel, by decide⟩
theorem mb_X12_triesRung : oa_MB mX12_triesRung 1 := ⟨gw_1950, gw_98, ⟨by decide +kernel, by decide +kernel⟩, by decide +kernel, by decide⟩
theorem mb_X12_truncate : oa_MB mX12_truncate 1 := ⟨gw_1571, gw_98, ⟨by decide +kernel, by decide +kernel⟩, by decide +kernel, by decide⟩
theorem mb_X12_undo : oa_MB mX12_undo 0 := ⟨gw_1755, gw_98, ⟨by decide +kernel, by decide +kernel⟩, by decide +kernel, by decide⟩
theorem mb_X12_undoDepth : oa_MB mX12_undoDepth 0 := ⟨gw_1759, gw_98, ⟨by decide +kernel, by decide +kernel⟩, by decide +kernel, by decide⟩
theorem mb_X12_usedBy : oa_MB mX12_usedBy 1 := ⟨gw_1808, gw_98, ⟨by decide +kernel, by decide +kernel⟩, by decide +kernel, by decide⟩
theorem mb_X12_usualRung : oa_MB mX12_usualRung 0 := ⟨gw_1589, gw_98, ⟨by decide +kernel, by decide +kernel⟩, by decide +kernel, by decide⟩
theorem mb_X12_wouldGet : oa_MB mX12_wouldGet 1 := ⟨gw_1942, gw_98, ⟨by decide +kernel, by decide +kernel⟩, by decide +kernel, by decide⟩
theorem mb_X1_addLine : oa_MB mX1_addLine 2 := ⟨gw_935, gw_90, ⟨by decide +kernel, by decide +kernel⟩, by decide +kernel, by decide⟩
theorem mb_X1_addPart : oa_MB mX1_addPart 2 := ⟨gw_892, gw_90, ⟨by decide +kernel, by decide +kernel⟩, by decide +kernel, by decide⟩
theorem mb_X1_addRung : oa_MB mX1_addRung 3 := ⟨gw_422, gw_90, ⟨by decide +kernel, by decide +kernel⟩, by decide +kernel, by decide⟩
theorem mb_X1_beginProduct : oa_MB mX1_beginProduct 1 := ⟨gw_909, gw_90, ⟨by decide +kernel, by decide +kernel⟩, by decide +kernel, by decide⟩
theorem mb_X1_begunCanHold : oa_MB mX1_begunCanHold 2 := ⟨gw_927, gw_90, ⟨by decide +kernel, by decide +kernel⟩, by decide +kernel, by decide⟩
theorem mb_X1_begunHas : oa_MB mX1_begunHas 1 := ⟨gw_922, gw_90, ⟨by decide +kernel, by decide +kernel⟩, by decide +kernel, by decide⟩
theorem mb_X1_clear : oa_MB mX1_clear 0 := ⟨gw_750, gw_90, ⟨by decide +kernel, by decide +kernel⟩, by decide +kernel, by decide⟩
theorem mb_X1_endProduct : oa_MB mX1_endProduct 0 := ⟨gw_944, gw_90, ⟨by decide +kernel, by decide +kernel⟩, by decide +kernel, by decide⟩
theorem mb_X1_itemNamed : oa_MB mX1_itemNamed 1 := ⟨gw_868, gw_90, ⟨by decide +kernel, by decide +kernel⟩, by decide +kernel, by decide⟩
theorem mb_X1_itemOf : oa_MB mX1_itemOf 2 := ⟨gw_1084, gw_90, ⟨by decide +kernel, by decide +kernel⟩, by decide +kernel, by decide⟩
theorem mb_X1_leadTimeOf : oa_MB mX1_leadTimeOf 1 := ⟨gw_554, gw_90, ⟨by decide +kernel, by decide +kernel⟩, by decide +kernel, by decide⟩
theorem mb_X1_leftAfter : oa_MB mX1_leftAfter 4 := ⟨gw_1216, gw_90, ⟨by decide +kernel, by decide +kernel⟩, by decide +kernel, by decide⟩
theorem mb_X1_levelOf : oa_MB mX1_levelOf 1 := ⟨gw_939, gw_90, ⟨by decide +kernel, by decide +kernel⟩, by decide +kernel, by decide⟩
theorem mb_X1_limitingPart : oa_MB mX1_limitingPart 4 := ⟨gw_1212, gw_90, ⟨by decide +kernel, by decide +kernel⟩, by decide +kernel, by decide⟩
theorem mb_X1_linesOf : oa_MB mX1_linesOf 1 := ⟨gw_1073, gw_90, ⟨by decide +kernel, by decide +kernel⟩, by decide +kernel, by decide⟩
theorem mb_X1_linesOfBegun : oa_MB mX1_linesOfBegun 0 := ⟨gw_918, gw_90, ⟨by decide +kernel, by decide +kernel⟩, by decide +kernel, by decide⟩
theorem mb_X1_mostTogether : oa_MB mX1_mostTogether 3 := ⟨gw_1203, gw_90, ⟨by decide +kernel, by decide +kernel⟩, by decide +kernel, by decide⟩
theorem mb_X1_mostUnits : oa_MB mX1_mostUnits 2 := ⟨gw_602, gw_90, ⟨by decide +kernel, by decide +kernel⟩, by decide +kernel, by decide⟩
theorem mb_X1_needOf : oa_MB mX1_needOf 2 := ⟨gw_511, gw_90, ⟨by decide +kernel, by decide +kernel⟩, by decide +kernel, by decide⟩
theorem mb_X1_needWith : oa_MB mX1_needWith 3 := ⟨gw_931, gw_90, ⟨by decide +kernel, by decide +kernel⟩, by decide +kernel, by decide⟩
theorem mb_X1_oneMoreGains : oa_MB mX1_oneMoreGains 4 := ⟨gw_1208, gw_90, ⟨by decide +kernel, by decide +kernel⟩, by decide +kernel, by decide⟩
theorem mb_X1_partName : oa_MB mX1_partName 1 := ⟨gw_1558, gw_90, ⟨by decide +kernel, by decide +kernel⟩, by decide +kernel, by decide⟩
theorem mb_X1_partNamed : oa_MB mX1_partNamed 1 := ⟨gw_876, gw_90, ⟨by decide +kernel, by decide +kernel⟩, by decide +kernel, by decide⟩
theorem mb_X1_productName : oa_MB mX1_productName 1 := ⟨gw_1513, gw_90, ⟨by decide +kernel, by decide +kernel⟩, by decide +kernel, by decide⟩
theorem mb_X1_productNamed : oa_MB mX1_productNamed 1 := ⟨gw_872, gw_90, ⟨by decide +kernel, by decide +kernel⟩, by decide +kernel, by decide⟩
theorem mb_X1_quantityOf : oa_MB mX1_quantityOf 2 := ⟨gw_1096, gw_90, ⟨by decide +kernel, by decide +kernel⟩, by decide +kernel, by decide⟩
theorem mb_X1_rungTakes : oa_MB mX1_rungTakes 2 := ⟨gw_667, gw_90, ⟨by decide +kernel, by decide +kernel⟩, by decide +kernel, by decide⟩
theorem mb_X1_shareOf : oa_MB mX1_shareOf 1 := ⟨gw_658, gw_90, ⟨by decide +kernel, by decide +kernel⟩, by decide +kernel, by decide⟩
theorem mb_X1_takePieces : oa_MB mX1_takePieces 3 := ⟨gw_611, gw_90, ⟨by decide +kernel, by decide +kernel⟩, by decide +kernel, by decide⟩
theorem mb_X1_tightestPart : oa_MB mX1_tightestPart 2 := ⟨gw_606, gw_90, ⟨by decide +kernel, by decide +kernel⟩, by decide +kernel, by decide⟩
theorem mb_X2_begin : oa_MB mX2_begin 1 := ⟨gw_1517, gw_97, ⟨by decide +kernel, by decide +kernel⟩, by decide +kernel, by decide⟩
theorem mb_X2_byteAt : oa_MB mX2_byteAt 1 := ⟨gw_733, gw_97, ⟨by decide +kernel, by decide +kernel⟩, by decide +kernel, by decide⟩
theorem mb_X2_put : oa_MB mX2_put 1 := ⟨gw_1525, gw_97, ⟨by decide +kernel, by decide +kernel⟩, by decide +kernel, by decide⟩
theorem mb_X2_putName : oa_MB mX2_putName 1 := ⟨gw_1521, gw_97, ⟨by decide +kernel, by decide +kernel⟩, by decide +kernel, by decide⟩
theorem mb_X2_putNumbered : oa_MB mX2_putNumbered 2 := ⟨gw_1530, gw_97, ⟨by decide +kernel, by decide +kernel⟩, by decide +kernel, by decide⟩
theorem mb_X2_putText : oa_MB mX2_putText 1 := ⟨gw_1534, gw_97, ⟨by decide +kernel, by decide +kernel⟩, by decide +kernel, by decide⟩
theorem mb_X3_forget : oa_MB mX3_forget 0 := ⟨gw_1040, gw_95, ⟨by decide +kernel, by decide +kernel⟩, by decide +kernel, by decide⟩
theorem mb_X3_record : oa_MB mX3_record 1 := ⟨gw_623, gw_95, ⟨by decide +kernel, by decide +kernel⟩, by decide +kernel, by decide⟩
theorem mb_X3_takeBack : oa_MB mX3_takeBack 1 := ⟨gw_702, gw_95, ⟨by decide +kernel, by decide +kernel⟩, by decide +kernel, by decide⟩
theorem mb_X4_hasRoomFor : oa_MB mX4_hasRoomFor 1 := ⟨gw_455, gw_89, ⟨by decide +kernel, by decide +kernel⟩, by decide +kernel, by decide⟩
theorem mb_X4_putWord : oa_MB mX4_putWord 1 := ⟨gw_459, gw_89, ⟨by decide +kernel, by decide +kernel⟩, by decide +kernel, by decide⟩
theorem mb_X4_shorten : oa_MB mX4_shorten 1 := ⟨gw_470, gw_89, ⟨by decide +kernel, by decide +kernel⟩, by decide +kernel, by decide⟩
theorem mb_X4_signAt : oa_MB mX4_signAt 1 := ⟨gw_776, gw_89, ⟨by decide +kernel, by decide +kernel⟩, by decide +kernel, by decide⟩
theorem mb_X5_changeReserved : oa_MB mX5_changeReserved 3 := ⟨gw_686, gw_91, ⟨by decide +kernel, by decide +kernel⟩, by decide +kernel, by decide⟩
theorem mb_X5_clear : oa_MB mX5_clear 0 := ⟨gw_754, gw_91, ⟨by decide +kernel, by decide +kernel⟩, by decide +kernel, by decide⟩
theorem mb_X5_copyFrom : oa_MB mX5_copyFrom 1 := ⟨gw_630, gw_91, ⟨by decide +kernel, by decide +kernel⟩, by decide +kernel, by decide⟩
theorem mb_X5_openPieces : oa_MB mX5_openPieces 2 := ⟨gw_498, gw_91, ⟨by decide +kernel, by decide +kernel⟩, by decide +kernel, by decide⟩
theorem mb_X5_releaseExcess : oa_MB mX5_releaseExcess 2 := ⟨gw_1478, gw_91, ⟨by decide +kernel, by decide +kernel⟩, by decide +kernel, by decide⟩
theorem mb_X5_sendReserved : oa_MB mX5_sendReserved 2 := ⟨gw_1438, gw_91, ⟨by decide +kernel, by decide +kernel⟩, by decide +kernel, by decide⟩
theorem mb_X6_addReserved : oa_MB mX6_addReserved 2 := ⟨gw_690, gw_93, ⟨by decide +kernel, by decide +kernel⟩, by decide +kernel, by decide⟩
theorem mb_X6_addShipped : oa_MB mX6_addShipped 2 := ⟨gw_1446, gw_93, ⟨by decide +kernel, by decide +kernel⟩, by decide +kernel, by decide⟩
theorem mb_X6_classOf : oa_MB mX6_classOf 1 := ⟨gw_593, gw_93, ⟨by decide +kernel, by decide +kernel⟩, by decide +kernel, by decide⟩
theorem mb_X6_copyFrom : oa_MB mX6_copyFrom 1 := ⟨gw_641, gw_93, ⟨by decide +kernel, by decide +kernel⟩, by decide +kernel, by decide⟩
theorem mb_X6_dueOf : oa_MB mX6_dueOf 1 := ⟨gw_564, gw_93, ⟨by decide +kernel, by decide +kernel⟩, by decide +kernel, by decide⟩
theorem mb_X6_enter : oa_MB mX6_enter 5 := ⟨gw_961, gw_93, ⟨by decide +kernel, by decide +kernel⟩, by decide +kernel, by decide⟩
theorem mb_X6_fillTurns : oa_MB mX6_fillTurns 1 := ⟨gw_584, gw_93, ⟨by decide +kernel, by decide +kernel⟩, by decide +kernel, by decide⟩
theorem mb_X6_firstToLose : oa_MB mX6_firstToLose 2 := ⟨gw_1483, gw_93, ⟨by decide +kernel, by decide +kernel⟩, by decide +kernel, by decide⟩
theorem mb_X6_isServedBefore : oa_MB mX6_isServedBefore 2 := ⟨gw_588, gw_93, ⟨by decide +kernel, by decide +kernel⟩, by decide +kernel, by decide⟩
theorem mb_X6_isWhole : oa_MB mX6_isWhole 1 := ⟨gw_681, gw_93, ⟨by decide +kernel, by decide +kernel⟩, by decide +kernel, by decide⟩
theorem mb_X6_losesBefore : oa_MB mX6_losesBefore 2 := ⟨gw_1489, gw_93, ⟨by decide +kernel, by decide +kernel⟩, by decide +kernel, by decide⟩
theorem mb_X6_markCancelled : oa_MB mX6_markCancelled 1 := ⟨gw_1407, gw_93, ⟨by decide +kernel, by decide +kernel⟩, by decide +kernel, by decide⟩
theorem mb_X6_mayMove : oa_MB mX6_mayMove 2 := ⟨gw_1418, gw_93, ⟨by decide +kernel, by decide +kernel⟩, by decide +kernel, by decide⟩
theorem mb_X6_openOf : oa_MB mX6_openOf 1 := ⟨gw_502, gw_93, ⟨by decide +kernel, by decide +kernel⟩, by decide +kernel, by decide⟩
theorem mb_X6_productOf : oa_MB mX6_productOf 1 := ⟨gw_507, gw_93, ⟨by decide +kernel, by decide +kernel⟩, by decide +kernel, by decide⟩
theorem mb_X6_quantityOf : oa_MB mX6_quantityOf 1 := ⟨gw_1274, gw_93, ⟨by decide +kernel, by decide +kernel⟩, by decide +kernel, by decide⟩
theorem mb_X6_reservedOf : oa_MB mX6_reservedOf 1 := ⟨gw_1237, gw_93, ⟨by decide +kernel, by decide +kernel⟩, by decide +kernel, by decide⟩
theorem mb_X6_shippedOf : oa_MB mX6_shippedOf 1 := ⟨gw_1263, gw_93, ⟨by decide +kernel, by decide +kernel⟩, by decide +kernel, by decide⟩
theorem mb_X6_stateFor : oa_MB mX6_stateFor 1 := ⟨gw_1232, gw_93, ⟨by decide +kernel, by decide +kernel⟩, by decide +kernel, by decide⟩
theorem mb_X7_begin : oa_MB mX7_begin 0 := ⟨gw_746, gw_87, ⟨by decide +kernel, by decide +kernel⟩, by decide +kernel, by decide⟩
theorem mb_X7_fail : oa_MB mX7_fail 1 := ⟨gw_860, gw_87, ⟨by decide +kernel, by decide +kernel⟩, by decide +kernel, by decide⟩
theorem mb_X7_hasLine : oa_MB mX7_hasLine 0 := ⟨gw_786, gw_87, ⟨by decide +kernel, by decide +kernel⟩, by decide +kernel, by decide⟩
theorem mb_X7_isNewName : oa_MB mX7_isNewName 0 := ⟨gw_852, gw_87, ⟨by decide +kernel, by decide +kernel⟩, by decide +kernel, by decide⟩
theorem mb_X7_readBillLine : oa_MB mX7_readBillLine 0 := ⟨gw_914, gw_87, ⟨by decide +kernel, by decide +kernel⟩, by decide +kernel, by decide⟩
theorem mb_X7_readLine : oa_MB mX7_readLine 0 := ⟨gw_790, gw_87, ⟨by decide +kernel, by decide +kernel⟩, by decide +kernel, by decide⟩
theorem mb_X7_readNumber : oa_MB mX7_readNumber 2 := ⟨gw_880, gw_87, ⟨by decide +kernel, by decide +kernel⟩, by decide +kernel, by decide⟩
theorem mb_X7_readOrder : oa_MB mX7_readOrder 0 := ⟨gw_955, gw_87, ⟨by decide +kernel, by decide +kernel⟩, by decide +kernel, by decide⟩
theorem mb_X7_readPart : oa_MB mX7_readPart 0 := ⟨gw_847, gw_87, ⟨by decide +kernel, by decide +kernel⟩, by decide +kernel, by decide⟩
theorem mb_X7_readProduct : oa_MB mX7_readProduct 0 := ⟨gw_905, gw_87, ⟨by decide +kernel, by decide +kernel⟩, by decide +kernel, by decide⟩
theorem mb_X7_readRung : oa_MB mX7_readRung 0 := ⟨gw_949, gw_87, ⟨by decide +kernel, by decide +kernel⟩, by decide +kernel, by decide⟩
theorem mb_X7_readSemicolon : oa_MB mX7_readSemicolon 0 := ⟨gw_896, gw_87, ⟨by decide +kernel, by decide +kernel⟩, by decide +kernel, by decide⟩
theorem mb_X7_swapCatalog : oa_MB mX7_swapCatalog 1 := ⟨gw_1032, gw_87, ⟨by decide +kernel, by decide +kernel⟩, by decide +kernel, by decide⟩
theorem mb_X7_swapLedger : oa_MB mX7_swapLedger 1 := ⟨gw_1036, gw_87, ⟨by decide +kernel, by decide +kernel⟩, by decide +kernel, by decide⟩
theorem mb_X8_addBought : oa_MB mX8_addBought 1 := ⟨gw_1462, gw_94, ⟨by decide +kernel, by decide +kernel⟩, by decide +kernel, by decide⟩
theorem mb_X8_addShipment : oa_MB mX8_addShipment 4 := ⟨gw_1451, gw_94, ⟨by decide +kernel, by decide +kernel⟩, by decide +kernel, by decide⟩
theorem mb_X8_clear : oa_MB mX8_clear 0 := ⟨gw_763, gw_94, ⟨by decide +kernel, by decide +kernel⟩, by decide +kernel, by decide⟩
theorem mb_X8_copyFrom : oa_MB mX8_copyFrom 1 := ⟨gw_646, gw_94, ⟨by decide +kernel, by decide +kernel⟩, by decide +kernel, by decide⟩
theorem mb_X8_entry : oa_MB mX8_entry 2 := ⟨gw_723, gw_94, ⟨by decide +kernel, by decide +kernel⟩, by decide +kernel, by decide⟩
theorem mb_X8_totalOf : oa_MB mX8_totalOf 1 := ⟨gw_714, gw_94, ⟨by decide +kernel, by decide +kernel⟩, by decide +kernel, by decide⟩
theorem mb_X9_isName : oa_MB mX9_isName 0 := ⟨gw_856, gw_88, ⟨by decide +kernel, by decide +kernel⟩, by decide +kernel, by decide⟩
theorem mb_X9_isSemicolon : oa_MB mX9_isSemicolon 0 := ⟨gw_900, gw_88, ⟨by decide +kernel, by decide +kernel⟩, by decide +kernel, by decide⟩
theorem mb_X9_isSpace : oa_MB mX9_isSpace 1 := ⟨gw_779, gw_88, ⟨by decide +kernel, by decide +kernel⟩, by decide +kernel, by decide⟩
theorem mb_X9_isWord : oa_MB mX9_isWord 1 := ⟨gw_795, gw_88, ⟨by decide +kernel, by decide +kernel⟩, by decide +kernel, by decide⟩
theorem mb_X9_kindOf : oa_MB mX9_kindOf 1 := ⟨gw_782, gw_88, ⟨by decide +kernel, by decide +kernel⟩, by decide +kernel, by decide⟩
theorem mb_X9_name : oa_MB mX9_name 0 := ⟨gw_864, gw_88, ⟨by decide +kernel, by decide +kernel⟩, by decide +kernel, by decide⟩
theorem mb_X9_restart : oa_MB mX9_restart 0 := ⟨gw_768, gw_88, ⟨by decide +kernel, by decide +kernel⟩, by decide +kernel, by decide⟩
theorem mb_X9_step : oa_MB mX9_step 0 := ⟨gw_772, gw_88, ⟨by decide +kernel, by decide +kernel⟩, by decide +kernel, by decide⟩
theorem mb_X9_value : oa_MB mX9_value 0 := ⟨gw_884, gw_88, ⟨by decide +kernel, by decide +kernel⟩, by decide +kernel, by decide⟩
theorem ex_a_99_103_IllegalArgumentException : ∀ q ∈ vx_atS RX11 103 "java/lang/IllegalArgumentException" oa_exN, q ∈ lw_tbl := fun q hq => of_decide_eq_true (List.all_eq_true.mp (show (vx_atS RX11 103 "java/lang/IllegalArgumentException" oa_exN).all (fun q => decide (q ∈ lw_tbl)) = true by decide +kernel) q hq)
theorem ex_b_99_103_IllegalArgumentException : (vx_atS RX11 103 "java/lang/IllegalArgumentException" oa_exN).all oa_cd = true := by decide +kernel
theorem ex_c_99_103_IllegalArgumentException : ∀ q ∈ Cond.classLink RX11 99 "java/lang/IllegalArgumentException" :: Cond.initialized "java/lang/IllegalArgumentException" :: vx_atS RX11 103 "java/lang/IllegalArgumentException" oa_exN, vx_ot q = true := fun q hq => List.all_eq_true.mp (show (Cond.classLink RX11 99 "java/lang/IllegalArgumentException" :: Cond.initialized "java/lang/IllegalArgumentException" :: vx_atS RX11 103 "java/lang/IllegalArgumentException" oa_exN).all vx_ot = true by decide +kernel) q hq
theorem ex_a_394_398_IndexOutOfBoundsException : ∀ q ∈ vx_atS RX11 398 "java/lang/IndexOutOfBoundsException" oa_exN, q ∈ lw_tbl := fun q hq => of_decide_eq_true (List.all_eq_true.mp (show (vx_atS RX11 398 "java/lang/IndexOutOfBoundsException" oa_exN).all (fun q => decide (q ∈ lw_tbl)) = true by decide +kernel) q hq)
theorem ex_b_394_398_IndexOutOfBoundsException : (vx_atS RX11 398 "java/lang/IndexOutOfBoundsException" oa_exN).all oa_cd = true := by decide +kernel
theorem ex_c_394_398_IndexOutOfBoundsException : ∀ q ∈ Cond.classLink RX11 394 "java/lang/IndexOutOfBoundsException" :: Cond.initialized "java/lang/IndexOutOfBoundsException" :: vx_atS RX11 398 "java/lang/IndexOutOfBoundsException" oa_exN, vx_ot q = true := fun q hq => List.all_eq_true.mp (show (Cond.classLink RX11 394 "java/lang/IndexOutOfBoundsException" :: Cond.initialized "java/lang/IndexOutOfBoundsException" :: vx_atS RX11 398 "java/lang/IndexOutOfBoundsException" oa_exN).all vx_ot = true by decide +kernel) q hq
theorem ex_a_407_411_IllegalStateException : ∀ q ∈ vx_atS RX11 411 "java/lang/IllegalStateException" oa_exN, q ∈ lw_tbl := fun q hq => of_decide_eq_true (List.all_eq_true.mp (show (vx_atS RX11 411 "java/lang/IllegalStateException" oa_exN).all (fun q => decide (q ∈ lw_tbl)) = true by decide +kernel) q hq)
theorem ex_b_407_411_IllegalStateException : (vx_atS RX11 411 "java/lang/IllegalStateException" oa_exN).all oa_cd = true := by decide +kernel
theorem ex_c_407_411_IllegalStateException : ∀ q ∈ Cond.classLink RX11 407 "java/lang/IllegalStateException" :: Cond.initialized "java/lang/IllegalStateException" :: vx_atS RX11 411 "java/lang/IllegalStateException" oa_exN, vx_ot q = true := fun q hq => List.all_eq_true.mp (show (Cond.classLink RX11 407 "java/lang/IllegalStateException" :: Cond.initialized "java/lang/IllegalStateException" :: vx_atS RX11 411 "java/lang/IllegalStateException" oa_exN).all vx_ot = true by decide +kernel) q hq
end

section
-- ===== PART A: goes FIRST, ahead of the names: the tables' words, and 'selects' of the private methods out of them =====
/-- a private method of a class that the tables say can be made, by its rows of tables_1 -/
def lw_okq (q : MethodName × Nat) : Prop := (q.1.cls ≠ "java/lang/invoke/MethodHandle" ∧ q.1.cls ≠ "java/lang/invoke/VarHandle") ∧ Cond.instantiable q.1.cls q.2 ∈ tables_1 ∧ Cond.privateMethod q.1 ∈ tables_1 ∧ Cond.instanceMethod q.1 ∈ tables_1
theorem lw_p0 : lw_okq (⟨"ProtocolBench", "endSearch", "()V"⟩, 6) := ⟨⟨by decide +kernel, by decide +kernel⟩, List.mem_of_getElem? (i := 18) (by decide +kernel), List.mem_of_getElem? (i := 491) (by decide +kernel), List.mem_of_getElem? (i := 492) (by decide +kernel)⟩
theorem lw_p1 : lw_okq (⟨"ProtocolBench$Protocol", "markUses", "()V"⟩, 10) := ⟨⟨by decide +kernel, by decide +kernel⟩, List.mem_of_getElem? (i := 26) (by decide +kernel), List.mem_of_getElem? (i := 632) (by decide +kernel), List.mem_of_getElem? (i := 633) (by decide +kernel)⟩
theorem lw_p2 : lw_okq (⟨"ProtocolBench$Graph", "slotOf", "(LProtocolBench$Row;)I"⟩, 16) := ⟨⟨by decide +kernel, by decide +kernel⟩, List.mem_of_getElem? (i := 221) (by decide +kernel), List.mem_of_getElem? (i := 685) (by decide +kernel), List.mem_of_getElem? (i := 686) (by decide +kernel)⟩
theorem lw_p3 : lw_okq (⟨"ProtocolBench$Graph", "isSame", "(ILProtocolBench$Row;)Z"⟩, 16) := ⟨⟨by decide +kernel, by decide +kernel⟩, List.mem_of_getElem? (i := 221) (by decide +kernel), List.mem_of_getElem? (i := 689) (by decide +kernel), List.mem_of_getElem? (i := 690) (by decide +kernel)⟩
theorem lw_p4 : lw_okq (⟨"ProtocolBench$Graph", "addState", "(LProtocolBench$Row;III)V"⟩, 16) := ⟨⟨by decide +kernel, by decide +kernel⟩, List.mem_of_getElem? (i := 221) (by decide +kernel), List.mem_of_getElem? (i := 693) (by decide +kernel), List.mem_of_getElem? (i := 694) (by decide +kernel)⟩
theorem lw_p5 : lw_okq (⟨"ProtocolBench$Searcher", "goMember", "(III)V"⟩, 5) := ⟨⟨by decide +kernel, by decide +kernel⟩, List.mem_of_getElem? (i := 297) (by decide +kernel), List.mem_of_getElem? (i := 708) (by decide +kernel), List.mem_of_getElem? (i := 709) (by decide +kernel)⟩
theorem lw_p6 : lw_okq (⟨"ProtocolBench$Exprs", "ofRow", "(ILProtocolBench$Row;II)I"⟩, 10) := ⟨⟨by decide +kernel, by decide +kernel⟩, List.mem_of_getElem? (i := 79) (by decide +kernel), List.mem_of_getElem? (i := 723) (by decide +kernel), List.mem_of_getElem? (i := 724) (by decide +kernel)⟩
theorem lw_p7 : lw_okq (⟨"ProtocolBench$Searcher", "canDo", "(I)Z"⟩, 5) := ⟨⟨by decide +kernel, by decide +kernel⟩, List.mem_of_getElem? (i := 297) (by decide +kernel), List.mem_of_getElem? (i := 743) (by decide +kernel), List.mem_of_getElem? (i := 744) (by decide +kernel)⟩
theorem lw_p8 : lw_okq (⟨"ProtocolBench$Searcher", "goWays", "(III)V"⟩, 5) := ⟨⟨by decide +kernel, by decide +kernel⟩, List.mem_of_getElem? (i := 297) (by decide +kernel), List.mem_of_getElem? (i := 748) (by decide +kernel), List.mem_of_getElem? (i := 749) (by decide +kernel)⟩
theorem lw_p9 : lw_okq (⟨"ProtocolBench$Searcher", "doActs", "(III)Z"⟩, 5) := ⟨⟨by decide +kernel, by decide +kernel⟩, List.mem_of_getElem? (i := 297) (by decide +kernel), List.mem_of_getElem? (i := 758) (by decide +kernel), List.mem_of_getElem? (i := 759) (by decide +kernel)⟩
theorem lw_p10 : lw_okq (⟨"ProtocolBench$Searcher", "giveShared", "(II)Z"⟩, 5) := ⟨⟨by decide +kernel, by decide +kernel⟩, List.mem_of_getElem? (i := 297) (by decide +kernel), List.mem_of_getElem? (i := 762) (by decide +kernel), List.mem_of_getElem? (i := 763) (by decide +kernel)⟩
theorem lw_p11 : lw_okq (⟨"ProtocolBench$Searcher", "giveOwn", "(IIII)Z"⟩, 5) := ⟨⟨by decide +kernel, by decide +kernel⟩, List.mem_of_getElem? (i := 297) (by decide +kernel), List.mem_of_getElem? (i := 771) (by decide +kernel), List.mem_of_getElem? (i := 772) (by decide +kernel)⟩
theorem lw_p12 : lw_okq (⟨"ProtocolBench$Searcher", "send", "(II)Z"⟩, 5) := ⟨⟨by decide +kernel, by decide +kernel⟩, List.mem_of_getElem? (i := 297) (by decide +kernel), List.mem_of_getElem? (i := 776) (by decide +kernel), List.mem_of_getElem? (i := 777) (by decide +kernel)⟩
theorem lw_p13 : lw_okq (⟨"ProtocolBench$Searcher", "takeAlike", "(I)V"⟩, 5) := ⟨⟨by decide +kernel, by decide +kernel⟩, List.mem_of_getElem? (i := 297) (by decide +kernel), List.mem_of_getElem? (i := 798) (by decide +kernel), List.mem_of_getElem? (i := 799) (by decide +kernel)⟩
theorem lw_p14 : lw_okq (⟨"ProtocolBench$Searcher", "pickNext", "(I)Z"⟩, 5) := ⟨⟨by decide +kernel, by decide +kernel⟩, List.mem_of_getElem? (i := 297) (by decide +kernel), List.mem_of_getElem? (i := 817) (by decide +kernel), List.mem_of_getElem? (i := 818) (by decide +kernel)⟩
theorem lw_p15 : lw_okq (⟨"ProtocolBench$Row", "isFirstOfLike", "(II)Z"⟩, 1) := ⟨⟨by decide +kernel, by decide +kernel⟩, List.mem_of_getElem? (i := 303) (by decide +kernel), List.mem_of_getElem? (i := 826) (by decide +kernel), List.mem_of_getElem? (i := 827) (by decide +kernel)⟩
def lw_privs_1 : List (MethodName × Nat) := [(⟨"ProtocolBench", "endSearch", "()V"⟩, 6), (⟨"ProtocolBench$Protocol", "markUses", "()V"⟩, 10), (⟨"ProtocolBench$Graph", "slotOf", "(LProtocolBench$Row;)I"⟩, 16), (⟨"ProtocolBench$Graph", "isSame", "(ILProtocolBench$Row;)Z"⟩, 16), (⟨"ProtocolBench$Graph", "addState", "(LProtocolBench$Row;III)V"⟩, 16), (⟨"ProtocolBench$Searcher", "goMember", "(III)V"⟩, 5), (⟨"ProtocolBench$Exprs", "ofRow", "(ILProtocolBench$Row;II)I"⟩, 10), (⟨"ProtocolBench$Searcher", "canDo", "(I)Z"⟩, 5), (⟨"ProtocolBench$Searcher", "goWays", "(III)V"⟩, 5), (⟨"ProtocolBench$Searcher", "doActs", "(III)Z"⟩, 5), (⟨"ProtocolBench$Searcher", "giveShared", "(II)Z"⟩, 5), (⟨"ProtocolBench$Searcher", "giveOwn", "(IIII)Z"⟩, 5), (⟨"ProtocolBench$Searcher", "send", "(II)Z"⟩, 5), (⟨"ProtocolBench$Searcher", "takeAlike", "(I)V"⟩, 5), (⟨"ProtocolBench$Searcher", "pickNext", "(I)Z"⟩, 5), (⟨"ProtocolBench$Row", "isFirstOfLike", "(II)Z"⟩, 1)]
theorem lw_r1 : ∀ q ∈ lw_privs_1, lw_okq q := List.forall_mem_cons.mpr ⟨lw_p0, List.forall_mem_cons.mpr ⟨lw_p1, List.forall_mem_cons.mpr ⟨lw_p2, List.forall_mem_cons.mpr ⟨lw_p3, List.forall_mem_cons.mpr ⟨lw_p4, List.forall_mem_cons.mpr ⟨lw_p5, List.forall_mem_cons.mpr ⟨lw_p6, List.forall_mem_cons.mpr ⟨lw_p7, List.forall_mem_cons.mpr ⟨lw_p8, List.forall_mem_cons.mpr ⟨lw_p9, List.forall_mem_cons.mpr ⟨lw_p10, List.forall_mem_cons.mpr ⟨lw_p11, List.forall_mem_cons.mpr ⟨lw_p12, List.forall_mem_cons.mpr ⟨lw_p13, List.forall_mem_cons.mpr ⟨lw_p14, List.forall_mem_cons.mpr ⟨lw_p15, fun _ h => absurd h List.not_mem_nil⟩⟩⟩⟩⟩⟩⟩⟩⟩⟩⟩⟩⟩⟩⟩⟩
theorem lw_p16 : lw_okq (⟨"ProtocolBench$Searcher", "lose", "(II)V"⟩, 5) := ⟨⟨by decide +kernel, by decide +kernel⟩, List.mem_of_getElem? (i := 297) (by decide +kernel), List.mem_of_getElem? (i := 830) (by decide +kernel), List.mem_of_getElem? (i := 831) (by decide +kernel)⟩
theorem lw_p17 : lw_okq (⟨"ProtocolBench", "refusalOfPlain", "(I)I"⟩, 6) := ⟨⟨by decide +kernel, by decide +kernel⟩, List.mem_of_getElem? (i := 18) (by decide +kernel), List.mem_of_getElem? (i := 960) (by decide +kernel), List.mem_of_getElem? (i := 961) (by decide +kernel)⟩
theorem lw_p18 : lw_okq (⟨"ProtocolBench$Knots", "tie", "(Z)V"⟩, 20) := ⟨⟨by decide +kernel, by decide +kernel⟩, List.mem_of_getElem? (i := 348) (by decide +kernel), List.mem_of_getElem? (i := 975) (by decide +kernel), List.mem_of_getElem? (i := 976) (by decide +kernel)⟩
theorem lw_p19 : lw_okq (⟨"ProtocolBench$Knots", "walk", "(I)V"⟩, 20) := ⟨⟨by decide +kernel, by decide +kernel⟩, List.mem_of_getElem? (i := 348) (by decide +kernel), List.mem_of_getElem? (i := 983) (by decide +kernel), List.mem_of_getElem? (i := 984) (by decide +kernel)⟩
theorem lw_p20 : lw_okq (⟨"ProtocolBench$Knots", "enter", "(I)V"⟩, 20) := ⟨⟨by decide +kernel, by decide +kernel⟩, List.mem_of_getElem? (i := 348) (by decide +kernel), List.mem_of_getElem? (i := 987) (by decide +kernel), List.mem_of_getElem? (i := 988) (by decide +kernel)⟩
theorem lw_p21 : lw_okq (⟨"ProtocolBench$Knots", "follow", "(II)V"⟩, 20) := ⟨⟨by decide +kernel, by decide +kernel⟩, List.mem_of_getElem? (i := 348) (by decide +kernel), List.mem_of_getElem? (i := 991) (by decide +kernel), List.mem_of_getElem? (i := 992) (by decide +kernel)⟩
theorem lw_p22 : lw_okq (⟨"ProtocolBench$Knots", "handBack", "(I)V"⟩, 20) := ⟨⟨by decide +kernel, by decide +kernel⟩, List.mem_of_getElem? (i := 348) (by decide +kernel), List.mem_of_getElem? (i := 998) (by decide +kernel), List.mem_of_getElem? (i := 999) (by decide +kernel)⟩
theorem lw_p23 : lw_okq (⟨"ProtocolBench$Knots", "close", "(I)V"⟩, 20) := ⟨⟨by decide +kernel, by decide +kernel⟩, List.mem_of_getElem? (i := 348) (by decide +kernel), List.mem_of_getElem? (i := 1002) (by decide +kernel), List.mem_of_getElem? (i := 1003) (by decide +kernel)⟩
theorem lw_p24 : lw_okq (⟨"ProtocolBench$Knots", "weigh", "(II)Z"⟩, 20) := ⟨⟨by decide +kernel, by decide +kernel⟩, List.mem_of_getElem? (i := 348) (by decide +kernel), List.mem_of_getElem? (i := 1006) (by decide +kernel), List.mem_of_getElem? (i := 1007) (by decide +kernel)⟩
theorem lw_p25 : lw_okq (⟨"ProtocolBench$Knots", "firstOfBoth", "([Z[Z)I"⟩, 20) := ⟨⟨by decide +kernel, by decide +kernel⟩, List.mem_of_getElem? (i := 348) (by decide +kernel), List.mem_of_getElem? (i := 1011) (by decide +kernel), List.mem_of_getElem? (i := 1012) (by decide +kernel)⟩
theorem lw_p26 : lw_okq (⟨"ProtocolBench$Division", "keyByObserved", "()V"⟩, 12) := ⟨⟨by decide +kernel, by decide +kernel⟩, List.mem_of_getElem? (i := 415) (by decide +kernel), List.mem_of_getElem? (i := 1045) (by decide +kernel), List.mem_of_getElem? (i := 1046) (by decide +kernel)⟩
theorem lw_p27 : lw_okq (⟨"ProtocolBench$Division", "split", "(I)V"⟩, 12) := ⟨⟨by decide +kernel, by decide +kernel⟩, List.mem_of_getElem? (i := 415) (by decide +kernel), List.mem_of_getElem? (i := 1053) (by decide +kernel), List.mem_of_getElem? (i := 1054) (by decide +kernel)⟩
theorem lw_p28 : lw_okq (⟨"ProtocolBench$Division", "newPartLike", "(II)I"⟩, 12) := ⟨⟨by decide +kernel, by decide +kernel⟩, List.mem_of_getElem? (i := 415) (by decide +kernel), List.mem_of_getElem? (i := 1057) (by decide +kernel), List.mem_of_getElem? (i := 1058) (by decide +kernel)⟩
theorem lw_p29 : lw_okq (⟨"ProtocolBench$Division", "haveSameKeys", "(III)Z"⟩, 12) := ⟨⟨by decide +kernel, by decide +kernel⟩, List.mem_of_getElem? (i := 415) (by decide +kernel), List.mem_of_getElem? (i := 1061) (by decide +kernel), List.mem_of_getElem? (i := 1062) (by decide +kernel)⟩
theorem lw_p30 : lw_okq (⟨"ProtocolBench$Division", "openPart", "(I)I"⟩, 12) := ⟨⟨by decide +kernel, by decide +kernel⟩, List.mem_of_getElem? (i := 415) (by decide +kernel), List.mem_of_getElem? (i := 1065) (by decide +kernel), List.mem_of_getElem? (i := 1066) (by decide +kernel)⟩
theorem lw_p31 : lw_okq (⟨"ProtocolBench$Division", "keyByMoves", "(I)V"⟩, 12) := ⟨⟨by decide +kernel, by decide +kernel⟩, List.mem_of_getElem? (i := 415) (by decide +kernel), List.mem_of_getElem? (i := 1069) (by decide +kernel), List.mem_of_getElem? (i := 1070) (by decide +kernel)⟩
def lw_privs_2 : List (MethodName × Nat) := [(⟨"ProtocolBench$Searcher", "lose", "(II)V"⟩, 5), (⟨"ProtocolBench", "refusalOfPlain", "(I)I"⟩, 6), (⟨"ProtocolBench$Knots", "tie", "(Z)V"⟩, 20), (⟨"ProtocolBench$Knots", "walk", "(I)V"⟩, 20), (⟨"ProtocolBench$Knots", "enter", "(I)V"⟩, 20), (⟨"ProtocolBench$Knots", "follow", "(II)V"⟩, 20), (⟨"ProtocolBench$Knots", "handBack", "(I)V"⟩, 20), (⟨"ProtocolBench$Knots", "close", "(I)V"⟩, 20), (⟨"ProtocolBench$Knots", "weigh", "(II)Z"⟩, 20), (⟨"ProtocolBench$Knots", "firstOfBoth", "([Z[Z)I"⟩, 20), (⟨"ProtocolBench$Division", "keyByObserved", "()V"⟩, 12), (⟨"ProtocolBench$Division", "split", "(I)V"⟩, 12), (⟨"ProtocolBench$Division", "newPartLike", "(II)I"⟩, 12), (⟨"ProtocolBench$Division", "haveSameKeys", "(III)Z"⟩, 12), (⟨"ProtocolBench$Division", "openPart", "(I)I"⟩, 12), (⟨"ProtocolBench$Division", "keyByMoves", "(I)V"⟩, 12)]
theorem lw_r2 : ∀ q ∈ lw_privs_2, lw_okq q := List.forall_mem_cons.mpr ⟨lw_p16, List.forall_mem_cons.mpr ⟨lw_p17, List.forall_mem_cons.mpr ⟨lw_p18, List.forall_mem_cons.mpr ⟨lw_p19, List.forall_mem_cons.mpr ⟨lw_p20, List.forall_mem_cons.mpr ⟨lw_p21, List.forall_mem_cons.mpr ⟨lw_p22, List.forall_mem_cons.mpr ⟨lw_p23, List.forall_mem_cons.mpr ⟨lw_p24, List.forall_mem_cons.mpr ⟨lw_p25, List.forall_mem_cons.mpr ⟨lw_p26, List.forall_mem_cons.mpr ⟨lw_p27, List.forall_mem_cons.mpr ⟨lw_p28, List.forall_mem_cons.mpr ⟨lw_p29, List.forall_mem_cons.mpr ⟨lw_p30, List.forall_mem_cons.mpr ⟨lw_p31, fun _ h => absurd h List.not_mem_nil⟩⟩⟩⟩⟩⟩⟩⟩⟩⟩⟩⟩⟩⟩⟩⟩
theorem lw_p32 : lw_okq (⟨"ProtocolBenchModel", "over", "()V"⟩, 64) := ⟨⟨by decide +kernel, by decide +kernel⟩, List.mem_of_getElem? (i := 1087) (by decide +kernel), List.mem_of_getElem? (i := 1297) (by decide +kernel), List.mem_of_getElem? (i := 1298) (by decide +kernel)⟩
theorem lw_p33 : lw_okq (⟨"ProtocolBenchModel", "isRole", "(I)Z"⟩, 64) := ⟨⟨by decide +kernel, by decide +kernel⟩, List.mem_of_getElem? (i := 1087) (by decide +kernel), List.mem_of_getElem? (i := 1309) (by decide +kernel), List.mem_of_getElem? (i := 1310) (by decide +kernel)⟩
theorem lw_p34 : lw_okq (⟨"ProtocolBenchModel", "isThere", "(IIII)Z"⟩, 64) := ⟨⟨by decide +kernel, by decide +kernel⟩, List.mem_of_getElem? (i := 1087) (by decide +kernel), List.mem_of_getElem? (i := 1325) (by decide +kernel), List.mem_of_getElem? (i := 1326) (by decide +kernel)⟩
theorem lw_p35 : lw_okq (⟨"ProtocolBenchModel", "isChannel", "(I)Z"⟩, 64) := ⟨⟨by decide +kernel, by decide +kernel⟩, List.mem_of_getElem? (i := 1087) (by decide +kernel), List.mem_of_getElem? (i := 1329) (by decide +kernel), List.mem_of_getElem? (i := 1330) (by decide +kernel)⟩
theorem lw_p36 : lw_okq (⟨"ProtocolBenchModel", "isExpr", "(I)Z"⟩, 64) := ⟨⟨by decide +kernel, by decide +kernel⟩, List.mem_of_getElem? (i := 1087) (by decide +kernel), List.mem_of_getElem? (i := 1333) (by decide +kernel), List.mem_of_getElem? (i := 1334) (by decide +kernel)⟩
theorem lw_p37 : lw_okq (⟨"ProtocolBenchModel", "maySearch", "()Z"⟩, 64) := ⟨⟨by decide +kernel, by decide +kernel⟩, List.mem_of_getElem? (i := 1087) (by decide +kernel), List.mem_of_getElem? (i := 1353) (by decide +kernel), List.mem_of_getElem? (i := 1354) (by decide +kernel)⟩
theorem lw_p38 : lw_okq (⟨"ProtocolBenchModel", "isFit", "(I)Z"⟩, 64) := ⟨⟨by decide +kernel, by decide +kernel⟩, List.mem_of_getElem? (i := 1087) (by decide +kernel), List.mem_of_getElem? (i := 1357) (by decide +kernel), List.mem_of_getElem? (i := 1358) (by decide +kernel)⟩
theorem lw_p39 : lw_okq (⟨"ProtocolBenchModel", "use", "(I)V"⟩, 64) := ⟨⟨by decide +kernel, by decide +kernel⟩, List.mem_of_getElem? (i := 1087) (by decide +kernel), List.mem_of_getElem? (i := 1361) (by decide +kernel), List.mem_of_getElem? (i := 1362) (by decide +kernel)⟩
theorem lw_p40 : lw_okq (⟨"ProtocolBenchModel", "goThrough", "(I)Z"⟩, 64) := ⟨⟨by decide +kernel, by decide +kernel⟩, List.mem_of_getElem? (i := 1087) (by decide +kernel), List.mem_of_getElem? (i := 1368) (by decide +kernel), List.mem_of_getElem? (i := 1369) (by decide +kernel)⟩
theorem lw_p41 : lw_okq (⟨"ProtocolBenchModel", "reckon", "(III)V"⟩, 64) := ⟨⟨by decide +kernel, by decide +kernel⟩, List.mem_of_getElem? (i := 1087) (by decide +kernel), List.mem_of_getElem? (i := 1372) (by decide +kernel), List.mem_of_getElem? (i := 1373) (by decide +kernel)⟩
theorem lw_p42 : lw_okq (⟨"ProtocolBenchModel", "cell", "(II)I"⟩, 64) := ⟨⟨by decide +kernel, by decide +kernel⟩, List.mem_of_getElem? (i := 1087) (by decide +kernel), List.mem_of_getElem? (i := 1376) (by decide +kernel), List.mem_of_getElem? (i := 1377) (by decide +kernel)⟩
theorem lw_p43 : lw_okq (⟨"ProtocolBenchModel", "many", "(III)I"⟩, 64) := ⟨⟨by decide +kernel, by decide +kernel⟩, List.mem_of_getElem? (i := 1087) (by decide +kernel), List.mem_of_getElem? (i := 1380) (by decide +kernel), List.mem_of_getElem? (i := 1381) (by decide +kernel)⟩
theorem lw_p44 : lw_okq (⟨"ProtocolBenchModel", "can", "(III)Z"⟩, 64) := ⟨⟨by decide +kernel, by decide +kernel⟩, List.mem_of_getElem? (i := 1087) (by decide +kernel), List.mem_of_getElem? (i := 1387) (by decide +kernel), List.mem_of_getElem? (i := 1388) (by decide +kernel)⟩
theorem lw_p45 : lw_okq (⟨"ProtocolBenchModel", "goWays", "(III)Z"⟩, 64) := ⟨⟨by decide +kernel, by decide +kernel⟩, List.mem_of_getElem? (i := 1087) (by decide +kernel), List.mem_of_getElem? (i := 1391) (by decide +kernel), List.mem_of_getElem? (i := 1392) (by decide +kernel)⟩
theorem lw_p46 : lw_okq (⟨"ProtocolBenchModel", "take", "(I)V"⟩, 64) := ⟨⟨by decide +kernel, by decide +kernel⟩, List.mem_of_getElem? (i := 1087) (by decide +kernel), List.mem_of_getElem? (i := 1395) (by decide +kernel), List.mem_of_getElem? (i := 1396) (by decide +kernel)⟩
theorem lw_p47 : lw_okq (⟨"ProtocolBenchModel", "isDone", "(III)Z"⟩, 64) := ⟨⟨by decide +kernel, by decide +kernel⟩, List.mem_of_getElem? (i := 1087) (by decide +kernel), List.mem_of_getElem? (i := 1399) (by decide +kernel), List.mem_of_getElem? (i := 1400) (by decide +kernel)⟩
def lw_privs_3 : List (MethodName × Nat) := [(⟨"ProtocolBenchModel", "over", "()V"⟩, 64), (⟨"ProtocolBenchModel", "isRole", "(I)Z"⟩, 64), (⟨"ProtocolBenchModel", "isThere", "(IIII)Z"⟩, 64), (⟨"ProtocolBenchModel", "isChannel", "(I)Z"⟩, 64), (⟨"ProtocolBenchModel", "isExpr", "(I)Z"⟩, 64), (⟨"ProtocolBenchModel", "maySearch", "()Z"⟩, 64), (⟨"ProtocolBenchModel", "isFit", "(I)Z"⟩, 64), (⟨"ProtocolBenchModel", "use", "(I)V"⟩, 64), (⟨"ProtocolBenchModel", "goThrough", "(I)Z"⟩, 64), (⟨"ProtocolBenchModel", "reckon", "(III)V"⟩, 64), (⟨"ProtocolBenchModel", "cell", "(II)I"⟩, 64), (⟨"ProtocolBenchModel", "many", "(III)I"⟩, 64), (⟨"ProtocolBenchModel", "can", "(III)Z"⟩, 64), (⟨"ProtocolBenchModel", "goWays", "(III)Z"⟩, 64), (⟨"ProtocolBenchModel", "take", "(I)V"⟩, 64), (⟨"ProtocolBenchModel", "isDone", "(III)Z"⟩, 64)]
theorem lw_r3 : ∀ q ∈ lw_privs_3, lw_okq q := List.forall_mem_cons.mpr ⟨lw_p32, List.forall_mem_cons.mpr ⟨lw_p33, List.forall_mem_cons.mpr ⟨lw_p34, List.forall_mem_cons.mpr ⟨lw_p35, List.forall_mem_cons.mpr ⟨lw_p36, List.forall_mem_cons.mpr ⟨lw_p37, List.forall_mem_cons.mpr ⟨lw_p38, List.forall_mem_cons.mpr ⟨lw_p39, List.forall_mem_cons.mpr ⟨lw_p40, List.forall_mem_cons.mpr ⟨lw_p41, List.forall_mem_cons.mpr ⟨lw_p42, List.forall_mem_cons.mpr ⟨lw_p43, List.forall_mem_cons.mpr ⟨lw_p44, List.forall_mem_cons.mpr ⟨lw_p45, List.forall_mem_cons.mpr ⟨lw_p46, List.forall_mem_cons.mpr ⟨lw_p47, fun _ h => absurd h List.not_mem_nil⟩⟩⟩⟩⟩⟩⟩⟩⟩⟩⟩⟩⟩⟩⟩⟩
theorem lw_p48 : lw_okq (⟨"ProtocolBenchModel", "letterGoes", "(II)V"⟩, 64) := ⟨⟨by decide +kernel, by decide +kernel⟩, List.mem_of_getElem? (i := 1087) (by decide +kernel), List.mem_of_getElem? (i := 1403) (by decide +kernel), List.mem_of_getElem? (i := 1404) (by decide +kernel)⟩
theorem lw_p49 : lw_okq (⟨"ProtocolBenchModel", "comes", "(IIII)Z"⟩, 64) := ⟨⟨by decide +kernel, by decide +kernel⟩, List.mem_of_getElem? (i := 1087) (by decide +kernel), List.mem_of_getElem? (i := 1407) (by decide +kernel), List.mem_of_getElem? (i := 1408) (by decide +kernel)⟩
theorem lw_p50 : lw_okq (⟨"ProtocolBenchModel", "order", "()V"⟩, 64) := ⟨⟨by decide +kernel, by decide +kernel⟩, List.mem_of_getElem? (i := 1087) (by decide +kernel), List.mem_of_getElem? (i := 1411) (by decide +kernel), List.mem_of_getElem? (i := 1412) (by decide +kernel)⟩
theorem lw_p51 : lw_okq (⟨"ProtocolBenchModel", "isBehind", "(III)Z"⟩, 64) := ⟨⟨by decide +kernel, by decide +kernel⟩, List.mem_of_getElem? (i := 1087) (by decide +kernel), List.mem_of_getElem? (i := 1415) (by decide +kernel), List.mem_of_getElem? (i := 1416) (by decide +kernel)⟩
theorem lw_p52 : lw_okq (⟨"ProtocolBenchModel", "placeOf", "()I"⟩, 64) := ⟨⟨by decide +kernel, by decide +kernel⟩, List.mem_of_getElem? (i := 1087) (by decide +kernel), List.mem_of_getElem? (i := 1419) (by decide +kernel), List.mem_of_getElem? (i := 1420) (by decide +kernel)⟩
theorem lw_p53 : lw_okq (⟨"ProtocolBenchModel", "fault", "(IIII)V"⟩, 64) := ⟨⟨by decide +kernel, by decide +kernel⟩, List.mem_of_getElem? (i := 1087) (by decide +kernel), List.mem_of_getElem? (i := 1423) (by decide +kernel), List.mem_of_getElem? (i := 1424) (by decide +kernel)⟩
theorem lw_p54 : lw_okq (⟨"ProtocolBenchModel", "hasNextWay", "(II)Z"⟩, 64) := ⟨⟨by decide +kernel, by decide +kernel⟩, List.mem_of_getElem? (i := 1087) (by decide +kernel), List.mem_of_getElem? (i := 1427) (by decide +kernel), List.mem_of_getElem? (i := 1428) (by decide +kernel)⟩
theorem lw_p55 : lw_okq (⟨"ProtocolBenchModel", "nextChoice", "(III)I"⟩, 64) := ⟨⟨by decide +kernel, by decide +kernel⟩, List.mem_of_getElem? (i := 1087) (by decide +kernel), List.mem_of_getElem? (i := 1431) (by decide +kernel), List.mem_of_getElem? (i := 1432) (by decide +kernel)⟩
theorem lw_p56 : lw_okq (⟨"ProtocolBenchModel", "isFirst", "(III)Z"⟩, 64) := ⟨⟨by decide +kernel, by decide +kernel⟩, List.mem_of_getElem? (i := 1087) (by decide +kernel), List.mem_of_getElem? (i := 1435) (by decide +kernel), List.mem_of_getElem? (i := 1436) (by decide +kernel)⟩
theorem lw_p57 : lw_okq (⟨"ProtocolBenchModel", "hasStates", "()Z"⟩, 64) := ⟨⟨by decide +kernel, by decide +kernel⟩, List.mem_of_getElem? (i := 1087) (by decide +kernel), List.mem_of_getElem? (i := 1443) (by decide +kernel), List.mem_of_getElem? (i := 1444) (by decide +kernel)⟩
theorem lw_p58 : lw_okq (⟨"ProtocolBenchModel", "isState", "(I)Z"⟩, 64) := ⟨⟨by decide +kernel, by decide +kernel⟩, List.mem_of_getElem? (i := 1087) (by decide +kernel), List.mem_of_getElem? (i := 1447) (by decide +kernel), List.mem_of_getElem? (i := 1448) (by decide +kernel)⟩
theorem lw_p59 : lw_okq (⟨"ProtocolBenchModel", "isMember", "(II)Z"⟩, 64) := ⟨⟨by decide +kernel, by decide +kernel⟩, List.mem_of_getElem? (i := 1087) (by decide +kernel), List.mem_of_getElem? (i := 1456) (by decide +kernel), List.mem_of_getElem? (i := 1457) (by decide +kernel)⟩
theorem lw_p60 : lw_okq (⟨"ProtocolBenchModel", "movesOf", "(I)I"⟩, 64) := ⟨⟨by decide +kernel, by decide +kernel⟩, List.mem_of_getElem? (i := 1087) (by decide +kernel), List.mem_of_getElem? (i := 1472) (by decide +kernel), List.mem_of_getElem? (i := 1473) (by decide +kernel)⟩
theorem lw_p61 : lw_okq (⟨"ProtocolBenchModel", "isStuck", "(I)Z"⟩, 64) := ⟨⟨by decide +kernel, by decide +kernel⟩, List.mem_of_getElem? (i := 1087) (by decide +kernel), List.mem_of_getElem? (i := 1492) (by decide +kernel), List.mem_of_getElem? (i := 1493) (by decide +kernel)⟩
theorem lw_p62 : lw_okq (⟨"ProtocolBenchModel", "takeWhereNot", "(I)V"⟩, 64) := ⟨⟨by decide +kernel, by decide +kernel⟩, List.mem_of_getElem? (i := 1087) (by decide +kernel), List.mem_of_getElem? (i := 1508) (by decide +kernel), List.mem_of_getElem? (i := 1509) (by decide +kernel)⟩
theorem lw_p63 : lw_okq (⟨"ProtocolBenchModel", "findKnots", "(Z)V"⟩, 64) := ⟨⟨by decide +kernel, by decide +kernel⟩, List.mem_of_getElem? (i := 1087) (by decide +kernel), List.mem_of_getElem? (i := 1512) (by decide +kernel), List.mem_of_getElem? (i := 1513) (by decide +kernel)⟩
def lw_privs_4 : List (MethodName × Nat) := [(⟨"ProtocolBenchModel", "letterGoes", "(II)V"⟩, 64), (⟨"ProtocolBenchModel", "comes", "(IIII)Z"⟩, 64), (⟨"ProtocolBenchModel", "order", "()V"⟩, 64), (⟨"ProtocolBenchModel", "isBehind", "(III)Z"⟩, 64), (⟨"ProtocolBenchModel", "placeOf", "()I"⟩, 64), (⟨"ProtocolBenchModel", "fault", "(IIII)V"⟩, 64), (⟨"ProtocolBenchModel", "hasNextWay", "(II)Z"⟩, 64), (⟨"ProtocolBenchModel", "nextChoice", "(III)I"⟩, 64), (⟨"ProtocolBenchModel", "isFirst", "(III)Z"⟩, 64), (⟨"ProtocolBenchModel", "hasStates", "()Z"⟩, 64), (⟨"ProtocolBenchModel", "isState", "(I)Z"⟩, 64), (⟨"ProtocolBenchModel", "isMember", "(II)Z"⟩, 64), (⟨"ProtocolBenchModel", "movesOf", "(I)I"⟩, 64), (⟨"ProtocolBenchModel", "isStuck", "(I)Z"⟩, 64), (⟨"ProtocolBenchModel", "takeWhereNot", "(I)V"⟩, 64), (⟨"ProtocolBenchModel", "findKnots", "(Z)V"⟩, 64)]
theorem lw_r4 : ∀ q ∈ lw_privs_4, lw_okq q := List.forall_mem_cons.mpr ⟨lw_p48, List.forall_mem_cons.mpr ⟨lw_p49, List.forall_mem_cons.mpr ⟨lw_p50, List.forall_mem_cons.mpr ⟨lw_p51, List.forall_mem_cons.mpr ⟨lw_p52, List.forall_mem_cons.mpr ⟨lw_p53, List.forall_mem_cons.mpr ⟨lw_p54, List.forall_mem_cons.mpr ⟨lw_p55, List.forall_mem_cons.mpr ⟨lw_p56, List.forall_mem_cons.mpr ⟨lw_p57, List.forall_mem_cons.mpr ⟨lw_p58, List.forall_mem_cons.mpr ⟨lw_p59, List.forall_mem_cons.mpr ⟨lw_p60, List.forall_mem_cons.mpr ⟨lw_p61, List.forall_mem_cons.mpr ⟨lw_p62, List.forall_mem_cons.mpr ⟨lw_p63, fun _ h => absurd h List.not_mem_nil⟩⟩⟩⟩⟩⟩⟩⟩⟩⟩⟩⟩⟩⟩⟩⟩
theorem lw_p64 : lw_okq (⟨"ProtocolBenchModel", "goAhead", "(I[Z)V"⟩, 64) := ⟨⟨by decide +kernel, by decide +kernel⟩, List.mem_of_getElem? (i := 1087) (by decide +kernel), List.mem_of_getElem? (i := 1516) (by decide +kernel), List.mem_of_getElem? (i := 1517) (by decide +kernel)⟩
theorem lw_p65 : lw_okq (⟨"ProtocolBenchModel", "goBack", "(I[Z)V"⟩, 64) := ⟨⟨by decide +kernel, by decide +kernel⟩, List.mem_of_getElem? (i := 1087) (by decide +kernel), List.mem_of_getElem? (i := 1520) (by decide +kernel), List.mem_of_getElem? (i := 1521) (by decide +kernel)⟩
theorem lw_p66 : lw_okq (⟨"ProtocolBenchModel", "hasMove", "()Z"⟩, 64) := ⟨⟨by decide +kernel, by decide +kernel⟩, List.mem_of_getElem? (i := 1087) (by decide +kernel), List.mem_of_getElem? (i := 1524) (by decide +kernel), List.mem_of_getElem? (i := 1525) (by decide +kernel)⟩
theorem lw_p67 : lw_okq (⟨"ProtocolBenchModel", "isFair", "()Z"⟩, 64) := ⟨⟨by decide +kernel, by decide +kernel⟩, List.mem_of_getElem? (i := 1087) (by decide +kernel), List.mem_of_getElem? (i := 1528) (by decide +kernel), List.mem_of_getElem? (i := 1529) (by decide +kernel)⟩
theorem lw_p68 : lw_okq (⟨"ProtocolBenchModel", "hasTurn", "(II)Z"⟩, 64) := ⟨⟨by decide +kernel, by decide +kernel⟩, List.mem_of_getElem? (i := 1087) (by decide +kernel), List.mem_of_getElem? (i := 1532) (by decide +kernel), List.mem_of_getElem? (i := 1533) (by decide +kernel)⟩
theorem lw_p69 : lw_okq (⟨"ProtocolBenchModel", "divide", "()I"⟩, 64) := ⟨⟨by decide +kernel, by decide +kernel⟩, List.mem_of_getElem? (i := 1087) (by decide +kernel), List.mem_of_getElem? (i := 1548) (by decide +kernel), List.mem_of_getElem? (i := 1549) (by decide +kernel)⟩
theorem lw_p70 : lw_okq (⟨"ProtocolBenchModel", "isSeenAlike", "(II)Z"⟩, 64) := ⟨⟨by decide +kernel, by decide +kernel⟩, List.mem_of_getElem? (i := 1087) (by decide +kernel), List.mem_of_getElem? (i := 1552) (by decide +kernel), List.mem_of_getElem? (i := 1553) (by decide +kernel)⟩
theorem lw_p71 : lw_okq (⟨"ProtocolBenchModel", "findSigns", "()V"⟩, 64) := ⟨⟨by decide +kernel, by decide +kernel⟩, List.mem_of_getElem? (i := 1087) (by decide +kernel), List.mem_of_getElem? (i := 1556) (by decide +kernel), List.mem_of_getElem? (i := 1557) (by decide +kernel)⟩
theorem lw_p72 : lw_okq (⟨"ProtocolBenchModel", "hasSameSigns", "(II)Z"⟩, 64) := ⟨⟨by decide +kernel, by decide +kernel⟩, List.mem_of_getElem? (i := 1087) (by decide +kernel), List.mem_of_getElem? (i := 1560) (by decide +kernel), List.mem_of_getElem? (i := 1561) (by decide +kernel)⟩
def lw_privs_5 : List (MethodName × Nat) := [(⟨"ProtocolBenchModel", "goAhead", "(I[Z)V"⟩, 64), (⟨"ProtocolBenchModel", "goBack", "(I[Z)V"⟩, 64), (⟨"ProtocolBenchModel", "hasMove", "()Z"⟩, 64), (⟨"ProtocolBenchModel", "isFair", "()Z"⟩, 64), (⟨"ProtocolBenchModel", "hasTurn", "(II)Z"⟩, 64), (⟨"ProtocolBenchModel", "divide", "()I"⟩, 64), (⟨"ProtocolBenchModel", "isSeenAlike", "(II)Z"⟩, 64), (⟨"ProtocolBenchModel", "findSigns", "()V"⟩, 64), (⟨"ProtocolBenchModel", "hasSameSigns", "(II)Z"⟩, 64)]
theorem lw_r5 : ∀ q ∈ lw_privs_5, lw_okq q := List.forall_mem_cons.mpr ⟨lw_p64, List.forall_mem_cons.mpr ⟨lw_p65, List.forall_mem_cons.mpr ⟨lw_p66, List.forall_mem_cons.mpr ⟨lw_p67, List.forall_mem_cons.mpr ⟨lw_p68, List.forall_mem_cons.mpr ⟨lw_p69, List.forall_mem_cons.mpr ⟨lw_p70, List.forall_mem_cons.mpr ⟨lw_p71, List.forall_mem_cons.mpr ⟨lw_p72, fun _ h => absurd h List.not_mem_nil⟩⟩⟩⟩⟩⟩⟩⟩⟩
def lw_privs : List (MethodName × Nat) := lw_privs_1 ++ (lw_privs_2 ++ (lw_privs_3 ++ (lw_privs_4 ++ (lw_privs_5))))
def lw_tbl : List Cond := k2_sels lw_privs ++ tables_1
theorem lw_privs_ok : ∀ q ∈ lw_privs, lw_okq q := by
  show ∀ q ∈ lw_privs_1 ++ (lw_privs_2 ++ (lw_privs_3 ++ (lw_privs_4 ++ (lw_privs_5)))), lw_okq q
  exact List.forall_mem_append.mpr ⟨lw_r1, List.forall_mem_append.mpr ⟨lw_r2, List.forall_mem_append.mpr ⟨lw_r3, List.forall_mem_append.mpr ⟨lw_r4, lw_r5⟩⟩⟩⟩
end
section
def RX0 : String := "ProtocolBench$Division"
def TX0 : u_T := fun k => match k with
  | 0 => ("ProtocolBench$Division", "observed", "I", false)
  | 1 => ("ProtocolBench$Division", "parts", "I", false)
  | 2 => ("ProtocolBench$Division", "partOf", "[I", false)
  | 3 => ("ProtocolBench$Division", "graph", "LProtocolBench$Graph;", true)
  | 4 => ("ProtocolBench$Division", "reckoner", "LProtocolBench$Reckoner;", true)
  | 5 => ("ProtocolBench$Division", "observedExpr", "[I", true)
  | 6 => ("ProtocolBench$Division", "keys", "[I", true)
  | 7 => ("ProtocolBench$Division", "newPartOf", "[I", false)
  | 8 => ("ProtocolBench$Division", "firstNew", "[I", true)
  | 9 => ("ProtocolBench$Division", "nextNew", "[I", true)
  | 10 => ("ProtocolBench$Division", "leastState", "[I", true)
  | _ => ("ProtocolBench$Division", "isMade", "Z", false)
def tyX0 : Nat → FieldType := fun k => match k with
  | 0 => .int
  | 1 => .int
  | 2 => .array .int
  | 3 => .object "ProtocolBench$Graph"
  | 4 => .object "ProtocolBench$Reckoner"
  | 5 => .array .int
  | 6 => .array .int
  | 7 => .array .int
  | 8 => .array .int
  | 9 => .array .int
  | 10 => .array .int
  | _ => .boolean
theorem nmX0 : ∀ a, a < 12 → ∀ b, b < 12 → a ≠ b → (TX0 a).2.1 ≠ (TX0 b).2.1 := by decide +kernel
theorem tyX0_ok : ∀ k, k < 12 → parseFieldDescriptor (TX0 k).2.2.1 = some (tyX0 k) := by decide +kernel
abbrev cX0_init : ByteArray := prog_2_method_1_code
def yX0_init : MethodName := ⟨RX0, "<init>", "(LProtocolBench$Graph;LProtocolBench$Reckoner;)V"⟩
abbrev cX0_observes : ByteArray := prog_2_method_2_code
def yX0_observes : MethodName := ⟨RX0, "observes", "(I)Z"⟩
abbrev cX0_addObserved : ByteArray := prog_2_method_3_code
def yX0_addObserved : MethodName := ⟨RX0, "addObserved", "(I)I"⟩
abbrev cX0_forget : ByteArray := prog_2_method_4_code
def yX0_forget : MethodName := ⟨RX0, "forget", "()V"⟩
abbrev cX0_makeSure : ByteArray := prog_2_method_5_code
def yX0_makeSure : MethodName := ⟨RX0, "makeSure", "()V"⟩
abbrev cX0_keyByObserved : ByteArray := prog_2_method_6_code
def yX0_keyByObserved : MethodName := ⟨RX0, "keyByObserved", "()V"⟩
abbrev cX0_keyByMoves : ByteArray := prog_2_method_7_code
def yX0_keyByMoves : MethodName := ⟨RX0, "keyByMoves", "(I)V"⟩
abbrev cX0_split : ByteArray := prog_2_method_8_code
def yX0_split : MethodName := ⟨RX0, "split", "(I)V"⟩
abbrev cX0_newPartLike : ByteArray := prog_2_method_9_code
def yX0_newPartLike : MethodName := ⟨RX0, "newPartLike", "(II)I"⟩
abbrev cX0_haveSameKeys : ByteArray := prog_2_method_10_code
def yX0_haveSameKeys : MethodName := ⟨RX0, "haveSameKeys", "(III)Z"⟩
abbrev cX0_openPart : ByteArray := prog_2_method_11_code
def yX0_openPart : MethodName := ⟨RX0, "openPart", "(I)I"⟩
def RX1 : String := "ProtocolBench$Exprs"
def TX1 : u_T := fun k => match k with
  | 0 => ("ProtocolBench$Exprs", "value", "[I", true)
  | 1 => ("ProtocolBench$Exprs", "told", "I", false)
  | 2 => ("ProtocolBench$Exprs", "roles", "LProtocolBench$Roles;", true)
  | 3 => ("ProtocolBench$Exprs", "kinds", "[I", true)
  | 4 => ("ProtocolBench$Exprs", "a", "[I", true)
  | 5 => ("ProtocolBench$Exprs", "b", "[I", true)
  | 6 => ("ProtocolBench$Exprs", "c", "[I", true)
  | 7 => ("ProtocolBench$Exprs", "uses", "[I", true)
  | 8 => ("ProtocolBench$Exprs", "ofMember", "[Z", true)
  | _ => ("ProtocolBench$Exprs", "namesMembers", "Z", false)
def tyX1 : Nat → FieldType := fun k => match k with
  | 0 => .array .int
  | 1 => .int
  | 2 => .object "ProtocolBench$Roles"
  | 3 => .array .int
  | 4 => .array .int
  | 5 => .array .int
  | 6 => .array .int
  | 7 => .array .int
  | 8 => .array .boolean
  | _ => .boolean
theorem nmX1 : ∀ a, a < 10 → ∀ b, b < 10 → a ≠ b → (TX1 a).2.1 ≠ (TX1 b).2.1 := by decide +kernel
theorem tyX1_ok : ∀ k, k < 10 → parseFieldDescriptor (TX1 k).2.2.1 = some (tyX1 k) := by decide +kernel
abbrev cX1_init : ByteArray := prog_3_method_1_code
def yX1_init : MethodName := ⟨RX1, "<init>", "(LProtocolBench$Roles;)V"⟩
abbrev cX1_has : ByteArray := prog_3_method_2_code
def yX1_has : MethodName := ⟨RX1, "has", "(I)Z"⟩
abbrev cX1_isOwned : ByteArray := prog_3_method_3_code
def yX1_isOwned : MethodName := ⟨RX1, "isOwned", "(I)Z"⟩
abbrev cX1_tellsMembersApart : ByteArray := prog_3_method_4_code
def yX1_tellsMembersApart : MethodName := ⟨RX1, "tellsMembersApart", "()Z"⟩
abbrev cX1_add : ByteArray := prog_3_method_5_code
def yX1_add : MethodName := ⟨RX1, "add", "(IIII)I"⟩
abbrev cX1_isMade : ByteArray := prog_3_method_6_code
def yX1_isMade : MethodName := ⟨RX1, "isMade", "(I)Z"⟩
abbrev cX1_isMadeOfTwo : ByteArray := prog_3_method_7_code
def yX1_isMadeOfTwo : MethodName := ⟨RX1, "isMadeOfTwo", "(I)Z"⟩
abbrev cX1_dropUse : ByteArray := prog_3_method_8_code
def yX1_dropUse : MethodName := ⟨RX1, "dropUse", "(I)V"⟩
abbrev cX1_addUse : ByteArray := prog_3_method_9_code
def yX1_addUse : MethodName := ⟨RX1, "addUse", "(II)V"⟩
abbrev cX1_spreadUses : ByteArray := prog_3_method_10_code
def yX1_spreadUses : MethodName := ⟨RX1, "spreadUses", "()V"⟩
abbrev cX1_namesBeyond : ByteArray := prog_3_method_11_code
def yX1_namesBeyond : MethodName := ⟨RX1, "namesBeyond", "(II)Z"⟩
abbrev cX1_reckon : ByteArray := prog_3_method_12_code
def yX1_reckon : MethodName := ⟨RX1, "reckon", "(LProtocolBench$Row;III)V"⟩
abbrev cX1_ofParts : ByteArray := prog_3_method_13_code
def yX1_ofParts : MethodName := ⟨RX1, "ofParts", "(III)I"⟩
abbrev cX1_ofRow : ByteArray := prog_3_method_14_code
def yX1_ofRow : MethodName := ⟨RX1, "ofRow", "(ILProtocolBench$Row;II)I"⟩
def RX2 : String := "ProtocolBench$Graph"
def TX2 : u_T := fun k => match k with
  | 0 => ("ProtocolBench$Graph", "isThere", "Z", false)
  | 1 => ("ProtocolBench$Graph", "isSpent", "Z", false)
  | 2 => ("ProtocolBench$Graph", "states", "I", false)
  | 3 => ("ProtocolBench$Graph", "moveCount", "I", false)
  | 4 => ("ProtocolBench$Graph", "faultState", "I", false)
  | 5 => ("ProtocolBench$Graph", "faultRole", "I", false)
  | 6 => ("ProtocolBench$Graph", "faultMember", "I", false)
  | 7 => ("ProtocolBench$Graph", "faultStep", "I", false)
  | 8 => ("ProtocolBench$Graph", "firstMove", "[I", true)
  | 9 => ("ProtocolBench$Graph", "moveTo", "[I", true)
  | 10 => ("ProtocolBench$Graph", "wayLength", "[I", true)
  | 11 => ("ProtocolBench$Graph", "cameFrom", "[I", true)
  | 12 => ("ProtocolBench$Graph", "cameBy", "[I", true)
  | 13 => ("ProtocolBench$Graph", "moveBy", "[I", true)
  | 14 => ("ProtocolBench$Graph", "words", "[I", true)
  | _ => ("ProtocolBench$Graph", "slots", "[I", true)
def tyX2 : Nat → FieldType := fun k => match k with
  | 0 => .boolean
  | 1 => .boolean
  | 2 => .int
  | 3 => .int
  | 4 => .int
  | 5 => .int
  | 6 => .int
  | 7 => .int
  | 8 => .array .int
  | 9 => .array .int
  | 10 => .array .int
  | 11 => .array .int
  | 12 => .array .int
  | 13 => .array .int
  | 14 => .array .int
  | _ => .array .int
theorem nmX2 : ∀ a, a < 16 → ∀ b, b < 16 → a ≠ b → (TX2 a).2.1 ≠ (TX2 b).2.1 := by decide +kernel
theorem tyX2_ok : ∀ k, k < 16 → parseFieldDescriptor (TX2 k).2.2.1 = some (tyX2 k) := by decide +kernel
abbrev cX2_init : ByteArray := prog_4_method_1_code
def yX2_init : MethodName := ⟨RX2, "<init>", "()V"⟩
abbrev cX2_clear : ByteArray := prog_4_method_2_code
def yX2_clear : MethodName := ⟨RX2, "clear", "()V"⟩
abbrev cX2_begin : ByteArray := prog_4_method_3_code
def yX2_begin : MethodName := ⟨RX2, "begin", "(LProtocolBench$Row;)V"⟩
abbrev cX2_isUsable : ByteArray := prog_4_method_4_code
def yX2_isUsable : MethodName := ⟨RX2, "isUsable", "()Z"⟩
abbrev cX2_has : ByteArray := prog_4_method_5_code
def yX2_has : MethodName := ⟨RX2, "has", "(I)Z"⟩
abbrev cX2_load : ByteArray := prog_4_method_6_code
def yX2_load : MethodName := ⟨RX2, "load", "(ILProtocolBench$Row;)V"⟩
abbrev cX2_movesFrom : ByteArray := prog_4_method_7_code
def yX2_movesFrom : MethodName := ⟨RX2, "movesFrom", "(I)I"⟩
abbrev cX2_roleOfMove : ByteArray := prog_4_method_8_code
def yX2_roleOfMove : MethodName := ⟨RX2, "roleOfMove", "(I)I"⟩
abbrev cX2_memberOfMove : ByteArray := prog_4_method_9_code
def yX2_memberOfMove : MethodName := ⟨RX2, "memberOfMove", "(I)I"⟩
abbrev cX2_stepOfMove : ByteArray := prog_4_method_10_code
def yX2_stepOfMove : MethodName := ⟨RX2, "stepOfMove", "(I)I"⟩
abbrev cX2_moverBit : ByteArray := prog_4_method_11_code
def yX2_moverBit : MethodName := ⟨RX2, "moverBit", "(I)I"⟩
abbrev cX2_hasMemberMove : ByteArray := prog_4_method_12_code
def yX2_hasMemberMove : MethodName := ⟨RX2, "hasMemberMove", "(I)Z"⟩
abbrev cX2_mover : ByteArray := prog_4_method_13_code
def yX2_mover : MethodName := ⟨RX2, "mover", "(III)I"⟩
abbrev cX2_noteFault : ByteArray := prog_4_method_14_code
def yX2_noteFault : MethodName := ⟨RX2, "noteFault", "(IIII)V"⟩
abbrev cX2_addMove : ByteArray := prog_4_method_15_code
def yX2_addMove : MethodName := ⟨RX2, "addMove", "(ILProtocolBench$Row;I)V"⟩
abbrev cX2_addState : ByteArray := prog_4_method_16_code
def yX2_addState : MethodName := ⟨RX2, "addState", "(LProtocolBench$Row;III)V"⟩
abbrev cX2_slotOf : ByteArray := prog_4_method_17_code
def yX2_slotOf : MethodName := ⟨RX2, "slotOf", "(LProtocolBench$Row;)I"⟩
abbrev cX2_isSame : ByteArray := prog_4_method_18_code
def yX2_isSame : MethodName := ⟨RX2, "isSame", "(ILProtocolBench$Row;)Z"⟩
def RX3 : String := "ProtocolBench$Knots"
def TX3 : u_T := fun k => match k with
  | 0 => ("ProtocolBench$Knots", "protocol", "LProtocolBench$Protocol;", true)
  | 1 => ("ProtocolBench$Knots", "graph", "LProtocolBench$Graph;", true)
  | 2 => ("ProtocolBench$Knots", "reckoner", "LProtocolBench$Reckoner;", true)
  | 3 => ("ProtocolBench$Knots", "isWithin", "[Z", true)
  | 4 => ("ProtocolBench$Knots", "isStart", "[Z", true)
  | 5 => ("ProtocolBench$Knots", "isTied", "[Z", true)
  | 6 => ("ProtocolBench$Knots", "leadsToKnot", "[Z", true)
  | 7 => ("ProtocolBench$Knots", "entered", "[I", true)
  | 8 => ("ProtocolBench$Knots", "lowest", "[I", true)
  | 9 => ("ProtocolBench$Knots", "nextMove", "[I", true)
  | 10 => ("ProtocolBench$Knots", "closedBy", "[I", true)
  | 11 => ("ProtocolBench$Knots", "path", "[I", true)
  | 12 => ("ProtocolBench$Knots", "open", "[I", true)
  | 13 => ("ProtocolBench$Knots", "pathLength", "I", false)
  | 14 => ("ProtocolBench$Knots", "openCount", "I", false)
  | 15 => ("ProtocolBench$Knots", "enteredCount", "I", false)
  | 16 => ("ProtocolBench$Knots", "everyone", "I", false)
  | 17 => ("ProtocolBench$Knots", "movedWithin", "I", false)
  | 18 => ("ProtocolBench$Knots", "idleSomewhere", "I", false)
  | _ => ("ProtocolBench$Knots", "isFairAsked", "Z", false)
def tyX3 : Nat → FieldType := fun k => match k with
  | 0 => .object "ProtocolBench$Protocol"
  | 1 => .object "ProtocolBench$Graph"
  | 2 => .object "ProtocolBench$Reckoner"
  | 3 => .array .boolean
  | 4 => .array .boolean
  | 5 => .array .boolean
  | 6 => .array .boolean
  | 7 => .array .int
  | 8 => .array .int
  | 9 => .array .int
  | 10 => .array .int
  | 11 => .array .int
  | 12 => .array .int
  | 13 => .int
  | 14 => .int
  | 15 => .int
  | 16 => .int
  | 17 => .int
  | 18 => .int
  | _ => .boolean
theorem nmX3 : ∀ a, a < 20 → ∀ b, b < 20 → a ≠ b → (TX3 a).2.1 ≠ (TX3 b).2.1 := by decide +kernel
theorem tyX3_ok : ∀ k, k < 20 → parseFieldDescriptor (TX3 k).2.2.1 = some (tyX3 k) := by decide +kernel
abbrev cX3_init : ByteArray := prog_5_method_1_code
def yX3_init : MethodName := ⟨RX3, "<init>", "(LProtocolBench$Protocol;LProtocolBench$Graph;LProtocolBench$Reckoner;)V"⟩
abbrev cX3_breakerOfAgain : ByteArray := prog_5_method_2_code
def yX3_breakerOfAgain : MethodName := ⟨RX3, "breakerOfAgain", "(IZ)I"⟩
abbrev cX3_breakerOfFromTo : ByteArray := prog_5_method_3_code
def yX3_breakerOfFromTo : MethodName := ⟨RX3, "breakerOfFromTo", "(IIZ)I"⟩
abbrev cX3_firstOfBoth : ByteArray := prog_5_method_4_code
def yX3_firstOfBoth : MethodName := ⟨RX3, "firstOfBoth", "([Z[Z)I"⟩
abbrev cX3_tie : ByteArray := prog_5_method_5_code
def yX3_tie : MethodName := ⟨RX3, "tie", "(Z)V"⟩
abbrev cX3_walk : ByteArray := prog_5_method_6_code
def yX3_walk : MethodName := ⟨RX3, "walk", "(I)V"⟩
abbrev cX3_enter : ByteArray := prog_5_method_7_code
def yX3_enter : MethodName := ⟨RX3, "enter", "(I)V"⟩
abbrev cX3_follow : ByteArray := prog_5_method_8_code
def yX3_follow : MethodName := ⟨RX3, "follow", "(II)V"⟩
abbrev cX3_handBack : ByteArray := prog_5_method_9_code
def yX3_handBack : MethodName := ⟨RX3, "handBack", "(I)V"⟩
abbrev cX3_close : ByteArray := prog_5_method_10_code
def yX3_close : MethodName := ⟨RX3, "close", "(I)V"⟩
abbrev cX3_weigh : ByteArray := prog_5_method_11_code
def yX3_weigh : MethodName := ⟨RX3, "weigh", "(II)Z"⟩
def RX4 : String := "ProtocolBench$Protocol"
def TX4 : u_T := fun k => match k with
  | 0 => ("ProtocolBench$Protocol", "shared", "LProtocolBench$Variables;", true)
  | 1 => ("ProtocolBench$Protocol", "owns", "LProtocolBench$Variables;", true)
  | 2 => ("ProtocolBench$Protocol", "roles", "LProtocolBench$Roles;", true)
  | 3 => ("ProtocolBench$Protocol", "exprs", "LProtocolBench$Exprs;", true)
  | 4 => ("ProtocolBench$Protocol", "steps", "LProtocolBench$Steps;", true)
  | 5 => ("ProtocolBench$Protocol", "room", "[I", true)
  | 6 => ("ProtocolBench$Protocol", "isLoose", "[Z", true)
  | 7 => ("ProtocolBench$Protocol", "losesLetters", "[Z", true)
  | 8 => ("ProtocolBench$Protocol", "channels", "I", false)
  | _ => ("ProtocolBench$Protocol", "takesAlike", "Z", false)
def tyX4 : Nat → FieldType := fun k => match k with
  | 0 => .object "ProtocolBench$Variables"
  | 1 => .object "ProtocolBench$Variables"
  | 2 => .object "ProtocolBench$Roles"
  | 3 => .object "ProtocolBench$Exprs"
  | 4 => .object "ProtocolBench$Steps"
  | 5 => .array .int
  | 6 => .array .boolean
  | 7 => .array .boolean
  | 8 => .int
  | _ => .boolean
theorem nmX4 : ∀ a, a < 10 → ∀ b, b < 10 → a ≠ b → (TX4 a).2.1 ≠ (TX4 b).2.1 := by decide +kernel
theorem tyX4_ok : ∀ k, k < 10 → parseFieldDescriptor (TX4 k).2.2.1 = some (tyX4 k) := by decide +kernel
abbrev cX4_init : ByteArray := prog_6_method_1_code
def yX4_init : MethodName := ⟨RX4, "<init>", "()V"⟩
abbrev cX4_hasChannel : ByteArray := prog_6_method_2_code
def yX4_hasChannel : MethodName := ⟨RX4, "hasChannel", "(I)Z"⟩
abbrev cX4_addChannel : ByteArray := prog_6_method_3_code
def yX4_addChannel : MethodName := ⟨RX4, "addChannel", "(IZZ)I"⟩
abbrev cX4_knowsParts : ByteArray := prog_6_method_4_code
def yX4_knowsParts : MethodName := ⟨RX4, "knowsParts", "(IIII)Z"⟩
abbrev cX4_knowsAct : ByteArray := prog_6_method_5_code
def yX4_knowsAct : MethodName := ⟨RX4, "knowsAct", "(IIII)Z"⟩
abbrev cX4_isSearchable : ByteArray := prog_6_method_6_code
def yX4_isSearchable : MethodName := ⟨RX4, "isSearchable", "()Z"⟩
abbrev cX4_markUses : ByteArray := prog_6_method_7_code
def yX4_markUses : MethodName := ⟨RX4, "markUses", "()V"⟩
abbrev cX4_setFirst : ByteArray := prog_6_method_8_code
def yX4_setFirst : MethodName := ⟨RX4, "setFirst", "(LProtocolBench$Row;)V"⟩
abbrev cX4_someAtNoEnd : ByteArray := prog_6_method_9_code
def yX4_someAtNoEnd : MethodName := ⟨RX4, "someAtNoEnd", "(LProtocolBench$Row;)Z"⟩
def RX5 : String := "ProtocolBench$Reckoner"
def TX5 : u_T := fun k => match k with
  | 0 => ("ProtocolBench$Reckoner", "protocol", "LProtocolBench$Protocol;", true)
  | 1 => ("ProtocolBench$Reckoner", "graph", "LProtocolBench$Graph;", true)
  | _ => ("ProtocolBench$Reckoner", "row", "LProtocolBench$Row;", true)
def tyX5 : Nat → FieldType := fun k => match k with
  | 0 => .object "ProtocolBench$Protocol"
  | 1 => .object "ProtocolBench$Graph"
  | _ => .object "ProtocolBench$Row"
theorem nmX5 : ∀ a, a < 3 → ∀ b, b < 3 → a ≠ b → (TX5 a).2.1 ≠ (TX5 b).2.1 := by decide +kernel
theorem tyX5_ok : ∀ k, k < 3 → parseFieldDescriptor (TX5 k).2.2.1 = some (tyX5 k) := by decide +kernel
abbrev cX5_init : ByteArray := prog_7_method_1_code
def yX5_init : MethodName := ⟨RX5, "<init>", "(LProtocolBench$Protocol;LProtocolBench$Graph;)V"⟩
abbrev cX5_rowOf : ByteArray := prog_7_method_2_code
def yX5_rowOf : MethodName := ⟨RX5, "rowOf", "(I)LProtocolBench$Row;"⟩
abbrev cX5_askNothing : ByteArray := prog_7_method_3_code
def yX5_askNothing : MethodName := ⟨RX5, "askNothing", "()V"⟩
abbrev cX5_askToo : ByteArray := prog_7_method_4_code
def yX5_askToo : MethodName := ⟨RX5, "askToo", "(I)V"⟩
abbrev cX5_ask : ByteArray := prog_7_method_5_code
def yX5_ask : MethodName := ⟨RX5, "ask", "(I)V"⟩
abbrev cX5_lookAt : ByteArray := prog_7_method_6_code
def yX5_lookAt : MethodName := ⟨RX5, "lookAt", "(I)V"⟩
abbrev cX5_answer : ByteArray := prog_7_method_7_code
def yX5_answer : MethodName := ⟨RX5, "answer", "(I)I"⟩
def RX6 : String := "ProtocolBench$Roles"
def TX6 : u_T := fun k => match k with
  | 0 => ("ProtocolBench$Roles", "members", "[I", true)
  | 1 => ("ProtocolBench$Roles", "told", "I", false)
  | _ => ("ProtocolBench$Roles", "endBits", "[I", true)
def tyX6 : Nat → FieldType := fun k => match k with
  | 0 => .array .int
  | 1 => .int
  | _ => .array .int
theorem nmX6 : ∀ a, a < 3 → ∀ b, b < 3 → a ≠ b → (TX6 a).2.1 ≠ (TX6 b).2.1 := by decide +kernel
theorem tyX6_ok : ∀ k, k < 3 → parseFieldDescriptor (TX6 k).2.2.1 = some (tyX6 k) := by decide +kernel
abbrev cX6_init : ByteArray := prog_8_method_1_code
def yX6_init : MethodName := ⟨RX6, "<init>", "()V"⟩
abbrev cX6_has : ByteArray := prog_8_method_2_code
def yX6_has : MethodName := ⟨RX6, "has", "(I)Z"⟩
abbrev cX6_hasMember : ByteArray := prog_8_method_3_code
def yX6_hasMember : MethodName := ⟨RX6, "hasMember", "(II)Z"⟩
abbrev cX6_add : ByteArray := prog_8_method_4_code
def yX6_add : MethodName := ⟨RX6, "add", "(I)I"⟩
abbrev cX6_isEnd : ByteArray := prog_8_method_5_code
def yX6_isEnd : MethodName := ⟨RX6, "isEnd", "(II)Z"⟩
abbrev cX6_setEnd : ByteArray := prog_8_method_6_code
def yX6_setEnd : MethodName := ⟨RX6, "setEnd", "(II)V"⟩
abbrev cX6_everyoneBits : ByteArray := prog_8_method_7_code
def yX6_everyoneBits : MethodName := ⟨RX6, "everyoneBits", "()I"⟩
def RX7 : String := "ProtocolBench$Row"
def TX7 : u_T := fun k => match k with
  | _ => ("ProtocolBench$Row", "words", "[I", true)
def tyX7 : Nat → FieldType := fun k => match k with
  | _ => .array .int
theorem nmX7 : ∀ a, a < 1 → ∀ b, b < 1 → a ≠ b → (TX7 a).2.1 ≠ (TX7 b).2.1 := by decide +kernel
theorem tyX7_ok : ∀ k, k < 1 → parseFieldDescriptor (TX7 k).2.2.1 = some (tyX7 k) := by decide +kernel
abbrev cX7_init : ByteArray := prog_9_method_1_code
def yX7_init : MethodName := ⟨RX7, "<init>", "()V"⟩
abbrev cX7_clear : ByteArray := prog_9_method_2_code
def yX7_clear : MethodName := ⟨RX7, "clear", "()V"⟩
abbrev cX7_copy : ByteArray := prog_9_method_3_code
def yX7_copy : MethodName := ⟨RX7, "copy", "(LProtocolBench$Row;)V"⟩
abbrev cX7_sharedValue : ByteArray := prog_9_method_4_code
def yX7_sharedValue : MethodName := ⟨RX7, "sharedValue", "(I)I"⟩
abbrev cX7_setShared : ByteArray := prog_9_method_5_code
def yX7_setShared : MethodName := ⟨RX7, "setShared", "(II)V"⟩
abbrev cX7_placeOf : ByteArray := prog_9_method_6_code
def yX7_placeOf : MethodName := ⟨RX7, "placeOf", "(II)I"⟩
abbrev cX7_setPlace : ByteArray := prog_9_method_7_code
def yX7_setPlace : MethodName := ⟨RX7, "setPlace", "(III)V"⟩
abbrev cX7_ownValue : ByteArray := prog_9_method_8_code
def yX7_ownValue : MethodName := ⟨RX7, "ownValue", "(III)I"⟩
abbrev cX7_setOwn : ByteArray := prog_9_method_9_code
def yX7_setOwn : MethodName := ⟨RX7, "setOwn", "(IIII)V"⟩
abbrev cX7_howManyAt : ByteArray := prog_9_method_10_code
def yX7_howManyAt : MethodName := ⟨RX7, "howManyAt", "(III)I"⟩
abbrev cX7_held : ByteArray := prog_9_method_11_code
def yX7_held : MethodName := ⟨RX7, "held", "(I)I"⟩
abbrev cX7_letterAt : ByteArray := prog_9_method_12_code
def yX7_letterAt : MethodName := ⟨RX7, "letterAt", "(II)I"⟩
abbrev cX7_put : ByteArray := prog_9_method_13_code
def yX7_put : MethodName := ⟨RX7, "put", "(II)V"⟩
abbrev cX7_take : ByteArray := prog_9_method_14_code
def yX7_take : MethodName := ⟨RX7, "take", "(II)V"⟩
abbrev cX7_nextUnlike : ByteArray := prog_9_method_15_code
def yX7_nextUnlike : MethodName := ⟨RX7, "nextUnlike", "(II)I"⟩
abbrev cX7_isFirstOfLike : ByteArray := prog_9_method_16_code
def yX7_isFirstOfLike : MethodName := ⟨RX7, "isFirstOfLike", "(II)Z"⟩
abbrev cX7_arrange : ByteArray := prog_9_method_17_code
def yX7_arrange : MethodName := ⟨RX7, "arrange", "(II)V"⟩
def RX8 : String := "ProtocolBench$Searcher"
def TX8 : u_T := fun k => match k with
  | 0 => ("ProtocolBench$Searcher", "protocol", "LProtocolBench$Protocol;", true)
  | 1 => ("ProtocolBench$Searcher", "graph", "LProtocolBench$Graph;", true)
  | 2 => ("ProtocolBench$Searcher", "now", "LProtocolBench$Row;", true)
  | 3 => ("ProtocolBench$Searcher", "then", "LProtocolBench$Row;", true)
  | _ => ("ProtocolBench$Searcher", "picked", "[I", true)
def tyX8 : Nat → FieldType := fun k => match k with
  | 0 => .object "ProtocolBench$Protocol"
  | 1 => .object "ProtocolBench$Graph"
  | 2 => .object "ProtocolBench$Row"
  | 3 => .object "ProtocolBench$Row"
  | _ => .array .int
theorem nmX8 : ∀ a, a < 5 → ∀ b, b < 5 → a ≠ b → (TX8 a).2.1 ≠ (TX8 b).2.1 := by decide +kernel
theorem tyX8_ok : ∀ k, k < 5 → parseFieldDescriptor (TX8 k).2.2.1 = some (tyX8 k) := by decide +kernel
abbrev cX8_init : ByteArray := prog_10_method_1_code
def yX8_init : MethodName := ⟨RX8, "<init>", "(LProtocolBench$Protocol;LProtocolBench$Graph;)V"⟩
abbrev cX8_start : ByteArray := prog_10_method_2_code
def yX8_start : MethodName := ⟨RX8, "start", "()V"⟩
abbrev cX8_goThrough : ByteArray := prog_10_method_3_code
def yX8_goThrough : MethodName := ⟨RX8, "goThrough", "(I)V"⟩
abbrev cX8_goMember : ByteArray := prog_10_method_4_code
def yX8_goMember : MethodName := ⟨RX8, "goMember", "(III)V"⟩
abbrev cX8_canDo : ByteArray := prog_10_method_5_code
def yX8_canDo : MethodName := ⟨RX8, "canDo", "(I)Z"⟩
abbrev cX8_goWays : ByteArray := prog_10_method_6_code
def yX8_goWays : MethodName := ⟨RX8, "goWays", "(III)V"⟩
abbrev cX8_doActs : ByteArray := prog_10_method_7_code
def yX8_doActs : MethodName := ⟨RX8, "doActs", "(III)Z"⟩
abbrev cX8_giveShared : ByteArray := prog_10_method_8_code
def yX8_giveShared : MethodName := ⟨RX8, "giveShared", "(II)Z"⟩
abbrev cX8_giveOwn : ByteArray := prog_10_method_9_code
def yX8_giveOwn : MethodName := ⟨RX8, "giveOwn", "(IIII)Z"⟩
abbrev cX8_send : ByteArray := prog_10_method_10_code
def yX8_send : MethodName := ⟨RX8, "send", "(II)Z"⟩
abbrev cX8_pickNext : ByteArray := prog_10_method_11_code
def yX8_pickNext : MethodName := ⟨RX8, "pickNext", "(I)Z"⟩
abbrev cX8_takeAlike : ByteArray := prog_10_method_12_code
def yX8_takeAlike : MethodName := ⟨RX8, "takeAlike", "(I)V"⟩
abbrev cX8_lose : ByteArray := prog_10_method_13_code
def yX8_lose : MethodName := ⟨RX8, "lose", "(II)V"⟩
def RX9 : String := "ProtocolBench$Steps"
def TX9 : u_T := fun k => match k with
  | 0 => ("ProtocolBench$Steps", "roleOf", "[I", true)
  | 1 => ("ProtocolBench$Steps", "from", "[I", true)
  | 2 => ("ProtocolBench$Steps", "to", "[I", true)
  | 3 => ("ProtocolBench$Steps", "guard", "[I", true)
  | 4 => ("ProtocolBench$Steps", "acts", "[I", true)
  | 5 => ("ProtocolBench$Steps", "actKind", "[I", true)
  | 6 => ("ProtocolBench$Steps", "actA", "[I", true)
  | 7 => ("ProtocolBench$Steps", "actB", "[I", true)
  | _ => ("ProtocolBench$Steps", "told", "I", false)
def tyX9 : Nat → FieldType := fun k => match k with
  | 0 => .array .int
  | 1 => .array .int
  | 2 => .array .int
  | 3 => .array .int
  | 4 => .array .int
  | 5 => .array .int
  | 6 => .array .int
  | 7 => .array .int
  | _ => .int
theorem nmX9 : ∀ a, a < 9 → ∀ b, b < 9 → a ≠ b → (TX9 a).2.1 ≠ (TX9 b).2.1 := by decide +kernel
theorem tyX9_ok : ∀ k, k < 9 → parseFieldDescriptor (TX9 k).2.2.1 = some (tyX9 k) := by decide +kernel
abbrev cX9_init : ByteArray := prog_11_method_1_code
def yX9_init : MethodName := ⟨RX9, "<init>", "()V"⟩
abbrev cX9_has : ByteArray := prog_11_method_2_code
def yX9_has : MethodName := ⟨RX9, "has", "(I)Z"⟩
abbrev cX9_add : ByteArray := prog_11_method_3_code
def yX9_add : MethodName := ⟨RX9, "add", "(IIII)I"⟩
abbrev cX9_hasLetterAct : ByteArray := prog_11_method_4_code
def yX9_hasLetterAct : MethodName := ⟨RX9, "hasLetterAct", "(III)Z"⟩
abbrev cX9_addAct : ByteArray := prog_11_method_5_code
def yX9_addAct : MethodName := ⟨RX9, "addAct", "(IIII)I"⟩
def RX10 : String := "ProtocolBench$Variables"
def TX10 : u_T := fun k => match k with
  | 0 => ("ProtocolBench$Variables", "told", "[I", true)
  | 1 => ("ProtocolBench$Variables", "most", "I", true)
  | 2 => ("ProtocolBench$Variables", "low", "[I", true)
  | 3 => ("ProtocolBench$Variables", "high", "[I", true)
  | _ => ("ProtocolBench$Variables", "first", "[I", true)
def tyX10 : Nat → FieldType := fun k => match k with
  | 0 => .array .int
  | 1 => .int
  | 2 => .array .int
  | 3 => .array .int
  | _ => .array .int
theorem nmX10 : ∀ a, a < 5 → ∀ b, b < 5 → a ≠ b → (TX10 a).2.1 ≠ (TX10 b).2.1 := by decide +kernel
theorem tyX10_ok : ∀ k, k < 5 → parseFieldDescriptor (TX10 k).2.2.1 = some (tyX10 k) := by decide +kernel
abbrev cX10_init : ByteArray := prog_12_method_1_code
def yX10_init : MethodName := ⟨RX10, "<init>", "(II)V"⟩
abbrev cX10_fits : ByteArray := prog_12_method_2_code
def yX10_fits : MethodName := ⟨RX10, "fits", "(III)Z"⟩
abbrev cX10_isFull : ByteArray := prog_12_method_3_code
def yX10_isFull : MethodName := ⟨RX10, "isFull", "(I)Z"⟩
abbrev cX10_has : ByteArray := prog_12_method_4_code
def yX10_has : MethodName := ⟨RX10, "has", "(II)Z"⟩
abbrev cX10_add : ByteArray := prog_12_method_5_code
def yX10_add : MethodName := ⟨RX10, "add", "(IIII)I"⟩
abbrev cX10_allows : ByteArray := prog_12_method_6_code
def yX10_allows : MethodName := ⟨RX10, "allows", "(III)Z"⟩
abbrev cX10_firstOf : ByteArray := prog_12_method_7_code
def yX10_firstOf : MethodName := ⟨RX10, "firstOf", "(II)I"⟩
def RX11 : String := "ProtocolBench"
def TX11 : u_T := fun k => match k with
  | 0 => ("ProtocolBench", "protocol", "LProtocolBench$Protocol;", true)
  | 1 => ("ProtocolBench", "graph", "LProtocolBench$Graph;", true)
  | 2 => ("ProtocolBench", "searcher", "LProtocolBench$Searcher;", true)
  | 3 => ("ProtocolBench", "reckoner", "LProtocolBench$Reckoner;", true)
  | 4 => ("ProtocolBench", "knots", "LProtocolBench$Knots;", true)
  | _ => ("ProtocolBench", "division", "LProtocolBench$Division;", true)
def tyX11 : Nat → FieldType := fun k => match k with
  | 0 => .object "ProtocolBench$Protocol"
  | 1 => .object "ProtocolBench$Graph"
  | 2 => .object "ProtocolBench$Searcher"
  | 3 => .object "ProtocolBench$Reckoner"
  | 4 => .object "ProtocolBench$Knots"
  | _ => .object "ProtocolBench$Division"
theorem nmX11 : ∀ a, a < 6 → ∀ b, b < 6 → a ≠ b → (TX11 a).2.1 ≠ (TX11 b).2.1 := by decide +kernel
theorem tyX11_ok : ∀ k, k < 6 → parseFieldDescriptor (TX11 k).2.2.1 = some (tyX11 k) := by decide +kernel
abbrev cX11_init : ByteArray := prog_1_method_1_code
def yX11_init : MethodName := ⟨RX11, "<init>", "()V"⟩
abbrev cX11_shared : ByteArray := prog_1_method_2_code
def yX11_shared : MethodName := ⟨RX11, "shared", "(III)I"⟩
abbrev cX11_role : ByteArray := prog_1_method_3_code
def yX11_role : MethodName := ⟨RX11, "role", "(I)I"⟩
abbrev cX11_own : ByteArray := prog_1_method_4_code
def yX11_own : MethodName := ⟨RX11, "own", "(IIII)I"⟩
abbrev cX11_end : ByteArray := prog_1_method_5_code
def yX11_end : MethodName := ⟨RX11, "end", "(II)I"⟩
abbrev cX11_channel : ByteArray := prog_1_method_6_code
def yX11_channel : MethodName := ⟨RX11, "channel", "(IZZ)I"⟩
abbrev cX11_expr : ByteArray := prog_1_method_7_code
def yX11_expr : MethodName := ⟨RX11, "expr", "(IIII)I"⟩
abbrev cX11_step : ByteArray := prog_1_method_8_code
def yX11_step : MethodName := ⟨RX11, "step", "(IIII)I"⟩
abbrev cX11_act : ByteArray := prog_1_method_9_code
def yX11_act : MethodName := ⟨RX11, "act", "(IIII)I"⟩
abbrev cX11_alike : ByteArray := prog_1_method_10_code
def yX11_alike : MethodName := ⟨RX11, "alike", "(Z)I"⟩
abbrev cX11_search : ByteArray := prog_1_method_11_code
def yX11_search : MethodName := ⟨RX11, "search", "()I"⟩
abbrev cX11_tells : ByteArray := prog_1_method_12_code
def yX11_tells : MethodName := ⟨RX11, "tells", "(II)I"⟩
abbrev cX11_place : ByteArray := prog_1_method_13_code
def yX11_place : MethodName := ⟨RX11, "place", "(III)I"⟩
abbrev cX11_owned : ByteArray := prog_1_method_14_code
def yX11_owned : MethodName := ⟨RX11, "owned", "(IIII)I"⟩
abbrev cX11_letter : ByteArray := prog_1_method_15_code
def yX11_letter : MethodName := ⟨RX11, "letter", "(III)I"⟩
abbrev cX11_moves : ByteArray := prog_1_method_16_code
def yX11_moves : MethodName := ⟨RX11, "moves", "(I)I"⟩
abbrev cX11_move : ByteArray := prog_1_method_17_code
def yX11_move : MethodName := ⟨RX11, "move", "(III)I"⟩
abbrev cX11_depth : ByteArray := prog_1_method_18_code
def yX11_depth : MethodName := ⟨RX11, "depth", "(I)I"⟩
abbrev cX11_came : ByteArray := prog_1_method_19_code
def yX11_came : MethodName := ⟨RX11, "came", "(II)I"⟩
abbrev cX11_stuck : ByteArray := prog_1_method_20_code
def yX11_stuck : MethodName := ⟨RX11, "stuck", "()I"⟩
abbrev cX11_fault : ByteArray := prog_1_method_21_code
def yX11_fault : MethodName := ⟨RX11, "fault", "(I)I"⟩
abbrev cX11_always : ByteArray := prog_1_method_22_code
def yX11_always : MethodName := ⟨RX11, "always", "(I)I"⟩
abbrev cX11_again : ByteArray := prog_1_method_23_code
def yX11_again : MethodName := ⟨RX11, "again", "(IZ)I"⟩
abbrev cX11_fromTo : ByteArray := prog_1_method_24_code
def yX11_fromTo : MethodName := ⟨RX11, "fromTo", "(IIZ)I"⟩
abbrev cX11_observe : ByteArray := prog_1_method_25_code
def yX11_observe : MethodName := ⟨RX11, "observe", "(I)I"⟩
abbrev cX11_classes : ByteArray := prog_1_method_26_code
def yX11_classes : MethodName := ⟨RX11, "classes", "()I"⟩
abbrev cX11_classOf : ByteArray := prog_1_method_27_code
def yX11_classOf : MethodName := ⟨RX11, "classOf", "(I)I"⟩
abbrev cX11_count : ByteArray := prog_1_method_28_code
def yX11_count : MethodName := ⟨RX11, "count", "(I)I"⟩
abbrev cX11_endSearch : ByteArray := prog_1_method_29_code
def yX11_endSearch : MethodName := ⟨RX11, "endSearch", "()V"⟩
abbrev cX11_refusalOfPlain : ByteArray := prog_1_method_30_code
def yX11_refusalOfPlain : MethodName := ⟨RX11, "refusalOfPlain", "(I)I"⟩
abbrev cX11_isDigit : ByteArray := prog_1_method_31_code
def yX11_isDigit : MethodName := ⟨RX11, "isDigit", "(I)Z"⟩
abbrev cX11_asNumber : ByteArray := prog_1_method_32_code
def yX11_asNumber : MethodName := ⟨RX11, "asNumber", "(Z)I"⟩
def RX12 : String := "ProtocolBenchModel"
def TX12 : u_T := fun k => match k with
  | 0 => ("ProtocolBenchModel", "sharedMany", "I", false)
  | 1 => ("ProtocolBenchModel", "sharedLow", "[I", true)
  | 2 => ("ProtocolBenchModel", "sharedHigh", "[I", true)
  | 3 => ("ProtocolBenchModel", "sharedFirst", "[I", true)
  | 4 => ("ProtocolBenchModel", "roles", "I", false)
  | 5 => ("ProtocolBenchModel", "members", "[I", true)
  | 6 => ("ProtocolBenchModel", "owns", "[I", true)
  | 7 => ("ProtocolBenchModel", "ownLow", "[I", true)
  | 8 => ("ProtocolBenchModel", "ownHigh", "[I", true)
  | 9 => ("ProtocolBenchModel", "ownFirst", "[I", true)
  | 10 => ("ProtocolBenchModel", "isEnd", "[Z", true)
  | 11 => ("ProtocolBenchModel", "channels", "I", false)
  | 12 => ("ProtocolBenchModel", "roomOf", "[I", true)
  | 13 => ("ProtocolBenchModel", "isLoose", "[Z", true)
  | 14 => ("ProtocolBenchModel", "loses", "[Z", true)
  | 15 => ("ProtocolBenchModel", "exprs", "I", false)
  | 16 => ("ProtocolBenchModel", "kindOf", "[I", true)
  | 17 => ("ProtocolBenchModel", "aOf", "[I", true)
  | 18 => ("ProtocolBenchModel", "bOf", "[I", true)
  | 19 => ("ProtocolBenchModel", "cOf", "[I", true)
  | 20 => ("ProtocolBenchModel", "isOwned", "[Z", true)
  | 21 => ("ProtocolBenchModel", "steps", "I", false)
  | 22 => ("ProtocolBenchModel", "stepRole", "[I", true)
  | 23 => ("ProtocolBenchModel", "stepFrom", "[I", true)
  | 24 => ("ProtocolBenchModel", "stepTo", "[I", true)
  | 25 => ("ProtocolBenchModel", "stepGuard", "[I", true)
  | 26 => ("ProtocolBenchModel", "actsOf", "[I", true)
  | 27 => ("ProtocolBenchModel", "actKind", "[I", true)
  | 28 => ("ProtocolBenchModel", "actA", "[I", true)
  | 29 => ("ProtocolBenchModel", "actB", "[I", true)
  | 30 => ("ProtocolBenchModel", "isAlike", "Z", false)
  | 31 => ("ProtocolBenchModel", "observed", "I", false)
  | 32 => ("ProtocolBenchModel", "observedOf", "[I", true)
  | 33 => ("ProtocolBenchModel", "hasSearch", "Z", false)
  | 34 => ("ProtocolBenchModel", "isSpent", "Z", false)
  | 35 => ("ProtocolBenchModel", "states", "I", false)
  | 36 => ("ProtocolBenchModel", "cells", "[I", true)
  | 37 => ("ProtocolBenchModel", "cameFrom", "[I", true)
  | 38 => ("ProtocolBenchModel", "cameBy", "[I", true)
  | 39 => ("ProtocolBenchModel", "depthOf", "[I", true)
  | 40 => ("ProtocolBenchModel", "moves", "I", false)
  | 41 => ("ProtocolBenchModel", "firstMove", "[I", true)
  | 42 => ("ProtocolBenchModel", "moveTo", "[I", true)
  | 43 => ("ProtocolBenchModel", "moveRole", "[I", true)
  | 44 => ("ProtocolBenchModel", "moveMember", "[I", true)
  | 45 => ("ProtocolBenchModel", "moveStep", "[I", true)
  | 46 => ("ProtocolBenchModel", "hasFault", "Z", false)
  | 47 => ("ProtocolBenchModel", "faultState", "I", false)
  | 48 => ("ProtocolBenchModel", "faultRole", "I", false)
  | 49 => ("ProtocolBenchModel", "faultMember", "I", false)
  | 50 => ("ProtocolBenchModel", "faultStep", "I", false)
  | 51 => ("ProtocolBenchModel", "next", "[I", true)
  | 52 => ("ProtocolBenchModel", "told", "[I", true)
  | 53 => ("ProtocolBenchModel", "choice", "[I", true)
  | 54 => ("ProtocolBenchModel", "isUsed", "[Z", true)
  | 55 => ("ProtocolBenchModel", "isIn", "[Z", true)
  | 56 => ("ProtocolBenchModel", "ahead", "[Z", true)
  | 57 => ("ProtocolBenchModel", "behind", "[Z", true)
  | 58 => ("ProtocolBenchModel", "isKnot", "[Z", true)
  | 59 => ("ProtocolBenchModel", "isSeen", "[Z", true)
  | 60 => ("ProtocolBenchModel", "classAt", "[I", true)
  | 61 => ("ProtocolBenchModel", "newClass", "[I", true)
  | 62 => ("ProtocolBenchModel", "signs", "[J", true)
  | _ => ("ProtocolBenchModel", "seen", "[I", true)
def tyX12 : Nat → FieldType := fun k => match k with
  | 0 => .int
  | 1 => .array .int
  | 2 => .array .int
  | 3 => .array .int
  | 4 => .int
  | 5 => .array .int
  | 6 => .array .int
  | 7 => .array .int
  | 8 => .array .int
  | 9 => .array .int
  | 10 => .array .boolean
  | 11 => .int
  | 12 => .array .int
  | 13 => .array .boolean
  | 14 => .array .boolean
  | 15 => .int
  | 16 => .array .int
  | 17 => .array .int
  | 18 => .array .int
  | 19 => .array .int
  | 20 => .array .boolean
  | 21 => .int
  | 22 => .array .int
  | 23 => .array .int
  | 24 => .array .int
  | 25 => .array .int
  | 26 => .array .int
  | 27 => .array .int
  | 28 => .array .int
  | 29 => .array .int
  | 30 => .boolean
  | 31 => .int
  | 32 => .array .int
  | 33 => .boolean
  | 34 => .boolean
  | 35 => .int
  | 36 => .array .int
  | 37 => .array .int
  | 38 => .array .int
  | 39 => .array .int
  | 40 => .int
  | 41 => .array .int
  | 42 => .array .int
  | 43 => .array .int
  | 44 => .array .int
  | 45 => .array .int
  | 46 => .boolean
  | 47 => .int
  | 48 => .int
  | 49 => .int
  | 50 => .int
  | 51 => .array .int
  | 52 => .array .int
  | 53 => .array .int
  | 54 => .array .boolean
  | 55 => .array .boolean
  | 56 => .array .boolean
  | 57 => .array .boolean
  | 58 => .array .boolean
  | 59 => .array .boolean
  | 60 => .array .int
  | 61 => .array .int
  | 62 => .array .long
  | _ => .array .int
theorem nmX12 : ∀ a, a < 64 → ∀ b, b < 64 → a ≠ b → (TX12 a).2.1 ≠ (TX12 b).2.1 := by decide +kernel
theorem tyX12_ok : ∀ k, k < 64 → parseFieldDescriptor (TX12 k).2.2.1 = some (tyX12 k) := by decide +kernel
abbrev cX12_init : ByteArray := prog_14_method_1_code
def yX12_init : MethodName := ⟨RX12, "<init>", "()V"⟩
abbrev cX12_in : ByteArray := prog_14_method_2_code
def yX12_in : MethodName := ⟨RX12, "in", "(III)Z"⟩
abbrev cX12_isValue : ByteArray := prog_14_method_3_code
def yX12_isValue : MethodName := ⟨RX12, "isValue", "(III)Z"⟩
abbrev cX12_over : ByteArray := prog_14_method_4_code
def yX12_over : MethodName := ⟨RX12, "over", "()V"⟩
abbrev cX12_shared : ByteArray := prog_14_method_5_code
def yX12_shared : MethodName := ⟨RX12, "shared", "(III)I"⟩
abbrev cX12_role : ByteArray := prog_14_method_6_code
def yX12_role : MethodName := ⟨RX12, "role", "(I)I"⟩
abbrev cX12_isRole : ByteArray := prog_14_method_7_code
def yX12_isRole : MethodName := ⟨RX12, "isRole", "(I)Z"⟩
abbrev cX12_own : ByteArray := prog_14_method_8_code
def yX12_own : MethodName := ⟨RX12, "own", "(IIII)I"⟩
abbrev cX12_end : ByteArray := prog_14_method_9_code
def yX12_end : MethodName := ⟨RX12, "end", "(II)I"⟩
abbrev cX12_channel : ByteArray := prog_14_method_10_code
def yX12_channel : MethodName := ⟨RX12, "channel", "(IZZ)I"⟩
abbrev cX12_isExpr : ByteArray := prog_14_method_11_code
def yX12_isExpr : MethodName := ⟨RX12, "isExpr", "(I)Z"⟩
abbrev cX12_isChannel : ByteArray := prog_14_method_12_code
def yX12_isChannel : MethodName := ⟨RX12, "isChannel", "(I)Z"⟩
abbrev cX12_isThere : ByteArray := prog_14_method_13_code
def yX12_isThere : MethodName := ⟨RX12, "isThere", "(IIII)Z"⟩
abbrev cX12_expr : ByteArray := prog_14_method_14_code
def yX12_expr : MethodName := ⟨RX12, "expr", "(IIII)I"⟩
abbrev cX12_step : ByteArray := prog_14_method_15_code
def yX12_step : MethodName := ⟨RX12, "step", "(IIII)I"⟩
abbrev cX12_act : ByteArray := prog_14_method_16_code
def yX12_act : MethodName := ⟨RX12, "act", "(IIII)I"⟩
abbrev cX12_alike : ByteArray := prog_14_method_17_code
def yX12_alike : MethodName := ⟨RX12, "alike", "(Z)I"⟩
abbrev cX12_memberAt : ByteArray := prog_14_method_18_code
def yX12_memberAt : MethodName := ⟨RX12, "memberAt", "(II)I"⟩
abbrev cX12_channelAt : ByteArray := prog_14_method_19_code
def yX12_channelAt : MethodName := ⟨RX12, "channelAt", "(I)I"⟩
abbrev cX12_cell : ByteArray := prog_14_method_20_code
def yX12_cell : MethodName := ⟨RX12, "cell", "(II)I"⟩
abbrev cX12_many : ByteArray := prog_14_method_21_code
def yX12_many : MethodName := ⟨RX12, "many", "(III)I"⟩
abbrev cX12_reckon : ByteArray := prog_14_method_22_code
def yX12_reckon : MethodName := ⟨RX12, "reckon", "(III)V"⟩
abbrev cX12_isBehind : ByteArray := prog_14_method_23_code
def yX12_isBehind : MethodName := ⟨RX12, "isBehind", "(III)Z"⟩
abbrev cX12_order : ByteArray := prog_14_method_24_code
def yX12_order : MethodName := ⟨RX12, "order", "()V"⟩
abbrev cX12_placeOf : ByteArray := prog_14_method_25_code
def yX12_placeOf : MethodName := ⟨RX12, "placeOf", "()I"⟩
abbrev cX12_take : ByteArray := prog_14_method_26_code
def yX12_take : MethodName := ⟨RX12, "take", "(I)V"⟩
abbrev cX12_comes : ByteArray := prog_14_method_27_code
def yX12_comes : MethodName := ⟨RX12, "comes", "(IIII)Z"⟩
abbrev cX12_can : ByteArray := prog_14_method_28_code
def yX12_can : MethodName := ⟨RX12, "can", "(III)Z"⟩
abbrev cX12_isFirst : ByteArray := prog_14_method_29_code
def yX12_isFirst : MethodName := ⟨RX12, "isFirst", "(III)Z"⟩
abbrev cX12_nextChoice : ByteArray := prog_14_method_30_code
def yX12_nextChoice : MethodName := ⟨RX12, "nextChoice", "(III)I"⟩
abbrev cX12_hasNextWay : ByteArray := prog_14_method_31_code
def yX12_hasNextWay : MethodName := ⟨RX12, "hasNextWay", "(II)Z"⟩
abbrev cX12_letterGoes : ByteArray := prog_14_method_32_code
def yX12_letterGoes : MethodName := ⟨RX12, "letterGoes", "(II)V"⟩
abbrev cX12_isDone : ByteArray := prog_14_method_33_code
def yX12_isDone : MethodName := ⟨RX12, "isDone", "(III)Z"⟩
abbrev cX12_fault : ByteArray := prog_14_method_34_code
def yX12_fault : MethodName := ⟨RX12, "fault", "(IIII)V"⟩
abbrev cX12_goWays : ByteArray := prog_14_method_35_code
def yX12_goWays : MethodName := ⟨RX12, "goWays", "(III)Z"⟩
abbrev cX12_goThrough : ByteArray := prog_14_method_36_code
def yX12_goThrough : MethodName := ⟨RX12, "goThrough", "(I)Z"⟩
abbrev cX12_use : ByteArray := prog_14_method_37_code
def yX12_use : MethodName := ⟨RX12, "use", "(I)V"⟩
abbrev cX12_isFit : ByteArray := prog_14_method_38_code
def yX12_isFit : MethodName := ⟨RX12, "isFit", "(I)Z"⟩
abbrev cX12_maySearch : ByteArray := prog_14_method_39_code
def yX12_maySearch : MethodName := ⟨RX12, "maySearch", "()Z"⟩
abbrev cX12_search : ByteArray := prog_14_method_40_code
def yX12_search : MethodName := ⟨RX12, "search", "()I"⟩
abbrev cX12_hasStates : ByteArray := prog_14_method_41_code
def yX12_hasStates : MethodName := ⟨RX12, "hasStates", "()Z"⟩
abbrev cX12_isState : ByteArray := prog_14_method_42_code
def yX12_isState : MethodName := ⟨RX12, "isState", "(I)Z"⟩
abbrev cX12_tells : ByteArray := prog_14_method_43_code
def yX12_tells : MethodName := ⟨RX12, "tells", "(II)I"⟩
abbrev cX12_isMember : ByteArray := prog_14_method_44_code
def yX12_isMember : MethodName := ⟨RX12, "isMember", "(II)Z"⟩
abbrev cX12_place : ByteArray := prog_14_method_45_code
def yX12_place : MethodName := ⟨RX12, "place", "(III)I"⟩
abbrev cX12_owned : ByteArray := prog_14_method_46_code
def yX12_owned : MethodName := ⟨RX12, "owned", "(IIII)I"⟩
abbrev cX12_letter : ByteArray := prog_14_method_47_code
def yX12_letter : MethodName := ⟨RX12, "letter", "(III)I"⟩
abbrev cX12_movesOf : ByteArray := prog_14_method_48_code
def yX12_movesOf : MethodName := ⟨RX12, "movesOf", "(I)I"⟩
abbrev cX12_moves : ByteArray := prog_14_method_49_code
def yX12_moves : MethodName := ⟨RX12, "moves", "(I)I"⟩
abbrev cX12_move : ByteArray := prog_14_method_50_code
def yX12_move : MethodName := ⟨RX12, "move", "(III)I"⟩
abbrev cX12_depth : ByteArray := prog_14_method_51_code
def yX12_depth : MethodName := ⟨RX12, "depth", "(I)I"⟩
abbrev cX12_came : ByteArray := prog_14_method_52_code
def yX12_came : MethodName := ⟨RX12, "came", "(II)I"⟩
abbrev cX12_isStuck : ByteArray := prog_14_method_53_code
def yX12_isStuck : MethodName := ⟨RX12, "isStuck", "(I)Z"⟩
abbrev cX12_stuck : ByteArray := prog_14_method_54_code
def yX12_stuck : MethodName := ⟨RX12, "stuck", "()I"⟩
abbrev cX12_fault_ : ByteArray := prog_14_method_55_code
def yX12_fault_ : MethodName := ⟨RX12, "fault", "(I)I"⟩
abbrev cX12_always : ByteArray := prog_14_method_56_code
def yX12_always : MethodName := ⟨RX12, "always", "(I)I"⟩
abbrev cX12_goAhead : ByteArray := prog_14_method_57_code
def yX12_goAhead : MethodName := ⟨RX12, "goAhead", "(I[Z)V"⟩
abbrev cX12_goBack : ByteArray := prog_14_method_58_code
def yX12_goBack : MethodName := ⟨RX12, "goBack", "(I[Z)V"⟩
abbrev cX12_hasTurn : ByteArray := prog_14_method_59_code
def yX12_hasTurn : MethodName := ⟨RX12, "hasTurn", "(II)Z"⟩
abbrev cX12_isFair : ByteArray := prog_14_method_60_code
def yX12_isFair : MethodName := ⟨RX12, "isFair", "()Z"⟩
abbrev cX12_hasMove : ByteArray := prog_14_method_61_code
def yX12_hasMove : MethodName := ⟨RX12, "hasMove", "()Z"⟩
abbrev cX12_findKnots : ByteArray := prog_14_method_62_code
def yX12_findKnots : MethodName := ⟨RX12, "findKnots", "(Z)V"⟩
abbrev cX12_takeWhereNot : ByteArray := prog_14_method_63_code
def yX12_takeWhereNot : MethodName := ⟨RX12, "takeWhereNot", "(I)V"⟩
abbrev cX12_again : ByteArray := prog_14_method_64_code
def yX12_again : MethodName := ⟨RX12, "again", "(IZ)I"⟩
abbrev cX12_fromTo : ByteArray := prog_14_method_65_code
def yX12_fromTo : MethodName := ⟨RX12, "fromTo", "(IIZ)I"⟩
abbrev cX12_observe : ByteArray := prog_14_method_66_code
def yX12_observe : MethodName := ⟨RX12, "observe", "(I)I"⟩
abbrev cX12_isSeenAlike : ByteArray := prog_14_method_67_code
def yX12_isSeenAlike : MethodName := ⟨RX12, "isSeenAlike", "(II)Z"⟩
abbrev cX12_findSigns : ByteArray := prog_14_method_68_code
def yX12_findSigns : MethodName := ⟨RX12, "findSigns", "()V"⟩
abbrev cX12_hasSameSigns : ByteArray := prog_14_method_69_code
def yX12_hasSameSigns : MethodName := ⟨RX12, "hasSameSigns", "(II)Z"⟩
abbrev cX12_divide : ByteArray := prog_14_method_70_code
def yX12_divide : MethodName := ⟨RX12, "divide", "()I"⟩
abbrev cX12_classes : ByteArray := prog_14_method_71_code
def yX12_classes : MethodName := ⟨RX12, "classes", "()I"⟩
abbrev cX12_classOf : ByteArray := prog_14_method_72_code
def yX12_classOf : MethodName := ⟨RX12, "classOf", "(I)I"⟩
abbrev cX12_count : ByteArray := prog_14_method_73_code
def yX12_count : MethodName := ⟨RX12, "count", "(I)I"⟩
def RJ9 : String := "java/lang/Math"
abbrev cJ9_min_7cf53 : ByteArray := prog_15_method_69_code
def yJ9_min_7cf53 : MethodName := ⟨RJ9, "min", "(II)I"⟩
def RJ10 : String := "java/lang/System"
def RJ7 : String := "java/util/Arrays"
abbrev cJ7_rangeCheck_23922 : ByteArray := prog_17_method_30_code
def yJ7_rangeCheck_23922 : MethodName := ⟨RJ7, "rangeCheck", "(III)V"⟩
abbrev cJ7_fill_53178 : ByteArray := prog_17_method_103_code
def yJ7_fill_53178 : MethodName := ⟨RJ7, "fill", "([II)V"⟩
abbrev cJ7_fill_fda19 : ByteArray := prog_17_method_104_code
def yJ7_fill_fda19 : MethodName := ⟨RJ7, "fill", "([IIII)V"⟩
def RL : String := "ProtocolBenchLaw"
abbrev cL_law : ByteArray := code
def yL_law : MethodName := ⟨RL, "law", "([I)Z"⟩
abbrev vwCl : List vw_C := [(RX0, TX0, 12), (RX1, TX1, 10), (RX2, TX2, 16), (RX3, TX3, 20), (RX4, TX4, 10), (RX5, TX5, 3), (RX6, TX6, 3), (RX7, TX7, 1), (RX8, TX8, 5), (RX9, TX9, 9), (RX10, TX10, 5), (RX11, TX11, 6), (RX12, TX12, 64)]
end
section
/-! ===== a heap of whole numbers, the shapes of cells, worlds out of both ===== -/
abbrev hp_H : Type := Nat → Nat → Int32
/-- an object: the number of its kind and its fields (0: a whole number; 1: the cell x; 2: the cell x + what the numbers' cell 999 says; 3: null); or an array: 0 of int, 1 of long, 2 of boolean, and its length -/
def hp_V : Nat := 999
abbrev hp_S : Type := (Nat × List (Nat × Nat × Nat)) ⊕ (Nat × Nat)
def hp_up (h : hp_H) (k j : Nat) (v : Int32) : hp_H := fun a b => if a = k ∧ b = j then v else h a b
def hp_cp (h : hp_H) (k0 k1 sp dp n : Nat) : hp_H := fun a b => if a = k1 then va_cpy (h k0) (h k1) sp dp n b else h a b
def hp_hi (x : Int64) : Int32 := ⟨⟨x.toBitVec.extractLsb' 32 32⟩⟩
def hp_lo (x : Int64) : Int32 := ⟨⟨x.toBitVec.extractLsb' 0 32⟩⟩
def hp_mk (a b : Int32) : Int64 := ⟨⟨a.toBitVec ++ b.toBitVec⟩⟩
theorem hp_mk_hl (x : Int64) : hp_mk (hp_hi x) (hp_lo x) = x := by
  apply Int64.toBitVec_inj.mp
  show (x.toBitVec.extractLsb' 32 32 ++ x.toBitVec.extractLsb' 0 32) = x.toBitVec
  apply BitVec.eq_of_getLsbD_eq
  intro i hi
  rw [BitVec.getLsbD_append]
  by_cases h : i < 32
  · simp [h, BitVec.getLsbD_extractLsb']
  · have h2 : i - 32 < 32 := by omega
    have h3 : 32 + (i - 32) = i := by omega
    simp [h, BitVec.getLsbD_extractLsb', h2, h3]
def hp_upL (h : hp_H) (k j : Nat) (x : Int64) : hp_H := hp_up (hp_up h k (2 * j) (hp_hi x)) k (2 * j + 1) (hp_lo x)
def hp_ldL (h : hp_H) (k j : Nat) : Int64 := hp_mk (h k (2 * j)) (h k (2 * j + 1))
def hp_fv (ad : Nat → Nat) (h : hp_H) (k j : Nat) (d : Nat × Nat × Nat) : Value := match d.1 with
  | 0 => .int (h k j)
  | 1 => .ref (ad d.2.1)
  | 2 => .ref (ad (d.2.1 + (h hp_V d.2.2).toNatClampNeg))
  | _ => .null
def hp_mi {α β : Type} (f : Nat → α → β) : Nat → List α → List β
  | _, [] => []
  | i, x :: xs => f i x :: hp_mi f (i + 1) xs
theorem hp_mi_len {α β : Type} (f : Nat → α → β) (l : List α) : ∀ i : Nat, (hp_mi f i l).length = l.length := by
  induction l with
  | nil => intro i; rfl
  | cons x xs ih => intro i; simp only [hp_mi, List.length_cons, ih]
theorem hp_mi_get {α β : Type} (f : Nat → α → β) (l : List α) : ∀ i j : Nat, (hp_mi f i l)[j]? = l[j]?.map (f (i + j)) := by
  induction l with
  | nil => intro i j; simp [hp_mi]
  | cons x xs ih =>
    intro i j
    cases j with
    | zero => simp [hp_mi]
    | succ j =>
      simp only [hp_mi, List.getElem?_cons_succ, ih]
      rw [show i + 1 + j = i + (j + 1) by omega]
theorem hp_mi_get0 {α β : Type} (f : Nat → α → β) (l : List α) (j : Nat) : (hp_mi f 0 l)[j]? = l[j]?.map (f j) := by rw [hp_mi_get, Nat.zero_add]
def hp_fs (ad : Nat → Nat) (h : hp_H) (k : Nat) (ds : List (Nat × Nat × Nat)) : List Value := hp_mi (fun j d => hp_fv ad h k j d) 0 ds
def hp_A (h : hp_H) (k : Nat) (t : Nat) : (Nat → Int32) ⊕ (Nat → Int64) ⊕ (Nat → UInt32) ⊕ (Nat → UInt64) ⊕ (Nat → Option Nat) := match t with
  | 1 => .inr (.inl (fun i => hp_ldL h k i))
  | _ => .inl (fun i => h k i)
def hp_E (cs : Nat → ClassId) (ad : Nat → Nat) (h : hp_H) (k : Nat) (s : hp_S) : va_E := match s with
  | .inl o => .inr (o.1, hp_fs ad h k o.2)
  | .inr a => .inl (cs a.1, a.2, hp_A h k a.1)
def hp_W (S : List hp_S) (cs : Nat → ClassId) (ad : Nat → Nat) (h : hp_H) : va_W := hp_mi (fun k s => (ad k, hp_E cs ad h k s)) 0 S
abbrev hp_tys (cs : Nat → ClassId) : List (ClassId × FieldType) := [(cs 0, .int), (cs 1, .long), (cs 2, .boolean)]
/-- the addresses are apart, and of a kind -/
def hp_J (S : List hp_S) (ad : Nat → Nat) (A : Nat → Prop) : Prop := (∀ i j : Nat, i < S.length → j < S.length → ad i = ad j → i = j) ∧ ∀ i : Nat, i < S.length → A (ad i)
theorem hp_W_get {S : List hp_S} {cs : Nat → ClassId} {ad : Nat → Nat} {h : hp_H} {k : Nat} {x : hp_S} (hk : S[k]? = some x) : (hp_W S cs ad h)[k]? = some (ad k, hp_E cs ad h k x) := by
  simp [hp_W, hp_mi_get0, hk]
theorem hp_W_of {S : List hp_S} {cs : Nat → ClassId} {ad : Nat → Nat} {h : hp_H} {k : Nat} {q : Nat × va_E} (hk : (hp_W S cs ad h)[k]? = some q) : k < S.length ∧ q.1 = ad k := by
  simp only [hp_W, hp_mi_get0, Option.map_eq_some_iff] at hk
  obtain ⟨x, h1, h2⟩ := hk
  exact ⟨(List.getElem?_eq_some_iff.mp h1).1, by rw [← h2]⟩
theorem hp_J.D {S : List hp_S} {cs : Nat → ClassId} {ad : Nat → Nat} {A : Nat → Prop} (hj : hp_J S ad A) (h : hp_H) : va_D A (hp_W S cs ad h) := by
  refine ⟨fun i j p q hi hj' e => ?_, fun k q hk => ?_⟩
  · obtain ⟨a1, a2⟩ := hp_W_of hi
    obtain ⟨b1, b2⟩ := hp_W_of hj'
    exact hj.1 i j a1 b1 (by rw [← a2, ← b2]; exact e)
  · obtain ⟨a1, a2⟩ := hp_W_of hk
    rw [a2]
    exact hj.2 k a1
theorem hp_fs_get {ad : Nat → Nat} {h : hp_H} {k j : Nat} {ds : List (Nat × Nat × Nat)} {d : Nat × Nat × Nat} (hd : ds[j]? = some d) : (hp_fs ad h k ds)[j]? = some (hp_fv ad h k j d) := by
  simp [hp_fs, hp_mi_get0, hd]
/-- a cell whose numbers are as before is as before -/
theorem hp_E_eq {cs : Nat → ClassId} {ad : Nat → Nat} {h h' : hp_H} {k : Nat} (h1 : h' k = h k) (h2 : h' hp_V = h hp_V) (x : hp_S) : hp_E cs ad h' k x = hp_E cs ad h k x := by
  have e1 : ∀ (j : Nat) (d : Nat × Nat × Nat), hp_fv ad h' k j d = hp_fv ad h k j d := fun j d => by simp only [hp_fv, h1, h2]
  have e2 : ∀ t : Nat, hp_A h' k t = hp_A h k t := fun t => by simp only [hp_A, hp_ldL, h1]
  cases x with
  | inl o => simp only [hp_E, hp_fs, e1]
  | inr a => simp only [hp_E, e2]
theorem hp_W_set {S : List hp_S} {cs : Nat → ClassId} {ad : Nat → Nat} {h h' : hp_H} {k : Nat} {x x' : hp_S} {E : va_E} (hk : S[k]? = some x) (hE : hp_E cs ad h' k x' = E) (ho : ∀ i, i < S.length → i ≠ k → h' i = h i) (h9 : h' hp_V = h hp_V) :
    (hp_W S cs ad h).set k (ad k, E) = hp_W (S.set k x') cs ad h' := by
  have hl := (List.getElem?_eq_some_iff.mp hk).1
  apply List.ext_getElem?
  intro i
  by_cases hi : i = k
  · subst hi
    rw [List.getElem?_set_self (by rw [hp_W, hp_mi_len]; exact hl)]
    simp [hp_W, hp_mi_get0, hl, hE]
  · rw [List.getElem?_set_ne (Ne.symm hi)]
    simp only [hp_W, hp_mi_get0, List.getElem?_set_ne (Ne.symm hi)]
    cases hs : S[i]? with
    | none => simp only [Option.map_none]
    | some y =>
      have hil := (List.getElem?_eq_some_iff.mp hs).1
      simp only [Option.map_some, hp_E_eq (ho i hil hi) h9]
theorem hp_set_self {α : Type} {S : List α} {k : Nat} {x : α} (hk : S[k]? = some x) : S.set k x = S := by
  apply List.ext_getElem?
  intro i
  by_cases hi : i = k
  · subst hi
    rw [List.getElem?_set_self (List.getElem?_eq_some_iff.mp hk).1, hk]
  · rw [List.getElem?_set_ne (Ne.symm hi)]
theorem hp_up_row {h : hp_H} {k j i : Nat} {v : Int32} (hi : i ≠ k) : hp_up h k j v i = h i := by
  funext b
  simp [hp_up, hi]
theorem hp_up_same (h : hp_H) (k j : Nat) (v : Int32) : hp_up h k j v k j = v := by simp [hp_up]
theorem hp_up_slot {h : hp_H} {k j b : Nat} {v : Int32} (hb : b ≠ j) : hp_up h k j v k b = h k b := by simp [hp_up, hb]
theorem hp_up_fn (h : hp_H) (k j : Nat) (v : Int32) : (fun i => hp_up h k j v k i) = upd (fun i => h k i) j v := by
  funext i
  by_cases hi : i = j
  · simp [hp_up, upd, hi]
  · simp [hp_up, upd, hi]
theorem hp_upL_row {h : hp_H} {k j i : Nat} {v : Int64} (hi : i ≠ k) : hp_upL h k j v i = h i := by
  unfold hp_upL
  rw [hp_up_row hi, hp_up_row hi]
theorem hp_upL_same (h : hp_H) (k j : Nat) (x : Int64) : hp_ldL (hp_upL h k j x) k j = x := by
  unfold hp_ldL hp_upL
  rw [hp_up_same, hp_up_slot (by omega), hp_up_same, hp_mk_hl]
theorem hp_upL_slot {h : hp_H} {k j b : Nat} {x : Int64} (hb : b ≠ j) : hp_ldL (hp_upL h k j x) k b = hp_ldL h k b := by
  unfold hp_ldL hp_upL
  rw [hp_up_slot (by omega), hp_up_slot (by omega), hp_up_slot (by omega), hp_up_slot (by omega)]
theorem hp_upL_fn (h : hp_H) (k j : Nat) (x : Int64) : (fun i => hp_ldL (hp_upL h k j x) k i) = vp_updL (fun i => hp_ldL h k i) j x := by
  funext i
  by_cases hi : i = j
  · subst hi
    simp [vp_updL, hp_upL_same]
  · simp [vp_updL, hi, hp_upL_slot hi]
/-- a whole number of a field is put -/
theorem hp_W_put {S : List hp_S} {cs : Nat → ClassId} {ad : Nat → Nat} {h : hp_H} {k j ci : Nat} {ds : List (Nat × Nat × Nat)} {u : Nat × Nat} (v : Int32) (hk : S[k]? = some (.inl (ci, ds))) (hd : ds[j]? = some (0, u)) (h9 : k ≠ hp_V) :
    (hp_W S cs ad h).set k (ad k, .inr (ci, (hp_fs ad h k ds).set j (.int v))) = hp_W S cs ad (hp_up h k j v) := by
  rw [hp_W_set (h' := hp_up h k j v) (x' := .inl (ci, ds)) hk ?_ (fun i _ hi => hp_up_row hi) (hp_up_row (Ne.symm h9)), hp_set_self hk]
  have hl := (List.getElem?_eq_some_iff.mp hd).1
  simp only [hp_E]
  congr 2
  apply List.ext_getElem?
  intro i
  by_cases hi : i = j
  · subst hi
    rw [List.getElem?_set_self (by rw [hp_fs, hp_mi_len]; exact hl), hp_fs_get hd]
    simp [hp_fv, hp_up]
  · rw [List.getElem?_set_ne (Ne.symm hi)]
    simp only [hp_fs, hp_mi_get0]
    cases ds[i]? with
    | none => simp only [Option.map_none]
    | some d => simp only [Option.map_some, hp_fv, hp_up_slot hi, hp_up_row (Ne.symm h9)]
/-- a reference field is put: the shape says where it leads -/
theorem hp_W_ref {S : List hp_S} {cs : Nat → ClassId} {ad : Nat → Nat} {h : hp_H} {k j ci t : Nat} {ds : List (Nat × Nat × Nat)} (hk : S[k]? = some (.inl (ci, ds))) :
    (hp_W S cs ad h).set k (ad k, .inr (ci, (hp_fs ad h k ds).set j (.ref (ad t)))) = hp_W (S.set k (.inl (ci, ds.set j (1, t, 0)))) cs ad h := by
  rw [hp_W_set (h' := h) (x' := .inl (ci, ds.set j (1, t, 0))) hk ?_ (fun i _ hi => rfl) rfl]
  simp only [hp_E]
  congr 2
  apply List.ext_getElem?
  intro i
  simp only [hp_fs, hp_mi_get0, List.getElem?_set, hp_mi_len]
  by_cases hi : j = i
  · subst hi
    by_cases hj : j < ds.length
    · simp [hj, hp_fv]
    · simp [hj]
  · simp [hi]
theorem hp_fv_same {ad : Nat → Nat} {h h' : hp_H} {k j tg u w : Nat} (h1 : h' k = h k) (h2 : tg = 2 → h' hp_V w = h hp_V w) : hp_fv ad h' k j (tg, u, w) = hp_fv ad h k j (tg, u, w) := by
  by_cases e : tg = 2
  · subst e
    simp only [hp_fv, h2 rfl]
  · unfold hp_fv
    simp only [h1]
    split
    · simp only
    · simp only
    · exact absurd rfl e
    · simp only
/-- a reference field of kind 2 is put -/
theorem hp_W_mut {S : List hp_S} {cs : Nat → ClassId} {ad : Nat → Nat} {h : hp_H} {k j ci x y t : Nat} {ds : List (Nat × Nat × Nat)} (hk : S[k]? = some (.inl (ci, ds))) (hd : ds[j]? = some (2, x, y)) (hs : S.length ≤ hp_V) (hx : x ≤ t) (ht : t - x < 2 ^ 31)
    (hu : ∀ (i : Nat) (c : Nat) (es : List (Nat × Nat × Nat)) (b : Nat) (z : Nat), S[i]? = some (.inl (c, es)) → es[b]? = some (2, z, y) → i = k ∧ b = j) :
    (hp_W S cs ad h).set k (ad k, .inr (ci, (hp_fs ad h k ds).set j (.ref (ad t)))) = hp_W S cs ad (hp_up h hp_V y (nI (t - x))) := by
  have hkl := (List.getElem?_eq_some_iff.mp hk).1
  have hl := (List.getElem?_eq_some_iff.mp hd).1
  have row : ∀ i, i < S.length → hp_up h hp_V y (nI (t - x)) i = h i := fun i hi => hp_up_row (by omega)
  apply List.ext_getElem?
  intro i
  by_cases hi : i = k
  · subst hi
    rw [List.getElem?_set_self (by rw [hp_W, hp_mi_len]; exact hkl)]
    simp only [hp_W, hp_mi_get0, hk, Option.map_some, hp_E]
    congr 4
    apply List.ext_getElem?
    intro b
    by_cases hb : b = j
    · subst hb
      rw [List.getElem?_set_self (by rw [hp_fs, hp_mi_len]; exact hl), hp_fs_get hd]
      simp only [hp_fv, hp_up_same, nI_clamp ht]
      congr 3
      omega
    · rw [List.getElem?_set_ne (Ne.symm hb)]
      simp only [hp_fs, hp_mi_get0]
      cases hdb : ds[b]? with
      | none => simp only [Option.map_none]
      | some d =>
        obtain ⟨tg, u, w⟩ := d
        simp only [Option.map_some]
        exact congrArg some (hp_fv_same (row i hkl) (fun e2 => hp_up_slot (fun e => hb (hu i ci ds b u hk (by rw [hdb, e, e2])).2))).symm
  · rw [List.getElem?_set_ne (Ne.symm hi)]
    simp only [hp_W, hp_mi_get0]
    cases hs' : S[i]? with
    | none => simp only [Option.map_none]
    | some z =>
      have hil := (List.getElem?_eq_some_iff.mp hs').1
      simp only [Option.map_some]
      congr 2
      cases z with
      | inr a => simp only [hp_E, hp_A, hp_ldL, row i hil]
      | inl o =>
        obtain ⟨c, es⟩ := o
        simp only [hp_E]
        congr 2
        apply List.ext_getElem?
        intro b
        simp only [hp_fs, hp_mi_get0]
        cases hdb : es[b]? with
        | none => simp only [Option.map_none]
        | some d =>
          obtain ⟨tg, u, w⟩ := d
          simp only [Option.map_some]
          exact congrArg some (hp_fv_same (row i hil) (fun e2 => hp_up_slot (fun e => hi (hu i c es b u hs' (by rw [hdb, e, e2])).1))).symm
theorem hp_W_ast {S : List hp_S} {cs : Nat → ClassId} {ad : Nat → Nat} {h : hp_H} {k t n j : Nat} (v : Int32) (hk : S[k]? = some (.inr (t, n))) (ht : t ≠ 1) (h9 : k ≠ hp_V) :
    (hp_W S cs ad h).set k (ad k, .inl (cs t, n, .inl (upd (fun i => h k i) j v))) = hp_W S cs ad (hp_up h k j v) := by
  rw [hp_W_set (h' := hp_up h k j v) (x' := .inr (t, n)) hk ?_ (fun i _ hi => hp_up_row hi) (hp_up_row (Ne.symm h9)), hp_set_self hk]
  rw [← hp_up_fn]
  simp only [hp_E, hp_A]
theorem hp_W_last {S : List hp_S} {cs : Nat → ClassId} {ad : Nat → Nat} {h : hp_H} {k n j : Nat} (v : Int64) (hk : S[k]? = some (.inr (1, n))) (h9 : k ≠ hp_V) :
    (hp_W S cs ad h).set k (ad k, .inl (cs 1, n, .inr (.inl (vp_updL (fun i => hp_ldL h k i) j v)))) = hp_W S cs ad (hp_upL h k j v) := by
  rw [hp_W_set (h' := hp_upL h k j v) (x' := .inr (1, n)) hk ?_ (fun i _ hi => hp_upL_row hi) (hp_upL_row (Ne.symm h9)), hp_set_self hk]
  rw [← hp_upL_fn]
  simp only [hp_E, hp_A]
theorem hp_W_cp {S : List hp_S} {cs : Nat → ClassId} {ad : Nat → Nat} {h : hp_H} {k0 k t n sp dp m : Nat} (hk : S[k]? = some (.inr (t, n))) (ht : t ≠ 1) (h9 : k ≠ hp_V) :
    (hp_W S cs ad h).set k (ad k, .inl (cs t, n, .inl (va_cpy (fun i => h k0 i) (fun i => h k i) sp dp m))) = hp_W S cs ad (hp_cp h k0 k sp dp m) := by
  rw [hp_W_set (h' := hp_cp h k0 k sp dp m) (x' := .inr (t, n)) hk ?_ (fun i _ hi => by funext b; simp [hp_cp, hi]) (by funext b; simp [hp_cp, Ne.symm h9]), hp_set_self hk]
  simp only [hp_E, hp_A, hp_cp]
  simp
end
section
/-! ===== rows: one an instruction, over such a world ===== -/
/-- the tables' words that a callee's start may name; the links to nest mates -/
def hp_tbl : List Cond := lw_tbl.filter goodWord
def hp_nst : List (String × Nat × MethodName × String) := [("ProtocolBench", 11, ⟨"ProtocolBench$Protocol", "<init>", "()V"⟩, "ProtocolBench"), ("ProtocolBench", 18, ⟨"ProtocolBench$Graph", "<init>", "()V"⟩, "ProtocolBench"), ("ProtocolBench$Protocol", 25, ⟨"ProtocolBench$Roles", "<init>", "()V"⟩, "ProtocolBench"), ("ProtocolBench$Protocol", 41, ⟨"ProtocolBench$Steps", "<init>", "()V"⟩, "ProtocolBench"), ("ProtocolBench$Reckoner", 11, ⟨"ProtocolBench$Row", "<init>", "()V"⟩, "ProtocolBench"), ("ProtocolBench$Searcher", 11, ⟨"ProtocolBench$Row", "<init>", "()V"⟩, "ProtocolBench"), ("ProtocolBench$Searcher", 218, ⟨"ProtocolBench", "isDigit", "(I)Z"⟩, "ProtocolBench")]
def hp_N (U : State) : Prop := ∀ q ∈ hp_nst, va_Nw (.methodLinkNest q.1 q.2.1 q.2.2.1 q.2.2.2) U
theorem hp_in {w : Cond} (h : w ∈ lw_tbl) (g : goodWord w = true) : w ∈ hp_tbl := List.mem_filter.mpr ⟨h, g⟩
/-- the locals: an ordered list, each of one slot -/
def hp_L (ls : Array Slot) (nL : Nat) (lv : List (Nat × Value)) : Prop := lv_has ls nL lv ∧ ∀ q ∈ lv, q.2.category = 1
def hp_ins (i : Nat) (v : Value) : List (Nat × Value) → List (Nat × Value)
  | [] => [(i, v)]
  | q :: t => if q.1 = i then (i, v) :: t else if i < q.1 then (i, v) :: q :: t else q :: hp_ins i v t
def hp_ord : List (Nat × Value) → Bool
  | [] => true
  | q :: t => t.all (fun r => decide (q.1 < r.1)) && hp_ord t
theorem hp_ins_mem {i : Nat} {v : Value} : ∀ {lv : List (Nat × Value)} {q : Nat × Value}, hp_ord lv = true → q ∈ hp_ins i v lv → q = (i, v) ∨ (q ∈ lv ∧ q.1 ≠ i)
  | [], q, _, h => by
    simp only [hp_ins, List.mem_singleton] at h
    exact Or.inl h
  | r :: t, q, ho, h => by
    simp only [hp_ord, Bool.and_eq_true, List.all_eq_true, decide_eq_true_eq] at ho
    unfold hp_ins at h
    split at h
    · next e =>
      rcases List.mem_cons.mp h with h | h
      · exact Or.inl h
      · have := ho.1 q h
        exact Or.inr ⟨List.mem_cons_of_mem _ h, by omega⟩
    · next e =>
      split at h
      · next e2 =>
        rcases List.mem_cons.mp h with h | h
        · exact Or.inl h
        · refine Or.inr ⟨h, ?_⟩
          rcases List.mem_cons.mp h with h3 | h3
          · subst h3; exact e
          · have := ho.1 q h3
            omega
      · rcases List.mem_cons.mp h with h | h
        · exact Or.inr ⟨by rw [h]; exact List.mem_cons_self, by rw [h]; exact e⟩
        · rcases hp_ins_mem ho.2 h with h3 | h3
          · exact Or.inl h3
          · exact Or.inr ⟨List.mem_cons_of_mem _ h3.1, h3.2⟩
theorem hp_L.sto {ls : Array Slot} {nL i : Nat} {v : Value} {lv lv' : List (Nat × Value)} (h : hp_L ls nL lv) (hi : i < nL) (hc : v.category = 1) (ho : hp_ord lv = true) (hl : hp_ins i v lv = lv') :
    ∃ ls', storeLocals ls i v = some ls' ∧ hp_L ls' nL lv' := by
  obtain ⟨ls', h1, h2⟩ := lv_store1 h.1 hi hc
  subst hl
  refine ⟨ls', h1, ⟨h2.1, h2.2.1, fun q hq => ?_⟩, fun q hq => ?_⟩
  · rcases hp_ins_mem ho hq with h3 | ⟨h3, h4⟩
    · exact h2.2.2 q (by rw [h3]; exact List.mem_cons_self)
    · refine h2.2.2 q (List.mem_cons_of_mem _ (List.mem_filter.mpr ⟨h3, ?_⟩))
      have := h.2 q h3
      simp [h4, this]
  · rcases hp_ins_mem ho hq with h3 | ⟨h3, h4⟩
    · rw [h3]; exact hc
    · exact h.2 q h3
def hp_all1 : List Value → Bool
  | [] => true
  | v :: t => (match v with
    | .long _ => false
    | .double _ => false
    | _ => true) && hp_all1 t
theorem hp_cat1 {v : Value} (h : (match v with
    | .long _ => false
    | .double _ => false
    | _ => true) = true) : v.category = 1 := by
  cases v <;> simp_all [Value.category]
theorem hp_all1_args : ∀ (av : List Value) (i : Nat), hp_all1 av = true → ∀ q ∈ lv_args i av, q.2.category = 1
  | [], i, _, q, h => by simp [lv_args] at h
  | v :: t, i, ha, q, h => by
    simp only [hp_all1, Bool.and_eq_true] at ha
    simp only [lv_args] at h
    rcases List.mem_cons.mp h with h | h
    · rw [h]; exact hp_cat1 ha.1
    · exact hp_all1_args t _ ha.2 q h
/-- what a walk stands on -/
def hp_Env (p : Program) (R : Room) (s : State) (m : MethodId) (args : Array Value) (meth : Method) (c : Code) (cs : Nat → ClassId) (D : va_G) (own : String) (cc : ByteArray) (nL : Nat) (ret : Option FieldType) : Prop :=
  p.tables.exec = Jvm.exec ∧ c.code = cc ∧ c.maxLocals = nL ∧ s.vm.findClass own = some m.cls ∧ (∀ w ∈ hp_tbl, w.before args s = true) ∧ va_K D vwCl (hp_tys cs) s ∧ meth.locks = false ∧ meth.sig.returnType = ret ∧ hp_N s
def hp_G (p : Program) (l : Launch) (e : Env) (R : Room) (s : State) (m : MethodId) (args : Array Value) (below : List Frame) (meth : Method) (c : Code) (S : List hp_S) (cs : Nat → ClassId) (ad : Nat → Nat) (A : Nat → Prop) (D : va_G) (nL cells slots : Nat) (Q : State → Prop) (pc : Nat) (lv : List (Nat × Value)) (st : List Value) (h : hp_H) : Prop :=
  ∀ (H : Heap) (locs : List Loc) (ls : Array Slot), va_P D vwCl (hp_W S cs ad h) H → va_S A s.heap H locs → hp_L ls nL lv → W p l e R s m args below meth c H locs cells slots Q (F0 m pc ls st)
section
variable {p : Program} {l : Launch} {e : Env} {R : Room} {s : State} {m : MethodId} {args : Array Value} {below : List Frame} {meth : Method} {c : Code} {S : List hp_S} {cs : Nat → ClassId} {ad : Nat → Nat} {A : Nat → Prop} {D : va_G} {own : String} {cc : ByteArray} {ret : Option FieldType} {nL cells slots : Nat} {Q : State → Prop}
variable {pc : Nat} {lv : List (Nat × Value)} {st : List Value} {h : hp_H}
theorem hp_sub {lv' : List (Nat × Value)} (ks : List Nat) (hl : lv_pick lv ks = lv') (k : hp_G p l e R s m args below meth c S cs ad A D nL cells slots Q pc lv' st h) : hp_G p l e R s m args below meth c S cs ad A D nL cells slots Q pc lv st h := by
  intro H locs ls hP hS hl0
  refine k H locs ls hP hS ⟨lv_sub hl0.1 ks hl, fun q hq => ?_⟩
  rw [← hl] at hq
  obtain ⟨i, -, hi⟩ := List.mem_filterMap.mp hq
  exact hl0.2 q (List.mem_of_getElem? hi)
theorem hp_topi {x : Int32} (k : ∀ y : Int32, y = x → hp_G p l e R s m args below meth c S cs ad A D nL cells slots Q pc lv (.int y :: st) h) : hp_G p l e R s m args below meth c S cs ad A D nL cells slots Q pc lv (.int x :: st) h := k x rfl
theorem hp_iconst (E : hp_Env p R s m args meth c cs D own cc nL ret) {n : Int} (v : Int32) (hd : decode cc pc = .ok (.iconst n, 1)) (hv : Int32.ofInt n = v) (k : hp_G p l e R s m args below meth c S cs ad A D nL cells slots Q (pc + 1) lv (.int v :: st) h) : hp_G p l e R s m args below meth c S cs ad A D nL cells slots Q pc lv st h :=
  fun H locs ls hP hS hl => lv_iconst E.1 E.2.1 hd hv (k H locs ls hP hS hl)
theorem hp_bipush (E : hp_Env p R s m args meth c cs D own cc nL ret) {n : Int} (v : Int32) (hd : decode cc pc = .ok (.bipush n, 2)) (hv : (Int8.ofInt n).toInt32 = v) (k : hp_G p l e R s m args below meth c S cs ad A D nL cells slots Q (pc + 2) lv (.int v :: st) h) : hp_G p l e R s m args below meth c S cs ad A D nL cells slots Q pc lv st h :=
  fun H locs ls hP hS hl => lv_bipush E.1 E.2.1 hd hv (k H locs ls hP hS hl)
theorem hp_sipush (E : hp_Env p R s m args meth c cs D own cc nL ret) {n : Int} (v : Int32) (hd : decode cc pc = .ok (.sipush n, 3)) (hv : (Int16.ofInt n).toInt32 = v) (k : hp_G p l e R s m args below meth c S cs ad A D nL cells slots Q (pc + 3) lv (.int v :: st) h) : hp_G p l e R s m args below meth c S cs ad A D nL cells slots Q pc lv st h :=
  fun H locs ls hP hS hl => lv_sipush E.1 E.2.1 hd hv (k H locs ls hP hS hl)
theorem hp_ldc (E : hp_Env p R s m args meth c cs D own cc nL ret) {i : Nat} (v : Int32) (hm : Cond.constant own i v ∈ hp_tbl) (hd : decode cc pc = .ok (.ldc i, 2)) (k : hp_G p l e R s m args below meth c S cs ad A D nL cells slots Q (pc + 2) lv (.int v :: st) h) : hp_G p l e R s m args below meth c S cs ad A D nL cells slots Q pc lv st h :=
  fun H locs ls hP hS hl => lv_ldc E.1 E.2.1 E.2.2.2.1 (E.2.2.2.2.1 _ hm) hd (k H locs ls hP hS hl)
theorem hp_ldcw (E : hp_Env p R s m args meth c cs D own cc nL ret) {i : Nat} (v : Int32) (hm : Cond.constant own i v ∈ hp_tbl) (hd : decode cc pc = .ok (.ldc_w i, 3)) (k : hp_G p l e R s m args below meth c S cs ad A D nL cells slots Q (pc + 3) lv (.int v :: st) h) : hp_G p l e R s m args below meth c S cs ad A D nL cells slots Q pc lv st h :=
  fun H locs ls hP hS hl => lv_ldcw E.1 E.2.1 E.2.2.2.1 (E.2.2.2.2.1 _ hm) hd (k H locs ls hP hS hl)
theorem hp_lconst (E : hp_Env p R s m args meth c cs D own cc nL ret) {n : Fin 2} (v : Int64) (hd : decode cc pc = .ok (.lconst n, 1)) (hv : Int64.ofNat (n : Nat) = v) (k : hp_G p l e R s m args below meth c S cs ad A D nL cells slots Q (pc + 1) lv (.long v :: st) h) : hp_G p l e R s m args below meth c S cs ad A D nL cells slots Q pc lv st h :=
  fun H locs ls hP hS hl => lv_lconst E.1 E.2.1 hd hv (k H locs ls hP hS hl)
theorem hp_iload_n (E : hp_Env p R s m args meth c cs D own cc nL ret) (w : Nat) {k0 : Fin 4} {i : Nat} {x : Int32} (hd : decode cc pc = .ok (.iload_n k0, 1)) (hi : (k0 : Nat) = i) (hw : lv[w]? = some (i, .int x)) (k : hp_G p l e R s m args below meth c S cs ad A D nL cells slots Q (pc + 1) lv (.int x :: st) h) : hp_G p l e R s m args below meth c S cs ad A D nL cells slots Q pc lv st h :=
  fun H locs ls hP hS hl => lv_iload_n E.1 E.2.1 hd hi (lv_at hl.1 w hw) (k H locs ls hP hS hl)
theorem hp_iload (E : hp_Env p R s m args meth c cs D own cc nL ret) (w : Nat) {i : Nat} {x : Int32} (hd : decode cc pc = .ok (.iload i, 2)) (hw : lv[w]? = some (i, .int x)) (k : hp_G p l e R s m args below meth c S cs ad A D nL cells slots Q (pc + 2) lv (.int x :: st) h) : hp_G p l e R s m args below meth c S cs ad A D nL cells slots Q pc lv st h :=
  fun H locs ls hP hS hl => lv_iload E.1 E.2.1 hd (lv_at hl.1 w hw) (k H locs ls hP hS hl)
theorem hp_aload_n (E : hp_Env p R s m args meth c cs D own cc nL ret) (w : Nat) {k0 : Fin 4} {i : Nat} {x : Nat} (hd : decode cc pc = .ok (.aload_n k0, 1)) (hi : (k0 : Nat) = i) (hw : lv[w]? = some (i, .ref x)) (k : hp_G p l e R s m args below meth c S cs ad A D nL cells slots Q (pc + 1) lv (.ref x :: st) h) : hp_G p l e R s m args below meth c S cs ad A D nL cells slots Q pc lv st h :=
  fun H locs ls hP hS hl => lv_aload_n E.1 E.2.1 hd hi (lv_at hl.1 w hw) (k H locs ls hP hS hl)
theorem hp_aload (E : hp_Env p R s m args meth c cs D own cc nL ret) (w : Nat) {i : Nat} {x : Nat} (hd : decode cc pc = .ok (.aload i, 2)) (hw : lv[w]? = some (i, .ref x)) (k : hp_G p l e R s m args below meth c S cs ad A D nL cells slots Q (pc + 2) lv (.ref x :: st) h) : hp_G p l e R s m args below meth c S cs ad A D nL cells slots Q pc lv st h :=
  fun H locs ls hP hS hl => lv_aload E.1 E.2.1 hd (lv_at hl.1 w hw) (k H locs ls hP hS hl)
theorem hp_istore_n (E : hp_Env p R s m args meth c cs D own cc nL ret) {k0 : Fin 4} {i : Nat} {x : Int32} {lv' : List (Nat × Value)} (hd : decode cc pc = .ok (.istore_n k0, 1)) (hi : (k0 : Nat) = i) (hn : i < nL) (ho : hp_ord lv = true) (hl' : hp_ins i (.int x) lv = lv') (k : hp_G p l e R s m args below meth c S cs ad A D nL cells slots Q (pc + 1) lv' st h) : hp_G p l e R s m args below meth c S cs ad A D nL cells slots Q pc lv (.int x :: st) h := by
  intro H locs ls hP hS hl
  subst hi
  obtain ⟨ls', h1, h2⟩ := hl.sto hn rfl ho hl'
  intro T hT X
  obtain ⟨t, a, b⟩ := k H locs ls' hP hS h2 T hT X
  refine ⟨t, ?_, b⟩
  jvm_step X.here [X.here.top, E.1, E.2.1, hd, h1]
  exact a
theorem hp_istore (E : hp_Env p R s m args meth c cs D own cc nL ret) {i : Nat} {x : Int32} {lv' : List (Nat × Value)} (hd : decode cc pc = .ok (.istore i, 2)) (hn : i < nL) (ho : hp_ord lv = true) (hl' : hp_ins i (.int x) lv = lv') (k : hp_G p l e R s m args below meth c S cs ad A D nL cells slots Q (pc + 2) lv' st h) : hp_G p l e R s m args below meth c S cs ad A D nL cells slots Q pc lv (.int x :: st) h := by
  intro H locs ls hP hS hl
  obtain ⟨ls', h1, h2⟩ := hl.sto hn rfl ho hl'
  intro T hT X
  obtain ⟨t, a, b⟩ := k H locs ls' hP hS h2 T hT X
  refine ⟨t, ?_, b⟩
  jvm_step X.here [X.here.top, E.1, E.2.1, hd, h1]
  exact a
theorem hp_astore_n (E : hp_Env p R s m args meth c cs D own cc nL ret) {k0 : Fin 4} {i : Nat} {x : Nat} {lv' : List (Nat × Value)} (hd : decode cc pc = .ok (.astore_n k0, 1)) (hi : (k0 : Nat) = i) (hn : i < nL) (ho : hp_ord lv = true) (hl' : hp_ins i (.ref x) lv = lv') (k : hp_G p l e R s m args below meth c S cs ad A D nL cells slots Q (pc + 1) lv' st h) : hp_G p l e R s m args below meth c S cs ad A D nL cells slots Q pc lv (.ref x :: st) h := by
  intro H locs ls hP hS hl
  subst hi
  obtain ⟨ls', h1, h2⟩ := hl.sto hn rfl ho hl'
  intro T hT X
  obtain ⟨t, a, b⟩ := k H locs ls' hP hS h2 T hT X
  refine ⟨t, ?_, b⟩
  jvm_step X.here [X.here.top, E.1, E.2.1, hd, h1]
  exact ⟨rfl, a⟩
theorem hp_astore (E : hp_Env p R s m args meth c cs D own cc nL ret) {i : Nat} {x : Nat} {lv' : List (Nat × Value)} (hd : decode cc pc = .ok (.astore i, 2)) (hn : i < nL) (ho : hp_ord lv = true) (hl' : hp_ins i (.ref x) lv = lv') (k : hp_G p l e R s m args below meth c S cs ad A D nL cells slots Q (pc + 2) lv' st h) : hp_G p l e R s m args below meth c S cs ad A D nL cells slots Q pc lv (.ref x :: st) h := by
  intro H locs ls hP hS hl
  obtain ⟨ls', h1, h2⟩ := hl.sto hn rfl ho hl'
  intro T hT X
  obtain ⟨t, a, b⟩ := k H locs ls' hP hS h2 T hT X
  refine ⟨t, ?_, b⟩
  jvm_step X.here [X.here.top, E.1, E.2.1, hd, h1]
  exact ⟨rfl, a⟩
theorem hp_iinc (E : hp_Env p R s m args meth c cs D own cc nL ret) (w : Nat) (v : Int32) {i : Nat} {n : Int} {x : Int32} {lv' : List (Nat × Value)} (hd : decode cc pc = .ok (.iinc i n, 3)) (hw : lv[w]? = some (i, .int x)) (hv : x + Int32.ofInt n = v) (hn : i < nL) (ho : hp_ord lv = true) (hl' : hp_ins i (.int v) lv = lv') (k : hp_G p l e R s m args below meth c S cs ad A D nL cells slots Q (pc + 3) lv' st h) : hp_G p l e R s m args below meth c S cs ad A D nL cells slots Q pc lv st h := by
  intro H locs ls hP hS hl
  obtain ⟨ls', h1, h2⟩ := hl.sto hn rfl ho hl'
  have hi := lv_at hl.1 w hw
  subst hv
  intro T hT X
  obtain ⟨t, a, b⟩ := k H locs ls' hP hS h2 T hT X
  refine ⟨t, ?_, b⟩
  jvm_step X.here [X.here.top, E.1, E.2.1, hd, hi, h1]
  exact a
def hp_ushr (x y : Int32) : Int32 := (x.toUInt32 >>> (y.toUInt32 &&& Int32.toUInt32 31)).toInt32
def hp_shl (x y : Int32) : Int32 := x <<< (y &&& 31)
def hp_rem (x y : Int32) : Int32 := x - x / y * y
def hp_shlL (x : Int64) (y : Int32) : Int64 := x <<< (y.toInt64 &&& 63)
theorem hp_iadd (E : hp_Env p R s m args meth c cs D own cc nL ret) {x y : Int32} (hd : decode cc pc = .ok (.iadd, 1)) (k : hp_G p l e R s m args below meth c S cs ad A D nL cells slots Q (pc + 1) lv (.int (x + y) :: st) h) : hp_G p l e R s m args below meth c S cs ad A D nL cells slots Q (pc) lv (.int y :: .int x :: st) h :=
  fun H locs ls hP hS hl => lv_iadd E.1 E.2.1 hd (k H locs ls hP hS hl)
theorem hp_isub (E : hp_Env p R s m args meth c cs D own cc nL ret) {x y : Int32} (hd : decode cc pc = .ok (.isub, 1)) (k : hp_G p l e R s m args below meth c S cs ad A D nL cells slots Q (pc + 1) lv (.int (x - y) :: st) h) : hp_G p l e R s m args below meth c S cs ad A D nL cells slots Q (pc) lv (.int y :: .int x :: st) h :=
  fun H locs ls hP hS hl => lv_isub E.1 E.2.1 hd (k H locs ls hP hS hl)
theorem hp_imul (E : hp_Env p R s m args meth c cs D own cc nL ret) {x y : Int32} (hd : decode cc pc = .ok (.imul, 1)) (k : hp_G p l e R s m args below meth c S cs ad A D nL cells slots Q (pc + 1) lv (.int (x * y) :: st) h) : hp_G p l e R s m args below meth c S cs ad A D nL cells slots Q (pc) lv (.int y :: .int x :: st) h :=
  fun H locs ls hP hS hl => lv_imul E.1 E.2.1 hd (k H locs ls hP hS hl)
theorem hp_iand (E : hp_Env p R s m args meth c cs D own cc nL ret) {x y : Int32} (hd : decode cc pc = .ok (.iand, 1)) (k : hp_G p l e R s m args below meth c S cs ad A D nL cells slots Q (pc + 1) lv (.int (x &&& y) :: st) h) : hp_G p l e R s m args below meth c S cs ad A D nL cells slots Q (pc) lv (.int y :: .int x :: st) h :=
  fun H locs ls hP hS hl => lv_iand E.1 E.2.1 hd (k H locs ls hP hS hl)
theorem hp_ior (E : hp_Env p R s m args meth c cs D own cc nL ret) {x y : Int32} (hd : decode cc pc = .ok (.ior, 1)) (k : hp_G p l e R s m args below meth c S cs ad A D nL cells slots Q (pc + 1) lv (.int (x ||| y) :: st) h) : hp_G p l e R s m args below meth c S cs ad A D nL cells slots Q (pc) lv (.int y :: .int x :: st) h :=
  fun H locs ls hP hS hl => lv_ior E.1 E.2.1 hd (k H locs ls hP hS hl)
theorem hp_ixor (E : hp_Env p R s m args meth c cs D own cc nL ret) {x y : Int32} (hd : decode cc pc = .ok (.ixor, 1)) (k : hp_G p l e R s m args below meth c S cs ad A D nL cells slots Q (pc + 1) lv (.int (x ^^^ y) :: st) h) : hp_G p l e R s m args below meth c S cs ad A D nL cells slots Q (pc) lv (.int y :: .int x :: st) h :=
  fun H locs ls hP hS hl => lv_ixor E.1 E.2.1 hd (k H locs ls hP hS hl)
theorem hp_ishl (E : hp_Env p R s m args meth c cs D own cc nL ret) {x y : Int32} (hd : decode cc pc = .ok (.ishl, 1)) (k : hp_G p l e R s m args below meth c S cs ad A D nL cells slots Q (pc + 1) lv (.int (hp_shl x y) :: st) h) : hp_G p l e R s m args below meth c S cs ad A D nL cells slots Q (pc) lv (.int y :: .int x :: st) h :=
  fun H locs ls hP hS hl => lv_ishl E.1 E.2.1 hd (k H locs ls hP hS hl)
theorem hp_idiv (E : hp_Env p R s m args meth c cs D own cc nL ret) {x y : Int32} (hy : ¬ y = 0) (hd : decode cc pc = .ok (.idiv, 1)) (k : hp_G p l e R s m args below meth c S cs ad A D nL cells slots Q (pc + 1) lv (.int (x / y) :: st) h) : hp_G p l e R s m args below meth c S cs ad A D nL cells slots Q (pc) lv (.int y :: .int x :: st) h :=
  fun H locs ls hP hS hl => lv_idiv E.1 E.2.1 hd hy (k H locs ls hP hS hl)
theorem hp_irem (E : hp_Env p R s m args meth c cs D own cc nL ret) {x y : Int32} (hy : ¬ y = 0) (hd : decode cc pc = .ok (.irem, 1)) (k : hp_G p l e R s m args below meth c S cs ad A D nL cells slots Q (pc + 1) lv (.int (hp_rem x y) :: st) h) : hp_G p l e R s m args below meth c S cs ad A D nL cells slots Q (pc) lv (.int y :: .int x :: st) h :=
  fun H locs ls hP hS hl => lv_irem E.1 E.2.1 hd hy (k H locs ls hP hS hl)
theorem hp_iushr (E : hp_Env p R s m args meth c cs D own cc nL ret) {x y : Int32} (hd : decode cc pc = .ok (.iushr, 1)) (k : hp_G p l e R s m args below meth c S cs ad A D nL cells slots Q (pc + 1) lv (.int (hp_ushr x y) :: st) h) : hp_G p l e R s m args below meth c S cs ad A D nL cells slots Q (pc) lv (.int y :: .int x :: st) h :=
  fun H locs ls hP hS hl => lv_iushr E.1 E.2.1 hd rfl (k H locs ls hP hS hl)
theorem hp_lshl (E : hp_Env p R s m args meth c cs D own cc nL ret) {x : Int64} {y : Int32} (hd : decode cc pc = .ok (.lshl, 1)) (k : hp_G p l e R s m args below meth c S cs ad A D nL cells slots Q (pc + 1) lv (.long (hp_shlL x y) :: st) h) : hp_G p l e R s m args below meth c S cs ad A D nL cells slots Q (pc) lv (.int y :: .long x :: st) h :=
  fun H locs ls hP hS hl => lv_lshl E.1 E.2.1 hd rfl (k H locs ls hP hS hl)
theorem hp_lor (E : hp_Env p R s m args meth c cs D own cc nL ret) {x y : Int64} (hd : decode cc pc = .ok (.lor, 1)) (k : hp_G p l e R s m args below meth c S cs ad A D nL cells slots Q (pc + 1) lv (.long (x ||| y) :: st) h) : hp_G p l e R s m args below meth c S cs ad A D nL cells slots Q (pc) lv (.long y :: .long x :: st) h :=
  fun H locs ls hP hS hl => lv_lor E.1 E.2.1 hd (k H locs ls hP hS hl)
theorem hp_lcmp (E : hp_Env p R s m args meth c cs D own cc nL ret) {x y : Int64} (hd : decode cc pc = .ok (.lcmp, 1)) (k : hp_G p l e R s m args below meth c S cs ad A D nL cells slots Q (pc + 1) lv (.int (lg_cmp x y) :: st) h) : hp_G p l e R s m args below meth c S cs ad A D nL cells slots Q (pc) lv (.long y :: .long x :: st) h :=
  fun H locs ls hP hS hl => W.lcmp E.1 E.2.1 hd (k H locs ls hP hS hl)
theorem hp_dup (E : hp_Env p R s m args meth c cs D own cc nL ret) {va : Value} (h1 : va.category = 1) (hd : decode cc pc = .ok (.dup, 1)) (k : hp_G p l e R s m args below meth c S cs ad A D nL cells slots Q (pc + 1) lv (va :: va :: st) h) : hp_G p l e R s m args below meth c S cs ad A D nL cells slots Q (pc) lv (va :: st) h :=
  fun H locs ls hP hS hl => lv_dup E.1 E.2.1 hd h1 (k H locs ls hP hS hl)
theorem hp_pop (E : hp_Env p R s m args meth c cs D own cc nL ret) {va : Value} (h1 : va.category = 1) (hd : decode cc pc = .ok (.pop, 1)) (k : hp_G p l e R s m args below meth c S cs ad A D nL cells slots Q (pc + 1) lv (st) h) : hp_G p l e R s m args below meth c S cs ad A D nL cells slots Q (pc) lv (va :: st) h :=
  fun H locs ls hP hS hl => lv_pop E.1 E.2.1 hd h1 (k H locs ls hP hS hl)
theorem hp_dup_x1 (E : hp_Env p R s m args meth c cs D own cc nL ret) {va vb : Value} (h1 : va.category = 1) (h2 : vb.category = 1) (hd : decode cc pc = .ok (.dup_x1, 1)) (k : hp_G p l e R s m args below meth c S cs ad A D nL cells slots Q (pc + 1) lv (va :: vb :: va :: st) h) : hp_G p l e R s m args below meth c S cs ad A D nL cells slots Q (pc) lv (va :: vb :: st) h :=
  fun H locs ls hP hS hl => lv_dup_x1 E.1 E.2.1 hd h1 h2 (k H locs ls hP hS hl)
theorem hp_dup_x2 (E : hp_Env p R s m args meth c cs D own cc nL ret) {va vb vd : Value} (h1 : va.category = 1) (h2 : vb.category = 1) (h3 : vd.category = 1) (hd : decode cc pc = .ok (.dup_x2, 1)) (k : hp_G p l e R s m args below meth c S cs ad A D nL cells slots Q (pc + 1) lv (va :: vb :: vd :: va :: st) h) : hp_G p l e R s m args below meth c S cs ad A D nL cells slots Q (pc) lv (va :: vb :: vd :: st) h :=
  fun H locs ls hP hS hl => lv_dup_x2 E.1 E.2.1 hd h1 h2 h3 (k H locs ls hP hS hl)
theorem hp_dup2 (E : hp_Env p R s m args meth c cs D own cc nL ret) {va vb : Value} (h1 : va.category = 1) (h2 : vb.category = 1) (hd : decode cc pc = .ok (.dup2, 1)) (k : hp_G p l e R s m args below meth c S cs ad A D nL cells slots Q (pc + 1) lv (va :: vb :: va :: vb :: st) h) : hp_G p l e R s m args below meth c S cs ad A D nL cells slots Q (pc) lv (va :: vb :: st) h :=
  fun H locs ls hP hS hl => lv_dup2_11 E.1 E.2.1 hd h1 h2 (k H locs ls hP hS hl)
theorem hp_if_eq (E : hp_Env p R s m args meth c cs D own cc nL ret) {x : Int32} {off : Int} (tgt : Nat) (hd : decode cc pc = .ok (.ifCond .eq off, 3)) (ht : (pc : Int) + off = (tgt : Int)) (kt : x = 0 → hp_G p l e R s m args below meth c S cs ad A D nL cells slots Q (tgt) lv (st) h) (kf : ¬ (x = 0) → hp_G p l e R s m args below meth c S cs ad A D nL cells slots Q (pc + 3) lv (st) h) : hp_G p l e R s m args below meth c S cs ad A D nL cells slots Q (pc) lv (.int x :: st) h :=
  fun H locs ls hP hS hl => lv_if_eq E.1 E.2.1 hd ht (fun q => kt q H locs ls hP hS hl) (fun q => kf q H locs ls hP hS hl)
theorem hp_icmp_eq (E : hp_Env p R s m args meth c cs D own cc nL ret) {x y : Int32} {off : Int} (tgt : Nat) (hd : decode cc pc = .ok (.if_icmp .eq off, 3)) (ht : (pc : Int) + off = (tgt : Int)) (kt : x = y → hp_G p l e R s m args below meth c S cs ad A D nL cells slots Q (tgt) lv (st) h) (kf : ¬ (x = y) → hp_G p l e R s m args below meth c S cs ad A D nL cells slots Q (pc + 3) lv (st) h) : hp_G p l e R s m args below meth c S cs ad A D nL cells slots Q (pc) lv (.int y :: .int x :: st) h :=
  fun H locs ls hP hS hl => lv_icmp_eq E.1 E.2.1 hd ht (fun q => kt q H locs ls hP hS hl) (fun q => kf q H locs ls hP hS hl)
theorem hp_if_ne (E : hp_Env p R s m args meth c cs D own cc nL ret) {x : Int32} {off : Int} (tgt : Nat) (hd : decode cc pc = .ok (.ifCond .ne off, 3)) (ht : (pc : Int) + off = (tgt : Int)) (kt : ¬ x = 0 → hp_G p l e R s m args below meth c S cs ad A D nL cells slots Q (tgt) lv (st) h) (kf : x = 0 → hp_G p l e R s m args below meth c S cs ad A D nL cells slots Q (pc + 3) lv (st) h) : hp_G p l e R s m args below meth c S cs ad A D nL cells slots Q (pc) lv (.int x :: st) h :=
  fun H locs ls hP hS hl => lv_if_ne E.1 E.2.1 hd ht (fun q => kt q H locs ls hP hS hl) (fun q => kf q H locs ls hP hS hl)
theorem hp_icmp_ne (E : hp_Env p R s m args meth c cs D own cc nL ret) {x y : Int32} {off : Int} (tgt : Nat) (hd : decode cc pc = .ok (.if_icmp .ne off, 3)) (ht : (pc : Int) + off = (tgt : Int)) (kt : ¬ x = y → hp_G p l e R s m args below meth c S cs ad A D nL cells slots Q (tgt) lv (st) h) (kf : x = y → hp_G p l e R s m args below meth c S cs ad A D nL cells slots Q (pc + 3) lv (st) h) : hp_G p l e R s m args below meth c S cs ad A D nL cells slots Q (pc) lv (.int y :: .int x :: st) h :=
  fun H locs ls hP hS hl => lv_icmp_ne E.1 E.2.1 hd ht (fun q => kt q H locs ls hP hS hl) (fun q => kf q H locs ls hP hS hl)
theorem hp_if_lt (E : hp_Env p R s m args meth c cs D own cc nL ret) {x : Int32} {off : Int} (tgt : Nat) (hd : decode cc pc = .ok (.ifCond .lt off, 3)) (ht : (pc : Int) + off = (tgt : Int)) (kt : x < 0 → hp_G p l e R s m args below meth c S cs ad A D nL cells slots Q (tgt) lv (st) h) (kf : ¬ (x < 0) → hp_G p l e R s m args below meth c S cs ad A D nL cells slots Q (pc + 3) lv (st) h) : hp_G p l e R s m args below meth c S cs ad A D nL cells slots Q (pc) lv (.int x :: st) h :=
  fun H locs ls hP hS hl => lv_if_lt E.1 E.2.1 hd ht (fun q => kt q H locs ls hP hS hl) (fun q => kf q H locs ls hP hS hl)
theorem hp_icmp_lt (E : hp_Env p R s m args meth c cs D own cc nL ret) {x y : Int32} {off : Int} (tgt : Nat) (hd : decode cc pc = .ok (.if_icmp .lt off, 3)) (ht : (pc : Int) + off = (tgt : Int)) (kt : x < y → hp_G p l e R s m args below meth c S cs ad A D nL cells slots Q (tgt) lv (st) h) (kf : ¬ (x < y) → hp_G p l e R s m args below meth c S cs ad A D nL cells slots Q (pc + 3) lv (st) h) : hp_G p l e R s m args below meth c S cs ad A D nL cells slots Q (pc) lv (.int y :: .int x :: st) h :=
  fun H locs ls hP hS hl => lv_icmp_lt E.1 E.2.1 hd ht (fun q => kt q H locs ls hP hS hl) (fun q => kf q H locs ls hP hS hl)
theorem hp_if_ge (E : hp_Env p R s m args meth c cs D own cc nL ret) {x : Int32} {off : Int} (tgt : Nat) (hd : decode cc pc = .ok (.ifCond .ge off, 3)) (ht : (pc : Int) + off = (tgt : Int)) (kt : 0 ≤ x → hp_G p l e R s m args below meth c S cs ad A D nL cells slots Q (tgt) lv (st) h) (kf : ¬ (0 ≤ x) → hp_G p l e R s m args below meth c S cs ad A D nL cells slots Q (pc + 3) lv (st) h) : hp_G p l e R s m args below meth c S cs ad A D nL cells slots Q (pc) lv (.int x :: st) h :=
  fun H locs ls hP hS hl => lv_if_ge E.1 E.2.1 hd ht (fun q => kt q H locs ls hP hS hl) (fun q => kf q H locs ls hP hS hl)
theorem hp_icmp_ge (E : hp_Env p R s m args meth c cs D own cc nL ret) {x y : Int32} {off : Int} (tgt : Nat) (hd : decode cc pc = .ok (.if_icmp .ge off, 3)) (ht : (pc : Int) + off = (tgt : Int)) (kt : y ≤ x → hp_G p l e R s m args below meth c S cs ad A D nL cells slots Q (tgt) lv (st) h) (kf : ¬ (y ≤ x) → hp_G p l e R s m args below meth c S cs ad A D nL cells slots Q (pc + 3) lv (st) h) : hp_G p l e R s m args below meth c S cs ad A D nL cells slots Q (pc) lv (.int y :: .int x :: st) h :=
  fun H locs ls hP hS hl => lv_icmp_ge E.1 E.2.1 hd ht (fun q => kt q H locs ls hP hS hl) (fun q => kf q H locs ls hP hS hl)
theorem hp_if_gt (E : hp_Env p R s m args meth c cs D own cc nL ret) {x : Int32} {off : Int} (tgt : Nat) (hd : decode cc pc = .ok (.ifCond .gt off, 3)) (ht : (pc : Int) + off = (tgt : Int)) (kt : 0 < x → hp_G p l e R s m args below meth c S cs ad A D nL cells slots Q (tgt) lv (st) h) (kf : ¬ (0 < x) → hp_G p l e R s m args below meth c S cs ad A D nL cells slots Q (pc + 3) lv (st) h) : hp_G p l e R s m args below meth c S cs ad A D nL cells slots Q (pc) lv (.int x :: st) h :=
  fun H locs ls hP hS hl => lv_if_gt E.1 E.2.1 hd ht (fun q => kt q H locs ls hP hS hl) (fun q => kf q H locs ls hP hS hl)
theorem hp_icmp_gt (E : hp_Env p R s m args meth c cs D own cc nL ret) {x y : Int32} {off : Int} (tgt : Nat) (hd : decode cc pc = .ok (.if_icmp .gt off, 3)) (ht : (pc : Int) + off = (tgt : Int)) (kt : y < x → hp_G p l e R s m args below meth c S cs ad A D nL cells slots Q (tgt) lv (st) h) (kf : ¬ (y < x) → hp_G p l e R s m args below meth c S cs ad A D nL cells slots Q (pc + 3) lv (st) h) : hp_G p l e R s m args below meth c S cs ad A D nL cells slots Q (pc) lv (.int y :: .int x :: st) h :=
  fun H locs ls hP hS hl => lv_icmp_gt E.1 E.2.1 hd ht (fun q => kt q H locs ls hP hS hl) (fun q => kf q H locs ls hP hS hl)
theorem hp_if_le (E : hp_Env p R s m args meth c cs D own cc nL ret) {x : Int32} {off : Int} (tgt : Nat) (hd : decode cc pc = .ok (.ifCond .le off, 3)) (ht : (pc : Int) + off = (tgt : Int)) (kt : x ≤ 0 → hp_G p l e R s m args below meth c S cs ad A D nL cells slots Q (tgt) lv (st) h) (kf : ¬ (x ≤ 0) → hp_G p l e R s m args below meth c S cs ad A D nL cells slots Q (pc + 3) lv (st) h) : hp_G p l e R s m args below meth c S cs ad A D nL cells slots Q (pc) lv (.int x :: st) h :=
  fun H locs ls hP hS hl => lv_if_le E.1 E.2.1 hd ht (fun q => kt q H locs ls hP hS hl) (fun q => kf q H locs ls hP hS hl)
theorem hp_icmp_le (E : hp_Env p R s m args meth c cs D own cc nL ret) {x y : Int32} {off : Int} (tgt : Nat) (hd : decode cc pc = .ok (.if_icmp .le off, 3)) (ht : (pc : Int) + off = (tgt : Int)) (kt : x ≤ y → hp_G p l e R s m args below meth c S cs ad A D nL cells slots Q (tgt) lv (st) h) (kf : ¬ (x ≤ y) → hp_G p l e R s m args below meth c S cs ad A D nL cells slots Q (pc + 3) lv (st) h) : hp_G p l e R s m args below meth c S cs ad A D nL cells slots Q (pc) lv (.int y :: .int x :: st) h :=
  fun H locs ls hP hS hl => lv_icmp_le E.1 E.2.1 hd ht (fun q => kt q H locs ls hP hS hl) (fun q => kf q H locs ls hP hS hl)
theorem hp_goto (E : hp_Env p R s m args meth c cs D own cc nL ret) {off : Int} (tgt : Nat) (hd : decode cc pc = .ok (.goto off, 3)) (ht : (pc : Int) + off = (tgt : Int)) (k : hp_G p l e R s m args below meth c S cs ad A D nL cells slots Q (tgt) lv (st) h) : hp_G p l e R s m args below meth c S cs ad A D nL cells slots Q (pc) lv (st) h :=
  fun H locs ls hP hS hl => lv_goto E.1 E.2.1 hd ht (k H locs ls hP hS hl)
theorem hp_tswV (E : hp_Env p R s m args meth c cs D own cc nL ret) {x : Int32} (v : Int32) {dflt lo hi off : Int} {offs : Array Int} {len : Nat} (tgt : Nat) (hd : decode cc pc = .ok (.tableswitch dflt lo hi offs, len)) (hx : x = v) (h1 : ¬ v.toInt < lo) (h2 : ¬ hi < v.toInt) (ho : offs[(v.toInt - lo).toNat]? = some off) (ht : (pc : Int) + off = (tgt : Int)) (k : hp_G p l e R s m args below meth c S cs ad A D nL cells slots Q (tgt) lv (st) h) : hp_G p l e R s m args below meth c S cs ad A D nL cells slots Q (pc) lv (.int x :: st) h :=
  fun H locs ls hP hS hl => lv_tableIn E.1 E.2.1 hd (by rw [hx]; exact h1) (by rw [hx]; exact h2) (by rw [hx]; exact ho) ht (k H locs ls hP hS hl)
theorem hp_tswD (E : hp_Env p R s m args meth c cs D own cc nL ret) {x : Int32} {dflt lo hi : Int} {offs : Array Int} {len : Nat} (tgt : Nat) (hd : decode cc pc = .ok (.tableswitch dflt lo hi offs, len)) (h1 : x.toInt < lo ∨ hi < x.toInt) (ht : (pc : Int) + dflt = (tgt : Int)) (k : hp_G p l e R s m args below meth c S cs ad A D nL cells slots Q (tgt) lv (st) h) : hp_G p l e R s m args below meth c S cs ad A D nL cells slots Q (pc) lv (.int x :: st) h :=
  fun H locs ls hP hS hl => lv_tableOut E.1 E.2.1 hd h1 ht (k H locs ls hP hS hl)
theorem hp_lsw (E : hp_Env p R s m args meth c cs D own cc nL ret) {x : Int32} {dflt off : Int} {ps : Array (Int × Int)} {len : Nat} (tgt : Nat) (hd : decode cc pc = .ok (.lookupswitch dflt ps, len)) (hp : (ps.toList.zip (ps.toList.drop 1)).all (fun (a, next) => a.1 < next.1) = true) (ho : Op.lookupswitch.offset ps.toList dflt x.toInt = off) (ht : (pc : Int) + off = (tgt : Int)) (k : hp_G p l e R s m args below meth c S cs ad A D nL cells slots Q (tgt) lv (st) h) : hp_G p l e R s m args below meth c S cs ad A D nL cells slots Q (pc) lv (.int x :: st) h :=
  fun H locs ls hP hS hl => lv_lookup E.1 E.2.1 hd hp ho ht (k H locs ls hP hS hl)
theorem hp_geti (E : hp_Env p R s m args meth c cs D own cc nL ret) (k0 j : Nat) {ci N idx : Nat} {ds : List (Nat × Nat × Nat)} {u : Nat × Nat} {ref C : String} {T : u_T} (hs : S[k0]? = some (.inl (ci, ds))) (hf : ds[j]? = some (0, u)) (hc : vwCl[ci]? = some (C, T, N)) (hin : ∀ w ∈ u_ws C T N, w ∈ hp_tbl) (hj : j < N) (hr : (T j).1 = ref) (hm : Cond.fieldLink own idx ref (T j).2.1 (T j).2.2.1 ∈ hp_tbl) (hd : decode cc pc = .ok (.getfield idx, 3)) (k : hp_G p l e R s m args below meth c S cs ad A D nL cells slots Q (pc + 3) lv (.int (h k0 j) :: st) h) : hp_G p l e R s m args below meth c S cs ad A D nL cells slots Q (pc) lv (.ref (ad k0) :: st) h :=
  fun H locs ls hP hS hl => va_get E.1 E.2.1 E.2.2.2.2.1 hin E.2.2.2.1 E.2.2.2.2.2.1 hP k0 (hp_W_get hs) hc j hj (E.2.2.2.2.1 _ hm) (by rw [hr]; exact fun _ h9 => h9) (hp_fs_get hf) hd (k H locs ls hP hS hl)
theorem hp_getr (E : hp_Env p R s m args meth c cs D own cc nL ret) (k0 j t : Nat) {ci N idx u : Nat} {ds : List (Nat × Nat × Nat)} {ref C : String} {T : u_T} (hs : S[k0]? = some (.inl (ci, ds))) (hf : ds[j]? = some (1, t, u)) (hc : vwCl[ci]? = some (C, T, N)) (hin : ∀ w ∈ u_ws C T N, w ∈ hp_tbl) (hj : j < N) (hr : (T j).1 = ref) (hm : Cond.fieldLink own idx ref (T j).2.1 (T j).2.2.1 ∈ hp_tbl) (hd : decode cc pc = .ok (.getfield idx, 3)) (k : hp_G p l e R s m args below meth c S cs ad A D nL cells slots Q (pc + 3) lv (.ref (ad t) :: st) h) : hp_G p l e R s m args below meth c S cs ad A D nL cells slots Q (pc) lv (.ref (ad k0) :: st) h :=
  fun H locs ls hP hS hl => va_get E.1 E.2.1 E.2.2.2.2.1 hin E.2.2.2.1 E.2.2.2.2.2.1 hP k0 (hp_W_get hs) hc j hj (E.2.2.2.2.1 _ hm) (by rw [hr]; exact fun _ h9 => h9) (hp_fs_get hf) hd (k H locs ls hP hS hl)
theorem hp_getm (E : hp_Env p R s m args meth c cs D own cc nL ret) (k0 j t : Nat) {ci N idx u : Nat} {ds : List (Nat × Nat × Nat)} {ref C : String} {T : u_T} (hs : S[k0]? = some (.inl (ci, ds))) (hf : ds[j]? = some (2, t, u)) (hc : vwCl[ci]? = some (C, T, N)) (hin : ∀ w ∈ u_ws C T N, w ∈ hp_tbl) (hj : j < N) (hr : (T j).1 = ref) (hm : Cond.fieldLink own idx ref (T j).2.1 (T j).2.2.1 ∈ hp_tbl) (hd : decode cc pc = .ok (.getfield idx, 3)) (k : hp_G p l e R s m args below meth c S cs ad A D nL cells slots Q (pc + 3) lv (.ref (ad (t + (h hp_V u).toNatClampNeg)) :: st) h) : hp_G p l e R s m args below meth c S cs ad A D nL cells slots Q (pc) lv (.ref (ad k0) :: st) h :=
  fun H locs ls hP hS hl => va_get E.1 E.2.1 E.2.2.2.2.1 hin E.2.2.2.1 E.2.2.2.2.2.1 hP k0 (hp_W_get hs) hc j hj (E.2.2.2.2.1 _ hm) (by rw [hr]; exact fun _ h9 => h9) (hp_fs_get hf) hd (k H locs ls hP hS hl)
def hp_bz (v : Int32) : Prop := v = 0 ∨ v = 1
theorem hp_bz_n {v : Int32} (h : hp_bz v) : narrow .boolean (.int v) = .int v := by rcases h with rfl | rfl <;> rfl
theorem hp_bz_f {v : Int32} (h : hp_bz v) : fits .boolean (.int v) = true := by rcases h with rfl | rfl <;> rfl
theorem hp_putv (E : hp_Env p R s m args meth c cs D own cc nL ret) (k0 j : Nat) {ci N idx : Nat} {ds : List (Nat × Nat × Nat)} {u : Nat × Nat} {ref C : String} {T : u_T} {ty : FieldType} {v : Int32} (hs : S[k0]? = some (.inl (ci, ds))) (hf : ds[j]? = some (0, u)) (h9 : k0 ≠ hp_V) (hJ : hp_J S ad A) (hc : vwCl[ci]? = some (C, T, N)) (hin : ∀ w ∈ u_ws C T N, w ∈ hp_tbl) (ty0 : Nat → FieldType) (hty : ∀ k, k < N → parseFieldDescriptor (T k).2.2.1 = some (ty0 k)) (hnm : ∀ a, a < N → ∀ b, b < N → a ≠ b → (T a).2.1 ≠ (T b).2.1) (hj : j < N) (hr : (T j).1 = ref) (hfin : (T j).2.2.2 = false) (hm : Cond.fieldLink own idx ref (T j).2.1 (T j).2.2.1 ∈ hp_tbl) (ht : ty0 j = ty) (hn : narrow ty (.int v) = .int v) (hfit : fits ty (.int v) = true) (hd : decode cc pc = .ok (.putfield idx, 3)) (k : hp_G p l e R s m args below meth c S cs ad A D nL cells slots Q (pc + 3) lv (st) (hp_up h k0 j v)) : hp_G p l e R s m args below meth c S cs ad A D nL cells slots Q (pc) lv (.int v :: .ref (ad k0) :: st) h :=
  fun H locs ls hP hS hl => va_put (ty := ty) E.1 E.2.1 E.2.2.2.2.1 hin ty0 hty hnm E.2.2.2.1 E.2.2.2.2.2.1 hP (hJ.D h) hS k0 (hp_W_get hs) hc j hj (E.2.2.2.2.1 _ hm) (by rw [hr]; exact fun _ h9 => h9) hfin (by rw [hty j hj, ht]) hn hfit (by rw [hp_fs, hp_mi_len]; exact (List.getElem?_eq_some_iff.mp hf).1) hd (fun H1 locs1 hP1 hD1 hS1 => k H1 locs1 ls (by rw [← hp_W_put v hs hf h9]; exact hP1) hS1 hl)
theorem hp_puti (E : hp_Env p R s m args meth c cs D own cc nL ret) (k0 j : Nat) {ci N idx : Nat} {ds : List (Nat × Nat × Nat)} {u : Nat × Nat} {ref C : String} {T : u_T} {v : Int32} (hs : S[k0]? = some (.inl (ci, ds))) (hf : ds[j]? = some (0, u)) (h9 : k0 ≠ hp_V) (hJ : hp_J S ad A) (hc : vwCl[ci]? = some (C, T, N)) (hin : ∀ w ∈ u_ws C T N, w ∈ hp_tbl) (ty0 : Nat → FieldType) (hty : ∀ k, k < N → parseFieldDescriptor (T k).2.2.1 = some (ty0 k)) (hnm : ∀ a, a < N → ∀ b, b < N → a ≠ b → (T a).2.1 ≠ (T b).2.1) (hj : j < N) (hr : (T j).1 = ref) (hfin : (T j).2.2.2 = false) (hm : Cond.fieldLink own idx ref (T j).2.1 (T j).2.2.1 ∈ hp_tbl) (ht : ty0 j = .int) (hd : decode cc pc = .ok (.putfield idx, 3)) (k : hp_G p l e R s m args below meth c S cs ad A D nL cells slots Q (pc + 3) lv (st) (hp_up h k0 j v)) : hp_G p l e R s m args below meth c S cs ad A D nL cells slots Q (pc) lv (.int v :: .ref (ad k0) :: st) h :=
  hp_putv E k0 j hs hf h9 hJ hc hin ty0 hty hnm hj hr hfin hm ht rfl rfl hd k
theorem hp_putz (E : hp_Env p R s m args meth c cs D own cc nL ret) (k0 j : Nat) {ci N idx : Nat} {ds : List (Nat × Nat × Nat)} {u : Nat × Nat} {ref C : String} {T : u_T} {v : Int32} (hs : S[k0]? = some (.inl (ci, ds))) (hf : ds[j]? = some (0, u)) (h9 : k0 ≠ hp_V) (hJ : hp_J S ad A) (hc : vwCl[ci]? = some (C, T, N)) (hin : ∀ w ∈ u_ws C T N, w ∈ hp_tbl) (ty0 : Nat → FieldType) (hty : ∀ k, k < N → parseFieldDescriptor (T k).2.2.1 = some (ty0 k)) (hnm : ∀ a, a < N → ∀ b, b < N → a ≠ b → (T a).2.1 ≠ (T b).2.1) (hj : j < N) (hr : (T j).1 = ref) (hfin : (T j).2.2.2 = false) (hm : Cond.fieldLink own idx ref (T j).2.1 (T j).2.2.1 ∈ hp_tbl) (ht : ty0 j = .boolean) (hv : hp_bz v) (hd : decode cc pc = .ok (.putfield idx, 3)) (k : hp_G p l e R s m args below meth c S cs ad A D nL cells slots Q (pc + 3) lv (st) (hp_up h k0 j v)) : hp_G p l e R s m args below meth c S cs ad A D nL cells slots Q (pc) lv (.int v :: .ref (ad k0) :: st) h :=
  hp_putv E k0 j hs hf h9 hJ hc hin ty0 hty hnm hj hr hfin hm ht (hp_bz_n hv) (hp_bz_f hv) hd k
theorem hp_iald (E : hp_Env p R s m args meth c cs D own cc nL ret) (k0 : Nat) {n : Nat} {i : Int32} (hs : S[k0]? = some (.inr (0, n))) (hi : vp_in i n) (hd : decode cc pc = .ok (.iaload, 1)) (k : hp_G p l e R s m args below meth c S cs ad A D nL cells slots Q (pc + 1) lv (.int (h k0 i.toNatClampNeg) :: st) h) : hp_G p l e R s m args below meth c S cs ad A D nL cells slots Q (pc) lv (.int i :: .ref (ad k0) :: st) h :=
  fun H locs ls hP hS hl => va_iald E.1 E.2.1 E.2.2.2.2.2.1 hP k0 0 (hp_W_get hs) rfl hi hd (k H locs ls hP hS hl)
theorem hp_zald (E : hp_Env p R s m args meth c cs D own cc nL ret) (k0 : Nat) {n : Nat} {i : Int32} (hs : S[k0]? = some (.inr (2, n))) (hi : vp_in i n) (hd : decode cc pc = .ok (.baload, 1)) (k : hp_G p l e R s m args below meth c S cs ad A D nL cells slots Q (pc + 1) lv (.int (h k0 i.toNatClampNeg) :: st) h) : hp_G p l e R s m args below meth c S cs ad A D nL cells slots Q (pc) lv (.int i :: .ref (ad k0) :: st) h :=
  fun H locs ls hP hS hl => va_zald E.1 E.2.1 E.2.2.2.2.2.1 hP k0 2 (hp_W_get hs) rfl hi hd (k H locs ls hP hS hl)
theorem hp_lald (E : hp_Env p R s m args meth c cs D own cc nL ret) (k0 : Nat) {n : Nat} {i : Int32} (hs : S[k0]? = some (.inr (1, n))) (hi : vp_in i n) (hd : decode cc pc = .ok (.laload, 1)) (k : hp_G p l e R s m args below meth c S cs ad A D nL cells slots Q (pc + 1) lv (.long (hp_ldL h k0 i.toNatClampNeg) :: st) h) : hp_G p l e R s m args below meth c S cs ad A D nL cells slots Q (pc) lv (.int i :: .ref (ad k0) :: st) h :=
  fun H locs ls hP hS hl => va_lald E.1 E.2.1 E.2.2.2.2.2.1 hP k0 1 (hp_W_get hs) rfl hi hd (k H locs ls hP hS hl)
theorem hp_iast (E : hp_Env p R s m args meth c cs D own cc nL ret) (k0 : Nat) {n : Nat} {i x : Int32} (hs : S[k0]? = some (.inr (0, n))) (h9 : k0 ≠ hp_V) (hJ : hp_J S ad A) (hi : vp_in i n) (hd : decode cc pc = .ok (.iastore, 1)) (k : hp_G p l e R s m args below meth c S cs ad A D nL cells slots Q (pc + 1) lv (st) (hp_up h k0 i.toNatClampNeg x)) : hp_G p l e R s m args below meth c S cs ad A D nL cells slots Q (pc) lv (.int x :: .int i :: .ref (ad k0) :: st) h :=
  fun H locs ls hP hS hl => va_iast E.1 E.2.1 E.2.2.2.2.2.1 hP (hJ.D h) hS k0 0 (hp_W_get hs) rfl hi hd (fun H1 locs1 hP1 hD1 hS1 => k H1 locs1 ls (by rw [← hp_W_ast x hs (by decide) h9]; exact hP1) hS1 hl)
theorem hp_zast (E : hp_Env p R s m args meth c cs D own cc nL ret) (k0 : Nat) {n : Nat} {i x : Int32} (hs : S[k0]? = some (.inr (2, n))) (h9 : k0 ≠ hp_V) (hJ : hp_J S ad A) (hi : vp_in i n) (hx : hp_bz x) (hd : decode cc pc = .ok (.bastore, 1)) (k : hp_G p l e R s m args below meth c S cs ad A D nL cells slots Q (pc + 1) lv (st) (hp_up h k0 i.toNatClampNeg x)) : hp_G p l e R s m args below meth c S cs ad A D nL cells slots Q (pc) lv (.int x :: .int i :: .ref (ad k0) :: st) h :=
  fun H locs ls hP hS hl => va_zast E.1 E.2.1 E.2.2.2.2.2.1 hP (hJ.D h) hS k0 2 (hp_W_get hs) rfl hi hd (fun H1 locs1 hP1 hD1 hS1 => k H1 locs1 ls (by rw [← hp_W_ast x hs (by decide) h9]; rw [show vp_nar .boolean x = x by rcases hx with rfl | rfl <;> rfl] at hP1; exact hP1) hS1 hl)
theorem hp_last (E : hp_Env p R s m args meth c cs D own cc nL ret) (k0 : Nat) {n : Nat} {i : Int32} {x : Int64} (hs : S[k0]? = some (.inr (1, n))) (h9 : k0 ≠ hp_V) (hJ : hp_J S ad A) (hi : vp_in i n) (hd : decode cc pc = .ok (.lastore, 1)) (k : hp_G p l e R s m args below meth c S cs ad A D nL cells slots Q (pc + 1) lv (st) (hp_upL h k0 i.toNatClampNeg x)) : hp_G p l e R s m args below meth c S cs ad A D nL cells slots Q (pc) lv (.long x :: .int i :: .ref (ad k0) :: st) h :=
  fun H locs ls hP hS hl => va_last E.1 E.2.1 E.2.2.2.2.2.1 hP (hJ.D h) hS k0 1 (hp_W_get hs) rfl hi hd (fun H1 locs1 hP1 hD1 hS1 => k H1 locs1 ls (by rw [← hp_W_last x hs h9]; exact hP1) hS1 hl)
theorem hp_alen (E : hp_Env p R s m args meth c cs D own cc nL ret) (k0 : Nat) {n : Nat} (hs : S[k0]? = some (.inr (0, n))) (hd : decode cc pc = .ok (.arraylength, 1)) (k : hp_G p l e R s m args below meth c S cs ad A D nL cells slots Q (pc + 1) lv (.int (nI n) :: st) h) : hp_G p l e R s m args below meth c S cs ad A D nL cells slots Q (pc) lv (.ref (ad k0) :: st) h :=
  fun H locs ls hP hS hl => va_alen (ty := .int) E.1 E.2.1 E.2.2.2.2.2.1 hP k0 0 (hp_W_get hs) rfl rfl hd (k H locs ls hP hS hl)
theorem hp_copy (E : hp_Env p R s m args meth c cs D own cc nL ret) (k0 k1 : Nat) {n0 n1 idx : Nat} {sp dp n : Int32} (hs0 : S[k0]? = some (.inr (0, n0))) (hs1 : S[k1]? = some (.inr (0, n1))) (h9 : k1 ≠ hp_V) (hJ : hp_J S ad A) (hm : Cond.methodLink own idx arraycopyName ∈ hp_tbl) (hm2 : Cond.native arraycopyName ∈ hp_tbl ∧ Cond.static arraycopyName ∈ hp_tbl ∧ Cond.initialized "java/lang/System" ∈ hp_tbl) (h1 : ¬ sp < 0) (h2 : ¬ dp < 0) (h3 : ¬ n < 0) (h4 : sp.toNatClampNeg + n.toNatClampNeg ≤ n0) (h5 : dp.toNatClampNeg + n.toNatClampNeg ≤ n1) (hf : 1 ≤ R.frames) (hl0 : (st.map fun v => v.category).sum + (nativeFrameWords "java/lang/System" "arraycopy" 5 + 11) ≤ R.locals) (hd : decode cc pc = .ok (.invokestatic idx, 3)) (k : hp_G p l e R s m args below meth c S cs ad A D nL cells slots Q (pc + 3) lv (st) (hp_cp h k0 k1 sp.toNatClampNeg dp.toNatClampNeg n.toNatClampNeg)) : hp_G p l e R s m args below meth c S cs ad A D nL cells slots Q (pc) lv (.int n :: .int dp :: .ref (ad k1) :: .int sp :: .ref (ad k0) :: st) h :=
  fun H locs ls hP hS hl => va_copyi (ty := .int) E.1 E.2.1 (by rw [E.2.2.1]; exact hl.1.1.symm) E.2.2.2.1 (E.2.2.2.2.1 _ hm) (E.2.2.2.2.1 _ hm2.1) (E.2.2.2.2.1 _ hm2.2.1) (E.2.2.2.2.1 _ hm2.2.2) E.2.2.2.2.2.1 hP (hJ.D h) hS k0 k1 0 0 (hp_W_get hs0) (hp_W_get hs1) rfl rfl rfl h1 h2 h3 h4 h5 (fun _ _ => rfl) hf hl0 hd (fun H1 locs1 hP1 hD1 hS1 => k H1 locs1 ls (by rw [← hp_W_cp hs1 (by decide) h9]; exact hP1) hS1 hl)
theorem hp_mmin (E : hp_Env p R s m args meth c cs D own cc nL ret) {idx : Nat} {x y : Int32} (hm : Cond.methodLink own idx Lib.Math.min.name ∈ hp_tbl) (hm2 : Cond.static Lib.Math.min.name ∈ hp_tbl ∧ Cond.initialized "java/lang/Math" ∈ hp_tbl ∧ Cond.code Lib.Math.min.name Lib.Math.min.code 2 (some .int) ∈ hp_tbl) (hf : 1 ≤ R.frames) (hl0 : (st.map fun v => v.category).sum + 13 ≤ R.locals) (hc : cells ≤ R.cells) (hs : slots ≤ R.slots) (hd : decode cc pc = .ok (.invokestatic idx, 3)) (k : hp_G p l e R s m args below meth c S cs ad A D nL cells slots Q (pc + 3) lv (.int (if y < x then y else x) :: st) h) : hp_G p l e R s m args below meth c S cs ad A D nL cells slots Q (pc) lv (.int y :: .int x :: st) h :=
  fun H locs ls hP hS hl => va_mmin E.1 E.2.1 (by rw [E.2.2.1]; exact hl.1.1.symm) E.2.2.2.1 (E.2.2.2.2.1 _ hm) (E.2.2.2.2.1 _ hm2.1) (E.2.2.2.2.1 _ hm2.2.1) (E.2.2.2.2.1 _ hm2.2.2) hf hl0 hc hs hd (k H locs ls hP hS hl)
def hp_B (S : List hp_S) (cs : Nat → ClassId) (ad : Nat → Nat) (D : va_G) : hp_H → State → Prop := fun h t => va_P D vwCl (hp_W S cs ad h) t.heap
def hp_Br (S : List hp_S) (cs : Nat → ClassId) (ad : Nat → Nat) (D : va_G) (r : Nat) : hp_H → Nat → State → Prop := fun h a t => a = ad r ∧ va_P D vwCl (hp_W S cs ad h) t.heap
theorem hp_iret (E : hp_Env p R s m args meth c cs D own cc nL (some .int)) {Qp : Int32 → hp_H → Prop} {v : Int32} (hq : Qp v h) (hZ : Q = MQ below (va_Qi Qp (hp_B S cs ad D) A) args s cells slots A) (hd : decode cc pc = .ok (.ireturn, 1)) : hp_G p l e R s m args below meth c S cs ad A D nL cells slots Q pc lv [.int v] h :=
  by subst hZ; exact fun H locs ls hP hS hl => W.iret E.1 E.2.1 E.2.2.2.2.2.2.2.1 (fun t ht hW => ⟨⟨v, h, rfl, hq, by show va_P _ _ _ _; rw [ht]; exact hP⟩, hS.F ht⟩) hS.2.2 hd E.2.2.2.2.2.2.1
theorem hp_zret (E : hp_Env p R s m args meth c cs D own cc nL (some .boolean)) {Qp : Int32 → hp_H → Prop} {v : Int32} (hv : hp_bz v) (hq : Qp v h) (hZ : Q = MQ below (va_Qi Qp (hp_B S cs ad D) A) args s cells slots A) (hd : decode cc pc = .ok (.ireturn, 1)) : hp_G p l e R s m args below meth c S cs ad A D nL cells slots Q pc lv [.int v] h :=
  by subst hZ; exact fun H locs ls hP hS hl => W.zret E.1 E.2.1 E.2.2.2.2.2.2.2.1 (hp_bz_n hv) (fun t ht hW => ⟨⟨v, h, rfl, hq, by show va_P _ _ _ _; rw [ht]; exact hP⟩, hS.F ht⟩) hS.2.2 hd E.2.2.2.2.2.2.1
theorem hp_vret (E : hp_Env p R s m args meth c cs D own cc nL none) {Qp : hp_H → Prop} (hq : Qp h) (hZ : Q = MQ below (va_Qv Qp (hp_B S cs ad D) A) args s cells slots A) (hd : decode cc pc = .ok (.return_, 1)) : hp_G p l e R s m args below meth c S cs ad A D nL cells slots Q pc lv [] h :=
  by subst hZ; exact fun H locs ls hP hS hl => W.vret E.1 E.2.1 E.2.2.2.2.2.2.2.1 (fun t ht hW => ⟨⟨h, rfl, hq, by show va_P _ _ _ _; rw [ht]; exact hP⟩, hS.F ht⟩) hS.2.2 hd E.2.2.2.2.2.2.1
theorem hp_aret {C : String} (E : hp_Env p R s m args meth c cs D own cc nL (some (.object C))) {Qp : hp_H → Prop} {r : Nat} (hq : Qp h) (hZ : Q = MQ below (va_Qr Qp (hp_Br S cs ad D r) A) args s cells slots A) (hd : decode cc pc = .ok (.areturn, 1)) : hp_G p l e R s m args below meth c S cs ad A D nL cells slots Q pc lv [.ref (ad r)] h :=
  by subst hZ; exact fun H locs ls hP hS hl => W.aret E.1 E.2.1 E.2.2.2.2.2.2.2.1 (Or.inl ⟨_, rfl⟩) (Or.inr ⟨_, rfl⟩) (fun t ht hW => ⟨⟨h, ad r, rfl, hq, rfl, by rw [ht]; exact hP⟩, hS.F ht⟩) hS.2.2 hd E.2.2.2.2.2.2.1
end
end
section
/-! ===== methods, calls ===== -/
def hp_Pc (av : List Value) (S : List hp_S) (cs : Nat → ClassId) (ad : Nat → Nat) (D : va_G) (h : hp_H) : Array Value → State → Prop := va_Pc av (fun U => va_P D vwCl (hp_W S cs ad h) U.heap ∧ va_K D vwCl (hp_tys cs) U ∧ hp_N U)
theorem hp_Pc_blind {av : List Value} {S : List hp_S} {cs : Nat → ClassId} {ad : Nat → Nat} {D : va_G} {h : hp_H} : FrameBlind (hp_Pc av S cs ad D h) := by
  intro a U g mk q
  obtain ⟨q0, qP, qK, qN⟩ := q
  exact ⟨q0, qP, va_K.moved (u := U) (U := U.calling g mk a) (Vm.Alike.refl U.vm) qK, fun w hw => va_Nw.same rfl (u := U) (U := U.calling g mk a) rfl (qN w hw)⟩
theorem hp_N.warm {s U : State} (hW : s.WarmedH U.vm) (h : hp_N s) : hp_N U := fun q hq => va_Nw.warmM hW (h q hq)
theorem lw_good : hp_tbl.all goodWord = true := List.all_eq_true.mpr (fun w hw => (List.mem_filter.mp hw).2)
theorem hp_good {y : MethodName} {cc : ByteArray} {n : Nat} {ret : Option FieldType} (hm : Cond.code y cc n ret ∈ hp_tbl) : GoodIn hp_tbl (.code y cc n ret :: hp_tbl) := by
  intro w hw
  rcases List.mem_cons.mp hw with h | h
  · rw [h]; exact ⟨hm, good_of_word (List.all_eq_true.mp lw_good _ hm)⟩
  · exact ⟨h, good_of_word (List.all_eq_true.mp lw_good _ h)⟩
abbrev hp_Mi (l : Launch) (y : MethodName) (cc : ByteArray) (nL : Nat) (ret : Option FieldType) (rm : Room) (av : List Value) (S : List hp_S) (cs : Nat → ClassId) (ad : Nat → Nat) (A : Nat → Prop) (D : va_G) (h : hp_H) (Q : Int32 → hp_H → Prop) : Prop := Met l y (.code y cc nL ret :: hp_tbl) rm (hp_Pc av S cs ad D h) (va_Qi Q (hp_B S cs ad D) A) 0 0 A
abbrev hp_Mv (l : Launch) (y : MethodName) (cc : ByteArray) (nL : Nat) (ret : Option FieldType) (rm : Room) (av : List Value) (S : List hp_S) (cs : Nat → ClassId) (ad : Nat → Nat) (A : Nat → Prop) (D : va_G) (h : hp_H) (Q : hp_H → Prop) : Prop := Met l y (.code y cc nL ret :: hp_tbl) rm (hp_Pc av S cs ad D h) (va_Qv Q (hp_B S cs ad D) A) 0 0 A
abbrev hp_Mr (l : Launch) (y : MethodName) (cc : ByteArray) (nL : Nat) (ret : Option FieldType) (rm : Room) (av : List Value) (S : List hp_S) (cs : Nat → ClassId) (ad : Nat → Nat) (A : Nat → Prop) (D : va_G) (r : Nat) (h : hp_H) (Q : hp_H → Prop) : Prop := Met l y (.code y cc nL ret :: hp_tbl) rm (hp_Pc av S cs ad D h) (va_Qr Q (hp_Br S cs ad D r) A) 0 0 A
theorem hp_met {l : Launch} {y : MethodName} {cc : ByteArray} {nL mc ms : Nat} {ret : Option FieldType} {rm : Room} {av : List Value} {S : List hp_S} {cs : Nat → ClassId} {ad : Nat → Nat} {A : Nat → Prop} {D : va_G} {h : hp_H} {Qc : Array Value → State → Outcome → State → Prop} {own : String} (ho : y.cls = own) (hy : plainName y.cls = true) (hn : (lg_sl av).length ≤ nL) (h1 : hp_all1 av = true)
    (body : ∀ (p : Program) (e : Env) (s : State) (m : MethodId) (args : Array Value) (below : List Frame) (meth : Method) (c : Code) (Z : State → Prop), hp_Env p rm s m args meth c cs D own cc nL ret → Z = MQ below Qc args s mc ms A → meth.name = y.name → hp_G p l e rm s m args below meth c S cs ad A D nL 0 0 Z 0 (lv_args 0 av) [] h) : Met l y (.code y cc nL ret :: hp_tbl) rm (hp_Pc av S cs ad D h) Qc mc ms A := by
  subst ho
  refine Met.ofW (cc := cc) (maxL := nL) (ret := ret) hy rfl ?_
  intro p e s m args below meth c s₁ B hml hv
  obtain ⟨rfl, hP, hK, hN⟩ := hv
  have hts := atoms_spec (ws := Cond.code y cc nL ret :: hp_tbl) B.pre
  have E : hp_Env p rm s m av.toArray meth c cs D y.cls cc nL ret := ⟨B.exec, B.bytes, hml, findClass_of_methodNamed B.named, fun w hw => hts w (List.mem_cons_of_mem _ hw), hK, B.notSynchronized, B.returns, hN⟩
  have K := body p e s m _ below meth c _ E rfl (name_of_methodNamed B.named B.method).1
  have hl := lv_entry av hn
  rw [lg_entry_eq]
  exact K s.heap [] _ hP va_S.rf ⟨hl, hp_all1_args av 0 h1⟩
/-- what the tables say of a method that is called on an object, of one without an object -/
def hp_Fv (C : String) (y : MethodName) (cc : ByteArray) (nL : Nat) (ret : Option FieldType) (n : Nat) : Prop := Cond.instanceMethod y ∈ hp_tbl ∧ Cond.selects C y y ∈ hp_tbl ∧ Cond.initialized y.cls ∈ hp_tbl ∧ Cond.code y cc nL ret ∈ hp_tbl ∧ (y.cls ≠ "java/lang/invoke/MethodHandle" ∧ y.cls ≠ "java/lang/invoke/VarHandle" ∧ (parseMethodDescriptor y.desc).map (fun d => d.parameters.length) = some n)
def hp_Fs (y : MethodName) (cc : ByteArray) (nL : Nat) (ret : Option FieldType) (n : Nat) : Prop := Cond.static y ∈ hp_tbl ∧ Cond.initialized y.cls ∈ hp_tbl ∧ Cond.code y cc nL ret ∈ hp_tbl ∧ (y.cls ≠ "java/lang/invoke/MethodHandle" ∧ y.cls ≠ "java/lang/invoke/VarHandle" ∧ (parseMethodDescriptor y.desc).map (fun d => d.parameters.length) = some n)
section
variable {p : Program} {l : Launch} {e : Env} {R : Room} {s : State} {m : MethodId} {args : Array Value} {below : List Frame} {meth : Method} {c : Code} {S : List hp_S} {cs : Nat → ClassId} {ad : Nat → Nat} {A : Nat → Prop} {D : va_G} {own : String} {cc : ByteArray} {ret : Option FieldType} {nL cells slots : Nat} {Q : State → Prop}
variable {pc : Nat} {lv : List (Nat × Value)} {st : List Value} {h : hp_H}
variable {y : MethodName} {C : String} {c1 : ByteArray} {n1 n idx ci N : Nat} {ret1 : Option FieldType} {rm : Room} {As rest : List Value} {ds : List (Nat × Nat × Nat)} {T : u_T}
theorem hp_runV {Qc : Array Value → State → Outcome → State → Prop} {H : Heap} {locs : List Loc} {ls : Array Slot} (E : hp_Env p R s m args meth c cs D own cc nL ret) (k0 : Nat) (hs : S[k0]? = some (.inl (ci, ds))) (hc : vwCl[ci]? = some (C, T, N)) (hM : Met l y (.code y c1 n1 ret1 :: hp_tbl) rm (hp_Pc (.ref (ad k0) :: As) S cs ad D h) Qc 0 0 A) (F : hp_Fv C y c1 n1 ret1 n) (hm : Cond.methodLink own idx y ∈ hp_tbl) (hrm : rm.cells = 0 ∧ rm.slots = 0) (hR : rm.frames + 1 ≤ R.frames ∧ 8 + (n1 + 11) + rm.locals ≤ R.locals) (hR2 : cells ≤ R.cells ∧ slots ≤ R.slots) (hn : As.length = n) (hst : st = As.reverse ++ .ref (ad k0) :: rest) (hW : (rest.map fun v => v.category).sum ≤ 8) (hd : decode cc pc = .ok (.invokevirtual idx, 3)) (hP : va_P D vwCl (hp_W S cs ad h) H) (hl : hp_L ls nL lv) :
    va_Run p l e R s m args below meth c H locs cells slots 0 0 (F0 m pc ls st) rest (Qc (Value.ref (ad k0) :: As).toArray) A := by
  have hts := E.2.2.2.2.1
  have hK := E.2.2.2.2.2.1
  exact va_runV (C := C) (n := n) ⟨E.1, E.2.1, E.2.2.1, E.2.2.2.1, hts⟩ hM ⟨callB_of n hts (hp_good F.2.2.2.1) rfl hrm.1 hrm.2 (hts _ F.2.2.1) (hts _ hm) F.2.2.2.2 hR, hts _ F.1, hts _ F.2.1⟩ ⟨hp_Pc_blind, va_recv hK hP hc (hp_W_get hs), fun U hU hW => ⟨rfl, by rw [hU]; exact hP, va_K.moved hW.alike hK, E.2.2.2.2.2.2.2.2.warm hW⟩⟩ rfl hn hl.1.1 hst (lv_room hW) hd hR2
theorem hp_runS {Qc : Array Value → State → Outcome → State → Prop} {H : Heap} {locs : List Loc} {ls : Array Slot} (E : hp_Env p R s m args meth c cs D own cc nL ret) (hM : Met l y (.code y c1 n1 ret1 :: hp_tbl) rm (hp_Pc As S cs ad D h) Qc 0 0 A) (F : hp_Fs y c1 n1 ret1 n) (hm : Cond.methodLink own idx y ∈ hp_tbl) (hrm : rm.cells = 0 ∧ rm.slots = 0) (hR : rm.frames + 1 ≤ R.frames ∧ 8 + (n1 + 11) + rm.locals ≤ R.locals) (hR2 : cells ≤ R.cells ∧ slots ≤ R.slots) (hn : As.length = n) (hst : st = As.reverse ++ rest) (hW : (rest.map fun v => v.category).sum ≤ 8) (hd : decode cc pc = .ok (.invokestatic idx, 3)) (hP : va_P D vwCl (hp_W S cs ad h) H) (hl : hp_L ls nL lv) :
    va_Run p l e R s m args below meth c H locs cells slots 0 0 (F0 m pc ls st) rest (Qc As.toArray) A := by
  have hts := E.2.2.2.2.1
  have hK := E.2.2.2.2.2.1
  exact va_runS (n := n) ⟨E.1, E.2.1, E.2.2.1, E.2.2.2.1, hts⟩ hM ⟨callB_of n hts (hp_good F.2.2.1) rfl hrm.1 hrm.2 (hts _ F.2.1) (hts _ hm) F.2.2.2 hR, hts _ F.1⟩ ⟨hp_Pc_blind, fun U hU hW => ⟨rfl, by rw [hU]; exact hP, va_K.moved hW.alike hK, E.2.2.2.2.2.2.2.2.warm hW⟩⟩ rfl hn hl.1.1 hst (lv_room hW) hd hR2
theorem hp_runSN {Qc : Array Value → State → Outcome → State → Prop} {H : Heap} {locs : List Loc} {ls : Array Slot} {host : String} (E : hp_Env p R s m args meth c cs D own cc nL ret) (hM : Met l y (.code y c1 n1 ret1 :: hp_tbl) rm (hp_Pc As S cs ad D h) Qc 0 0 A) (F : hp_Fs y c1 n1 ret1 n) (hm : (own, idx, y, host) ∈ hp_nst) (hrm : rm.cells = 0 ∧ rm.slots = 0) (hR : rm.frames + 1 ≤ R.frames ∧ 8 + (n1 + 11) + rm.locals ≤ R.locals) (hR2 : cells ≤ R.cells ∧ slots ≤ R.slots) (hn : As.length = n) (hst : st = As.reverse ++ rest) (hW : (rest.map fun v => v.category).sum ≤ 8) (hd : decode cc pc = .ok (.invokestatic idx, 3)) (hP : va_P D vwCl (hp_W S cs ad h) H) (hl : hp_L ls nL lv) :
    va_Run p l e R s m args below meth c H locs cells slots 0 0 (F0 m pc ls st) rest (Qc As.toArray) A := by
  have hts := E.2.2.2.2.1
  have hK := E.2.2.2.2.2.1
  exact va_runSN (n := n) ⟨E.1, E.2.1, E.2.2.1, E.2.2.2.1, hts⟩ hM ⟨va_cnB n hts (hp_good F.2.2.1) rfl hrm.1 hrm.2 (E.2.2.2.2.2.2.2.2 _ hm) (hts _ F.2.1) F.2.2.2 hR, hts _ F.1, trivial⟩ ⟨hp_Pc_blind, fun U hU hW => ⟨rfl, by rw [hU]; exact hP, va_K.moved hW.alike hK, E.2.2.2.2.2.2.2.2.warm hW⟩⟩ rfl hn hl.1.1 hst (lv_room hW) hd hR2
/-- behind a call -/
theorem hp_conti {Qr : Int32 → hp_H → Prop} {a : Array Value} (run : ∀ (H : Heap) (locs : List Loc) (ls : Array Slot), va_P D vwCl (hp_W S cs ad h) H → hp_L ls nL lv → va_Run p l e R s m args below meth c H locs cells slots 0 0 (F0 m pc ls st) rest (va_Qi Qr (hp_B S cs ad D) A a) A) (k : ∀ (r : Int32) (h : hp_H), Qr r h → hp_G p l e R s m args below meth c S cs ad A D nL cells slots Q (pc + 3) lv (.int r :: rest) h) : hp_G p l e R s m args below meth c S cs ad A D nL cells slots Q pc lv st h :=
  fun H locs ls hP hS hl => va_calli (run H locs ls hP hl) hS (fun _ _ q => q) (fun _ q => q) (fun r u t H1 locs1 ht _ hw hB _ _ hS1 => k r u hw H1 locs1 ls (by rw [← ht]; exact hB) hS1 hl)
theorem hp_contv {Qr : hp_H → Prop} {a : Array Value} (run : ∀ (H : Heap) (locs : List Loc) (ls : Array Slot), va_P D vwCl (hp_W S cs ad h) H → hp_L ls nL lv → va_Run p l e R s m args below meth c H locs cells slots 0 0 (F0 m pc ls st) rest (va_Qv Qr (hp_B S cs ad D) A a) A) (k : ∀ (h : hp_H), Qr h → hp_G p l e R s m args below meth c S cs ad A D nL cells slots Q (pc + 3) lv rest h) : hp_G p l e R s m args below meth c S cs ad A D nL cells slots Q pc lv st h :=
  fun H locs ls hP hS hl => va_callv (run H locs ls hP hl) hS (fun _ _ q => q) (fun _ q => q) (fun u t H1 locs1 ht _ hw hB _ _ hS1 => k u hw H1 locs1 ls (by rw [← ht]; exact hB) hS1 hl)
theorem hp_contr {Qr : hp_H → Prop} {a : Array Value} {r : Nat} (run : ∀ (H : Heap) (locs : List Loc) (ls : Array Slot), va_P D vwCl (hp_W S cs ad h) H → hp_L ls nL lv → va_Run p l e R s m args below meth c H locs cells slots 0 0 (F0 m pc ls st) rest (va_Qr Qr (hp_Br S cs ad D r) A a) A) (k : ∀ (h : hp_H), Qr h → hp_G p l e R s m args below meth c S cs ad A D nL cells slots Q (pc + 3) lv (.ref (ad r) :: rest) h) : hp_G p l e R s m args below meth c S cs ad A D nL cells slots Q pc lv st h :=
  fun H locs ls hP hS hl => va_callr (run H locs ls hP hl) hS (fun _ _ q => q) (fun _ q => q) (fun u ra t H1 locs1 ht _ hw hB _ _ hS1 => by rw [hB.1]; exact k u hw H1 locs1 ls (by rw [← ht]; exact hB.2) hS1 hl)
theorem hp_callVi {Qr : Int32 → hp_H → Prop} (E : hp_Env p R s m args meth c cs D own cc nL ret) (k0 : Nat) (hs : S[k0]? = some (.inl (ci, ds))) (hc : vwCl[ci]? = some (C, T, N)) (hM : hp_Mi l y c1 n1 ret1 rm (.ref (ad k0) :: As) S cs ad A D h Qr) (F : hp_Fv C y c1 n1 ret1 n) (hm : Cond.methodLink own idx y ∈ hp_tbl) (hrm : rm.cells = 0 ∧ rm.slots = 0) (hR : rm.frames + 1 ≤ R.frames ∧ 8 + (n1 + 11) + rm.locals ≤ R.locals) (hR2 : cells ≤ R.cells ∧ slots ≤ R.slots) (hn : As.length = n) (hst : st = As.reverse ++ .ref (ad k0) :: rest) (hW : (rest.map fun v => v.category).sum ≤ 8) (hd : decode cc pc = .ok (.invokevirtual idx, 3)) (k : ∀ (r : Int32) (h : hp_H), Qr r h → hp_G p l e R s m args below meth c S cs ad A D nL cells slots Q (pc + 3) lv (.int r :: rest) h) : hp_G p l e R s m args below meth c S cs ad A D nL cells slots Q pc lv st h :=
  hp_conti (fun _ _ _ hP hl => hp_runV E k0 hs hc hM F hm hrm hR hR2 hn hst hW hd hP hl) k
theorem hp_callVv {Qr : hp_H → Prop} (E : hp_Env p R s m args meth c cs D own cc nL ret) (k0 : Nat) (hs : S[k0]? = some (.inl (ci, ds))) (hc : vwCl[ci]? = some (C, T, N)) (hM : hp_Mv l y c1 n1 ret1 rm (.ref (ad k0) :: As) S cs ad A D h Qr) (F : hp_Fv C y c1 n1 ret1 n) (hm : Cond.methodLink own idx y ∈ hp_tbl) (hrm : rm.cells = 0 ∧ rm.slots = 0) (hR : rm.frames + 1 ≤ R.frames ∧ 8 + (n1 + 11) + rm.locals ≤ R.locals) (hR2 : cells ≤ R.cells ∧ slots ≤ R.slots) (hn : As.length = n) (hst : st = As.reverse ++ .ref (ad k0) :: rest) (hW : (rest.map fun v => v.category).sum ≤ 8) (hd : decode cc pc = .ok (.invokevirtual idx, 3)) (k : ∀ (h : hp_H), Qr h → hp_G p l e R s m args below meth c S cs ad A D nL cells slots Q (pc + 3) lv rest h) : hp_G p l e R s m args below meth c S cs ad A D nL cells slots Q pc lv st h :=
  hp_contv (fun _ _ _ hP hl => hp_runV E k0 hs hc hM F hm hrm hR hR2 hn hst hW hd hP hl) k
theorem hp_callVr {Qr : hp_H → Prop} {r : Nat} (E : hp_Env p R s m args meth c cs D own cc nL ret) (k0 : Nat) (hs : S[k0]? = some (.inl (ci, ds))) (hc : vwCl[ci]? = some (C, T, N)) (hM : hp_Mr l y c1 n1 ret1 rm (.ref (ad k0) :: As) S cs ad A D r h Qr) (F : hp_Fv C y c1 n1 ret1 n) (hm : Cond.methodLink own idx y ∈ hp_tbl) (hrm : rm.cells = 0 ∧ rm.slots = 0) (hR : rm.frames + 1 ≤ R.frames ∧ 8 + (n1 + 11) + rm.locals ≤ R.locals) (hR2 : cells ≤ R.cells ∧ slots ≤ R.slots) (hn : As.length = n) (hst : st = As.reverse ++ .ref (ad k0) :: rest) (hW : (rest.map fun v => v.category).sum ≤ 8) (hd : decode cc pc = .ok (.invokevirtual idx, 3)) (k : ∀ (h : hp_H), Qr h → hp_G p l e R s m args below meth c S cs ad A D nL cells slots Q (pc + 3) lv (.ref (ad r) :: rest) h) : hp_G p l e R s m args below meth c S cs ad A D nL cells slots Q pc lv st h :=
  hp_contr (fun _ _ _ hP hl => hp_runV E k0 hs hc hM F hm hrm hR hR2 hn hst hW hd hP hl) k
theorem hp_callSi {Qr : Int32 → hp_H → Prop} (E : hp_Env p R s m args meth c cs D own cc nL ret) (hM : hp_Mi l y c1 n1 ret1 rm As S cs ad A D h Qr) (F : hp_Fs y c1 n1 ret1 n) (hm : Cond.methodLink own idx y ∈ hp_tbl) (hrm : rm.cells = 0 ∧ rm.slots = 0) (hR : rm.frames + 1 ≤ R.frames ∧ 8 + (n1 + 11) + rm.locals ≤ R.locals) (hR2 : cells ≤ R.cells ∧ slots ≤ R.slots) (hn : As.length = n) (hst : st = As.reverse ++ rest) (hW : (rest.map fun v => v.category).sum ≤ 8) (hd : decode cc pc = .ok (.invokestatic idx, 3)) (k : ∀ (r : Int32) (h : hp_H), Qr r h → hp_G p l e R s m args below meth c S cs ad A D nL cells slots Q (pc + 3) lv (.int r :: rest) h) : hp_G p l e R s m args below meth c S cs ad A D nL cells slots Q pc lv st h :=
  hp_conti (fun _ _ _ hP hl => hp_runS E hM F hm hrm hR hR2 hn hst hW hd hP hl) k
theorem hp_callSv {Qr : hp_H → Prop} (E : hp_Env p R s m args meth c cs D own cc nL ret) (hM : hp_Mv l y c1 n1 ret1 rm As S cs ad A D h Qr) (F : hp_Fs y c1 n1 ret1 n) (hm : Cond.methodLink own idx y ∈ hp_tbl) (hrm : rm.cells = 0 ∧ rm.slots = 0) (hR : rm.frames + 1 ≤ R.frames ∧ 8 + (n1 + 11) + rm.locals ≤ R.locals) (hR2 : cells ≤ R.cells ∧ slots ≤ R.slots) (hn : As.length = n) (hst : st = As.reverse ++ rest) (hW : (rest.map fun v => v.category).sum ≤ 8) (hd : decode cc pc = .ok (.invokestatic idx, 3)) (k : ∀ (h : hp_H), Qr h → hp_G p l e R s m args below meth c S cs ad A D nL cells slots Q (pc + 3) lv rest h) : hp_G p l e R s m args below meth c S cs ad A D nL cells slots Q pc lv st h :=
  hp_contv (fun _ _ _ hP hl => hp_runS E hM F hm hrm hR hR2 hn hst hW hd hP hl) k
theorem hp_callSNi {Qr : Int32 → hp_H → Prop} {host : String} (E : hp_Env p R s m args meth c cs D own cc nL ret) (hM : hp_Mi l y c1 n1 ret1 rm As S cs ad A D h Qr) (F : hp_Fs y c1 n1 ret1 n) (hm : (own, idx, y, host) ∈ hp_nst) (hrm : rm.cells = 0 ∧ rm.slots = 0) (hR : rm.frames + 1 ≤ R.frames ∧ 8 + (n1 + 11) + rm.locals ≤ R.locals) (hR2 : cells ≤ R.cells ∧ slots ≤ R.slots) (hn : As.length = n) (hst : st = As.reverse ++ rest) (hW : (rest.map fun v => v.category).sum ≤ 8) (hd : decode cc pc = .ok (.invokestatic idx, 3)) (k : ∀ (r : Int32) (h : hp_H), Qr r h → hp_G p l e R s m args below meth c S cs ad A D nL cells slots Q (pc + 3) lv (.int r :: rest) h) : hp_G p l e R s m args below meth c S cs ad A D nL cells slots Q pc lv st h :=
  hp_conti (fun _ _ _ hP hl => hp_runSN E hM F hm hrm hR hR2 hn hst hW hd hP hl) k
end
/-! ===== loops and joins as predicates ===== -/
def hp_lp {α : Type} (body : α → (α → Prop) → Prop) (a : α) : Prop := ∀ P : α → Prop, (∀ b, (∃ B : α → Prop, body b B ∧ ∀ x, B x → P x) → P b) → P a
theorem hp_lp_ind {α : Type} {body : α → (α → Prop) → Prop} (I : α → Prop) (μ : α → Nat) (hs : ∀ a, I a → body a (fun b => I b ∧ μ b < μ a)) (a : α) (h : I a) : hp_lp body a := by
  intro P hP
  have key : ∀ n : Nat, ∀ a, μ a < n → I a → P a := by
    intro n
    induction n with
    | zero => intro a h1; omega
    | succ n ih => exact fun a h1 h2 => hP a ⟨_, hs a h2, fun b hb => ih b (by omega) hb.1⟩
  exact key (μ a + 1) a (Nat.lt_succ_self _) h
def hp_jn {α : Type} (f : (α → Prop) → Prop) (g : α → Prop) : Prop := ∃ K : α → Prop, f K ∧ ∀ a, K a → g a
theorem hp_jn_i {α : Type} {f : (α → Prop) → Prop} {g : α → Prop} (h : f g) : hp_jn f g := ⟨g, h, fun _ q => q⟩
/-- the values of a switch, none of which it is -/
theorem hp_out {x : Int32} {lo hi : Int} (h : ∀ i : Int, lo ≤ i → i ≤ hi → ¬ x.toInt = i) : x.toInt < lo ∨ hi < x.toInt := by
  rcases Decidable.em (x.toInt < lo ∨ hi < x.toInt) with q | q
  · exact q
  · exact absurd rfl (h x.toInt (by omega) (by omega))
theorem hp_nat {x : Int32} {n : Nat} (h : ¬ x = nI n) (hn : n < 2 ^ 31) : ¬ x.toInt = (n : Int) := fun q => h (Int32.toInt_inj.mp (by rw [q, nI_toInt hn]))
end
section
/-! ===== the same rows, shorter: what the tables and shapes say comes as one fact ===== -/
def hp_sh (S : List hp_S) (k ci j : Nat) (d : Nat × Nat × Nat) : Prop := ∃ ds : List (Nat × Nat × Nat), S[k]? = some (.inl (ci, ds)) ∧ ds[j]? = some d
def hp_Fg (own : String) (idx ci j : Nat) : Prop := ∃ (C : String) (T : u_T) (N : Nat) (ref : String), vwCl[ci]? = some (C, T, N) ∧ (∀ w ∈ u_ws C T N, w ∈ hp_tbl) ∧ j < N ∧ (T j).1 = ref ∧ Cond.fieldLink own idx ref (T j).2.1 (T j).2.2.1 ∈ hp_tbl
def hp_Fp (own : String) (idx ci j : Nat) (ty : FieldType) : Prop := ∃ (C : String) (T : u_T) (N : Nat) (ref : String) (ty0 : Nat → FieldType), vwCl[ci]? = some (C, T, N) ∧ (∀ w ∈ u_ws C T N, w ∈ hp_tbl) ∧ j < N ∧ (T j).1 = ref ∧ Cond.fieldLink own idx ref (T j).2.1 (T j).2.2.1 ∈ hp_tbl ∧ (∀ k, k < N → parseFieldDescriptor (T k).2.2.1 = some (ty0 k)) ∧ (∀ a, a < N → ∀ b, b < N → a ≠ b → (T a).2.1 ≠ (T b).2.1) ∧ (T j).2.2.2 = false ∧ ty0 j = ty
section
variable {p : Program} {l : Launch} {e : Env} {R : Room} {s : State} {m : MethodId} {args : Array Value} {below : List Frame} {meth : Method} {c : Code} {S : List hp_S} {cs : Nat → ClassId} {ad : Nat → Nat} {A : Nat → Prop} {D : va_G} {own : String} {cc : ByteArray} {ret : Option FieldType} {nL cells slots : Nat} {Q : State → Prop}
variable {pc : Nat} {lv : List (Nat × Value)} {st : List Value} {h : hp_H}
theorem hp_toph {h0 : hp_H} (k : ∀ h : hp_H, h = h0 → hp_G p l e R s m args below meth c S cs ad A D nL cells slots Q (pc) lv (st) h) : hp_G p l e R s m args below meth c S cs ad A D nL cells slots Q (pc) lv (st) h0 := k _ rfl
theorem hp_topw {x : Nat} (k : ∀ w : Nat, w = x → hp_G p l e R s m args below meth c S cs ad A D nL cells slots Q (pc) lv (.ref (ad w) :: st) h) : hp_G p l e R s m args below meth c S cs ad A D nL cells slots Q (pc) lv (.ref (ad x) :: st) h := k _ rfl
theorem hp_gI (E : hp_Env p R s m args meth c cs D own cc nL ret) {k0 j idx ci : Nat} {u : Nat × Nat} (F : hp_Fg own idx ci j) (hs : hp_sh S k0 ci j (0, u)) (hd : decode cc pc = .ok (.getfield idx, 3)) (k : hp_G p l e R s m args below meth c S cs ad A D nL cells slots Q (pc + 3) lv (.int (h k0 j) :: st) h) : hp_G p l e R s m args below meth c S cs ad A D nL cells slots Q (pc) lv (.ref (ad k0) :: st) h := by
  obtain ⟨C, T, N, ref, f1, f2, f3, f4, f5⟩ := F
  obtain ⟨ds, s1, s2⟩ := hs
  exact hp_geti E k0 j s1 s2 f1 f2 f3 f4 f5 hd k
theorem hp_gR (E : hp_Env p R s m args meth c cs D own cc nL ret) {k0 j t u idx ci : Nat} (F : hp_Fg own idx ci j) (hs : hp_sh S k0 ci j (1, t, u)) (hd : decode cc pc = .ok (.getfield idx, 3)) (k : hp_G p l e R s m args below meth c S cs ad A D nL cells slots Q (pc + 3) lv (.ref (ad t) :: st) h) : hp_G p l e R s m args below meth c S cs ad A D nL cells slots Q (pc) lv (.ref (ad k0) :: st) h := by
  obtain ⟨C, T, N, ref, f1, f2, f3, f4, f5⟩ := F
  obtain ⟨ds, s1, s2⟩ := hs
  exact hp_getr E k0 j t s1 s2 f1 f2 f3 f4 f5 hd k
theorem hp_gM (E : hp_Env p R s m args meth c cs D own cc nL ret) {k0 j t u idx ci : Nat} (F : hp_Fg own idx ci j) (hs : hp_sh S k0 ci j (2, t, u)) (hd : decode cc pc = .ok (.getfield idx, 3)) (k : hp_G p l e R s m args below meth c S cs ad A D nL cells slots Q (pc + 3) lv (.ref (ad (t + (h hp_V u).toNatClampNeg)) :: st) h) : hp_G p l e R s m args below meth c S cs ad A D nL cells slots Q (pc) lv (.ref (ad k0) :: st) h := by
  obtain ⟨C, T, N, ref, f1, f2, f3, f4, f5⟩ := F
  obtain ⟨ds, s1, s2⟩ := hs
  exact hp_getm E k0 j t s1 s2 f1 f2 f3 f4 f5 hd k
theorem hp_pI (E : hp_Env p R s m args meth c cs D own cc nL ret) {k0 j idx ci : Nat} {u : Nat × Nat} {v : Int32} (F : hp_Fp own idx ci j .int) (hs : hp_sh S k0 ci j (0, u)) (h9 : k0 ≠ hp_V) (hJ : hp_J S ad A) (hd : decode cc pc = .ok (.putfield idx, 3)) (k : hp_G p l e R s m args below meth c S cs ad A D nL cells slots Q (pc + 3) lv (st) (hp_up h k0 j v)) : hp_G p l e R s m args below meth c S cs ad A D nL cells slots Q (pc) lv (.int v :: .ref (ad k0) :: st) h := by
  obtain ⟨C, T, N, ref, ty0, f1, f2, f3, f4, f5, f6, f7, f8, f9⟩ := F
  obtain ⟨ds, s1, s2⟩ := hs
  exact hp_puti E k0 j s1 s2 h9 hJ f1 f2 ty0 f6 f7 f3 f4 f8 f5 f9 hd k
theorem hp_pZ (E : hp_Env p R s m args meth c cs D own cc nL ret) {k0 j idx ci : Nat} {u : Nat × Nat} {v : Int32} (F : hp_Fp own idx ci j .boolean) (hs : hp_sh S k0 ci j (0, u)) (h9 : k0 ≠ hp_V) (hJ : hp_J S ad A) (hv : hp_bz v) (hd : decode cc pc = .ok (.putfield idx, 3)) (k : hp_G p l e R s m args below meth c S cs ad A D nL cells slots Q (pc + 3) lv (st) (hp_up h k0 j v)) : hp_G p l e R s m args below meth c S cs ad A D nL cells slots Q (pc) lv (.int v :: .ref (ad k0) :: st) h := by
  obtain ⟨C, T, N, ref, ty0, f1, f2, f3, f4, f5, f6, f7, f8, f9⟩ := F
  obtain ⟨ds, s1, s2⟩ := hs
  exact hp_putz E k0 j s1 s2 h9 hJ f1 f2 ty0 f6 f7 f3 f4 f8 f5 f9 hv hd k
theorem hp_pM (E : hp_Env p R s m args meth c cs D own cc nL ret) {k0 j idx ci x y t : Nat} (F : hp_Fp own idx ci j (.array .int)) (hs : hp_sh S k0 ci j (2, x, y)) (h9 : S.length ≤ hp_V) (hu : ∀ (i c : Nat) (es : List (Nat × Nat × Nat)) (b z : Nat), S[i]? = some (.inl (c, es)) → es[b]? = some (2, z, y) → i = k0 ∧ b = j) (hx : x ≤ t) (ht : t - x < 2 ^ 31) (hJ : hp_J S ad A) (hd : decode cc pc = .ok (.putfield idx, 3)) (k : hp_G p l e R s m args below meth c S cs ad A D nL cells slots Q (pc + 3) lv (st) (hp_up h hp_V y (nI (t - x)))) : hp_G p l e R s m args below meth c S cs ad A D nL cells slots Q (pc) lv (.ref (ad t) :: .ref (ad k0) :: st) h := by
  obtain ⟨C, T, N, ref, ty0, f1, f2, f3, f4, f5, f6, f7, f8, f9⟩ := F
  obtain ⟨ds, s1, s2⟩ := hs
  exact fun H locs ls hP hS hl => va_put (ty := .array .int) E.1 E.2.1 E.2.2.2.2.1 f2 ty0 f6 f7 E.2.2.2.1 E.2.2.2.2.2.1 hP (hJ.D h) hS k0 (hp_W_get s1) f1 j f3 (E.2.2.2.2.1 _ f5) (by rw [f4]; exact fun _ h9 => h9) f8 (by rw [f6 j f3, f9]) rfl rfl (by rw [hp_fs, hp_mi_len]; exact (List.getElem?_eq_some_iff.mp s2).1) hd (fun H1 locs1 hP1 hD1 hS1 => k H1 locs1 ls (by rw [← hp_W_mut s1 s2 h9 hx ht hu]; exact hP1) hS1 hl)
variable {y : MethodName} {C : String} {c1 : ByteArray} {n1 n idx ci N : Nat} {ret1 : Option FieldType} {rm : Room} {As rest : List Value} {dd : Nat × Nat × Nat} {T : u_T}
theorem hp_callVip {Qr : Int32 → Prop} (E : hp_Env p R s m args meth c cs D own cc nL ret) (k0 : Nat) (hs : hp_sh S k0 ci 0 dd) (hc : vwCl[ci]? = some (C, T, N)) (hM : hp_Mi l y c1 n1 ret1 rm (.ref (ad k0) :: As) S cs ad A D h (fun r h' => Qr r ∧ h' = h)) (F : hp_Fv C y c1 n1 ret1 n) (hm : Cond.methodLink own idx y ∈ hp_tbl) (hrm : rm.cells = 0 ∧ rm.slots = 0) (hR : rm.frames + 1 ≤ R.frames ∧ 8 + (n1 + 11) + rm.locals ≤ R.locals) (hR2 : cells ≤ R.cells ∧ slots ≤ R.slots) (hn : As.length = n) (hst : st = As.reverse ++ .ref (ad k0) :: rest) (hW : (rest.map fun v => v.category).sum ≤ 8) (hd : decode cc pc = .ok (.invokevirtual idx, 3)) (k : ∀ (r : Int32), Qr r → hp_G p l e R s m args below meth c S cs ad A D nL cells slots Q (pc + 3) lv (.int r :: rest) h) : hp_G p l e R s m args below meth c S cs ad A D nL cells slots Q (pc) lv (st) h := by
  obtain ⟨ds, s1, s2⟩ := hs
  exact hp_callVi E k0 s1 hc hM F hm hrm hR hR2 hn hst hW hd (fun r h' q => by rw [q.2]; exact k r q.1)
theorem hp_callVi' {Qr : Int32 → hp_H → Prop} (E : hp_Env p R s m args meth c cs D own cc nL ret) (k0 : Nat) (hs : hp_sh S k0 ci 0 dd) (hc : vwCl[ci]? = some (C, T, N)) (hM : hp_Mi l y c1 n1 ret1 rm (.ref (ad k0) :: As) S cs ad A D h Qr) (F : hp_Fv C y c1 n1 ret1 n) (hm : Cond.methodLink own idx y ∈ hp_tbl) (hrm : rm.cells = 0 ∧ rm.slots = 0) (hR : rm.frames + 1 ≤ R.frames ∧ 8 + (n1 + 11) + rm.locals ≤ R.locals) (hR2 : cells ≤ R.cells ∧ slots ≤ R.slots) (hn : As.length = n) (hst : st = As.reverse ++ .ref (ad k0) :: rest) (hW : (rest.map fun v => v.category).sum ≤ 8) (hd : decode cc pc = .ok (.invokevirtual idx, 3)) (k : ∀ (r : Int32) (h : hp_H), Qr r h → hp_G p l e R s m args below meth c S cs ad A D nL cells slots Q (pc + 3) lv (.int r :: rest) h) : hp_G p l e R s m args below meth c S cs ad A D nL cells slots Q (pc) lv (st) h := by
  obtain ⟨ds, s1, s2⟩ := hs
  exact hp_callVi E k0 s1 hc hM F hm hrm hR hR2 hn hst hW hd k
theorem hp_callVv' {Qr : hp_H → Prop} (E : hp_Env p R s m args meth c cs D own cc nL ret) (k0 : Nat) (hs : hp_sh S k0 ci 0 dd) (hc : vwCl[ci]? = some (C, T, N)) (hM : hp_Mv l y c1 n1 ret1 rm (.ref (ad k0) :: As) S cs ad A D h Qr) (F : hp_Fv C y c1 n1 ret1 n) (hm : Cond.methodLink own idx y ∈ hp_tbl) (hrm : rm.cells = 0 ∧ rm.slots = 0) (hR : rm.frames + 1 ≤ R.frames ∧ 8 + (n1 + 11) + rm.locals ≤ R.locals) (hR2 : cells ≤ R.cells ∧ slots ≤ R.slots) (hn : As.length = n) (hst : st = As.reverse ++ .ref (ad k0) :: rest) (hW : (rest.map fun v => v.category).sum ≤ 8) (hd : decode cc pc = .ok (.invokevirtual idx, 3)) (k : ∀ (h : hp_H), Qr h → hp_G p l e R s m args below meth c S cs ad A D nL cells slots Q (pc + 3) lv (rest) h) : hp_G p l e R s m args below meth c S cs ad A D nL cells slots Q (pc) lv (st) h := by
  obtain ⟨ds, s1, s2⟩ := hs
  exact hp_callVv E k0 s1 hc hM F hm hrm hR hR2 hn hst hW hd k
theorem hp_callVr' {Qr : hp_H → Prop} {r : Nat} (E : hp_Env p R s m args meth c cs D own cc nL ret) (k0 : Nat) (hs : hp_sh S k0 ci 0 dd) (hc : vwCl[ci]? = some (C, T, N)) (hM : hp_Mr l y c1 n1 ret1 rm (.ref (ad k0) :: As) S cs ad A D r h Qr) (F : hp_Fv C y c1 n1 ret1 n) (hm : Cond.methodLink own idx y ∈ hp_tbl) (hrm : rm.cells = 0 ∧ rm.slots = 0) (hR : rm.frames + 1 ≤ R.frames ∧ 8 + (n1 + 11) + rm.locals ≤ R.locals) (hR2 : cells ≤ R.cells ∧ slots ≤ R.slots) (hn : As.length = n) (hst : st = As.reverse ++ .ref (ad k0) :: rest) (hW : (rest.map fun v => v.category).sum ≤ 8) (hd : decode cc pc = .ok (.invokevirtual idx, 3)) (k : ∀ (h : hp_H), Qr h → hp_G p l e R s m args below meth c S cs ad A D nL cells slots Q (pc + 3) lv (.ref (ad r) :: rest) h) : hp_G p l e R s m args below meth c S cs ad A D nL cells slots Q (pc) lv (st) h := by
  obtain ⟨ds, s1, s2⟩ := hs
  exact hp_callVr E k0 s1 hc hM F hm hrm hR hR2 hn hst hW hd k
theorem hp_callSip {Qr : Int32 → Prop} (E : hp_Env p R s m args meth c cs D own cc nL ret) (hM : hp_Mi l y c1 n1 ret1 rm As S cs ad A D h (fun r h' => Qr r ∧ h' = h)) (F : hp_Fs y c1 n1 ret1 n) (hm : Cond.methodLink own idx y ∈ hp_tbl) (hrm : rm.cells = 0 ∧ rm.slots = 0) (hR : rm.frames + 1 ≤ R.frames ∧ 8 + (n1 + 11) + rm.locals ≤ R.locals) (hR2 : cells ≤ R.cells ∧ slots ≤ R.slots) (hn : As.length = n) (hst : st = As.reverse ++ rest) (hW : (rest.map fun v => v.category).sum ≤ 8) (hd : decode cc pc = .ok (.invokestatic idx, 3)) (k : ∀ (r : Int32), Qr r → hp_G p l e R s m args below meth c S cs ad A D nL cells slots Q (pc + 3) lv (.int r :: rest) h) : hp_G p l e R s m args below meth c S cs ad A D nL cells slots Q (pc) lv (st) h :=
  hp_callSi E hM F hm hrm hR hR2 hn hst hW hd (fun r h' q => by rw [q.2]; exact k r q.1)
theorem hp_callSvp {Qr : Prop} (E : hp_Env p R s m args meth c cs D own cc nL ret) (hM : hp_Mv l y c1 n1 ret1 rm As S cs ad A D h (fun h' => Qr ∧ h' = h)) (F : hp_Fs y c1 n1 ret1 n) (hm : Cond.methodLink own idx y ∈ hp_tbl) (hrm : rm.cells = 0 ∧ rm.slots = 0) (hR : rm.frames + 1 ≤ R.frames ∧ 8 + (n1 + 11) + rm.locals ≤ R.locals) (hR2 : cells ≤ R.cells ∧ slots ≤ R.slots) (hn : As.length = n) (hst : st = As.reverse ++ rest) (hW : (rest.map fun v => v.category).sum ≤ 8) (hd : decode cc pc = .ok (.invokestatic idx, 3)) (k : Qr → hp_G p l e R s m args below meth c S cs ad A D nL cells slots Q (pc + 3) lv (rest) h) : hp_G p l e R s m args below meth c S cs ad A D nL cells slots Q (pc) lv (st) h :=
  hp_callSv E hM F hm hrm hR hR2 hn hst hW hd (fun h' q => by rw [q.2]; exact k q.1)
theorem hp_callSNip {Qr : Int32 → Prop} {host : String} (E : hp_Env p R s m args meth c cs D own cc nL ret) (hM : hp_Mi l y c1 n1 ret1 rm As S cs ad A D h (fun r h' => Qr r ∧ h' = h)) (F : hp_Fs y c1 n1 ret1 n) (hm : (own, idx, y, host) ∈ hp_nst) (hrm : rm.cells = 0 ∧ rm.slots = 0) (hR : rm.frames + 1 ≤ R.frames ∧ 8 + (n1 + 11) + rm.locals ≤ R.locals) (hR2 : cells ≤ R.cells ∧ slots ≤ R.slots) (hn : As.length = n) (hst : st = As.reverse ++ rest) (hW : (rest.map fun v => v.category).sum ≤ 8) (hd : decode cc pc = .ok (.invokestatic idx, 3)) (k : ∀ (r : Int32), Qr r → hp_G p l e R s m args below meth c S cs ad A D nL cells slots Q (pc + 3) lv (.int r :: rest) h) : hp_G p l e R s m args below meth c S cs ad A D nL cells slots Q (pc) lv (st) h :=
  hp_callSNi E hM F hm hrm hR hR2 hn hst hW hd (fun r h' q => by rw [q.2]; exact k r q.1)
end
/-! ===== loops and joins, by how many numbers they carry ===== -/
def hp_jn0 (f : Prop → Prop) (g : Prop) : Prop := ∃ K : Prop, f K ∧ (K → g)
theorem hp_jn0_i {f : Prop → Prop} {g : Prop} (h : f g) : hp_jn0 f g := ⟨g, h, fun q => q⟩
def hp_lp0h (body : hp_H → (hp_H → Prop) → Prop)  (h : hp_H) : Prop := ∀ P : hp_H → Prop, (∀  (h : hp_H), (∃ B : hp_H → Prop, body h B ∧ ∀  (g : hp_H), B g → P g) → P h) → P h
theorem hp_lp0h_ind {body : hp_H → (hp_H → Prop) → Prop} (I : hp_H → Prop) (μ : hp_H → Nat) (hs : ∀  (h : hp_H), I h → body h (fun g => I g ∧ μ g < μ h))  {h : hp_H} (h0 : I h) : hp_lp0h body h := by
  intro P hP
  have key : ∀ n : Nat, ∀  (h : hp_H), μ h < n → I h → P h := by
    intro n
    induction n with
    | zero => intro h h1; omega
    | succ n ih => exact fun h h1 h2 => hP h ⟨_, hs h h2, fun g hb => ih g (by omega) hb.1⟩
  exact key (μ h + 1) h (Nat.lt_succ_self _) h0
def hp_jn0h (f : (hp_H → Prop) → Prop) (g : hp_H → Prop) : Prop := ∃ K : hp_H → Prop, f K ∧ ∀  (h : hp_H), K h → g h
theorem hp_jn0h_i {f : (hp_H → Prop) → Prop} {g : hp_H → Prop} (h : f g) : hp_jn0h f g := ⟨g, h, fun _ q => q⟩
def hp_lp1 (body : Int32 → (Int32 → Prop) → Prop) (a0 : Int32) : Prop := ∀ P : Int32 → Prop, (∀ (a0 : Int32), (∃ B : Int32 → Prop, body a0 B ∧ ∀ (b0 : Int32), B b0 → P b0) → P a0) → P a0
theorem hp_lp1_ind {body : Int32 → (Int32 → Prop) → Prop} (I : Int32 → Prop) (μ : Int32 → Nat) (hs : ∀ (a0 : Int32), I a0 → body a0 (fun b0 => I b0 ∧ μ b0 < μ a0)) {a0 : Int32} (h0 : I a0) : hp_lp1 body a0 := by
  intro P hP
  have key : ∀ n : Nat, ∀ (a0 : Int32), μ a0 < n → I a0 → P a0 := by
    intro n
    induction n with
    | zero => intro a0 h1; omega
    | succ n ih => exact fun a0 h1 h2 => hP a0 ⟨_, hs a0 h2, fun b0 hb => ih b0 (by omega) hb.1⟩
  exact key (μ a0 + 1) a0 (Nat.lt_succ_self _) h0
def hp_jn1 (f : (Int32 → Prop) → Prop) (g : Int32 → Prop) : Prop := ∃ K : Int32 → Prop, f K ∧ ∀ (a0 : Int32), K a0 → g a0
theorem hp_jn1_i {f : (Int32 → Prop) → Prop} {g : Int32 → Prop} (h : f g) : hp_jn1 f g := ⟨g, h, fun _ q => q⟩
def hp_lp1h (body : Int32 → hp_H → (Int32 → hp_H → Prop) → Prop) (a0 : Int32) (h : hp_H) : Prop := ∀ P : Int32 → hp_H → Prop, (∀ (a0 : Int32) (h : hp_H), (∃ B : Int32 → hp_H → Prop, body a0 h B ∧ ∀ (b0 : Int32) (g : hp_H), B b0 g → P b0 g) → P a0 h) → P a0 h
theorem hp_lp1h_ind {body : Int32 → hp_H → (Int32 → hp_H → Prop) → Prop} (I : Int32 → hp_H → Prop) (μ : Int32 → hp_H → Nat) (hs : ∀ (a0 : Int32) (h : hp_H), I a0 h → body a0 h (fun b0 g => I b0 g ∧ μ b0 g < μ a0 h)) {a0 : Int32} {h : hp_H} (h0 : I a0 h) : hp_lp1h body a0 h := by
  intro P hP
  have key : ∀ n : Nat, ∀ (a0 : Int32) (h : hp_H), μ a0 h < n → I a0 h → P a0 h := by
    intro n
    induction n with
    | zero => intro a0 h h1; omega
    | succ n ih => exact fun a0 h h1 h2 => hP a0 h ⟨_, hs a0 h h2, fun b0 g hb => ih b0 g (by omega) hb.1⟩
  exact key (μ a0 h + 1) a0 h (Nat.lt_succ_self _) h0
def hp_jn1h (f : (Int32 → hp_H → Prop) → Prop) (g : Int32 → hp_H → Prop) : Prop := ∃ K : Int32 → hp_H → Prop, f K ∧ ∀ (a0 : Int32) (h : hp_H), K a0 h → g a0 h
theorem hp_jn1h_i {f : (Int32 → hp_H → Prop) → Prop} {g : Int32 → hp_H → Prop} (h : f g) : hp_jn1h f g := ⟨g, h, fun _ _ q => q⟩
def hp_lp2 (body : Int32 → Int32 → (Int32 → Int32 → Prop) → Prop) (a0 : Int32) (a1 : Int32) : Prop := ∀ P : Int32 → Int32 → Prop, (∀ (a0 : Int32) (a1 : Int32), (∃ B : Int32 → Int32 → Prop, body a0 a1 B ∧ ∀ (b0 : Int32) (b1 : Int32), B b0 b1 → P b0 b1) → P a0 a1) → P a0 a1
theorem hp_lp2_ind {body : Int32 → Int32 → (Int32 → Int32 → Prop) → Prop} (I : Int32 → Int32 → Prop) (μ : Int32 → Int32 → Nat) (hs : ∀ (a0 : Int32) (a1 : Int32), I a0 a1 → body a0 a1 (fun b0 b1 => I b0 b1 ∧ μ b0 b1 < μ a0 a1)) {a0 : Int32} {a1 : Int32} (h0 : I a0 a1) : hp_lp2 body a0 a1 := by
  intro P hP
  have key : ∀ n : Nat, ∀ (a0 : Int32) (a1 : Int32), μ a0 a1 < n → I a0 a1 → P a0 a1 := by
    intro n
    induction n with
    | zero => intro a0 a1 h1; omega
    | succ n ih => exact fun a0 a1 h1 h2 => hP a0 a1 ⟨_, hs a0 a1 h2, fun b0 b1 hb => ih b0 b1 (by omega) hb.1⟩
  exact key (μ a0 a1 + 1) a0 a1 (Nat.lt_succ_self _) h0
def hp_jn2 (f : (Int32 → Int32 → Prop) → Prop) (g : Int32 → Int32 → Prop) : Prop := ∃ K : Int32 → Int32 → Prop, f K ∧ ∀ (a0 : Int32) (a1 : Int32), K a0 a1 → g a0 a1
theorem hp_jn2_i {f : (Int32 → Int32 → Prop) → Prop} {g : Int32 → Int32 → Prop} (h : f g) : hp_jn2 f g := ⟨g, h, fun _ _ q => q⟩
def hp_lp2h (body : Int32 → Int32 → hp_H → (Int32 → Int32 → hp_H → Prop) → Prop) (a0 : Int32) (a1 : Int32) (h : hp_H) : Prop := ∀ P : Int32 → Int32 → hp_H → Prop, (∀ (a0 : Int32) (a1 : Int32) (h : hp_H), (∃ B : Int32 → Int32 → hp_H → Prop, body a0 a1 h B ∧ ∀ (b0 : Int32) (b1 : Int32) (g : hp_H), B b0 b1 g → P b0 b1 g) → P a0 a1 h) → P a0 a1 h
theorem hp_lp2h_ind {body : Int32 → Int32 → hp_H → (Int32 → Int32 → hp_H → Prop) → Prop} (I : Int32 → Int32 → hp_H → Prop) (μ : Int32 → Int32 → hp_H → Nat) (hs : ∀ (a0 : Int32) (a1 : Int32) (h : hp_H), I a0 a1 h → body a0 a1 h (fun b0 b1 g => I b0 b1 g ∧ μ b0 b1 g < μ a0 a1 h)) {a0 : Int32} {a1 : Int32} {h : hp_H} (h0 : I a0 a1 h) : hp_lp2h body a0 a1 h := by
  intro P hP
  have key : ∀ n : Nat, ∀ (a0 : Int32) (a1 : Int32) (h : hp_H), μ a0 a1 h < n → I a0 a1 h → P a0 a1 h := by
    intro n
    induction n with
    | zero => intro a0 a1 h h1; omega
    | succ n ih => exact fun a0 a1 h h1 h2 => hP a0 a1 h ⟨_, hs a0 a1 h h2, fun b0 b1 g hb => ih b0 b1 g (by omega) hb.1⟩
  exact key (μ a0 a1 h + 1) a0 a1 h (Nat.lt_succ_self _) h0
def hp_jn2h (f : (Int32 → Int32 → hp_H → Prop) → Prop) (g : Int32 → Int32 → hp_H → Prop) : Prop := ∃ K : Int32 → Int32 → hp_H → Prop, f K ∧ ∀ (a0 : Int32) (a1 : Int32) (h : hp_H), K a0 a1 h → g a0 a1 h
theorem hp_jn2h_i {f : (Int32 → Int32 → hp_H → Prop) → Prop} {g : Int32 → Int32 → hp_H → Prop} (h : f g) : hp_jn2h f g := ⟨g, h, fun _ _ _ q => q⟩
def hp_lp3 (body : Int32 → Int32 → Int32 → (Int32 → Int32 → Int32 → Prop) → Prop) (a0 : Int32) (a1 : Int32) (a2 : Int32) : Prop := ∀ P : Int32 → Int32 → Int32 → Prop, (∀ (a0 : Int32) (a1 : Int32) (a2 : Int32), (∃ B : Int32 → Int32 → Int32 → Prop, body a0 a1 a2 B ∧ ∀ (b0 : Int32) (b1 : Int32) (b2 : Int32), B b0 b1 b2 → P b0 b1 b2) → P a0 a1 a2) → P a0 a1 a2
theorem hp_lp3_ind {body : Int32 → Int32 → Int32 → (Int32 → Int32 → Int32 → Prop) → Prop} (I : Int32 → Int32 → Int32 → Prop) (μ : Int32 → Int32 → Int32 → Nat) (hs : ∀ (a0 : Int32) (a1 : Int32) (a2 : Int32), I a0 a1 a2 → body a0 a1 a2 (fun b0 b1 b2 => I b0 b1 b2 ∧ μ b0 b1 b2 < μ a0 a1 a2)) {a0 : Int32} {a1 : Int32} {a2 : Int32} (h0 : I a0 a1 a2) : hp_lp3 body a0 a1 a2 := by
  intro P hP
  have key : ∀ n : Nat, ∀ (a0 : Int32) (a1 : Int32) (a2 : Int32), μ a0 a1 a2 < n → I a0 a1 a2 → P a0 a1 a2 := by
    intro n
    induction n with
    | zero => intro a0 a1 a2 h1; omega
    | succ n ih => exact fun a0 a1 a2 h1 h2 => hP a0 a1 a2 ⟨_, hs a0 a1 a2 h2, fun b0 b1 b2 hb => ih b0 b1 b2 (by omega) hb.1⟩
  exact key (μ a0 a1 a2 + 1) a0 a1 a2 (Nat.lt_succ_self _) h0
def hp_jn3 (f : (Int32 → Int32 → Int32 → Prop) → Prop) (g : Int32 → Int32 → Int32 → Prop) : Prop := ∃ K : Int32 → Int32 → Int32 → Prop, f K ∧ ∀ (a0 : Int32) (a1 : Int32) (a2 : Int32), K a0 a1 a2 → g a0 a1 a2
theorem hp_jn3_i {f : (Int32 → Int32 → Int32 → Prop) → Prop} {g : Int32 → Int32 → Int32 → Prop} (h : f g) : hp_jn3 f g := ⟨g, h, fun _ _ _ q => q⟩
def hp_lp3h (body : Int32 → Int32 → Int32 → hp_H → (Int32 → Int32 → Int32 → hp_H → Prop) → Prop) (a0 : Int32) (a1 : Int32) (a2 : Int32) (h : hp_H) : Prop := ∀ P : Int32 → Int32 → Int32 → hp_H → Prop, (∀ (a0 : Int32) (a1 : Int32) (a2 : Int32) (h : hp_H), (∃ B : Int32 → Int32 → Int32 → hp_H → Prop, body a0 a1 a2 h B ∧ ∀ (b0 : Int32) (b1 : Int32) (b2 : Int32) (g : hp_H), B b0 b1 b2 g → P b0 b1 b2 g) → P a0 a1 a2 h) → P a0 a1 a2 h
theorem hp_lp3h_ind {body : Int32 → Int32 → Int32 → hp_H → (Int32 → Int32 → Int32 → hp_H → Prop) → Prop} (I : Int32 → Int32 → Int32 → hp_H → Prop) (μ : Int32 → Int32 → Int32 → hp_H → Nat) (hs : ∀ (a0 : Int32) (a1 : Int32) (a2 : Int32) (h : hp_H), I a0 a1 a2 h → body a0 a1 a2 h (fun b0 b1 b2 g => I b0 b1 b2 g ∧ μ b0 b1 b2 g < μ a0 a1 a2 h)) {a0 : Int32} {a1 : Int32} {a2 : Int32} {h : hp_H} (h0 : I a0 a1 a2 h) : hp_lp3h body a0 a1 a2 h := by
  intro P hP
  have key : ∀ n : Nat, ∀ (a0 : Int32) (a1 : Int32) (a2 : Int32) (h : hp_H), μ a0 a1 a2 h < n → I a0 a1 a2 h → P a0 a1 a2 h := by
    intro n
    induction n with
    | zero => intro a0 a1 a2 h h1; omega
    | succ n ih => exact fun a0 a1 a2 h h1 h2 => hP a0 a1 a2 h ⟨_, hs a0 a1 a2 h h2, fun b0 b1 b2 g hb => ih b0 b1 b2 g (by omega) hb.1⟩
  exact key (μ a0 a1 a2 h + 1) a0 a1 a2 h (Nat.lt_succ_self _) h0
def hp_jn3h (f : (Int32 → Int32 → Int32 → hp_H → Prop) → Prop) (g : Int32 → Int32 → Int32 → hp_H → Prop) : Prop := ∃ K : Int32 → Int32 → Int32 → hp_H → Prop, f K ∧ ∀ (a0 : Int32) (a1 : Int32) (a2 : Int32) (h : hp_H), K a0 a1 a2 h → g a0 a1 a2 h
theorem hp_jn3h_i {f : (Int32 → Int32 → Int32 → hp_H → Prop) → Prop} {g : Int32 → Int32 → Int32 → hp_H → Prop} (h : f g) : hp_jn3h f g := ⟨g, h, fun _ _ _ _ q => q⟩
def hp_lp4 (body : Int32 → Int32 → Int32 → Int32 → (Int32 → Int32 → Int32 → Int32 → Prop) → Prop) (a0 : Int32) (a1 : Int32) (a2 : Int32) (a3 : Int32) : Prop := ∀ P : Int32 → Int32 → Int32 → Int32 → Prop, (∀ (a0 : Int32) (a1 : Int32) (a2 : Int32) (a3 : Int32), (∃ B : Int32 → Int32 → Int32 → Int32 → Prop, body a0 a1 a2 a3 B ∧ ∀ (b0 : Int32) (b1 : Int32) (b2 : Int32) (b3 : Int32), B b0 b1 b2 b3 → P b0 b1 b2 b3) → P a0 a1 a2 a3) → P a0 a1 a2 a3
theorem hp_lp4_ind {body : Int32 → Int32 → Int32 → Int32 → (Int32 → Int32 → Int32 → Int32 → Prop) → Prop} (I : Int32 → Int32 → Int32 → Int32 → Prop) (μ : Int32 → Int32 → Int32 → Int32 → Nat) (hs : ∀ (a0 : Int32) (a1 : Int32) (a2 : Int32) (a3 : Int32), I a0 a1 a2 a3 → body a0 a1 a2 a3 (fun b0 b1 b2 b3 => I b0 b1 b2 b3 ∧ μ b0 b1 b2 b3 < μ a0 a1 a2 a3)) {a0 : Int32} {a1 : Int32} {a2 : Int32} {a3 : Int32} (h0 : I a0 a1 a2 a3) : hp_lp4 body a0 a1 a2 a3 := by
  intro P hP
  have key : ∀ n : Nat, ∀ (a0 : Int32) (a1 : Int32) (a2 : Int32) (a3 : Int32), μ a0 a1 a2 a3 < n → I a0 a1 a2 a3 → P a0 a1 a2 a3 := by
    intro n
    induction n with
    | zero => intro a0 a1 a2 a3 h1; omega
    | succ n ih => exact fun a0 a1 a2 a3 h1 h2 => hP a0 a1 a2 a3 ⟨_, hs a0 a1 a2 a3 h2, fun b0 b1 b2 b3 hb => ih b0 b1 b2 b3 (by omega) hb.1⟩
  exact key (μ a0 a1 a2 a3 + 1) a0 a1 a2 a3 (Nat.lt_succ_self _) h0
def hp_jn4 (f : (Int32 → Int32 → Int32 → Int32 → Prop) → Prop) (g : Int32 → Int32 → Int32 → Int32 → Prop) : Prop := ∃ K : Int32 → Int32 → Int32 → Int32 → Prop, f K ∧ ∀ (a0 : Int32) (a1 : Int32) (a2 : Int32) (a3 : Int32), K a0 a1 a2 a3 → g a0 a1 a2 a3
theorem hp_jn4_i {f : (Int32 → Int32 → Int32 → Int32 → Prop) → Prop} {g : Int32 → Int32 → Int32 → Int32 → Prop} (h : f g) : hp_jn4 f g := ⟨g, h, fun _ _ _ _ q => q⟩
def hp_lp4h (body : Int32 → Int32 → Int32 → Int32 → hp_H → (Int32 → Int32 → Int32 → Int32 → hp_H → Prop) → Prop) (a0 : Int32) (a1 : Int32) (a2 : Int32) (a3 : Int32) (h : hp_H) : Prop := ∀ P : Int32 → Int32 → Int32 → Int32 → hp_H → Prop, (∀ (a0 : Int32) (a1 : Int32) (a2 : Int32) (a3 : Int32) (h : hp_H), (∃ B : Int32 → Int32 → Int32 → Int32 → hp_H → Prop, body a0 a1 a2 a3 h B ∧ ∀ (b0 : Int32) (b1 : Int32) (b2 : Int32) (b3 : Int32) (g : hp_H), B b0 b1 b2 b3 g → P b0 b1 b2 b3 g) → P a0 a1 a2 a3 h) → P a0 a1 a2 a3 h
theorem hp_lp4h_ind {body : Int32 → Int32 → Int32 → Int32 → hp_H → (Int32 → Int32 → Int32 → Int32 → hp_H → Prop) → Prop} (I : Int32 → Int32 → Int32 → Int32 → hp_H → Prop) (μ : Int32 → Int32 → Int32 → Int32 → hp_H → Nat) (hs : ∀ (a0 : Int32) (a1 : Int32) (a2 : Int32) (a3 : Int32) (h : hp_H), I a0 a1 a2 a3 h → body a0 a1 a2 a3 h (fun b0 b1 b2 b3 g => I b0 b1 b2 b3 g ∧ μ b0 b1 b2 b3 g < μ a0 a1 a2 a3 h)) {a0 : Int32} {a1 : Int32} {a2 : Int32} {a3 : Int32} {h : hp_H} (h0 : I a0 a1 a2 a3 h) : hp_lp4h body a0 a1 a2 a3 h := by
  intro P hP
  have key : ∀ n : Nat, ∀ (a0 : Int32) (a1 : Int32) (a2 : Int32) (a3 : Int32) (h : hp_H), μ a0 a1 a2 a3 h < n → I a0 a1 a2 a3 h → P a0 a1 a2 a3 h := by
    intro n
    induction n with
    | zero => intro a0 a1 a2 a3 h h1; omega
    | succ n ih => exact fun a0 a1 a2 a3 h h1 h2 => hP a0 a1 a2 a3 h ⟨_, hs a0 a1 a2 a3 h h2, fun b0 b1 b2 b3 g hb => ih b0 b1 b2 b3 g (by omega) hb.1⟩
  exact key (μ a0 a1 a2 a3 h + 1) a0 a1 a2 a3 h (Nat.lt_succ_self _) h0
def hp_jn4h (f : (Int32 → Int32 → Int32 → Int32 → hp_H → Prop) → Prop) (g : Int32 → Int32 → Int32 → Int32 → hp_H → Prop) : Prop := ∃ K : Int32 → Int32 → Int32 → Int32 → hp_H → Prop, f K ∧ ∀ (a0 : Int32) (a1 : Int32) (a2 : Int32) (a3 : Int32) (h : hp_H), K a0 a1 a2 a3 h → g a0 a1 a2 a3 h
theorem hp_jn4h_i {f : (Int32 → Int32 → Int32 → Int32 → hp_H → Prop) → Prop} {g : Int32 → Int32 → Int32 → Int32 → hp_H → Prop} (h : f g) : hp_jn4h f g := ⟨g, h, fun _ _ _ _ _ q => q⟩
def hp_lp5 (body : Int32 → Int32 → Int32 → Int32 → Int32 → (Int32 → Int32 → Int32 → Int32 → Int32 → Prop) → Prop) (a0 : Int32) (a1 : Int32) (a2 : Int32) (a3 : Int32) (a4 : Int32) : Prop := ∀ P : Int32 → Int32 → Int32 → Int32 → Int32 → Prop, (∀ (a0 : Int32) (a1 : Int32) (a2 : Int32) (a3 : Int32) (a4 : Int32), (∃ B : Int32 → Int32 → Int32 → Int32 → Int32 → Prop, body a0 a1 a2 a3 a4 B ∧ ∀ (b0 : Int32) (b1 : Int32) (b2 : Int32) (b3 : Int32) (b4 : Int32), B b0 b1 b2 b3 b4 → P b0 b1 b2 b3 b4) → P a0 a1 a2 a3 a4) → P a0 a1 a2 a3 a4
theorem hp_lp5_ind {body : Int32 → Int32 → Int32 → Int32 → Int32 → (Int32 → Int32 → Int32 → Int32 → Int32 → Prop) → Prop} (I : Int32 → Int32 → Int32 → Int32 → Int32 → Prop) (μ : Int32 → Int32 → Int32 → Int32 → Int32 → Nat) (hs : ∀ (a0 : Int32) (a1 : Int32) (a2 : Int32) (a3 : Int32) (a4 : Int32), I a0 a1 a2 a3 a4 → body a0 a1 a2 a3 a4 (fun b0 b1 b2 b3 b4 => I b0 b1 b2 b3 b4 ∧ μ b0 b1 b2 b3 b4 < μ a0 a1 a2 a3 a4)) {a0 : Int32} {a1 : Int32} {a2 : Int32} {a3 : Int32} {a4 : Int32} (h0 : I a0 a1 a2 a3 a4) : hp_lp5 body a0 a1 a2 a3 a4 := by
  intro P hP
  have key : ∀ n : Nat, ∀ (a0 : Int32) (a1 : Int32) (a2 : Int32) (a3 : Int32) (a4 : Int32), μ a0 a1 a2 a3 a4 < n → I a0 a1 a2 a3 a4 → P a0 a1 a2 a3 a4 := by
    intro n
    induction n with
    | zero => intro a0 a1 a2 a3 a4 h1; omega
    | succ n ih => exact fun a0 a1 a2 a3 a4 h1 h2 => hP a0 a1 a2 a3 a4 ⟨_, hs a0 a1 a2 a3 a4 h2, fun b0 b1 b2 b3 b4 hb => ih b0 b1 b2 b3 b4 (by omega) hb.1⟩
  exact key (μ a0 a1 a2 a3 a4 + 1) a0 a1 a2 a3 a4 (Nat.lt_succ_self _) h0
def hp_jn5 (f : (Int32 → Int32 → Int32 → Int32 → Int32 → Prop) → Prop) (g : Int32 → Int32 → Int32 → Int32 → Int32 → Prop) : Prop := ∃ K : Int32 → Int32 → Int32 → Int32 → Int32 → Prop, f K ∧ ∀ (a0 : Int32) (a1 : Int32) (a2 : Int32) (a3 : Int32) (a4 : Int32), K a0 a1 a2 a3 a4 → g a0 a1 a2 a3 a4
theorem hp_jn5_i {f : (Int32 → Int32 → Int32 → Int32 → Int32 → Prop) → Prop} {g : Int32 → Int32 → Int32 → Int32 → Int32 → Prop} (h : f g) : hp_jn5 f g := ⟨g, h, fun _ _ _ _ _ q => q⟩
def hp_lp5h (body : Int32 → Int32 → Int32 → Int32 → Int32 → hp_H → (Int32 → Int32 → Int32 → Int32 → Int32 → hp_H → Prop) → Prop) (a0 : Int32) (a1 : Int32) (a2 : Int32) (a3 : Int32) (a4 : Int32) (h : hp_H) : Prop := ∀ P : Int32 → Int32 → Int32 → Int32 → Int32 → hp_H → Prop, (∀ (a0 : Int32) (a1 : Int32) (a2 : Int32) (a3 : Int32) (a4 : Int32) (h : hp_H), (∃ B : Int32 → Int32 → Int32 → Int32 → Int32 → hp_H → Prop, body a0 a1 a2 a3 a4 h B ∧ ∀ (b0 : Int32) (b1 : Int32) (b2 : Int32) (b3 : Int32) (b4 : Int32) (g : hp_H), B b0 b1 b2 b3 b4 g → P b0 b1 b2 b3 b4 g) → P a0 a1 a2 a3 a4 h) → P a0 a1 a2 a3 a4 h
theorem hp_lp5h_ind {body : Int32 → Int32 → Int32 → Int32 → Int32 → hp_H → (Int32 → Int32 → Int32 → Int32 → Int32 → hp_H → Prop) → Prop} (I : Int32 → Int32 → Int32 → Int32 → Int32 → hp_H → Prop) (μ : Int32 → Int32 → Int32 → Int32 → Int32 → hp_H → Nat) (hs : ∀ (a0 : Int32) (a1 : Int32) (a2 : Int32) (a3 : Int32) (a4 : Int32) (h : hp_H), I a0 a1 a2 a3 a4 h → body a0 a1 a2 a3 a4 h (fun b0 b1 b2 b3 b4 g => I b0 b1 b2 b3 b4 g ∧ μ b0 b1 b2 b3 b4 g < μ a0 a1 a2 a3 a4 h)) {a0 : Int32} {a1 : Int32} {a2 : Int32} {a3 : Int32} {a4 : Int32} {h : hp_H} (h0 : I a0 a1 a2 a3 a4 h) : hp_lp5h body a0 a1 a2 a3 a4 h := by
  intro P hP
  have key : ∀ n : Nat, ∀ (a0 : Int32) (a1 : Int32) (a2 : Int32) (a3 : Int32) (a4 : Int32) (h : hp_H), μ a0 a1 a2 a3 a4 h < n → I a0 a1 a2 a3 a4 h → P a0 a1 a2 a3 a4 h := by
    intro n
    induction n with
    | zero => intro a0 a1 a2 a3 a4 h h1; omega
    | succ n ih => exact fun a0 a1 a2 a3 a4 h h1 h2 => hP a0 a1 a2 a3 a4 h ⟨_, hs a0 a1 a2 a3 a4 h h2, fun b0 b1 b2 b3 b4 g hb => ih b0 b1 b2 b3 b4 g (by omega) hb.1⟩
  exact key (μ a0 a1 a2 a3 a4 h + 1) a0 a1 a2 a3 a4 h (Nat.lt_succ_self _) h0
def hp_jn5h (f : (Int32 → Int32 → Int32 → Int32 → Int32 → hp_H → Prop) → Prop) (g : Int32 → Int32 → Int32 → Int32 → Int32 → hp_H → Prop) : Prop := ∃ K : Int32 → Int32 → Int32 → Int32 → Int32 → hp_H → Prop, f K ∧ ∀ (a0 : Int32) (a1 : Int32) (a2 : Int32) (a3 : Int32) (a4 : Int32) (h : hp_H), K a0 a1 a2 a3 a4 h → g a0 a1 a2 a3 a4 h
theorem hp_jn5h_i {f : (Int32 → Int32 → Int32 → Int32 → Int32 → hp_H → Prop) → Prop} {g : Int32 → Int32 → Int32 → Int32 → Int32 → hp_H → Prop} (h : f g) : hp_jn5h f g := ⟨g, h, fun _ _ _ _ _ _ q => q⟩
def hp_lp6 (body : Int32 → Int32 → Int32 → Int32 → Int32 → Int32 → (Int32 → Int32 → Int32 → Int32 → Int32 → Int32 → Prop) → Prop) (a0 : Int32) (a1 : Int32) (a2 : Int32) (a3 : Int32) (a4 : Int32) (a5 : Int32) : Prop := ∀ P : Int32 → Int32 → Int32 → Int32 → Int32 → Int32 → Prop, (∀ (a0 : Int32) (a1 : Int32) (a2 : Int32) (a3 : Int32) (a4 : Int32) (a5 : Int32), (∃ B : Int32 → Int32 → Int32 → Int32 → Int32 → Int32 → Prop, body a0 a1 a2 a3 a4 a5 B ∧ ∀ (b0 : Int32) (b1 : Int32) (b2 : Int32) (b3 : Int32) (b4 : Int32) (b5 : Int32), B b0 b1 b2 b3 b4 b5 → P b0 b1 b2 b3 b4 b5) → P a0 a1 a2 a3 a4 a5) → P a0 a1 a2 a3 a4 a5
theorem hp_lp6_ind {body : Int32 → Int32 → Int32 → Int32 → Int32 → Int32 → (Int32 → Int32 → Int32 → Int32 → Int32 → Int32 → Prop) → Prop} (I : Int32 → Int32 → Int32 → Int32 → Int32 → Int32 → Prop) (μ : Int32 → Int32 → Int32 → Int32 → Int32 → Int32 → Nat) (hs : ∀ (a0 : Int32) (a1 : Int32) (a2 : Int32) (a3 : Int32) (a4 : Int32) (a5 : Int32), I a0 a1 a2 a3 a4 a5 → body a0 a1 a2 a3 a4 a5 (fun b0 b1 b2 b3 b4 b5 => I b0 b1 b2 b3 b4 b5 ∧ μ b0 b1 b2 b3 b4 b5 < μ a0 a1 a2 a3 a4 a5)) {a0 : Int32} {a1 : Int32} {a2 : Int32} {a3 : Int32} {a4 : Int32} {a5 : Int32} (h0 : I a0 a1 a2 a3 a4 a5) : hp_lp6 body a0 a1 a2 a3 a4 a5 := by
  intro P hP
  have key : ∀ n : Nat, ∀ (a0 : Int32) (a1 : Int32) (a2 : Int32) (a3 : Int32) (a4 : Int32) (a5 : Int32), μ a0 a1 a2 a3 a4 a5 < n → I a0 a1 a2 a3 a4 a5 → P a0 a1 a2 a3 a4 a5 := by
    intro n
    induction n with
    | zero => intro a0 a1 a2 a3 a4 a5 h1; omega
    | succ n ih => exact fun a0 a1 a2 a3 a4 a5 h1 h2 => hP a0 a1 a2 a3 a4 a5 ⟨_, hs a0 a1 a2 a3 a4 a5 h2, fun b0 b1 b2 b3 b4 b5 hb => ih b0 b1 b2 b3 b4 b5 (by omega) hb.1⟩
  exact key (μ a0 a1 a2 a3 a4 a5 + 1) a0 a1 a2 a3 a4 a5 (Nat.lt_succ_self _) h0
def hp_jn6 (f : (Int32 → Int32 → Int32 → Int32 → Int32 → Int32 → Prop) → Prop) (g : Int32 → Int32 → Int32 → Int32 → Int32 → Int32 → Prop) : Prop := ∃ K : Int32 → Int32 → Int32 → Int32 → Int32 → Int32 → Prop, f K ∧ ∀ (a0 : Int32) (a1 : Int32) (a2 : Int32) (a3 : Int32) (a4 : Int32) (a5 : Int32), K a0 a1 a2 a3 a4 a5 → g a0 a1 a2 a3 a4 a5
theorem hp_jn6_i {f : (Int32 → Int32 → Int32 → Int32 → Int32 → Int32 → Prop) → Prop} {g : Int32 → Int32 → Int32 → Int32 → Int32 → Int32 → Prop} (h : f g) : hp_jn6 f g := ⟨g, h, fun _ _ _ _ _ _ q => q⟩
def hp_lp6h (body : Int32 → Int32 → Int32 → Int32 → Int32 → Int32 → hp_H → (Int32 → Int32 → Int32 → Int32 → Int32 → Int32 → hp_H → Prop) → Prop) (a0 : Int32) (a1 : Int32) (a2 : Int32) (a3 : Int32) (a4 : Int32) (a5 : Int32) (h : hp_H) : Prop := ∀ P : Int32 → Int32 → Int32 → Int32 → Int32 → Int32 → hp_H → Prop, (∀ (a0 : Int32) (a1 : Int32) (a2 : Int32) (a3 : Int32) (a4 : Int32) (a5 : Int32) (h : hp_H), (∃ B : Int32 → Int32 → Int32 → Int32 → Int32 → Int32 → hp_H → Prop, body a0 a1 a2 a3 a4 a5 h B ∧ ∀ (b0 : Int32) (b1 : Int32) (b2 : Int32) (b3 : Int32) (b4 : Int32) (b5 : Int32) (g : hp_H), B b0 b1 b2 b3 b4 b5 g → P b0 b1 b2 b3 b4 b5 g) → P a0 a1 a2 a3 a4 a5 h) → P a0 a1 a2 a3 a4 a5 h
theorem hp_lp6h_ind {body : Int32 → Int32 → Int32 → Int32 → Int32 → Int32 → hp_H → (Int32 → Int32 → Int32 → Int32 → Int32 → Int32 → hp_H → Prop) → Prop} (I : Int32 → Int32 → Int32 → Int32 → Int32 → Int32 → hp_H → Prop) (μ : Int32 → Int32 → Int32 → Int32 → Int32 → Int32 → hp_H → Nat) (hs : ∀ (a0 : Int32) (a1 : Int32) (a2 : Int32) (a3 : Int32) (a4 : Int32) (a5 : Int32) (h : hp_H), I a0 a1 a2 a3 a4 a5 h → body a0 a1 a2 a3 a4 a5 h (fun b0 b1 b2 b3 b4 b5 g => I b0 b1 b2 b3 b4 b5 g ∧ μ b0 b1 b2 b3 b4 b5 g < μ a0 a1 a2 a3 a4 a5 h)) {a0 : Int32} {a1 : Int32} {a2 : Int32} {a3 : Int32} {a4 : Int32} {a5 : Int32} {h : hp_H} (h0 : I a0 a1 a2 a3 a4 a5 h) : hp_lp6h body a0 a1 a2 a3 a4 a5 h := by
  intro P hP
  have key : ∀ n : Nat, ∀ (a0 : Int32) (a1 : Int32) (a2 : Int32) (a3 : Int32) (a4 : Int32) (a5 : Int32) (h : hp_H), μ a0 a1 a2 a3 a4 a5 h < n → I a0 a1 a2 a3 a4 a5 h → P a0 a1 a2 a3 a4 a5 h := by
    intro n
    induction n with
    | zero => intro a0 a1 a2 a3 a4 a5 h h1; omega
    | succ n ih => exact fun a0 a1 a2 a3 a4 a5 h h1 h2 => hP a0 a1 a2 a3 a4 a5 h ⟨_, hs a0 a1 a2 a3 a4 a5 h h2, fun b0 b1 b2 b3 b4 b5 g hb => ih b0 b1 b2 b3 b4 b5 g (by omega) hb.1⟩
  exact key (μ a0 a1 a2 a3 a4 a5 h + 1) a0 a1 a2 a3 a4 a5 h (Nat.lt_succ_self _) h0
def hp_jn6h (f : (Int32 → Int32 → Int32 → Int32 → Int32 → Int32 → hp_H → Prop) → Prop) (g : Int32 → Int32 → Int32 → Int32 → Int32 → Int32 → hp_H → Prop) : Prop := ∃ K : Int32 → Int32 → Int32 → Int32 → Int32 → Int32 → hp_H → Prop, f K ∧ ∀ (a0 : Int32) (a1 : Int32) (a2 : Int32) (a3 : Int32) (a4 : Int32) (a5 : Int32) (h : hp_H), K a0 a1 a2 a3 a4 a5 h → g a0 a1 a2 a3 a4 a5 h
theorem hp_jn6h_i {f : (Int32 → Int32 → Int32 → Int32 → Int32 → Int32 → hp_H → Prop) → Prop} {g : Int32 → Int32 → Int32 → Int32 → Int32 → Int32 → hp_H → Prop} (h : f g) : hp_jn6h f g := ⟨g, h, fun _ _ _ _ _ _ _ q => q⟩
def hp_lp7 (body : Int32 → Int32 → Int32 → Int32 → Int32 → Int32 → Int32 → (Int32 → Int32 → Int32 → Int32 → Int32 → Int32 → Int32 → Prop) → Prop) (a0 : Int32) (a1 : Int32) (a2 : Int32) (a3 : Int32) (a4 : Int32) (a5 : Int32) (a6 : Int32) : Prop := ∀ P : Int32 → Int32 → Int32 → Int32 → Int32 → Int32 → Int32 → Prop, (∀ (a0 : Int32) (a1 : Int32) (a2 : Int32) (a3 : Int32) (a4 : Int32) (a5 : Int32) (a6 : Int32), (∃ B : Int32 → Int32 → Int32 → Int32 → Int32 → Int32 → Int32 → Prop, body a0 a1 a2 a3 a4 a5 a6 B ∧ ∀ (b0 : Int32) (b1 : Int32) (b2 : Int32) (b3 : Int32) (b4 : Int32) (b5 : Int32) (b6 : Int32), B b0 b1 b2 b3 b4 b5 b6 → P b0 b1 b2 b3 b4 b5 b6) → P a0 a1 a2 a3 a4 a5 a6) → P a0 a1 a2 a3 a4 a5 a6
theorem hp_lp7_ind {body : Int32 → Int32 → Int32 → Int32 → Int32 → Int32 → Int32 → (Int32 → Int32 → Int32 → Int32 → Int32 → Int32 → Int32 → Prop) → Prop} (I : Int32 → Int32 → Int32 → Int32 → Int32 → Int32 → Int32 → Prop) (μ : Int32 → Int32 → Int32 → Int32 → Int32 → Int32 → Int32 → Nat) (hs : ∀ (a0 : Int32) (a1 : Int32) (a2 : Int32) (a3 : Int32) (a4 : Int32) (a5 : Int32) (a6 : Int32), I a0 a1 a2 a3 a4 a5 a6 → body a0 a1 a2 a3 a4 a5 a6 (fun b0 b1 b2 b3 b4 b5 b6 => I b0 b1 b2 b3 b4 b5 b6 ∧ μ b0 b1 b2 b3 b4 b5 b6 < μ a0 a1 a2 a3 a4 a5 a6)) {a0 : Int32} {a1 : Int32} {a2 : Int32} {a3 : Int32} {a4 : Int32} {a5 : Int32} {a6 : Int32} (h0 : I a0 a1 a2 a3 a4 a5 a6) : hp_lp7 body a0 a1 a2 a3 a4 a5 a6 := by
  intro P hP
  have key : ∀ n : Nat, ∀ (a0 : Int32) (a1 : Int32) (a2 : Int32) (a3 : Int32) (a4 : Int32) (a5 : Int32) (a6 : Int32), μ a0 a1 a2 a3 a4 a5 a6 < n → I a0 a1 a2 a3 a4 a5 a6 → P a0 a1 a2 a3 a4 a5 a6 := by
    intro n
    induction n with
    | zero => intro a0 a1 a2 a3 a4 a5 a6 h1; omega
    | succ n ih => exact fun a0 a1 a2 a3 a4 a5 a6 h1 h2 => hP a0 a1 a2 a3 a4 a5 a6 ⟨_, hs a0 a1 a2 a3 a4 a5 a6 h2, fun b0 b1 b2 b3 b4 b5 b6 hb => ih b0 b1 b2 b3 b4 b5 b6 (by omega) hb.1⟩
  exact key (μ a0 a1 a2 a3 a4 a5 a6 + 1) a0 a1 a2 a3 a4 a5 a6 (Nat.lt_succ_self _) h0
def hp_jn7 (f : (Int32 → Int32 → Int32 → Int32 → Int32 → Int32 → Int32 → Prop) → Prop) (g : Int32 → Int32 → Int32 → Int32 → Int32 → Int32 → Int32 → Prop) : Prop := ∃ K : Int32 → Int32 → Int32 → Int32 → Int32 → Int32 → Int32 → Prop, f K ∧ ∀ (a0 : Int32) (a1 : Int32) (a2 : Int32) (a3 : Int32) (a4 : Int32) (a5 : Int32) (a6 : Int32), K a0 a1 a2 a3 a4 a5 a6 → g a0 a1 a2 a3 a4 a5 a6
theorem hp_jn7_i {f : (Int32 → Int32 → Int32 → Int32 → Int32 → Int32 → Int32 → Prop) → Prop} {g : Int32 → Int32 → Int32 → Int32 → Int32 → Int32 → Int32 → Prop} (h : f g) : hp_jn7 f g := ⟨g, h, fun _ _ _ _ _ _ _ q => q⟩
def hp_lp7h (body : Int32 → Int32 → Int32 → Int32 → Int32 → Int32 → Int32 → hp_H → (Int32 → Int32 → Int32 → Int32 → Int32 → Int32 → Int32 → hp_H → Prop) → Prop) (a0 : Int32) (a1 : Int32) (a2 : Int32) (a3 : Int32) (a4 : Int32) (a5 : Int32) (a6 : Int32) (h : hp_H) : Prop := ∀ P : Int32 → Int32 → Int32 → Int32 → Int32 → Int32 → Int32 → hp_H → Prop, (∀ (a0 : Int32) (a1 : Int32) (a2 : Int32) (a3 : Int32) (a4 : Int32) (a5 : Int32) (a6 : Int32) (h : hp_H), (∃ B : Int32 → Int32 → Int32 → Int32 → Int32 → Int32 → Int32 → hp_H → Prop, body a0 a1 a2 a3 a4 a5 a6 h B ∧ ∀ (b0 : Int32) (b1 : Int32) (b2 : Int32) (b3 : Int32) (b4 : Int32) (b5 : Int32) (b6 : Int32) (g : hp_H), B b0 b1 b2 b3 b4 b5 b6 g → P b0 b1 b2 b3 b4 b5 b6 g) → P a0 a1 a2 a3 a4 a5 a6 h) → P a0 a1 a2 a3 a4 a5 a6 h
theorem hp_lp7h_ind {body : Int32 → Int32 → Int32 → Int32 → Int32 → Int32 → Int32 → hp_H → (Int32 → Int32 → Int32 → Int32 → Int32 → Int32 → Int32 → hp_H → Prop) → Prop} (I : Int32 → Int32 → Int32 → Int32 → Int32 → Int32 → Int32 → hp_H → Prop) (μ : Int32 → Int32 → Int32 → Int32 → Int32 → Int32 → Int32 → hp_H → Nat) (hs : ∀ (a0 : Int32) (a1 : Int32) (a2 : Int32) (a3 : Int32) (a4 : Int32) (a5 : Int32) (a6 : Int32) (h : hp_H), I a0 a1 a2 a3 a4 a5 a6 h → body a0 a1 a2 a3 a4 a5 a6 h (fun b0 b1 b2 b3 b4 b5 b6 g => I b0 b1 b2 b3 b4 b5 b6 g ∧ μ b0 b1 b2 b3 b4 b5 b6 g < μ a0 a1 a2 a3 a4 a5 a6 h)) {a0 : Int32} {a1 : Int32} {a2 : Int32} {a3 : Int32} {a4 : Int32} {a5 : Int32} {a6 : Int32} {h : hp_H} (h0 : I a0 a1 a2 a3 a4 a5 a6 h) : hp_lp7h body a0 a1 a2 a3 a4 a5 a6 h := by
  intro P hP
  have key : ∀ n : Nat, ∀ (a0 : Int32) (a1 : Int32) (a2 : Int32) (a3 : Int32) (a4 : Int32) (a5 : Int32) (a6 : Int32) (h : hp_H), μ a0 a1 a2 a3 a4 a5 a6 h < n → I a0 a1 a2 a3 a4 a5 a6 h → P a0 a1 a2 a3 a4 a5 a6 h := by
    intro n
    induction n with
    | zero => intro a0 a1 a2 a3 a4 a5 a6 h h1; omega
    | succ n ih => exact fun a0 a1 a2 a3 a4 a5 a6 h h1 h2 => hP a0 a1 a2 a3 a4 a5 a6 h ⟨_, hs a0 a1 a2 a3 a4 a5 a6 h h2, fun b0 b1 b2 b3 b4 b5 b6 g hb => ih b0 b1 b2 b3 b4 b5 b6 g (by omega) hb.1⟩
  exact key (μ a0 a1 a2 a3 a4 a5 a6 h + 1) a0 a1 a2 a3 a4 a5 a6 h (Nat.lt_succ_self _) h0
def hp_jn7h (f : (Int32 → Int32 → Int32 → Int32 → Int32 → Int32 → Int32 → hp_H → Prop) → Prop) (g : Int32 → Int32 → Int32 → Int32 → Int32 → Int32 → Int32 → hp_H → Prop) : Prop := ∃ K : Int32 → Int32 → Int32 → Int32 → Int32 → Int32 → Int32 → hp_H → Prop, f K ∧ ∀ (a0 : Int32) (a1 : Int32) (a2 : Int32) (a3 : Int32) (a4 : Int32) (a5 : Int32) (a6 : Int32) (h : hp_H), K a0 a1 a2 a3 a4 a5 a6 h → g a0 a1 a2 a3 a4 a5 a6 h
theorem hp_jn7h_i {f : (Int32 → Int32 → Int32 → Int32 → Int32 → Int32 → Int32 → hp_H → Prop) → Prop} {g : Int32 → Int32 → Int32 → Int32 → Int32 → Int32 → Int32 → hp_H → Prop} (h : f g) : hp_jn7h f g := ⟨g, h, fun _ _ _ _ _ _ _ _ q => q⟩
def hp_lp8 (body : Int32 → Int32 → Int32 → Int32 → Int32 → Int32 → Int32 → Int32 → (Int32 → Int32 → Int32 → Int32 → Int32 → Int32 → Int32 → Int32 → Prop) → Prop) (a0 : Int32) (a1 : Int32) (a2 : Int32) (a3 : Int32) (a4 : Int32) (a5 : Int32) (a6 : Int32) (a7 : Int32) : Prop := ∀ P : Int32 → Int32 → Int32 → Int32 → Int32 → Int32 → Int32 → Int32 → Prop, (∀ (a0 : Int32) (a1 : Int32) (a2 : Int32) (a3 : Int32) (a4 : Int32) (a5 : Int32) (a6 : Int32) (a7 : Int32), (∃ B : Int32 → Int32 → Int32 → Int32 → Int32 → Int32 → Int32 → Int32 → Prop, body a0 a1 a2 a3 a4 a5 a6 a7 B ∧ ∀ (b0 : Int32) (b1 : Int32) (b2 : Int32) (b3 : Int32) (b4 : Int32) (b5 : Int32) (b6 : Int32) (b7 : Int32), B b0 b1 b2 b3 b4 b5 b6 b7 → P b0 b1 b2 b3 b4 b5 b6 b7) → P a0 a1 a2 a3 a4 a5 a6 a7) → P a0 a1 a2 a3 a4 a5 a6 a7
theorem hp_lp8_ind {body : Int32 → Int32 → Int32 → Int32 → Int32 → Int32 → Int32 → Int32 → (Int32 → Int32 → Int32 → Int32 → Int32 → Int32 → Int32 → Int32 → Prop) → Prop} (I : Int32 → Int32 → Int32 → Int32 → Int32 → Int32 → Int32 → Int32 → Prop) (μ : Int32 → Int32 → Int32 → Int32 → Int32 → Int32 → Int32 → Int32 → Nat) (hs : ∀ (a0 : Int32) (a1 : Int32) (a2 : Int32) (a3 : Int32) (a4 : Int32) (a5 : Int32) (a6 : Int32) (a7 : Int32), I a0 a1 a2 a3 a4 a5 a6 a7 → body a0 a1 a2 a3 a4 a5 a6 a7 (fun b0 b1 b2 b3 b4 b5 b6 b7 => I b0 b1 b2 b3 b4 b5 b6 b7 ∧ μ b0 b1 b2 b3 b4 b5 b6 b7 < μ a0 a1 a2 a3 a4 a5 a6 a7)) {a0 : Int32} {a1 : Int32} {a2 : Int32} {a3 : Int32} {a4 : Int32} {a5 : Int32} {a6 : Int32} {a7 : Int32} (h0 : I a0 a1 a2 a3 a4 a5 a6 a7) : hp_lp8 body a0 a1 a2 a3 a4 a5 a6 a7 := by
  intro P hP
  have key : ∀ n : Nat, ∀ (a0 : Int32) (a1 : Int32) (a2 : Int32) (a3 : Int32) (a4 : Int32) (a5 : Int32) (a6 : Int32) (a7 : Int32), μ a0 a1 a2 a3 a4 a5 a6 a7 < n → I a0 a1 a2 a3 a4 a5 a6 a7 → P a0 a1 a2 a3 a4 a5 a6 a7 := by
    intro n
    induction n with
    | zero => intro a0 a1 a2 a3 a4 a5 a6 a7 h1; omega
    | succ n ih => exact fun a0 a1 a2 a3 a4 a5 a6 a7 h1 h2 => hP a0 a1 a2 a3 a4 a5 a6 a7 ⟨_, hs a0 a1 a2 a3 a4 a5 a6 a7 h2, fun b0 b1 b2 b3 b4 b5 b6 b7 hb => ih b0 b1 b2 b3 b4 b5 b6 b7 (by omega) hb.1⟩
  exact key (μ a0 a1 a2 a3 a4 a5 a6 a7 + 1) a0 a1 a2 a3 a4 a5 a6 a7 (Nat.lt_succ_self _) h0
def hp_jn8 (f : (Int32 → Int32 → Int32 → Int32 → Int32 → Int32 → Int32 → Int32 → Prop) → Prop) (g : Int32 → Int32 → Int32 → Int32 → Int32 → Int32 → Int32 → Int32 → Prop) : Prop := ∃ K : Int32 → Int32 → Int32 → Int32 → Int32 → Int32 → Int32 → Int32 → Prop, f K ∧ ∀ (a0 : Int32) (a1 : Int32) (a2 : Int32) (a3 : Int32) (a4 : Int32) (a5 : Int32) (a6 : Int32) (a7 : Int32), K a0 a1 a2 a3 a4 a5 a6 a7 → g a0 a1 a2 a3 a4 a5 a6 a7
theorem hp_jn8_i {f : (Int32 → Int32 → Int32 → Int32 → Int32 → Int32 → Int32 → Int32 → Prop) → Prop} {g : Int32 → Int32 → Int32 → Int32 → Int32 → Int32 → Int32 → Int32 → Prop} (h : f g) : hp_jn8 f g := ⟨g, h, fun _ _ _ _ _ _ _ _ q => q⟩
def hp_lp8h (body : Int32 → Int32 → Int32 → Int32 → Int32 → Int32 → Int32 → Int32 → hp_H → (Int32 → Int32 → Int32 → Int32 → Int32 → Int32 → Int32 → Int32 → hp_H → Prop) → Prop) (a0 : Int32) (a1 : Int32) (a2 : Int32) (a3 : Int32) (a4 : Int32) (a5 : Int32) (a6 : Int32) (a7 : Int32) (h : hp_H) : Prop := ∀ P : Int32 → Int32 → Int32 → Int32 → Int32 → Int32 → Int32 → Int32 → hp_H → Prop, (∀ (a0 : Int32) (a1 : Int32) (a2 : Int32) (a3 : Int32) (a4 : Int32) (a5 : Int32) (a6 : Int32) (a7 : Int32) (h : hp_H), (∃ B : Int32 → Int32 → Int32 → Int32 → Int32 → Int32 → Int32 → Int32 → hp_H → Prop, body a0 a1 a2 a3 a4 a5 a6 a7 h B ∧ ∀ (b0 : Int32) (b1 : Int32) (b2 : Int32) (b3 : Int32) (b4 : Int32) (b5 : Int32) (b6 : Int32) (b7 : Int32) (g : hp_H), B b0 b1 b2 b3 b4 b5 b6 b7 g → P b0 b1 b2 b3 b4 b5 b6 b7 g) → P a0 a1 a2 a3 a4 a5 a6 a7 h) → P a0 a1 a2 a3 a4 a5 a6 a7 h
theorem hp_lp8h_ind {body : Int32 → Int32 → Int32 → Int32 → Int32 → Int32 → Int32 → Int32 → hp_H → (Int32 → Int32 → Int32 → Int32 → Int32 → Int32 → Int32 → Int32 → hp_H → Prop) → Prop} (I : Int32 → Int32 → Int32 → Int32 → Int32 → Int32 → Int32 → Int32 → hp_H → Prop) (μ : Int32 → Int32 → Int32 → Int32 → Int32 → Int32 → Int32 → Int32 → hp_H → Nat) (hs : ∀ (a0 : Int32) (a1 : Int32) (a2 : Int32) (a3 : Int32) (a4 : Int32) (a5 : Int32) (a6 : Int32) (a7 : Int32) (h : hp_H), I a0 a1 a2 a3 a4 a5 a6 a7 h → body a0 a1 a2 a3 a4 a5 a6 a7 h (fun b0 b1 b2 b3 b4 b5 b6 b7 g => I b0 b1 b2 b3 b4 b5 b6 b7 g ∧ μ b0 b1 b2 b3 b4 b5 b6 b7 g < μ a0 a1 a2 a3 a4 a5 a6 a7 h)) {a0 : Int32} {a1 : Int32} {a2 : Int32} {a3 : Int32} {a4 : Int32} {a5 : Int32} {a6 : Int32} {a7 : Int32} {h : hp_H} (h0 : I a0 a1 a2 a3 a4 a5 a6 a7 h) : hp_lp8h body a0 a1 a2 a3 a4 a5 a6 a7 h := by
  intro P hP
  have key : ∀ n : Nat, ∀ (a0 : Int32) (a1 : Int32) (a2 : Int32) (a3 : Int32) (a4 : Int32) (a5 : Int32) (a6 : Int32) (a7 : Int32) (h : hp_H), μ a0 a1 a2 a3 a4 a5 a6 a7 h < n → I a0 a1 a2 a3 a4 a5 a6 a7 h → P a0 a1 a2 a3 a4 a5 a6 a7 h := by
    intro n
    induction n with
    | zero => intro a0 a1 a2 a3 a4 a5 a6 a7 h h1; omega
    | succ n ih => exact fun a0 a1 a2 a3 a4 a5 a6 a7 h h1 h2 => hP a0 a1 a2 a3 a4 a5 a6 a7 h ⟨_, hs a0 a1 a2 a3 a4 a5 a6 a7 h h2, fun b0 b1 b2 b3 b4 b5 b6 b7 g hb => ih b0 b1 b2 b3 b4 b5 b6 b7 g (by omega) hb.1⟩
  exact key (μ a0 a1 a2 a3 a4 a5 a6 a7 h + 1) a0 a1 a2 a3 a4 a5 a6 a7 h (Nat.lt_succ_self _) h0
def hp_jn8h (f : (Int32 → Int32 → Int32 → Int32 → Int32 → Int32 → Int32 → Int32 → hp_H → Prop) → Prop) (g : Int32 → Int32 → Int32 → Int32 → Int32 → Int32 → Int32 → Int32 → hp_H → Prop) : Prop := ∃ K : Int32 → Int32 → Int32 → Int32 → Int32 → Int32 → Int32 → Int32 → hp_H → Prop, f K ∧ ∀ (a0 : Int32) (a1 : Int32) (a2 : Int32) (a3 : Int32) (a4 : Int32) (a5 : Int32) (a6 : Int32) (a7 : Int32) (h : hp_H), K a0 a1 a2 a3 a4 a5 a6 a7 h → g a0 a1 a2 a3 a4 a5 a6 a7 h
theorem hp_jn8h_i {f : (Int32 → Int32 → Int32 → Int32 → Int32 → Int32 → Int32 → Int32 → hp_H → Prop) → Prop} {g : Int32 → Int32 → Int32 → Int32 → Int32 → Int32 → Int32 → Int32 → hp_H → Prop} (h : f g) : hp_jn8h f g := ⟨g, h, fun _ _ _ _ _ _ _ _ _ q => q⟩
def hp_lp9 (body : Int32 → Int32 → Int32 → Int32 → Int32 → Int32 → Int32 → Int32 → Int32 → (Int32 → Int32 → Int32 → Int32 → Int32 → Int32 → Int32 → Int32 → Int32 → Prop) → Prop) (a0 : Int32) (a1 : Int32) (a2 : Int32) (a3 : Int32) (a4 : Int32) (a5 : Int32) (a6 : Int32) (a7 : Int32) (a8 : Int32) : Prop := ∀ P : Int32 → Int32 → Int32 → Int32 → Int32 → Int32 → Int32 → Int32 → Int32 → Prop, (∀ (a0 : Int32) (a1 : Int32) (a2 : Int32) (a3 : Int32) (a4 : Int32) (a5 : Int32) (a6 : Int32) (a7 : Int32) (a8 : Int32), (∃ B : Int32 → Int32 → Int32 → Int32 → Int32 → Int32 → Int32 → Int32 → Int32 → Prop, body a0 a1 a2 a3 a4 a5 a6 a7 a8 B ∧ ∀ (b0 : Int32) (b1 : Int32) (b2 : Int32) (b3 : Int32) (b4 : Int32) (b5 : Int32) (b6 : Int32) (b7 : Int32) (b8 : Int32), B b0 b1 b2 b3 b4 b5 b6 b7 b8 → P b0 b1 b2 b3 b4 b5 b6 b7 b8) → P a0 a1 a2 a3 a4 a5 a6 a7 a8) → P a0 a1 a2 a3 a4 a5 a6 a7 a8
theorem hp_lp9_ind {body : Int32 → Int32 → Int32 → Int32 → Int32 → Int32 → Int32 → Int32 → Int32 → (Int32 → Int32 → Int32 → Int32 → Int32 → Int32 → Int32 → Int32 → Int32 → Prop) → Prop} (I : Int32 → Int32 → Int32 → Int32 → Int32 → Int32 → Int32 → Int32 → Int32 → Prop) (μ : Int32 → Int32 → Int32 → Int32 → Int32 → Int32 → Int32 → Int32 → Int32 → Nat) (hs : ∀ (a0 : Int32) (a1 : Int32) (a2 : Int32) (a3 : Int32) (a4 : Int32) (a5 : Int32) (a6 : Int32) (a7 : Int32) (a8 : Int32), I a0 a1 a2 a3 a4 a5 a6 a7 a8 → body a0 a1 a2 a3 a4 a5 a6 a7 a8 (fun b0 b1 b2 b3 b4 b5 b6 b7 b8 => I b0 b1 b2 b3 b4 b5 b6 b7 b8 ∧ μ b0 b1 b2 b3 b4 b5 b6 b7 b8 < μ a0 a1 a2 a3 a4 a5 a6 a7 a8)) {a0 : Int32} {a1 : Int32} {a2 : Int32} {a3 : Int32} {a4 : Int32} {a5 : Int32} {a6 : Int32} {a7 : Int32} {a8 : Int32} (h0 : I a0 a1 a2 a3 a4 a5 a6 a7 a8) : hp_lp9 body a0 a1 a2 a3 a4 a5 a6 a7 a8 := by
  intro P hP
  have key : ∀ n : Nat, ∀ (a0 : Int32) (a1 : Int32) (a2 : Int32) (a3 : Int32) (a4 : Int32) (a5 : Int32) (a6 : Int32) (a7 : Int32) (a8 : Int32), μ a0 a1 a2 a3 a4 a5 a6 a7 a8 < n → I a0 a1 a2 a3 a4 a5 a6 a7 a8 → P a0 a1 a2 a3 a4 a5 a6 a7 a8 := by
    intro n
    induction n with
    | zero => intro a0 a1 a2 a3 a4 a5 a6 a7 a8 h1; omega
    | succ n ih => exact fun a0 a1 a2 a3 a4 a5 a6 a7 a8 h1 h2 => hP a0 a1 a2 a3 a4 a5 a6 a7 a8 ⟨_, hs a0 a1 a2 a3 a4 a5 a6 a7 a8 h2, fun b0 b1 b2 b3 b4 b5 b6 b7 b8 hb => ih b0 b1 b2 b3 b4 b5 b6 b7 b8 (by omega) hb.1⟩
  exact key (μ a0 a1 a2 a3 a4 a5 a6 a7 a8 + 1) a0 a1 a2 a3 a4 a5 a6 a7 a8 (Nat.lt_succ_self _) h0
def hp_jn9 (f : (Int32 → Int32 → Int32 → Int32 → Int32 → Int32 → Int32 → Int32 → Int32 → Prop) → Prop) (g : Int32 → Int32 → Int32 → Int32 → Int32 → Int32 → Int32 → Int32 → Int32 → Prop) : Prop := ∃ K : Int32 → Int32 → Int32 → Int32 → Int32 → Int32 → Int32 → Int32 → Int32 → Prop, f K ∧ ∀ (a0 : Int32) (a1 : Int32) (a2 : Int32) (a3 : Int32) (a4 : Int32) (a5 : Int32) (a6 : Int32) (a7 : Int32) (a8 : Int32), K a0 a1 a2 a3 a4 a5 a6 a7 a8 → g a0 a1 a2 a3 a4 a5 a6 a7 a8
theorem hp_jn9_i {f : (Int32 → Int32 → Int32 → Int32 → Int32 → Int32 → Int32 → Int32 → Int32 → Prop) → Prop} {g : Int32 → Int32 → Int32 → Int32 → Int32 → Int32 → Int32 → Int32 → Int32 → Prop} (h : f g) : hp_jn9 f g := ⟨g, h, fun _ _ _ _ _ _ _ _ _ q => q⟩
def hp_lp9h (body : Int32 → Int32 → Int32 → Int32 → Int32 → Int32 → Int32 → Int32 → Int32 → hp_H → (Int32 → Int32 → Int32 → Int32 → Int32 → Int32 → Int32 → Int32 → Int32 → hp_H → Prop) → Prop) (a0 : Int32) (a1 : Int32) (a2 : Int32) (a3 : Int32) (a4 : Int32) (a5 : Int32) (a6 : Int32) (a7 : Int32) (a8 : Int32) (h : hp_H) : Prop := ∀ P : Int32 → Int32 → Int32 → Int32 → Int32 → Int32 → Int32 → Int32 → Int32 → hp_H → Prop, (∀ (a0 : Int32) (a1 : Int32) (a2 : Int32) (a3 : Int32) (a4 : Int32) (a5 : Int32) (a6 : Int32) (a7 : Int32) (a8 : Int32) (h : hp_H), (∃ B : Int32 → Int32 → Int32 → Int32 → Int32 → Int32 → Int32 → Int32 → Int32 → hp_H → Prop, body a0 a1 a2 a3 a4 a5 a6 a7 a8 h B ∧ ∀ (b0 : Int32) (b1 : Int32) (b2 : Int32) (b3 : Int32) (b4 : Int32) (b5 : Int32) (b6 : Int32) (b7 : Int32) (b8 : Int32) (g : hp_H), B b0 b1 b2 b3 b4 b5 b6 b7 b8 g → P b0 b1 b2 b3 b4 b5 b6 b7 b8 g) → P a0 a1 a2 a3 a4 a5 a6 a7 a8 h) → P a0 a1 a2 a3 a4 a5 a6 a7 a8 h
theorem hp_lp9h_ind {body : Int32 → Int32 → Int32 → Int32 → Int32 → Int32 → Int32 → Int32 → Int32 → hp_H → (Int32 → Int32 → Int32 → Int32 → Int32 → Int32 → Int32 → Int32 → Int32 → hp_H → Prop) → Prop} (I : Int32 → Int32 → Int32 → Int32 → Int32 → Int32 → Int32 → Int32 → Int32 → hp_H → Prop) (μ : Int32 → Int32 → Int32 → Int32 → Int32 → Int32 → Int32 → Int32 → Int32 → hp_H → Nat) (hs : ∀ (a0 : Int32) (a1 : Int32) (a2 : Int32) (a3 : Int32) (a4 : Int32) (a5 : Int32) (a6 : Int32) (a7 : Int32) (a8 : Int32) (h : hp_H), I a0 a1 a2 a3 a4 a5 a6 a7 a8 h → body a0 a1 a2 a3 a4 a5 a6 a7 a8 h (fun b0 b1 b2 b3 b4 b5 b6 b7 b8 g => I b0 b1 b2 b3 b4 b5 b6 b7 b8 g ∧ μ b0 b1 b2 b3 b4 b5 b6 b7 b8 g < μ a0 a1 a2 a3 a4 a5 a6 a7 a8 h)) {a0 : Int32} {a1 : Int32} {a2 : Int32} {a3 : Int32} {a4 : Int32} {a5 : Int32} {a6 : Int32} {a7 : Int32} {a8 : Int32} {h : hp_H} (h0 : I a0 a1 a2 a3 a4 a5 a6 a7 a8 h) : hp_lp9h body a0 a1 a2 a3 a4 a5 a6 a7 a8 h := by
  intro P hP
  have key : ∀ n : Nat, ∀ (a0 : Int32) (a1 : Int32) (a2 : Int32) (a3 : Int32) (a4 : Int32) (a5 : Int32) (a6 : Int32) (a7 : Int32) (a8 : Int32) (h : hp_H), μ a0 a1 a2 a3 a4 a5 a6 a7 a8 h < n → I a0 a1 a2 a3 a4 a5 a6 a7 a8 h → P a0 a1 a2 a3 a4 a5 a6 a7 a8 h := by
    intro n
    induction n with
    | zero => intro a0 a1 a2 a3 a4 a5 a6 a7 a8 h h1; omega
    | succ n ih => exact fun a0 a1 a2 a3 a4 a5 a6 a7 a8 h h1 h2 => hP a0 a1 a2 a3 a4 a5 a6 a7 a8 h ⟨_, hs a0 a1 a2 a3 a4 a5 a6 a7 a8 h h2, fun b0 b1 b2 b3 b4 b5 b6 b7 b8 g hb => ih b0 b1 b2 b3 b4 b5 b6 b7 b8 g (by omega) hb.1⟩
  exact key (μ a0 a1 a2 a3 a4 a5 a6 a7 a8 h + 1) a0 a1 a2 a3 a4 a5 a6 a7 a8 h (Nat.lt_succ_self _) h0
def hp_jn9h (f : (Int32 → Int32 → Int32 → Int32 → Int32 → Int32 → Int32 → Int32 → Int32 → hp_H → Prop) → Prop) (g : Int32 → Int32 → Int32 → Int32 → Int32 → Int32 → Int32 → Int32 → Int32 → hp_H → Prop) : Prop := ∃ K : Int32 → Int32 → Int32 → Int32 → Int32 → Int32 → Int32 → Int32 → Int32 → hp_H → Prop, f K ∧ ∀ (a0 : Int32) (a1 : Int32) (a2 : Int32) (a3 : Int32) (a4 : Int32) (a5 : Int32) (a6 : Int32) (a7 : Int32) (a8 : Int32) (h : hp_H), K a0 a1 a2 a3 a4 a5 a6 a7 a8 h → g a0 a1 a2 a3 a4 a5 a6 a7 a8 h
theorem hp_jn9h_i {f : (Int32 → Int32 → Int32 → Int32 → Int32 → Int32 → Int32 → Int32 → Int32 → hp_H → Prop) → Prop} {g : Int32 → Int32 → Int32 → Int32 → Int32 → Int32 → Int32 → Int32 → Int32 → hp_H → Prop} (h : f g) : hp_jn9h f g := ⟨g, h, fun _ _ _ _ _ _ _ _ _ _ q => q⟩
end
section
/-! ===== the two worlds, once they are made; what the tables say, by places ===== -/
def SB : List hp_S := [.inl (11, [(1, 1, 0), (1, 35, 0), (1, 44, 0), (1, 50, 0), (1, 53, 0), (1, 64, 0)]), .inl (4, [(1, 2, 0), (1, 7, 0), (1, 12, 0), (1, 15, 0), (1, 23, 0), (1, 32, 0), (1, 33, 0), (1, 34, 0), (0, 0, 0), (0, 0, 0)]), .inl (10, [(1, 3, 0), (0, 0, 0), (1, 4, 0), (1, 5, 0), (1, 6, 0)]), .inr (0, 1), .inr (0, 6), .inr (0, 6), .inr (0, 6), .inl (10, [(1, 8, 0), (0, 0, 0), (1, 9, 0), (1, 10, 0), (1, 11, 0)]), .inr (0, 3), .inr (0, 9), .inr (0, 9), .inr (0, 9), .inl (6, [(1, 13, 0), (0, 0, 0), (1, 14, 0)]), .inr (0, 3), .inr (0, 3), .inl (1, [(1, 16, 0), (0, 0, 0), (1, 12, 0), (1, 17, 0), (1, 18, 0), (1, 19, 0), (1, 20, 0), (1, 21, 0), (1, 22, 0), (0, 0, 0)]), .inr (0, 80), .inr (0, 80), .inr (0, 80), .inr (0, 80), .inr (0, 80), .inr (0, 80), .inr (2, 80), .inl (9, [(1, 24, 0), (1, 25, 0), (1, 26, 0), (1, 27, 0), (1, 28, 0), (1, 29, 0), (1, 30, 0), (1, 31, 0), (0, 0, 0)]), .inr (0, 24), .inr (0, 24), .inr (0, 24), .inr (0, 24), .inr (0, 24), .inr (0, 96), .inr (0, 96), .inr (0, 96), .inr (0, 3), .inr (2, 3), .inr (2, 3), .inl (2, [(0, 0, 0), (0, 0, 0), (0, 0, 0), (0, 0, 0), (0, 0, 0), (0, 0, 0), (0, 0, 0), (0, 0, 0), (1, 36, 0), (1, 37, 0), (1, 38, 0), (1, 39, 0), (1, 40, 0), (1, 41, 0), (1, 42, 0), (1, 43, 0)]), .inr (0, 401), .inr (0, 6000), .inr (0, 400), .inr (0, 400), .inr (0, 400), .inr (0, 6000), .inr (0, 5200), .inr (0, 1024), .inl (8, [(1, 1, 0), (1, 35, 0), (1, 45, 0), (1, 47, 0), (1, 49, 0)]), .inl (7, [(1, 46, 0)]), .inr (0, 13), .inl (7, [(1, 48, 0)]), .inr (0, 13), .inr (0, 4), .inl (5, [(1, 1, 0), (1, 35, 0), (1, 51, 0)]), .inl (7, [(1, 52, 0)]), .inr (0, 13), .inl (3, [(1, 1, 0), (1, 35, 0), (1, 50, 0), (1, 54, 0), (1, 55, 0), (1, 56, 0), (1, 57, 0), (1, 58, 0), (1, 59, 0), (1, 60, 0), (1, 61, 0), (1, 62, 0), (1, 63, 0), (0, 0, 0), (0, 0, 0), (0, 0, 0), (0, 0, 0), (0, 0, 0), (0, 0, 0), (0, 0, 0)]), .inr (2, 400), .inr (2, 400), .inr (2, 400), .inr (2, 400), .inr (0, 400), .inr (0, 400), .inr (0, 400), .inr (0, 400), .inr (0, 400), .inr (0, 400), .inl (0, [(0, 0, 0), (0, 0, 0), (2, 65, 0), (1, 35, 0), (1, 50, 0), (1, 66, 0), (1, 67, 0), (2, 65, 1), (1, 69, 0), (1, 70, 0), (1, 71, 0), (0, 0, 0)]), .inr (0, 400), .inr (0, 8), .inr (0, 5200), .inr (0, 400), .inr (0, 400), .inr (0, 400), .inr (0, 400)]
theorem fB_0_0 : hp_sh SB 0 11 0 (1, 1, 0) := ⟨_, rfl, rfl⟩
theorem fB_0_1 : hp_sh SB 0 11 1 (1, 35, 0) := ⟨_, rfl, rfl⟩
theorem fB_0_2 : hp_sh SB 0 11 2 (1, 44, 0) := ⟨_, rfl, rfl⟩
theorem fB_0_3 : hp_sh SB 0 11 3 (1, 50, 0) := ⟨_, rfl, rfl⟩
theorem fB_0_4 : hp_sh SB 0 11 4 (1, 53, 0) := ⟨_, rfl, rfl⟩
theorem fB_0_5 : hp_sh SB 0 11 5 (1, 64, 0) := ⟨_, rfl, rfl⟩
theorem fB_1_0 : hp_sh SB 1 4 0 (1, 2, 0) := ⟨_, rfl, rfl⟩
theorem fB_1_1 : hp_sh SB 1 4 1 (1, 7, 0) := ⟨_, rfl, rfl⟩
theorem fB_1_2 : hp_sh SB 1 4 2 (1, 12, 0) := ⟨_, rfl, rfl⟩
theorem fB_1_3 : hp_sh SB 1 4 3 (1, 15, 0) := ⟨_, rfl, rfl⟩
theorem fB_1_4 : hp_sh SB 1 4 4 (1, 23, 0) := ⟨_, rfl, rfl⟩
theorem fB_1_5 : hp_sh SB 1 4 5 (1, 32, 0) := ⟨_, rfl, rfl⟩
theorem fB_1_6 : hp_sh SB 1 4 6 (1, 33, 0) := ⟨_, rfl, rfl⟩
theorem fB_1_7 : hp_sh SB 1 4 7 (1, 34, 0) := ⟨_, rfl, rfl⟩
theorem fB_1_8 : hp_sh SB 1 4 8 (0, 0, 0) := ⟨_, rfl, rfl⟩
theorem fB_1_9 : hp_sh SB 1 4 9 (0, 0, 0) := ⟨_, rfl, rfl⟩
theorem fB_2_0 : hp_sh SB 2 10 0 (1, 3, 0) := ⟨_, rfl, rfl⟩
theorem fB_2_1 : hp_sh SB 2 10 1 (0, 0, 0) := ⟨_, rfl, rfl⟩
theorem fB_2_2 : hp_sh SB 2 10 2 (1, 4, 0) := ⟨_, rfl, rfl⟩
theorem fB_2_3 : hp_sh SB 2 10 3 (1, 5, 0) := ⟨_, rfl, rfl⟩
theorem fB_2_4 : hp_sh SB 2 10 4 (1, 6, 0) := ⟨_, rfl, rfl⟩
theorem aB_3 : SB[3]? = some (.inr (0, 1)) := rfl
theorem zB_3 : 3 ≠ hp_V := by decide
theorem aB_4 : SB[4]? = some (.inr (0, 6)) := rfl
theorem zB_4 : 4 ≠ hp_V := by decide
theorem aB_5 : SB[5]? = some (.inr (0, 6)) := rfl
theorem zB_5 : 5 ≠ hp_V := by decide
theorem aB_6 : SB[6]? = some (.inr (0, 6)) := rfl
theorem zB_6 : 6 ≠ hp_V := by decide
theorem fB_7_0 : hp_sh SB 7 10 0 (1, 8, 0) := ⟨_, rfl, rfl⟩
theorem fB_7_1 : hp_sh SB 7 10 1 (0, 0, 0) := ⟨_, rfl, rfl⟩
theorem fB_7_2 : hp_sh SB 7 10 2 (1, 9, 0) := ⟨_, rfl, rfl⟩
theorem fB_7_3 : hp_sh SB 7 10 3 (1, 10, 0) := ⟨_, rfl, rfl⟩
theorem fB_7_4 : hp_sh SB 7 10 4 (1, 11, 0) := ⟨_, rfl, rfl⟩
theorem aB_8 : SB[8]? = some (.inr (0, 3)) := rfl
theorem zB_8 : 8 ≠ hp_V := by decide
theorem aB_9 : SB[9]? = some (.inr (0, 9)) := rfl
theorem zB_9 : 9 ≠ hp_V := by decide
theorem aB_10 : SB[10]? = some (.inr (0, 9)) := rfl
theorem zB_10 : 10 ≠ hp_V := by decide
theorem aB_11 : SB[11]? = some (.inr (0, 9)) := rfl
theorem zB_11 : 11 ≠ hp_V := by decide
theorem fB_12_0 : hp_sh SB 12 6 0 (1, 13, 0) := ⟨_, rfl, rfl⟩
theorem fB_12_1 : hp_sh SB 12 6 1 (0, 0, 0) := ⟨_, rfl, rfl⟩
theorem fB_12_2 : hp_sh SB 12 6 2 (1, 14, 0) := ⟨_, rfl, rfl⟩
theorem aB_13 : SB[13]? = some (.inr (0, 3)) := rfl
theorem zB_13 : 13 ≠ hp_V := by decide
theorem aB_14 : SB[14]? = some (.inr (0, 3)) := rfl
theorem zB_14 : 14 ≠ hp_V := by decide
theorem fB_15_0 : hp_sh SB 15 1 0 (1, 16, 0) := ⟨_, rfl, rfl⟩
theorem fB_15_1 : hp_sh SB 15 1 1 (0, 0, 0) := ⟨_, rfl, rfl⟩
theorem fB_15_2 : hp_sh SB 15 1 2 (1, 12, 0) := ⟨_, rfl, rfl⟩
theorem fB_15_3 : hp_sh SB 15 1 3 (1, 17, 0) := ⟨_, rfl, rfl⟩
theorem fB_15_4 : hp_sh SB 15 1 4 (1, 18, 0) := ⟨_, rfl, rfl⟩
theorem fB_15_5 : hp_sh SB 15 1 5 (1, 19, 0) := ⟨_, rfl, rfl⟩
theorem fB_15_6 : hp_sh SB 15 1 6 (1, 20, 0) := ⟨_, rfl, rfl⟩
theorem fB_15_7 : hp_sh SB 15 1 7 (1, 21, 0) := ⟨_, rfl, rfl⟩
theorem fB_15_8 : hp_sh SB 15 1 8 (1, 22, 0) := ⟨_, rfl, rfl⟩
theorem fB_15_9 : hp_sh SB 15 1 9 (0, 0, 0) := ⟨_, rfl, rfl⟩
theorem aB_16 : SB[16]? = some (.inr (0, 80)) := rfl
theorem zB_16 : 16 ≠ hp_V := by decide
theorem aB_17 : SB[17]? = some (.inr (0, 80)) := rfl
theorem zB_17 : 17 ≠ hp_V := by decide
theorem aB_18 : SB[18]? = some (.inr (0, 80)) := rfl
theorem zB_18 : 18 ≠ hp_V := by decide
theorem aB_19 : SB[19]? = some (.inr (0, 80)) := rfl
theorem zB_19 : 19 ≠ hp_V := by decide
theorem aB_20 : SB[20]? = some (.inr (0, 80)) := rfl
theorem zB_20 : 20 ≠ hp_V := by decide
theorem aB_21 : SB[21]? = some (.inr (0, 80)) := rfl
theorem zB_21 : 21 ≠ hp_V := by decide
theorem aB_22 : SB[22]? = some (.inr (2, 80)) := rfl
theorem zB_22 : 22 ≠ hp_V := by decide
theorem fB_23_0 : hp_sh SB 23 9 0 (1, 24, 0) := ⟨_, rfl, rfl⟩
theorem fB_23_1 : hp_sh SB 23 9 1 (1, 25, 0) := ⟨_, rfl, rfl⟩
theorem fB_23_2 : hp_sh SB 23 9 2 (1, 26, 0) := ⟨_, rfl, rfl⟩
theorem fB_23_3 : hp_sh SB 23 9 3 (1, 27, 0) := ⟨_, rfl, rfl⟩
theorem fB_23_4 : hp_sh SB 23 9 4 (1, 28, 0) := ⟨_, rfl, rfl⟩
theorem fB_23_5 : hp_sh SB 23 9 5 (1, 29, 0) := ⟨_, rfl, rfl⟩
theorem fB_23_6 : hp_sh SB 23 9 6 (1, 30, 0) := ⟨_, rfl, rfl⟩
theorem fB_23_7 : hp_sh SB 23 9 7 (1, 31, 0) := ⟨_, rfl, rfl⟩
theorem fB_23_8 : hp_sh SB 23 9 8 (0, 0, 0) := ⟨_, rfl, rfl⟩
theorem aB_24 : SB[24]? = some (.inr (0, 24)) := rfl
theorem zB_24 : 24 ≠ hp_V := by decide
theorem aB_25 : SB[25]? = some (.inr (0, 24)) := rfl
theorem zB_25 : 25 ≠ hp_V := by decide
theorem aB_26 : SB[26]? = some (.inr (0, 24)) := rfl
theorem zB_26 : 26 ≠ hp_V := by decide
theorem aB_27 : SB[27]? = some (.inr (0, 24)) := rfl
theorem zB_27 : 27 ≠ hp_V := by decide
theorem aB_28 : SB[28]? = some (.inr (0, 24)) := rfl
theorem zB_28 : 28 ≠ hp_V := by decide
theorem aB_29 : SB[29]? = some (.inr (0, 96)) := rfl
theorem zB_29 : 29 ≠ hp_V := by decide
theorem aB_30 : SB[30]? = some (.inr (0, 96)) := rfl
theorem zB_30 : 30 ≠ hp_V := by decide
theorem aB_31 : SB[31]? = some (.inr (0, 96)) := rfl
theorem zB_31 : 31 ≠ hp_V := by decide
theorem aB_32 : SB[32]? = some (.inr (0, 3)) := rfl
theorem zB_32 : 32 ≠ hp_V := by decide
theorem aB_33 : SB[33]? = some (.inr (2, 3)) := rfl
theorem zB_33 : 33 ≠ hp_V := by decide
theorem aB_34 : SB[34]? = some (.inr (2, 3)) := rfl
theorem zB_34 : 34 ≠ hp_V := by decide
theorem fB_35_0 : hp_sh SB 35 2 0 (0, 0, 0) := ⟨_, rfl, rfl⟩
theorem fB_35_1 : hp_sh SB 35 2 1 (0, 0, 0) := ⟨_, rfl, rfl⟩
theorem fB_35_2 : hp_sh SB 35 2 2 (0, 0, 0) := ⟨_, rfl, rfl⟩
theorem fB_35_3 : hp_sh SB 35 2 3 (0, 0, 0) := ⟨_, rfl, rfl⟩
theorem fB_35_4 : hp_sh SB 35 2 4 (0, 0, 0) := ⟨_, rfl, rfl⟩
theorem fB_35_5 : hp_sh SB 35 2 5 (0, 0, 0) := ⟨_, rfl, rfl⟩
theorem fB_35_6 : hp_sh SB 35 2 6 (0, 0, 0) := ⟨_, rfl, rfl⟩
theorem fB_35_7 : hp_sh SB 35 2 7 (0, 0, 0) := ⟨_, rfl, rfl⟩
theorem fB_35_8 : hp_sh SB 35 2 8 (1, 36, 0) := ⟨_, rfl, rfl⟩
theorem fB_35_9 : hp_sh SB 35 2 9 (1, 37, 0) := ⟨_, rfl, rfl⟩
theorem fB_35_10 : hp_sh SB 35 2 10 (1, 38, 0) := ⟨_, rfl, rfl⟩
theorem fB_35_11 : hp_sh SB 35 2 11 (1, 39, 0) := ⟨_, rfl, rfl⟩
theorem fB_35_12 : hp_sh SB 35 2 12 (1, 40, 0) := ⟨_, rfl, rfl⟩
theorem fB_35_13 : hp_sh SB 35 2 13 (1, 41, 0) := ⟨_, rfl, rfl⟩
theorem fB_35_14 : hp_sh SB 35 2 14 (1, 42, 0) := ⟨_, rfl, rfl⟩
theorem fB_35_15 : hp_sh SB 35 2 15 (1, 43, 0) := ⟨_, rfl, rfl⟩
theorem aB_36 : SB[36]? = some (.inr (0, 401)) := rfl
theorem zB_36 : 36 ≠ hp_V := by decide
theorem aB_37 : SB[37]? = some (.inr (0, 6000)) := rfl
theorem zB_37 : 37 ≠ hp_V := by decide
theorem aB_38 : SB[38]? = some (.inr (0, 400)) := rfl
theorem zB_38 : 38 ≠ hp_V := by decide
theorem aB_39 : SB[39]? = some (.inr (0, 400)) := rfl
theorem zB_39 : 39 ≠ hp_V := by decide
theorem aB_40 : SB[40]? = some (.inr (0, 400)) := rfl
theorem zB_40 : 40 ≠ hp_V := by decide
theorem aB_41 : SB[41]? = some (.inr (0, 6000)) := rfl
theorem zB_41 : 41 ≠ hp_V := by decide
theorem aB_42 : SB[42]? = some (.inr (0, 5200)) := rfl
theorem zB_42 : 42 ≠ hp_V := by decide
theorem aB_43 : SB[43]? = some (.inr (0, 1024)) := rfl
theorem zB_43 : 43 ≠ hp_V := by decide
theorem fB_44_0 : hp_sh SB 44 8 0 (1, 1, 0) := ⟨_, rfl, rfl⟩
theorem fB_44_1 : hp_sh SB 44 8 1 (1, 35, 0) := ⟨_, rfl, rfl⟩
theorem fB_44_2 : hp_sh SB 44 8 2 (1, 45, 0) := ⟨_, rfl, rfl⟩
theorem fB_44_3 : hp_sh SB 44 8 3 (1, 47, 0) := ⟨_, rfl, rfl⟩
theorem fB_44_4 : hp_sh SB 44 8 4 (1, 49, 0) := ⟨_, rfl, rfl⟩
theorem fB_45_0 : hp_sh SB 45 7 0 (1, 46, 0) := ⟨_, rfl, rfl⟩
theorem aB_46 : SB[46]? = some (.inr (0, 13)) := rfl
theorem zB_46 : 46 ≠ hp_V := by decide
theorem fB_47_0 : hp_sh SB 47 7 0 (1, 48, 0) := ⟨_, rfl, rfl⟩
theorem aB_48 : SB[48]? = some (.inr (0, 13)) := rfl
theorem zB_48 : 48 ≠ hp_V := by decide
theorem aB_49 : SB[49]? = some (.inr (0, 4)) := rfl
theorem zB_49 : 49 ≠ hp_V := by decide
theorem fB_50_0 : hp_sh SB 50 5 0 (1, 1, 0) := ⟨_, rfl, rfl⟩
theorem fB_50_1 : hp_sh SB 50 5 1 (1, 35, 0) := ⟨_, rfl, rfl⟩
theorem fB_50_2 : hp_sh SB 50 5 2 (1, 51, 0) := ⟨_, rfl, rfl⟩
theorem fB_51_0 : hp_sh SB 51 7 0 (1, 52, 0) := ⟨_, rfl, rfl⟩
theorem aB_52 : SB[52]? = some (.inr (0, 13)) := rfl
theorem zB_52 : 52 ≠ hp_V := by decide
theorem fB_53_0 : hp_sh SB 53 3 0 (1, 1, 0) := ⟨_, rfl, rfl⟩
theorem fB_53_1 : hp_sh SB 53 3 1 (1, 35, 0) := ⟨_, rfl, rfl⟩
theorem fB_53_2 : hp_sh SB 53 3 2 (1, 50, 0) := ⟨_, rfl, rfl⟩
theorem fB_53_3 : hp_sh SB 53 3 3 (1, 54, 0) := ⟨_, rfl, rfl⟩
theorem fB_53_4 : hp_sh SB 53 3 4 (1, 55, 0) := ⟨_, rfl, rfl⟩
theorem fB_53_5 : hp_sh SB 53 3 5 (1, 56, 0) := ⟨_, rfl, rfl⟩
theorem fB_53_6 : hp_sh SB 53 3 6 (1, 57, 0) := ⟨_, rfl, rfl⟩
theorem fB_53_7 : hp_sh SB 53 3 7 (1, 58, 0) := ⟨_, rfl, rfl⟩
theorem fB_53_8 : hp_sh SB 53 3 8 (1, 59, 0) := ⟨_, rfl, rfl⟩
theorem fB_53_9 : hp_sh SB 53 3 9 (1, 60, 0) := ⟨_, rfl, rfl⟩
theorem fB_53_10 : hp_sh SB 53 3 10 (1, 61, 0) := ⟨_, rfl, rfl⟩
theorem fB_53_11 : hp_sh SB 53 3 11 (1, 62, 0) := ⟨_, rfl, rfl⟩
theorem fB_53_12 : hp_sh SB 53 3 12 (1, 63, 0) := ⟨_, rfl, rfl⟩
theorem fB_53_13 : hp_sh SB 53 3 13 (0, 0, 0) := ⟨_, rfl, rfl⟩
theorem fB_53_14 : hp_sh SB 53 3 14 (0, 0, 0) := ⟨_, rfl, rfl⟩
theorem fB_53_15 : hp_sh SB 53 3 15 (0, 0, 0) := ⟨_, rfl, rfl⟩
theorem fB_53_16 : hp_sh SB 53 3 16 (0, 0, 0) := ⟨_, rfl, rfl⟩
theorem fB_53_17 : hp_sh SB 53 3 17 (0, 0, 0) := ⟨_, rfl, rfl⟩
theorem fB_53_18 : hp_sh SB 53 3 18 (0, 0, 0) := ⟨_, rfl, rfl⟩
theorem fB_53_19 : hp_sh SB 53 3 19 (0, 0, 0) := ⟨_, rfl, rfl⟩
theorem aB_54 : SB[54]? = some (.inr (2, 400)) := rfl
theorem zB_54 : 54 ≠ hp_V := by decide
theorem aB_55 : SB[55]? = some (.inr (2, 400)) := rfl
theorem zB_55 : 55 ≠ hp_V := by decide
theorem aB_56 : SB[56]? = some (.inr (2, 400)) := rfl
theorem zB_56 : 56 ≠ hp_V := by decide
theorem aB_57 : SB[57]? = some (.inr (2, 400)) := rfl
theorem zB_57 : 57 ≠ hp_V := by decide
theorem aB_58 : SB[58]? = some (.inr (0, 400)) := rfl
theorem zB_58 : 58 ≠ hp_V := by decide
theorem aB_59 : SB[59]? = some (.inr (0, 400)) := rfl
theorem zB_59 : 59 ≠ hp_V := by decide
theorem aB_60 : SB[60]? = some (.inr (0, 400)) := rfl
theorem zB_60 : 60 ≠ hp_V := by decide
theorem aB_61 : SB[61]? = some (.inr (0, 400)) := rfl
theorem zB_61 : 61 ≠ hp_V := by decide
theorem aB_62 : SB[62]? = some (.inr (0, 400)) := rfl
theorem zB_62 : 62 ≠ hp_V := by decide
theorem aB_63 : SB[63]? = some (.inr (0, 400)) := rfl
theorem zB_63 : 63 ≠ hp_V := by decide
theorem fB_64_0 : hp_sh SB 64 0 0 (0, 0, 0) := ⟨_, rfl, rfl⟩
theorem fB_64_1 : hp_sh SB 64 0 1 (0, 0, 0) := ⟨_, rfl, rfl⟩
theorem fB_64_2 : hp_sh SB 64 0 2 (2, 65, 0) := ⟨_, rfl, rfl⟩
theorem fB_64_3 : hp_sh SB 64 0 3 (1, 35, 0) := ⟨_, rfl, rfl⟩
theorem fB_64_4 : hp_sh SB 64 0 4 (1, 50, 0) := ⟨_, rfl, rfl⟩
theorem fB_64_5 : hp_sh SB 64 0 5 (1, 66, 0) := ⟨_, rfl, rfl⟩
theorem fB_64_6 : hp_sh SB 64 0 6 (1, 67, 0) := ⟨_, rfl, rfl⟩
theorem fB_64_7 : hp_sh SB 64 0 7 (2, 65, 1) := ⟨_, rfl, rfl⟩
theorem fB_64_8 : hp_sh SB 64 0 8 (1, 69, 0) := ⟨_, rfl, rfl⟩
theorem fB_64_9 : hp_sh SB 64 0 9 (1, 70, 0) := ⟨_, rfl, rfl⟩
theorem fB_64_10 : hp_sh SB 64 0 10 (1, 71, 0) := ⟨_, rfl, rfl⟩
theorem fB_64_11 : hp_sh SB 64 0 11 (0, 0, 0) := ⟨_, rfl, rfl⟩
theorem aB_65 : SB[65]? = some (.inr (0, 400)) := rfl
theorem zB_65 : 65 ≠ hp_V := by decide
theorem aB_66 : SB[66]? = some (.inr (0, 8)) := rfl
theorem zB_66 : 66 ≠ hp_V := by decide
theorem aB_67 : SB[67]? = some (.inr (0, 5200)) := rfl
theorem zB_67 : 67 ≠ hp_V := by decide
theorem aB_68 : SB[68]? = some (.inr (0, 400)) := rfl
theorem zB_68 : 68 ≠ hp_V := by decide
theorem aB_69 : SB[69]? = some (.inr (0, 400)) := rfl
theorem zB_69 : 69 ≠ hp_V := by decide
theorem aB_70 : SB[70]? = some (.inr (0, 400)) := rfl
theorem zB_70 : 70 ≠ hp_V := by decide
theorem aB_71 : SB[71]? = some (.inr (0, 400)) := rfl
theorem zB_71 : 71 ≠ hp_V := by decide
def SM : List hp_S := [.inl (12, [(0, 0, 0), (1, 1, 0), (1, 2, 0), (1, 3, 0), (0, 0, 0), (1, 4, 0), (1, 5, 0), (1, 6, 0), (1, 7, 0), (1, 8, 0), (1, 9, 0), (0, 0, 0), (1, 10, 0), (1, 11, 0), (1, 12, 0), (0, 0, 0), (1, 13, 0), (1, 14, 0), (1, 15, 0), (1, 16, 0), (1, 17, 0), (0, 0, 0), (1, 18, 0), (1, 19, 0), (1, 20, 0), (1, 21, 0), (1, 22, 0), (1, 23, 0), (1, 24, 0), (1, 25, 0), (0, 0, 0), (0, 0, 0), (1, 26, 0), (0, 0, 0), (0, 0, 0), (0, 0, 0), (1, 27, 0), (1, 28, 0), (1, 29, 0), (1, 30, 0), (0, 0, 0), (1, 31, 0), (1, 32, 0), (1, 33, 0), (1, 34, 0), (1, 35, 0), (0, 0, 0), (0, 0, 0), (0, 0, 0), (0, 0, 0), (0, 0, 0), (1, 36, 0), (1, 37, 0), (1, 38, 0), (1, 39, 0), (1, 40, 0), (1, 41, 0), (1, 42, 0), (1, 43, 0), (1, 44, 0), (1, 45, 0), (1, 46, 0), (1, 47, 0), (1, 48, 0)]), .inr (0, 6), .inr (0, 6), .inr (0, 6), .inr (0, 3), .inr (0, 3), .inr (0, 9), .inr (0, 9), .inr (0, 9), .inr (2, 30), .inr (0, 3), .inr (2, 3), .inr (2, 3), .inr (0, 80), .inr (0, 80), .inr (0, 80), .inr (0, 80), .inr (2, 80), .inr (0, 24), .inr (0, 24), .inr (0, 24), .inr (0, 24), .inr (0, 24), .inr (0, 96), .inr (0, 96), .inr (0, 96), .inr (0, 8), .inr (0, 21600), .inr (0, 400), .inr (0, 400), .inr (0, 400), .inr (0, 401), .inr (0, 6000), .inr (0, 6000), .inr (0, 6000), .inr (0, 6000), .inr (0, 54), .inr (0, 80), .inr (0, 4), .inr (2, 80), .inr (2, 400), .inr (2, 400), .inr (2, 400), .inr (2, 400), .inr (2, 400), .inr (0, 400), .inr (0, 400), .inr (1, 2800), .inr (0, 3200)]
theorem fM_0_0 : hp_sh SM 0 12 0 (0, 0, 0) := ⟨_, rfl, rfl⟩
theorem fM_0_1 : hp_sh SM 0 12 1 (1, 1, 0) := ⟨_, rfl, rfl⟩
theorem fM_0_2 : hp_sh SM 0 12 2 (1, 2, 0) := ⟨_, rfl, rfl⟩
theorem fM_0_3 : hp_sh SM 0 12 3 (1, 3, 0) := ⟨_, rfl, rfl⟩
theorem fM_0_4 : hp_sh SM 0 12 4 (0, 0, 0) := ⟨_, rfl, rfl⟩
theorem fM_0_5 : hp_sh SM 0 12 5 (1, 4, 0) := ⟨_, rfl, rfl⟩
theorem fM_0_6 : hp_sh SM 0 12 6 (1, 5, 0) := ⟨_, rfl, rfl⟩
theorem fM_0_7 : hp_sh SM 0 12 7 (1, 6, 0) := ⟨_, rfl, rfl⟩
theorem fM_0_8 : hp_sh SM 0 12 8 (1, 7, 0) := ⟨_, rfl, rfl⟩
theorem fM_0_9 : hp_sh SM 0 12 9 (1, 8, 0) := ⟨_, rfl, rfl⟩
theorem fM_0_10 : hp_sh SM 0 12 10 (1, 9, 0) := ⟨_, rfl, rfl⟩
theorem fM_0_11 : hp_sh SM 0 12 11 (0, 0, 0) := ⟨_, rfl, rfl⟩
theorem fM_0_12 : hp_sh SM 0 12 12 (1, 10, 0) := ⟨_, rfl, rfl⟩
theorem fM_0_13 : hp_sh SM 0 12 13 (1, 11, 0) := ⟨_, rfl, rfl⟩
theorem fM_0_14 : hp_sh SM 0 12 14 (1, 12, 0) := ⟨_, rfl, rfl⟩
theorem fM_0_15 : hp_sh SM 0 12 15 (0, 0, 0) := ⟨_, rfl, rfl⟩
theorem fM_0_16 : hp_sh SM 0 12 16 (1, 13, 0) := ⟨_, rfl, rfl⟩
theorem fM_0_17 : hp_sh SM 0 12 17 (1, 14, 0) := ⟨_, rfl, rfl⟩
theorem fM_0_18 : hp_sh SM 0 12 18 (1, 15, 0) := ⟨_, rfl, rfl⟩
theorem fM_0_19 : hp_sh SM 0 12 19 (1, 16, 0) := ⟨_, rfl, rfl⟩
theorem fM_0_20 : hp_sh SM 0 12 20 (1, 17, 0) := ⟨_, rfl, rfl⟩
theorem fM_0_21 : hp_sh SM 0 12 21 (0, 0, 0) := ⟨_, rfl, rfl⟩
theorem fM_0_22 : hp_sh SM 0 12 22 (1, 18, 0) := ⟨_, rfl, rfl⟩
theorem fM_0_23 : hp_sh SM 0 12 23 (1, 19, 0) := ⟨_, rfl, rfl⟩
theorem fM_0_24 : hp_sh SM 0 12 24 (1, 20, 0) := ⟨_, rfl, rfl⟩
theorem fM_0_25 : hp_sh SM 0 12 25 (1, 21, 0) := ⟨_, rfl, rfl⟩
theorem fM_0_26 : hp_sh SM 0 12 26 (1, 22, 0) := ⟨_, rfl, rfl⟩
theorem fM_0_27 : hp_sh SM 0 12 27 (1, 23, 0) := ⟨_, rfl, rfl⟩
theorem fM_0_28 : hp_sh SM 0 12 28 (1, 24, 0) := ⟨_, rfl, rfl⟩
theorem fM_0_29 : hp_sh SM 0 12 29 (1, 25, 0) := ⟨_, rfl, rfl⟩
theorem fM_0_30 : hp_sh SM 0 12 30 (0, 0, 0) := ⟨_, rfl, rfl⟩
theorem fM_0_31 : hp_sh SM 0 12 31 (0, 0, 0) := ⟨_, rfl, rfl⟩
theorem fM_0_32 : hp_sh SM 0 12 32 (1, 26, 0) := ⟨_, rfl, rfl⟩
theorem fM_0_33 : hp_sh SM 0 12 33 (0, 0, 0) := ⟨_, rfl, rfl⟩
theorem fM_0_34 : hp_sh SM 0 12 34 (0, 0, 0) := ⟨_, rfl, rfl⟩
theorem fM_0_35 : hp_sh SM 0 12 35 (0, 0, 0) := ⟨_, rfl, rfl⟩
theorem fM_0_36 : hp_sh SM 0 12 36 (1, 27, 0) := ⟨_, rfl, rfl⟩
theorem fM_0_37 : hp_sh SM 0 12 37 (1, 28, 0) := ⟨_, rfl, rfl⟩
theorem fM_0_38 : hp_sh SM 0 12 38 (1, 29, 0) := ⟨_, rfl, rfl⟩
theorem fM_0_39 : hp_sh SM 0 12 39 (1, 30, 0) := ⟨_, rfl, rfl⟩
theorem fM_0_40 : hp_sh SM 0 12 40 (0, 0, 0) := ⟨_, rfl, rfl⟩
theorem fM_0_41 : hp_sh SM 0 12 41 (1, 31, 0) := ⟨_, rfl, rfl⟩
theorem fM_0_42 : hp_sh SM 0 12 42 (1, 32, 0) := ⟨_, rfl, rfl⟩
theorem fM_0_43 : hp_sh SM 0 12 43 (1, 33, 0) := ⟨_, rfl, rfl⟩
theorem fM_0_44 : hp_sh SM 0 12 44 (1, 34, 0) := ⟨_, rfl, rfl⟩
theorem fM_0_45 : hp_sh SM 0 12 45 (1, 35, 0) := ⟨_, rfl, rfl⟩
theorem fM_0_46 : hp_sh SM 0 12 46 (0, 0, 0) := ⟨_, rfl, rfl⟩
theorem fM_0_47 : hp_sh SM 0 12 47 (0, 0, 0) := ⟨_, rfl, rfl⟩
theorem fM_0_48 : hp_sh SM 0 12 48 (0, 0, 0) := ⟨_, rfl, rfl⟩
theorem fM_0_49 : hp_sh SM 0 12 49 (0, 0, 0) := ⟨_, rfl, rfl⟩
theorem fM_0_50 : hp_sh SM 0 12 50 (0, 0, 0) := ⟨_, rfl, rfl⟩
theorem fM_0_51 : hp_sh SM 0 12 51 (1, 36, 0) := ⟨_, rfl, rfl⟩
theorem fM_0_52 : hp_sh SM 0 12 52 (1, 37, 0) := ⟨_, rfl, rfl⟩
theorem fM_0_53 : hp_sh SM 0 12 53 (1, 38, 0) := ⟨_, rfl, rfl⟩
theorem fM_0_54 : hp_sh SM 0 12 54 (1, 39, 0) := ⟨_, rfl, rfl⟩
theorem fM_0_55 : hp_sh SM 0 12 55 (1, 40, 0) := ⟨_, rfl, rfl⟩
theorem fM_0_56 : hp_sh SM 0 12 56 (1, 41, 0) := ⟨_, rfl, rfl⟩
theorem fM_0_57 : hp_sh SM 0 12 57 (1, 42, 0) := ⟨_, rfl, rfl⟩
theorem fM_0_58 : hp_sh SM 0 12 58 (1, 43, 0) := ⟨_, rfl, rfl⟩
theorem fM_0_59 : hp_sh SM 0 12 59 (1, 44, 0) := ⟨_, rfl, rfl⟩
theorem fM_0_60 : hp_sh SM 0 12 60 (1, 45, 0) := ⟨_, rfl, rfl⟩
theorem fM_0_61 : hp_sh SM 0 12 61 (1, 46, 0) := ⟨_, rfl, rfl⟩
theorem fM_0_62 : hp_sh SM 0 12 62 (1, 47, 0) := ⟨_, rfl, rfl⟩
theorem fM_0_63 : hp_sh SM 0 12 63 (1, 48, 0) := ⟨_, rfl, rfl⟩
theorem aM_1 : SM[1]? = some (.inr (0, 6)) := rfl
theorem zM_1 : 1 ≠ hp_V := by decide
theorem aM_2 : SM[2]? = some (.inr (0, 6)) := rfl
theorem zM_2 : 2 ≠ hp_V := by decide
theorem aM_3 : SM[3]? = some (.inr (0, 6)) := rfl
theorem zM_3 : 3 ≠ hp_V := by decide
theorem aM_4 : SM[4]? = some (.inr (0, 3)) := rfl
theorem zM_4 : 4 ≠ hp_V := by decide
theorem aM_5 : SM[5]? = some (.inr (0, 3)) := rfl
theorem zM_5 : 5 ≠ hp_V := by decide
theorem aM_6 : SM[6]? = some (.inr (0, 9)) := rfl
theorem zM_6 : 6 ≠ hp_V := by decide
theorem aM_7 : SM[7]? = some (.inr (0, 9)) := rfl
theorem zM_7 : 7 ≠ hp_V := by decide
theorem aM_8 : SM[8]? = some (.inr (0, 9)) := rfl
theorem zM_8 : 8 ≠ hp_V := by decide
theorem aM_9 : SM[9]? = some (.inr (2, 30)) := rfl
theorem zM_9 : 9 ≠ hp_V := by decide
theorem aM_10 : SM[10]? = some (.inr (0, 3)) := rfl
theorem zM_10 : 10 ≠ hp_V := by decide
theorem aM_11 : SM[11]? = some (.inr (2, 3)) := rfl
theorem zM_11 : 11 ≠ hp_V := by decide
theorem aM_12 : SM[12]? = some (.inr (2, 3)) := rfl
theorem zM_12 : 12 ≠ hp_V := by decide
theorem aM_13 : SM[13]? = some (.inr (0, 80)) := rfl
theorem zM_13 : 13 ≠ hp_V := by decide
theorem aM_14 : SM[14]? = some (.inr (0, 80)) := rfl
theorem zM_14 : 14 ≠ hp_V := by decide
theorem aM_15 : SM[15]? = some (.inr (0, 80)) := rfl
theorem zM_15 : 15 ≠ hp_V := by decide
theorem aM_16 : SM[16]? = some (.inr (0, 80)) := rfl
theorem zM_16 : 16 ≠ hp_V := by decide
theorem aM_17 : SM[17]? = some (.inr (2, 80)) := rfl
theorem zM_17 : 17 ≠ hp_V := by decide
theorem aM_18 : SM[18]? = some (.inr (0, 24)) := rfl
theorem zM_18 : 18 ≠ hp_V := by decide
theorem aM_19 : SM[19]? = some (.inr (0, 24)) := rfl
theorem zM_19 : 19 ≠ hp_V := by decide
theorem aM_20 : SM[20]? = some (.inr (0, 24)) := rfl
theorem zM_20 : 20 ≠ hp_V := by decide
theorem aM_21 : SM[21]? = some (.inr (0, 24)) := rfl
theorem zM_21 : 21 ≠ hp_V := by decide
theorem aM_22 : SM[22]? = some (.inr (0, 24)) := rfl
theorem zM_22 : 22 ≠ hp_V := by decide
theorem aM_23 : SM[23]? = some (.inr (0, 96)) := rfl
theorem zM_23 : 23 ≠ hp_V := by decide
theorem aM_24 : SM[24]? = some (.inr (0, 96)) := rfl
theorem zM_24 : 24 ≠ hp_V := by decide
theorem aM_25 : SM[25]? = some (.inr (0, 96)) := rfl
theorem zM_25 : 25 ≠ hp_V := by decide
theorem aM_26 : SM[26]? = some (.inr (0, 8)) := rfl
theorem zM_26 : 26 ≠ hp_V := by decide
theorem aM_27 : SM[27]? = some (.inr (0, 21600)) := rfl
theorem zM_27 : 27 ≠ hp_V := by decide
theorem aM_28 : SM[28]? = some (.inr (0, 400)) := rfl
theorem zM_28 : 28 ≠ hp_V := by decide
theorem aM_29 : SM[29]? = some (.inr (0, 400)) := rfl
theorem zM_29 : 29 ≠ hp_V := by decide
theorem aM_30 : SM[30]? = some (.inr (0, 400)) := rfl
theorem zM_30 : 30 ≠ hp_V := by decide
theorem aM_31 : SM[31]? = some (.inr (0, 401)) := rfl
theorem zM_31 : 31 ≠ hp_V := by decide
theorem aM_32 : SM[32]? = some (.inr (0, 6000)) := rfl
theorem zM_32 : 32 ≠ hp_V := by decide
theorem aM_33 : SM[33]? = some (.inr (0, 6000)) := rfl
theorem zM_33 : 33 ≠ hp_V := by decide
theorem aM_34 : SM[34]? = some (.inr (0, 6000)) := rfl
theorem zM_34 : 34 ≠ hp_V := by decide
theorem aM_35 : SM[35]? = some (.inr (0, 6000)) := rfl
theorem zM_35 : 35 ≠ hp_V := by decide
theorem aM_36 : SM[36]? = some (.inr (0, 54)) := rfl
theorem zM_36 : 36 ≠ hp_V := by decide
theorem aM_37 : SM[37]? = some (.inr (0, 80)) := rfl
theorem zM_37 : 37 ≠ hp_V := by decide
theorem aM_38 : SM[38]? = some (.inr (0, 4)) := rfl
theorem zM_38 : 38 ≠ hp_V := by decide
theorem aM_39 : SM[39]? = some (.inr (2, 80)) := rfl
theorem zM_39 : 39 ≠ hp_V := by decide
theorem aM_40 : SM[40]? = some (.inr (2, 400)) := rfl
theorem zM_40 : 40 ≠ hp_V := by decide
theorem aM_41 : SM[41]? = some (.inr (2, 400)) := rfl
theorem zM_41 : 41 ≠ hp_V := by decide
theorem aM_42 : SM[42]? = some (.inr (2, 400)) := rfl
theorem zM_42 : 42 ≠ hp_V := by decide
theorem aM_43 : SM[43]? = some (.inr (2, 400)) := rfl
theorem zM_43 : 43 ≠ hp_V := by decide
theorem aM_44 : SM[44]? = some (.inr (2, 400)) := rfl
theorem zM_44 : 44 ≠ hp_V := by decide
theorem aM_45 : SM[45]? = some (.inr (0, 400)) := rfl
theorem zM_45 : 45 ≠ hp_V := by decide
theorem aM_46 : SM[46]? = some (.inr (0, 400)) := rfl
theorem zM_46 : 46 ≠ hp_V := by decide
theorem aM_47 : SM[47]? = some (.inr (1, 2800)) := rfl
theorem zM_47 : 47 ≠ hp_V := by decide
theorem aM_48 : SM[48]? = some (.inr (0, 3200)) := rfl
theorem zM_48 : 48 ≠ hp_V := by decide
theorem pw_a {w : Nat} (h : w = 65 ∨ w = 68) : SB[w]? = some (.inr (0, 400)) := by rcases h with rfl | rfl <;> rfl
theorem pw_z {w : Nat} (h : w = 65 ∨ w = 68) : w ≠ hp_V := by rcases h with rfl | rfl <;> decide
theorem pw_l {w : Nat} (h : w = 65 ∨ w = 68) : 65 ≤ w := by omega
theorem pw_s {w : Nat} (h : w = 65 ∨ w = 68) : w - 65 < 2 ^ 31 := by omega
def hp_mck (y k j : Nat) (S : List hp_S) : Bool := (S.zipIdx).all fun q => match q.1 with
  | .inl o => (o.2.zipIdx).all fun d => !(d.1.1 == 2 && d.1.2.2 == y) || (q.2 == k && d.2 == j)
  | .inr _ => true
theorem hp_mck_ok {S : List hp_S} {y k j : Nat} (h : hp_mck y k j S = true) (i c : Nat) (es : List (Nat × Nat × Nat)) (b z : Nat) (h1 : S[i]? = some (.inl (c, es))) (h2 : es[b]? = some (2, z, y)) : i = k ∧ b = j := by
  have m1 : ((.inl (c, es) : hp_S), i) ∈ S.zipIdx := List.mk_mem_zipIdx_iff_getElem?.mpr h1
  have e1 := List.all_eq_true.mp h _ m1
  have m2 : (((2, z, y) : Nat × Nat × Nat), b) ∈ es.zipIdx := List.mk_mem_zipIdx_iff_getElem?.mpr h2
  have e2 := List.all_eq_true.mp e1 _ m2
  simpa using e2
theorem mut_0 : ∀ (i c : Nat) (es : List (Nat × Nat × Nat)) (b z : Nat), SB[i]? = some (.inl (c, es)) → es[b]? = some (2, z, 0) → i = 64 ∧ b = 2 := hp_mck_ok (S := SB) (y := 0) (k := 64) (j := 2) (by decide +kernel)
theorem mut_1 : ∀ (i c : Nat) (es : List (Nat × Nat × Nat)) (b z : Nat), SB[i]? = some (.inl (c, es)) → es[b]? = some (2, z, 1) → i = 64 ∧ b = 7 := hp_mck_ok (S := SB) (y := 1) (k := 64) (j := 7) (by decide +kernel)
theorem vcl_0 : vwCl[0]? = some (RX0, TX0, 12) := rfl
theorem vcl_1 : vwCl[1]? = some (RX1, TX1, 10) := rfl
theorem vcl_2 : vwCl[2]? = some (RX2, TX2, 16) := rfl
theorem vcl_3 : vwCl[3]? = some (RX3, TX3, 20) := rfl
theorem vcl_4 : vwCl[4]? = some (RX4, TX4, 10) := rfl
theorem vcl_5 : vwCl[5]? = some (RX5, TX5, 3) := rfl
theorem vcl_6 : vwCl[6]? = some (RX6, TX6, 3) := rfl
theorem vcl_7 : vwCl[7]? = some (RX7, TX7, 1) := rfl
theorem vcl_8 : vwCl[8]? = some (RX8, TX8, 5) := rfl
theorem vcl_9 : vwCl[9]? = some (RX9, TX9, 9) := rfl
theorem vcl_10 : vwCl[10]? = some (RX10, TX10, 5) := rfl
theorem vcl_11 : vwCl[11]? = some (RX11, TX11, 6) := rfl
theorem vcl_12 : vwCl[12]? = some (RX12, TX12, 64) := rfl
theorem in_0 : ∀ w ∈ u_ws RX0 TX0 12, w ∈ hp_tbl := by decide +kernel
theorem in_1 : ∀ w ∈ u_ws RX1 TX1 10, w ∈ hp_tbl := by decide +kernel
theorem in_2 : ∀ w ∈ u_ws RX2 TX2 16, w ∈ hp_tbl := by decide +kernel
theorem in_3 : ∀ w ∈ u_ws RX3 TX3 20, w ∈ hp_tbl := by decide +kernel
theorem in_4 : ∀ w ∈ u_ws RX4 TX4 10, w ∈ hp_tbl := by decide +kernel
theorem in_5 : ∀ w ∈ u_ws RX5 TX5 3, w ∈ hp_tbl := by decide +kernel
theorem in_6 : ∀ w ∈ u_ws RX6 TX6 3, w ∈ hp_tbl := by decide +kernel
theorem in_7 : ∀ w ∈ u_ws RX7 TX7 1, w ∈ hp_tbl := by decide +kernel
theorem in_8 : ∀ w ∈ u_ws RX8 TX8 5, w ∈ hp_tbl := by decide +kernel
theorem in_9 : ∀ w ∈ u_ws RX9 TX9 9, w ∈ hp_tbl := by decide +kernel
theorem in_10 : ∀ w ∈ u_ws RX10 TX10 5, w ∈ hp_tbl := by decide +kernel
theorem in_11 : ∀ w ∈ u_ws RX11 TX11 6, w ∈ hp_tbl := by decide +kernel
theorem in_12 : ∀ w ∈ u_ws RX12 TX12 64, w ∈ hp_tbl := by decide +kernel
end
section
set_option maxRecDepth 100000 in
theorem m_RX11_182 : Cond.constant RX11 182 (-2147483648) ∈ hp_tbl := hp_in (List.mem_append_right _ (List.mem_append_right _ (List.mem_append_right _ (List.mem_append_right _ (List.mem_append_left _ (List.mem_of_getElem? (i := 129) (by decide +kernel))))))) rfl
set_option maxRecDepth 100000 in
theorem m_RX7_27 : Cond.constant RX7 27 (-61441) ∈ hp_tbl := hp_in (List.mem_append_right _ (List.mem_append_right _ (List.mem_append_right _ (List.mem_append_right _ (List.mem_append_left _ (List.mem_of_getElem? (i := 76) (by decide +kernel))))))) rfl
set_option maxRecDepth 100000 in
theorem m_RX12_309 : Cond.constant RX12 309 (-2147483648) ∈ hp_tbl := hp_in (List.mem_append_right _ (List.mem_append_right _ (List.mem_append_right _ (List.mem_append_right _ (List.mem_append_right _ (List.mem_append_right _ (List.mem_append_right _ (List.mem_of_getElem? (i := 10) (by decide +kernel))))))))) rfl
set_option maxRecDepth 100000 in
theorem m_RX11_57 : Cond.methodLink RX11 57 yX10_fits ∈ hp_tbl := hp_in (List.mem_append_right _ (List.mem_append_right _ (List.mem_append_right _ (List.mem_append_left _ (List.mem_of_getElem? (i := 3) (by decide +kernel)))))) rfl
set_option maxRecDepth 100000 in
theorem m_RX11_67 : Cond.methodLink RX11 67 yX10_isFull ∈ hp_tbl := hp_in (List.mem_append_right _ (List.mem_append_right _ (List.mem_append_right _ (List.mem_append_left _ (List.mem_of_getElem? (i := 6) (by decide +kernel)))))) rfl
set_option maxRecDepth 100000 in
theorem m_RX11_71 : Cond.methodLink RX11 71 yX11_endSearch ∈ hp_tbl := hp_in (List.mem_append_right _ (List.mem_append_right _ (List.mem_append_right _ (List.mem_append_left _ (List.mem_of_getElem? (i := 10) (by decide +kernel)))))) rfl
set_option maxRecDepth 100000 in
theorem m_RX11_74 : Cond.methodLink RX11 74 yX10_add ∈ hp_tbl := hp_in (List.mem_append_right _ (List.mem_append_right _ (List.mem_append_right _ (List.mem_append_left _ (List.mem_of_getElem? (i := 22) (by decide +kernel)))))) rfl
set_option maxRecDepth 100000 in
theorem m_RX11_88 : Cond.methodLink RX11 88 yX6_add ∈ hp_tbl := hp_in (List.mem_append_right _ (List.mem_append_right _ (List.mem_append_right _ (List.mem_append_left _ (List.mem_of_getElem? (i := 30) (by decide +kernel)))))) rfl
set_option maxRecDepth 100000 in
theorem m_RX11_91 : Cond.methodLink RX11 91 yX6_has ∈ hp_tbl := hp_in (List.mem_append_right _ (List.mem_append_right _ (List.mem_append_right _ (List.mem_append_left _ (List.mem_of_getElem? (i := 38) (by decide +kernel)))))) rfl
set_option maxRecDepth 100000 in
theorem m_RX11_97 : Cond.methodLink RX11 97 yX11_isDigit ∈ hp_tbl := hp_in (List.mem_append_right _ (List.mem_append_right _ (List.mem_append_right _ (List.mem_append_left _ (List.mem_of_getElem? (i := 46) (by decide +kernel)))))) rfl
set_option maxRecDepth 100000 in
theorem m_RX11_100 : Cond.methodLink RX11 100 yX6_isEnd ∈ hp_tbl := hp_in (List.mem_append_right _ (List.mem_append_right _ (List.mem_append_right _ (List.mem_append_left _ (List.mem_of_getElem? (i := 49) (by decide +kernel)))))) rfl
set_option maxRecDepth 100000 in
theorem m_RX11_104 : Cond.methodLink RX11 104 yX11_asNumber ∈ hp_tbl := hp_in (List.mem_append_right _ (List.mem_append_right _ (List.mem_append_right _ (List.mem_append_left _ (List.mem_of_getElem? (i := 53) (by decide +kernel)))))) rfl
set_option maxRecDepth 100000 in
theorem m_RX11_108 : Cond.methodLink RX11 108 yX6_setEnd ∈ hp_tbl := hp_in (List.mem_append_right _ (List.mem_append_right _ (List.mem_append_right _ (List.mem_append_left _ (List.mem_of_getElem? (i := 56) (by decide +kernel)))))) rfl
set_option maxRecDepth 100000 in
theorem m_RX11_115 : Cond.methodLink RX11 115 yX4_addChannel ∈ hp_tbl := hp_in (List.mem_append_right _ (List.mem_append_right _ (List.mem_append_right _ (List.mem_append_left _ (List.mem_of_getElem? (i := 64) (by decide +kernel)))))) rfl
set_option maxRecDepth 100000 in
theorem m_RX11_119 : Cond.methodLink RX11 119 yX4_knowsParts ∈ hp_tbl := hp_in (List.mem_append_right _ (List.mem_append_right _ (List.mem_append_right _ (List.mem_append_left _ (List.mem_of_getElem? (i := 72) (by decide +kernel)))))) rfl
set_option maxRecDepth 100000 in
theorem m_RX11_130 : Cond.methodLink RX11 130 yX1_add ∈ hp_tbl := hp_in (List.mem_append_right _ (List.mem_append_right _ (List.mem_append_right _ (List.mem_append_left _ (List.mem_of_getElem? (i := 100) (by decide +kernel)))))) rfl
set_option maxRecDepth 100000 in
theorem m_RX11_131 : Cond.methodLink RX11 131 yX1_has ∈ hp_tbl := hp_in (List.mem_append_right _ (List.mem_append_right _ (List.mem_append_right _ (List.mem_append_left _ (List.mem_of_getElem? (i := 110) (by decide +kernel)))))) rfl
set_option maxRecDepth 100000 in
theorem m_RX11_139 : Cond.methodLink RX11 139 yX9_add ∈ hp_tbl := hp_in (List.mem_append_right _ (List.mem_append_right _ (List.mem_append_right _ (List.mem_append_left _ (List.mem_of_getElem? (i := 111) (by decide +kernel)))))) rfl
set_option maxRecDepth 100000 in
theorem m_RX11_140 : Cond.methodLink RX11 140 yX9_has ∈ hp_tbl := hp_in (List.mem_append_right _ (List.mem_append_right _ (List.mem_append_right _ (List.mem_append_left _ (List.mem_of_getElem? (i := 119) (by decide +kernel)))))) rfl
set_option maxRecDepth 100000 in
theorem m_RX11_141 : Cond.methodLink RX11 141 yX4_knowsAct ∈ hp_tbl := hp_in (List.mem_append_right _ (List.mem_append_right _ (List.mem_append_right _ (List.mem_append_left _ (List.mem_of_getElem? (i := 123) (by decide +kernel)))))) rfl
set_option maxRecDepth 100000 in
theorem m_RX11_144 : Cond.methodLink RX11 144 yX9_hasLetterAct ∈ hp_tbl := hp_in (List.mem_append_right _ (List.mem_append_right _ (List.mem_append_right _ (List.mem_append_left _ (List.mem_of_getElem? (i := 127) (by decide +kernel)))))) rfl
set_option maxRecDepth 100000 in
theorem m_RX11_151 : Cond.methodLink RX11 151 yX9_addAct ∈ hp_tbl := hp_in (List.mem_append_right _ (List.mem_append_right _ (List.mem_append_right _ (List.mem_append_left _ (List.mem_of_getElem? (i := 131) (by decide +kernel)))))) rfl
set_option maxRecDepth 100000 in
theorem m_RX11_158 : Cond.methodLink RX11 158 yX4_isSearchable ∈ hp_tbl := hp_in (List.mem_append_right _ (List.mem_append_right _ (List.mem_append_right _ (List.mem_append_left _ (List.mem_of_getElem? (i := 143) (by decide +kernel)))))) rfl
set_option maxRecDepth 100000 in
theorem m_RX11_165 : Cond.methodLink RX11 165 yX8_start ∈ hp_tbl := hp_in (List.mem_append_right _ (List.mem_append_right _ (List.mem_append_right _ (List.mem_append_left _ (List.mem_of_getElem? (i := 171) (by decide +kernel)))))) rfl
set_option maxRecDepth 100000 in
theorem m_RX11_174 : Cond.methodLink RX11 174 yX8_goThrough ∈ hp_tbl := hp_in (List.mem_append_right _ (List.mem_append_right _ (List.mem_append_right _ (List.mem_append_left _ (List.mem_of_getElem? (i := 219) (by decide +kernel)))))) rfl
set_option maxRecDepth 100000 in
theorem m_RX11_178 : Cond.methodLink RX11 178 yX2_has ∈ hp_tbl := hp_in (List.mem_append_right _ (List.mem_append_right _ (List.mem_append_right _ (List.mem_append_right _ (List.mem_append_left _ (List.mem_of_getElem? (i := 117) (by decide +kernel))))))) rfl
set_option maxRecDepth 100000 in
theorem m_RX11_179 : Cond.methodLink RX11 179 yX1_isOwned ∈ hp_tbl := hp_in (List.mem_append_right _ (List.mem_append_right _ (List.mem_append_right _ (List.mem_append_right _ (List.mem_append_left _ (List.mem_of_getElem? (i := 125) (by decide +kernel))))))) rfl
set_option maxRecDepth 100000 in
theorem m_RX11_183 : Cond.methodLink RX11 183 yX5_ask ∈ hp_tbl := hp_in (List.mem_append_right _ (List.mem_append_right _ (List.mem_append_right _ (List.mem_append_right _ (List.mem_append_left _ (List.mem_of_getElem? (i := 130) (by decide +kernel))))))) rfl
set_option maxRecDepth 100000 in
theorem m_RX11_186 : Cond.methodLink RX11 186 yX5_lookAt ∈ hp_tbl := hp_in (List.mem_append_right _ (List.mem_append_right _ (List.mem_append_right _ (List.mem_append_right _ (List.mem_append_left _ (List.mem_of_getElem? (i := 145) (by decide +kernel))))))) rfl
set_option maxRecDepth 100000 in
theorem m_RX11_189 : Cond.methodLink RX11 189 yX5_answer ∈ hp_tbl := hp_in (List.mem_append_right _ (List.mem_append_right _ (List.mem_append_right _ (List.mem_append_right _ (List.mem_append_left _ (List.mem_of_getElem? (i := 155) (by decide +kernel))))))) rfl
set_option maxRecDepth 100000 in
theorem m_RX11_192 : Cond.methodLink RX11 192 yX2_isUsable ∈ hp_tbl := hp_in (List.mem_append_right _ (List.mem_append_right _ (List.mem_append_right _ (List.mem_append_right _ (List.mem_append_left _ (List.mem_of_getElem? (i := 163) (by decide +kernel))))))) rfl
set_option maxRecDepth 100000 in
theorem m_RX11_195 : Cond.methodLink RX11 195 yX6_hasMember ∈ hp_tbl := hp_in (List.mem_append_right _ (List.mem_append_right _ (List.mem_append_right _ (List.mem_append_right _ (List.mem_append_left _ (List.mem_of_getElem? (i := 164) (by decide +kernel))))))) rfl
set_option maxRecDepth 100000 in
theorem m_RX11_198 : Cond.methodLink RX11 198 yX5_rowOf ∈ hp_tbl := hp_in (List.mem_append_right _ (List.mem_append_right _ (List.mem_append_right _ (List.mem_append_right _ (List.mem_append_left _ (List.mem_of_getElem? (i := 165) (by decide +kernel))))))) rfl
set_option maxRecDepth 100000 in
theorem m_RX11_202 : Cond.methodLink RX11 202 yX7_placeOf ∈ hp_tbl := hp_in (List.mem_append_right _ (List.mem_append_right _ (List.mem_append_right _ (List.mem_append_right _ (List.mem_append_left _ (List.mem_of_getElem? (i := 166) (by decide +kernel))))))) rfl
set_option maxRecDepth 100000 in
theorem m_RX11_208 : Cond.methodLink RX11 208 yX10_has ∈ hp_tbl := hp_in (List.mem_append_right _ (List.mem_append_right _ (List.mem_append_right _ (List.mem_append_right _ (List.mem_append_left _ (List.mem_of_getElem? (i := 171) (by decide +kernel))))))) rfl
set_option maxRecDepth 100000 in
theorem m_RX11_210 : Cond.methodLink RX11 210 yX7_ownValue ∈ hp_tbl := hp_in (List.mem_append_right _ (List.mem_append_right _ (List.mem_append_right _ (List.mem_append_right _ (List.mem_append_left _ (List.mem_of_getElem? (i := 172) (by decide +kernel))))))) rfl
set_option maxRecDepth 100000 in
theorem m_RX11_214 : Cond.methodLink RX11 214 yX4_hasChannel ∈ hp_tbl := hp_in (List.mem_append_right _ (List.mem_append_right _ (List.mem_append_right _ (List.mem_append_right _ (List.mem_append_left _ (List.mem_of_getElem? (i := 177) (by decide +kernel))))))) rfl
set_option maxRecDepth 100000 in
theorem m_RX11_217 : Cond.methodLink RX11 217 yX7_held ∈ hp_tbl := hp_in (List.mem_append_right _ (List.mem_append_right _ (List.mem_append_right _ (List.mem_append_right _ (List.mem_append_left _ (List.mem_of_getElem? (i := 178) (by decide +kernel))))))) rfl
set_option maxRecDepth 100000 in
theorem m_RX11_220 : Cond.methodLink RX11 220 yX7_letterAt ∈ hp_tbl := hp_in (List.mem_append_right _ (List.mem_append_right _ (List.mem_append_right _ (List.mem_append_right _ (List.mem_append_left _ (List.mem_of_getElem? (i := 179) (by decide +kernel))))))) rfl
set_option maxRecDepth 100000 in
theorem m_RX11_223 : Cond.methodLink RX11 223 yX2_movesFrom ∈ hp_tbl := hp_in (List.mem_append_right _ (List.mem_append_right _ (List.mem_append_right _ (List.mem_append_right _ (List.mem_append_left _ (List.mem_of_getElem? (i := 184) (by decide +kernel))))))) rfl
set_option maxRecDepth 100000 in
theorem m_RX11_232 : Cond.methodLink RX11 232 yX2_roleOfMove ∈ hp_tbl := hp_in (List.mem_append_right _ (List.mem_append_right _ (List.mem_append_right _ (List.mem_append_right _ (List.mem_append_left _ (List.mem_of_getElem? (i := 192) (by decide +kernel))))))) rfl
set_option maxRecDepth 100000 in
theorem m_RX11_235 : Cond.methodLink RX11 235 yX2_memberOfMove ∈ hp_tbl := hp_in (List.mem_append_right _ (List.mem_append_right _ (List.mem_append_right _ (List.mem_append_right _ (List.mem_append_left _ (List.mem_of_getElem? (i := 196) (by decide +kernel))))))) rfl
set_option maxRecDepth 100000 in
theorem m_RX11_238 : Cond.methodLink RX11 238 yX2_stepOfMove ∈ hp_tbl := hp_in (List.mem_append_right _ (List.mem_append_right _ (List.mem_append_right _ (List.mem_append_right _ (List.mem_append_left _ (List.mem_of_getElem? (i := 200) (by decide +kernel))))))) rfl
set_option maxRecDepth 100000 in
theorem m_RX11_250 : Cond.methodLink RX11 250 yX2_hasMemberMove ∈ hp_tbl := hp_in (List.mem_append_right _ (List.mem_append_right _ (List.mem_append_right _ (List.mem_append_right _ (List.mem_append_left _ (List.mem_of_getElem? (i := 216) (by decide +kernel))))))) rfl
set_option maxRecDepth 100000 in
theorem m_RX11_253 : Cond.methodLink RX11 253 yX4_someAtNoEnd ∈ hp_tbl := hp_in (List.mem_append_right _ (List.mem_append_right _ (List.mem_append_right _ (List.mem_append_right _ (List.mem_append_left _ (List.mem_of_getElem? (i := 225) (by decide +kernel))))))) rfl
set_option maxRecDepth 100000 in
theorem m_RX11_269 : Cond.methodLink RX11 269 yX11_refusalOfPlain ∈ hp_tbl := hp_in (List.mem_append_right _ (List.mem_append_right _ (List.mem_append_right _ (List.mem_append_right _ (List.mem_append_left _ (List.mem_of_getElem? (i := 239) (by decide +kernel))))))) rfl
set_option maxRecDepth 100000 in
theorem m_RX11_272 : Cond.methodLink RX11 272 yX3_breakerOfAgain ∈ hp_tbl := hp_in (List.mem_append_right _ (List.mem_append_right _ (List.mem_append_right _ (List.mem_append_right _ (List.mem_append_right _ (List.mem_append_left _ (List.mem_of_getElem? (i := 7) (by decide +kernel)))))))) rfl
set_option maxRecDepth 100000 in
theorem m_RX11_276 : Cond.methodLink RX11 276 yX3_breakerOfFromTo ∈ hp_tbl := hp_in (List.mem_append_right _ (List.mem_append_right _ (List.mem_append_right _ (List.mem_append_right _ (List.mem_append_right _ (List.mem_append_left _ (List.mem_of_getElem? (i := 58) (by decide +kernel)))))))) rfl
set_option maxRecDepth 100000 in
theorem m_RX11_280 : Cond.methodLink RX11 280 yX0_observes ∈ hp_tbl := hp_in (List.mem_append_right _ (List.mem_append_right _ (List.mem_append_right _ (List.mem_append_right _ (List.mem_append_right _ (List.mem_append_left _ (List.mem_of_getElem? (i := 67) (by decide +kernel)))))))) rfl
set_option maxRecDepth 100000 in
theorem m_RX11_286 : Cond.methodLink RX11 286 yX0_addObserved ∈ hp_tbl := hp_in (List.mem_append_right _ (List.mem_append_right _ (List.mem_append_right _ (List.mem_append_right _ (List.mem_append_right _ (List.mem_append_left _ (List.mem_of_getElem? (i := 71) (by decide +kernel)))))))) rfl
set_option maxRecDepth 100000 in
theorem m_RX11_289 : Cond.methodLink RX11 289 yX0_makeSure ∈ hp_tbl := hp_in (List.mem_append_right _ (List.mem_append_right _ (List.mem_append_right _ (List.mem_append_right _ (List.mem_append_right _ (List.mem_append_left _ (List.mem_of_getElem? (i := 79) (by decide +kernel)))))))) rfl
set_option maxRecDepth 100000 in
theorem m_RX11_300 : Cond.methodLink RX11 300 yX2_clear ∈ hp_tbl := hp_in (List.mem_append_right _ (List.mem_append_right _ (List.mem_append_right _ (List.mem_append_left _ (List.mem_of_getElem? (i := 14) (by decide +kernel)))))) rfl
set_option maxRecDepth 100000 in
theorem m_RX11_303 : Cond.methodLink RX11 303 yX0_forget ∈ hp_tbl := hp_in (List.mem_append_right _ (List.mem_append_right _ (List.mem_append_right _ (List.mem_append_left _ (List.mem_of_getElem? (i := 18) (by decide +kernel)))))) rfl
set_option maxRecDepth 100000 in
theorem m_RX0_49 : Cond.methodLink RX0 49 yJ7_fill_53178 ∈ hp_tbl := hp_in (List.mem_append_right _ (List.mem_append_right _ (List.mem_append_right _ (List.mem_append_right _ (List.mem_append_right _ (List.mem_append_left _ (List.mem_of_getElem? (i := 83) (by decide +kernel)))))))) rfl
set_option maxRecDepth 100000 in
theorem m_RX0_58 : Cond.methodLink RX0 58 yX0_keyByObserved ∈ hp_tbl := hp_in (List.mem_append_right _ (List.mem_append_right _ (List.mem_append_right _ (List.mem_append_right _ (List.mem_append_right _ (List.mem_append_left _ (List.mem_of_getElem? (i := 84) (by decide +kernel)))))))) rfl
set_option maxRecDepth 100000 in
theorem m_RX0_61 : Cond.methodLink RX0 61 yX0_split ∈ hp_tbl := hp_in (List.mem_append_right _ (List.mem_append_right _ (List.mem_append_right _ (List.mem_append_right _ (List.mem_append_right _ (List.mem_append_left _ (List.mem_of_getElem? (i := 92) (by decide +kernel)))))))) rfl
set_option maxRecDepth 100000 in
theorem m_RX0_65 : Cond.methodLink RX0 65 yX0_keyByMoves ∈ hp_tbl := hp_in (List.mem_append_right _ (List.mem_append_right _ (List.mem_append_right _ (List.mem_append_right _ (List.mem_append_right _ (List.mem_append_left _ (List.mem_of_getElem? (i := 108) (by decide +kernel)))))))) rfl
set_option maxRecDepth 100000 in
theorem m_RX0_68 : Cond.methodLink RX0 68 yX5_askNothing ∈ hp_tbl := hp_in (List.mem_append_right _ (List.mem_append_right _ (List.mem_append_right _ (List.mem_append_right _ (List.mem_append_right _ (List.mem_append_left _ (List.mem_of_getElem? (i := 88) (by decide +kernel)))))))) rfl
set_option maxRecDepth 100000 in
theorem m_RX0_73 : Cond.methodLink RX0 73 yX5_askToo ∈ hp_tbl := hp_in (List.mem_append_right _ (List.mem_append_right _ (List.mem_append_right _ (List.mem_append_right _ (List.mem_append_right _ (List.mem_append_left _ (List.mem_of_getElem? (i := 89) (by decide +kernel)))))))) rfl
set_option maxRecDepth 100000 in
theorem m_RX0_81 : Cond.methodLink RX0 81 yX5_lookAt ∈ hp_tbl := hp_in (List.mem_append_right _ (List.mem_append_right _ (List.mem_append_right _ (List.mem_append_right _ (List.mem_append_right _ (List.mem_append_left _ (List.mem_of_getElem? (i := 90) (by decide +kernel)))))))) rfl
set_option maxRecDepth 100000 in
theorem m_RX0_84 : Cond.methodLink RX0 84 yX5_answer ∈ hp_tbl := hp_in (List.mem_append_right _ (List.mem_append_right _ (List.mem_append_right _ (List.mem_append_right _ (List.mem_append_right _ (List.mem_append_left _ (List.mem_of_getElem? (i := 91) (by decide +kernel)))))))) rfl
set_option maxRecDepth 100000 in
theorem m_RX0_88 : Cond.methodLink RX0 88 yJ7_fill_fda19 ∈ hp_tbl := hp_in (List.mem_append_right _ (List.mem_append_right _ (List.mem_append_right _ (List.mem_append_right _ (List.mem_append_right _ (List.mem_append_left _ (List.mem_of_getElem? (i := 112) (by decide +kernel)))))))) rfl
set_option maxRecDepth 100000 in
theorem m_RX0_97 : Cond.methodLink RX0 97 yX0_newPartLike ∈ hp_tbl := hp_in (List.mem_append_right _ (List.mem_append_right _ (List.mem_append_right _ (List.mem_append_right _ (List.mem_append_right _ (List.mem_append_left _ (List.mem_of_getElem? (i := 96) (by decide +kernel)))))))) rfl
set_option maxRecDepth 100000 in
theorem m_RX0_101 : Cond.methodLink RX0 101 yX0_openPart ∈ hp_tbl := hp_in (List.mem_append_right _ (List.mem_append_right _ (List.mem_append_right _ (List.mem_append_right _ (List.mem_append_right _ (List.mem_append_left _ (List.mem_of_getElem? (i := 104) (by decide +kernel)))))))) rfl
set_option maxRecDepth 100000 in
theorem m_RX0_104 : Cond.methodLink RX0 104 yX0_haveSameKeys ∈ hp_tbl := hp_in (List.mem_append_right _ (List.mem_append_right _ (List.mem_append_right _ (List.mem_append_right _ (List.mem_append_right _ (List.mem_append_left _ (List.mem_of_getElem? (i := 100) (by decide +kernel)))))))) rfl
set_option maxRecDepth 100000 in
theorem m_RX1_46 : Cond.methodLink RX1 46 yX1_isMade ∈ hp_tbl := hp_in (List.mem_append_right _ (List.mem_append_right _ (List.mem_append_right _ (List.mem_append_left _ (List.mem_of_getElem? (i := 104) (by decide +kernel)))))) rfl
set_option maxRecDepth 100000 in
theorem m_RX1_50 : Cond.methodLink RX1 50 yX1_isMadeOfTwo ∈ hp_tbl := hp_in (List.mem_append_right _ (List.mem_append_right _ (List.mem_append_right _ (List.mem_append_left _ (List.mem_of_getElem? (i := 105) (by decide +kernel)))))) rfl
set_option maxRecDepth 100000 in
theorem m_RX1_53 : Cond.methodLink RX1 53 yX1_ofParts ∈ hp_tbl := hp_in (List.mem_append_right _ (List.mem_append_right _ (List.mem_append_right _ (List.mem_append_left _ (List.mem_of_getElem? (i := 239) (by decide +kernel)))))) rfl
set_option maxRecDepth 100000 in
theorem m_RX1_57 : Cond.methodLink RX1 57 yX1_ofRow ∈ hp_tbl := hp_in (List.mem_append_right _ (List.mem_append_right _ (List.mem_append_right _ (List.mem_append_right _ (List.mem_append_left _ (List.mem_of_getElem? (i := 2) (by decide +kernel))))))) rfl
set_option maxRecDepth 100000 in
theorem m_RX1_61 : Cond.methodLink RX1 61 yX7_sharedValue ∈ hp_tbl := hp_in (List.mem_append_right _ (List.mem_append_right _ (List.mem_append_right _ (List.mem_append_right _ (List.mem_append_left _ (List.mem_of_getElem? (i := 6) (by decide +kernel))))))) rfl
set_option maxRecDepth 100000 in
theorem m_RX1_67 : Cond.methodLink RX1 67 yX7_ownValue ∈ hp_tbl := hp_in (List.mem_append_right _ (List.mem_append_right _ (List.mem_append_right _ (List.mem_append_right _ (List.mem_append_left _ (List.mem_of_getElem? (i := 10) (by decide +kernel))))))) rfl
set_option maxRecDepth 100000 in
theorem m_RX1_75 : Cond.methodLink RX1 75 yX7_howManyAt ∈ hp_tbl := hp_in (List.mem_append_right _ (List.mem_append_right _ (List.mem_append_right _ (List.mem_append_right _ (List.mem_append_left _ (List.mem_of_getElem? (i := 14) (by decide +kernel))))))) rfl
set_option maxRecDepth 100000 in
theorem m_RX1_78 : Cond.methodLink RX1 78 yX7_held ∈ hp_tbl := hp_in (List.mem_append_right _ (List.mem_append_right _ (List.mem_append_right _ (List.mem_append_right _ (List.mem_append_left _ (List.mem_of_getElem? (i := 18) (by decide +kernel))))))) rfl
set_option maxRecDepth 100000 in
theorem m_RX2_64 : Cond.methodLink RX2 64 yX2_clear ∈ hp_tbl := hp_in (List.mem_append_right _ (List.mem_append_right _ (List.mem_append_right _ (List.mem_append_left _ (List.mem_of_getElem? (i := 202) (by decide +kernel)))))) rfl
set_option maxRecDepth 100000 in
theorem m_RX2_67 : Cond.methodLink RX2 67 yJ7_fill_53178 ∈ hp_tbl := hp_in (List.mem_append_right _ (List.mem_append_right _ (List.mem_append_right _ (List.mem_append_left _ (List.mem_of_getElem? (i := 203) (by decide +kernel)))))) rfl
set_option maxRecDepth 100000 in
theorem m_RX2_73 : Cond.methodLink RX2 73 yX2_slotOf ∈ hp_tbl := hp_in (List.mem_append_right _ (List.mem_append_right _ (List.mem_append_right _ (List.mem_append_left _ (List.mem_of_getElem? (i := 204) (by decide +kernel)))))) rfl
set_option maxRecDepth 100000 in
theorem m_RX2_77 : Cond.methodLink RX2 77 yX2_addState ∈ hp_tbl := hp_in (List.mem_append_right _ (List.mem_append_right _ (List.mem_append_right _ (List.mem_append_left _ (List.mem_of_getElem? (i := 212) (by decide +kernel)))))) rfl
set_option maxRecDepth 100000 in
theorem m_RX2_81 : Cond.methodLink RX2 81 yX2_isUsable ∈ hp_tbl := hp_in (List.mem_append_right _ (List.mem_append_right _ (List.mem_append_right _ (List.mem_append_right _ (List.mem_append_left _ (List.mem_of_getElem? (i := 121) (by decide +kernel))))))) rfl
set_option maxRecDepth 100000 in
theorem m_RX2_86 : Cond.methodLink RX2 86 arraycopyName ∈ hp_tbl := hp_in (List.mem_append_right _ (List.mem_append_right _ (List.mem_append_right _ (List.mem_append_left _ (List.mem_of_getElem? (i := 216) (by decide +kernel)))))) rfl
set_option maxRecDepth 100000 in
theorem m_RX2_92 : Cond.methodLink RX2 92 yX2_movesFrom ∈ hp_tbl := hp_in (List.mem_append_right _ (List.mem_append_right _ (List.mem_append_right _ (List.mem_append_right _ (List.mem_append_left _ (List.mem_of_getElem? (i := 220) (by decide +kernel))))))) rfl
set_option maxRecDepth 100000 in
theorem m_RX2_96 : Cond.methodLink RX2 96 yX2_moverBit ∈ hp_tbl := hp_in (List.mem_append_right _ (List.mem_append_right _ (List.mem_append_right _ (List.mem_append_right _ (List.mem_append_left _ (List.mem_of_getElem? (i := 221) (by decide +kernel))))))) rfl
set_option maxRecDepth 100000 in
theorem m_RX2_99 : Cond.methodLink RX2 99 yX2_isSame ∈ hp_tbl := hp_in (List.mem_append_right _ (List.mem_append_right _ (List.mem_append_right _ (List.mem_append_left _ (List.mem_of_getElem? (i := 208) (by decide +kernel)))))) rfl
set_option maxRecDepth 100000 in
theorem m_RX3_55 : Cond.methodLink RX3 55 yX5_ask ∈ hp_tbl := hp_in (List.mem_append_right _ (List.mem_append_right _ (List.mem_append_right _ (List.mem_append_right _ (List.mem_append_right _ (List.mem_append_left _ (List.mem_of_getElem? (i := 11) (by decide +kernel)))))))) rfl
set_option maxRecDepth 100000 in
theorem m_RX3_67 : Cond.methodLink RX3 67 yX5_lookAt ∈ hp_tbl := hp_in (List.mem_append_right _ (List.mem_append_right _ (List.mem_append_right _ (List.mem_append_right _ (List.mem_append_right _ (List.mem_append_left _ (List.mem_of_getElem? (i := 12) (by decide +kernel)))))))) rfl
set_option maxRecDepth 100000 in
theorem m_RX3_70 : Cond.methodLink RX3 70 yX5_answer ∈ hp_tbl := hp_in (List.mem_append_right _ (List.mem_append_right _ (List.mem_append_right _ (List.mem_append_right _ (List.mem_append_right _ (List.mem_append_left _ (List.mem_of_getElem? (i := 13) (by decide +kernel)))))))) rfl
set_option maxRecDepth 100000 in
theorem m_RX3_74 : Cond.methodLink RX3 74 yX3_tie ∈ hp_tbl := hp_in (List.mem_append_right _ (List.mem_append_right _ (List.mem_append_right _ (List.mem_append_right _ (List.mem_append_right _ (List.mem_append_left _ (List.mem_of_getElem? (i := 14) (by decide +kernel)))))))) rfl
set_option maxRecDepth 100000 in
theorem m_RX3_78 : Cond.methodLink RX3 78 yX3_firstOfBoth ∈ hp_tbl := hp_in (List.mem_append_right _ (List.mem_append_right _ (List.mem_append_right _ (List.mem_append_right _ (List.mem_append_right _ (List.mem_append_left _ (List.mem_of_getElem? (i := 50) (by decide +kernel)))))))) rfl
set_option maxRecDepth 100000 in
theorem m_RX3_82 : Cond.methodLink RX3 82 yX5_askToo ∈ hp_tbl := hp_in (List.mem_append_right _ (List.mem_append_right _ (List.mem_append_right _ (List.mem_append_right _ (List.mem_append_right _ (List.mem_append_left _ (List.mem_of_getElem? (i := 62) (by decide +kernel)))))))) rfl
set_option maxRecDepth 100000 in
theorem m_RX3_95 : Cond.methodLink RX3 95 yX6_everyoneBits ∈ hp_tbl := hp_in (List.mem_append_right _ (List.mem_append_right _ (List.mem_append_right _ (List.mem_append_right _ (List.mem_append_right _ (List.mem_append_left _ (List.mem_of_getElem? (i := 18) (by decide +kernel)))))))) rfl
set_option maxRecDepth 100000 in
theorem m_RX3_113 : Cond.methodLink RX3 113 yX3_walk ∈ hp_tbl := hp_in (List.mem_append_right _ (List.mem_append_right _ (List.mem_append_right _ (List.mem_append_right _ (List.mem_append_right _ (List.mem_append_left _ (List.mem_of_getElem? (i := 22) (by decide +kernel)))))))) rfl
set_option maxRecDepth 100000 in
theorem m_RX3_116 : Cond.methodLink RX3 116 yX3_enter ∈ hp_tbl := hp_in (List.mem_append_right _ (List.mem_append_right _ (List.mem_append_right _ (List.mem_append_right _ (List.mem_append_right _ (List.mem_append_left _ (List.mem_of_getElem? (i := 26) (by decide +kernel)))))))) rfl
set_option maxRecDepth 100000 in
theorem m_RX3_125 : Cond.methodLink RX3 125 yX3_follow ∈ hp_tbl := hp_in (List.mem_append_right _ (List.mem_append_right _ (List.mem_append_right _ (List.mem_append_right _ (List.mem_append_right _ (List.mem_append_left _ (List.mem_of_getElem? (i := 30) (by decide +kernel)))))))) rfl
set_option maxRecDepth 100000 in
theorem m_RX3_129 : Cond.methodLink RX3 129 yX3_handBack ∈ hp_tbl := hp_in (List.mem_append_right _ (List.mem_append_right _ (List.mem_append_right _ (List.mem_append_right _ (List.mem_append_right _ (List.mem_append_left _ (List.mem_of_getElem? (i := 37) (by decide +kernel)))))))) rfl
set_option maxRecDepth 100000 in
theorem m_RX3_132 : Cond.methodLink RX3 132 yX3_close ∈ hp_tbl := hp_in (List.mem_append_right _ (List.mem_append_right _ (List.mem_append_right _ (List.mem_append_right _ (List.mem_append_right _ (List.mem_append_left _ (List.mem_of_getElem? (i := 41) (by decide +kernel)))))))) rfl
set_option maxRecDepth 100000 in
theorem m_RX3_135 : Cond.methodLink RX3 135 Lib.Math.min.name ∈ hp_tbl := hp_in (List.mem_append_right _ (List.mem_append_right _ (List.mem_append_right _ (List.mem_append_right _ (List.mem_append_right _ (List.mem_append_left _ (List.mem_of_getElem? (i := 34) (by decide +kernel)))))))) rfl
set_option maxRecDepth 100000 in
theorem m_RX3_147 : Cond.methodLink RX3 147 yX3_weigh ∈ hp_tbl := hp_in (List.mem_append_right _ (List.mem_append_right _ (List.mem_append_right _ (List.mem_append_right _ (List.mem_append_right _ (List.mem_append_left _ (List.mem_of_getElem? (i := 45) (by decide +kernel)))))))) rfl
set_option maxRecDepth 100000 in
theorem m_RX3_151 : Cond.methodLink RX3 151 yX2_moverBit ∈ hp_tbl := hp_in (List.mem_append_right _ (List.mem_append_right _ (List.mem_append_right _ (List.mem_append_right _ (List.mem_append_right _ (List.mem_append_left _ (List.mem_of_getElem? (i := 49) (by decide +kernel)))))))) rfl
set_option maxRecDepth 100000 in
theorem m_RX4_61 : Cond.methodLink RX4 61 yX10_has ∈ hp_tbl := hp_in (List.mem_append_right _ (List.mem_append_right _ (List.mem_append_right _ (List.mem_append_left _ (List.mem_of_getElem? (i := 76) (by decide +kernel)))))) rfl
set_option maxRecDepth 100000 in
theorem m_RX4_65 : Cond.methodLink RX4 65 yX6_has ∈ hp_tbl := hp_in (List.mem_append_right _ (List.mem_append_right _ (List.mem_append_right _ (List.mem_append_left _ (List.mem_of_getElem? (i := 80) (by decide +kernel)))))) rfl
set_option maxRecDepth 100000 in
theorem m_RX4_68 : Cond.methodLink RX4 68 yX4_hasChannel ∈ hp_tbl := hp_in (List.mem_append_right _ (List.mem_append_right _ (List.mem_append_right _ (List.mem_append_left _ (List.mem_of_getElem? (i := 81) (by decide +kernel)))))) rfl
set_option maxRecDepth 100000 in
theorem m_RX4_71 : Cond.methodLink RX4 71 yX6_hasMember ∈ hp_tbl := hp_in (List.mem_append_right _ (List.mem_append_right _ (List.mem_append_right _ (List.mem_append_left _ (List.mem_of_getElem? (i := 85) (by decide +kernel)))))) rfl
set_option maxRecDepth 100000 in
theorem m_RX4_74 : Cond.methodLink RX4 74 yX1_isMade ∈ hp_tbl := hp_in (List.mem_append_right _ (List.mem_append_right _ (List.mem_append_right _ (List.mem_append_left _ (List.mem_of_getElem? (i := 90) (by decide +kernel)))))) rfl
set_option maxRecDepth 100000 in
theorem m_RX4_77 : Cond.methodLink RX4 77 yX1_has ∈ hp_tbl := hp_in (List.mem_append_right _ (List.mem_append_right _ (List.mem_append_right _ (List.mem_append_left _ (List.mem_of_getElem? (i := 93) (by decide +kernel)))))) rfl
set_option maxRecDepth 100000 in
theorem m_RX4_78 : Cond.methodLink RX4 78 yX1_isMadeOfTwo ∈ hp_tbl := hp_in (List.mem_append_right _ (List.mem_append_right _ (List.mem_append_right _ (List.mem_append_left _ (List.mem_of_getElem? (i := 97) (by decide +kernel)))))) rfl
set_option maxRecDepth 100000 in
theorem m_RX4_88 : Cond.methodLink RX4 88 yX1_tellsMembersApart ∈ hp_tbl := hp_in (List.mem_append_right _ (List.mem_append_right _ (List.mem_append_right _ (List.mem_append_left _ (List.mem_of_getElem? (i := 147) (by decide +kernel)))))) rfl
set_option maxRecDepth 100000 in
theorem m_RX4_92 : Cond.methodLink RX4 92 yX4_markUses ∈ hp_tbl := hp_in (List.mem_append_right _ (List.mem_append_right _ (List.mem_append_right _ (List.mem_append_left _ (List.mem_of_getElem? (i := 151) (by decide +kernel)))))) rfl
set_option maxRecDepth 100000 in
theorem m_RX4_100 : Cond.methodLink RX4 100 yX1_namesBeyond ∈ hp_tbl := hp_in (List.mem_append_right _ (List.mem_append_right _ (List.mem_append_right _ (List.mem_append_left _ (List.mem_of_getElem? (i := 167) (by decide +kernel)))))) rfl
set_option maxRecDepth 100000 in
theorem m_RX4_103 : Cond.methodLink RX4 103 yX1_dropUse ∈ hp_tbl := hp_in (List.mem_append_right _ (List.mem_append_right _ (List.mem_append_right _ (List.mem_append_left _ (List.mem_of_getElem? (i := 155) (by decide +kernel)))))) rfl
set_option maxRecDepth 100000 in
theorem m_RX4_111 : Cond.methodLink RX4 111 yX1_addUse ∈ hp_tbl := hp_in (List.mem_append_right _ (List.mem_append_right _ (List.mem_append_right _ (List.mem_append_left _ (List.mem_of_getElem? (i := 159) (by decide +kernel)))))) rfl
set_option maxRecDepth 100000 in
theorem m_RX4_123 : Cond.methodLink RX4 123 yX1_spreadUses ∈ hp_tbl := hp_in (List.mem_append_right _ (List.mem_append_right _ (List.mem_append_right _ (List.mem_append_left _ (List.mem_of_getElem? (i := 163) (by decide +kernel)))))) rfl
set_option maxRecDepth 100000 in
theorem m_RX4_126 : Cond.methodLink RX4 126 yX7_clear ∈ hp_tbl := hp_in (List.mem_append_right _ (List.mem_append_right _ (List.mem_append_right _ (List.mem_append_left _ (List.mem_of_getElem? (i := 179) (by decide +kernel)))))) rfl
set_option maxRecDepth 100000 in
theorem m_RX4_131 : Cond.methodLink RX4 131 yX10_firstOf ∈ hp_tbl := hp_in (List.mem_append_right _ (List.mem_append_right _ (List.mem_append_right _ (List.mem_append_left _ (List.mem_of_getElem? (i := 186) (by decide +kernel)))))) rfl
set_option maxRecDepth 100000 in
theorem m_RX4_135 : Cond.methodLink RX4 135 yX7_setShared ∈ hp_tbl := hp_in (List.mem_append_right _ (List.mem_append_right _ (List.mem_append_right _ (List.mem_append_left _ (List.mem_of_getElem? (i := 190) (by decide +kernel)))))) rfl
set_option maxRecDepth 100000 in
theorem m_RX4_141 : Cond.methodLink RX4 141 yX7_setOwn ∈ hp_tbl := hp_in (List.mem_append_right _ (List.mem_append_right _ (List.mem_append_right _ (List.mem_append_left _ (List.mem_of_getElem? (i := 194) (by decide +kernel)))))) rfl
set_option maxRecDepth 100000 in
theorem m_RX4_145 : Cond.methodLink RX4 145 yX7_placeOf ∈ hp_tbl := hp_in (List.mem_append_right _ (List.mem_append_right _ (List.mem_append_right _ (List.mem_append_right _ (List.mem_append_left _ (List.mem_of_getElem? (i := 229) (by decide +kernel))))))) rfl
set_option maxRecDepth 100000 in
theorem m_RX4_148 : Cond.methodLink RX4 148 yX6_isEnd ∈ hp_tbl := hp_in (List.mem_append_right _ (List.mem_append_right _ (List.mem_append_right _ (List.mem_append_right _ (List.mem_append_left _ (List.mem_of_getElem? (i := 230) (by decide +kernel))))))) rfl
set_option maxRecDepth 100000 in
theorem m_RX5_26 : Cond.methodLink RX5 26 yX2_load ∈ hp_tbl := hp_in (List.mem_append_right _ (List.mem_append_right _ (List.mem_append_right _ (List.mem_append_right _ (List.mem_append_left _ (List.mem_of_getElem? (i := 153) (by decide +kernel))))))) rfl
set_option maxRecDepth 100000 in
theorem m_RX5_38 : Cond.methodLink RX5 38 yX1_dropUse ∈ hp_tbl := hp_in (List.mem_append_right _ (List.mem_append_right _ (List.mem_append_right _ (List.mem_append_right _ (List.mem_append_left _ (List.mem_of_getElem? (i := 138) (by decide +kernel))))))) rfl
set_option maxRecDepth 100000 in
theorem m_RX5_44 : Cond.methodLink RX5 44 yX1_addUse ∈ hp_tbl := hp_in (List.mem_append_right _ (List.mem_append_right _ (List.mem_append_right _ (List.mem_append_right _ (List.mem_append_left _ (List.mem_of_getElem? (i := 143) (by decide +kernel))))))) rfl
set_option maxRecDepth 100000 in
theorem m_RX5_48 : Cond.methodLink RX5 48 yX1_spreadUses ∈ hp_tbl := hp_in (List.mem_append_right _ (List.mem_append_right _ (List.mem_append_right _ (List.mem_append_right _ (List.mem_append_left _ (List.mem_of_getElem? (i := 144) (by decide +kernel))))))) rfl
set_option maxRecDepth 100000 in
theorem m_RX5_51 : Cond.methodLink RX5 51 yX5_askNothing ∈ hp_tbl := hp_in (List.mem_append_right _ (List.mem_append_right _ (List.mem_append_right _ (List.mem_append_right _ (List.mem_append_left _ (List.mem_of_getElem? (i := 134) (by decide +kernel))))))) rfl
set_option maxRecDepth 100000 in
theorem m_RX5_54 : Cond.methodLink RX5 54 yX5_askToo ∈ hp_tbl := hp_in (List.mem_append_right _ (List.mem_append_right _ (List.mem_append_right _ (List.mem_append_right _ (List.mem_append_left _ (List.mem_of_getElem? (i := 139) (by decide +kernel))))))) rfl
set_option maxRecDepth 100000 in
theorem m_RX5_57 : Cond.methodLink RX5 57 yX5_rowOf ∈ hp_tbl := hp_in (List.mem_append_right _ (List.mem_append_right _ (List.mem_append_right _ (List.mem_append_right _ (List.mem_append_left _ (List.mem_of_getElem? (i := 149) (by decide +kernel))))))) rfl
set_option maxRecDepth 100000 in
theorem m_RX5_61 : Cond.methodLink RX5 61 yX1_reckon ∈ hp_tbl := hp_in (List.mem_append_right _ (List.mem_append_right _ (List.mem_append_right _ (List.mem_append_right _ (List.mem_append_left _ (List.mem_of_getElem? (i := 154) (by decide +kernel))))))) rfl
set_option maxRecDepth 100000 in
theorem m_RX6_22 : Cond.methodLink RX6 22 yX6_has ∈ hp_tbl := hp_in (List.mem_append_right _ (List.mem_append_right _ (List.mem_append_right _ (List.mem_append_left _ (List.mem_of_getElem? (i := 89) (by decide +kernel)))))) rfl
set_option maxRecDepth 100000 in
theorem m_RX7_15 : Cond.methodLink RX7 15 yJ7_fill_53178 ∈ hp_tbl := hp_in (List.mem_append_right _ (List.mem_append_right _ (List.mem_append_right _ (List.mem_append_left _ (List.mem_of_getElem? (i := 183) (by decide +kernel)))))) rfl
set_option maxRecDepth 100000 in
theorem m_RX7_21 : Cond.methodLink RX7 21 arraycopyName ∈ hp_tbl := hp_in (List.mem_append_right _ (List.mem_append_right _ (List.mem_append_right _ (List.mem_append_right _ (List.mem_append_left _ (List.mem_of_getElem? (i := 36) (by decide +kernel))))))) rfl
set_option maxRecDepth 100000 in
theorem m_RX7_28 : Cond.methodLink RX7 28 yX7_held ∈ hp_tbl := hp_in (List.mem_append_right _ (List.mem_append_right _ (List.mem_append_right _ (List.mem_append_right _ (List.mem_append_left _ (List.mem_of_getElem? (i := 104) (by decide +kernel))))))) rfl
set_option maxRecDepth 100000 in
theorem m_RX7_32 : Cond.methodLink RX7 32 yX7_isFirstOfLike ∈ hp_tbl := hp_in (List.mem_append_right _ (List.mem_append_right _ (List.mem_append_right _ (List.mem_append_right _ (List.mem_append_left _ (List.mem_of_getElem? (i := 105) (by decide +kernel))))))) rfl
set_option maxRecDepth 100000 in
theorem m_RX8_33 : Cond.methodLink RX8 33 yX4_setFirst ∈ hp_tbl := hp_in (List.mem_append_right _ (List.mem_append_right _ (List.mem_append_right _ (List.mem_append_left _ (List.mem_of_getElem? (i := 175) (by decide +kernel)))))) rfl
set_option maxRecDepth 100000 in
theorem m_RX8_39 : Cond.methodLink RX8 39 yX2_begin ∈ hp_tbl := hp_in (List.mem_append_right _ (List.mem_append_right _ (List.mem_append_right _ (List.mem_append_left _ (List.mem_of_getElem? (i := 198) (by decide +kernel)))))) rfl
set_option maxRecDepth 100000 in
theorem m_RX8_44 : Cond.methodLink RX8 44 yX2_load ∈ hp_tbl := hp_in (List.mem_append_right _ (List.mem_append_right _ (List.mem_append_right _ (List.mem_append_left _ (List.mem_of_getElem? (i := 223) (by decide +kernel)))))) rfl
set_option maxRecDepth 100000 in
theorem m_RX8_71 : Cond.methodLink RX8 71 yX8_goMember ∈ hp_tbl := hp_in (List.mem_append_right _ (List.mem_append_right _ (List.mem_append_right _ (List.mem_append_left _ (List.mem_of_getElem? (i := 227) (by decide +kernel)))))) rfl
set_option maxRecDepth 100000 in
theorem m_RX8_82 : Cond.methodLink RX8 82 yX8_lose ∈ hp_tbl := hp_in (List.mem_append_right _ (List.mem_append_right _ (List.mem_append_right _ (List.mem_append_right _ (List.mem_append_left _ (List.mem_of_getElem? (i := 109) (by decide +kernel))))))) rfl
set_option maxRecDepth 100000 in
theorem m_RX8_90 : Cond.methodLink RX8 90 yX7_placeOf ∈ hp_tbl := hp_in (List.mem_append_right _ (List.mem_append_right _ (List.mem_append_right _ (List.mem_append_left _ (List.mem_of_getElem? (i := 231) (by decide +kernel)))))) rfl
set_option maxRecDepth 100000 in
theorem m_RX8_107 : Cond.methodLink RX8 107 yX1_reckon ∈ hp_tbl := hp_in (List.mem_append_right _ (List.mem_append_right _ (List.mem_append_right _ (List.mem_append_left _ (List.mem_of_getElem? (i := 235) (by decide +kernel)))))) rfl
set_option maxRecDepth 100000 in
theorem m_RX8_113 : Cond.methodLink RX8 113 yX8_canDo ∈ hp_tbl := hp_in (List.mem_append_right _ (List.mem_append_right _ (List.mem_append_right _ (List.mem_append_right _ (List.mem_append_left _ (List.mem_of_getElem? (i := 22) (by decide +kernel))))))) rfl
set_option maxRecDepth 100000 in
theorem m_RX8_117 : Cond.methodLink RX8 117 yX8_goWays ∈ hp_tbl := hp_in (List.mem_append_right _ (List.mem_append_right _ (List.mem_append_right _ (List.mem_append_right _ (List.mem_append_left _ (List.mem_of_getElem? (i := 27) (by decide +kernel))))))) rfl
set_option maxRecDepth 100000 in
theorem m_RX8_135 : Cond.methodLink RX8 135 yX7_held ∈ hp_tbl := hp_in (List.mem_append_right _ (List.mem_append_right _ (List.mem_append_right _ (List.mem_append_right _ (List.mem_append_left _ (List.mem_of_getElem? (i := 26) (by decide +kernel))))))) rfl
set_option maxRecDepth 100000 in
theorem m_RX8_142 : Cond.methodLink RX8 142 yJ7_fill_53178 ∈ hp_tbl := hp_in (List.mem_append_right _ (List.mem_append_right _ (List.mem_append_right _ (List.mem_append_right _ (List.mem_append_left _ (List.mem_of_getElem? (i := 31) (by decide +kernel))))))) rfl
set_option maxRecDepth 100000 in
theorem m_RX8_148 : Cond.methodLink RX8 148 yX7_copy ∈ hp_tbl := hp_in (List.mem_append_right _ (List.mem_append_right _ (List.mem_append_right _ (List.mem_append_right _ (List.mem_append_left _ (List.mem_of_getElem? (i := 32) (by decide +kernel))))))) rfl
set_option maxRecDepth 100000 in
theorem m_RX8_151 : Cond.methodLink RX8 151 yX8_doActs ∈ hp_tbl := hp_in (List.mem_append_right _ (List.mem_append_right _ (List.mem_append_right _ (List.mem_append_right _ (List.mem_append_left _ (List.mem_of_getElem? (i := 37) (by decide +kernel))))))) rfl
set_option maxRecDepth 100000 in
theorem m_RX8_158 : Cond.methodLink RX8 158 yX7_setPlace ∈ hp_tbl := hp_in (List.mem_append_right _ (List.mem_append_right _ (List.mem_append_right _ (List.mem_append_right _ (List.mem_append_left _ (List.mem_of_getElem? (i := 72) (by decide +kernel))))))) rfl
set_option maxRecDepth 100000 in
theorem m_RX8_161 : Cond.methodLink RX8 161 yX8_takeAlike ∈ hp_tbl := hp_in (List.mem_append_right _ (List.mem_append_right _ (List.mem_append_right _ (List.mem_append_right _ (List.mem_append_left _ (List.mem_of_getElem? (i := 77) (by decide +kernel))))))) rfl
set_option maxRecDepth 100000 in
theorem m_RX8_165 : Cond.methodLink RX8 165 yX2_mover ∈ hp_tbl := hp_in (List.mem_append_right _ (List.mem_append_right _ (List.mem_append_right _ (List.mem_append_right _ (List.mem_append_left _ (List.mem_of_getElem? (i := 85) (by decide +kernel))))))) rfl
set_option maxRecDepth 100000 in
theorem m_RX8_169 : Cond.methodLink RX8 169 yX2_addMove ∈ hp_tbl := hp_in (List.mem_append_right _ (List.mem_append_right _ (List.mem_append_right _ (List.mem_append_right _ (List.mem_append_left _ (List.mem_of_getElem? (i := 88) (by decide +kernel))))))) rfl
set_option maxRecDepth 100000 in
theorem m_RX8_173 : Cond.methodLink RX8 173 yX2_noteFault ∈ hp_tbl := hp_in (List.mem_append_right _ (List.mem_append_right _ (List.mem_append_right _ (List.mem_append_right _ (List.mem_append_left _ (List.mem_of_getElem? (i := 92) (by decide +kernel))))))) rfl
set_option maxRecDepth 100000 in
theorem m_RX8_177 : Cond.methodLink RX8 177 yX8_pickNext ∈ hp_tbl := hp_in (List.mem_append_right _ (List.mem_append_right _ (List.mem_append_right _ (List.mem_append_right _ (List.mem_append_left _ (List.mem_of_getElem? (i := 96) (by decide +kernel))))))) rfl
set_option maxRecDepth 100000 in
theorem m_RX8_183 : Cond.methodLink RX8 183 yX8_giveShared ∈ hp_tbl := hp_in (List.mem_append_right _ (List.mem_append_right _ (List.mem_append_right _ (List.mem_append_right _ (List.mem_append_left _ (List.mem_of_getElem? (i := 41) (by decide +kernel))))))) rfl
set_option maxRecDepth 100000 in
theorem m_RX8_187 : Cond.methodLink RX8 187 yX8_giveOwn ∈ hp_tbl := hp_in (List.mem_append_right _ (List.mem_append_right _ (List.mem_append_right _ (List.mem_append_right _ (List.mem_append_left _ (List.mem_of_getElem? (i := 50) (by decide +kernel))))))) rfl
set_option maxRecDepth 100000 in
theorem m_RX8_191 : Cond.methodLink RX8 191 yX8_send ∈ hp_tbl := hp_in (List.mem_append_right _ (List.mem_append_right _ (List.mem_append_right _ (List.mem_append_right _ (List.mem_append_left _ (List.mem_of_getElem? (i := 55) (by decide +kernel))))))) rfl
set_option maxRecDepth 100000 in
theorem m_RX8_194 : Cond.methodLink RX8 194 yX7_take ∈ hp_tbl := hp_in (List.mem_append_right _ (List.mem_append_right _ (List.mem_append_right _ (List.mem_append_right _ (List.mem_append_left _ (List.mem_of_getElem? (i := 64) (by decide +kernel))))))) rfl
set_option maxRecDepth 100000 in
theorem m_RX8_197 : Cond.methodLink RX8 197 yX7_letterAt ∈ hp_tbl := hp_in (List.mem_append_right _ (List.mem_append_right _ (List.mem_append_right _ (List.mem_append_right _ (List.mem_append_left _ (List.mem_of_getElem? (i := 68) (by decide +kernel))))))) rfl
set_option maxRecDepth 100000 in
theorem m_RX8_204 : Cond.methodLink RX8 204 yX10_allows ∈ hp_tbl := hp_in (List.mem_append_right _ (List.mem_append_right _ (List.mem_append_right _ (List.mem_append_right _ (List.mem_append_left _ (List.mem_of_getElem? (i := 45) (by decide +kernel))))))) rfl
set_option maxRecDepth 100000 in
theorem m_RX8_209 : Cond.methodLink RX8 209 yX7_setShared ∈ hp_tbl := hp_in (List.mem_append_right _ (List.mem_append_right _ (List.mem_append_right _ (List.mem_append_right _ (List.mem_append_left _ (List.mem_of_getElem? (i := 49) (by decide +kernel))))))) rfl
set_option maxRecDepth 100000 in
theorem m_RX8_215 : Cond.methodLink RX8 215 yX7_setOwn ∈ hp_tbl := hp_in (List.mem_append_right _ (List.mem_append_right _ (List.mem_append_right _ (List.mem_append_right _ (List.mem_append_left _ (List.mem_of_getElem? (i := 54) (by decide +kernel))))))) rfl
set_option maxRecDepth 100000 in
theorem m_RX8_221 : Cond.methodLink RX8 221 yX7_put ∈ hp_tbl := hp_in (List.mem_append_right _ (List.mem_append_right _ (List.mem_append_right _ (List.mem_append_right _ (List.mem_append_left _ (List.mem_of_getElem? (i := 60) (by decide +kernel))))))) rfl
set_option maxRecDepth 100000 in
theorem m_RX8_227 : Cond.methodLink RX8 227 yX7_nextUnlike ∈ hp_tbl := hp_in (List.mem_append_right _ (List.mem_append_right _ (List.mem_append_right _ (List.mem_append_right _ (List.mem_append_left _ (List.mem_of_getElem? (i := 100) (by decide +kernel))))))) rfl
set_option maxRecDepth 100000 in
theorem m_RX8_233 : Cond.methodLink RX8 233 yX7_arrange ∈ hp_tbl := hp_in (List.mem_append_right _ (List.mem_append_right _ (List.mem_append_right _ (List.mem_append_right _ (List.mem_append_left _ (List.mem_of_getElem? (i := 81) (by decide +kernel))))))) rfl
set_option maxRecDepth 100000 in
theorem m_RX12_156 : Cond.methodLink RX12 156 yX12_in ∈ hp_tbl := hp_in (List.mem_append_right _ (List.mem_append_right _ (List.mem_append_right _ (List.mem_append_right _ (List.mem_append_right _ (List.mem_append_right _ (List.mem_append_left _ (List.mem_of_getElem? (i := 93) (by decide +kernel))))))))) rfl
set_option maxRecDepth 100000 in
theorem m_RX12_174 : Cond.methodLink RX12 174 yX12_isValue ∈ hp_tbl := hp_in (List.mem_append_right _ (List.mem_append_right _ (List.mem_append_right _ (List.mem_append_right _ (List.mem_append_right _ (List.mem_append_right _ (List.mem_append_left _ (List.mem_of_getElem? (i := 90) (by decide +kernel))))))))) rfl
set_option maxRecDepth 100000 in
theorem m_RX12_180 : Cond.methodLink RX12 180 yX12_over ∈ hp_tbl := hp_in (List.mem_append_right _ (List.mem_append_right _ (List.mem_append_right _ (List.mem_append_right _ (List.mem_append_right _ (List.mem_append_right _ (List.mem_append_left _ (List.mem_of_getElem? (i := 96) (by decide +kernel))))))))) rfl
set_option maxRecDepth 100000 in
theorem m_RX12_186 : Cond.methodLink RX12 186 yX12_isRole ∈ hp_tbl := hp_in (List.mem_append_right _ (List.mem_append_right _ (List.mem_append_right _ (List.mem_append_right _ (List.mem_append_right _ (List.mem_append_right _ (List.mem_append_left _ (List.mem_of_getElem? (i := 108) (by decide +kernel))))))))) rfl
set_option maxRecDepth 100000 in
theorem m_RX12_196 : Cond.methodLink RX12 196 yX12_isChannel ∈ hp_tbl := hp_in (List.mem_append_right _ (List.mem_append_right _ (List.mem_append_right _ (List.mem_append_right _ (List.mem_append_right _ (List.mem_append_right _ (List.mem_append_left _ (List.mem_of_getElem? (i := 128) (by decide +kernel))))))))) rfl
set_option maxRecDepth 100000 in
theorem m_RX12_199 : Cond.methodLink RX12 199 yX12_isExpr ∈ hp_tbl := hp_in (List.mem_append_right _ (List.mem_append_right _ (List.mem_append_right _ (List.mem_append_right _ (List.mem_append_right _ (List.mem_append_right _ (List.mem_append_left _ (List.mem_of_getElem? (i := 132) (by decide +kernel))))))))) rfl
set_option maxRecDepth 100000 in
theorem m_RX12_202 : Cond.methodLink RX12 202 yX12_isThere ∈ hp_tbl := hp_in (List.mem_append_right _ (List.mem_append_right _ (List.mem_append_right _ (List.mem_append_right _ (List.mem_append_right _ (List.mem_append_right _ (List.mem_append_left _ (List.mem_of_getElem? (i := 124) (by decide +kernel))))))))) rfl
set_option maxRecDepth 100000 in
theorem m_RX12_212 : Cond.methodLink RX12 212 yX12_memberAt ∈ hp_tbl := hp_in (List.mem_append_right _ (List.mem_append_right _ (List.mem_append_right _ (List.mem_append_right _ (List.mem_append_right _ (List.mem_append_right _ (List.mem_append_left _ (List.mem_of_getElem? (i := 164) (by decide +kernel))))))))) rfl
set_option maxRecDepth 100000 in
theorem m_RX12_216 : Cond.methodLink RX12 216 yX12_cell ∈ hp_tbl := hp_in (List.mem_append_right _ (List.mem_append_right _ (List.mem_append_right _ (List.mem_append_right _ (List.mem_append_right _ (List.mem_append_right _ (List.mem_append_left _ (List.mem_of_getElem? (i := 175) (by decide +kernel))))))))) rfl
set_option maxRecDepth 100000 in
theorem m_RX12_219 : Cond.methodLink RX12 219 yX12_many ∈ hp_tbl := hp_in (List.mem_append_right _ (List.mem_append_right _ (List.mem_append_right _ (List.mem_append_right _ (List.mem_append_right _ (List.mem_append_right _ (List.mem_append_left _ (List.mem_of_getElem? (i := 179) (by decide +kernel))))))))) rfl
set_option maxRecDepth 100000 in
theorem m_RX12_223 : Cond.methodLink RX12 223 yX12_channelAt ∈ hp_tbl := hp_in (List.mem_append_right _ (List.mem_append_right _ (List.mem_append_right _ (List.mem_append_right _ (List.mem_append_right _ (List.mem_append_right _ (List.mem_append_left _ (List.mem_of_getElem? (i := 183) (by decide +kernel))))))))) rfl
set_option maxRecDepth 100000 in
theorem m_RX12_227 : Cond.methodLink RX12 227 yX12_isBehind ∈ hp_tbl := hp_in (List.mem_append_right _ (List.mem_append_right _ (List.mem_append_right _ (List.mem_append_right _ (List.mem_append_right _ (List.mem_append_right _ (List.mem_append_left _ (List.mem_of_getElem? (i := 214) (by decide +kernel))))))))) rfl
set_option maxRecDepth 100000 in
theorem m_RX12_230 : Cond.methodLink RX12 230 yX12_order ∈ hp_tbl := hp_in (List.mem_append_right _ (List.mem_append_right _ (List.mem_append_right _ (List.mem_append_right _ (List.mem_append_right _ (List.mem_append_right _ (List.mem_append_left _ (List.mem_of_getElem? (i := 210) (by decide +kernel))))))))) rfl
set_option maxRecDepth 100000 in
theorem m_RX12_233 : Cond.methodLink RX12 233 yX12_placeOf ∈ hp_tbl := hp_in (List.mem_append_right _ (List.mem_append_right _ (List.mem_append_right _ (List.mem_append_right _ (List.mem_append_right _ (List.mem_append_right _ (List.mem_append_left _ (List.mem_of_getElem? (i := 218) (by decide +kernel))))))))) rfl
set_option maxRecDepth 100000 in
theorem m_RX12_237 : Cond.methodLink RX12 237 yX12_isFirst ∈ hp_tbl := hp_in (List.mem_append_right _ (List.mem_append_right _ (List.mem_append_right _ (List.mem_append_right _ (List.mem_append_right _ (List.mem_append_right _ (List.mem_append_left _ (List.mem_of_getElem? (i := 234) (by decide +kernel))))))))) rfl
set_option maxRecDepth 100000 in
theorem m_RX12_240 : Cond.methodLink RX12 240 yX12_nextChoice ∈ hp_tbl := hp_in (List.mem_append_right _ (List.mem_append_right _ (List.mem_append_right _ (List.mem_append_right _ (List.mem_append_right _ (List.mem_append_right _ (List.mem_append_left _ (List.mem_of_getElem? (i := 230) (by decide +kernel))))))))) rfl
set_option maxRecDepth 100000 in
theorem m_RX12_243 : Cond.methodLink RX12 243 yX12_letterGoes ∈ hp_tbl := hp_in (List.mem_append_right _ (List.mem_append_right _ (List.mem_append_right _ (List.mem_append_right _ (List.mem_append_right _ (List.mem_append_right _ (List.mem_append_left _ (List.mem_of_getElem? (i := 202) (by decide +kernel))))))))) rfl
set_option maxRecDepth 100000 in
theorem m_RX12_262 : Cond.methodLink RX12 262 yX12_take ∈ hp_tbl := hp_in (List.mem_append_right _ (List.mem_append_right _ (List.mem_append_right _ (List.mem_append_right _ (List.mem_append_right _ (List.mem_append_right _ (List.mem_append_left _ (List.mem_of_getElem? (i := 194) (by decide +kernel))))))))) rfl
set_option maxRecDepth 100000 in
theorem m_RX12_266 : Cond.methodLink RX12 266 yX12_isDone ∈ hp_tbl := hp_in (List.mem_append_right _ (List.mem_append_right _ (List.mem_append_right _ (List.mem_append_right _ (List.mem_append_right _ (List.mem_append_right _ (List.mem_append_left _ (List.mem_of_getElem? (i := 198) (by decide +kernel))))))))) rfl
set_option maxRecDepth 100000 in
theorem m_RX12_269 : Cond.methodLink RX12 269 yX12_comes ∈ hp_tbl := hp_in (List.mem_append_right _ (List.mem_append_right _ (List.mem_append_right _ (List.mem_append_right _ (List.mem_append_right _ (List.mem_append_right _ (List.mem_append_left _ (List.mem_of_getElem? (i := 206) (by decide +kernel))))))))) rfl
set_option maxRecDepth 100000 in
theorem m_RX12_272 : Cond.methodLink RX12 272 yX12_fault ∈ hp_tbl := hp_in (List.mem_append_right _ (List.mem_append_right _ (List.mem_append_right _ (List.mem_append_right _ (List.mem_append_right _ (List.mem_append_right _ (List.mem_append_left _ (List.mem_of_getElem? (i := 222) (by decide +kernel))))))))) rfl
set_option maxRecDepth 100000 in
theorem m_RX12_276 : Cond.methodLink RX12 276 yX12_hasNextWay ∈ hp_tbl := hp_in (List.mem_append_right _ (List.mem_append_right _ (List.mem_append_right _ (List.mem_append_right _ (List.mem_append_right _ (List.mem_append_right _ (List.mem_append_left _ (List.mem_of_getElem? (i := 226) (by decide +kernel))))))))) rfl
set_option maxRecDepth 100000 in
theorem m_RX12_280 : Cond.methodLink RX12 280 yX12_reckon ∈ hp_tbl := hp_in (List.mem_append_right _ (List.mem_append_right _ (List.mem_append_right _ (List.mem_append_right _ (List.mem_append_right _ (List.mem_append_right _ (List.mem_append_left _ (List.mem_of_getElem? (i := 171) (by decide +kernel))))))))) rfl
set_option maxRecDepth 100000 in
theorem m_RX12_284 : Cond.methodLink RX12 284 yX12_can ∈ hp_tbl := hp_in (List.mem_append_right _ (List.mem_append_right _ (List.mem_append_right _ (List.mem_append_right _ (List.mem_append_right _ (List.mem_append_right _ (List.mem_append_left _ (List.mem_of_getElem? (i := 186) (by decide +kernel))))))))) rfl
set_option maxRecDepth 100000 in
theorem m_RX12_287 : Cond.methodLink RX12 287 yX12_goWays ∈ hp_tbl := hp_in (List.mem_append_right _ (List.mem_append_right _ (List.mem_append_right _ (List.mem_append_right _ (List.mem_append_right _ (List.mem_append_right _ (List.mem_append_left _ (List.mem_of_getElem? (i := 190) (by decide +kernel))))))))) rfl
set_option maxRecDepth 100000 in
theorem m_RX12_290 : Cond.methodLink RX12 290 yX12_use ∈ hp_tbl := hp_in (List.mem_append_right _ (List.mem_append_right _ (List.mem_append_right _ (List.mem_append_right _ (List.mem_append_right _ (List.mem_append_right _ (List.mem_append_left _ (List.mem_of_getElem? (i := 160) (by decide +kernel))))))))) rfl
set_option maxRecDepth 100000 in
theorem m_RX12_293 : Cond.methodLink RX12 293 yX12_isFit ∈ hp_tbl := hp_in (List.mem_append_right _ (List.mem_append_right _ (List.mem_append_right _ (List.mem_append_right _ (List.mem_append_right _ (List.mem_append_right _ (List.mem_append_left _ (List.mem_of_getElem? (i := 156) (by decide +kernel))))))))) rfl
set_option maxRecDepth 100000 in
theorem m_RX12_296 : Cond.methodLink RX12 296 yX12_maySearch ∈ hp_tbl := hp_in (List.mem_append_right _ (List.mem_append_right _ (List.mem_append_right _ (List.mem_append_right _ (List.mem_append_right _ (List.mem_append_right _ (List.mem_append_left _ (List.mem_of_getElem? (i := 152) (by decide +kernel))))))))) rfl
set_option maxRecDepth 100000 in
theorem m_RX12_300 : Cond.methodLink RX12 300 yX12_goThrough ∈ hp_tbl := hp_in (List.mem_append_right _ (List.mem_append_right _ (List.mem_append_right _ (List.mem_append_right _ (List.mem_append_right _ (List.mem_append_right _ (List.mem_append_left _ (List.mem_of_getElem? (i := 167) (by decide +kernel))))))))) rfl
set_option maxRecDepth 100000 in
theorem m_RX12_303 : Cond.methodLink RX12 303 yX12_hasStates ∈ hp_tbl := hp_in (List.mem_append_right _ (List.mem_append_right _ (List.mem_append_right _ (List.mem_append_right _ (List.mem_append_right _ (List.mem_append_right _ (List.mem_append_right _ (List.mem_of_getElem? (i := 2) (by decide +kernel))))))))) rfl
set_option maxRecDepth 100000 in
theorem m_RX12_306 : Cond.methodLink RX12 306 yX12_isState ∈ hp_tbl := hp_in (List.mem_append_right _ (List.mem_append_right _ (List.mem_append_right _ (List.mem_append_right _ (List.mem_append_right _ (List.mem_append_right _ (List.mem_append_right _ (List.mem_of_getElem? (i := 6) (by decide +kernel))))))))) rfl
set_option maxRecDepth 100000 in
theorem m_RX12_310 : Cond.methodLink RX12 310 yX12_isMember ∈ hp_tbl := hp_in (List.mem_append_right _ (List.mem_append_right _ (List.mem_append_right _ (List.mem_append_right _ (List.mem_append_right _ (List.mem_append_right _ (List.mem_append_right _ (List.mem_of_getElem? (i := 15) (by decide +kernel))))))))) rfl
set_option maxRecDepth 100000 in
theorem m_RX12_313 : Cond.methodLink RX12 313 yX12_movesOf ∈ hp_tbl := hp_in (List.mem_append_right _ (List.mem_append_right _ (List.mem_append_right _ (List.mem_append_right _ (List.mem_append_right _ (List.mem_append_right _ (List.mem_append_right _ (List.mem_of_getElem? (i := 31) (by decide +kernel))))))))) rfl
set_option maxRecDepth 100000 in
theorem m_RX12_316 : Cond.methodLink RX12 316 yX12_isStuck ∈ hp_tbl := hp_in (List.mem_append_right _ (List.mem_append_right _ (List.mem_append_right _ (List.mem_append_right _ (List.mem_append_right _ (List.mem_append_right _ (List.mem_append_right _ (List.mem_of_getElem? (i := 51) (by decide +kernel))))))))) rfl
set_option maxRecDepth 100000 in
theorem m_RX12_319 : Cond.methodLink RX12 319 yX12_hasTurn ∈ hp_tbl := hp_in (List.mem_append_right _ (List.mem_append_right _ (List.mem_append_right _ (List.mem_append_right _ (List.mem_append_right _ (List.mem_append_right _ (List.mem_append_right _ (List.mem_of_getElem? (i := 91) (by decide +kernel))))))))) rfl
set_option maxRecDepth 100000 in
theorem m_RX12_322 : Cond.methodLink RX12 322 yX12_goAhead ∈ hp_tbl := hp_in (List.mem_append_right _ (List.mem_append_right _ (List.mem_append_right _ (List.mem_append_right _ (List.mem_append_right _ (List.mem_append_right _ (List.mem_append_right _ (List.mem_of_getElem? (i := 75) (by decide +kernel))))))))) rfl
set_option maxRecDepth 100000 in
theorem m_RX12_326 : Cond.methodLink RX12 326 yX12_goBack ∈ hp_tbl := hp_in (List.mem_append_right _ (List.mem_append_right _ (List.mem_append_right _ (List.mem_append_right _ (List.mem_append_right _ (List.mem_append_right _ (List.mem_append_right _ (List.mem_of_getElem? (i := 79) (by decide +kernel))))))))) rfl
set_option maxRecDepth 100000 in
theorem m_RX12_329 : Cond.methodLink RX12 329 yX12_hasMove ∈ hp_tbl := hp_in (List.mem_append_right _ (List.mem_append_right _ (List.mem_append_right _ (List.mem_append_right _ (List.mem_append_right _ (List.mem_append_right _ (List.mem_append_right _ (List.mem_of_getElem? (i := 83) (by decide +kernel))))))))) rfl
set_option maxRecDepth 100000 in
theorem m_RX12_332 : Cond.methodLink RX12 332 yX12_isFair ∈ hp_tbl := hp_in (List.mem_append_right _ (List.mem_append_right _ (List.mem_append_right _ (List.mem_append_right _ (List.mem_append_right _ (List.mem_append_right _ (List.mem_append_right _ (List.mem_of_getElem? (i := 87) (by decide +kernel))))))))) rfl
set_option maxRecDepth 100000 in
theorem m_RX12_335 : Cond.methodLink RX12 335 yX12_takeWhereNot ∈ hp_tbl := hp_in (List.mem_append_right _ (List.mem_append_right _ (List.mem_append_right _ (List.mem_append_right _ (List.mem_append_right _ (List.mem_append_right _ (List.mem_append_right _ (List.mem_of_getElem? (i := 67) (by decide +kernel))))))))) rfl
set_option maxRecDepth 100000 in
theorem m_RX12_338 : Cond.methodLink RX12 338 yX12_findKnots ∈ hp_tbl := hp_in (List.mem_append_right _ (List.mem_append_right _ (List.mem_append_right _ (List.mem_append_right _ (List.mem_append_right _ (List.mem_append_right _ (List.mem_append_right _ (List.mem_of_getElem? (i := 71) (by decide +kernel))))))))) rfl
set_option maxRecDepth 100000 in
theorem m_RX12_345 : Cond.methodLink RX12 345 yX12_isSeenAlike ∈ hp_tbl := hp_in (List.mem_append_right _ (List.mem_append_right _ (List.mem_append_right _ (List.mem_append_right _ (List.mem_append_right _ (List.mem_append_right _ (List.mem_append_right _ (List.mem_of_getElem? (i := 111) (by decide +kernel))))))))) rfl
set_option maxRecDepth 100000 in
theorem m_RX12_348 : Cond.methodLink RX12 348 yX12_findSigns ∈ hp_tbl := hp_in (List.mem_append_right _ (List.mem_append_right _ (List.mem_append_right _ (List.mem_append_right _ (List.mem_append_right _ (List.mem_append_right _ (List.mem_append_right _ (List.mem_of_getElem? (i := 115) (by decide +kernel))))))))) rfl
set_option maxRecDepth 100000 in
theorem m_RX12_351 : Cond.methodLink RX12 351 yX12_hasSameSigns ∈ hp_tbl := hp_in (List.mem_append_right _ (List.mem_append_right _ (List.mem_append_right _ (List.mem_append_right _ (List.mem_append_right _ (List.mem_append_right _ (List.mem_append_right _ (List.mem_of_getElem? (i := 119) (by decide +kernel))))))))) rfl
set_option maxRecDepth 100000 in
theorem m_RX12_354 : Cond.methodLink RX12 354 yX12_divide ∈ hp_tbl := hp_in (List.mem_append_right _ (List.mem_append_right _ (List.mem_append_right _ (List.mem_append_right _ (List.mem_append_right _ (List.mem_append_right _ (List.mem_append_right _ (List.mem_of_getElem? (i := 107) (by decide +kernel))))))))) rfl
set_option maxRecDepth 100000 in
theorem m_RJ7_13 : Cond.methodLink RJ7 13 yJ7_rangeCheck_23922 ∈ hp_tbl := hp_in (List.mem_append_right _ (List.mem_append_right _ (List.mem_append_right _ (List.mem_append_right _ (List.mem_append_right _ (List.mem_append_left _ (List.mem_of_getElem? (i := 115) (by decide +kernel)))))))) rfl
set_option maxRecDepth 100000 in
theorem m_RX8_218 : (RX8, 218, yX11_isDigit, "ProtocolBench") ∈ hp_nst := by decide +kernel
set_option maxRecDepth 100000 in
theorem fl_RX0_11 : Cond.fieldLink RX0 11 "ProtocolBench$Division" "partOf" "[I" ∈ hp_tbl := hp_in (List.mem_append_right _ (List.mem_append_right _ (List.mem_append_left _ (List.mem_of_getElem? (i := 184) (by decide +kernel))))) rfl
set_option maxRecDepth 100000 in
theorem g_RX0_11 : hp_Fg RX0 11 0 2 := ⟨_, _, _, _, vcl_0, in_0, by decide, rfl, fl_RX0_11⟩
set_option maxRecDepth 100000 in
theorem p_RX0_11 : hp_Fp RX0 11 0 2 (.array .int) := ⟨_, _, _, _, tyX0, vcl_0, in_0, by decide, rfl, fl_RX0_11, tyX0_ok, nmX0, rfl, rfl⟩
set_option maxRecDepth 100000 in
theorem fl_RX0_15 : Cond.fieldLink RX0 15 "ProtocolBench$Division" "observedExpr" "[I" ∈ hp_tbl := hp_in (List.mem_append_right _ (List.mem_append_right _ (List.mem_append_left _ (List.mem_of_getElem? (i := 188) (by decide +kernel))))) rfl
set_option maxRecDepth 100000 in
theorem g_RX0_15 : hp_Fg RX0 15 0 5 := ⟨_, _, _, _, vcl_0, in_0, by decide, rfl, fl_RX0_15⟩
set_option maxRecDepth 100000 in
theorem fl_RX0_18 : Cond.fieldLink RX0 18 "ProtocolBench$Division" "keys" "[I" ∈ hp_tbl := hp_in (List.mem_append_right _ (List.mem_append_right _ (List.mem_append_left _ (List.mem_of_getElem? (i := 189) (by decide +kernel))))) rfl
set_option maxRecDepth 100000 in
theorem g_RX0_18 : hp_Fg RX0 18 0 6 := ⟨_, _, _, _, vcl_0, in_0, by decide, rfl, fl_RX0_18⟩
set_option maxRecDepth 100000 in
theorem fl_RX0_21 : Cond.fieldLink RX0 21 "ProtocolBench$Division" "newPartOf" "[I" ∈ hp_tbl := hp_in (List.mem_append_right _ (List.mem_append_right _ (List.mem_append_left _ (List.mem_of_getElem? (i := 190) (by decide +kernel))))) rfl
set_option maxRecDepth 100000 in
theorem g_RX0_21 : hp_Fg RX0 21 0 7 := ⟨_, _, _, _, vcl_0, in_0, by decide, rfl, fl_RX0_21⟩
set_option maxRecDepth 100000 in
theorem p_RX0_21 : hp_Fp RX0 21 0 7 (.array .int) := ⟨_, _, _, _, tyX0, vcl_0, in_0, by decide, rfl, fl_RX0_21, tyX0_ok, nmX0, rfl, rfl⟩
set_option maxRecDepth 100000 in
theorem fl_RX0_24 : Cond.fieldLink RX0 24 "ProtocolBench$Division" "firstNew" "[I" ∈ hp_tbl := hp_in (List.mem_append_right _ (List.mem_append_right _ (List.mem_append_left _ (List.mem_of_getElem? (i := 191) (by decide +kernel))))) rfl
set_option maxRecDepth 100000 in
theorem g_RX0_24 : hp_Fg RX0 24 0 8 := ⟨_, _, _, _, vcl_0, in_0, by decide, rfl, fl_RX0_24⟩
set_option maxRecDepth 100000 in
theorem fl_RX0_27 : Cond.fieldLink RX0 27 "ProtocolBench$Division" "nextNew" "[I" ∈ hp_tbl := hp_in (List.mem_append_right _ (List.mem_append_right _ (List.mem_append_left _ (List.mem_of_getElem? (i := 192) (by decide +kernel))))) rfl
set_option maxRecDepth 100000 in
theorem g_RX0_27 : hp_Fg RX0 27 0 9 := ⟨_, _, _, _, vcl_0, in_0, by decide, rfl, fl_RX0_27⟩
set_option maxRecDepth 100000 in
theorem fl_RX0_30 : Cond.fieldLink RX0 30 "ProtocolBench$Division" "leastState" "[I" ∈ hp_tbl := hp_in (List.mem_append_right _ (List.mem_append_right _ (List.mem_append_left _ (List.mem_of_getElem? (i := 193) (by decide +kernel))))) rfl
set_option maxRecDepth 100000 in
theorem g_RX0_30 : hp_Fg RX0 30 0 10 := ⟨_, _, _, _, vcl_0, in_0, by decide, rfl, fl_RX0_30⟩
set_option maxRecDepth 100000 in
theorem fl_RX0_33 : Cond.fieldLink RX0 33 "ProtocolBench$Division" "graph" "LProtocolBench$Graph;" ∈ hp_tbl := hp_in (List.mem_append_right _ (List.mem_append_right _ (List.mem_append_left _ (List.mem_of_getElem? (i := 186) (by decide +kernel))))) rfl
set_option maxRecDepth 100000 in
theorem g_RX0_33 : hp_Fg RX0 33 0 3 := ⟨_, _, _, _, vcl_0, in_0, by decide, rfl, fl_RX0_33⟩
set_option maxRecDepth 100000 in
theorem fl_RX0_37 : Cond.fieldLink RX0 37 "ProtocolBench$Division" "reckoner" "LProtocolBench$Reckoner;" ∈ hp_tbl := hp_in (List.mem_append_right _ (List.mem_append_right _ (List.mem_append_left _ (List.mem_of_getElem? (i := 187) (by decide +kernel))))) rfl
set_option maxRecDepth 100000 in
theorem g_RX0_37 : hp_Fg RX0 37 0 4 := ⟨_, _, _, _, vcl_0, in_0, by decide, rfl, fl_RX0_37⟩
set_option maxRecDepth 100000 in
theorem fl_RX0_41 : Cond.fieldLink RX0 41 "ProtocolBench$Division" "observed" "I" ∈ hp_tbl := hp_in (List.mem_append_right _ (List.mem_append_right _ (List.mem_append_left _ (List.mem_of_getElem? (i := 180) (by decide +kernel))))) rfl
set_option maxRecDepth 100000 in
theorem g_RX0_41 : hp_Fg RX0 41 0 0 := ⟨_, _, _, _, vcl_0, in_0, by decide, rfl, fl_RX0_41⟩
set_option maxRecDepth 100000 in
theorem p_RX0_41 : hp_Fp RX0 41 0 0 .int := ⟨_, _, _, _, tyX0, vcl_0, in_0, by decide, rfl, fl_RX0_41, tyX0_ok, nmX0, rfl, rfl⟩
set_option maxRecDepth 100000 in
theorem fl_RX0_45 : Cond.fieldLink RX0 45 "ProtocolBench$Division" "isMade" "Z" ∈ hp_tbl := hp_in (List.mem_append_right _ (List.mem_append_right _ (List.mem_append_left _ (List.mem_of_getElem? (i := 194) (by decide +kernel))))) rfl
set_option maxRecDepth 100000 in
theorem g_RX0_45 : hp_Fg RX0 45 0 11 := ⟨_, _, _, _, vcl_0, in_0, by decide, rfl, fl_RX0_45⟩
set_option maxRecDepth 100000 in
theorem p_RX0_45 : hp_Fp RX0 45 0 11 .boolean := ⟨_, _, _, _, tyX0, vcl_0, in_0, by decide, rfl, fl_RX0_45, tyX0_ok, nmX0, rfl, rfl⟩
set_option maxRecDepth 100000 in
theorem fl_RX0_55 : Cond.fieldLink RX0 55 "ProtocolBench$Division" "parts" "I" ∈ hp_tbl := hp_in (List.mem_append_right _ (List.mem_append_right _ (List.mem_append_left _ (List.mem_of_getElem? (i := 182) (by decide +kernel))))) rfl
set_option maxRecDepth 100000 in
theorem g_RX0_55 : hp_Fg RX0 55 0 1 := ⟨_, _, _, _, vcl_0, in_0, by decide, rfl, fl_RX0_55⟩
set_option maxRecDepth 100000 in
theorem p_RX0_55 : hp_Fp RX0 55 0 1 .int := ⟨_, _, _, _, tyX0, vcl_0, in_0, by decide, rfl, fl_RX0_55, tyX0_ok, nmX0, rfl, rfl⟩
set_option maxRecDepth 100000 in
theorem fl_RX0_76 : Cond.fieldLink RX0 76 "ProtocolBench$Graph" "states" "I" ∈ hp_tbl := hp_in (List.mem_append_right _ (List.mem_append_left _ (List.mem_of_getElem? (i := 233) (by decide +kernel)))) rfl
set_option maxRecDepth 100000 in
theorem g_RX0_76 : hp_Fg RX0 76 2 2 := ⟨_, _, _, _, vcl_2, in_2, by decide, rfl, fl_RX0_76⟩
set_option maxRecDepth 100000 in
theorem fl_RX0_91 : Cond.fieldLink RX0 91 "ProtocolBench$Graph" "firstMove" "[I" ∈ hp_tbl := hp_in (List.mem_append_right _ (List.mem_append_right _ (List.mem_append_left _ (List.mem_of_getElem? (i := 8) (by decide +kernel))))) rfl
set_option maxRecDepth 100000 in
theorem g_RX0_91 : hp_Fg RX0 91 2 8 := ⟨_, _, _, _, vcl_2, in_2, by decide, rfl, fl_RX0_91⟩
set_option maxRecDepth 100000 in
theorem fl_RX0_94 : Cond.fieldLink RX0 94 "ProtocolBench$Graph" "moveTo" "[I" ∈ hp_tbl := hp_in (List.mem_append_right _ (List.mem_append_right _ (List.mem_append_left _ (List.mem_of_getElem? (i := 12) (by decide +kernel))))) rfl
set_option maxRecDepth 100000 in
theorem g_RX0_94 : hp_Fg RX0 94 2 9 := ⟨_, _, _, _, vcl_2, in_2, by decide, rfl, fl_RX0_94⟩
set_option maxRecDepth 100000 in
theorem fl_RX1_9 : Cond.fieldLink RX1 9 "ProtocolBench$Exprs" "value" "[I" ∈ hp_tbl := hp_in (List.mem_append_right _ (List.mem_append_left _ (List.mem_of_getElem? (i := 84) (by decide +kernel)))) rfl
set_option maxRecDepth 100000 in
theorem g_RX1_9 : hp_Fg RX1 9 1 0 := ⟨_, _, _, _, vcl_1, in_1, by decide, rfl, fl_RX1_9⟩
set_option maxRecDepth 100000 in
theorem fl_RX1_15 : Cond.fieldLink RX1 15 "ProtocolBench$Exprs" "kinds" "[I" ∈ hp_tbl := hp_in (List.mem_append_right _ (List.mem_append_left _ (List.mem_of_getElem? (i := 90) (by decide +kernel)))) rfl
set_option maxRecDepth 100000 in
theorem g_RX1_15 : hp_Fg RX1 15 1 3 := ⟨_, _, _, _, vcl_1, in_1, by decide, rfl, fl_RX1_15⟩
set_option maxRecDepth 100000 in
theorem fl_RX1_18 : Cond.fieldLink RX1 18 "ProtocolBench$Exprs" "a" "[I" ∈ hp_tbl := hp_in (List.mem_append_right _ (List.mem_append_left _ (List.mem_of_getElem? (i := 91) (by decide +kernel)))) rfl
set_option maxRecDepth 100000 in
theorem g_RX1_18 : hp_Fg RX1 18 1 4 := ⟨_, _, _, _, vcl_1, in_1, by decide, rfl, fl_RX1_18⟩
set_option maxRecDepth 100000 in
theorem fl_RX1_21 : Cond.fieldLink RX1 21 "ProtocolBench$Exprs" "b" "[I" ∈ hp_tbl := hp_in (List.mem_append_right _ (List.mem_append_left _ (List.mem_of_getElem? (i := 92) (by decide +kernel)))) rfl
set_option maxRecDepth 100000 in
theorem g_RX1_21 : hp_Fg RX1 21 1 5 := ⟨_, _, _, _, vcl_1, in_1, by decide, rfl, fl_RX1_21⟩
set_option maxRecDepth 100000 in
theorem fl_RX1_24 : Cond.fieldLink RX1 24 "ProtocolBench$Exprs" "c" "[I" ∈ hp_tbl := hp_in (List.mem_append_right _ (List.mem_append_left _ (List.mem_of_getElem? (i := 93) (by decide +kernel)))) rfl
set_option maxRecDepth 100000 in
theorem g_RX1_24 : hp_Fg RX1 24 1 6 := ⟨_, _, _, _, vcl_1, in_1, by decide, rfl, fl_RX1_24⟩
set_option maxRecDepth 100000 in
theorem fl_RX1_27 : Cond.fieldLink RX1 27 "ProtocolBench$Exprs" "uses" "[I" ∈ hp_tbl := hp_in (List.mem_append_right _ (List.mem_append_left _ (List.mem_of_getElem? (i := 94) (by decide +kernel)))) rfl
set_option maxRecDepth 100000 in
theorem g_RX1_27 : hp_Fg RX1 27 1 7 := ⟨_, _, _, _, vcl_1, in_1, by decide, rfl, fl_RX1_27⟩
set_option maxRecDepth 100000 in
theorem fl_RX1_30 : Cond.fieldLink RX1 30 "ProtocolBench$Exprs" "ofMember" "[Z" ∈ hp_tbl := hp_in (List.mem_append_right _ (List.mem_append_left _ (List.mem_of_getElem? (i := 95) (by decide +kernel)))) rfl
set_option maxRecDepth 100000 in
theorem g_RX1_30 : hp_Fg RX1 30 1 8 := ⟨_, _, _, _, vcl_1, in_1, by decide, rfl, fl_RX1_30⟩
set_option maxRecDepth 100000 in
theorem fl_RX1_34 : Cond.fieldLink RX1 34 "ProtocolBench$Exprs" "roles" "LProtocolBench$Roles;" ∈ hp_tbl := hp_in (List.mem_append_right _ (List.mem_append_left _ (List.mem_of_getElem? (i := 89) (by decide +kernel)))) rfl
set_option maxRecDepth 100000 in
theorem g_RX1_34 : hp_Fg RX1 34 1 2 := ⟨_, _, _, _, vcl_1, in_1, by decide, rfl, fl_RX1_34⟩
set_option maxRecDepth 100000 in
theorem fl_RX1_38 : Cond.fieldLink RX1 38 "ProtocolBench$Exprs" "told" "I" ∈ hp_tbl := hp_in (List.mem_append_right _ (List.mem_append_left _ (List.mem_of_getElem? (i := 87) (by decide +kernel)))) rfl
set_option maxRecDepth 100000 in
theorem g_RX1_38 : hp_Fg RX1 38 1 1 := ⟨_, _, _, _, vcl_1, in_1, by decide, rfl, fl_RX1_38⟩
set_option maxRecDepth 100000 in
theorem p_RX1_38 : hp_Fp RX1 38 1 1 .int := ⟨_, _, _, _, tyX1, vcl_1, in_1, by decide, rfl, fl_RX1_38, tyX1_ok, nmX1, rfl, rfl⟩
set_option maxRecDepth 100000 in
theorem fl_RX1_42 : Cond.fieldLink RX1 42 "ProtocolBench$Exprs" "namesMembers" "Z" ∈ hp_tbl := hp_in (List.mem_append_right _ (List.mem_append_left _ (List.mem_of_getElem? (i := 96) (by decide +kernel)))) rfl
set_option maxRecDepth 100000 in
theorem g_RX1_42 : hp_Fg RX1 42 1 9 := ⟨_, _, _, _, vcl_1, in_1, by decide, rfl, fl_RX1_42⟩
set_option maxRecDepth 100000 in
theorem p_RX1_42 : hp_Fp RX1 42 1 9 .boolean := ⟨_, _, _, _, tyX1, vcl_1, in_1, by decide, rfl, fl_RX1_42, tyX1_ok, nmX1, rfl, rfl⟩
set_option maxRecDepth 100000 in
theorem fl_RX1_70 : Cond.fieldLink RX1 70 "ProtocolBench$Roles" "members" "[I" ∈ hp_tbl := hp_in (List.mem_append_right _ (List.mem_append_left _ (List.mem_of_getElem? (i := 65) (by decide +kernel)))) rfl
set_option maxRecDepth 100000 in
theorem g_RX1_70 : hp_Fg RX1 70 6 0 := ⟨_, _, _, _, vcl_6, in_6, by decide, rfl, fl_RX1_70⟩
set_option maxRecDepth 100000 in
theorem fl_RX10_9 : Cond.fieldLink RX10 9 "ProtocolBench$Variables" "most" "I" ∈ hp_tbl := hp_in (List.mem_append_right _ (List.mem_append_left _ (List.mem_of_getElem? (i := 40) (by decide +kernel)))) rfl
set_option maxRecDepth 100000 in
theorem g_RX10_9 : hp_Fg RX10 9 10 1 := ⟨_, _, _, _, vcl_10, in_10, by decide, rfl, fl_RX10_9⟩
set_option maxRecDepth 100000 in
theorem fl_RX10_15 : Cond.fieldLink RX10 15 "ProtocolBench$Variables" "told" "[I" ∈ hp_tbl := hp_in (List.mem_append_right _ (List.mem_append_left _ (List.mem_of_getElem? (i := 37) (by decide +kernel)))) rfl
set_option maxRecDepth 100000 in
theorem g_RX10_15 : hp_Fg RX10 15 10 0 := ⟨_, _, _, _, vcl_10, in_10, by decide, rfl, fl_RX10_15⟩
set_option maxRecDepth 100000 in
theorem fl_RX10_19 : Cond.fieldLink RX10 19 "ProtocolBench$Variables" "low" "[I" ∈ hp_tbl := hp_in (List.mem_append_right _ (List.mem_append_left _ (List.mem_of_getElem? (i := 41) (by decide +kernel)))) rfl
set_option maxRecDepth 100000 in
theorem g_RX10_19 : hp_Fg RX10 19 10 2 := ⟨_, _, _, _, vcl_10, in_10, by decide, rfl, fl_RX10_19⟩
set_option maxRecDepth 100000 in
theorem fl_RX10_22 : Cond.fieldLink RX10 22 "ProtocolBench$Variables" "high" "[I" ∈ hp_tbl := hp_in (List.mem_append_right _ (List.mem_append_left _ (List.mem_of_getElem? (i := 42) (by decide +kernel)))) rfl
set_option maxRecDepth 100000 in
theorem g_RX10_22 : hp_Fg RX10 22 10 3 := ⟨_, _, _, _, vcl_10, in_10, by decide, rfl, fl_RX10_22⟩
set_option maxRecDepth 100000 in
theorem fl_RX10_25 : Cond.fieldLink RX10 25 "ProtocolBench$Variables" "first" "[I" ∈ hp_tbl := hp_in (List.mem_append_right _ (List.mem_append_left _ (List.mem_of_getElem? (i := 43) (by decide +kernel)))) rfl
set_option maxRecDepth 100000 in
theorem g_RX10_25 : hp_Fg RX10 25 10 4 := ⟨_, _, _, _, vcl_10, in_10, by decide, rfl, fl_RX10_25⟩
set_option maxRecDepth 100000 in
theorem fl_RX11_12 : Cond.fieldLink RX11 12 "ProtocolBench" "protocol" "LProtocolBench$Protocol;" ∈ hp_tbl := hp_in (List.mem_append_right _ (List.mem_append_right _ (List.mem_append_left _ (List.mem_of_getElem? (i := 220) (by decide +kernel))))) rfl
set_option maxRecDepth 100000 in
theorem g_RX11_12 : hp_Fg RX11 12 11 0 := ⟨_, _, _, _, vcl_11, in_11, by decide, rfl, fl_RX11_12⟩
set_option maxRecDepth 100000 in
theorem fl_RX11_19 : Cond.fieldLink RX11 19 "ProtocolBench" "graph" "LProtocolBench$Graph;" ∈ hp_tbl := hp_in (List.mem_append_right _ (List.mem_append_right _ (List.mem_append_left _ (List.mem_of_getElem? (i := 221) (by decide +kernel))))) rfl
set_option maxRecDepth 100000 in
theorem g_RX11_19 : hp_Fg RX11 19 11 1 := ⟨_, _, _, _, vcl_11, in_11, by decide, rfl, fl_RX11_19⟩
set_option maxRecDepth 100000 in
theorem fl_RX11_28 : Cond.fieldLink RX11 28 "ProtocolBench" "searcher" "LProtocolBench$Searcher;" ∈ hp_tbl := hp_in (List.mem_append_right _ (List.mem_append_right _ (List.mem_append_left _ (List.mem_of_getElem? (i := 222) (by decide +kernel))))) rfl
set_option maxRecDepth 100000 in
theorem g_RX11_28 : hp_Fg RX11 28 11 2 := ⟨_, _, _, _, vcl_11, in_11, by decide, rfl, fl_RX11_28⟩
set_option maxRecDepth 100000 in
theorem fl_RX11_35 : Cond.fieldLink RX11 35 "ProtocolBench" "reckoner" "LProtocolBench$Reckoner;" ∈ hp_tbl := hp_in (List.mem_append_right _ (List.mem_append_right _ (List.mem_append_left _ (List.mem_of_getElem? (i := 223) (by decide +kernel))))) rfl
set_option maxRecDepth 100000 in
theorem g_RX11_35 : hp_Fg RX11 35 11 3 := ⟨_, _, _, _, vcl_11, in_11, by decide, rfl, fl_RX11_35⟩
set_option maxRecDepth 100000 in
theorem fl_RX11_44 : Cond.fieldLink RX11 44 "ProtocolBench" "knots" "LProtocolBench$Knots;" ∈ hp_tbl := hp_in (List.mem_append_right _ (List.mem_append_right _ (List.mem_append_left _ (List.mem_of_getElem? (i := 224) (by decide +kernel))))) rfl
set_option maxRecDepth 100000 in
theorem g_RX11_44 : hp_Fg RX11 44 11 4 := ⟨_, _, _, _, vcl_11, in_11, by decide, rfl, fl_RX11_44⟩
set_option maxRecDepth 100000 in
theorem fl_RX11_53 : Cond.fieldLink RX11 53 "ProtocolBench" "division" "LProtocolBench$Division;" ∈ hp_tbl := hp_in (List.mem_append_right _ (List.mem_append_right _ (List.mem_append_left _ (List.mem_of_getElem? (i := 225) (by decide +kernel))))) rfl
set_option maxRecDepth 100000 in
theorem g_RX11_53 : hp_Fg RX11 53 11 5 := ⟨_, _, _, _, vcl_11, in_11, by decide, rfl, fl_RX11_53⟩
set_option maxRecDepth 100000 in
theorem fl_RX11_63 : Cond.fieldLink RX11 63 "ProtocolBench$Protocol" "shared" "LProtocolBench$Variables;" ∈ hp_tbl := hp_in (List.mem_append_right _ (List.mem_append_left _ (List.mem_of_getElem? (i := 171) (by decide +kernel)))) rfl
set_option maxRecDepth 100000 in
theorem g_RX11_63 : hp_Fg RX11 63 4 0 := ⟨_, _, _, _, vcl_4, in_4, by decide, rfl, fl_RX11_63⟩
set_option maxRecDepth 100000 in
theorem fl_RX11_78 : Cond.fieldLink RX11 78 "ProtocolBench$Protocol" "roles" "LProtocolBench$Roles;" ∈ hp_tbl := hp_in (List.mem_append_right _ (List.mem_append_left _ (List.mem_of_getElem? (i := 177) (by decide +kernel)))) rfl
set_option maxRecDepth 100000 in
theorem g_RX11_78 : hp_Fg RX11 78 4 2 := ⟨_, _, _, _, vcl_4, in_4, by decide, rfl, fl_RX11_78⟩
set_option maxRecDepth 100000 in
theorem fl_RX11_82 : Cond.fieldLink RX11 82 "ProtocolBench$Roles" "told" "I" ∈ hp_tbl := hp_in (List.mem_append_right _ (List.mem_append_left _ (List.mem_of_getElem? (i := 67) (by decide +kernel)))) rfl
set_option maxRecDepth 100000 in
theorem g_RX11_82 : hp_Fg RX11 82 6 1 := ⟨_, _, _, _, vcl_6, in_6, by decide, rfl, fl_RX11_82⟩
set_option maxRecDepth 100000 in
theorem fl_RX11_94 : Cond.fieldLink RX11 94 "ProtocolBench$Protocol" "owns" "LProtocolBench$Variables;" ∈ hp_tbl := hp_in (List.mem_append_right _ (List.mem_append_left _ (List.mem_of_getElem? (i := 174) (by decide +kernel)))) rfl
set_option maxRecDepth 100000 in
theorem g_RX11_94 : hp_Fg RX11 94 4 1 := ⟨_, _, _, _, vcl_4, in_4, by decide, rfl, fl_RX11_94⟩
set_option maxRecDepth 100000 in
theorem fl_RX11_112 : Cond.fieldLink RX11 112 "ProtocolBench$Protocol" "channels" "I" ∈ hp_tbl := hp_in (List.mem_append_right _ (List.mem_append_left _ (List.mem_of_getElem? (i := 195) (by decide +kernel)))) rfl
set_option maxRecDepth 100000 in
theorem g_RX11_112 : hp_Fg RX11 112 4 8 := ⟨_, _, _, _, vcl_4, in_4, by decide, rfl, fl_RX11_112⟩
set_option maxRecDepth 100000 in
theorem fl_RX11_123 : Cond.fieldLink RX11 123 "ProtocolBench$Protocol" "exprs" "LProtocolBench$Exprs;" ∈ hp_tbl := hp_in (List.mem_append_right _ (List.mem_append_left _ (List.mem_of_getElem? (i := 183) (by decide +kernel)))) rfl
set_option maxRecDepth 100000 in
theorem g_RX11_123 : hp_Fg RX11 123 4 3 := ⟨_, _, _, _, vcl_4, in_4, by decide, rfl, fl_RX11_123⟩
set_option maxRecDepth 100000 in
theorem fl_RX11_127 : Cond.fieldLink RX11 127 "ProtocolBench$Exprs" "told" "I" ∈ hp_tbl := hp_in (List.mem_append_right _ (List.mem_append_left _ (List.mem_of_getElem? (i := 88) (by decide +kernel)))) rfl
set_option maxRecDepth 100000 in
theorem g_RX11_127 : hp_Fg RX11 127 1 1 := ⟨_, _, _, _, vcl_1, in_1, by decide, rfl, fl_RX11_127⟩
set_option maxRecDepth 100000 in
theorem fl_RX11_132 : Cond.fieldLink RX11 132 "ProtocolBench$Protocol" "steps" "LProtocolBench$Steps;" ∈ hp_tbl := hp_in (List.mem_append_right _ (List.mem_append_left _ (List.mem_of_getElem? (i := 186) (by decide +kernel)))) rfl
set_option maxRecDepth 100000 in
theorem g_RX11_132 : hp_Fg RX11 132 4 4 := ⟨_, _, _, _, vcl_4, in_4, by decide, rfl, fl_RX11_132⟩
set_option maxRecDepth 100000 in
theorem fl_RX11_136 : Cond.fieldLink RX11 136 "ProtocolBench$Steps" "told" "I" ∈ hp_tbl := hp_in (List.mem_append_right _ (List.mem_append_left _ (List.mem_of_getElem? (i := 150) (by decide +kernel)))) rfl
set_option maxRecDepth 100000 in
theorem g_RX11_136 : hp_Fg RX11 136 9 8 := ⟨_, _, _, _, vcl_9, in_9, by decide, rfl, fl_RX11_136⟩
set_option maxRecDepth 100000 in
theorem fl_RX11_147 : Cond.fieldLink RX11 147 "ProtocolBench$Steps" "acts" "[I" ∈ hp_tbl := hp_in (List.mem_append_right _ (List.mem_append_left _ (List.mem_of_getElem? (i := 138) (by decide +kernel)))) rfl
set_option maxRecDepth 100000 in
theorem g_RX11_147 : hp_Fg RX11 147 9 4 := ⟨_, _, _, _, vcl_9, in_9, by decide, rfl, fl_RX11_147⟩
set_option maxRecDepth 100000 in
theorem fl_RX11_154 : Cond.fieldLink RX11 154 "ProtocolBench$Protocol" "takesAlike" "Z" ∈ hp_tbl := hp_in (List.mem_append_right _ (List.mem_append_left _ (List.mem_of_getElem? (i := 197) (by decide +kernel)))) rfl
set_option maxRecDepth 100000 in
theorem g_RX11_154 : hp_Fg RX11 154 4 9 := ⟨_, _, _, _, vcl_4, in_4, by decide, rfl, fl_RX11_154⟩
set_option maxRecDepth 100000 in
theorem p_RX11_154 : hp_Fp RX11 154 4 9 .boolean := ⟨_, _, _, _, tyX4, vcl_4, in_4, by decide, rfl, fl_RX11_154, tyX4_ok, nmX4, rfl, rfl⟩
set_option maxRecDepth 100000 in
theorem fl_RX11_162 : Cond.fieldLink RX11 162 "ProtocolBench$Graph" "isThere" "Z" ∈ hp_tbl := hp_in (List.mem_append_right _ (List.mem_append_left _ (List.mem_of_getElem? (i := 227) (by decide +kernel)))) rfl
set_option maxRecDepth 100000 in
theorem g_RX11_162 : hp_Fg RX11 162 2 0 := ⟨_, _, _, _, vcl_2, in_2, by decide, rfl, fl_RX11_162⟩
set_option maxRecDepth 100000 in
theorem fl_RX11_168 : Cond.fieldLink RX11 168 "ProtocolBench$Graph" "states" "I" ∈ hp_tbl := hp_in (List.mem_append_right _ (List.mem_append_left _ (List.mem_of_getElem? (i := 234) (by decide +kernel)))) rfl
set_option maxRecDepth 100000 in
theorem g_RX11_168 : hp_Fg RX11 168 2 2 := ⟨_, _, _, _, vcl_2, in_2, by decide, rfl, fl_RX11_168⟩
set_option maxRecDepth 100000 in
theorem fl_RX11_171 : Cond.fieldLink RX11 171 "ProtocolBench$Graph" "isSpent" "Z" ∈ hp_tbl := hp_in (List.mem_append_right _ (List.mem_append_left _ (List.mem_of_getElem? (i := 230) (by decide +kernel)))) rfl
set_option maxRecDepth 100000 in
theorem g_RX11_171 : hp_Fg RX11 171 2 1 := ⟨_, _, _, _, vcl_2, in_2, by decide, rfl, fl_RX11_171⟩
set_option maxRecDepth 100000 in
theorem fl_RX11_226 : Cond.fieldLink RX11 226 "ProtocolBench$Graph" "firstMove" "[I" ∈ hp_tbl := hp_in (List.mem_append_right _ (List.mem_append_right _ (List.mem_append_left _ (List.mem_of_getElem? (i := 9) (by decide +kernel))))) rfl
set_option maxRecDepth 100000 in
theorem g_RX11_226 : hp_Fg RX11 226 2 8 := ⟨_, _, _, _, vcl_2, in_2, by decide, rfl, fl_RX11_226⟩
set_option maxRecDepth 100000 in
theorem fl_RX11_229 : Cond.fieldLink RX11 229 "ProtocolBench$Graph" "moveTo" "[I" ∈ hp_tbl := hp_in (List.mem_append_right _ (List.mem_append_right _ (List.mem_append_left _ (List.mem_of_getElem? (i := 13) (by decide +kernel))))) rfl
set_option maxRecDepth 100000 in
theorem g_RX11_229 : hp_Fg RX11 229 2 9 := ⟨_, _, _, _, vcl_2, in_2, by decide, rfl, fl_RX11_229⟩
set_option maxRecDepth 100000 in
theorem fl_RX11_241 : Cond.fieldLink RX11 241 "ProtocolBench$Graph" "wayLength" "[I" ∈ hp_tbl := hp_in (List.mem_append_right _ (List.mem_append_right _ (List.mem_append_left _ (List.mem_of_getElem? (i := 15) (by decide +kernel))))) rfl
set_option maxRecDepth 100000 in
theorem g_RX11_241 : hp_Fg RX11 241 2 10 := ⟨_, _, _, _, vcl_2, in_2, by decide, rfl, fl_RX11_241⟩
set_option maxRecDepth 100000 in
theorem fl_RX11_244 : Cond.fieldLink RX11 244 "ProtocolBench$Graph" "cameFrom" "[I" ∈ hp_tbl := hp_in (List.mem_append_right _ (List.mem_append_right _ (List.mem_append_left _ (List.mem_of_getElem? (i := 17) (by decide +kernel))))) rfl
set_option maxRecDepth 100000 in
theorem g_RX11_244 : hp_Fg RX11 244 2 11 := ⟨_, _, _, _, vcl_2, in_2, by decide, rfl, fl_RX11_244⟩
set_option maxRecDepth 100000 in
theorem fl_RX11_247 : Cond.fieldLink RX11 247 "ProtocolBench$Graph" "cameBy" "[I" ∈ hp_tbl := hp_in (List.mem_append_right _ (List.mem_append_right _ (List.mem_append_left _ (List.mem_of_getElem? (i := 19) (by decide +kernel))))) rfl
set_option maxRecDepth 100000 in
theorem g_RX11_247 : hp_Fg RX11 247 2 12 := ⟨_, _, _, _, vcl_2, in_2, by decide, rfl, fl_RX11_247⟩
set_option maxRecDepth 100000 in
theorem fl_RX11_257 : Cond.fieldLink RX11 257 "ProtocolBench$Graph" "faultState" "I" ∈ hp_tbl := hp_in (List.mem_append_right _ (List.mem_append_left _ (List.mem_of_getElem? (i := 238) (by decide +kernel)))) rfl
set_option maxRecDepth 100000 in
theorem g_RX11_257 : hp_Fg RX11 257 2 4 := ⟨_, _, _, _, vcl_2, in_2, by decide, rfl, fl_RX11_257⟩
set_option maxRecDepth 100000 in
theorem fl_RX11_260 : Cond.fieldLink RX11 260 "ProtocolBench$Graph" "faultRole" "I" ∈ hp_tbl := hp_in (List.mem_append_right _ (List.mem_append_right _ (List.mem_append_left _ (List.mem_of_getElem? (i := 0) (by decide +kernel))))) rfl
set_option maxRecDepth 100000 in
theorem g_RX11_260 : hp_Fg RX11 260 2 5 := ⟨_, _, _, _, vcl_2, in_2, by decide, rfl, fl_RX11_260⟩
set_option maxRecDepth 100000 in
theorem fl_RX11_263 : Cond.fieldLink RX11 263 "ProtocolBench$Graph" "faultMember" "I" ∈ hp_tbl := hp_in (List.mem_append_right _ (List.mem_append_right _ (List.mem_append_left _ (List.mem_of_getElem? (i := 2) (by decide +kernel))))) rfl
set_option maxRecDepth 100000 in
theorem g_RX11_263 : hp_Fg RX11 263 2 6 := ⟨_, _, _, _, vcl_2, in_2, by decide, rfl, fl_RX11_263⟩
set_option maxRecDepth 100000 in
theorem fl_RX11_266 : Cond.fieldLink RX11 266 "ProtocolBench$Graph" "faultStep" "I" ∈ hp_tbl := hp_in (List.mem_append_right _ (List.mem_append_right _ (List.mem_append_left _ (List.mem_of_getElem? (i := 4) (by decide +kernel))))) rfl
set_option maxRecDepth 100000 in
theorem g_RX11_266 : hp_Fg RX11 266 2 7 := ⟨_, _, _, _, vcl_2, in_2, by decide, rfl, fl_RX11_266⟩
set_option maxRecDepth 100000 in
theorem fl_RX11_283 : Cond.fieldLink RX11 283 "ProtocolBench$Division" "observed" "I" ∈ hp_tbl := hp_in (List.mem_append_right _ (List.mem_append_right _ (List.mem_append_left _ (List.mem_of_getElem? (i := 181) (by decide +kernel))))) rfl
set_option maxRecDepth 100000 in
theorem g_RX11_283 : hp_Fg RX11 283 0 0 := ⟨_, _, _, _, vcl_0, in_0, by decide, rfl, fl_RX11_283⟩
set_option maxRecDepth 100000 in
theorem fl_RX11_292 : Cond.fieldLink RX11 292 "ProtocolBench$Division" "parts" "I" ∈ hp_tbl := hp_in (List.mem_append_right _ (List.mem_append_right _ (List.mem_append_left _ (List.mem_of_getElem? (i := 183) (by decide +kernel))))) rfl
set_option maxRecDepth 100000 in
theorem g_RX11_292 : hp_Fg RX11 292 0 1 := ⟨_, _, _, _, vcl_0, in_0, by decide, rfl, fl_RX11_292⟩
set_option maxRecDepth 100000 in
theorem fl_RX11_295 : Cond.fieldLink RX11 295 "ProtocolBench$Division" "partOf" "[I" ∈ hp_tbl := hp_in (List.mem_append_right _ (List.mem_append_right _ (List.mem_append_left _ (List.mem_of_getElem? (i := 185) (by decide +kernel))))) rfl
set_option maxRecDepth 100000 in
theorem g_RX11_295 : hp_Fg RX11 295 0 2 := ⟨_, _, _, _, vcl_0, in_0, by decide, rfl, fl_RX11_295⟩
set_option maxRecDepth 100000 in
theorem fl_RX11_298 : Cond.fieldLink RX11 298 "ProtocolBench$Variables" "told" "[I" ∈ hp_tbl := hp_in (List.mem_append_right _ (List.mem_append_left _ (List.mem_of_getElem? (i := 39) (by decide +kernel)))) rfl
set_option maxRecDepth 100000 in
theorem g_RX11_298 : hp_Fg RX11 298 10 0 := ⟨_, _, _, _, vcl_10, in_10, by decide, rfl, fl_RX11_298⟩
set_option maxRecDepth 100000 in
theorem fl_RX12_7 : Cond.fieldLink RX12 7 "ProtocolBenchModel" "sharedLow" "[I" ∈ hp_tbl := hp_in (List.mem_append_right _ (List.mem_append_right _ (List.mem_append_right _ (List.mem_append_right _ (List.mem_append_right _ (List.mem_append_left _ (List.mem_of_getElem? (i := 133) (by decide +kernel)))))))) rfl
set_option maxRecDepth 100000 in
theorem g_RX12_7 : hp_Fg RX12 7 12 1 := ⟨_, _, _, _, vcl_12, in_12, by decide, rfl, fl_RX12_7⟩
set_option maxRecDepth 100000 in
theorem fl_RX12_13 : Cond.fieldLink RX12 13 "ProtocolBenchModel" "sharedHigh" "[I" ∈ hp_tbl := hp_in (List.mem_append_right _ (List.mem_append_right _ (List.mem_append_right _ (List.mem_append_right _ (List.mem_append_right _ (List.mem_append_left _ (List.mem_of_getElem? (i := 134) (by decide +kernel)))))))) rfl
set_option maxRecDepth 100000 in
theorem g_RX12_13 : hp_Fg RX12 13 12 2 := ⟨_, _, _, _, vcl_12, in_12, by decide, rfl, fl_RX12_13⟩
set_option maxRecDepth 100000 in
theorem fl_RX12_16 : Cond.fieldLink RX12 16 "ProtocolBenchModel" "sharedFirst" "[I" ∈ hp_tbl := hp_in (List.mem_append_right _ (List.mem_append_right _ (List.mem_append_right _ (List.mem_append_right _ (List.mem_append_right _ (List.mem_append_left _ (List.mem_of_getElem? (i := 135) (by decide +kernel)))))))) rfl
set_option maxRecDepth 100000 in
theorem g_RX12_16 : hp_Fg RX12 16 12 3 := ⟨_, _, _, _, vcl_12, in_12, by decide, rfl, fl_RX12_16⟩
set_option maxRecDepth 100000 in
theorem fl_RX12_19 : Cond.fieldLink RX12 19 "ProtocolBenchModel" "members" "[I" ∈ hp_tbl := hp_in (List.mem_append_right _ (List.mem_append_right _ (List.mem_append_right _ (List.mem_append_right _ (List.mem_append_right _ (List.mem_append_left _ (List.mem_of_getElem? (i := 137) (by decide +kernel)))))))) rfl
set_option maxRecDepth 100000 in
theorem g_RX12_19 : hp_Fg RX12 19 12 5 := ⟨_, _, _, _, vcl_12, in_12, by decide, rfl, fl_RX12_19⟩
set_option maxRecDepth 100000 in
theorem fl_RX12_22 : Cond.fieldLink RX12 22 "ProtocolBenchModel" "owns" "[I" ∈ hp_tbl := hp_in (List.mem_append_right _ (List.mem_append_right _ (List.mem_append_right _ (List.mem_append_right _ (List.mem_append_right _ (List.mem_append_left _ (List.mem_of_getElem? (i := 138) (by decide +kernel)))))))) rfl
set_option maxRecDepth 100000 in
theorem g_RX12_22 : hp_Fg RX12 22 12 6 := ⟨_, _, _, _, vcl_12, in_12, by decide, rfl, fl_RX12_22⟩
set_option maxRecDepth 100000 in
theorem fl_RX12_25 : Cond.fieldLink RX12 25 "ProtocolBenchModel" "ownLow" "[I" ∈ hp_tbl := hp_in (List.mem_append_right _ (List.mem_append_right _ (List.mem_append_right _ (List.mem_append_right _ (List.mem_append_right _ (List.mem_append_left _ (List.mem_of_getElem? (i := 139) (by decide +kernel)))))))) rfl
set_option maxRecDepth 100000 in
theorem g_RX12_25 : hp_Fg RX12 25 12 7 := ⟨_, _, _, _, vcl_12, in_12, by decide, rfl, fl_RX12_25⟩
set_option maxRecDepth 100000 in
theorem fl_RX12_28 : Cond.fieldLink RX12 28 "ProtocolBenchModel" "ownHigh" "[I" ∈ hp_tbl := hp_in (List.mem_append_right _ (List.mem_append_right _ (List.mem_append_right _ (List.mem_append_right _ (List.mem_append_right _ (List.mem_append_left _ (List.mem_of_getElem? (i := 140) (by decide +kernel)))))))) rfl
set_option maxRecDepth 100000 in
theorem g_RX12_28 : hp_Fg RX12 28 12 8 := ⟨_, _, _, _, vcl_12, in_12, by decide, rfl, fl_RX12_28⟩
set_option maxRecDepth 100000 in
theorem fl_RX12_31 : Cond.fieldLink RX12 31 "ProtocolBenchModel" "ownFirst" "[I" ∈ hp_tbl := hp_in (List.mem_append_right _ (List.mem_append_right _ (List.mem_append_right _ (List.mem_append_right _ (List.mem_append_right _ (List.mem_append_left _ (List.mem_of_getElem? (i := 141) (by decide +kernel)))))))) rfl
set_option maxRecDepth 100000 in
theorem g_RX12_31 : hp_Fg RX12 31 12 9 := ⟨_, _, _, _, vcl_12, in_12, by decide, rfl, fl_RX12_31⟩
set_option maxRecDepth 100000 in
theorem fl_RX12_34 : Cond.fieldLink RX12 34 "ProtocolBenchModel" "isEnd" "[Z" ∈ hp_tbl := hp_in (List.mem_append_right _ (List.mem_append_right _ (List.mem_append_right _ (List.mem_append_right _ (List.mem_append_right _ (List.mem_append_left _ (List.mem_of_getElem? (i := 142) (by decide +kernel)))))))) rfl
set_option maxRecDepth 100000 in
theorem g_RX12_34 : hp_Fg RX12 34 12 10 := ⟨_, _, _, _, vcl_12, in_12, by decide, rfl, fl_RX12_34⟩
set_option maxRecDepth 100000 in
theorem fl_RX12_38 : Cond.fieldLink RX12 38 "ProtocolBenchModel" "roomOf" "[I" ∈ hp_tbl := hp_in (List.mem_append_right _ (List.mem_append_right _ (List.mem_append_right _ (List.mem_append_right _ (List.mem_append_right _ (List.mem_append_left _ (List.mem_of_getElem? (i := 144) (by decide +kernel)))))))) rfl
set_option maxRecDepth 100000 in
theorem g_RX12_38 : hp_Fg RX12 38 12 12 := ⟨_, _, _, _, vcl_12, in_12, by decide, rfl, fl_RX12_38⟩
set_option maxRecDepth 100000 in
theorem fl_RX12_41 : Cond.fieldLink RX12 41 "ProtocolBenchModel" "isLoose" "[Z" ∈ hp_tbl := hp_in (List.mem_append_right _ (List.mem_append_right _ (List.mem_append_right _ (List.mem_append_right _ (List.mem_append_right _ (List.mem_append_left _ (List.mem_of_getElem? (i := 145) (by decide +kernel)))))))) rfl
set_option maxRecDepth 100000 in
theorem g_RX12_41 : hp_Fg RX12 41 12 13 := ⟨_, _, _, _, vcl_12, in_12, by decide, rfl, fl_RX12_41⟩
set_option maxRecDepth 100000 in
theorem fl_RX12_44 : Cond.fieldLink RX12 44 "ProtocolBenchModel" "loses" "[Z" ∈ hp_tbl := hp_in (List.mem_append_right _ (List.mem_append_right _ (List.mem_append_right _ (List.mem_append_right _ (List.mem_append_right _ (List.mem_append_left _ (List.mem_of_getElem? (i := 146) (by decide +kernel)))))))) rfl
set_option maxRecDepth 100000 in
theorem g_RX12_44 : hp_Fg RX12 44 12 14 := ⟨_, _, _, _, vcl_12, in_12, by decide, rfl, fl_RX12_44⟩
set_option maxRecDepth 100000 in
theorem fl_RX12_47 : Cond.fieldLink RX12 47 "ProtocolBenchModel" "kindOf" "[I" ∈ hp_tbl := hp_in (List.mem_append_right _ (List.mem_append_right _ (List.mem_append_right _ (List.mem_append_right _ (List.mem_append_right _ (List.mem_append_left _ (List.mem_of_getElem? (i := 148) (by decide +kernel)))))))) rfl
set_option maxRecDepth 100000 in
theorem g_RX12_47 : hp_Fg RX12 47 12 16 := ⟨_, _, _, _, vcl_12, in_12, by decide, rfl, fl_RX12_47⟩
set_option maxRecDepth 100000 in
theorem fl_RX12_50 : Cond.fieldLink RX12 50 "ProtocolBenchModel" "aOf" "[I" ∈ hp_tbl := hp_in (List.mem_append_right _ (List.mem_append_right _ (List.mem_append_right _ (List.mem_append_right _ (List.mem_append_right _ (List.mem_append_left _ (List.mem_of_getElem? (i := 149) (by decide +kernel)))))))) rfl
set_option maxRecDepth 100000 in
theorem g_RX12_50 : hp_Fg RX12 50 12 17 := ⟨_, _, _, _, vcl_12, in_12, by decide, rfl, fl_RX12_50⟩
set_option maxRecDepth 100000 in
theorem fl_RX12_53 : Cond.fieldLink RX12 53 "ProtocolBenchModel" "bOf" "[I" ∈ hp_tbl := hp_in (List.mem_append_right _ (List.mem_append_right _ (List.mem_append_right _ (List.mem_append_right _ (List.mem_append_right _ (List.mem_append_left _ (List.mem_of_getElem? (i := 150) (by decide +kernel)))))))) rfl
set_option maxRecDepth 100000 in
theorem g_RX12_53 : hp_Fg RX12 53 12 18 := ⟨_, _, _, _, vcl_12, in_12, by decide, rfl, fl_RX12_53⟩
set_option maxRecDepth 100000 in
theorem fl_RX12_56 : Cond.fieldLink RX12 56 "ProtocolBenchModel" "cOf" "[I" ∈ hp_tbl := hp_in (List.mem_append_right _ (List.mem_append_right _ (List.mem_append_right _ (List.mem_append_right _ (List.mem_append_right _ (List.mem_append_left _ (List.mem_of_getElem? (i := 151) (by decide +kernel)))))))) rfl
set_option maxRecDepth 100000 in
theorem g_RX12_56 : hp_Fg RX12 56 12 19 := ⟨_, _, _, _, vcl_12, in_12, by decide, rfl, fl_RX12_56⟩
set_option maxRecDepth 100000 in
theorem fl_RX12_59 : Cond.fieldLink RX12 59 "ProtocolBenchModel" "isOwned" "[Z" ∈ hp_tbl := hp_in (List.mem_append_right _ (List.mem_append_right _ (List.mem_append_right _ (List.mem_append_right _ (List.mem_append_right _ (List.mem_append_left _ (List.mem_of_getElem? (i := 152) (by decide +kernel)))))))) rfl
set_option maxRecDepth 100000 in
theorem g_RX12_59 : hp_Fg RX12 59 12 20 := ⟨_, _, _, _, vcl_12, in_12, by decide, rfl, fl_RX12_59⟩
set_option maxRecDepth 100000 in
theorem fl_RX12_62 : Cond.fieldLink RX12 62 "ProtocolBenchModel" "stepRole" "[I" ∈ hp_tbl := hp_in (List.mem_append_right _ (List.mem_append_right _ (List.mem_append_right _ (List.mem_append_right _ (List.mem_append_right _ (List.mem_append_left _ (List.mem_of_getElem? (i := 154) (by decide +kernel)))))))) rfl
set_option maxRecDepth 100000 in
theorem g_RX12_62 : hp_Fg RX12 62 12 22 := ⟨_, _, _, _, vcl_12, in_12, by decide, rfl, fl_RX12_62⟩
set_option maxRecDepth 100000 in
theorem fl_RX12_65 : Cond.fieldLink RX12 65 "ProtocolBenchModel" "stepFrom" "[I" ∈ hp_tbl := hp_in (List.mem_append_right _ (List.mem_append_right _ (List.mem_append_right _ (List.mem_append_right _ (List.mem_append_right _ (List.mem_append_left _ (List.mem_of_getElem? (i := 155) (by decide +kernel)))))))) rfl
set_option maxRecDepth 100000 in
theorem g_RX12_65 : hp_Fg RX12 65 12 23 := ⟨_, _, _, _, vcl_12, in_12, by decide, rfl, fl_RX12_65⟩
set_option maxRecDepth 100000 in
theorem fl_RX12_68 : Cond.fieldLink RX12 68 "ProtocolBenchModel" "stepTo" "[I" ∈ hp_tbl := hp_in (List.mem_append_right _ (List.mem_append_right _ (List.mem_append_right _ (List.mem_append_right _ (List.mem_append_right _ (List.mem_append_left _ (List.mem_of_getElem? (i := 156) (by decide +kernel)))))))) rfl
set_option maxRecDepth 100000 in
theorem g_RX12_68 : hp_Fg RX12 68 12 24 := ⟨_, _, _, _, vcl_12, in_12, by decide, rfl, fl_RX12_68⟩
set_option maxRecDepth 100000 in
theorem fl_RX12_71 : Cond.fieldLink RX12 71 "ProtocolBenchModel" "stepGuard" "[I" ∈ hp_tbl := hp_in (List.mem_append_right _ (List.mem_append_right _ (List.mem_append_right _ (List.mem_append_right _ (List.mem_append_right _ (List.mem_append_left _ (List.mem_of_getElem? (i := 157) (by decide +kernel)))))))) rfl
set_option maxRecDepth 100000 in
theorem g_RX12_71 : hp_Fg RX12 71 12 25 := ⟨_, _, _, _, vcl_12, in_12, by decide, rfl, fl_RX12_71⟩
set_option maxRecDepth 100000 in
theorem fl_RX12_74 : Cond.fieldLink RX12 74 "ProtocolBenchModel" "actsOf" "[I" ∈ hp_tbl := hp_in (List.mem_append_right _ (List.mem_append_right _ (List.mem_append_right _ (List.mem_append_right _ (List.mem_append_right _ (List.mem_append_left _ (List.mem_of_getElem? (i := 158) (by decide +kernel)))))))) rfl
set_option maxRecDepth 100000 in
theorem g_RX12_74 : hp_Fg RX12 74 12 26 := ⟨_, _, _, _, vcl_12, in_12, by decide, rfl, fl_RX12_74⟩
set_option maxRecDepth 100000 in
theorem fl_RX12_77 : Cond.fieldLink RX12 77 "ProtocolBenchModel" "actKind" "[I" ∈ hp_tbl := hp_in (List.mem_append_right _ (List.mem_append_right _ (List.mem_append_right _ (List.mem_append_right _ (List.mem_append_right _ (List.mem_append_left _ (List.mem_of_getElem? (i := 159) (by decide +kernel)))))))) rfl
set_option maxRecDepth 100000 in
theorem g_RX12_77 : hp_Fg RX12 77 12 27 := ⟨_, _, _, _, vcl_12, in_12, by decide, rfl, fl_RX12_77⟩
set_option maxRecDepth 100000 in
theorem fl_RX12_80 : Cond.fieldLink RX12 80 "ProtocolBenchModel" "actA" "[I" ∈ hp_tbl := hp_in (List.mem_append_right _ (List.mem_append_right _ (List.mem_append_right _ (List.mem_append_right _ (List.mem_append_right _ (List.mem_append_left _ (List.mem_of_getElem? (i := 160) (by decide +kernel)))))))) rfl
set_option maxRecDepth 100000 in
theorem g_RX12_80 : hp_Fg RX12 80 12 28 := ⟨_, _, _, _, vcl_12, in_12, by decide, rfl, fl_RX12_80⟩
set_option maxRecDepth 100000 in
theorem fl_RX12_83 : Cond.fieldLink RX12 83 "ProtocolBenchModel" "actB" "[I" ∈ hp_tbl := hp_in (List.mem_append_right _ (List.mem_append_right _ (List.mem_append_right _ (List.mem_append_right _ (List.mem_append_right _ (List.mem_append_left _ (List.mem_of_getElem? (i := 161) (by decide +kernel)))))))) rfl
set_option maxRecDepth 100000 in
theorem g_RX12_83 : hp_Fg RX12 83 12 29 := ⟨_, _, _, _, vcl_12, in_12, by decide, rfl, fl_RX12_83⟩
set_option maxRecDepth 100000 in
theorem fl_RX12_86 : Cond.fieldLink RX12 86 "ProtocolBenchModel" "observedOf" "[I" ∈ hp_tbl := hp_in (List.mem_append_right _ (List.mem_append_right _ (List.mem_append_right _ (List.mem_append_right _ (List.mem_append_right _ (List.mem_append_left _ (List.mem_of_getElem? (i := 164) (by decide +kernel)))))))) rfl
set_option maxRecDepth 100000 in
theorem g_RX12_86 : hp_Fg RX12 86 12 32 := ⟨_, _, _, _, vcl_12, in_12, by decide, rfl, fl_RX12_86⟩
set_option maxRecDepth 100000 in
theorem fl_RX12_89 : Cond.fieldLink RX12 89 "ProtocolBenchModel" "cells" "[I" ∈ hp_tbl := hp_in (List.mem_append_right _ (List.mem_append_right _ (List.mem_append_right _ (List.mem_append_right _ (List.mem_append_right _ (List.mem_append_left _ (List.mem_of_getElem? (i := 168) (by decide +kernel)))))))) rfl
set_option maxRecDepth 100000 in
theorem g_RX12_89 : hp_Fg RX12 89 12 36 := ⟨_, _, _, _, vcl_12, in_12, by decide, rfl, fl_RX12_89⟩
set_option maxRecDepth 100000 in
theorem fl_RX12_92 : Cond.fieldLink RX12 92 "ProtocolBenchModel" "cameFrom" "[I" ∈ hp_tbl := hp_in (List.mem_append_right _ (List.mem_append_right _ (List.mem_append_right _ (List.mem_append_right _ (List.mem_append_right _ (List.mem_append_left _ (List.mem_of_getElem? (i := 169) (by decide +kernel)))))))) rfl
set_option maxRecDepth 100000 in
theorem g_RX12_92 : hp_Fg RX12 92 12 37 := ⟨_, _, _, _, vcl_12, in_12, by decide, rfl, fl_RX12_92⟩
set_option maxRecDepth 100000 in
theorem fl_RX12_95 : Cond.fieldLink RX12 95 "ProtocolBenchModel" "cameBy" "[I" ∈ hp_tbl := hp_in (List.mem_append_right _ (List.mem_append_right _ (List.mem_append_right _ (List.mem_append_right _ (List.mem_append_right _ (List.mem_append_left _ (List.mem_of_getElem? (i := 170) (by decide +kernel)))))))) rfl
set_option maxRecDepth 100000 in
theorem g_RX12_95 : hp_Fg RX12 95 12 38 := ⟨_, _, _, _, vcl_12, in_12, by decide, rfl, fl_RX12_95⟩
set_option maxRecDepth 100000 in
theorem fl_RX12_98 : Cond.fieldLink RX12 98 "ProtocolBenchModel" "depthOf" "[I" ∈ hp_tbl := hp_in (List.mem_append_right _ (List.mem_append_right _ (List.mem_append_right _ (List.mem_append_right _ (List.mem_append_right _ (List.mem_append_left _ (List.mem_of_getElem? (i := 171) (by decide +kernel)))))))) rfl
set_option maxRecDepth 100000 in
theorem g_RX12_98 : hp_Fg RX12 98 12 39 := ⟨_, _, _, _, vcl_12, in_12, by decide, rfl, fl_RX12_98⟩
set_option maxRecDepth 100000 in
theorem fl_RX12_101 : Cond.fieldLink RX12 101 "ProtocolBenchModel" "firstMove" "[I" ∈ hp_tbl := hp_in (List.mem_append_right _ (List.mem_append_right _ (List.mem_append_right _ (List.mem_append_right _ (List.mem_append_right _ (List.mem_append_left _ (List.mem_of_getElem? (i := 173) (by decide +kernel)))))))) rfl
set_option maxRecDepth 100000 in
theorem g_RX12_101 : hp_Fg RX12 101 12 41 := ⟨_, _, _, _, vcl_12, in_12, by decide, rfl, fl_RX12_101⟩
set_option maxRecDepth 100000 in
theorem fl_RX12_104 : Cond.fieldLink RX12 104 "ProtocolBenchModel" "moveTo" "[I" ∈ hp_tbl := hp_in (List.mem_append_right _ (List.mem_append_right _ (List.mem_append_right _ (List.mem_append_right _ (List.mem_append_right _ (List.mem_append_left _ (List.mem_of_getElem? (i := 174) (by decide +kernel)))))))) rfl
set_option maxRecDepth 100000 in
theorem g_RX12_104 : hp_Fg RX12 104 12 42 := ⟨_, _, _, _, vcl_12, in_12, by decide, rfl, fl_RX12_104⟩
set_option maxRecDepth 100000 in
theorem fl_RX12_107 : Cond.fieldLink RX12 107 "ProtocolBenchModel" "moveRole" "[I" ∈ hp_tbl := hp_in (List.mem_append_right _ (List.mem_append_right _ (List.mem_append_right _ (List.mem_append_right _ (List.mem_append_right _ (List.mem_append_left _ (List.mem_of_getElem? (i := 175) (by decide +kernel)))))))) rfl
set_option maxRecDepth 100000 in
theorem g_RX12_107 : hp_Fg RX12 107 12 43 := ⟨_, _, _, _, vcl_12, in_12, by decide, rfl, fl_RX12_107⟩
set_option maxRecDepth 100000 in
theorem fl_RX12_110 : Cond.fieldLink RX12 110 "ProtocolBenchModel" "moveMember" "[I" ∈ hp_tbl := hp_in (List.mem_append_right _ (List.mem_append_right _ (List.mem_append_right _ (List.mem_append_right _ (List.mem_append_right _ (List.mem_append_left _ (List.mem_of_getElem? (i := 176) (by decide +kernel)))))))) rfl
set_option maxRecDepth 100000 in
theorem g_RX12_110 : hp_Fg RX12 110 12 44 := ⟨_, _, _, _, vcl_12, in_12, by decide, rfl, fl_RX12_110⟩
set_option maxRecDepth 100000 in
theorem fl_RX12_113 : Cond.fieldLink RX12 113 "ProtocolBenchModel" "moveStep" "[I" ∈ hp_tbl := hp_in (List.mem_append_right _ (List.mem_append_right _ (List.mem_append_right _ (List.mem_append_right _ (List.mem_append_right _ (List.mem_append_left _ (List.mem_of_getElem? (i := 177) (by decide +kernel)))))))) rfl
set_option maxRecDepth 100000 in
theorem g_RX12_113 : hp_Fg RX12 113 12 45 := ⟨_, _, _, _, vcl_12, in_12, by decide, rfl, fl_RX12_113⟩
set_option maxRecDepth 100000 in
theorem fl_RX12_116 : Cond.fieldLink RX12 116 "ProtocolBenchModel" "next" "[I" ∈ hp_tbl := hp_in (List.mem_append_right _ (List.mem_append_right _ (List.mem_append_right _ (List.mem_append_right _ (List.mem_append_right _ (List.mem_append_left _ (List.mem_of_getElem? (i := 183) (by decide +kernel)))))))) rfl
set_option maxRecDepth 100000 in
theorem g_RX12_116 : hp_Fg RX12 116 12 51 := ⟨_, _, _, _, vcl_12, in_12, by decide, rfl, fl_RX12_116⟩
set_option maxRecDepth 100000 in
theorem fl_RX12_119 : Cond.fieldLink RX12 119 "ProtocolBenchModel" "told" "[I" ∈ hp_tbl := hp_in (List.mem_append_right _ (List.mem_append_right _ (List.mem_append_right _ (List.mem_append_right _ (List.mem_append_right _ (List.mem_append_left _ (List.mem_of_getElem? (i := 184) (by decide +kernel)))))))) rfl
set_option maxRecDepth 100000 in
theorem g_RX12_119 : hp_Fg RX12 119 12 52 := ⟨_, _, _, _, vcl_12, in_12, by decide, rfl, fl_RX12_119⟩
set_option maxRecDepth 100000 in
theorem fl_RX12_122 : Cond.fieldLink RX12 122 "ProtocolBenchModel" "choice" "[I" ∈ hp_tbl := hp_in (List.mem_append_right _ (List.mem_append_right _ (List.mem_append_right _ (List.mem_append_right _ (List.mem_append_right _ (List.mem_append_left _ (List.mem_of_getElem? (i := 185) (by decide +kernel)))))))) rfl
set_option maxRecDepth 100000 in
theorem g_RX12_122 : hp_Fg RX12 122 12 53 := ⟨_, _, _, _, vcl_12, in_12, by decide, rfl, fl_RX12_122⟩
set_option maxRecDepth 100000 in
theorem fl_RX12_125 : Cond.fieldLink RX12 125 "ProtocolBenchModel" "isUsed" "[Z" ∈ hp_tbl := hp_in (List.mem_append_right _ (List.mem_append_right _ (List.mem_append_right _ (List.mem_append_right _ (List.mem_append_right _ (List.mem_append_left _ (List.mem_of_getElem? (i := 186) (by decide +kernel)))))))) rfl
set_option maxRecDepth 100000 in
theorem g_RX12_125 : hp_Fg RX12 125 12 54 := ⟨_, _, _, _, vcl_12, in_12, by decide, rfl, fl_RX12_125⟩
set_option maxRecDepth 100000 in
theorem fl_RX12_128 : Cond.fieldLink RX12 128 "ProtocolBenchModel" "isIn" "[Z" ∈ hp_tbl := hp_in (List.mem_append_right _ (List.mem_append_right _ (List.mem_append_right _ (List.mem_append_right _ (List.mem_append_right _ (List.mem_append_left _ (List.mem_of_getElem? (i := 187) (by decide +kernel)))))))) rfl
set_option maxRecDepth 100000 in
theorem g_RX12_128 : hp_Fg RX12 128 12 55 := ⟨_, _, _, _, vcl_12, in_12, by decide, rfl, fl_RX12_128⟩
set_option maxRecDepth 100000 in
theorem fl_RX12_131 : Cond.fieldLink RX12 131 "ProtocolBenchModel" "ahead" "[Z" ∈ hp_tbl := hp_in (List.mem_append_right _ (List.mem_append_right _ (List.mem_append_right _ (List.mem_append_right _ (List.mem_append_right _ (List.mem_append_left _ (List.mem_of_getElem? (i := 188) (by decide +kernel)))))))) rfl
set_option maxRecDepth 100000 in
theorem g_RX12_131 : hp_Fg RX12 131 12 56 := ⟨_, _, _, _, vcl_12, in_12, by decide, rfl, fl_RX12_131⟩
set_option maxRecDepth 100000 in
theorem fl_RX12_134 : Cond.fieldLink RX12 134 "ProtocolBenchModel" "behind" "[Z" ∈ hp_tbl := hp_in (List.mem_append_right _ (List.mem_append_right _ (List.mem_append_right _ (List.mem_append_right _ (List.mem_append_right _ (List.mem_append_left _ (List.mem_of_getElem? (i := 189) (by decide +kernel)))))))) rfl
set_option maxRecDepth 100000 in
theorem g_RX12_134 : hp_Fg RX12 134 12 57 := ⟨_, _, _, _, vcl_12, in_12, by decide, rfl, fl_RX12_134⟩
set_option maxRecDepth 100000 in
theorem fl_RX12_137 : Cond.fieldLink RX12 137 "ProtocolBenchModel" "isKnot" "[Z" ∈ hp_tbl := hp_in (List.mem_append_right _ (List.mem_append_right _ (List.mem_append_right _ (List.mem_append_right _ (List.mem_append_right _ (List.mem_append_left _ (List.mem_of_getElem? (i := 190) (by decide +kernel)))))))) rfl
set_option maxRecDepth 100000 in
theorem g_RX12_137 : hp_Fg RX12 137 12 58 := ⟨_, _, _, _, vcl_12, in_12, by decide, rfl, fl_RX12_137⟩
set_option maxRecDepth 100000 in
theorem fl_RX12_140 : Cond.fieldLink RX12 140 "ProtocolBenchModel" "isSeen" "[Z" ∈ hp_tbl := hp_in (List.mem_append_right _ (List.mem_append_right _ (List.mem_append_right _ (List.mem_append_right _ (List.mem_append_right _ (List.mem_append_left _ (List.mem_of_getElem? (i := 191) (by decide +kernel)))))))) rfl
set_option maxRecDepth 100000 in
theorem g_RX12_140 : hp_Fg RX12 140 12 59 := ⟨_, _, _, _, vcl_12, in_12, by decide, rfl, fl_RX12_140⟩
set_option maxRecDepth 100000 in
theorem fl_RX12_143 : Cond.fieldLink RX12 143 "ProtocolBenchModel" "classAt" "[I" ∈ hp_tbl := hp_in (List.mem_append_right _ (List.mem_append_right _ (List.mem_append_right _ (List.mem_append_right _ (List.mem_append_right _ (List.mem_append_left _ (List.mem_of_getElem? (i := 192) (by decide +kernel)))))))) rfl
set_option maxRecDepth 100000 in
theorem g_RX12_143 : hp_Fg RX12 143 12 60 := ⟨_, _, _, _, vcl_12, in_12, by decide, rfl, fl_RX12_143⟩
set_option maxRecDepth 100000 in
theorem fl_RX12_146 : Cond.fieldLink RX12 146 "ProtocolBenchModel" "newClass" "[I" ∈ hp_tbl := hp_in (List.mem_append_right _ (List.mem_append_right _ (List.mem_append_right _ (List.mem_append_right _ (List.mem_append_right _ (List.mem_append_left _ (List.mem_of_getElem? (i := 193) (by decide +kernel)))))))) rfl
set_option maxRecDepth 100000 in
theorem g_RX12_146 : hp_Fg RX12 146 12 61 := ⟨_, _, _, _, vcl_12, in_12, by decide, rfl, fl_RX12_146⟩
set_option maxRecDepth 100000 in
theorem fl_RX12_149 : Cond.fieldLink RX12 149 "ProtocolBenchModel" "signs" "[J" ∈ hp_tbl := hp_in (List.mem_append_right _ (List.mem_append_right _ (List.mem_append_right _ (List.mem_append_right _ (List.mem_append_right _ (List.mem_append_left _ (List.mem_of_getElem? (i := 194) (by decide +kernel)))))))) rfl
set_option maxRecDepth 100000 in
theorem g_RX12_149 : hp_Fg RX12 149 12 62 := ⟨_, _, _, _, vcl_12, in_12, by decide, rfl, fl_RX12_149⟩
set_option maxRecDepth 100000 in
theorem fl_RX12_153 : Cond.fieldLink RX12 153 "ProtocolBenchModel" "seen" "[I" ∈ hp_tbl := hp_in (List.mem_append_right _ (List.mem_append_right _ (List.mem_append_right _ (List.mem_append_right _ (List.mem_append_right _ (List.mem_append_left _ (List.mem_of_getElem? (i := 195) (by decide +kernel)))))))) rfl
set_option maxRecDepth 100000 in
theorem g_RX12_153 : hp_Fg RX12 153 12 63 := ⟨_, _, _, _, vcl_12, in_12, by decide, rfl, fl_RX12_153⟩
set_option maxRecDepth 100000 in
theorem fl_RX12_160 : Cond.fieldLink RX12 160 "ProtocolBenchModel" "hasSearch" "Z" ∈ hp_tbl := hp_in (List.mem_append_right _ (List.mem_append_right _ (List.mem_append_right _ (List.mem_append_right _ (List.mem_append_right _ (List.mem_append_left _ (List.mem_of_getElem? (i := 165) (by decide +kernel)))))))) rfl
set_option maxRecDepth 100000 in
theorem g_RX12_160 : hp_Fg RX12 160 12 33 := ⟨_, _, _, _, vcl_12, in_12, by decide, rfl, fl_RX12_160⟩
set_option maxRecDepth 100000 in
theorem p_RX12_160 : hp_Fp RX12 160 12 33 .boolean := ⟨_, _, _, _, tyX12, vcl_12, in_12, by decide, rfl, fl_RX12_160, tyX12_ok, nmX12, rfl, rfl⟩
set_option maxRecDepth 100000 in
theorem fl_RX12_164 : Cond.fieldLink RX12 164 "ProtocolBenchModel" "isSpent" "Z" ∈ hp_tbl := hp_in (List.mem_append_right _ (List.mem_append_right _ (List.mem_append_right _ (List.mem_append_right _ (List.mem_append_right _ (List.mem_append_left _ (List.mem_of_getElem? (i := 166) (by decide +kernel)))))))) rfl
set_option maxRecDepth 100000 in
theorem g_RX12_164 : hp_Fg RX12 164 12 34 := ⟨_, _, _, _, vcl_12, in_12, by decide, rfl, fl_RX12_164⟩
set_option maxRecDepth 100000 in
theorem p_RX12_164 : hp_Fp RX12 164 12 34 .boolean := ⟨_, _, _, _, tyX12, vcl_12, in_12, by decide, rfl, fl_RX12_164, tyX12_ok, nmX12, rfl, rfl⟩
set_option maxRecDepth 100000 in
theorem fl_RX12_167 : Cond.fieldLink RX12 167 "ProtocolBenchModel" "states" "I" ∈ hp_tbl := hp_in (List.mem_append_right _ (List.mem_append_right _ (List.mem_append_right _ (List.mem_append_right _ (List.mem_append_right _ (List.mem_append_left _ (List.mem_of_getElem? (i := 167) (by decide +kernel)))))))) rfl
set_option maxRecDepth 100000 in
theorem g_RX12_167 : hp_Fg RX12 167 12 35 := ⟨_, _, _, _, vcl_12, in_12, by decide, rfl, fl_RX12_167⟩
set_option maxRecDepth 100000 in
theorem p_RX12_167 : hp_Fp RX12 167 12 35 .int := ⟨_, _, _, _, tyX12, vcl_12, in_12, by decide, rfl, fl_RX12_167, tyX12_ok, nmX12, rfl, rfl⟩
set_option maxRecDepth 100000 in
theorem fl_RX12_171 : Cond.fieldLink RX12 171 "ProtocolBenchModel" "moves" "I" ∈ hp_tbl := hp_in (List.mem_append_right _ (List.mem_append_right _ (List.mem_append_right _ (List.mem_append_right _ (List.mem_append_right _ (List.mem_append_left _ (List.mem_of_getElem? (i := 172) (by decide +kernel)))))))) rfl
set_option maxRecDepth 100000 in
theorem g_RX12_171 : hp_Fg RX12 171 12 40 := ⟨_, _, _, _, vcl_12, in_12, by decide, rfl, fl_RX12_171⟩
set_option maxRecDepth 100000 in
theorem p_RX12_171 : hp_Fp RX12 171 12 40 .int := ⟨_, _, _, _, tyX12, vcl_12, in_12, by decide, rfl, fl_RX12_171, tyX12_ok, nmX12, rfl, rfl⟩
set_option maxRecDepth 100000 in
theorem fl_RX12_177 : Cond.fieldLink RX12 177 "ProtocolBenchModel" "sharedMany" "I" ∈ hp_tbl := hp_in (List.mem_append_right _ (List.mem_append_right _ (List.mem_append_right _ (List.mem_append_right _ (List.mem_append_right _ (List.mem_append_left _ (List.mem_of_getElem? (i := 132) (by decide +kernel)))))))) rfl
set_option maxRecDepth 100000 in
theorem g_RX12_177 : hp_Fg RX12 177 12 0 := ⟨_, _, _, _, vcl_12, in_12, by decide, rfl, fl_RX12_177⟩
set_option maxRecDepth 100000 in
theorem p_RX12_177 : hp_Fp RX12 177 12 0 .int := ⟨_, _, _, _, tyX12, vcl_12, in_12, by decide, rfl, fl_RX12_177, tyX12_ok, nmX12, rfl, rfl⟩
set_option maxRecDepth 100000 in
theorem fl_RX12_183 : Cond.fieldLink RX12 183 "ProtocolBenchModel" "roles" "I" ∈ hp_tbl := hp_in (List.mem_append_right _ (List.mem_append_right _ (List.mem_append_right _ (List.mem_append_right _ (List.mem_append_right _ (List.mem_append_left _ (List.mem_of_getElem? (i := 136) (by decide +kernel)))))))) rfl
set_option maxRecDepth 100000 in
theorem g_RX12_183 : hp_Fg RX12 183 12 4 := ⟨_, _, _, _, vcl_12, in_12, by decide, rfl, fl_RX12_183⟩
set_option maxRecDepth 100000 in
theorem p_RX12_183 : hp_Fp RX12 183 12 4 .int := ⟨_, _, _, _, tyX12, vcl_12, in_12, by decide, rfl, fl_RX12_183, tyX12_ok, nmX12, rfl, rfl⟩
set_option maxRecDepth 100000 in
theorem fl_RX12_190 : Cond.fieldLink RX12 190 "ProtocolBenchModel" "channels" "I" ∈ hp_tbl := hp_in (List.mem_append_right _ (List.mem_append_right _ (List.mem_append_right _ (List.mem_append_right _ (List.mem_append_right _ (List.mem_append_left _ (List.mem_of_getElem? (i := 143) (by decide +kernel)))))))) rfl
set_option maxRecDepth 100000 in
theorem g_RX12_190 : hp_Fg RX12 190 12 11 := ⟨_, _, _, _, vcl_12, in_12, by decide, rfl, fl_RX12_190⟩
set_option maxRecDepth 100000 in
theorem p_RX12_190 : hp_Fp RX12 190 12 11 .int := ⟨_, _, _, _, tyX12, vcl_12, in_12, by decide, rfl, fl_RX12_190, tyX12_ok, nmX12, rfl, rfl⟩
set_option maxRecDepth 100000 in
theorem fl_RX12_193 : Cond.fieldLink RX12 193 "ProtocolBenchModel" "exprs" "I" ∈ hp_tbl := hp_in (List.mem_append_right _ (List.mem_append_right _ (List.mem_append_right _ (List.mem_append_right _ (List.mem_append_right _ (List.mem_append_left _ (List.mem_of_getElem? (i := 147) (by decide +kernel)))))))) rfl
set_option maxRecDepth 100000 in
theorem g_RX12_193 : hp_Fg RX12 193 12 15 := ⟨_, _, _, _, vcl_12, in_12, by decide, rfl, fl_RX12_193⟩
set_option maxRecDepth 100000 in
theorem p_RX12_193 : hp_Fp RX12 193 12 15 .int := ⟨_, _, _, _, tyX12, vcl_12, in_12, by decide, rfl, fl_RX12_193, tyX12_ok, nmX12, rfl, rfl⟩
set_option maxRecDepth 100000 in
theorem fl_RX12_206 : Cond.fieldLink RX12 206 "ProtocolBenchModel" "steps" "I" ∈ hp_tbl := hp_in (List.mem_append_right _ (List.mem_append_right _ (List.mem_append_right _ (List.mem_append_right _ (List.mem_append_right _ (List.mem_append_left _ (List.mem_of_getElem? (i := 153) (by decide +kernel)))))))) rfl
set_option maxRecDepth 100000 in
theorem g_RX12_206 : hp_Fg RX12 206 12 21 := ⟨_, _, _, _, vcl_12, in_12, by decide, rfl, fl_RX12_206⟩
set_option maxRecDepth 100000 in
theorem p_RX12_206 : hp_Fp RX12 206 12 21 .int := ⟨_, _, _, _, tyX12, vcl_12, in_12, by decide, rfl, fl_RX12_206, tyX12_ok, nmX12, rfl, rfl⟩
set_option maxRecDepth 100000 in
theorem fl_RX12_209 : Cond.fieldLink RX12 209 "ProtocolBenchModel" "isAlike" "Z" ∈ hp_tbl := hp_in (List.mem_append_right _ (List.mem_append_right _ (List.mem_append_right _ (List.mem_append_right _ (List.mem_append_right _ (List.mem_append_left _ (List.mem_of_getElem? (i := 162) (by decide +kernel)))))))) rfl
set_option maxRecDepth 100000 in
theorem g_RX12_209 : hp_Fg RX12 209 12 30 := ⟨_, _, _, _, vcl_12, in_12, by decide, rfl, fl_RX12_209⟩
set_option maxRecDepth 100000 in
theorem p_RX12_209 : hp_Fp RX12 209 12 30 .boolean := ⟨_, _, _, _, tyX12, vcl_12, in_12, by decide, rfl, fl_RX12_209, tyX12_ok, nmX12, rfl, rfl⟩
set_option maxRecDepth 100000 in
theorem fl_RX12_247 : Cond.fieldLink RX12 247 "ProtocolBenchModel" "hasFault" "Z" ∈ hp_tbl := hp_in (List.mem_append_right _ (List.mem_append_right _ (List.mem_append_right _ (List.mem_append_right _ (List.mem_append_right _ (List.mem_append_left _ (List.mem_of_getElem? (i := 178) (by decide +kernel)))))))) rfl
set_option maxRecDepth 100000 in
theorem g_RX12_247 : hp_Fg RX12 247 12 46 := ⟨_, _, _, _, vcl_12, in_12, by decide, rfl, fl_RX12_247⟩
set_option maxRecDepth 100000 in
theorem p_RX12_247 : hp_Fp RX12 247 12 46 .boolean := ⟨_, _, _, _, tyX12, vcl_12, in_12, by decide, rfl, fl_RX12_247, tyX12_ok, nmX12, rfl, rfl⟩
set_option maxRecDepth 100000 in
theorem fl_RX12_250 : Cond.fieldLink RX12 250 "ProtocolBenchModel" "faultState" "I" ∈ hp_tbl := hp_in (List.mem_append_right _ (List.mem_append_right _ (List.mem_append_right _ (List.mem_append_right _ (List.mem_append_right _ (List.mem_append_left _ (List.mem_of_getElem? (i := 179) (by decide +kernel)))))))) rfl
set_option maxRecDepth 100000 in
theorem g_RX12_250 : hp_Fg RX12 250 12 47 := ⟨_, _, _, _, vcl_12, in_12, by decide, rfl, fl_RX12_250⟩
set_option maxRecDepth 100000 in
theorem p_RX12_250 : hp_Fp RX12 250 12 47 .int := ⟨_, _, _, _, tyX12, vcl_12, in_12, by decide, rfl, fl_RX12_250, tyX12_ok, nmX12, rfl, rfl⟩
set_option maxRecDepth 100000 in
theorem fl_RX12_253 : Cond.fieldLink RX12 253 "ProtocolBenchModel" "faultRole" "I" ∈ hp_tbl := hp_in (List.mem_append_right _ (List.mem_append_right _ (List.mem_append_right _ (List.mem_append_right _ (List.mem_append_right _ (List.mem_append_left _ (List.mem_of_getElem? (i := 180) (by decide +kernel)))))))) rfl
set_option maxRecDepth 100000 in
theorem g_RX12_253 : hp_Fg RX12 253 12 48 := ⟨_, _, _, _, vcl_12, in_12, by decide, rfl, fl_RX12_253⟩
set_option maxRecDepth 100000 in
theorem p_RX12_253 : hp_Fp RX12 253 12 48 .int := ⟨_, _, _, _, tyX12, vcl_12, in_12, by decide, rfl, fl_RX12_253, tyX12_ok, nmX12, rfl, rfl⟩
set_option maxRecDepth 100000 in
theorem fl_RX12_256 : Cond.fieldLink RX12 256 "ProtocolBenchModel" "faultMember" "I" ∈ hp_tbl := hp_in (List.mem_append_right _ (List.mem_append_right _ (List.mem_append_right _ (List.mem_append_right _ (List.mem_append_right _ (List.mem_append_left _ (List.mem_of_getElem? (i := 181) (by decide +kernel)))))))) rfl
set_option maxRecDepth 100000 in
theorem g_RX12_256 : hp_Fg RX12 256 12 49 := ⟨_, _, _, _, vcl_12, in_12, by decide, rfl, fl_RX12_256⟩
set_option maxRecDepth 100000 in
theorem p_RX12_256 : hp_Fp RX12 256 12 49 .int := ⟨_, _, _, _, tyX12, vcl_12, in_12, by decide, rfl, fl_RX12_256, tyX12_ok, nmX12, rfl, rfl⟩
set_option maxRecDepth 100000 in
theorem fl_RX12_259 : Cond.fieldLink RX12 259 "ProtocolBenchModel" "faultStep" "I" ∈ hp_tbl := hp_in (List.mem_append_right _ (List.mem_append_right _ (List.mem_append_right _ (List.mem_append_right _ (List.mem_append_right _ (List.mem_append_left _ (List.mem_of_getElem? (i := 182) (by decide +kernel)))))))) rfl
set_option maxRecDepth 100000 in
theorem g_RX12_259 : hp_Fg RX12 259 12 50 := ⟨_, _, _, _, vcl_12, in_12, by decide, rfl, fl_RX12_259⟩
set_option maxRecDepth 100000 in
theorem p_RX12_259 : hp_Fp RX12 259 12 50 .int := ⟨_, _, _, _, tyX12, vcl_12, in_12, by decide, rfl, fl_RX12_259, tyX12_ok, nmX12, rfl, rfl⟩
set_option maxRecDepth 100000 in
theorem fl_RX12_342 : Cond.fieldLink RX12 342 "ProtocolBenchModel" "observed" "I" ∈ hp_tbl := hp_in (List.mem_append_right _ (List.mem_append_right _ (List.mem_append_right _ (List.mem_append_right _ (List.mem_append_right _ (List.mem_append_left _ (List.mem_of_getElem? (i := 163) (by decide +kernel)))))))) rfl
set_option maxRecDepth 100000 in
theorem g_RX12_342 : hp_Fg RX12 342 12 31 := ⟨_, _, _, _, vcl_12, in_12, by decide, rfl, fl_RX12_342⟩
set_option maxRecDepth 100000 in
theorem p_RX12_342 : hp_Fp RX12 342 12 31 .int := ⟨_, _, _, _, tyX12, vcl_12, in_12, by decide, rfl, fl_RX12_342, tyX12_ok, nmX12, rfl, rfl⟩
set_option maxRecDepth 100000 in
theorem fl_RX2_9 : Cond.fieldLink RX2 9 "ProtocolBench$Graph" "faultState" "I" ∈ hp_tbl := hp_in (List.mem_append_right _ (List.mem_append_left _ (List.mem_of_getElem? (i := 237) (by decide +kernel)))) rfl
set_option maxRecDepth 100000 in
theorem g_RX2_9 : hp_Fg RX2 9 2 4 := ⟨_, _, _, _, vcl_2, in_2, by decide, rfl, fl_RX2_9⟩
set_option maxRecDepth 100000 in
theorem p_RX2_9 : hp_Fp RX2 9 2 4 .int := ⟨_, _, _, _, tyX2, vcl_2, in_2, by decide, rfl, fl_RX2_9, tyX2_ok, nmX2, rfl, rfl⟩
set_option maxRecDepth 100000 in
theorem fl_RX2_15 : Cond.fieldLink RX2 15 "ProtocolBench$Graph" "faultRole" "I" ∈ hp_tbl := hp_in (List.mem_append_right _ (List.mem_append_left _ (List.mem_of_getElem? (i := 239) (by decide +kernel)))) rfl
set_option maxRecDepth 100000 in
theorem p_RX2_15 : hp_Fp RX2 15 2 5 .int := ⟨_, _, _, _, tyX2, vcl_2, in_2, by decide, rfl, fl_RX2_15, tyX2_ok, nmX2, rfl, rfl⟩
set_option maxRecDepth 100000 in
theorem fl_RX2_18 : Cond.fieldLink RX2 18 "ProtocolBench$Graph" "faultMember" "I" ∈ hp_tbl := hp_in (List.mem_append_right _ (List.mem_append_right _ (List.mem_append_left _ (List.mem_of_getElem? (i := 1) (by decide +kernel))))) rfl
set_option maxRecDepth 100000 in
theorem p_RX2_18 : hp_Fp RX2 18 2 6 .int := ⟨_, _, _, _, tyX2, vcl_2, in_2, by decide, rfl, fl_RX2_18, tyX2_ok, nmX2, rfl, rfl⟩
set_option maxRecDepth 100000 in
theorem fl_RX2_21 : Cond.fieldLink RX2 21 "ProtocolBench$Graph" "faultStep" "I" ∈ hp_tbl := hp_in (List.mem_append_right _ (List.mem_append_right _ (List.mem_append_left _ (List.mem_of_getElem? (i := 3) (by decide +kernel))))) rfl
set_option maxRecDepth 100000 in
theorem p_RX2_21 : hp_Fp RX2 21 2 7 .int := ⟨_, _, _, _, tyX2, vcl_2, in_2, by decide, rfl, fl_RX2_21, tyX2_ok, nmX2, rfl, rfl⟩
set_option maxRecDepth 100000 in
theorem fl_RX2_24 : Cond.fieldLink RX2 24 "ProtocolBench$Graph" "firstMove" "[I" ∈ hp_tbl := hp_in (List.mem_append_right _ (List.mem_append_right _ (List.mem_append_left _ (List.mem_of_getElem? (i := 5) (by decide +kernel))))) rfl
set_option maxRecDepth 100000 in
theorem g_RX2_24 : hp_Fg RX2 24 2 8 := ⟨_, _, _, _, vcl_2, in_2, by decide, rfl, fl_RX2_24⟩
set_option maxRecDepth 100000 in
theorem fl_RX2_28 : Cond.fieldLink RX2 28 "ProtocolBench$Graph" "moveTo" "[I" ∈ hp_tbl := hp_in (List.mem_append_right _ (List.mem_append_right _ (List.mem_append_left _ (List.mem_of_getElem? (i := 10) (by decide +kernel))))) rfl
set_option maxRecDepth 100000 in
theorem g_RX2_28 : hp_Fg RX2 28 2 9 := ⟨_, _, _, _, vcl_2, in_2, by decide, rfl, fl_RX2_28⟩
set_option maxRecDepth 100000 in
theorem fl_RX2_31 : Cond.fieldLink RX2 31 "ProtocolBench$Graph" "wayLength" "[I" ∈ hp_tbl := hp_in (List.mem_append_right _ (List.mem_append_right _ (List.mem_append_left _ (List.mem_of_getElem? (i := 14) (by decide +kernel))))) rfl
set_option maxRecDepth 100000 in
theorem g_RX2_31 : hp_Fg RX2 31 2 10 := ⟨_, _, _, _, vcl_2, in_2, by decide, rfl, fl_RX2_31⟩
set_option maxRecDepth 100000 in
theorem fl_RX2_34 : Cond.fieldLink RX2 34 "ProtocolBench$Graph" "cameFrom" "[I" ∈ hp_tbl := hp_in (List.mem_append_right _ (List.mem_append_right _ (List.mem_append_left _ (List.mem_of_getElem? (i := 16) (by decide +kernel))))) rfl
set_option maxRecDepth 100000 in
theorem g_RX2_34 : hp_Fg RX2 34 2 11 := ⟨_, _, _, _, vcl_2, in_2, by decide, rfl, fl_RX2_34⟩
set_option maxRecDepth 100000 in
theorem fl_RX2_37 : Cond.fieldLink RX2 37 "ProtocolBench$Graph" "cameBy" "[I" ∈ hp_tbl := hp_in (List.mem_append_right _ (List.mem_append_right _ (List.mem_append_left _ (List.mem_of_getElem? (i := 18) (by decide +kernel))))) rfl
set_option maxRecDepth 100000 in
theorem g_RX2_37 : hp_Fg RX2 37 2 12 := ⟨_, _, _, _, vcl_2, in_2, by decide, rfl, fl_RX2_37⟩
set_option maxRecDepth 100000 in
theorem fl_RX2_40 : Cond.fieldLink RX2 40 "ProtocolBench$Graph" "moveBy" "[I" ∈ hp_tbl := hp_in (List.mem_append_right _ (List.mem_append_right _ (List.mem_append_left _ (List.mem_of_getElem? (i := 20) (by decide +kernel))))) rfl
set_option maxRecDepth 100000 in
theorem g_RX2_40 : hp_Fg RX2 40 2 13 := ⟨_, _, _, _, vcl_2, in_2, by decide, rfl, fl_RX2_40⟩
set_option maxRecDepth 100000 in
theorem fl_RX2_45 : Cond.fieldLink RX2 45 "ProtocolBench$Graph" "words" "[I" ∈ hp_tbl := hp_in (List.mem_append_right _ (List.mem_append_right _ (List.mem_append_left _ (List.mem_of_getElem? (i := 21) (by decide +kernel))))) rfl
set_option maxRecDepth 100000 in
theorem g_RX2_45 : hp_Fg RX2 45 2 14 := ⟨_, _, _, _, vcl_2, in_2, by decide, rfl, fl_RX2_45⟩
set_option maxRecDepth 100000 in
theorem fl_RX2_48 : Cond.fieldLink RX2 48 "ProtocolBench$Graph" "slots" "[I" ∈ hp_tbl := hp_in (List.mem_append_right _ (List.mem_append_right _ (List.mem_append_left _ (List.mem_of_getElem? (i := 22) (by decide +kernel))))) rfl
set_option maxRecDepth 100000 in
theorem g_RX2_48 : hp_Fg RX2 48 2 15 := ⟨_, _, _, _, vcl_2, in_2, by decide, rfl, fl_RX2_48⟩
set_option maxRecDepth 100000 in
theorem fl_RX2_51 : Cond.fieldLink RX2 51 "ProtocolBench$Graph" "isThere" "Z" ∈ hp_tbl := hp_in (List.mem_append_right _ (List.mem_append_left _ (List.mem_of_getElem? (i := 226) (by decide +kernel)))) rfl
set_option maxRecDepth 100000 in
theorem g_RX2_51 : hp_Fg RX2 51 2 0 := ⟨_, _, _, _, vcl_2, in_2, by decide, rfl, fl_RX2_51⟩
set_option maxRecDepth 100000 in
theorem p_RX2_51 : hp_Fp RX2 51 2 0 .boolean := ⟨_, _, _, _, tyX2, vcl_2, in_2, by decide, rfl, fl_RX2_51, tyX2_ok, nmX2, rfl, rfl⟩
set_option maxRecDepth 100000 in
theorem fl_RX2_55 : Cond.fieldLink RX2 55 "ProtocolBench$Graph" "isSpent" "Z" ∈ hp_tbl := hp_in (List.mem_append_right _ (List.mem_append_left _ (List.mem_of_getElem? (i := 228) (by decide +kernel)))) rfl
set_option maxRecDepth 100000 in
theorem g_RX2_55 : hp_Fg RX2 55 2 1 := ⟨_, _, _, _, vcl_2, in_2, by decide, rfl, fl_RX2_55⟩
set_option maxRecDepth 100000 in
theorem p_RX2_55 : hp_Fp RX2 55 2 1 .boolean := ⟨_, _, _, _, tyX2, vcl_2, in_2, by decide, rfl, fl_RX2_55, tyX2_ok, nmX2, rfl, rfl⟩
set_option maxRecDepth 100000 in
theorem fl_RX2_58 : Cond.fieldLink RX2 58 "ProtocolBench$Graph" "states" "I" ∈ hp_tbl := hp_in (List.mem_append_right _ (List.mem_append_left _ (List.mem_of_getElem? (i := 231) (by decide +kernel)))) rfl
set_option maxRecDepth 100000 in
theorem g_RX2_58 : hp_Fg RX2 58 2 2 := ⟨_, _, _, _, vcl_2, in_2, by decide, rfl, fl_RX2_58⟩
set_option maxRecDepth 100000 in
theorem p_RX2_58 : hp_Fp RX2 58 2 2 .int := ⟨_, _, _, _, tyX2, vcl_2, in_2, by decide, rfl, fl_RX2_58, tyX2_ok, nmX2, rfl, rfl⟩
set_option maxRecDepth 100000 in
theorem fl_RX2_61 : Cond.fieldLink RX2 61 "ProtocolBench$Graph" "moveCount" "I" ∈ hp_tbl := hp_in (List.mem_append_right _ (List.mem_append_left _ (List.mem_of_getElem? (i := 235) (by decide +kernel)))) rfl
set_option maxRecDepth 100000 in
theorem g_RX2_61 : hp_Fg RX2 61 2 3 := ⟨_, _, _, _, vcl_2, in_2, by decide, rfl, fl_RX2_61⟩
set_option maxRecDepth 100000 in
theorem p_RX2_61 : hp_Fp RX2 61 2 3 .int := ⟨_, _, _, _, tyX2, vcl_2, in_2, by decide, rfl, fl_RX2_61, tyX2_ok, nmX2, rfl, rfl⟩
set_option maxRecDepth 100000 in
theorem fl_RX2_85 : Cond.fieldLink RX2 85 "ProtocolBench$Row" "words" "[I" ∈ hp_tbl := hp_in (List.mem_append_right _ (List.mem_append_right _ (List.mem_append_left _ (List.mem_of_getElem? (i := 69) (by decide +kernel))))) rfl
set_option maxRecDepth 100000 in
theorem g_RX2_85 : hp_Fg RX2 85 7 0 := ⟨_, _, _, _, vcl_7, in_7, by decide, rfl, fl_RX2_85⟩
set_option maxRecDepth 100000 in
theorem fl_RX3_9 : Cond.fieldLink RX3 9 "ProtocolBench$Knots" "isWithin" "[Z" ∈ hp_tbl := hp_in (List.mem_append_right _ (List.mem_append_right _ (List.mem_append_left _ (List.mem_of_getElem? (i := 116) (by decide +kernel))))) rfl
set_option maxRecDepth 100000 in
theorem g_RX3_9 : hp_Fg RX3 9 3 3 := ⟨_, _, _, _, vcl_3, in_3, by decide, rfl, fl_RX3_9⟩
set_option maxRecDepth 100000 in
theorem fl_RX3_15 : Cond.fieldLink RX3 15 "ProtocolBench$Knots" "isStart" "[Z" ∈ hp_tbl := hp_in (List.mem_append_right _ (List.mem_append_right _ (List.mem_append_left _ (List.mem_of_getElem? (i := 117) (by decide +kernel))))) rfl
set_option maxRecDepth 100000 in
theorem g_RX3_15 : hp_Fg RX3 15 3 4 := ⟨_, _, _, _, vcl_3, in_3, by decide, rfl, fl_RX3_15⟩
set_option maxRecDepth 100000 in
theorem fl_RX3_18 : Cond.fieldLink RX3 18 "ProtocolBench$Knots" "isTied" "[Z" ∈ hp_tbl := hp_in (List.mem_append_right _ (List.mem_append_right _ (List.mem_append_left _ (List.mem_of_getElem? (i := 118) (by decide +kernel))))) rfl
set_option maxRecDepth 100000 in
theorem g_RX3_18 : hp_Fg RX3 18 3 5 := ⟨_, _, _, _, vcl_3, in_3, by decide, rfl, fl_RX3_18⟩
set_option maxRecDepth 100000 in
theorem fl_RX3_21 : Cond.fieldLink RX3 21 "ProtocolBench$Knots" "leadsToKnot" "[Z" ∈ hp_tbl := hp_in (List.mem_append_right _ (List.mem_append_right _ (List.mem_append_left _ (List.mem_of_getElem? (i := 119) (by decide +kernel))))) rfl
set_option maxRecDepth 100000 in
theorem g_RX3_21 : hp_Fg RX3 21 3 6 := ⟨_, _, _, _, vcl_3, in_3, by decide, rfl, fl_RX3_21⟩
set_option maxRecDepth 100000 in
theorem fl_RX3_24 : Cond.fieldLink RX3 24 "ProtocolBench$Knots" "entered" "[I" ∈ hp_tbl := hp_in (List.mem_append_right _ (List.mem_append_right _ (List.mem_append_left _ (List.mem_of_getElem? (i := 120) (by decide +kernel))))) rfl
set_option maxRecDepth 100000 in
theorem g_RX3_24 : hp_Fg RX3 24 3 7 := ⟨_, _, _, _, vcl_3, in_3, by decide, rfl, fl_RX3_24⟩
set_option maxRecDepth 100000 in
theorem fl_RX3_28 : Cond.fieldLink RX3 28 "ProtocolBench$Knots" "lowest" "[I" ∈ hp_tbl := hp_in (List.mem_append_right _ (List.mem_append_right _ (List.mem_append_left _ (List.mem_of_getElem? (i := 121) (by decide +kernel))))) rfl
set_option maxRecDepth 100000 in
theorem g_RX3_28 : hp_Fg RX3 28 3 8 := ⟨_, _, _, _, vcl_3, in_3, by decide, rfl, fl_RX3_28⟩
set_option maxRecDepth 100000 in
theorem fl_RX3_31 : Cond.fieldLink RX3 31 "ProtocolBench$Knots" "nextMove" "[I" ∈ hp_tbl := hp_in (List.mem_append_right _ (List.mem_append_right _ (List.mem_append_left _ (List.mem_of_getElem? (i := 122) (by decide +kernel))))) rfl
set_option maxRecDepth 100000 in
theorem g_RX3_31 : hp_Fg RX3 31 3 9 := ⟨_, _, _, _, vcl_3, in_3, by decide, rfl, fl_RX3_31⟩
set_option maxRecDepth 100000 in
theorem fl_RX3_34 : Cond.fieldLink RX3 34 "ProtocolBench$Knots" "closedBy" "[I" ∈ hp_tbl := hp_in (List.mem_append_right _ (List.mem_append_right _ (List.mem_append_left _ (List.mem_of_getElem? (i := 123) (by decide +kernel))))) rfl
set_option maxRecDepth 100000 in
theorem g_RX3_34 : hp_Fg RX3 34 3 10 := ⟨_, _, _, _, vcl_3, in_3, by decide, rfl, fl_RX3_34⟩
set_option maxRecDepth 100000 in
theorem fl_RX3_37 : Cond.fieldLink RX3 37 "ProtocolBench$Knots" "path" "[I" ∈ hp_tbl := hp_in (List.mem_append_right _ (List.mem_append_right _ (List.mem_append_left _ (List.mem_of_getElem? (i := 124) (by decide +kernel))))) rfl
set_option maxRecDepth 100000 in
theorem g_RX3_37 : hp_Fg RX3 37 3 11 := ⟨_, _, _, _, vcl_3, in_3, by decide, rfl, fl_RX3_37⟩
set_option maxRecDepth 100000 in
theorem fl_RX3_40 : Cond.fieldLink RX3 40 "ProtocolBench$Knots" "open" "[I" ∈ hp_tbl := hp_in (List.mem_append_right _ (List.mem_append_right _ (List.mem_append_left _ (List.mem_of_getElem? (i := 125) (by decide +kernel))))) rfl
set_option maxRecDepth 100000 in
theorem g_RX3_40 : hp_Fg RX3 40 3 12 := ⟨_, _, _, _, vcl_3, in_3, by decide, rfl, fl_RX3_40⟩
set_option maxRecDepth 100000 in
theorem fl_RX3_43 : Cond.fieldLink RX3 43 "ProtocolBench$Knots" "protocol" "LProtocolBench$Protocol;" ∈ hp_tbl := hp_in (List.mem_append_right _ (List.mem_append_right _ (List.mem_append_left _ (List.mem_of_getElem? (i := 113) (by decide +kernel))))) rfl
set_option maxRecDepth 100000 in
theorem g_RX3_43 : hp_Fg RX3 43 3 0 := ⟨_, _, _, _, vcl_3, in_3, by decide, rfl, fl_RX3_43⟩
set_option maxRecDepth 100000 in
theorem fl_RX3_47 : Cond.fieldLink RX3 47 "ProtocolBench$Knots" "graph" "LProtocolBench$Graph;" ∈ hp_tbl := hp_in (List.mem_append_right _ (List.mem_append_right _ (List.mem_append_left _ (List.mem_of_getElem? (i := 114) (by decide +kernel))))) rfl
set_option maxRecDepth 100000 in
theorem g_RX3_47 : hp_Fg RX3 47 3 1 := ⟨_, _, _, _, vcl_3, in_3, by decide, rfl, fl_RX3_47⟩
set_option maxRecDepth 100000 in
theorem fl_RX3_51 : Cond.fieldLink RX3 51 "ProtocolBench$Knots" "reckoner" "LProtocolBench$Reckoner;" ∈ hp_tbl := hp_in (List.mem_append_right _ (List.mem_append_right _ (List.mem_append_left _ (List.mem_of_getElem? (i := 115) (by decide +kernel))))) rfl
set_option maxRecDepth 100000 in
theorem g_RX3_51 : hp_Fg RX3 51 3 2 := ⟨_, _, _, _, vcl_3, in_3, by decide, rfl, fl_RX3_51⟩
set_option maxRecDepth 100000 in
theorem fl_RX3_61 : Cond.fieldLink RX3 61 "ProtocolBench$Graph" "states" "I" ∈ hp_tbl := hp_in (List.mem_append_right _ (List.mem_append_left _ (List.mem_of_getElem? (i := 232) (by decide +kernel)))) rfl
set_option maxRecDepth 100000 in
theorem g_RX3_61 : hp_Fg RX3 61 2 2 := ⟨_, _, _, _, vcl_2, in_2, by decide, rfl, fl_RX3_61⟩
set_option maxRecDepth 100000 in
theorem fl_RX3_85 : Cond.fieldLink RX3 85 "ProtocolBench$Knots" "isFairAsked" "Z" ∈ hp_tbl := hp_in (List.mem_append_right _ (List.mem_append_right _ (List.mem_append_left _ (List.mem_of_getElem? (i := 132) (by decide +kernel))))) rfl
set_option maxRecDepth 100000 in
theorem g_RX3_85 : hp_Fg RX3 85 3 19 := ⟨_, _, _, _, vcl_3, in_3, by decide, rfl, fl_RX3_85⟩
set_option maxRecDepth 100000 in
theorem p_RX3_85 : hp_Fp RX3 85 3 19 .boolean := ⟨_, _, _, _, tyX3, vcl_3, in_3, by decide, rfl, fl_RX3_85, tyX3_ok, nmX3, rfl, rfl⟩
set_option maxRecDepth 100000 in
theorem fl_RX3_89 : Cond.fieldLink RX3 89 "ProtocolBench$Protocol" "roles" "LProtocolBench$Roles;" ∈ hp_tbl := hp_in (List.mem_append_right _ (List.mem_append_left _ (List.mem_of_getElem? (i := 179) (by decide +kernel)))) rfl
set_option maxRecDepth 100000 in
theorem g_RX3_89 : hp_Fg RX3 89 4 2 := ⟨_, _, _, _, vcl_4, in_4, by decide, rfl, fl_RX3_89⟩
set_option maxRecDepth 100000 in
theorem fl_RX3_101 : Cond.fieldLink RX3 101 "ProtocolBench$Knots" "everyone" "I" ∈ hp_tbl := hp_in (List.mem_append_right _ (List.mem_append_right _ (List.mem_append_left _ (List.mem_of_getElem? (i := 129) (by decide +kernel))))) rfl
set_option maxRecDepth 100000 in
theorem g_RX3_101 : hp_Fg RX3 101 3 16 := ⟨_, _, _, _, vcl_3, in_3, by decide, rfl, fl_RX3_101⟩
set_option maxRecDepth 100000 in
theorem p_RX3_101 : hp_Fp RX3 101 3 16 .int := ⟨_, _, _, _, tyX3, vcl_3, in_3, by decide, rfl, fl_RX3_101, tyX3_ok, nmX3, rfl, rfl⟩
set_option maxRecDepth 100000 in
theorem fl_RX3_104 : Cond.fieldLink RX3 104 "ProtocolBench$Knots" "pathLength" "I" ∈ hp_tbl := hp_in (List.mem_append_right _ (List.mem_append_right _ (List.mem_append_left _ (List.mem_of_getElem? (i := 126) (by decide +kernel))))) rfl
set_option maxRecDepth 100000 in
theorem g_RX3_104 : hp_Fg RX3 104 3 13 := ⟨_, _, _, _, vcl_3, in_3, by decide, rfl, fl_RX3_104⟩
set_option maxRecDepth 100000 in
theorem p_RX3_104 : hp_Fp RX3 104 3 13 .int := ⟨_, _, _, _, tyX3, vcl_3, in_3, by decide, rfl, fl_RX3_104, tyX3_ok, nmX3, rfl, rfl⟩
set_option maxRecDepth 100000 in
theorem fl_RX3_107 : Cond.fieldLink RX3 107 "ProtocolBench$Knots" "openCount" "I" ∈ hp_tbl := hp_in (List.mem_append_right _ (List.mem_append_right _ (List.mem_append_left _ (List.mem_of_getElem? (i := 127) (by decide +kernel))))) rfl
set_option maxRecDepth 100000 in
theorem g_RX3_107 : hp_Fg RX3 107 3 14 := ⟨_, _, _, _, vcl_3, in_3, by decide, rfl, fl_RX3_107⟩
set_option maxRecDepth 100000 in
theorem p_RX3_107 : hp_Fp RX3 107 3 14 .int := ⟨_, _, _, _, tyX3, vcl_3, in_3, by decide, rfl, fl_RX3_107, tyX3_ok, nmX3, rfl, rfl⟩
set_option maxRecDepth 100000 in
theorem fl_RX3_110 : Cond.fieldLink RX3 110 "ProtocolBench$Knots" "enteredCount" "I" ∈ hp_tbl := hp_in (List.mem_append_right _ (List.mem_append_right _ (List.mem_append_left _ (List.mem_of_getElem? (i := 128) (by decide +kernel))))) rfl
set_option maxRecDepth 100000 in
theorem g_RX3_110 : hp_Fg RX3 110 3 15 := ⟨_, _, _, _, vcl_3, in_3, by decide, rfl, fl_RX3_110⟩
set_option maxRecDepth 100000 in
theorem p_RX3_110 : hp_Fp RX3 110 3 15 .int := ⟨_, _, _, _, tyX3, vcl_3, in_3, by decide, rfl, fl_RX3_110, tyX3_ok, nmX3, rfl, rfl⟩
set_option maxRecDepth 100000 in
theorem fl_RX3_119 : Cond.fieldLink RX3 119 "ProtocolBench$Graph" "firstMove" "[I" ∈ hp_tbl := hp_in (List.mem_append_right _ (List.mem_append_right _ (List.mem_append_left _ (List.mem_of_getElem? (i := 7) (by decide +kernel))))) rfl
set_option maxRecDepth 100000 in
theorem g_RX3_119 : hp_Fg RX3 119 2 8 := ⟨_, _, _, _, vcl_2, in_2, by decide, rfl, fl_RX3_119⟩
set_option maxRecDepth 100000 in
theorem fl_RX3_122 : Cond.fieldLink RX3 122 "ProtocolBench$Graph" "moveTo" "[I" ∈ hp_tbl := hp_in (List.mem_append_right _ (List.mem_append_right _ (List.mem_append_left _ (List.mem_of_getElem? (i := 11) (by decide +kernel))))) rfl
set_option maxRecDepth 100000 in
theorem g_RX3_122 : hp_Fg RX3 122 2 9 := ⟨_, _, _, _, vcl_2, in_2, by decide, rfl, fl_RX3_122⟩
set_option maxRecDepth 100000 in
theorem fl_RX3_141 : Cond.fieldLink RX3 141 "ProtocolBench$Knots" "movedWithin" "I" ∈ hp_tbl := hp_in (List.mem_append_right _ (List.mem_append_right _ (List.mem_append_left _ (List.mem_of_getElem? (i := 130) (by decide +kernel))))) rfl
set_option maxRecDepth 100000 in
theorem g_RX3_141 : hp_Fg RX3 141 3 17 := ⟨_, _, _, _, vcl_3, in_3, by decide, rfl, fl_RX3_141⟩
set_option maxRecDepth 100000 in
theorem p_RX3_141 : hp_Fp RX3 141 3 17 .int := ⟨_, _, _, _, tyX3, vcl_3, in_3, by decide, rfl, fl_RX3_141, tyX3_ok, nmX3, rfl, rfl⟩
set_option maxRecDepth 100000 in
theorem fl_RX3_144 : Cond.fieldLink RX3 144 "ProtocolBench$Knots" "idleSomewhere" "I" ∈ hp_tbl := hp_in (List.mem_append_right _ (List.mem_append_right _ (List.mem_append_left _ (List.mem_of_getElem? (i := 131) (by decide +kernel))))) rfl
set_option maxRecDepth 100000 in
theorem g_RX3_144 : hp_Fg RX3 144 3 18 := ⟨_, _, _, _, vcl_3, in_3, by decide, rfl, fl_RX3_144⟩
set_option maxRecDepth 100000 in
theorem p_RX3_144 : hp_Fp RX3 144 3 18 .int := ⟨_, _, _, _, tyX3, vcl_3, in_3, by decide, rfl, fl_RX3_144, tyX3_ok, nmX3, rfl, rfl⟩
set_option maxRecDepth 100000 in
theorem fl_RX4_14 : Cond.fieldLink RX4 14 "ProtocolBench$Protocol" "shared" "LProtocolBench$Variables;" ∈ hp_tbl := hp_in (List.mem_append_right _ (List.mem_append_left _ (List.mem_of_getElem? (i := 170) (by decide +kernel)))) rfl
set_option maxRecDepth 100000 in
theorem g_RX4_14 : hp_Fg RX4 14 4 0 := ⟨_, _, _, _, vcl_4, in_4, by decide, rfl, fl_RX4_14⟩
set_option maxRecDepth 100000 in
theorem fl_RX4_20 : Cond.fieldLink RX4 20 "ProtocolBench$Protocol" "owns" "LProtocolBench$Variables;" ∈ hp_tbl := hp_in (List.mem_append_right _ (List.mem_append_left _ (List.mem_of_getElem? (i := 173) (by decide +kernel)))) rfl
set_option maxRecDepth 100000 in
theorem g_RX4_20 : hp_Fg RX4 20 4 1 := ⟨_, _, _, _, vcl_4, in_4, by decide, rfl, fl_RX4_20⟩
set_option maxRecDepth 100000 in
theorem fl_RX4_26 : Cond.fieldLink RX4 26 "ProtocolBench$Protocol" "roles" "LProtocolBench$Roles;" ∈ hp_tbl := hp_in (List.mem_append_right _ (List.mem_append_left _ (List.mem_of_getElem? (i := 176) (by decide +kernel)))) rfl
set_option maxRecDepth 100000 in
theorem g_RX4_26 : hp_Fg RX4 26 4 2 := ⟨_, _, _, _, vcl_4, in_4, by decide, rfl, fl_RX4_26⟩
set_option maxRecDepth 100000 in
theorem fl_RX4_35 : Cond.fieldLink RX4 35 "ProtocolBench$Protocol" "exprs" "LProtocolBench$Exprs;" ∈ hp_tbl := hp_in (List.mem_append_right _ (List.mem_append_left _ (List.mem_of_getElem? (i := 180) (by decide +kernel)))) rfl
set_option maxRecDepth 100000 in
theorem g_RX4_35 : hp_Fg RX4 35 4 3 := ⟨_, _, _, _, vcl_4, in_4, by decide, rfl, fl_RX4_35⟩
set_option maxRecDepth 100000 in
theorem fl_RX4_42 : Cond.fieldLink RX4 42 "ProtocolBench$Protocol" "steps" "LProtocolBench$Steps;" ∈ hp_tbl := hp_in (List.mem_append_right _ (List.mem_append_left _ (List.mem_of_getElem? (i := 184) (by decide +kernel)))) rfl
set_option maxRecDepth 100000 in
theorem g_RX4_42 : hp_Fg RX4 42 4 4 := ⟨_, _, _, _, vcl_4, in_4, by decide, rfl, fl_RX4_42⟩
set_option maxRecDepth 100000 in
theorem fl_RX4_46 : Cond.fieldLink RX4 46 "ProtocolBench$Protocol" "room" "[I" ∈ hp_tbl := hp_in (List.mem_append_right _ (List.mem_append_left _ (List.mem_of_getElem? (i := 187) (by decide +kernel)))) rfl
set_option maxRecDepth 100000 in
theorem g_RX4_46 : hp_Fg RX4 46 4 5 := ⟨_, _, _, _, vcl_4, in_4, by decide, rfl, fl_RX4_46⟩
set_option maxRecDepth 100000 in
theorem fl_RX4_50 : Cond.fieldLink RX4 50 "ProtocolBench$Protocol" "isLoose" "[Z" ∈ hp_tbl := hp_in (List.mem_append_right _ (List.mem_append_left _ (List.mem_of_getElem? (i := 189) (by decide +kernel)))) rfl
set_option maxRecDepth 100000 in
theorem g_RX4_50 : hp_Fg RX4 50 4 6 := ⟨_, _, _, _, vcl_4, in_4, by decide, rfl, fl_RX4_50⟩
set_option maxRecDepth 100000 in
theorem fl_RX4_54 : Cond.fieldLink RX4 54 "ProtocolBench$Protocol" "losesLetters" "[Z" ∈ hp_tbl := hp_in (List.mem_append_right _ (List.mem_append_left _ (List.mem_of_getElem? (i := 191) (by decide +kernel)))) rfl
set_option maxRecDepth 100000 in
theorem g_RX4_54 : hp_Fg RX4 54 4 7 := ⟨_, _, _, _, vcl_4, in_4, by decide, rfl, fl_RX4_54⟩
set_option maxRecDepth 100000 in
theorem fl_RX4_57 : Cond.fieldLink RX4 57 "ProtocolBench$Protocol" "channels" "I" ∈ hp_tbl := hp_in (List.mem_append_right _ (List.mem_append_left _ (List.mem_of_getElem? (i := 193) (by decide +kernel)))) rfl
set_option maxRecDepth 100000 in
theorem g_RX4_57 : hp_Fg RX4 57 4 8 := ⟨_, _, _, _, vcl_4, in_4, by decide, rfl, fl_RX4_57⟩
set_option maxRecDepth 100000 in
theorem p_RX4_57 : hp_Fp RX4 57 4 8 .int := ⟨_, _, _, _, tyX4, vcl_4, in_4, by decide, rfl, fl_RX4_57, tyX4_ok, nmX4, rfl, rfl⟩
set_option maxRecDepth 100000 in
theorem fl_RX4_81 : Cond.fieldLink RX4 81 "ProtocolBench$Steps" "roleOf" "[I" ∈ hp_tbl := hp_in (List.mem_append_right _ (List.mem_append_left _ (List.mem_of_getElem? (i := 127) (by decide +kernel)))) rfl
set_option maxRecDepth 100000 in
theorem g_RX4_81 : hp_Fg RX4 81 9 0 := ⟨_, _, _, _, vcl_9, in_9, by decide, rfl, fl_RX4_81⟩
set_option maxRecDepth 100000 in
theorem fl_RX4_84 : Cond.fieldLink RX4 84 "ProtocolBench$Protocol" "takesAlike" "Z" ∈ hp_tbl := hp_in (List.mem_append_right _ (List.mem_append_left _ (List.mem_of_getElem? (i := 196) (by decide +kernel)))) rfl
set_option maxRecDepth 100000 in
theorem g_RX4_84 : hp_Fg RX4 84 4 9 := ⟨_, _, _, _, vcl_4, in_4, by decide, rfl, fl_RX4_84⟩
set_option maxRecDepth 100000 in
theorem fl_RX4_95 : Cond.fieldLink RX4 95 "ProtocolBench$Roles" "told" "I" ∈ hp_tbl := hp_in (List.mem_append_right _ (List.mem_append_left _ (List.mem_of_getElem? (i := 69) (by decide +kernel)))) rfl
set_option maxRecDepth 100000 in
theorem g_RX4_95 : hp_Fg RX4 95 6 1 := ⟨_, _, _, _, vcl_6, in_6, by decide, rfl, fl_RX4_95⟩
set_option maxRecDepth 100000 in
theorem fl_RX4_98 : Cond.fieldLink RX4 98 "ProtocolBench$Variables" "told" "[I" ∈ hp_tbl := hp_in (List.mem_append_right _ (List.mem_append_left _ (List.mem_of_getElem? (i := 38) (by decide +kernel)))) rfl
set_option maxRecDepth 100000 in
theorem g_RX4_98 : hp_Fg RX4 98 10 0 := ⟨_, _, _, _, vcl_10, in_10, by decide, rfl, fl_RX4_98⟩
set_option maxRecDepth 100000 in
theorem fl_RX4_107 : Cond.fieldLink RX4 107 "ProtocolBench$Steps" "told" "I" ∈ hp_tbl := hp_in (List.mem_append_right _ (List.mem_append_left _ (List.mem_of_getElem? (i := 149) (by decide +kernel)))) rfl
set_option maxRecDepth 100000 in
theorem g_RX4_107 : hp_Fg RX4 107 9 8 := ⟨_, _, _, _, vcl_9, in_9, by decide, rfl, fl_RX4_107⟩
set_option maxRecDepth 100000 in
theorem fl_RX4_108 : Cond.fieldLink RX4 108 "ProtocolBench$Steps" "guard" "[I" ∈ hp_tbl := hp_in (List.mem_append_right _ (List.mem_append_left _ (List.mem_of_getElem? (i := 134) (by decide +kernel)))) rfl
set_option maxRecDepth 100000 in
theorem g_RX4_108 : hp_Fg RX4 108 9 3 := ⟨_, _, _, _, vcl_9, in_9, by decide, rfl, fl_RX4_108⟩
set_option maxRecDepth 100000 in
theorem fl_RX4_114 : Cond.fieldLink RX4 114 "ProtocolBench$Steps" "acts" "[I" ∈ hp_tbl := hp_in (List.mem_append_right _ (List.mem_append_left _ (List.mem_of_getElem? (i := 137) (by decide +kernel)))) rfl
set_option maxRecDepth 100000 in
theorem g_RX4_114 : hp_Fg RX4 114 9 4 := ⟨_, _, _, _, vcl_9, in_9, by decide, rfl, fl_RX4_114⟩
set_option maxRecDepth 100000 in
theorem fl_RX4_117 : Cond.fieldLink RX4 117 "ProtocolBench$Steps" "actKind" "[I" ∈ hp_tbl := hp_in (List.mem_append_right _ (List.mem_append_left _ (List.mem_of_getElem? (i := 141) (by decide +kernel)))) rfl
set_option maxRecDepth 100000 in
theorem g_RX4_117 : hp_Fg RX4 117 9 5 := ⟨_, _, _, _, vcl_9, in_9, by decide, rfl, fl_RX4_117⟩
set_option maxRecDepth 100000 in
theorem fl_RX4_120 : Cond.fieldLink RX4 120 "ProtocolBench$Steps" "actB" "[I" ∈ hp_tbl := hp_in (List.mem_append_right _ (List.mem_append_left _ (List.mem_of_getElem? (i := 146) (by decide +kernel)))) rfl
set_option maxRecDepth 100000 in
theorem g_RX4_120 : hp_Fg RX4 120 9 7 := ⟨_, _, _, _, vcl_9, in_9, by decide, rfl, fl_RX4_120⟩
set_option maxRecDepth 100000 in
theorem fl_RX4_138 : Cond.fieldLink RX4 138 "ProtocolBench$Roles" "members" "[I" ∈ hp_tbl := hp_in (List.mem_append_right _ (List.mem_append_left _ (List.mem_of_getElem? (i := 64) (by decide +kernel)))) rfl
set_option maxRecDepth 100000 in
theorem g_RX4_138 : hp_Fg RX4 138 6 0 := ⟨_, _, _, _, vcl_6, in_6, by decide, rfl, fl_RX4_138⟩
set_option maxRecDepth 100000 in
theorem fl_RX5_12 : Cond.fieldLink RX5 12 "ProtocolBench$Reckoner" "row" "LProtocolBench$Row;" ∈ hp_tbl := hp_in (List.mem_append_right _ (List.mem_append_right _ (List.mem_append_left _ (List.mem_of_getElem? (i := 99) (by decide +kernel))))) rfl
set_option maxRecDepth 100000 in
theorem g_RX5_12 : hp_Fg RX5 12 5 2 := ⟨_, _, _, _, vcl_5, in_5, by decide, rfl, fl_RX5_12⟩
set_option maxRecDepth 100000 in
theorem fl_RX5_18 : Cond.fieldLink RX5 18 "ProtocolBench$Reckoner" "protocol" "LProtocolBench$Protocol;" ∈ hp_tbl := hp_in (List.mem_append_right _ (List.mem_append_right _ (List.mem_append_left _ (List.mem_of_getElem? (i := 97) (by decide +kernel))))) rfl
set_option maxRecDepth 100000 in
theorem g_RX5_18 : hp_Fg RX5 18 5 0 := ⟨_, _, _, _, vcl_5, in_5, by decide, rfl, fl_RX5_18⟩
set_option maxRecDepth 100000 in
theorem fl_RX5_22 : Cond.fieldLink RX5 22 "ProtocolBench$Reckoner" "graph" "LProtocolBench$Graph;" ∈ hp_tbl := hp_in (List.mem_append_right _ (List.mem_append_right _ (List.mem_append_left _ (List.mem_of_getElem? (i := 98) (by decide +kernel))))) rfl
set_option maxRecDepth 100000 in
theorem g_RX5_22 : hp_Fg RX5 22 5 1 := ⟨_, _, _, _, vcl_5, in_5, by decide, rfl, fl_RX5_22⟩
set_option maxRecDepth 100000 in
theorem fl_RX5_32 : Cond.fieldLink RX5 32 "ProtocolBench$Protocol" "exprs" "LProtocolBench$Exprs;" ∈ hp_tbl := hp_in (List.mem_append_right _ (List.mem_append_left _ (List.mem_of_getElem? (i := 181) (by decide +kernel)))) rfl
set_option maxRecDepth 100000 in
theorem g_RX5_32 : hp_Fg RX5 32 4 3 := ⟨_, _, _, _, vcl_4, in_4, by decide, rfl, fl_RX5_32⟩
set_option maxRecDepth 100000 in
theorem fl_RX5_65 : Cond.fieldLink RX5 65 "ProtocolBench$Exprs" "value" "[I" ∈ hp_tbl := hp_in (List.mem_append_right _ (List.mem_append_left _ (List.mem_of_getElem? (i := 86) (by decide +kernel)))) rfl
set_option maxRecDepth 100000 in
theorem g_RX5_65 : hp_Fg RX5 65 1 0 := ⟨_, _, _, _, vcl_1, in_1, by decide, rfl, fl_RX5_65⟩
set_option maxRecDepth 100000 in
theorem fl_RX6_9 : Cond.fieldLink RX6 9 "ProtocolBench$Roles" "members" "[I" ∈ hp_tbl := hp_in (List.mem_append_right _ (List.mem_append_left _ (List.mem_of_getElem? (i := 62) (by decide +kernel)))) rfl
set_option maxRecDepth 100000 in
theorem g_RX6_9 : hp_Fg RX6 9 6 0 := ⟨_, _, _, _, vcl_6, in_6, by decide, rfl, fl_RX6_9⟩
set_option maxRecDepth 100000 in
theorem fl_RX6_15 : Cond.fieldLink RX6 15 "ProtocolBench$Roles" "endBits" "[I" ∈ hp_tbl := hp_in (List.mem_append_right _ (List.mem_append_left _ (List.mem_of_getElem? (i := 70) (by decide +kernel)))) rfl
set_option maxRecDepth 100000 in
theorem g_RX6_15 : hp_Fg RX6 15 6 2 := ⟨_, _, _, _, vcl_6, in_6, by decide, rfl, fl_RX6_15⟩
set_option maxRecDepth 100000 in
theorem fl_RX6_18 : Cond.fieldLink RX6 18 "ProtocolBench$Roles" "told" "I" ∈ hp_tbl := hp_in (List.mem_append_right _ (List.mem_append_left _ (List.mem_of_getElem? (i := 66) (by decide +kernel)))) rfl
set_option maxRecDepth 100000 in
theorem g_RX6_18 : hp_Fg RX6 18 6 1 := ⟨_, _, _, _, vcl_6, in_6, by decide, rfl, fl_RX6_18⟩
set_option maxRecDepth 100000 in
theorem p_RX6_18 : hp_Fp RX6 18 6 1 .int := ⟨_, _, _, _, tyX6, vcl_6, in_6, by decide, rfl, fl_RX6_18, tyX6_ok, nmX6, rfl, rfl⟩
set_option maxRecDepth 100000 in
theorem fl_RX7_11 : Cond.fieldLink RX7 11 "ProtocolBench$Row" "words" "[I" ∈ hp_tbl := hp_in (List.mem_append_right _ (List.mem_append_right _ (List.mem_append_left _ (List.mem_of_getElem? (i := 68) (by decide +kernel))))) rfl
set_option maxRecDepth 100000 in
theorem g_RX7_11 : hp_Fg RX7 11 7 0 := ⟨_, _, _, _, vcl_7, in_7, by decide, rfl, fl_RX7_11⟩
set_option maxRecDepth 100000 in
theorem fl_RX8_12 : Cond.fieldLink RX8 12 "ProtocolBench$Searcher" "now" "LProtocolBench$Row;" ∈ hp_tbl := hp_in (List.mem_append_right _ (List.mem_append_right _ (List.mem_append_left _ (List.mem_of_getElem? (i := 75) (by decide +kernel))))) rfl
set_option maxRecDepth 100000 in
theorem g_RX8_12 : hp_Fg RX8 12 8 2 := ⟨_, _, _, _, vcl_8, in_8, by decide, rfl, fl_RX8_12⟩
set_option maxRecDepth 100000 in
theorem fl_RX8_18 : Cond.fieldLink RX8 18 "ProtocolBench$Searcher" "then" "LProtocolBench$Row;" ∈ hp_tbl := hp_in (List.mem_append_right _ (List.mem_append_right _ (List.mem_append_left _ (List.mem_of_getElem? (i := 76) (by decide +kernel))))) rfl
set_option maxRecDepth 100000 in
theorem g_RX8_18 : hp_Fg RX8 18 8 3 := ⟨_, _, _, _, vcl_8, in_8, by decide, rfl, fl_RX8_18⟩
set_option maxRecDepth 100000 in
theorem fl_RX8_21 : Cond.fieldLink RX8 21 "ProtocolBench$Searcher" "picked" "[I" ∈ hp_tbl := hp_in (List.mem_append_right _ (List.mem_append_right _ (List.mem_append_left _ (List.mem_of_getElem? (i := 77) (by decide +kernel))))) rfl
set_option maxRecDepth 100000 in
theorem g_RX8_21 : hp_Fg RX8 21 8 4 := ⟨_, _, _, _, vcl_8, in_8, by decide, rfl, fl_RX8_21⟩
set_option maxRecDepth 100000 in
theorem fl_RX8_25 : Cond.fieldLink RX8 25 "ProtocolBench$Searcher" "protocol" "LProtocolBench$Protocol;" ∈ hp_tbl := hp_in (List.mem_append_right _ (List.mem_append_right _ (List.mem_append_left _ (List.mem_of_getElem? (i := 73) (by decide +kernel))))) rfl
set_option maxRecDepth 100000 in
theorem g_RX8_25 : hp_Fg RX8 25 8 0 := ⟨_, _, _, _, vcl_8, in_8, by decide, rfl, fl_RX8_25⟩
set_option maxRecDepth 100000 in
theorem fl_RX8_29 : Cond.fieldLink RX8 29 "ProtocolBench$Searcher" "graph" "LProtocolBench$Graph;" ∈ hp_tbl := hp_in (List.mem_append_right _ (List.mem_append_right _ (List.mem_append_left _ (List.mem_of_getElem? (i := 74) (by decide +kernel))))) rfl
set_option maxRecDepth 100000 in
theorem g_RX8_29 : hp_Fg RX8 29 8 1 := ⟨_, _, _, _, vcl_8, in_8, by decide, rfl, fl_RX8_29⟩
set_option maxRecDepth 100000 in
theorem fl_RX8_48 : Cond.fieldLink RX8 48 "ProtocolBench$Graph" "firstMove" "[I" ∈ hp_tbl := hp_in (List.mem_append_right _ (List.mem_append_right _ (List.mem_append_left _ (List.mem_of_getElem? (i := 6) (by decide +kernel))))) rfl
set_option maxRecDepth 100000 in
theorem g_RX8_48 : hp_Fg RX8 48 2 8 := ⟨_, _, _, _, vcl_2, in_2, by decide, rfl, fl_RX8_48⟩
set_option maxRecDepth 100000 in
theorem fl_RX8_51 : Cond.fieldLink RX8 51 "ProtocolBench$Graph" "moveCount" "I" ∈ hp_tbl := hp_in (List.mem_append_right _ (List.mem_append_left _ (List.mem_of_getElem? (i := 236) (by decide +kernel)))) rfl
set_option maxRecDepth 100000 in
theorem g_RX8_51 : hp_Fg RX8 51 2 3 := ⟨_, _, _, _, vcl_2, in_2, by decide, rfl, fl_RX8_51⟩
set_option maxRecDepth 100000 in
theorem fl_RX8_55 : Cond.fieldLink RX8 55 "ProtocolBench$Protocol" "roles" "LProtocolBench$Roles;" ∈ hp_tbl := hp_in (List.mem_append_right _ (List.mem_append_left _ (List.mem_of_getElem? (i := 178) (by decide +kernel)))) rfl
set_option maxRecDepth 100000 in
theorem g_RX8_55 : hp_Fg RX8 55 4 2 := ⟨_, _, _, _, vcl_4, in_4, by decide, rfl, fl_RX8_55⟩
set_option maxRecDepth 100000 in
theorem fl_RX8_59 : Cond.fieldLink RX8 59 "ProtocolBench$Roles" "told" "I" ∈ hp_tbl := hp_in (List.mem_append_right _ (List.mem_append_left _ (List.mem_of_getElem? (i := 68) (by decide +kernel)))) rfl
set_option maxRecDepth 100000 in
theorem g_RX8_59 : hp_Fg RX8 59 6 1 := ⟨_, _, _, _, vcl_6, in_6, by decide, rfl, fl_RX8_59⟩
set_option maxRecDepth 100000 in
theorem fl_RX8_64 : Cond.fieldLink RX8 64 "ProtocolBench$Roles" "members" "[I" ∈ hp_tbl := hp_in (List.mem_append_right _ (List.mem_append_left _ (List.mem_of_getElem? (i := 63) (by decide +kernel)))) rfl
set_option maxRecDepth 100000 in
theorem g_RX8_64 : hp_Fg RX8 64 6 0 := ⟨_, _, _, _, vcl_6, in_6, by decide, rfl, fl_RX8_64⟩
set_option maxRecDepth 100000 in
theorem fl_RX8_67 : Cond.fieldLink RX8 67 "ProtocolBench$Graph" "isSpent" "Z" ∈ hp_tbl := hp_in (List.mem_append_right _ (List.mem_append_left _ (List.mem_of_getElem? (i := 229) (by decide +kernel)))) rfl
set_option maxRecDepth 100000 in
theorem g_RX8_67 : hp_Fg RX8 67 2 1 := ⟨_, _, _, _, vcl_2, in_2, by decide, rfl, fl_RX8_67⟩
set_option maxRecDepth 100000 in
theorem fl_RX8_75 : Cond.fieldLink RX8 75 "ProtocolBench$Protocol" "channels" "I" ∈ hp_tbl := hp_in (List.mem_append_right _ (List.mem_append_left _ (List.mem_of_getElem? (i := 194) (by decide +kernel)))) rfl
set_option maxRecDepth 100000 in
theorem g_RX8_75 : hp_Fg RX8 75 4 8 := ⟨_, _, _, _, vcl_4, in_4, by decide, rfl, fl_RX8_75⟩
set_option maxRecDepth 100000 in
theorem fl_RX8_78 : Cond.fieldLink RX8 78 "ProtocolBench$Protocol" "losesLetters" "[Z" ∈ hp_tbl := hp_in (List.mem_append_right _ (List.mem_append_left _ (List.mem_of_getElem? (i := 192) (by decide +kernel)))) rfl
set_option maxRecDepth 100000 in
theorem g_RX8_78 : hp_Fg RX8 78 4 7 := ⟨_, _, _, _, vcl_4, in_4, by decide, rfl, fl_RX8_78⟩
set_option maxRecDepth 100000 in
theorem fl_RX8_86 : Cond.fieldLink RX8 86 "ProtocolBench$Protocol" "steps" "LProtocolBench$Steps;" ∈ hp_tbl := hp_in (List.mem_append_right _ (List.mem_append_left _ (List.mem_of_getElem? (i := 185) (by decide +kernel)))) rfl
set_option maxRecDepth 100000 in
theorem g_RX8_86 : hp_Fg RX8 86 4 4 := ⟨_, _, _, _, vcl_4, in_4, by decide, rfl, fl_RX8_86⟩
set_option maxRecDepth 100000 in
theorem fl_RX8_94 : Cond.fieldLink RX8 94 "ProtocolBench$Steps" "told" "I" ∈ hp_tbl := hp_in (List.mem_append_right _ (List.mem_append_left _ (List.mem_of_getElem? (i := 148) (by decide +kernel)))) rfl
set_option maxRecDepth 100000 in
theorem g_RX8_94 : hp_Fg RX8 94 9 8 := ⟨_, _, _, _, vcl_9, in_9, by decide, rfl, fl_RX8_94⟩
set_option maxRecDepth 100000 in
theorem fl_RX8_97 : Cond.fieldLink RX8 97 "ProtocolBench$Steps" "roleOf" "[I" ∈ hp_tbl := hp_in (List.mem_append_right _ (List.mem_append_left _ (List.mem_of_getElem? (i := 126) (by decide +kernel)))) rfl
set_option maxRecDepth 100000 in
theorem g_RX8_97 : hp_Fg RX8 97 9 0 := ⟨_, _, _, _, vcl_9, in_9, by decide, rfl, fl_RX8_97⟩
set_option maxRecDepth 100000 in
theorem fl_RX8_100 : Cond.fieldLink RX8 100 "ProtocolBench$Steps" "from" "[I" ∈ hp_tbl := hp_in (List.mem_append_right _ (List.mem_append_left _ (List.mem_of_getElem? (i := 129) (by decide +kernel)))) rfl
set_option maxRecDepth 100000 in
theorem g_RX8_100 : hp_Fg RX8 100 9 1 := ⟨_, _, _, _, vcl_9, in_9, by decide, rfl, fl_RX8_100⟩
set_option maxRecDepth 100000 in
theorem fl_RX8_103 : Cond.fieldLink RX8 103 "ProtocolBench$Protocol" "exprs" "LProtocolBench$Exprs;" ∈ hp_tbl := hp_in (List.mem_append_right _ (List.mem_append_left _ (List.mem_of_getElem? (i := 182) (by decide +kernel)))) rfl
set_option maxRecDepth 100000 in
theorem g_RX8_103 : hp_Fg RX8 103 4 3 := ⟨_, _, _, _, vcl_4, in_4, by decide, rfl, fl_RX8_103⟩
set_option maxRecDepth 100000 in
theorem fl_RX8_120 : Cond.fieldLink RX8 120 "ProtocolBench$Steps" "guard" "[I" ∈ hp_tbl := hp_in (List.mem_append_right _ (List.mem_append_left _ (List.mem_of_getElem? (i := 133) (by decide +kernel)))) rfl
set_option maxRecDepth 100000 in
theorem g_RX8_120 : hp_Fg RX8 120 9 3 := ⟨_, _, _, _, vcl_9, in_9, by decide, rfl, fl_RX8_120⟩
set_option maxRecDepth 100000 in
theorem fl_RX8_123 : Cond.fieldLink RX8 123 "ProtocolBench$Exprs" "value" "[I" ∈ hp_tbl := hp_in (List.mem_append_right _ (List.mem_append_left _ (List.mem_of_getElem? (i := 85) (by decide +kernel)))) rfl
set_option maxRecDepth 100000 in
theorem g_RX8_123 : hp_Fg RX8 123 1 0 := ⟨_, _, _, _, vcl_1, in_1, by decide, rfl, fl_RX8_123⟩
set_option maxRecDepth 100000 in
theorem fl_RX8_126 : Cond.fieldLink RX8 126 "ProtocolBench$Steps" "acts" "[I" ∈ hp_tbl := hp_in (List.mem_append_right _ (List.mem_append_left _ (List.mem_of_getElem? (i := 136) (by decide +kernel)))) rfl
set_option maxRecDepth 100000 in
theorem g_RX8_126 : hp_Fg RX8 126 9 4 := ⟨_, _, _, _, vcl_9, in_9, by decide, rfl, fl_RX8_126⟩
set_option maxRecDepth 100000 in
theorem fl_RX8_129 : Cond.fieldLink RX8 129 "ProtocolBench$Steps" "actA" "[I" ∈ hp_tbl := hp_in (List.mem_append_right _ (List.mem_append_left _ (List.mem_of_getElem? (i := 143) (by decide +kernel)))) rfl
set_option maxRecDepth 100000 in
theorem g_RX8_129 : hp_Fg RX8 129 9 6 := ⟨_, _, _, _, vcl_9, in_9, by decide, rfl, fl_RX8_129⟩
set_option maxRecDepth 100000 in
theorem fl_RX8_132 : Cond.fieldLink RX8 132 "ProtocolBench$Steps" "actKind" "[I" ∈ hp_tbl := hp_in (List.mem_append_right _ (List.mem_append_left _ (List.mem_of_getElem? (i := 140) (by decide +kernel)))) rfl
set_option maxRecDepth 100000 in
theorem g_RX8_132 : hp_Fg RX8 132 9 5 := ⟨_, _, _, _, vcl_9, in_9, by decide, rfl, fl_RX8_132⟩
set_option maxRecDepth 100000 in
theorem fl_RX8_139 : Cond.fieldLink RX8 139 "ProtocolBench$Protocol" "room" "[I" ∈ hp_tbl := hp_in (List.mem_append_right _ (List.mem_append_left _ (List.mem_of_getElem? (i := 188) (by decide +kernel)))) rfl
set_option maxRecDepth 100000 in
theorem g_RX8_139 : hp_Fg RX8 139 4 5 := ⟨_, _, _, _, vcl_4, in_4, by decide, rfl, fl_RX8_139⟩
set_option maxRecDepth 100000 in
theorem fl_RX8_155 : Cond.fieldLink RX8 155 "ProtocolBench$Steps" "to" "[I" ∈ hp_tbl := hp_in (List.mem_append_right _ (List.mem_append_left _ (List.mem_of_getElem? (i := 131) (by decide +kernel)))) rfl
set_option maxRecDepth 100000 in
theorem g_RX8_155 : hp_Fg RX8 155 9 2 := ⟨_, _, _, _, vcl_9, in_9, by decide, rfl, fl_RX8_155⟩
set_option maxRecDepth 100000 in
theorem fl_RX8_180 : Cond.fieldLink RX8 180 "ProtocolBench$Steps" "actB" "[I" ∈ hp_tbl := hp_in (List.mem_append_right _ (List.mem_append_left _ (List.mem_of_getElem? (i := 145) (by decide +kernel)))) rfl
set_option maxRecDepth 100000 in
theorem g_RX8_180 : hp_Fg RX8 180 9 7 := ⟨_, _, _, _, vcl_9, in_9, by decide, rfl, fl_RX8_180⟩
set_option maxRecDepth 100000 in
theorem fl_RX8_200 : Cond.fieldLink RX8 200 "ProtocolBench$Protocol" "shared" "LProtocolBench$Variables;" ∈ hp_tbl := hp_in (List.mem_append_right _ (List.mem_append_left _ (List.mem_of_getElem? (i := 172) (by decide +kernel)))) rfl
set_option maxRecDepth 100000 in
theorem g_RX8_200 : hp_Fg RX8 200 4 0 := ⟨_, _, _, _, vcl_4, in_4, by decide, rfl, fl_RX8_200⟩
set_option maxRecDepth 100000 in
theorem fl_RX8_212 : Cond.fieldLink RX8 212 "ProtocolBench$Protocol" "owns" "LProtocolBench$Variables;" ∈ hp_tbl := hp_in (List.mem_append_right _ (List.mem_append_left _ (List.mem_of_getElem? (i := 175) (by decide +kernel)))) rfl
set_option maxRecDepth 100000 in
theorem g_RX8_212 : hp_Fg RX8 212 4 1 := ⟨_, _, _, _, vcl_4, in_4, by decide, rfl, fl_RX8_212⟩
set_option maxRecDepth 100000 in
theorem fl_RX8_224 : Cond.fieldLink RX8 224 "ProtocolBench$Protocol" "isLoose" "[Z" ∈ hp_tbl := hp_in (List.mem_append_right _ (List.mem_append_left _ (List.mem_of_getElem? (i := 190) (by decide +kernel)))) rfl
set_option maxRecDepth 100000 in
theorem g_RX8_224 : hp_Fg RX8 224 4 6 := ⟨_, _, _, _, vcl_4, in_4, by decide, rfl, fl_RX8_224⟩
set_option maxRecDepth 100000 in
theorem fl_RX8_230 : Cond.fieldLink RX8 230 "ProtocolBench$Protocol" "takesAlike" "Z" ∈ hp_tbl := hp_in (List.mem_append_right _ (List.mem_append_left _ (List.mem_of_getElem? (i := 198) (by decide +kernel)))) rfl
set_option maxRecDepth 100000 in
theorem g_RX8_230 : hp_Fg RX8 230 4 9 := ⟨_, _, _, _, vcl_4, in_4, by decide, rfl, fl_RX8_230⟩
set_option maxRecDepth 100000 in
theorem fl_RX9_9 : Cond.fieldLink RX9 9 "ProtocolBench$Steps" "roleOf" "[I" ∈ hp_tbl := hp_in (List.mem_append_right _ (List.mem_append_left _ (List.mem_of_getElem? (i := 125) (by decide +kernel)))) rfl
set_option maxRecDepth 100000 in
theorem g_RX9_9 : hp_Fg RX9 9 9 0 := ⟨_, _, _, _, vcl_9, in_9, by decide, rfl, fl_RX9_9⟩
set_option maxRecDepth 100000 in
theorem fl_RX9_15 : Cond.fieldLink RX9 15 "ProtocolBench$Steps" "from" "[I" ∈ hp_tbl := hp_in (List.mem_append_right _ (List.mem_append_left _ (List.mem_of_getElem? (i := 128) (by decide +kernel)))) rfl
set_option maxRecDepth 100000 in
theorem g_RX9_15 : hp_Fg RX9 15 9 1 := ⟨_, _, _, _, vcl_9, in_9, by decide, rfl, fl_RX9_15⟩
set_option maxRecDepth 100000 in
theorem fl_RX9_18 : Cond.fieldLink RX9 18 "ProtocolBench$Steps" "to" "[I" ∈ hp_tbl := hp_in (List.mem_append_right _ (List.mem_append_left _ (List.mem_of_getElem? (i := 130) (by decide +kernel)))) rfl
set_option maxRecDepth 100000 in
theorem g_RX9_18 : hp_Fg RX9 18 9 2 := ⟨_, _, _, _, vcl_9, in_9, by decide, rfl, fl_RX9_18⟩
set_option maxRecDepth 100000 in
theorem fl_RX9_21 : Cond.fieldLink RX9 21 "ProtocolBench$Steps" "guard" "[I" ∈ hp_tbl := hp_in (List.mem_append_right _ (List.mem_append_left _ (List.mem_of_getElem? (i := 132) (by decide +kernel)))) rfl
set_option maxRecDepth 100000 in
theorem g_RX9_21 : hp_Fg RX9 21 9 3 := ⟨_, _, _, _, vcl_9, in_9, by decide, rfl, fl_RX9_21⟩
set_option maxRecDepth 100000 in
theorem fl_RX9_24 : Cond.fieldLink RX9 24 "ProtocolBench$Steps" "acts" "[I" ∈ hp_tbl := hp_in (List.mem_append_right _ (List.mem_append_left _ (List.mem_of_getElem? (i := 135) (by decide +kernel)))) rfl
set_option maxRecDepth 100000 in
theorem g_RX9_24 : hp_Fg RX9 24 9 4 := ⟨_, _, _, _, vcl_9, in_9, by decide, rfl, fl_RX9_24⟩
set_option maxRecDepth 100000 in
theorem fl_RX9_27 : Cond.fieldLink RX9 27 "ProtocolBench$Steps" "actKind" "[I" ∈ hp_tbl := hp_in (List.mem_append_right _ (List.mem_append_left _ (List.mem_of_getElem? (i := 139) (by decide +kernel)))) rfl
set_option maxRecDepth 100000 in
theorem g_RX9_27 : hp_Fg RX9 27 9 5 := ⟨_, _, _, _, vcl_9, in_9, by decide, rfl, fl_RX9_27⟩
set_option maxRecDepth 100000 in
theorem fl_RX9_30 : Cond.fieldLink RX9 30 "ProtocolBench$Steps" "actA" "[I" ∈ hp_tbl := hp_in (List.mem_append_right _ (List.mem_append_left _ (List.mem_of_getElem? (i := 142) (by decide +kernel)))) rfl
set_option maxRecDepth 100000 in
theorem g_RX9_30 : hp_Fg RX9 30 9 6 := ⟨_, _, _, _, vcl_9, in_9, by decide, rfl, fl_RX9_30⟩
set_option maxRecDepth 100000 in
theorem fl_RX9_33 : Cond.fieldLink RX9 33 "ProtocolBench$Steps" "actB" "[I" ∈ hp_tbl := hp_in (List.mem_append_right _ (List.mem_append_left _ (List.mem_of_getElem? (i := 144) (by decide +kernel)))) rfl
set_option maxRecDepth 100000 in
theorem g_RX9_33 : hp_Fg RX9 33 9 7 := ⟨_, _, _, _, vcl_9, in_9, by decide, rfl, fl_RX9_33⟩
set_option maxRecDepth 100000 in
theorem fl_RX9_36 : Cond.fieldLink RX9 36 "ProtocolBench$Steps" "told" "I" ∈ hp_tbl := hp_in (List.mem_append_right _ (List.mem_append_left _ (List.mem_of_getElem? (i := 147) (by decide +kernel)))) rfl
set_option maxRecDepth 100000 in
theorem g_RX9_36 : hp_Fg RX9 36 9 8 := ⟨_, _, _, _, vcl_9, in_9, by decide, rfl, fl_RX9_36⟩
set_option maxRecDepth 100000 in
theorem p_RX9_36 : hp_Fp RX9 36 9 8 .int := ⟨_, _, _, _, tyX9, vcl_9, in_9, by decide, rfl, fl_RX9_36, tyX9_ok, nmX9, rfl, rfl⟩
set_option maxRecDepth 100000 in
theorem mm_copy : Cond.native arraycopyName ∈ hp_tbl ∧ Cond.static arraycopyName ∈ hp_tbl ∧ Cond.initialized "java/lang/System" ∈ hp_tbl := ⟨hp_in (List.mem_append_right _ (List.mem_append_right _ (List.mem_append_right _ (List.mem_append_left _ (List.mem_of_getElem? (i := 218) (by decide +kernel)))))) rfl, hp_in (List.mem_append_right _ (List.mem_append_right _ (List.mem_append_right _ (List.mem_append_left _ (List.mem_of_getElem? (i := 217) (by decide +kernel)))))) rfl, hp_in (List.mem_append_right _ (List.mem_append_left _ (List.mem_of_getElem? (i := 15) (by decide +kernel)))) rfl⟩
set_option maxRecDepth 100000 in
theorem mm_min : Cond.static Lib.Math.min.name ∈ hp_tbl ∧ Cond.initialized "java/lang/Math" ∈ hp_tbl ∧ Cond.code Lib.Math.min.name Lib.Math.min.code 2 (some .int) ∈ hp_tbl := ⟨hp_in (List.mem_append_right _ (List.mem_append_right _ (List.mem_append_right _ (List.mem_append_right _ (List.mem_append_right _ (List.mem_append_left _ (List.mem_of_getElem? (i := 35) (by decide +kernel)))))))) rfl, hp_in (List.mem_append_right _ (List.mem_append_left _ (List.mem_of_getElem? (i := 16) (by decide +kernel)))) rfl, hp_in (List.mem_append_right _ (List.mem_append_right _ (List.mem_append_right _ (List.mem_append_right _ (List.mem_append_right _ (List.mem_append_left _ (List.mem_of_getElem? (i := 36) rfl))))))) rfl⟩
set_option maxRecDepth 100000 in
theorem F_X0_observes : hp_Fv RX0 yX0_observes cX0_observes 3 (some .boolean) 1 := ⟨hp_in (List.mem_append_right _ (List.mem_append_right _ (List.mem_append_right _ (List.mem_append_right _ (List.mem_append_right _ (List.mem_append_left _ (List.mem_of_getElem? (i := 68) (by decide +kernel)))))))) rfl, hp_in (List.mem_append_right _ (List.mem_append_right _ (List.mem_append_right _ (List.mem_append_right _ (List.mem_append_right _ (List.mem_append_left _ (List.mem_of_getElem? (i := 69) (by decide +kernel)))))))) rfl, hp_in (List.mem_append_right _ (List.mem_append_left _ (List.mem_of_getElem? (i := 12) (by decide +kernel)))) rfl, hp_in (List.mem_append_right _ (List.mem_append_right _ (List.mem_append_right _ (List.mem_append_right _ (List.mem_append_right _ (List.mem_append_left _ (List.mem_of_getElem? (i := 70) rfl))))))) rfl, by decide +kernel, by decide +kernel, by decide +kernel⟩
abbrev rm_X0_observes : Room := { frames := 0, cells := 0, slots := 0, locals := 0 }
set_option maxRecDepth 100000 in
theorem F_X0_addObserved : hp_Fv RX0 yX0_addObserved cX0_addObserved 2 (some .int) 1 := ⟨hp_in (List.mem_append_right _ (List.mem_append_right _ (List.mem_append_right _ (List.mem_append_right _ (List.mem_append_right _ (List.mem_append_left _ (List.mem_of_getElem? (i := 72) (by decide +kernel)))))))) rfl, hp_in (List.mem_append_right _ (List.mem_append_right _ (List.mem_append_right _ (List.mem_append_right _ (List.mem_append_right _ (List.mem_append_left _ (List.mem_of_getElem? (i := 73) (by decide +kernel)))))))) rfl, hp_in (List.mem_append_right _ (List.mem_append_left _ (List.mem_of_getElem? (i := 12) (by decide +kernel)))) rfl, hp_in (List.mem_append_right _ (List.mem_append_right _ (List.mem_append_right _ (List.mem_append_right _ (List.mem_append_right _ (List.mem_append_left _ (List.mem_of_getElem? (i := 74) rfl))))))) rfl, by decide +kernel, by decide +kernel, by decide +kernel⟩
abbrev rm_X0_addObserved : Room := { frames := 0, cells := 0, slots := 0, locals := 0 }
set_option maxRecDepth 100000 in
theorem F_X0_forget : hp_Fv RX0 yX0_forget cX0_forget 1 none 0 := ⟨hp_in (List.mem_append_right _ (List.mem_append_right _ (List.mem_append_right _ (List.mem_append_left _ (List.mem_of_getElem? (i := 19) (by decide +kernel)))))) rfl, hp_in (List.mem_append_right _ (List.mem_append_right _ (List.mem_append_right _ (List.mem_append_left _ (List.mem_of_getElem? (i := 20) (by decide +kernel)))))) rfl, hp_in (List.mem_append_right _ (List.mem_append_left _ (List.mem_of_getElem? (i := 12) (by decide +kernel)))) rfl, hp_in (List.mem_append_right _ (List.mem_append_right _ (List.mem_append_right _ (List.mem_append_left _ (List.mem_of_getElem? (i := 21) rfl))))) rfl, by decide +kernel, by decide +kernel, by decide +kernel⟩
abbrev rm_X0_forget : Room := { frames := 0, cells := 0, slots := 0, locals := 0 }
set_option maxRecDepth 100000 in
theorem F_J7_fill_53178 : hp_Fs yJ7_fill_53178 cJ7_fill_53178 4 none 2 := ⟨hp_in (List.mem_append_right _ (List.mem_append_right _ (List.mem_append_right _ (List.mem_append_left _ (List.mem_of_getElem? (i := 184) (by decide +kernel)))))) rfl, hp_in (List.mem_append_right _ (List.mem_append_left _ (List.mem_of_getElem? (i := 14) (by decide +kernel)))) rfl, hp_in (List.mem_append_right _ (List.mem_append_right _ (List.mem_append_right _ (List.mem_append_left _ (List.mem_of_getElem? (i := 185) rfl))))) rfl, by decide +kernel, by decide +kernel, by decide +kernel⟩
abbrev rm_J7_fill_53178 : Room := { frames := 0, cells := 0, slots := 0, locals := 0 }
set_option maxRecDepth 100000 in
theorem F_X1_dropUse : hp_Fv RX1 yX1_dropUse cX1_dropUse 3 none 1 := ⟨hp_in (List.mem_append_right _ (List.mem_append_right _ (List.mem_append_right _ (List.mem_append_left _ (List.mem_of_getElem? (i := 156) (by decide +kernel)))))) rfl, hp_in (List.mem_append_right _ (List.mem_append_right _ (List.mem_append_right _ (List.mem_append_left _ (List.mem_of_getElem? (i := 157) (by decide +kernel)))))) rfl, hp_in (List.mem_append_right _ (List.mem_append_left _ (List.mem_of_getElem? (i := 5) (by decide +kernel)))) rfl, hp_in (List.mem_append_right _ (List.mem_append_right _ (List.mem_append_right _ (List.mem_append_left _ (List.mem_of_getElem? (i := 158) rfl))))) rfl, by decide +kernel, by decide +kernel, by decide +kernel⟩
abbrev rm_X1_dropUse : Room := { frames := 0, cells := 0, slots := 0, locals := 0 }
set_option maxRecDepth 100000 in
theorem F_X5_askNothing : hp_Fv RX5 yX5_askNothing cX5_askNothing 1 none 0 := ⟨hp_in (List.mem_append_right _ (List.mem_append_right _ (List.mem_append_right _ (List.mem_append_right _ (List.mem_append_left _ (List.mem_of_getElem? (i := 135) (by decide +kernel))))))) rfl, hp_in (List.mem_append_right _ (List.mem_append_right _ (List.mem_append_right _ (List.mem_append_right _ (List.mem_append_left _ (List.mem_of_getElem? (i := 136) (by decide +kernel))))))) rfl, hp_in (List.mem_append_right _ (List.mem_append_left _ (List.mem_of_getElem? (i := 10) (by decide +kernel)))) rfl, hp_in (List.mem_append_right _ (List.mem_append_right _ (List.mem_append_right _ (List.mem_append_right _ (List.mem_append_left _ (List.mem_of_getElem? (i := 137) rfl)))))) rfl, by decide +kernel, by decide +kernel, by decide +kernel⟩
abbrev rm_X5_askNothing : Room := { frames := 1, cells := 0, slots := 0, locals := 22 }
set_option maxRecDepth 100000 in
theorem F_X1_addUse : hp_Fv RX1 yX1_addUse cX1_addUse 3 none 2 := ⟨hp_in (List.mem_append_right _ (List.mem_append_right _ (List.mem_append_right _ (List.mem_append_left _ (List.mem_of_getElem? (i := 160) (by decide +kernel)))))) rfl, hp_in (List.mem_append_right _ (List.mem_append_right _ (List.mem_append_right _ (List.mem_append_left _ (List.mem_of_getElem? (i := 161) (by decide +kernel)))))) rfl, hp_in (List.mem_append_right _ (List.mem_append_left _ (List.mem_of_getElem? (i := 5) (by decide +kernel)))) rfl, hp_in (List.mem_append_right _ (List.mem_append_right _ (List.mem_append_right _ (List.mem_append_left _ (List.mem_of_getElem? (i := 162) rfl))))) rfl, by decide +kernel, by decide +kernel, by decide +kernel⟩
abbrev rm_X1_addUse : Room := { frames := 0, cells := 0, slots := 0, locals := 0 }
set_option maxRecDepth 100000 in
theorem F_X1_isMade : hp_Fs yX1_isMade cX1_isMade 1 (some .boolean) 1 := ⟨hp_in (List.mem_append_right _ (List.mem_append_right _ (List.mem_append_right _ (List.mem_append_left _ (List.mem_of_getElem? (i := 91) (by decide +kernel)))))) rfl, hp_in (List.mem_append_right _ (List.mem_append_left _ (List.mem_of_getElem? (i := 5) (by decide +kernel)))) rfl, hp_in (List.mem_append_right _ (List.mem_append_right _ (List.mem_append_right _ (List.mem_append_left _ (List.mem_of_getElem? (i := 92) rfl))))) rfl, by decide +kernel, by decide +kernel, by decide +kernel⟩
abbrev rm_X1_isMade : Room := { frames := 0, cells := 0, slots := 0, locals := 0 }
set_option maxRecDepth 100000 in
theorem F_X1_isMadeOfTwo : hp_Fs yX1_isMadeOfTwo cX1_isMadeOfTwo 1 (some .boolean) 1 := ⟨hp_in (List.mem_append_right _ (List.mem_append_right _ (List.mem_append_right _ (List.mem_append_left _ (List.mem_of_getElem? (i := 98) (by decide +kernel)))))) rfl, hp_in (List.mem_append_right _ (List.mem_append_left _ (List.mem_of_getElem? (i := 5) (by decide +kernel)))) rfl, hp_in (List.mem_append_right _ (List.mem_append_right _ (List.mem_append_right _ (List.mem_append_left _ (List.mem_of_getElem? (i := 99) rfl))))) rfl, by decide +kernel, by decide +kernel, by decide +kernel⟩
abbrev rm_X1_isMadeOfTwo : Room := { frames := 0, cells := 0, slots := 0, locals := 0 }
set_option maxRecDepth 100000 in
theorem F_X1_spreadUses : hp_Fv RX1 yX1_spreadUses cX1_spreadUses 2 none 0 := ⟨hp_in (List.mem_append_right _ (List.mem_append_right _ (List.mem_append_right _ (List.mem_append_left _ (List.mem_of_getElem? (i := 164) (by decide +kernel)))))) rfl, hp_in (List.mem_append_right _ (List.mem_append_right _ (List.mem_append_right _ (List.mem_append_left _ (List.mem_of_getElem? (i := 165) (by decide +kernel)))))) rfl, hp_in (List.mem_append_right _ (List.mem_append_left _ (List.mem_of_getElem? (i := 5) (by decide +kernel)))) rfl, hp_in (List.mem_append_right _ (List.mem_append_right _ (List.mem_append_right _ (List.mem_append_left _ (List.mem_of_getElem? (i := 166) rfl))))) rfl, by decide +kernel, by decide +kernel, by decide +kernel⟩
abbrev rm_X1_spreadUses : Room := { frames := 1, cells := 0, slots := 0, locals := 20 }
set_option maxRecDepth 100000 in
theorem F_X5_askToo : hp_Fv RX5 yX5_askToo cX5_askToo 2 none 1 := ⟨hp_in (List.mem_append_right _ (List.mem_append_right _ (List.mem_append_right _ (List.mem_append_right _ (List.mem_append_left _ (List.mem_of_getElem? (i := 140) (by decide +kernel))))))) rfl, hp_in (List.mem_append_right _ (List.mem_append_right _ (List.mem_append_right _ (List.mem_append_right _ (List.mem_append_left _ (List.mem_of_getElem? (i := 141) (by decide +kernel))))))) rfl, hp_in (List.mem_append_right _ (List.mem_append_left _ (List.mem_of_getElem? (i := 10) (by decide +kernel)))) rfl, hp_in (List.mem_append_right _ (List.mem_append_right _ (List.mem_append_right _ (List.mem_append_right _ (List.mem_append_left _ (List.mem_of_getElem? (i := 142) rfl)))))) rfl, by decide +kernel, by decide +kernel, by decide +kernel⟩
abbrev rm_X5_askToo : Room := { frames := 2, cells := 0, slots := 0, locals := 41 }
set_option maxRecDepth 100000 in
theorem F_X2_load : hp_Fv RX2 yX2_load cX2_load 3 none 2 := ⟨hp_in (List.mem_append_right _ (List.mem_append_right _ (List.mem_append_right _ (List.mem_append_left _ (List.mem_of_getElem? (i := 224) (by decide +kernel)))))) rfl, hp_in (List.mem_append_right _ (List.mem_append_right _ (List.mem_append_right _ (List.mem_append_left _ (List.mem_of_getElem? (i := 225) (by decide +kernel)))))) rfl, hp_in (List.mem_append_right _ (List.mem_append_left _ (List.mem_of_getElem? (i := 7) (by decide +kernel)))) rfl, hp_in (List.mem_append_right _ (List.mem_append_right _ (List.mem_append_right _ (List.mem_append_left _ (List.mem_of_getElem? (i := 226) rfl))))) rfl, by decide +kernel, by decide +kernel, by decide +kernel⟩
abbrev rm_X2_load : Room := { frames := 1, cells := 0, slots := 0, locals := 40 }
set_option maxRecDepth 100000 in
theorem F_X5_rowOf : hp_Fv RX5 yX5_rowOf cX5_rowOf 2 (some (.object "ProtocolBench$Row")) 1 := ⟨hp_in (List.mem_append_right _ (List.mem_append_right _ (List.mem_append_right _ (List.mem_append_right _ (List.mem_append_left _ (List.mem_of_getElem? (i := 150) (by decide +kernel))))))) rfl, hp_in (List.mem_append_right _ (List.mem_append_right _ (List.mem_append_right _ (List.mem_append_right _ (List.mem_append_left _ (List.mem_of_getElem? (i := 151) (by decide +kernel))))))) rfl, hp_in (List.mem_append_right _ (List.mem_append_left _ (List.mem_of_getElem? (i := 10) (by decide +kernel)))) rfl, hp_in (List.mem_append_right _ (List.mem_append_right _ (List.mem_append_right _ (List.mem_append_right _ (List.mem_append_left _ (List.mem_of_getElem? (i := 152) rfl)))))) rfl, by decide +kernel, by decide +kernel, by decide +kernel⟩
abbrev rm_X5_rowOf : Room := { frames := 2, cells := 0, slots := 0, locals := 62 }
set_option maxRecDepth 100000 in
theorem F_X1_ofParts : hp_Fs yX1_ofParts cX1_ofParts 3 (some .int) 3 := ⟨hp_in (List.mem_append_right _ (List.mem_append_right _ (List.mem_append_right _ (List.mem_append_right _ (List.mem_append_left _ (List.mem_of_getElem? (i := 0) (by decide +kernel))))))) rfl, hp_in (List.mem_append_right _ (List.mem_append_left _ (List.mem_of_getElem? (i := 5) (by decide +kernel)))) rfl, hp_in (List.mem_append_right _ (List.mem_append_right _ (List.mem_append_right _ (List.mem_append_right _ (List.mem_append_left _ (List.mem_of_getElem? (i := 1) rfl)))))) rfl, by decide +kernel, by decide +kernel, by decide +kernel⟩
abbrev rm_X1_ofParts : Room := { frames := 0, cells := 0, slots := 0, locals := 0 }
set_option maxRecDepth 100000 in
theorem F_X7_sharedValue : hp_Fv RX7 yX7_sharedValue cX7_sharedValue 2 (some .int) 1 := ⟨hp_in (List.mem_append_right _ (List.mem_append_right _ (List.mem_append_right _ (List.mem_append_right _ (List.mem_append_left _ (List.mem_of_getElem? (i := 7) (by decide +kernel))))))) rfl, hp_in (List.mem_append_right _ (List.mem_append_right _ (List.mem_append_right _ (List.mem_append_right _ (List.mem_append_left _ (List.mem_of_getElem? (i := 8) (by decide +kernel))))))) rfl, hp_in (List.mem_append_right _ (List.mem_append_left _ (List.mem_of_getElem? (i := 9) (by decide +kernel)))) rfl, hp_in (List.mem_append_right _ (List.mem_append_right _ (List.mem_append_right _ (List.mem_append_right _ (List.mem_append_left _ (List.mem_of_getElem? (i := 9) rfl)))))) rfl, by decide +kernel, by decide +kernel, by decide +kernel⟩
abbrev rm_X7_sharedValue : Room := { frames := 0, cells := 0, slots := 0, locals := 0 }
set_option maxRecDepth 100000 in
theorem F_X7_ownValue : hp_Fv RX7 yX7_ownValue cX7_ownValue 5 (some .int) 3 := ⟨hp_in (List.mem_append_right _ (List.mem_append_right _ (List.mem_append_right _ (List.mem_append_right _ (List.mem_append_left _ (List.mem_of_getElem? (i := 11) (by decide +kernel))))))) rfl, hp_in (List.mem_append_right _ (List.mem_append_right _ (List.mem_append_right _ (List.mem_append_right _ (List.mem_append_left _ (List.mem_of_getElem? (i := 12) (by decide +kernel))))))) rfl, hp_in (List.mem_append_right _ (List.mem_append_left _ (List.mem_of_getElem? (i := 9) (by decide +kernel)))) rfl, hp_in (List.mem_append_right _ (List.mem_append_right _ (List.mem_append_right _ (List.mem_append_right _ (List.mem_append_left _ (List.mem_of_getElem? (i := 13) rfl)))))) rfl, by decide +kernel, by decide +kernel, by decide +kernel⟩
abbrev rm_X7_ownValue : Room := { frames := 0, cells := 0, slots := 0, locals := 0 }
set_option maxRecDepth 100000 in
theorem F_X7_howManyAt : hp_Fv RX7 yX7_howManyAt cX7_howManyAt 7 (some .int) 3 := ⟨hp_in (List.mem_append_right _ (List.mem_append_right _ (List.mem_append_right _ (List.mem_append_right _ (List.mem_append_left _ (List.mem_of_getElem? (i := 15) (by decide +kernel))))))) rfl, hp_in (List.mem_append_right _ (List.mem_append_right _ (List.mem_append_right _ (List.mem_append_right _ (List.mem_append_left _ (List.mem_of_getElem? (i := 16) (by decide +kernel))))))) rfl, hp_in (List.mem_append_right _ (List.mem_append_left _ (List.mem_of_getElem? (i := 9) (by decide +kernel)))) rfl, hp_in (List.mem_append_right _ (List.mem_append_right _ (List.mem_append_right _ (List.mem_append_right _ (List.mem_append_left _ (List.mem_of_getElem? (i := 17) rfl)))))) rfl, by decide +kernel, by decide +kernel, by decide +kernel⟩
abbrev rm_X7_howManyAt : Room := { frames := 0, cells := 0, slots := 0, locals := 0 }
set_option maxRecDepth 100000 in
theorem F_X7_held : hp_Fv RX7 yX7_held cX7_held 2 (some .int) 1 := ⟨hp_in (List.mem_append_right _ (List.mem_append_right _ (List.mem_append_right _ (List.mem_append_right _ (List.mem_append_left _ (List.mem_of_getElem? (i := 19) (by decide +kernel))))))) rfl, hp_in (List.mem_append_right _ (List.mem_append_right _ (List.mem_append_right _ (List.mem_append_right _ (List.mem_append_left _ (List.mem_of_getElem? (i := 20) (by decide +kernel))))))) rfl, hp_in (List.mem_append_right _ (List.mem_append_left _ (List.mem_of_getElem? (i := 9) (by decide +kernel)))) rfl, hp_in (List.mem_append_right _ (List.mem_append_right _ (List.mem_append_right _ (List.mem_append_right _ (List.mem_append_left _ (List.mem_of_getElem? (i := 21) rfl)))))) rfl, by decide +kernel, by decide +kernel, by decide +kernel⟩
abbrev rm_X7_held : Room := { frames := 0, cells := 0, slots := 0, locals := 0 }
set_option maxRecDepth 100000 in
theorem F_X1_ofRow : hp_Fv RX1 yX1_ofRow cX1_ofRow 5 (some .int) 4 := ⟨hp_in (List.mem_append_right _ (List.mem_append_right _ (List.mem_append_right _ (List.mem_append_right _ (List.mem_append_left _ (List.mem_of_getElem? (i := 4) (by decide +kernel))))))) rfl, hp_in (List.mem_append_left _ (List.mem_of_getElem? (i := 6) (by decide +kernel))) rfl, hp_in (List.mem_append_right _ (List.mem_append_left _ (List.mem_of_getElem? (i := 5) (by decide +kernel)))) rfl, hp_in (List.mem_append_right _ (List.mem_append_right _ (List.mem_append_right _ (List.mem_append_right _ (List.mem_append_left _ (List.mem_of_getElem? (i := 5) rfl)))))) rfl, by decide +kernel, by decide +kernel, by decide +kernel⟩
abbrev rm_X1_ofRow : Room := { frames := 1, cells := 0, slots := 0, locals := 26 }
set_option maxRecDepth 100000 in
theorem F_X1_reckon : hp_Fv RX1 yX1_reckon cX1_reckon 6 none 4 := ⟨hp_in (List.mem_append_right _ (List.mem_append_right _ (List.mem_append_right _ (List.mem_append_left _ (List.mem_of_getElem? (i := 236) (by decide +kernel)))))) rfl, hp_in (List.mem_append_right _ (List.mem_append_right _ (List.mem_append_right _ (List.mem_append_left _ (List.mem_of_getElem? (i := 237) (by decide +kernel)))))) rfl, hp_in (List.mem_append_right _ (List.mem_append_left _ (List.mem_of_getElem? (i := 5) (by decide +kernel)))) rfl, hp_in (List.mem_append_right _ (List.mem_append_right _ (List.mem_append_right _ (List.mem_append_left _ (List.mem_of_getElem? (i := 238) rfl))))) rfl, by decide +kernel, by decide +kernel, by decide +kernel⟩
abbrev rm_X1_reckon : Room := { frames := 2, cells := 0, slots := 0, locals := 50 }
set_option maxRecDepth 100000 in
theorem F_X5_lookAt : hp_Fv RX5 yX5_lookAt cX5_lookAt 2 none 1 := ⟨hp_in (List.mem_append_right _ (List.mem_append_right _ (List.mem_append_right _ (List.mem_append_right _ (List.mem_append_left _ (List.mem_of_getElem? (i := 146) (by decide +kernel))))))) rfl, hp_in (List.mem_append_right _ (List.mem_append_right _ (List.mem_append_right _ (List.mem_append_right _ (List.mem_append_left _ (List.mem_of_getElem? (i := 147) (by decide +kernel))))))) rfl, hp_in (List.mem_append_right _ (List.mem_append_left _ (List.mem_of_getElem? (i := 10) (by decide +kernel)))) rfl, hp_in (List.mem_append_right _ (List.mem_append_right _ (List.mem_append_right _ (List.mem_append_right _ (List.mem_append_left _ (List.mem_of_getElem? (i := 148) rfl)))))) rfl, by decide +kernel, by decide +kernel, by decide +kernel⟩
abbrev rm_X5_lookAt : Room := { frames := 3, cells := 0, slots := 0, locals := 83 }
set_option maxRecDepth 100000 in
theorem F_X5_answer : hp_Fv RX5 yX5_answer cX5_answer 2 (some .int) 1 := ⟨hp_in (List.mem_append_right _ (List.mem_append_right _ (List.mem_append_right _ (List.mem_append_right _ (List.mem_append_left _ (List.mem_of_getElem? (i := 156) (by decide +kernel))))))) rfl, hp_in (List.mem_append_right _ (List.mem_append_right _ (List.mem_append_right _ (List.mem_append_right _ (List.mem_append_left _ (List.mem_of_getElem? (i := 157) (by decide +kernel))))))) rfl, hp_in (List.mem_append_right _ (List.mem_append_left _ (List.mem_of_getElem? (i := 10) (by decide +kernel)))) rfl, hp_in (List.mem_append_right _ (List.mem_append_right _ (List.mem_append_right _ (List.mem_append_right _ (List.mem_append_left _ (List.mem_of_getElem? (i := 158) rfl)))))) rfl, by decide +kernel, by decide +kernel, by decide +kernel⟩
abbrev rm_X5_answer : Room := { frames := 0, cells := 0, slots := 0, locals := 0 }
set_option maxRecDepth 100000 in
theorem F_X0_keyByObserved : hp_Fv RX0 yX0_keyByObserved cX0_keyByObserved 3 none 0 := ⟨hp_in (List.mem_append_right _ (List.mem_append_right _ (List.mem_append_right _ (List.mem_append_right _ (List.mem_append_right _ (List.mem_append_left _ (List.mem_of_getElem? (i := 86) (by decide +kernel)))))))) rfl, hp_in (List.mem_append_left _ (List.mem_of_getElem? (i := 26) (by decide +kernel))) rfl, hp_in (List.mem_append_right _ (List.mem_append_left _ (List.mem_of_getElem? (i := 12) (by decide +kernel)))) rfl, hp_in (List.mem_append_right _ (List.mem_append_right _ (List.mem_append_right _ (List.mem_append_right _ (List.mem_append_right _ (List.mem_append_left _ (List.mem_of_getElem? (i := 87) rfl))))))) rfl, by decide +kernel, by decide +kernel, by decide +kernel⟩
abbrev rm_X0_keyByObserved : Room := { frames := 4, cells := 0, slots := 0, locals := 104 }
set_option maxRecDepth 100000 in
theorem F_X0_haveSameKeys : hp_Fv RX0 yX0_haveSameKeys cX0_haveSameKeys 5 (some .boolean) 3 := ⟨hp_in (List.mem_append_right _ (List.mem_append_right _ (List.mem_append_right _ (List.mem_append_right _ (List.mem_append_right _ (List.mem_append_left _ (List.mem_of_getElem? (i := 102) (by decide +kernel)))))))) rfl, hp_in (List.mem_append_left _ (List.mem_of_getElem? (i := 29) (by decide +kernel))) rfl, hp_in (List.mem_append_right _ (List.mem_append_left _ (List.mem_of_getElem? (i := 12) (by decide +kernel)))) rfl, hp_in (List.mem_append_right _ (List.mem_append_right _ (List.mem_append_right _ (List.mem_append_right _ (List.mem_append_right _ (List.mem_append_left _ (List.mem_of_getElem? (i := 103) rfl))))))) rfl, by decide +kernel, by decide +kernel, by decide +kernel⟩
abbrev rm_X0_haveSameKeys : Room := { frames := 0, cells := 0, slots := 0, locals := 0 }
set_option maxRecDepth 100000 in
theorem F_X0_newPartLike : hp_Fv RX0 yX0_newPartLike cX0_newPartLike 5 (some .int) 2 := ⟨hp_in (List.mem_append_right _ (List.mem_append_right _ (List.mem_append_right _ (List.mem_append_right _ (List.mem_append_right _ (List.mem_append_left _ (List.mem_of_getElem? (i := 98) (by decide +kernel)))))))) rfl, hp_in (List.mem_append_left _ (List.mem_of_getElem? (i := 28) (by decide +kernel))) rfl, hp_in (List.mem_append_right _ (List.mem_append_left _ (List.mem_of_getElem? (i := 12) (by decide +kernel)))) rfl, hp_in (List.mem_append_right _ (List.mem_append_right _ (List.mem_append_right _ (List.mem_append_right _ (List.mem_append_right _ (List.mem_append_left _ (List.mem_of_getElem? (i := 99) rfl))))))) rfl, by decide +kernel, by decide +kernel, by decide +kernel⟩
abbrev rm_X0_newPartLike : Room := { frames := 1, cells := 0, slots := 0, locals := 24 }
set_option maxRecDepth 100000 in
theorem F_X0_openPart : hp_Fv RX0 yX0_openPart cX0_openPart 3 (some .int) 1 := ⟨hp_in (List.mem_append_right _ (List.mem_append_right _ (List.mem_append_right _ (List.mem_append_right _ (List.mem_append_right _ (List.mem_append_left _ (List.mem_of_getElem? (i := 106) (by decide +kernel)))))))) rfl, hp_in (List.mem_append_left _ (List.mem_of_getElem? (i := 30) (by decide +kernel))) rfl, hp_in (List.mem_append_right _ (List.mem_append_left _ (List.mem_of_getElem? (i := 12) (by decide +kernel)))) rfl, hp_in (List.mem_append_right _ (List.mem_append_right _ (List.mem_append_right _ (List.mem_append_right _ (List.mem_append_right _ (List.mem_append_left _ (List.mem_of_getElem? (i := 107) rfl))))))) rfl, by decide +kernel, by decide +kernel, by decide +kernel⟩
abbrev rm_X0_openPart : Room := { frames := 0, cells := 0, slots := 0, locals := 0 }
set_option maxRecDepth 100000 in
theorem F_X0_split : hp_Fv RX0 yX0_split cX0_split 4 none 1 := ⟨hp_in (List.mem_append_right _ (List.mem_append_right _ (List.mem_append_right _ (List.mem_append_right _ (List.mem_append_right _ (List.mem_append_left _ (List.mem_of_getElem? (i := 94) (by decide +kernel)))))))) rfl, hp_in (List.mem_append_left _ (List.mem_of_getElem? (i := 27) (by decide +kernel))) rfl, hp_in (List.mem_append_right _ (List.mem_append_left _ (List.mem_of_getElem? (i := 12) (by decide +kernel)))) rfl, hp_in (List.mem_append_right _ (List.mem_append_right _ (List.mem_append_right _ (List.mem_append_right _ (List.mem_append_right _ (List.mem_append_left _ (List.mem_of_getElem? (i := 95) rfl))))))) rfl, by decide +kernel, by decide +kernel, by decide +kernel⟩
abbrev rm_X0_split : Room := { frames := 2, cells := 0, slots := 0, locals := 48 }
set_option maxRecDepth 100000 in
theorem F_J7_rangeCheck_23922 : hp_Fs yJ7_rangeCheck_23922 cJ7_rangeCheck_23922 3 none 3 := ⟨hp_in (List.mem_append_right _ (List.mem_append_right _ (List.mem_append_right _ (List.mem_append_right _ (List.mem_append_right _ (List.mem_append_left _ (List.mem_of_getElem? (i := 116) (by decide +kernel)))))))) rfl, hp_in (List.mem_append_right _ (List.mem_append_left _ (List.mem_of_getElem? (i := 14) (by decide +kernel)))) rfl, hp_in (List.mem_append_right _ (List.mem_append_right _ (List.mem_append_right _ (List.mem_append_right _ (List.mem_append_right _ (List.mem_append_left _ (List.mem_of_getElem? (i := 117) rfl))))))) rfl, by decide +kernel, by decide +kernel, by decide +kernel⟩
abbrev rm_J7_rangeCheck_23922 : Room := { frames := 0, cells := 0, slots := 0, locals := 0 }
set_option maxRecDepth 100000 in
theorem F_J7_fill_fda19 : hp_Fs yJ7_fill_fda19 cJ7_fill_fda19 5 none 4 := ⟨hp_in (List.mem_append_right _ (List.mem_append_right _ (List.mem_append_right _ (List.mem_append_right _ (List.mem_append_right _ (List.mem_append_left _ (List.mem_of_getElem? (i := 113) (by decide +kernel)))))))) rfl, hp_in (List.mem_append_right _ (List.mem_append_left _ (List.mem_of_getElem? (i := 14) (by decide +kernel)))) rfl, hp_in (List.mem_append_right _ (List.mem_append_right _ (List.mem_append_right _ (List.mem_append_right _ (List.mem_append_right _ (List.mem_append_left _ (List.mem_of_getElem? (i := 114) rfl))))))) rfl, by decide +kernel, by decide +kernel, by decide +kernel⟩
abbrev rm_J7_fill_fda19 : Room := { frames := 1, cells := 0, slots := 0, locals := 22 }
set_option maxRecDepth 100000 in
theorem F_X0_keyByMoves : hp_Fv RX0 yX0_keyByMoves cX0_keyByMoves 6 none 1 := ⟨hp_in (List.mem_append_right _ (List.mem_append_right _ (List.mem_append_right _ (List.mem_append_right _ (List.mem_append_right _ (List.mem_append_left _ (List.mem_of_getElem? (i := 110) (by decide +kernel)))))))) rfl, hp_in (List.mem_append_left _ (List.mem_of_getElem? (i := 31) (by decide +kernel))) rfl, hp_in (List.mem_append_right _ (List.mem_append_left _ (List.mem_of_getElem? (i := 12) (by decide +kernel)))) rfl, hp_in (List.mem_append_right _ (List.mem_append_right _ (List.mem_append_right _ (List.mem_append_right _ (List.mem_append_right _ (List.mem_append_left _ (List.mem_of_getElem? (i := 111) rfl))))))) rfl, by decide +kernel, by decide +kernel, by decide +kernel⟩
abbrev rm_X0_keyByMoves : Room := { frames := 2, cells := 0, slots := 0, locals := 46 }
set_option maxRecDepth 100000 in
theorem F_X0_makeSure : hp_Fv RX0 yX0_makeSure cX0_makeSure 5 none 0 := ⟨hp_in (List.mem_append_right _ (List.mem_append_right _ (List.mem_append_right _ (List.mem_append_right _ (List.mem_append_right _ (List.mem_append_left _ (List.mem_of_getElem? (i := 80) (by decide +kernel)))))))) rfl, hp_in (List.mem_append_right _ (List.mem_append_right _ (List.mem_append_right _ (List.mem_append_right _ (List.mem_append_right _ (List.mem_append_left _ (List.mem_of_getElem? (i := 81) (by decide +kernel)))))))) rfl, hp_in (List.mem_append_right _ (List.mem_append_left _ (List.mem_of_getElem? (i := 12) (by decide +kernel)))) rfl, hp_in (List.mem_append_right _ (List.mem_append_right _ (List.mem_append_right _ (List.mem_append_right _ (List.mem_append_right _ (List.mem_append_left _ (List.mem_of_getElem? (i := 82) rfl))))))) rfl, by decide +kernel, by decide +kernel, by decide +kernel⟩
abbrev rm_X0_makeSure : Room := { frames := 5, cells := 0, slots := 0, locals := 126 }
set_option maxRecDepth 100000 in
theorem F_X1_has : hp_Fv RX1 yX1_has cX1_has 2 (some .boolean) 1 := ⟨hp_in (List.mem_append_right _ (List.mem_append_right _ (List.mem_append_right _ (List.mem_append_left _ (List.mem_of_getElem? (i := 94) (by decide +kernel)))))) rfl, hp_in (List.mem_append_right _ (List.mem_append_right _ (List.mem_append_right _ (List.mem_append_left _ (List.mem_of_getElem? (i := 95) (by decide +kernel)))))) rfl, hp_in (List.mem_append_right _ (List.mem_append_left _ (List.mem_of_getElem? (i := 5) (by decide +kernel)))) rfl, hp_in (List.mem_append_right _ (List.mem_append_right _ (List.mem_append_right _ (List.mem_append_left _ (List.mem_of_getElem? (i := 96) rfl))))) rfl, by decide +kernel, by decide +kernel, by decide +kernel⟩
abbrev rm_X1_has : Room := { frames := 0, cells := 0, slots := 0, locals := 0 }
set_option maxRecDepth 100000 in
theorem F_X1_isOwned : hp_Fv RX1 yX1_isOwned cX1_isOwned 2 (some .boolean) 1 := ⟨hp_in (List.mem_append_right _ (List.mem_append_right _ (List.mem_append_right _ (List.mem_append_right _ (List.mem_append_left _ (List.mem_of_getElem? (i := 126) (by decide +kernel))))))) rfl, hp_in (List.mem_append_right _ (List.mem_append_right _ (List.mem_append_right _ (List.mem_append_right _ (List.mem_append_left _ (List.mem_of_getElem? (i := 127) (by decide +kernel))))))) rfl, hp_in (List.mem_append_right _ (List.mem_append_left _ (List.mem_of_getElem? (i := 5) (by decide +kernel)))) rfl, hp_in (List.mem_append_right _ (List.mem_append_right _ (List.mem_append_right _ (List.mem_append_right _ (List.mem_append_left _ (List.mem_of_getElem? (i := 128) rfl)))))) rfl, by decide +kernel, by decide +kernel, by decide +kernel⟩
abbrev rm_X1_isOwned : Room := { frames := 0, cells := 0, slots := 0, locals := 0 }
set_option maxRecDepth 100000 in
theorem F_X1_tellsMembersApart : hp_Fv RX1 yX1_tellsMembersApart cX1_tellsMembersApart 1 (some .boolean) 0 := ⟨hp_in (List.mem_append_right _ (List.mem_append_right _ (List.mem_append_right _ (List.mem_append_left _ (List.mem_of_getElem? (i := 148) (by decide +kernel)))))) rfl, hp_in (List.mem_append_right _ (List.mem_append_right _ (List.mem_append_right _ (List.mem_append_left _ (List.mem_of_getElem? (i := 149) (by decide +kernel)))))) rfl, hp_in (List.mem_append_right _ (List.mem_append_left _ (List.mem_of_getElem? (i := 5) (by decide +kernel)))) rfl, hp_in (List.mem_append_right _ (List.mem_append_right _ (List.mem_append_right _ (List.mem_append_left _ (List.mem_of_getElem? (i := 150) rfl))))) rfl, by decide +kernel, by decide +kernel, by decide +kernel⟩
abbrev rm_X1_tellsMembersApart : Room := { frames := 0, cells := 0, slots := 0, locals := 0 }
set_option maxRecDepth 100000 in
theorem F_X1_add : hp_Fv RX1 yX1_add cX1_add 5 (some .int) 4 := ⟨hp_in (List.mem_append_right _ (List.mem_append_right _ (List.mem_append_right _ (List.mem_append_left _ (List.mem_of_getElem? (i := 101) (by decide +kernel)))))) rfl, hp_in (List.mem_append_right _ (List.mem_append_right _ (List.mem_append_right _ (List.mem_append_left _ (List.mem_of_getElem? (i := 102) (by decide +kernel)))))) rfl, hp_in (List.mem_append_right _ (List.mem_append_left _ (List.mem_of_getElem? (i := 5) (by decide +kernel)))) rfl, hp_in (List.mem_append_right _ (List.mem_append_right _ (List.mem_append_right _ (List.mem_append_left _ (List.mem_of_getElem? (i := 103) rfl))))) rfl, by decide +kernel, by decide +kernel, by decide +kernel⟩
abbrev rm_X1_add : Room := { frames := 1, cells := 0, slots := 0, locals := 20 }
set_option maxRecDepth 100000 in
theorem F_X1_namesBeyond : hp_Fv RX1 yX1_namesBeyond cX1_namesBeyond 4 (some .boolean) 2 := ⟨hp_in (List.mem_append_right _ (List.mem_append_right _ (List.mem_append_right _ (List.mem_append_left _ (List.mem_of_getElem? (i := 168) (by decide +kernel)))))) rfl, hp_in (List.mem_append_right _ (List.mem_append_right _ (List.mem_append_right _ (List.mem_append_left _ (List.mem_of_getElem? (i := 169) (by decide +kernel)))))) rfl, hp_in (List.mem_append_right _ (List.mem_append_left _ (List.mem_of_getElem? (i := 5) (by decide +kernel)))) rfl, hp_in (List.mem_append_right _ (List.mem_append_right _ (List.mem_append_right _ (List.mem_append_left _ (List.mem_of_getElem? (i := 170) rfl))))) rfl, by decide +kernel, by decide +kernel, by decide +kernel⟩
abbrev rm_X1_namesBeyond : Room := { frames := 0, cells := 0, slots := 0, locals := 0 }
set_option maxRecDepth 100000 in
theorem F_X2_clear : hp_Fv RX2 yX2_clear cX2_clear 1 none 0 := ⟨hp_in (List.mem_append_right _ (List.mem_append_right _ (List.mem_append_right _ (List.mem_append_left _ (List.mem_of_getElem? (i := 15) (by decide +kernel)))))) rfl, hp_in (List.mem_append_right _ (List.mem_append_right _ (List.mem_append_right _ (List.mem_append_left _ (List.mem_of_getElem? (i := 16) (by decide +kernel)))))) rfl, hp_in (List.mem_append_right _ (List.mem_append_left _ (List.mem_of_getElem? (i := 7) (by decide +kernel)))) rfl, hp_in (List.mem_append_right _ (List.mem_append_right _ (List.mem_append_right _ (List.mem_append_left _ (List.mem_of_getElem? (i := 17) rfl))))) rfl, by decide +kernel, by decide +kernel, by decide +kernel⟩
abbrev rm_X2_clear : Room := { frames := 0, cells := 0, slots := 0, locals := 0 }
set_option maxRecDepth 100000 in
theorem F_X2_isSame : hp_Fv RX2 yX2_isSame cX2_isSame 5 (some .boolean) 2 := ⟨hp_in (List.mem_append_right _ (List.mem_append_right _ (List.mem_append_right _ (List.mem_append_left _ (List.mem_of_getElem? (i := 210) (by decide +kernel)))))) rfl, hp_in (List.mem_append_left _ (List.mem_of_getElem? (i := 3) (by decide +kernel))) rfl, hp_in (List.mem_append_right _ (List.mem_append_left _ (List.mem_of_getElem? (i := 7) (by decide +kernel)))) rfl, hp_in (List.mem_append_right _ (List.mem_append_right _ (List.mem_append_right _ (List.mem_append_left _ (List.mem_of_getElem? (i := 211) rfl))))) rfl, by decide +kernel, by decide +kernel, by decide +kernel⟩
abbrev rm_X2_isSame : Room := { frames := 0, cells := 0, slots := 0, locals := 0 }
set_option maxRecDepth 100000 in
theorem F_X2_slotOf : hp_Fv RX2 yX2_slotOf cX2_slotOf 5 (some .int) 1 := ⟨hp_in (List.mem_append_right _ (List.mem_append_right _ (List.mem_append_right _ (List.mem_append_left _ (List.mem_of_getElem? (i := 206) (by decide +kernel)))))) rfl, hp_in (List.mem_append_left _ (List.mem_of_getElem? (i := 2) (by decide +kernel))) rfl, hp_in (List.mem_append_right _ (List.mem_append_left _ (List.mem_of_getElem? (i := 7) (by decide +kernel)))) rfl, hp_in (List.mem_append_right _ (List.mem_append_right _ (List.mem_append_right _ (List.mem_append_left _ (List.mem_of_getElem? (i := 207) rfl))))) rfl, by decide +kernel, by decide +kernel, by decide +kernel⟩
abbrev rm_X2_slotOf : Room := { frames := 1, cells := 0, slots := 0, locals := 24 }
set_option maxRecDepth 100000 in
theorem F_X2_addState : hp_Fv RX2 yX2_addState cX2_addState 5 none 4 := ⟨hp_in (List.mem_append_right _ (List.mem_append_right _ (List.mem_append_right _ (List.mem_append_left _ (List.mem_of_getElem? (i := 214) (by decide +kernel)))))) rfl, hp_in (List.mem_append_left _ (List.mem_of_getElem? (i := 4) (by decide +kernel))) rfl, hp_in (List.mem_append_right _ (List.mem_append_left _ (List.mem_of_getElem? (i := 7) (by decide +kernel)))) rfl, hp_in (List.mem_append_right _ (List.mem_append_right _ (List.mem_append_right _ (List.mem_append_left _ (List.mem_of_getElem? (i := 215) rfl))))) rfl, by decide +kernel, by decide +kernel, by decide +kernel⟩
abbrev rm_X2_addState : Room := { frames := 1, cells := 0, slots := 0, locals := 40 }
set_option maxRecDepth 100000 in
theorem F_X2_begin : hp_Fv RX2 yX2_begin cX2_begin 2 none 1 := ⟨hp_in (List.mem_append_right _ (List.mem_append_right _ (List.mem_append_right _ (List.mem_append_left _ (List.mem_of_getElem? (i := 199) (by decide +kernel)))))) rfl, hp_in (List.mem_append_right _ (List.mem_append_right _ (List.mem_append_right _ (List.mem_append_left _ (List.mem_of_getElem? (i := 200) (by decide +kernel)))))) rfl, hp_in (List.mem_append_right _ (List.mem_append_left _ (List.mem_of_getElem? (i := 7) (by decide +kernel)))) rfl, hp_in (List.mem_append_right _ (List.mem_append_right _ (List.mem_append_right _ (List.mem_append_left _ (List.mem_of_getElem? (i := 201) rfl))))) rfl, by decide +kernel, by decide +kernel, by decide +kernel⟩
abbrev rm_X2_begin : Room := { frames := 2, cells := 0, slots := 0, locals := 64 }
set_option maxRecDepth 100000 in
theorem F_X2_isUsable : hp_Fv RX2 yX2_isUsable cX2_isUsable 1 (some .boolean) 0 := ⟨hp_in (List.mem_append_right _ (List.mem_append_right _ (List.mem_append_right _ (List.mem_append_right _ (List.mem_append_left _ (List.mem_of_getElem? (i := 122) (by decide +kernel))))))) rfl, hp_in (List.mem_append_right _ (List.mem_append_right _ (List.mem_append_right _ (List.mem_append_right _ (List.mem_append_left _ (List.mem_of_getElem? (i := 123) (by decide +kernel))))))) rfl, hp_in (List.mem_append_right _ (List.mem_append_left _ (List.mem_of_getElem? (i := 7) (by decide +kernel)))) rfl, hp_in (List.mem_append_right _ (List.mem_append_right _ (List.mem_append_right _ (List.mem_append_right _ (List.mem_append_left _ (List.mem_of_getElem? (i := 124) rfl)))))) rfl, by decide +kernel, by decide +kernel, by decide +kernel⟩
abbrev rm_X2_isUsable : Room := { frames := 0, cells := 0, slots := 0, locals := 0 }
set_option maxRecDepth 100000 in
theorem F_X2_has : hp_Fv RX2 yX2_has cX2_has 2 (some .boolean) 1 := ⟨hp_in (List.mem_append_right _ (List.mem_append_right _ (List.mem_append_right _ (List.mem_append_right _ (List.mem_append_left _ (List.mem_of_getElem? (i := 118) (by decide +kernel))))))) rfl, hp_in (List.mem_append_right _ (List.mem_append_right _ (List.mem_append_right _ (List.mem_append_right _ (List.mem_append_left _ (List.mem_of_getElem? (i := 119) (by decide +kernel))))))) rfl, hp_in (List.mem_append_right _ (List.mem_append_left _ (List.mem_of_getElem? (i := 7) (by decide +kernel)))) rfl, hp_in (List.mem_append_right _ (List.mem_append_right _ (List.mem_append_right _ (List.mem_append_right _ (List.mem_append_left _ (List.mem_of_getElem? (i := 120) rfl)))))) rfl, by decide +kernel, by decide +kernel, by decide +kernel⟩
abbrev rm_X2_has : Room := { frames := 1, cells := 0, slots := 0, locals := 20 }
set_option maxRecDepth 100000 in
theorem F_X2_movesFrom : hp_Fv RX2 yX2_movesFrom cX2_movesFrom 2 (some .int) 1 := ⟨hp_in (List.mem_append_right _ (List.mem_append_right _ (List.mem_append_right _ (List.mem_append_right _ (List.mem_append_left _ (List.mem_of_getElem? (i := 185) (by decide +kernel))))))) rfl, hp_in (List.mem_append_right _ (List.mem_append_right _ (List.mem_append_right _ (List.mem_append_right _ (List.mem_append_left _ (List.mem_of_getElem? (i := 186) (by decide +kernel))))))) rfl, hp_in (List.mem_append_right _ (List.mem_append_left _ (List.mem_of_getElem? (i := 7) (by decide +kernel)))) rfl, hp_in (List.mem_append_right _ (List.mem_append_right _ (List.mem_append_right _ (List.mem_append_right _ (List.mem_append_left _ (List.mem_of_getElem? (i := 187) rfl)))))) rfl, by decide +kernel, by decide +kernel, by decide +kernel⟩
abbrev rm_X2_movesFrom : Room := { frames := 0, cells := 0, slots := 0, locals := 0 }
set_option maxRecDepth 100000 in
theorem F_X2_roleOfMove : hp_Fv RX2 yX2_roleOfMove cX2_roleOfMove 2 (some .int) 1 := ⟨hp_in (List.mem_append_right _ (List.mem_append_right _ (List.mem_append_right _ (List.mem_append_right _ (List.mem_append_left _ (List.mem_of_getElem? (i := 193) (by decide +kernel))))))) rfl, hp_in (List.mem_append_right _ (List.mem_append_right _ (List.mem_append_right _ (List.mem_append_right _ (List.mem_append_left _ (List.mem_of_getElem? (i := 194) (by decide +kernel))))))) rfl, hp_in (List.mem_append_right _ (List.mem_append_left _ (List.mem_of_getElem? (i := 7) (by decide +kernel)))) rfl, hp_in (List.mem_append_right _ (List.mem_append_right _ (List.mem_append_right _ (List.mem_append_right _ (List.mem_append_left _ (List.mem_of_getElem? (i := 195) rfl)))))) rfl, by decide +kernel, by decide +kernel, by decide +kernel⟩
abbrev rm_X2_roleOfMove : Room := { frames := 0, cells := 0, slots := 0, locals := 0 }
set_option maxRecDepth 100000 in
theorem F_X2_memberOfMove : hp_Fv RX2 yX2_memberOfMove cX2_memberOfMove 2 (some .int) 1 := ⟨hp_in (List.mem_append_right _ (List.mem_append_right _ (List.mem_append_right _ (List.mem_append_right _ (List.mem_append_left _ (List.mem_of_getElem? (i := 197) (by decide +kernel))))))) rfl, hp_in (List.mem_append_right _ (List.mem_append_right _ (List.mem_append_right _ (List.mem_append_right _ (List.mem_append_left _ (List.mem_of_getElem? (i := 198) (by decide +kernel))))))) rfl, hp_in (List.mem_append_right _ (List.mem_append_left _ (List.mem_of_getElem? (i := 7) (by decide +kernel)))) rfl, hp_in (List.mem_append_right _ (List.mem_append_right _ (List.mem_append_right _ (List.mem_append_right _ (List.mem_append_left _ (List.mem_of_getElem? (i := 199) rfl)))))) rfl, by decide +kernel, by decide +kernel, by decide +kernel⟩
abbrev rm_X2_memberOfMove : Room := { frames := 0, cells := 0, slots := 0, locals := 0 }
set_option maxRecDepth 100000 in
theorem F_X2_stepOfMove : hp_Fv RX2 yX2_stepOfMove cX2_stepOfMove 2 (some .int) 1 := ⟨hp_in (List.mem_append_right _ (List.mem_append_right _ (List.mem_append_right _ (List.mem_append_right _ (List.mem_append_left _ (List.mem_of_getElem? (i := 201) (by decide +kernel))))))) rfl, hp_in (List.mem_append_right _ (List.mem_append_right _ (List.mem_append_right _ (List.mem_append_right _ (List.mem_append_left _ (List.mem_of_getElem? (i := 202) (by decide +kernel))))))) rfl, hp_in (List.mem_append_right _ (List.mem_append_left _ (List.mem_of_getElem? (i := 7) (by decide +kernel)))) rfl, hp_in (List.mem_append_right _ (List.mem_append_right _ (List.mem_append_right _ (List.mem_append_right _ (List.mem_append_left _ (List.mem_of_getElem? (i := 203) rfl)))))) rfl, by decide +kernel, by decide +kernel, by decide +kernel⟩
abbrev rm_X2_stepOfMove : Room := { frames := 0, cells := 0, slots := 0, locals := 0 }
set_option maxRecDepth 100000 in
theorem F_X2_moverBit : hp_Fv RX2 yX2_moverBit cX2_moverBit 2 (some .int) 1 := ⟨hp_in (List.mem_append_right _ (List.mem_append_right _ (List.mem_append_right _ (List.mem_append_right _ (List.mem_append_left _ (List.mem_of_getElem? (i := 222) (by decide +kernel))))))) rfl, hp_in (List.mem_append_right _ (List.mem_append_right _ (List.mem_append_right _ (List.mem_append_right _ (List.mem_append_left _ (List.mem_of_getElem? (i := 223) (by decide +kernel))))))) rfl, hp_in (List.mem_append_right _ (List.mem_append_left _ (List.mem_of_getElem? (i := 7) (by decide +kernel)))) rfl, hp_in (List.mem_append_right _ (List.mem_append_right _ (List.mem_append_right _ (List.mem_append_right _ (List.mem_append_left _ (List.mem_of_getElem? (i := 224) rfl)))))) rfl, by decide +kernel, by decide +kernel, by decide +kernel⟩
abbrev rm_X2_moverBit : Room := { frames := 0, cells := 0, slots := 0, locals := 0 }
set_option maxRecDepth 100000 in
theorem F_X2_hasMemberMove : hp_Fv RX2 yX2_hasMemberMove cX2_hasMemberMove 2 (some .boolean) 1 := ⟨hp_in (List.mem_append_right _ (List.mem_append_right _ (List.mem_append_right _ (List.mem_append_right _ (List.mem_append_left _ (List.mem_of_getElem? (i := 217) (by decide +kernel))))))) rfl, hp_in (List.mem_append_right _ (List.mem_append_right _ (List.mem_append_right _ (List.mem_append_right _ (List.mem_append_left _ (List.mem_of_getElem? (i := 218) (by decide +kernel))))))) rfl, hp_in (List.mem_append_right _ (List.mem_append_left _ (List.mem_of_getElem? (i := 7) (by decide +kernel)))) rfl, hp_in (List.mem_append_right _ (List.mem_append_right _ (List.mem_append_right _ (List.mem_append_right _ (List.mem_append_left _ (List.mem_of_getElem? (i := 219) rfl)))))) rfl, by decide +kernel, by decide +kernel, by decide +kernel⟩
abbrev rm_X2_hasMemberMove : Room := { frames := 1, cells := 0, slots := 0, locals := 21 }
set_option maxRecDepth 100000 in
theorem F_X2_mover : hp_Fs yX2_mover cX2_mover 3 (some .int) 3 := ⟨hp_in (List.mem_append_right _ (List.mem_append_right _ (List.mem_append_right _ (List.mem_append_right _ (List.mem_append_left _ (List.mem_of_getElem? (i := 86) (by decide +kernel))))))) rfl, hp_in (List.mem_append_right _ (List.mem_append_left _ (List.mem_of_getElem? (i := 7) (by decide +kernel)))) rfl, hp_in (List.mem_append_right _ (List.mem_append_right _ (List.mem_append_right _ (List.mem_append_right _ (List.mem_append_left _ (List.mem_of_getElem? (i := 87) rfl)))))) rfl, by decide +kernel, by decide +kernel, by decide +kernel⟩
abbrev rm_X2_mover : Room := { frames := 0, cells := 0, slots := 0, locals := 0 }
set_option maxRecDepth 100000 in
theorem F_X2_noteFault : hp_Fv RX2 yX2_noteFault cX2_noteFault 5 none 4 := ⟨hp_in (List.mem_append_right _ (List.mem_append_right _ (List.mem_append_right _ (List.mem_append_right _ (List.mem_append_left _ (List.mem_of_getElem? (i := 93) (by decide +kernel))))))) rfl, hp_in (List.mem_append_right _ (List.mem_append_right _ (List.mem_append_right _ (List.mem_append_right _ (List.mem_append_left _ (List.mem_of_getElem? (i := 94) (by decide +kernel))))))) rfl, hp_in (List.mem_append_right _ (List.mem_append_left _ (List.mem_of_getElem? (i := 7) (by decide +kernel)))) rfl, hp_in (List.mem_append_right _ (List.mem_append_right _ (List.mem_append_right _ (List.mem_append_right _ (List.mem_append_left _ (List.mem_of_getElem? (i := 95) rfl)))))) rfl, by decide +kernel, by decide +kernel, by decide +kernel⟩
abbrev rm_X2_noteFault : Room := { frames := 0, cells := 0, slots := 0, locals := 0 }
set_option maxRecDepth 100000 in
theorem F_X2_addMove : hp_Fv RX2 yX2_addMove cX2_addMove 6 none 3 := ⟨hp_in (List.mem_append_right _ (List.mem_append_right _ (List.mem_append_right _ (List.mem_append_right _ (List.mem_append_left _ (List.mem_of_getElem? (i := 89) (by decide +kernel))))))) rfl, hp_in (List.mem_append_right _ (List.mem_append_right _ (List.mem_append_right _ (List.mem_append_right _ (List.mem_append_left _ (List.mem_of_getElem? (i := 90) (by decide +kernel))))))) rfl, hp_in (List.mem_append_right _ (List.mem_append_left _ (List.mem_of_getElem? (i := 7) (by decide +kernel)))) rfl, hp_in (List.mem_append_right _ (List.mem_append_right _ (List.mem_append_right _ (List.mem_append_right _ (List.mem_append_left _ (List.mem_of_getElem? (i := 91) rfl)))))) rfl, by decide +kernel, by decide +kernel, by decide +kernel⟩
abbrev rm_X2_addMove : Room := { frames := 2, cells := 0, slots := 0, locals := 64 }
set_option maxRecDepth 100000 in
theorem F_X5_ask : hp_Fv RX5 yX5_ask cX5_ask 2 none 1 := ⟨hp_in (List.mem_append_right _ (List.mem_append_right _ (List.mem_append_right _ (List.mem_append_right _ (List.mem_append_left _ (List.mem_of_getElem? (i := 131) (by decide +kernel))))))) rfl, hp_in (List.mem_append_right _ (List.mem_append_right _ (List.mem_append_right _ (List.mem_append_right _ (List.mem_append_left _ (List.mem_of_getElem? (i := 132) (by decide +kernel))))))) rfl, hp_in (List.mem_append_right _ (List.mem_append_left _ (List.mem_of_getElem? (i := 10) (by decide +kernel)))) rfl, hp_in (List.mem_append_right _ (List.mem_append_right _ (List.mem_append_right _ (List.mem_append_right _ (List.mem_append_left _ (List.mem_of_getElem? (i := 133) rfl)))))) rfl, by decide +kernel, by decide +kernel, by decide +kernel⟩
abbrev rm_X5_ask : Room := { frames := 3, cells := 0, slots := 0, locals := 62 }
set_option maxRecDepth 100000 in
theorem F_X6_everyoneBits : hp_Fv RX6 yX6_everyoneBits cX6_everyoneBits 3 (some .int) 0 := ⟨hp_in (List.mem_append_right _ (List.mem_append_right _ (List.mem_append_right _ (List.mem_append_right _ (List.mem_append_right _ (List.mem_append_left _ (List.mem_of_getElem? (i := 19) (by decide +kernel)))))))) rfl, hp_in (List.mem_append_right _ (List.mem_append_right _ (List.mem_append_right _ (List.mem_append_right _ (List.mem_append_right _ (List.mem_append_left _ (List.mem_of_getElem? (i := 20) (by decide +kernel)))))))) rfl, hp_in (List.mem_append_right _ (List.mem_append_left _ (List.mem_of_getElem? (i := 4) (by decide +kernel)))) rfl, hp_in (List.mem_append_right _ (List.mem_append_right _ (List.mem_append_right _ (List.mem_append_right _ (List.mem_append_right _ (List.mem_append_left _ (List.mem_of_getElem? (i := 21) rfl))))))) rfl, by decide +kernel, by decide +kernel, by decide +kernel⟩
abbrev rm_X6_everyoneBits : Room := { frames := 0, cells := 0, slots := 0, locals := 0 }
set_option maxRecDepth 100000 in
theorem F_X3_enter : hp_Fv RX3 yX3_enter cX3_enter 2 none 1 := ⟨hp_in (List.mem_append_right _ (List.mem_append_right _ (List.mem_append_right _ (List.mem_append_right _ (List.mem_append_right _ (List.mem_append_left _ (List.mem_of_getElem? (i := 28) (by decide +kernel)))))))) rfl, hp_in (List.mem_append_left _ (List.mem_of_getElem? (i := 20) (by decide +kernel))) rfl, hp_in (List.mem_append_right _ (List.mem_append_left _ (List.mem_of_getElem? (i := 11) (by decide +kernel)))) rfl, hp_in (List.mem_append_right _ (List.mem_append_right _ (List.mem_append_right _ (List.mem_append_right _ (List.mem_append_right _ (List.mem_append_left _ (List.mem_of_getElem? (i := 29) rfl))))))) rfl, by decide +kernel, by decide +kernel, by decide +kernel⟩
abbrev rm_X3_enter : Room := { frames := 0, cells := 0, slots := 0, locals := 0 }
set_option maxRecDepth 100000 in
theorem F_X3_follow : hp_Fv RX3 yX3_follow cX3_follow 3 none 2 := ⟨hp_in (List.mem_append_right _ (List.mem_append_right _ (List.mem_append_right _ (List.mem_append_right _ (List.mem_append_right _ (List.mem_append_left _ (List.mem_of_getElem? (i := 32) (by decide +kernel)))))))) rfl, hp_in (List.mem_append_left _ (List.mem_of_getElem? (i := 21) (by decide +kernel))) rfl, hp_in (List.mem_append_right _ (List.mem_append_left _ (List.mem_of_getElem? (i := 11) (by decide +kernel)))) rfl, hp_in (List.mem_append_right _ (List.mem_append_right _ (List.mem_append_right _ (List.mem_append_right _ (List.mem_append_right _ (List.mem_append_left _ (List.mem_of_getElem? (i := 33) rfl))))))) rfl, by decide +kernel, by decide +kernel, by decide +kernel⟩
abbrev rm_X3_follow : Room := { frames := 1, cells := 0, slots := 0, locals := 21 }
set_option maxRecDepth 100000 in
theorem F_X3_handBack : hp_Fv RX3 yX3_handBack cX3_handBack 3 none 1 := ⟨hp_in (List.mem_append_right _ (List.mem_append_right _ (List.mem_append_right _ (List.mem_append_right _ (List.mem_append_right _ (List.mem_append_left _ (List.mem_of_getElem? (i := 39) (by decide +kernel)))))))) rfl, hp_in (List.mem_append_left _ (List.mem_of_getElem? (i := 22) (by decide +kernel))) rfl, hp_in (List.mem_append_right _ (List.mem_append_left _ (List.mem_of_getElem? (i := 11) (by decide +kernel)))) rfl, hp_in (List.mem_append_right _ (List.mem_append_right _ (List.mem_append_right _ (List.mem_append_right _ (List.mem_append_right _ (List.mem_append_left _ (List.mem_of_getElem? (i := 40) rfl))))))) rfl, by decide +kernel, by decide +kernel, by decide +kernel⟩
abbrev rm_X3_handBack : Room := { frames := 1, cells := 0, slots := 0, locals := 21 }
set_option maxRecDepth 100000 in
theorem F_X3_weigh : hp_Fv RX3 yX3_weigh cX3_weigh 8 (some .boolean) 2 := ⟨hp_in (List.mem_append_right _ (List.mem_append_right _ (List.mem_append_right _ (List.mem_append_right _ (List.mem_append_right _ (List.mem_append_left _ (List.mem_of_getElem? (i := 47) (by decide +kernel)))))))) rfl, hp_in (List.mem_append_left _ (List.mem_of_getElem? (i := 24) (by decide +kernel))) rfl, hp_in (List.mem_append_right _ (List.mem_append_left _ (List.mem_of_getElem? (i := 11) (by decide +kernel)))) rfl, hp_in (List.mem_append_right _ (List.mem_append_right _ (List.mem_append_right _ (List.mem_append_right _ (List.mem_append_right _ (List.mem_append_left _ (List.mem_of_getElem? (i := 48) rfl))))))) rfl, by decide +kernel, by decide +kernel, by decide +kernel⟩
abbrev rm_X3_weigh : Room := { frames := 1, cells := 0, slots := 0, locals := 21 }
set_option maxRecDepth 100000 in
theorem F_X3_close : hp_Fv RX3 yX3_close cX3_close 7 none 1 := ⟨hp_in (List.mem_append_right _ (List.mem_append_right _ (List.mem_append_right _ (List.mem_append_right _ (List.mem_append_right _ (List.mem_append_left _ (List.mem_of_getElem? (i := 43) (by decide +kernel)))))))) rfl, hp_in (List.mem_append_left _ (List.mem_of_getElem? (i := 23) (by decide +kernel))) rfl, hp_in (List.mem_append_right _ (List.mem_append_left _ (List.mem_of_getElem? (i := 11) (by decide +kernel)))) rfl, hp_in (List.mem_append_right _ (List.mem_append_right _ (List.mem_append_right _ (List.mem_append_right _ (List.mem_append_right _ (List.mem_append_left _ (List.mem_of_getElem? (i := 44) rfl))))))) rfl, by decide +kernel, by decide +kernel, by decide +kernel⟩
abbrev rm_X3_close : Room := { frames := 2, cells := 0, slots := 0, locals := 48 }
set_option maxRecDepth 100000 in
theorem F_X3_walk : hp_Fv RX3 yX3_walk cX3_walk 4 none 1 := ⟨hp_in (List.mem_append_right _ (List.mem_append_right _ (List.mem_append_right _ (List.mem_append_right _ (List.mem_append_right _ (List.mem_append_left _ (List.mem_of_getElem? (i := 24) (by decide +kernel)))))))) rfl, hp_in (List.mem_append_left _ (List.mem_of_getElem? (i := 19) (by decide +kernel))) rfl, hp_in (List.mem_append_right _ (List.mem_append_left _ (List.mem_of_getElem? (i := 11) (by decide +kernel)))) rfl, hp_in (List.mem_append_right _ (List.mem_append_right _ (List.mem_append_right _ (List.mem_append_right _ (List.mem_append_right _ (List.mem_append_left _ (List.mem_of_getElem? (i := 25) rfl))))))) rfl, by decide +kernel, by decide +kernel, by decide +kernel⟩
abbrev rm_X3_walk : Room := { frames := 3, cells := 0, slots := 0, locals := 74 }
set_option maxRecDepth 100000 in
theorem F_X3_tie : hp_Fv RX3 yX3_tie cX3_tie 3 none 1 := ⟨hp_in (List.mem_append_right _ (List.mem_append_right _ (List.mem_append_right _ (List.mem_append_right _ (List.mem_append_right _ (List.mem_append_left _ (List.mem_of_getElem? (i := 16) (by decide +kernel)))))))) rfl, hp_in (List.mem_append_left _ (List.mem_of_getElem? (i := 18) (by decide +kernel))) rfl, hp_in (List.mem_append_right _ (List.mem_append_left _ (List.mem_of_getElem? (i := 11) (by decide +kernel)))) rfl, hp_in (List.mem_append_right _ (List.mem_append_right _ (List.mem_append_right _ (List.mem_append_right _ (List.mem_append_right _ (List.mem_append_left _ (List.mem_of_getElem? (i := 17) rfl))))))) rfl, by decide +kernel, by decide +kernel, by decide +kernel⟩
abbrev rm_X3_tie : Room := { frames := 4, cells := 0, slots := 0, locals := 97 }
set_option maxRecDepth 100000 in
theorem F_X3_firstOfBoth : hp_Fv RX3 yX3_firstOfBoth cX3_firstOfBoth 4 (some .int) 2 := ⟨hp_in (List.mem_append_right _ (List.mem_append_right _ (List.mem_append_right _ (List.mem_append_right _ (List.mem_append_right _ (List.mem_append_left _ (List.mem_of_getElem? (i := 52) (by decide +kernel)))))))) rfl, hp_in (List.mem_append_left _ (List.mem_of_getElem? (i := 25) (by decide +kernel))) rfl, hp_in (List.mem_append_right _ (List.mem_append_left _ (List.mem_of_getElem? (i := 11) (by decide +kernel)))) rfl, hp_in (List.mem_append_right _ (List.mem_append_right _ (List.mem_append_right _ (List.mem_append_right _ (List.mem_append_right _ (List.mem_append_left _ (List.mem_of_getElem? (i := 53) rfl))))))) rfl, by decide +kernel, by decide +kernel, by decide +kernel⟩
abbrev rm_X3_firstOfBoth : Room := { frames := 0, cells := 0, slots := 0, locals := 0 }
set_option maxRecDepth 100000 in
theorem F_X3_breakerOfAgain : hp_Fv RX3 yX3_breakerOfAgain cX3_breakerOfAgain 4 (some .int) 2 := ⟨hp_in (List.mem_append_right _ (List.mem_append_right _ (List.mem_append_right _ (List.mem_append_right _ (List.mem_append_right _ (List.mem_append_left _ (List.mem_of_getElem? (i := 8) (by decide +kernel)))))))) rfl, hp_in (List.mem_append_right _ (List.mem_append_right _ (List.mem_append_right _ (List.mem_append_right _ (List.mem_append_right _ (List.mem_append_left _ (List.mem_of_getElem? (i := 9) (by decide +kernel)))))))) rfl, hp_in (List.mem_append_right _ (List.mem_append_left _ (List.mem_of_getElem? (i := 11) (by decide +kernel)))) rfl, hp_in (List.mem_append_right _ (List.mem_append_right _ (List.mem_append_right _ (List.mem_append_right _ (List.mem_append_right _ (List.mem_append_left _ (List.mem_of_getElem? (i := 10) rfl))))))) rfl, by decide +kernel, by decide +kernel, by decide +kernel⟩
abbrev rm_X3_breakerOfAgain : Room := { frames := 5, cells := 0, slots := 0, locals := 119 }
set_option maxRecDepth 100000 in
theorem F_X3_breakerOfFromTo : hp_Fv RX3 yX3_breakerOfFromTo cX3_breakerOfFromTo 5 (some .int) 3 := ⟨hp_in (List.mem_append_right _ (List.mem_append_right _ (List.mem_append_right _ (List.mem_append_right _ (List.mem_append_right _ (List.mem_append_left _ (List.mem_of_getElem? (i := 59) (by decide +kernel)))))))) rfl, hp_in (List.mem_append_right _ (List.mem_append_right _ (List.mem_append_right _ (List.mem_append_right _ (List.mem_append_right _ (List.mem_append_left _ (List.mem_of_getElem? (i := 60) (by decide +kernel)))))))) rfl, hp_in (List.mem_append_right _ (List.mem_append_left _ (List.mem_of_getElem? (i := 11) (by decide +kernel)))) rfl, hp_in (List.mem_append_right _ (List.mem_append_right _ (List.mem_append_right _ (List.mem_append_right _ (List.mem_append_right _ (List.mem_append_left _ (List.mem_of_getElem? (i := 61) rfl))))))) rfl, by decide +kernel, by decide +kernel, by decide +kernel⟩
abbrev rm_X3_breakerOfFromTo : Room := { frames := 5, cells := 0, slots := 0, locals := 119 }
set_option maxRecDepth 100000 in
theorem F_X4_hasChannel : hp_Fv RX4 yX4_hasChannel cX4_hasChannel 2 (some .boolean) 1 := ⟨hp_in (List.mem_append_right _ (List.mem_append_right _ (List.mem_append_right _ (List.mem_append_left _ (List.mem_of_getElem? (i := 82) (by decide +kernel)))))) rfl, hp_in (List.mem_append_right _ (List.mem_append_right _ (List.mem_append_right _ (List.mem_append_left _ (List.mem_of_getElem? (i := 83) (by decide +kernel)))))) rfl, hp_in (List.mem_append_right _ (List.mem_append_left _ (List.mem_of_getElem? (i := 2) (by decide +kernel)))) rfl, hp_in (List.mem_append_right _ (List.mem_append_right _ (List.mem_append_right _ (List.mem_append_left _ (List.mem_of_getElem? (i := 84) rfl))))) rfl, by decide +kernel, by decide +kernel, by decide +kernel⟩
abbrev rm_X4_hasChannel : Room := { frames := 0, cells := 0, slots := 0, locals := 0 }
set_option maxRecDepth 100000 in
theorem F_X4_addChannel : hp_Fv RX4 yX4_addChannel cX4_addChannel 4 (some .int) 3 := ⟨hp_in (List.mem_append_right _ (List.mem_append_right _ (List.mem_append_right _ (List.mem_append_left _ (List.mem_of_getElem? (i := 65) (by decide +kernel)))))) rfl, hp_in (List.mem_append_right _ (List.mem_append_right _ (List.mem_append_right _ (List.mem_append_left _ (List.mem_of_getElem? (i := 66) (by decide +kernel)))))) rfl, hp_in (List.mem_append_right _ (List.mem_append_left _ (List.mem_of_getElem? (i := 2) (by decide +kernel)))) rfl, hp_in (List.mem_append_right _ (List.mem_append_right _ (List.mem_append_right _ (List.mem_append_left _ (List.mem_of_getElem? (i := 67) rfl))))) rfl, by decide +kernel, by decide +kernel, by decide +kernel⟩
abbrev rm_X4_addChannel : Room := { frames := 0, cells := 0, slots := 0, locals := 0 }
set_option maxRecDepth 100000 in
theorem F_X10_has : hp_Fv RX10 yX10_has cX10_has 3 (some .boolean) 2 := ⟨hp_in (List.mem_append_right _ (List.mem_append_right _ (List.mem_append_right _ (List.mem_append_left _ (List.mem_of_getElem? (i := 77) (by decide +kernel)))))) rfl, hp_in (List.mem_append_right _ (List.mem_append_right _ (List.mem_append_right _ (List.mem_append_left _ (List.mem_of_getElem? (i := 78) (by decide +kernel)))))) rfl, hp_in (List.mem_append_right _ (List.mem_append_left _ (List.mem_of_getElem? (i := 3) (by decide +kernel)))) rfl, hp_in (List.mem_append_right _ (List.mem_append_right _ (List.mem_append_right _ (List.mem_append_left _ (List.mem_of_getElem? (i := 79) rfl))))) rfl, by decide +kernel, by decide +kernel, by decide +kernel⟩
abbrev rm_X10_has : Room := { frames := 0, cells := 0, slots := 0, locals := 0 }
set_option maxRecDepth 100000 in
theorem F_X6_has : hp_Fv RX6 yX6_has cX6_has 2 (some .boolean) 1 := ⟨hp_in (List.mem_append_right _ (List.mem_append_right _ (List.mem_append_right _ (List.mem_append_left _ (List.mem_of_getElem? (i := 39) (by decide +kernel)))))) rfl, hp_in (List.mem_append_right _ (List.mem_append_right _ (List.mem_append_right _ (List.mem_append_left _ (List.mem_of_getElem? (i := 40) (by decide +kernel)))))) rfl, hp_in (List.mem_append_right _ (List.mem_append_left _ (List.mem_of_getElem? (i := 4) (by decide +kernel)))) rfl, hp_in (List.mem_append_right _ (List.mem_append_right _ (List.mem_append_right _ (List.mem_append_left _ (List.mem_of_getElem? (i := 41) rfl))))) rfl, by decide +kernel, by decide +kernel, by decide +kernel⟩
abbrev rm_X6_has : Room := { frames := 0, cells := 0, slots := 0, locals := 0 }
set_option maxRecDepth 100000 in
theorem F_X6_hasMember : hp_Fv RX6 yX6_hasMember cX6_hasMember 3 (some .boolean) 2 := ⟨hp_in (List.mem_append_right _ (List.mem_append_right _ (List.mem_append_right _ (List.mem_append_left _ (List.mem_of_getElem? (i := 86) (by decide +kernel)))))) rfl, hp_in (List.mem_append_right _ (List.mem_append_right _ (List.mem_append_right _ (List.mem_append_left _ (List.mem_of_getElem? (i := 87) (by decide +kernel)))))) rfl, hp_in (List.mem_append_right _ (List.mem_append_left _ (List.mem_of_getElem? (i := 4) (by decide +kernel)))) rfl, hp_in (List.mem_append_right _ (List.mem_append_right _ (List.mem_append_right _ (List.mem_append_left _ (List.mem_of_getElem? (i := 88) rfl))))) rfl, by decide +kernel, by decide +kernel, by decide +kernel⟩
abbrev rm_X6_hasMember : Room := { frames := 1, cells := 0, slots := 0, locals := 21 }
set_option maxRecDepth 100000 in
theorem F_X4_knowsParts : hp_Fv RX4 yX4_knowsParts cX4_knowsParts 5 (some .boolean) 4 := ⟨hp_in (List.mem_append_right _ (List.mem_append_right _ (List.mem_append_right _ (List.mem_append_left _ (List.mem_of_getElem? (i := 73) (by decide +kernel)))))) rfl, hp_in (List.mem_append_right _ (List.mem_append_right _ (List.mem_append_right _ (List.mem_append_left _ (List.mem_of_getElem? (i := 74) (by decide +kernel)))))) rfl, hp_in (List.mem_append_right _ (List.mem_append_left _ (List.mem_of_getElem? (i := 2) (by decide +kernel)))) rfl, hp_in (List.mem_append_right _ (List.mem_append_right _ (List.mem_append_right _ (List.mem_append_left _ (List.mem_of_getElem? (i := 75) rfl))))) rfl, by decide +kernel, by decide +kernel, by decide +kernel⟩
abbrev rm_X4_knowsParts : Room := { frames := 2, cells := 0, slots := 0, locals := 43 }
set_option maxRecDepth 100000 in
theorem F_X4_knowsAct : hp_Fv RX4 yX4_knowsAct cX4_knowsAct 6 (some .boolean) 4 := ⟨hp_in (List.mem_append_right _ (List.mem_append_right _ (List.mem_append_right _ (List.mem_append_left _ (List.mem_of_getElem? (i := 124) (by decide +kernel)))))) rfl, hp_in (List.mem_append_right _ (List.mem_append_right _ (List.mem_append_right _ (List.mem_append_left _ (List.mem_of_getElem? (i := 125) (by decide +kernel)))))) rfl, hp_in (List.mem_append_right _ (List.mem_append_left _ (List.mem_of_getElem? (i := 2) (by decide +kernel)))) rfl, hp_in (List.mem_append_right _ (List.mem_append_right _ (List.mem_append_right _ (List.mem_append_left _ (List.mem_of_getElem? (i := 126) rfl))))) rfl, by decide +kernel, by decide +kernel, by decide +kernel⟩
abbrev rm_X4_knowsAct : Room := { frames := 1, cells := 0, slots := 0, locals := 22 }
set_option maxRecDepth 100000 in
theorem F_X4_markUses : hp_Fv RX4 yX4_markUses cX4_markUses 4 none 0 := ⟨hp_in (List.mem_append_right _ (List.mem_append_right _ (List.mem_append_right _ (List.mem_append_left _ (List.mem_of_getElem? (i := 153) (by decide +kernel)))))) rfl, hp_in (List.mem_append_left _ (List.mem_of_getElem? (i := 1) (by decide +kernel))) rfl, hp_in (List.mem_append_right _ (List.mem_append_left _ (List.mem_of_getElem? (i := 2) (by decide +kernel)))) rfl, hp_in (List.mem_append_right _ (List.mem_append_right _ (List.mem_append_right _ (List.mem_append_left _ (List.mem_of_getElem? (i := 154) rfl))))) rfl, by decide +kernel, by decide +kernel, by decide +kernel⟩
abbrev rm_X4_markUses : Room := { frames := 2, cells := 0, slots := 0, locals := 41 }
set_option maxRecDepth 100000 in
theorem F_X4_isSearchable : hp_Fv RX4 yX4_isSearchable cX4_isSearchable 2 (some .boolean) 0 := ⟨hp_in (List.mem_append_right _ (List.mem_append_right _ (List.mem_append_right _ (List.mem_append_left _ (List.mem_of_getElem? (i := 144) (by decide +kernel)))))) rfl, hp_in (List.mem_append_right _ (List.mem_append_right _ (List.mem_append_right _ (List.mem_append_left _ (List.mem_of_getElem? (i := 145) (by decide +kernel)))))) rfl, hp_in (List.mem_append_right _ (List.mem_append_left _ (List.mem_of_getElem? (i := 2) (by decide +kernel)))) rfl, hp_in (List.mem_append_right _ (List.mem_append_right _ (List.mem_append_right _ (List.mem_append_left _ (List.mem_of_getElem? (i := 146) rfl))))) rfl, by decide +kernel, by decide +kernel, by decide +kernel⟩
abbrev rm_X4_isSearchable : Room := { frames := 3, cells := 0, slots := 0, locals := 64 }
set_option maxRecDepth 100000 in
theorem F_X7_clear : hp_Fv RX7 yX7_clear cX7_clear 1 none 0 := ⟨hp_in (List.mem_append_right _ (List.mem_append_right _ (List.mem_append_right _ (List.mem_append_left _ (List.mem_of_getElem? (i := 180) (by decide +kernel)))))) rfl, hp_in (List.mem_append_right _ (List.mem_append_right _ (List.mem_append_right _ (List.mem_append_left _ (List.mem_of_getElem? (i := 181) (by decide +kernel)))))) rfl, hp_in (List.mem_append_right _ (List.mem_append_left _ (List.mem_of_getElem? (i := 9) (by decide +kernel)))) rfl, hp_in (List.mem_append_right _ (List.mem_append_right _ (List.mem_append_right _ (List.mem_append_left _ (List.mem_of_getElem? (i := 182) rfl))))) rfl, by decide +kernel, by decide +kernel, by decide +kernel⟩
abbrev rm_X7_clear : Room := { frames := 1, cells := 0, slots := 0, locals := 23 }
set_option maxRecDepth 100000 in
theorem F_X10_firstOf : hp_Fv RX10 yX10_firstOf cX10_firstOf 3 (some .int) 2 := ⟨hp_in (List.mem_append_right _ (List.mem_append_right _ (List.mem_append_right _ (List.mem_append_left _ (List.mem_of_getElem? (i := 187) (by decide +kernel)))))) rfl, hp_in (List.mem_append_right _ (List.mem_append_right _ (List.mem_append_right _ (List.mem_append_left _ (List.mem_of_getElem? (i := 188) (by decide +kernel)))))) rfl, hp_in (List.mem_append_right _ (List.mem_append_left _ (List.mem_of_getElem? (i := 3) (by decide +kernel)))) rfl, hp_in (List.mem_append_right _ (List.mem_append_right _ (List.mem_append_right _ (List.mem_append_left _ (List.mem_of_getElem? (i := 189) rfl))))) rfl, by decide +kernel, by decide +kernel, by decide +kernel⟩
abbrev rm_X10_firstOf : Room := { frames := 0, cells := 0, slots := 0, locals := 0 }
set_option maxRecDepth 100000 in
theorem F_X7_setShared : hp_Fv RX7 yX7_setShared cX7_setShared 3 none 2 := ⟨hp_in (List.mem_append_right _ (List.mem_append_right _ (List.mem_append_right _ (List.mem_append_left _ (List.mem_of_getElem? (i := 191) (by decide +kernel)))))) rfl, hp_in (List.mem_append_right _ (List.mem_append_right _ (List.mem_append_right _ (List.mem_append_left _ (List.mem_of_getElem? (i := 192) (by decide +kernel)))))) rfl, hp_in (List.mem_append_right _ (List.mem_append_left _ (List.mem_of_getElem? (i := 9) (by decide +kernel)))) rfl, hp_in (List.mem_append_right _ (List.mem_append_right _ (List.mem_append_right _ (List.mem_append_left _ (List.mem_of_getElem? (i := 193) rfl))))) rfl, by decide +kernel, by decide +kernel, by decide +kernel⟩
abbrev rm_X7_setShared : Room := { frames := 0, cells := 0, slots := 0, locals := 0 }
set_option maxRecDepth 100000 in
theorem F_X7_setOwn : hp_Fv RX7 yX7_setOwn cX7_setOwn 7 none 4 := ⟨hp_in (List.mem_append_right _ (List.mem_append_right _ (List.mem_append_right _ (List.mem_append_left _ (List.mem_of_getElem? (i := 195) (by decide +kernel)))))) rfl, hp_in (List.mem_append_right _ (List.mem_append_right _ (List.mem_append_right _ (List.mem_append_left _ (List.mem_of_getElem? (i := 196) (by decide +kernel)))))) rfl, hp_in (List.mem_append_right _ (List.mem_append_left _ (List.mem_of_getElem? (i := 9) (by decide +kernel)))) rfl, hp_in (List.mem_append_right _ (List.mem_append_right _ (List.mem_append_right _ (List.mem_append_left _ (List.mem_of_getElem? (i := 197) rfl))))) rfl, by decide +kernel, by decide +kernel, by decide +kernel⟩
abbrev rm_X7_setOwn : Room := { frames := 0, cells := 0, slots := 0, locals := 0 }
set_option maxRecDepth 100000 in
theorem F_X4_setFirst : hp_Fv RX4 yX4_setFirst cX4_setFirst 5 none 1 := ⟨hp_in (List.mem_append_right _ (List.mem_append_right _ (List.mem_append_right _ (List.mem_append_left _ (List.mem_of_getElem? (i := 176) (by decide +kernel)))))) rfl, hp_in (List.mem_append_right _ (List.mem_append_right _ (List.mem_append_right _ (List.mem_append_left _ (List.mem_of_getElem? (i := 177) (by decide +kernel)))))) rfl, hp_in (List.mem_append_right _ (List.mem_append_left _ (List.mem_of_getElem? (i := 2) (by decide +kernel)))) rfl, hp_in (List.mem_append_right _ (List.mem_append_right _ (List.mem_append_right _ (List.mem_append_left _ (List.mem_of_getElem? (i := 178) rfl))))) rfl, by decide +kernel, by decide +kernel, by decide +kernel⟩
abbrev rm_X4_setFirst : Room := { frames := 2, cells := 0, slots := 0, locals := 43 }
set_option maxRecDepth 100000 in
theorem F_X7_placeOf : hp_Fv RX7 yX7_placeOf cX7_placeOf 3 (some .int) 2 := ⟨hp_in (List.mem_append_right _ (List.mem_append_right _ (List.mem_append_right _ (List.mem_append_left _ (List.mem_of_getElem? (i := 232) (by decide +kernel)))))) rfl, hp_in (List.mem_append_right _ (List.mem_append_right _ (List.mem_append_right _ (List.mem_append_left _ (List.mem_of_getElem? (i := 233) (by decide +kernel)))))) rfl, hp_in (List.mem_append_right _ (List.mem_append_left _ (List.mem_of_getElem? (i := 9) (by decide +kernel)))) rfl, hp_in (List.mem_append_right _ (List.mem_append_right _ (List.mem_append_right _ (List.mem_append_left _ (List.mem_of_getElem? (i := 234) rfl))))) rfl, by decide +kernel, by decide +kernel, by decide +kernel⟩
abbrev rm_X7_placeOf : Room := { frames := 0, cells := 0, slots := 0, locals := 0 }
set_option maxRecDepth 100000 in
theorem F_X6_isEnd : hp_Fv RX6 yX6_isEnd cX6_isEnd 3 (some .boolean) 2 := ⟨hp_in (List.mem_append_right _ (List.mem_append_right _ (List.mem_append_right _ (List.mem_append_left _ (List.mem_of_getElem? (i := 50) (by decide +kernel)))))) rfl, hp_in (List.mem_append_right _ (List.mem_append_right _ (List.mem_append_right _ (List.mem_append_left _ (List.mem_of_getElem? (i := 51) (by decide +kernel)))))) rfl, hp_in (List.mem_append_right _ (List.mem_append_left _ (List.mem_of_getElem? (i := 4) (by decide +kernel)))) rfl, hp_in (List.mem_append_right _ (List.mem_append_right _ (List.mem_append_right _ (List.mem_append_left _ (List.mem_of_getElem? (i := 52) rfl))))) rfl, by decide +kernel, by decide +kernel, by decide +kernel⟩
abbrev rm_X6_isEnd : Room := { frames := 0, cells := 0, slots := 0, locals := 0 }
set_option maxRecDepth 100000 in
theorem F_X4_someAtNoEnd : hp_Fv RX4 yX4_someAtNoEnd cX4_someAtNoEnd 4 (some .boolean) 1 := ⟨hp_in (List.mem_append_right _ (List.mem_append_right _ (List.mem_append_right _ (List.mem_append_right _ (List.mem_append_left _ (List.mem_of_getElem? (i := 226) (by decide +kernel))))))) rfl, hp_in (List.mem_append_right _ (List.mem_append_right _ (List.mem_append_right _ (List.mem_append_right _ (List.mem_append_left _ (List.mem_of_getElem? (i := 227) (by decide +kernel))))))) rfl, hp_in (List.mem_append_right _ (List.mem_append_left _ (List.mem_of_getElem? (i := 2) (by decide +kernel)))) rfl, hp_in (List.mem_append_right _ (List.mem_append_right _ (List.mem_append_right _ (List.mem_append_right _ (List.mem_append_left _ (List.mem_of_getElem? (i := 228) rfl)))))) rfl, by decide +kernel, by decide +kernel, by decide +kernel⟩
abbrev rm_X4_someAtNoEnd : Room := { frames := 1, cells := 0, slots := 0, locals := 22 }
set_option maxRecDepth 100000 in
theorem F_X6_add : hp_Fv RX6 yX6_add cX6_add 2 (some .int) 1 := ⟨hp_in (List.mem_append_right _ (List.mem_append_right _ (List.mem_append_right _ (List.mem_append_left _ (List.mem_of_getElem? (i := 31) (by decide +kernel)))))) rfl, hp_in (List.mem_append_right _ (List.mem_append_right _ (List.mem_append_right _ (List.mem_append_left _ (List.mem_of_getElem? (i := 32) (by decide +kernel)))))) rfl, hp_in (List.mem_append_right _ (List.mem_append_left _ (List.mem_of_getElem? (i := 4) (by decide +kernel)))) rfl, hp_in (List.mem_append_right _ (List.mem_append_right _ (List.mem_append_right _ (List.mem_append_left _ (List.mem_of_getElem? (i := 33) rfl))))) rfl, by decide +kernel, by decide +kernel, by decide +kernel⟩
abbrev rm_X6_add : Room := { frames := 0, cells := 0, slots := 0, locals := 0 }
set_option maxRecDepth 100000 in
theorem F_X6_setEnd : hp_Fv RX6 yX6_setEnd cX6_setEnd 3 none 2 := ⟨hp_in (List.mem_append_right _ (List.mem_append_right _ (List.mem_append_right _ (List.mem_append_left _ (List.mem_of_getElem? (i := 57) (by decide +kernel)))))) rfl, hp_in (List.mem_append_right _ (List.mem_append_right _ (List.mem_append_right _ (List.mem_append_left _ (List.mem_of_getElem? (i := 58) (by decide +kernel)))))) rfl, hp_in (List.mem_append_right _ (List.mem_append_left _ (List.mem_of_getElem? (i := 4) (by decide +kernel)))) rfl, hp_in (List.mem_append_right _ (List.mem_append_right _ (List.mem_append_right _ (List.mem_append_left _ (List.mem_of_getElem? (i := 59) rfl))))) rfl, by decide +kernel, by decide +kernel, by decide +kernel⟩
abbrev rm_X6_setEnd : Room := { frames := 0, cells := 0, slots := 0, locals := 0 }
set_option maxRecDepth 100000 in
theorem F_X7_copy : hp_Fv RX7 yX7_copy cX7_copy 2 none 1 := ⟨hp_in (List.mem_append_right _ (List.mem_append_right _ (List.mem_append_right _ (List.mem_append_right _ (List.mem_append_left _ (List.mem_of_getElem? (i := 33) (by decide +kernel))))))) rfl, hp_in (List.mem_append_right _ (List.mem_append_right _ (List.mem_append_right _ (List.mem_append_right _ (List.mem_append_left _ (List.mem_of_getElem? (i := 34) (by decide +kernel))))))) rfl, hp_in (List.mem_append_right _ (List.mem_append_left _ (List.mem_of_getElem? (i := 9) (by decide +kernel)))) rfl, hp_in (List.mem_append_right _ (List.mem_append_right _ (List.mem_append_right _ (List.mem_append_right _ (List.mem_append_left _ (List.mem_of_getElem? (i := 35) rfl)))))) rfl, by decide +kernel, by decide +kernel, by decide +kernel⟩
abbrev rm_X7_copy : Room := { frames := 1, cells := 0, slots := 0, locals := 40 }
set_option maxRecDepth 100000 in
theorem F_X7_setPlace : hp_Fv RX7 yX7_setPlace cX7_setPlace 5 none 3 := ⟨hp_in (List.mem_append_right _ (List.mem_append_right _ (List.mem_append_right _ (List.mem_append_right _ (List.mem_append_left _ (List.mem_of_getElem? (i := 73) (by decide +kernel))))))) rfl, hp_in (List.mem_append_right _ (List.mem_append_right _ (List.mem_append_right _ (List.mem_append_right _ (List.mem_append_left _ (List.mem_of_getElem? (i := 74) (by decide +kernel))))))) rfl, hp_in (List.mem_append_right _ (List.mem_append_left _ (List.mem_of_getElem? (i := 9) (by decide +kernel)))) rfl, hp_in (List.mem_append_right _ (List.mem_append_right _ (List.mem_append_right _ (List.mem_append_right _ (List.mem_append_left _ (List.mem_of_getElem? (i := 75) rfl)))))) rfl, by decide +kernel, by decide +kernel, by decide +kernel⟩
abbrev rm_X7_setPlace : Room := { frames := 0, cells := 0, slots := 0, locals := 0 }
set_option maxRecDepth 100000 in
theorem F_X7_letterAt : hp_Fv RX7 yX7_letterAt cX7_letterAt 3 (some .int) 2 := ⟨hp_in (List.mem_append_right _ (List.mem_append_right _ (List.mem_append_right _ (List.mem_append_right _ (List.mem_append_left _ (List.mem_of_getElem? (i := 69) (by decide +kernel))))))) rfl, hp_in (List.mem_append_right _ (List.mem_append_right _ (List.mem_append_right _ (List.mem_append_right _ (List.mem_append_left _ (List.mem_of_getElem? (i := 70) (by decide +kernel))))))) rfl, hp_in (List.mem_append_right _ (List.mem_append_left _ (List.mem_of_getElem? (i := 9) (by decide +kernel)))) rfl, hp_in (List.mem_append_right _ (List.mem_append_right _ (List.mem_append_right _ (List.mem_append_right _ (List.mem_append_left _ (List.mem_of_getElem? (i := 71) rfl)))))) rfl, by decide +kernel, by decide +kernel, by decide +kernel⟩
abbrev rm_X7_letterAt : Room := { frames := 0, cells := 0, slots := 0, locals := 0 }
set_option maxRecDepth 100000 in
theorem F_X7_put : hp_Fv RX7 yX7_put cX7_put 5 none 2 := ⟨hp_in (List.mem_append_right _ (List.mem_append_right _ (List.mem_append_right _ (List.mem_append_right _ (List.mem_append_left _ (List.mem_of_getElem? (i := 61) (by decide +kernel))))))) rfl, hp_in (List.mem_append_right _ (List.mem_append_right _ (List.mem_append_right _ (List.mem_append_right _ (List.mem_append_left _ (List.mem_of_getElem? (i := 62) (by decide +kernel))))))) rfl, hp_in (List.mem_append_right _ (List.mem_append_left _ (List.mem_of_getElem? (i := 9) (by decide +kernel)))) rfl, hp_in (List.mem_append_right _ (List.mem_append_right _ (List.mem_append_right _ (List.mem_append_right _ (List.mem_append_left _ (List.mem_of_getElem? (i := 63) rfl)))))) rfl, by decide +kernel, by decide +kernel, by decide +kernel⟩
abbrev rm_X7_put : Room := { frames := 0, cells := 0, slots := 0, locals := 0 }
set_option maxRecDepth 100000 in
theorem F_X7_take : hp_Fv RX7 yX7_take cX7_take 7 none 2 := ⟨hp_in (List.mem_append_right _ (List.mem_append_right _ (List.mem_append_right _ (List.mem_append_right _ (List.mem_append_left _ (List.mem_of_getElem? (i := 65) (by decide +kernel))))))) rfl, hp_in (List.mem_append_right _ (List.mem_append_right _ (List.mem_append_right _ (List.mem_append_right _ (List.mem_append_left _ (List.mem_of_getElem? (i := 66) (by decide +kernel))))))) rfl, hp_in (List.mem_append_right _ (List.mem_append_left _ (List.mem_of_getElem? (i := 9) (by decide +kernel)))) rfl, hp_in (List.mem_append_right _ (List.mem_append_right _ (List.mem_append_right _ (List.mem_append_right _ (List.mem_append_left _ (List.mem_of_getElem? (i := 67) rfl)))))) rfl, by decide +kernel, by decide +kernel, by decide +kernel⟩
abbrev rm_X7_take : Room := { frames := 0, cells := 0, slots := 0, locals := 0 }
set_option maxRecDepth 100000 in
theorem F_X7_isFirstOfLike : hp_Fv RX7 yX7_isFirstOfLike cX7_isFirstOfLike 5 (some .boolean) 2 := ⟨hp_in (List.mem_append_right _ (List.mem_append_right _ (List.mem_append_right _ (List.mem_append_right _ (List.mem_append_left _ (List.mem_of_getElem? (i := 107) (by decide +kernel))))))) rfl, hp_in (List.mem_append_left _ (List.mem_of_getElem? (i := 15) (by decide +kernel))) rfl, hp_in (List.mem_append_right _ (List.mem_append_left _ (List.mem_of_getElem? (i := 9) (by decide +kernel)))) rfl, hp_in (List.mem_append_right _ (List.mem_append_right _ (List.mem_append_right _ (List.mem_append_right _ (List.mem_append_left _ (List.mem_of_getElem? (i := 108) rfl)))))) rfl, by decide +kernel, by decide +kernel, by decide +kernel⟩
abbrev rm_X7_isFirstOfLike : Room := { frames := 0, cells := 0, slots := 0, locals := 0 }
set_option maxRecDepth 100000 in
theorem F_X7_nextUnlike : hp_Fv RX7 yX7_nextUnlike cX7_nextUnlike 4 (some .int) 2 := ⟨hp_in (List.mem_append_right _ (List.mem_append_right _ (List.mem_append_right _ (List.mem_append_right _ (List.mem_append_left _ (List.mem_of_getElem? (i := 101) (by decide +kernel))))))) rfl, hp_in (List.mem_append_right _ (List.mem_append_right _ (List.mem_append_right _ (List.mem_append_right _ (List.mem_append_left _ (List.mem_of_getElem? (i := 102) (by decide +kernel))))))) rfl, hp_in (List.mem_append_right _ (List.mem_append_left _ (List.mem_of_getElem? (i := 9) (by decide +kernel)))) rfl, hp_in (List.mem_append_right _ (List.mem_append_right _ (List.mem_append_right _ (List.mem_append_right _ (List.mem_append_left _ (List.mem_of_getElem? (i := 103) rfl)))))) rfl, by decide +kernel, by decide +kernel, by decide +kernel⟩
abbrev rm_X7_nextUnlike : Room := { frames := 1, cells := 0, slots := 0, locals := 24 }
set_option maxRecDepth 100000 in
theorem F_X7_arrange : hp_Fv RX7 yX7_arrange cX7_arrange 7 none 2 := ⟨hp_in (List.mem_append_right _ (List.mem_append_right _ (List.mem_append_right _ (List.mem_append_right _ (List.mem_append_left _ (List.mem_of_getElem? (i := 82) (by decide +kernel))))))) rfl, hp_in (List.mem_append_right _ (List.mem_append_right _ (List.mem_append_right _ (List.mem_append_right _ (List.mem_append_left _ (List.mem_of_getElem? (i := 83) (by decide +kernel))))))) rfl, hp_in (List.mem_append_right _ (List.mem_append_left _ (List.mem_of_getElem? (i := 9) (by decide +kernel)))) rfl, hp_in (List.mem_append_right _ (List.mem_append_right _ (List.mem_append_right _ (List.mem_append_right _ (List.mem_append_left _ (List.mem_of_getElem? (i := 84) rfl)))))) rfl, by decide +kernel, by decide +kernel, by decide +kernel⟩
abbrev rm_X7_arrange : Room := { frames := 0, cells := 0, slots := 0, locals := 0 }
set_option maxRecDepth 100000 in
theorem F_X8_start : hp_Fv RX8 yX8_start cX8_start 1 none 0 := ⟨hp_in (List.mem_append_right _ (List.mem_append_right _ (List.mem_append_right _ (List.mem_append_left _ (List.mem_of_getElem? (i := 172) (by decide +kernel)))))) rfl, hp_in (List.mem_append_right _ (List.mem_append_right _ (List.mem_append_right _ (List.mem_append_left _ (List.mem_of_getElem? (i := 173) (by decide +kernel)))))) rfl, hp_in (List.mem_append_right _ (List.mem_append_left _ (List.mem_of_getElem? (i := 8) (by decide +kernel)))) rfl, hp_in (List.mem_append_right _ (List.mem_append_right _ (List.mem_append_right _ (List.mem_append_left _ (List.mem_of_getElem? (i := 174) rfl))))) rfl, by decide +kernel, by decide +kernel, by decide +kernel⟩
abbrev rm_X8_start : Room := { frames := 3, cells := 0, slots := 0, locals := 85 }
set_option maxRecDepth 100000 in
theorem F_X8_canDo : hp_Fv RX8 yX8_canDo cX8_canDo 6 (some .boolean) 1 := ⟨hp_in (List.mem_append_right _ (List.mem_append_right _ (List.mem_append_right _ (List.mem_append_right _ (List.mem_append_left _ (List.mem_of_getElem? (i := 24) (by decide +kernel))))))) rfl, hp_in (List.mem_append_left _ (List.mem_of_getElem? (i := 7) (by decide +kernel))) rfl, hp_in (List.mem_append_right _ (List.mem_append_left _ (List.mem_of_getElem? (i := 8) (by decide +kernel)))) rfl, hp_in (List.mem_append_right _ (List.mem_append_right _ (List.mem_append_right _ (List.mem_append_right _ (List.mem_append_left _ (List.mem_of_getElem? (i := 25) rfl)))))) rfl, by decide +kernel, by decide +kernel, by decide +kernel⟩
abbrev rm_X8_canDo : Room := { frames := 1, cells := 0, slots := 0, locals := 21 }
set_option maxRecDepth 100000 in
theorem F_X10_allows : hp_Fv RX10 yX10_allows cX10_allows 4 (some .boolean) 3 := ⟨hp_in (List.mem_append_right _ (List.mem_append_right _ (List.mem_append_right _ (List.mem_append_right _ (List.mem_append_left _ (List.mem_of_getElem? (i := 46) (by decide +kernel))))))) rfl, hp_in (List.mem_append_right _ (List.mem_append_right _ (List.mem_append_right _ (List.mem_append_right _ (List.mem_append_left _ (List.mem_of_getElem? (i := 47) (by decide +kernel))))))) rfl, hp_in (List.mem_append_right _ (List.mem_append_left _ (List.mem_of_getElem? (i := 3) (by decide +kernel)))) rfl, hp_in (List.mem_append_right _ (List.mem_append_right _ (List.mem_append_right _ (List.mem_append_right _ (List.mem_append_left _ (List.mem_of_getElem? (i := 48) rfl)))))) rfl, by decide +kernel, by decide +kernel, by decide +kernel⟩
abbrev rm_X10_allows : Room := { frames := 0, cells := 0, slots := 0, locals := 0 }
set_option maxRecDepth 100000 in
theorem F_X8_giveShared : hp_Fv RX8 yX8_giveShared cX8_giveShared 3 (some .boolean) 2 := ⟨hp_in (List.mem_append_right _ (List.mem_append_right _ (List.mem_append_right _ (List.mem_append_right _ (List.mem_append_left _ (List.mem_of_getElem? (i := 43) (by decide +kernel))))))) rfl, hp_in (List.mem_append_left _ (List.mem_of_getElem? (i := 10) (by decide +kernel))) rfl, hp_in (List.mem_append_right _ (List.mem_append_left _ (List.mem_of_getElem? (i := 8) (by decide +kernel)))) rfl, hp_in (List.mem_append_right _ (List.mem_append_right _ (List.mem_append_right _ (List.mem_append_right _ (List.mem_append_left _ (List.mem_of_getElem? (i := 44) rfl)))))) rfl, by decide +kernel, by decide +kernel, by decide +kernel⟩
abbrev rm_X8_giveShared : Room := { frames := 1, cells := 0, slots := 0, locals := 23 }
set_option maxRecDepth 100000 in
theorem F_X8_giveOwn : hp_Fv RX8 yX8_giveOwn cX8_giveOwn 5 (some .boolean) 4 := ⟨hp_in (List.mem_append_right _ (List.mem_append_right _ (List.mem_append_right _ (List.mem_append_right _ (List.mem_append_left _ (List.mem_of_getElem? (i := 52) (by decide +kernel))))))) rfl, hp_in (List.mem_append_left _ (List.mem_of_getElem? (i := 11) (by decide +kernel))) rfl, hp_in (List.mem_append_right _ (List.mem_append_left _ (List.mem_of_getElem? (i := 8) (by decide +kernel)))) rfl, hp_in (List.mem_append_right _ (List.mem_append_right _ (List.mem_append_right _ (List.mem_append_right _ (List.mem_append_left _ (List.mem_of_getElem? (i := 53) rfl)))))) rfl, by decide +kernel, by decide +kernel, by decide +kernel⟩
abbrev rm_X8_giveOwn : Room := { frames := 1, cells := 0, slots := 0, locals := 26 }
set_option maxRecDepth 100000 in
theorem F_X11_isDigit : hp_Fs yX11_isDigit cX11_isDigit 1 (some .boolean) 1 := ⟨hp_in (List.mem_append_right _ (List.mem_append_right _ (List.mem_append_right _ (List.mem_append_left _ (List.mem_of_getElem? (i := 47) (by decide +kernel)))))) rfl, hp_in (List.mem_append_right _ (List.mem_append_left _ (List.mem_of_getElem? (i := 1) (by decide +kernel)))) rfl, hp_in (List.mem_append_right _ (List.mem_append_right _ (List.mem_append_right _ (List.mem_append_left _ (List.mem_of_getElem? (i := 48) rfl))))) rfl, by decide +kernel, by decide +kernel, by decide +kernel⟩
abbrev rm_X11_isDigit : Room := { frames := 0, cells := 0, slots := 0, locals := 0 }
set_option maxRecDepth 100000 in
theorem F_X8_send : hp_Fv RX8 yX8_send cX8_send 3 (some .boolean) 2 := ⟨hp_in (List.mem_append_right _ (List.mem_append_right _ (List.mem_append_right _ (List.mem_append_right _ (List.mem_append_left _ (List.mem_of_getElem? (i := 57) (by decide +kernel))))))) rfl, hp_in (List.mem_append_left _ (List.mem_of_getElem? (i := 12) (by decide +kernel))) rfl, hp_in (List.mem_append_right _ (List.mem_append_left _ (List.mem_of_getElem? (i := 8) (by decide +kernel)))) rfl, hp_in (List.mem_append_right _ (List.mem_append_right _ (List.mem_append_right _ (List.mem_append_right _ (List.mem_append_left _ (List.mem_of_getElem? (i := 58) rfl)))))) rfl, by decide +kernel, by decide +kernel, by decide +kernel⟩
abbrev rm_X8_send : Room := { frames := 1, cells := 0, slots := 0, locals := 24 }
set_option maxRecDepth 100000 in
theorem F_X8_doActs : hp_Fv RX8 yX8_doActs cX8_doActs 9 (some .boolean) 3 := ⟨hp_in (List.mem_append_right _ (List.mem_append_right _ (List.mem_append_right _ (List.mem_append_right _ (List.mem_append_left _ (List.mem_of_getElem? (i := 39) (by decide +kernel))))))) rfl, hp_in (List.mem_append_left _ (List.mem_of_getElem? (i := 9) (by decide +kernel))) rfl, hp_in (List.mem_append_right _ (List.mem_append_left _ (List.mem_of_getElem? (i := 8) (by decide +kernel)))) rfl, hp_in (List.mem_append_right _ (List.mem_append_right _ (List.mem_append_right _ (List.mem_append_right _ (List.mem_append_left _ (List.mem_of_getElem? (i := 40) rfl)))))) rfl, by decide +kernel, by decide +kernel, by decide +kernel⟩
abbrev rm_X8_doActs : Room := { frames := 2, cells := 0, slots := 0, locals := 50 }
set_option maxRecDepth 100000 in
theorem F_X8_takeAlike : hp_Fv RX8 yX8_takeAlike cX8_takeAlike 2 none 1 := ⟨hp_in (List.mem_append_right _ (List.mem_append_right _ (List.mem_append_right _ (List.mem_append_right _ (List.mem_append_left _ (List.mem_of_getElem? (i := 79) (by decide +kernel))))))) rfl, hp_in (List.mem_append_left _ (List.mem_of_getElem? (i := 13) (by decide +kernel))) rfl, hp_in (List.mem_append_right _ (List.mem_append_left _ (List.mem_of_getElem? (i := 8) (by decide +kernel)))) rfl, hp_in (List.mem_append_right _ (List.mem_append_right _ (List.mem_append_right _ (List.mem_append_right _ (List.mem_append_left _ (List.mem_of_getElem? (i := 80) rfl)))))) rfl, by decide +kernel, by decide +kernel, by decide +kernel⟩
abbrev rm_X8_takeAlike : Room := { frames := 1, cells := 0, slots := 0, locals := 26 }
set_option maxRecDepth 100000 in
theorem F_X8_pickNext : hp_Fv RX8 yX8_pickNext cX8_pickNext 7 (some .boolean) 1 := ⟨hp_in (List.mem_append_right _ (List.mem_append_right _ (List.mem_append_right _ (List.mem_append_right _ (List.mem_append_left _ (List.mem_of_getElem? (i := 98) (by decide +kernel))))))) rfl, hp_in (List.mem_append_left _ (List.mem_of_getElem? (i := 14) (by decide +kernel))) rfl, hp_in (List.mem_append_right _ (List.mem_append_left _ (List.mem_of_getElem? (i := 8) (by decide +kernel)))) rfl, hp_in (List.mem_append_right _ (List.mem_append_right _ (List.mem_append_right _ (List.mem_append_right _ (List.mem_append_left _ (List.mem_of_getElem? (i := 99) rfl)))))) rfl, by decide +kernel, by decide +kernel, by decide +kernel⟩
abbrev rm_X8_pickNext : Room := { frames := 2, cells := 0, slots := 0, locals := 47 }
set_option maxRecDepth 100000 in
theorem F_X8_goWays : hp_Fv RX8 yX8_goWays cX8_goWays 8 none 3 := ⟨hp_in (List.mem_append_right _ (List.mem_append_right _ (List.mem_append_right _ (List.mem_append_right _ (List.mem_append_left _ (List.mem_of_getElem? (i := 29) (by decide +kernel))))))) rfl, hp_in (List.mem_append_left _ (List.mem_of_getElem? (i := 8) (by decide +kernel))) rfl, hp_in (List.mem_append_right _ (List.mem_append_left _ (List.mem_of_getElem? (i := 8) (by decide +kernel)))) rfl, hp_in (List.mem_append_right _ (List.mem_append_right _ (List.mem_append_right _ (List.mem_append_right _ (List.mem_append_left _ (List.mem_of_getElem? (i := 30) rfl)))))) rfl, by decide +kernel, by decide +kernel, by decide +kernel⟩
abbrev rm_X8_goWays : Room := { frames := 3, cells := 0, slots := 0, locals := 89 }
set_option maxRecDepth 100000 in
theorem F_X8_goMember : hp_Fv RX8 yX8_goMember cX8_goMember 8 none 3 := ⟨hp_in (List.mem_append_right _ (List.mem_append_right _ (List.mem_append_right _ (List.mem_append_left _ (List.mem_of_getElem? (i := 229) (by decide +kernel)))))) rfl, hp_in (List.mem_append_left _ (List.mem_of_getElem? (i := 5) (by decide +kernel))) rfl, hp_in (List.mem_append_right _ (List.mem_append_left _ (List.mem_of_getElem? (i := 8) (by decide +kernel)))) rfl, hp_in (List.mem_append_right _ (List.mem_append_right _ (List.mem_append_right _ (List.mem_append_left _ (List.mem_of_getElem? (i := 230) rfl))))) rfl, by decide +kernel, by decide +kernel, by decide +kernel⟩
abbrev rm_X8_goMember : Room := { frames := 4, cells := 0, slots := 0, locals := 116 }
set_option maxRecDepth 100000 in
theorem F_X8_lose : hp_Fv RX8 yX8_lose cX8_lose 5 none 2 := ⟨hp_in (List.mem_append_right _ (List.mem_append_right _ (List.mem_append_right _ (List.mem_append_right _ (List.mem_append_left _ (List.mem_of_getElem? (i := 111) (by decide +kernel))))))) rfl, hp_in (List.mem_append_left _ (List.mem_of_getElem? (i := 16) (by decide +kernel))) rfl, hp_in (List.mem_append_right _ (List.mem_append_left _ (List.mem_of_getElem? (i := 8) (by decide +kernel)))) rfl, hp_in (List.mem_append_right _ (List.mem_append_right _ (List.mem_append_right _ (List.mem_append_right _ (List.mem_append_left _ (List.mem_of_getElem? (i := 112) rfl)))))) rfl, by decide +kernel, by decide +kernel, by decide +kernel⟩
abbrev rm_X8_lose : Room := { frames := 3, cells := 0, slots := 0, locals := 89 }
set_option maxRecDepth 100000 in
theorem F_X8_goThrough : hp_Fv RX8 yX8_goThrough cX8_goThrough 4 none 1 := ⟨hp_in (List.mem_append_right _ (List.mem_append_right _ (List.mem_append_right _ (List.mem_append_left _ (List.mem_of_getElem? (i := 220) (by decide +kernel)))))) rfl, hp_in (List.mem_append_right _ (List.mem_append_right _ (List.mem_append_right _ (List.mem_append_left _ (List.mem_of_getElem? (i := 221) (by decide +kernel)))))) rfl, hp_in (List.mem_append_right _ (List.mem_append_left _ (List.mem_of_getElem? (i := 8) (by decide +kernel)))) rfl, hp_in (List.mem_append_right _ (List.mem_append_right _ (List.mem_append_right _ (List.mem_append_left _ (List.mem_of_getElem? (i := 222) rfl))))) rfl, by decide +kernel, by decide +kernel, by decide +kernel⟩
abbrev rm_X8_goThrough : Room := { frames := 5, cells := 0, slots := 0, locals := 143 }
set_option maxRecDepth 100000 in
theorem F_X9_has : hp_Fv RX9 yX9_has cX9_has 2 (some .boolean) 1 := ⟨hp_in (List.mem_append_right _ (List.mem_append_right _ (List.mem_append_right _ (List.mem_append_left _ (List.mem_of_getElem? (i := 120) (by decide +kernel)))))) rfl, hp_in (List.mem_append_right _ (List.mem_append_right _ (List.mem_append_right _ (List.mem_append_left _ (List.mem_of_getElem? (i := 121) (by decide +kernel)))))) rfl, hp_in (List.mem_append_right _ (List.mem_append_left _ (List.mem_of_getElem? (i := 6) (by decide +kernel)))) rfl, hp_in (List.mem_append_right _ (List.mem_append_right _ (List.mem_append_right _ (List.mem_append_left _ (List.mem_of_getElem? (i := 122) rfl))))) rfl, by decide +kernel, by decide +kernel, by decide +kernel⟩
abbrev rm_X9_has : Room := { frames := 0, cells := 0, slots := 0, locals := 0 }
set_option maxRecDepth 100000 in
theorem F_X9_add : hp_Fv RX9 yX9_add cX9_add 5 (some .int) 4 := ⟨hp_in (List.mem_append_right _ (List.mem_append_right _ (List.mem_append_right _ (List.mem_append_left _ (List.mem_of_getElem? (i := 112) (by decide +kernel)))))) rfl, hp_in (List.mem_append_right _ (List.mem_append_right _ (List.mem_append_right _ (List.mem_append_left _ (List.mem_of_getElem? (i := 113) (by decide +kernel)))))) rfl, hp_in (List.mem_append_right _ (List.mem_append_left _ (List.mem_of_getElem? (i := 6) (by decide +kernel)))) rfl, hp_in (List.mem_append_right _ (List.mem_append_right _ (List.mem_append_right _ (List.mem_append_left _ (List.mem_of_getElem? (i := 114) rfl))))) rfl, by decide +kernel, by decide +kernel, by decide +kernel⟩
abbrev rm_X9_add : Room := { frames := 0, cells := 0, slots := 0, locals := 0 }
set_option maxRecDepth 100000 in
theorem F_X9_hasLetterAct : hp_Fv RX9 yX9_hasLetterAct cX9_hasLetterAct 5 (some .boolean) 3 := ⟨hp_in (List.mem_append_right _ (List.mem_append_right _ (List.mem_append_right _ (List.mem_append_left _ (List.mem_of_getElem? (i := 128) (by decide +kernel)))))) rfl, hp_in (List.mem_append_right _ (List.mem_append_right _ (List.mem_append_right _ (List.mem_append_left _ (List.mem_of_getElem? (i := 129) (by decide +kernel)))))) rfl, hp_in (List.mem_append_right _ (List.mem_append_left _ (List.mem_of_getElem? (i := 6) (by decide +kernel)))) rfl, hp_in (List.mem_append_right _ (List.mem_append_right _ (List.mem_append_right _ (List.mem_append_left _ (List.mem_of_getElem? (i := 130) rfl))))) rfl, by decide +kernel, by decide +kernel, by decide +kernel⟩
abbrev rm_X9_hasLetterAct : Room := { frames := 0, cells := 0, slots := 0, locals := 0 }
set_option maxRecDepth 100000 in
theorem F_X9_addAct : hp_Fv RX9 yX9_addAct cX9_addAct 6 (some .int) 4 := ⟨hp_in (List.mem_append_right _ (List.mem_append_right _ (List.mem_append_right _ (List.mem_append_left _ (List.mem_of_getElem? (i := 132) (by decide +kernel)))))) rfl, hp_in (List.mem_append_right _ (List.mem_append_right _ (List.mem_append_right _ (List.mem_append_left _ (List.mem_of_getElem? (i := 133) (by decide +kernel)))))) rfl, hp_in (List.mem_append_right _ (List.mem_append_left _ (List.mem_of_getElem? (i := 6) (by decide +kernel)))) rfl, hp_in (List.mem_append_right _ (List.mem_append_right _ (List.mem_append_right _ (List.mem_append_left _ (List.mem_of_getElem? (i := 134) rfl))))) rfl, by decide +kernel, by decide +kernel, by decide +kernel⟩
abbrev rm_X9_addAct : Room := { frames := 0, cells := 0, slots := 0, locals := 0 }
set_option maxRecDepth 100000 in
theorem F_X10_fits : hp_Fs yX10_fits cX10_fits 3 (some .boolean) 3 := ⟨hp_in (List.mem_append_right _ (List.mem_append_right _ (List.mem_append_right _ (List.mem_append_left _ (List.mem_of_getElem? (i := 4) (by decide +kernel)))))) rfl, hp_in (List.mem_append_right _ (List.mem_append_left _ (List.mem_of_getElem? (i := 3) (by decide +kernel)))) rfl, hp_in (List.mem_append_right _ (List.mem_append_right _ (List.mem_append_right _ (List.mem_append_left _ (List.mem_of_getElem? (i := 5) rfl))))) rfl, by decide +kernel, by decide +kernel, by decide +kernel⟩
abbrev rm_X10_fits : Room := { frames := 0, cells := 0, slots := 0, locals := 0 }
set_option maxRecDepth 100000 in
theorem F_X10_isFull : hp_Fv RX10 yX10_isFull cX10_isFull 2 (some .boolean) 1 := ⟨hp_in (List.mem_append_right _ (List.mem_append_right _ (List.mem_append_right _ (List.mem_append_left _ (List.mem_of_getElem? (i := 7) (by decide +kernel)))))) rfl, hp_in (List.mem_append_right _ (List.mem_append_right _ (List.mem_append_right _ (List.mem_append_left _ (List.mem_of_getElem? (i := 8) (by decide +kernel)))))) rfl, hp_in (List.mem_append_right _ (List.mem_append_left _ (List.mem_of_getElem? (i := 3) (by decide +kernel)))) rfl, hp_in (List.mem_append_right _ (List.mem_append_right _ (List.mem_append_right _ (List.mem_append_left _ (List.mem_of_getElem? (i := 9) rfl))))) rfl, by decide +kernel, by decide +kernel, by decide +kernel⟩
abbrev rm_X10_isFull : Room := { frames := 0, cells := 0, slots := 0, locals := 0 }
set_option maxRecDepth 100000 in
theorem F_X10_add : hp_Fv RX10 yX10_add cX10_add 6 (some .int) 4 := ⟨hp_in (List.mem_append_right _ (List.mem_append_right _ (List.mem_append_right _ (List.mem_append_left _ (List.mem_of_getElem? (i := 23) (by decide +kernel)))))) rfl, hp_in (List.mem_append_right _ (List.mem_append_right _ (List.mem_append_right _ (List.mem_append_left _ (List.mem_of_getElem? (i := 24) (by decide +kernel)))))) rfl, hp_in (List.mem_append_right _ (List.mem_append_left _ (List.mem_of_getElem? (i := 3) (by decide +kernel)))) rfl, hp_in (List.mem_append_right _ (List.mem_append_right _ (List.mem_append_right _ (List.mem_append_left _ (List.mem_of_getElem? (i := 25) rfl))))) rfl, by decide +kernel, by decide +kernel, by decide +kernel⟩
abbrev rm_X10_add : Room := { frames := 0, cells := 0, slots := 0, locals := 0 }
set_option maxRecDepth 100000 in
theorem F_X11_endSearch : hp_Fv RX11 yX11_endSearch cX11_endSearch 1 none 0 := ⟨hp_in (List.mem_append_right _ (List.mem_append_right _ (List.mem_append_right _ (List.mem_append_left _ (List.mem_of_getElem? (i := 12) (by decide +kernel)))))) rfl, hp_in (List.mem_append_left _ (List.mem_of_getElem? (i := 0) (by decide +kernel))) rfl, hp_in (List.mem_append_right _ (List.mem_append_left _ (List.mem_of_getElem? (i := 1) (by decide +kernel)))) rfl, hp_in (List.mem_append_right _ (List.mem_append_right _ (List.mem_append_right _ (List.mem_append_left _ (List.mem_of_getElem? (i := 13) rfl))))) rfl, by decide +kernel, by decide +kernel, by decide +kernel⟩
abbrev rm_X11_endSearch : Room := { frames := 1, cells := 0, slots := 0, locals := 20 }
set_option maxRecDepth 100000 in
theorem F_X11_shared : hp_Fv RX11 yX11_shared cX11_shared 4 (some .int) 3 := ⟨hp_in (List.mem_append_right _ (List.mem_append_right _ (List.mem_append_right _ (List.mem_append_left _ (List.mem_of_getElem? (i := 0) (by decide +kernel)))))) rfl, hp_in (List.mem_append_right _ (List.mem_append_right _ (List.mem_append_right _ (List.mem_append_left _ (List.mem_of_getElem? (i := 1) (by decide +kernel)))))) rfl, hp_in (List.mem_append_right _ (List.mem_append_left _ (List.mem_of_getElem? (i := 1) (by decide +kernel)))) rfl, hp_in (List.mem_append_right _ (List.mem_append_right _ (List.mem_append_right _ (List.mem_append_left _ (List.mem_of_getElem? (i := 2) rfl))))) rfl, by decide +kernel, by decide +kernel, by decide +kernel⟩
abbrev rm_X11_shared : Room := { frames := 2, cells := 0, slots := 0, locals := 40 }
set_option maxRecDepth 100000 in
theorem F_X11_role : hp_Fv RX11 yX11_role cX11_role 2 (some .int) 1 := ⟨hp_in (List.mem_append_right _ (List.mem_append_right _ (List.mem_append_right _ (List.mem_append_left _ (List.mem_of_getElem? (i := 27) (by decide +kernel)))))) rfl, hp_in (List.mem_append_right _ (List.mem_append_right _ (List.mem_append_right _ (List.mem_append_left _ (List.mem_of_getElem? (i := 28) (by decide +kernel)))))) rfl, hp_in (List.mem_append_right _ (List.mem_append_left _ (List.mem_of_getElem? (i := 1) (by decide +kernel)))) rfl, hp_in (List.mem_append_right _ (List.mem_append_right _ (List.mem_append_right _ (List.mem_append_left _ (List.mem_of_getElem? (i := 29) rfl))))) rfl, by decide +kernel, by decide +kernel, by decide +kernel⟩
abbrev rm_X11_role : Room := { frames := 2, cells := 0, slots := 0, locals := 40 }
set_option maxRecDepth 100000 in
theorem F_X11_own : hp_Fv RX11 yX11_own cX11_own 5 (some .int) 4 := ⟨hp_in (List.mem_append_right _ (List.mem_append_right _ (List.mem_append_right _ (List.mem_append_left _ (List.mem_of_getElem? (i := 35) (by decide +kernel)))))) rfl, hp_in (List.mem_append_right _ (List.mem_append_right _ (List.mem_append_right _ (List.mem_append_left _ (List.mem_of_getElem? (i := 36) (by decide +kernel)))))) rfl, hp_in (List.mem_append_right _ (List.mem_append_left _ (List.mem_of_getElem? (i := 1) (by decide +kernel)))) rfl, hp_in (List.mem_append_right _ (List.mem_append_right _ (List.mem_append_right _ (List.mem_append_left _ (List.mem_of_getElem? (i := 37) rfl))))) rfl, by decide +kernel, by decide +kernel, by decide +kernel⟩
abbrev rm_X11_own : Room := { frames := 2, cells := 0, slots := 0, locals := 40 }
set_option maxRecDepth 100000 in
theorem F_X11_asNumber : hp_Fs yX11_asNumber cX11_asNumber 1 (some .int) 1 := ⟨hp_in (List.mem_append_right _ (List.mem_append_right _ (List.mem_append_right _ (List.mem_append_left _ (List.mem_of_getElem? (i := 54) (by decide +kernel)))))) rfl, hp_in (List.mem_append_right _ (List.mem_append_left _ (List.mem_of_getElem? (i := 1) (by decide +kernel)))) rfl, hp_in (List.mem_append_right _ (List.mem_append_right _ (List.mem_append_right _ (List.mem_append_left _ (List.mem_of_getElem? (i := 55) rfl))))) rfl, by decide +kernel, by decide +kernel, by decide +kernel⟩
abbrev rm_X11_asNumber : Room := { frames := 0, cells := 0, slots := 0, locals := 0 }
set_option maxRecDepth 100000 in
theorem F_X11_end : hp_Fv RX11 yX11_end cX11_end 4 (some .int) 2 := ⟨hp_in (List.mem_append_right _ (List.mem_append_right _ (List.mem_append_right _ (List.mem_append_left _ (List.mem_of_getElem? (i := 43) (by decide +kernel)))))) rfl, hp_in (List.mem_append_right _ (List.mem_append_right _ (List.mem_append_right _ (List.mem_append_left _ (List.mem_of_getElem? (i := 44) (by decide +kernel)))))) rfl, hp_in (List.mem_append_right _ (List.mem_append_left _ (List.mem_of_getElem? (i := 1) (by decide +kernel)))) rfl, hp_in (List.mem_append_right _ (List.mem_append_right _ (List.mem_append_right _ (List.mem_append_left _ (List.mem_of_getElem? (i := 45) rfl))))) rfl, by decide +kernel, by decide +kernel, by decide +kernel⟩
abbrev rm_X11_end : Room := { frames := 2, cells := 0, slots := 0, locals := 40 }
set_option maxRecDepth 100000 in
theorem F_X11_channel : hp_Fv RX11 yX11_channel cX11_channel 4 (some .int) 3 := ⟨hp_in (List.mem_append_right _ (List.mem_append_right _ (List.mem_append_right _ (List.mem_append_left _ (List.mem_of_getElem? (i := 61) (by decide +kernel)))))) rfl, hp_in (List.mem_append_right _ (List.mem_append_right _ (List.mem_append_right _ (List.mem_append_left _ (List.mem_of_getElem? (i := 62) (by decide +kernel)))))) rfl, hp_in (List.mem_append_right _ (List.mem_append_left _ (List.mem_of_getElem? (i := 1) (by decide +kernel)))) rfl, hp_in (List.mem_append_right _ (List.mem_append_right _ (List.mem_append_right _ (List.mem_append_left _ (List.mem_of_getElem? (i := 63) rfl))))) rfl, by decide +kernel, by decide +kernel, by decide +kernel⟩
abbrev rm_X11_channel : Room := { frames := 2, cells := 0, slots := 0, locals := 40 }
set_option maxRecDepth 100000 in
theorem F_X11_expr : hp_Fv RX11 yX11_expr cX11_expr 5 (some .int) 4 := ⟨hp_in (List.mem_append_right _ (List.mem_append_right _ (List.mem_append_right _ (List.mem_append_left _ (List.mem_of_getElem? (i := 69) (by decide +kernel)))))) rfl, hp_in (List.mem_append_right _ (List.mem_append_right _ (List.mem_append_right _ (List.mem_append_left _ (List.mem_of_getElem? (i := 70) (by decide +kernel)))))) rfl, hp_in (List.mem_append_right _ (List.mem_append_left _ (List.mem_of_getElem? (i := 1) (by decide +kernel)))) rfl, hp_in (List.mem_append_right _ (List.mem_append_right _ (List.mem_append_right _ (List.mem_append_left _ (List.mem_of_getElem? (i := 71) rfl))))) rfl, by decide +kernel, by decide +kernel, by decide +kernel⟩
abbrev rm_X11_expr : Room := { frames := 3, cells := 0, slots := 0, locals := 67 }
set_option maxRecDepth 100000 in
theorem F_X11_step : hp_Fv RX11 yX11_step cX11_step 5 (some .int) 4 := ⟨hp_in (List.mem_append_right _ (List.mem_append_right _ (List.mem_append_right _ (List.mem_append_left _ (List.mem_of_getElem? (i := 107) (by decide +kernel)))))) rfl, hp_in (List.mem_append_right _ (List.mem_append_right _ (List.mem_append_right _ (List.mem_append_left _ (List.mem_of_getElem? (i := 108) (by decide +kernel)))))) rfl, hp_in (List.mem_append_right _ (List.mem_append_left _ (List.mem_of_getElem? (i := 1) (by decide +kernel)))) rfl, hp_in (List.mem_append_right _ (List.mem_append_right _ (List.mem_append_right _ (List.mem_append_left _ (List.mem_of_getElem? (i := 109) rfl))))) rfl, by decide +kernel, by decide +kernel, by decide +kernel⟩
abbrev rm_X11_step : Room := { frames := 2, cells := 0, slots := 0, locals := 40 }
set_option maxRecDepth 100000 in
theorem F_X11_act : hp_Fv RX11 yX11_act cX11_act 5 (some .int) 4 := ⟨hp_in (List.mem_append_right _ (List.mem_append_right _ (List.mem_append_right _ (List.mem_append_left _ (List.mem_of_getElem? (i := 116) (by decide +kernel)))))) rfl, hp_in (List.mem_append_right _ (List.mem_append_right _ (List.mem_append_right _ (List.mem_append_left _ (List.mem_of_getElem? (i := 117) (by decide +kernel)))))) rfl, hp_in (List.mem_append_right _ (List.mem_append_left _ (List.mem_of_getElem? (i := 1) (by decide +kernel)))) rfl, hp_in (List.mem_append_right _ (List.mem_append_right _ (List.mem_append_right _ (List.mem_append_left _ (List.mem_of_getElem? (i := 118) rfl))))) rfl, by decide +kernel, by decide +kernel, by decide +kernel⟩
abbrev rm_X11_act : Room := { frames := 2, cells := 0, slots := 0, locals := 47 }
set_option maxRecDepth 100000 in
theorem F_X11_alike : hp_Fv RX11 yX11_alike cX11_alike 3 (some .int) 1 := ⟨hp_in (List.mem_append_right _ (List.mem_append_right _ (List.mem_append_right _ (List.mem_append_left _ (List.mem_of_getElem? (i := 136) (by decide +kernel)))))) rfl, hp_in (List.mem_append_right _ (List.mem_append_right _ (List.mem_append_right _ (List.mem_append_left _ (List.mem_of_getElem? (i := 137) (by decide +kernel)))))) rfl, hp_in (List.mem_append_right _ (List.mem_append_left _ (List.mem_of_getElem? (i := 1) (by decide +kernel)))) rfl, hp_in (List.mem_append_right _ (List.mem_append_right _ (List.mem_append_right _ (List.mem_append_left _ (List.mem_of_getElem? (i := 138) rfl))))) rfl, by decide +kernel, by decide +kernel, by decide +kernel⟩
abbrev rm_X11_alike : Room := { frames := 2, cells := 0, slots := 0, locals := 40 }
set_option maxRecDepth 100000 in
theorem F_X11_search : hp_Fv RX11 yX11_search cX11_search 2 (some .int) 0 := ⟨hp_in (List.mem_append_right _ (List.mem_append_right _ (List.mem_append_right _ (List.mem_append_left _ (List.mem_of_getElem? (i := 140) (by decide +kernel)))))) rfl, hp_in (List.mem_append_right _ (List.mem_append_right _ (List.mem_append_right _ (List.mem_append_left _ (List.mem_of_getElem? (i := 141) (by decide +kernel)))))) rfl, hp_in (List.mem_append_right _ (List.mem_append_left _ (List.mem_of_getElem? (i := 1) (by decide +kernel)))) rfl, hp_in (List.mem_append_right _ (List.mem_append_right _ (List.mem_append_right _ (List.mem_append_left _ (List.mem_of_getElem? (i := 142) rfl))))) rfl, by decide +kernel, by decide +kernel, by decide +kernel⟩
abbrev rm_X11_search : Room := { frames := 6, cells := 0, slots := 0, locals := 166 }
set_option maxRecDepth 100000 in
theorem F_X11_tells : hp_Fv RX11 yX11_tells cX11_tells 3 (some .int) 2 := ⟨hp_in (List.mem_append_right _ (List.mem_append_right _ (List.mem_append_right _ (List.mem_append_right _ (List.mem_append_left _ (List.mem_of_getElem? (i := 114) (by decide +kernel))))))) rfl, hp_in (List.mem_append_right _ (List.mem_append_right _ (List.mem_append_right _ (List.mem_append_right _ (List.mem_append_left _ (List.mem_of_getElem? (i := 115) (by decide +kernel))))))) rfl, hp_in (List.mem_append_right _ (List.mem_append_left _ (List.mem_of_getElem? (i := 1) (by decide +kernel)))) rfl, hp_in (List.mem_append_right _ (List.mem_append_right _ (List.mem_append_right _ (List.mem_append_right _ (List.mem_append_left _ (List.mem_of_getElem? (i := 116) rfl)))))) rfl, by decide +kernel, by decide +kernel, by decide +kernel⟩
abbrev rm_X11_tells : Room := { frames := 4, cells := 0, slots := 0, locals := 104 }
set_option maxRecDepth 100000 in
theorem F_X11_place : hp_Fv RX11 yX11_place cX11_place 4 (some .int) 3 := ⟨hp_in (List.mem_append_right _ (List.mem_append_right _ (List.mem_append_right _ (List.mem_append_right _ (List.mem_append_left _ (List.mem_of_getElem? (i := 160) (by decide +kernel))))))) rfl, hp_in (List.mem_append_right _ (List.mem_append_right _ (List.mem_append_right _ (List.mem_append_right _ (List.mem_append_left _ (List.mem_of_getElem? (i := 161) (by decide +kernel))))))) rfl, hp_in (List.mem_append_right _ (List.mem_append_left _ (List.mem_of_getElem? (i := 1) (by decide +kernel)))) rfl, hp_in (List.mem_append_right _ (List.mem_append_right _ (List.mem_append_right _ (List.mem_append_right _ (List.mem_append_left _ (List.mem_of_getElem? (i := 162) rfl)))))) rfl, by decide +kernel, by decide +kernel, by decide +kernel⟩
abbrev rm_X11_place : Room := { frames := 3, cells := 0, slots := 0, locals := 83 }
set_option maxRecDepth 100000 in
theorem F_X11_owned : hp_Fv RX11 yX11_owned cX11_owned 5 (some .int) 4 := ⟨hp_in (List.mem_append_right _ (List.mem_append_right _ (List.mem_append_right _ (List.mem_append_right _ (List.mem_append_left _ (List.mem_of_getElem? (i := 168) (by decide +kernel))))))) rfl, hp_in (List.mem_append_right _ (List.mem_append_right _ (List.mem_append_right _ (List.mem_append_right _ (List.mem_append_left _ (List.mem_of_getElem? (i := 169) (by decide +kernel))))))) rfl, hp_in (List.mem_append_right _ (List.mem_append_left _ (List.mem_of_getElem? (i := 1) (by decide +kernel)))) rfl, hp_in (List.mem_append_right _ (List.mem_append_right _ (List.mem_append_right _ (List.mem_append_right _ (List.mem_append_left _ (List.mem_of_getElem? (i := 170) rfl)))))) rfl, by decide +kernel, by decide +kernel, by decide +kernel⟩
abbrev rm_X11_owned : Room := { frames := 3, cells := 0, slots := 0, locals := 83 }
set_option maxRecDepth 100000 in
theorem F_X11_letter : hp_Fv RX11 yX11_letter cX11_letter 5 (some .int) 3 := ⟨hp_in (List.mem_append_right _ (List.mem_append_right _ (List.mem_append_right _ (List.mem_append_right _ (List.mem_append_left _ (List.mem_of_getElem? (i := 174) (by decide +kernel))))))) rfl, hp_in (List.mem_append_right _ (List.mem_append_right _ (List.mem_append_right _ (List.mem_append_right _ (List.mem_append_left _ (List.mem_of_getElem? (i := 175) (by decide +kernel))))))) rfl, hp_in (List.mem_append_right _ (List.mem_append_left _ (List.mem_of_getElem? (i := 1) (by decide +kernel)))) rfl, hp_in (List.mem_append_right _ (List.mem_append_right _ (List.mem_append_right _ (List.mem_append_right _ (List.mem_append_left _ (List.mem_of_getElem? (i := 176) rfl)))))) rfl, by decide +kernel, by decide +kernel, by decide +kernel⟩
abbrev rm_X11_letter : Room := { frames := 3, cells := 0, slots := 0, locals := 83 }
set_option maxRecDepth 100000 in
theorem F_X11_moves : hp_Fv RX11 yX11_moves cX11_moves 2 (some .int) 1 := ⟨hp_in (List.mem_append_right _ (List.mem_append_right _ (List.mem_append_right _ (List.mem_append_right _ (List.mem_append_left _ (List.mem_of_getElem? (i := 181) (by decide +kernel))))))) rfl, hp_in (List.mem_append_right _ (List.mem_append_right _ (List.mem_append_right _ (List.mem_append_right _ (List.mem_append_left _ (List.mem_of_getElem? (i := 182) (by decide +kernel))))))) rfl, hp_in (List.mem_append_right _ (List.mem_append_left _ (List.mem_of_getElem? (i := 1) (by decide +kernel)))) rfl, hp_in (List.mem_append_right _ (List.mem_append_right _ (List.mem_append_right _ (List.mem_append_right _ (List.mem_append_left _ (List.mem_of_getElem? (i := 183) rfl)))))) rfl, by decide +kernel, by decide +kernel, by decide +kernel⟩
abbrev rm_X11_moves : Room := { frames := 2, cells := 0, slots := 0, locals := 41 }
set_option maxRecDepth 100000 in
theorem F_X11_move : hp_Fv RX11 yX11_move cX11_move 5 (some .int) 3 := ⟨hp_in (List.mem_append_right _ (List.mem_append_right _ (List.mem_append_right _ (List.mem_append_right _ (List.mem_append_left _ (List.mem_of_getElem? (i := 189) (by decide +kernel))))))) rfl, hp_in (List.mem_append_right _ (List.mem_append_right _ (List.mem_append_right _ (List.mem_append_right _ (List.mem_append_left _ (List.mem_of_getElem? (i := 190) (by decide +kernel))))))) rfl, hp_in (List.mem_append_right _ (List.mem_append_left _ (List.mem_of_getElem? (i := 1) (by decide +kernel)))) rfl, hp_in (List.mem_append_right _ (List.mem_append_right _ (List.mem_append_right _ (List.mem_append_right _ (List.mem_append_left _ (List.mem_of_getElem? (i := 191) rfl)))))) rfl, by decide +kernel, by decide +kernel, by decide +kernel⟩
abbrev rm_X11_move : Room := { frames := 2, cells := 0, slots := 0, locals := 41 }
set_option maxRecDepth 100000 in
theorem F_X11_depth : hp_Fv RX11 yX11_depth cX11_depth 2 (some .int) 1 := ⟨hp_in (List.mem_append_right _ (List.mem_append_right _ (List.mem_append_right _ (List.mem_append_right _ (List.mem_append_left _ (List.mem_of_getElem? (i := 205) (by decide +kernel))))))) rfl, hp_in (List.mem_append_right _ (List.mem_append_right _ (List.mem_append_right _ (List.mem_append_right _ (List.mem_append_left _ (List.mem_of_getElem? (i := 206) (by decide +kernel))))))) rfl, hp_in (List.mem_append_right _ (List.mem_append_left _ (List.mem_of_getElem? (i := 1) (by decide +kernel)))) rfl, hp_in (List.mem_append_right _ (List.mem_append_right _ (List.mem_append_right _ (List.mem_append_right _ (List.mem_append_left _ (List.mem_of_getElem? (i := 207) rfl)))))) rfl, by decide +kernel, by decide +kernel, by decide +kernel⟩
abbrev rm_X11_depth : Room := { frames := 2, cells := 0, slots := 0, locals := 41 }
set_option maxRecDepth 100000 in
theorem F_X11_came : hp_Fv RX11 yX11_came cX11_came 3 (some .int) 2 := ⟨hp_in (List.mem_append_right _ (List.mem_append_right _ (List.mem_append_right _ (List.mem_append_right _ (List.mem_append_left _ (List.mem_of_getElem? (i := 209) (by decide +kernel))))))) rfl, hp_in (List.mem_append_right _ (List.mem_append_right _ (List.mem_append_right _ (List.mem_append_right _ (List.mem_append_left _ (List.mem_of_getElem? (i := 210) (by decide +kernel))))))) rfl, hp_in (List.mem_append_right _ (List.mem_append_left _ (List.mem_of_getElem? (i := 1) (by decide +kernel)))) rfl, hp_in (List.mem_append_right _ (List.mem_append_right _ (List.mem_append_right _ (List.mem_append_right _ (List.mem_append_left _ (List.mem_of_getElem? (i := 211) rfl)))))) rfl, by decide +kernel, by decide +kernel, by decide +kernel⟩
abbrev rm_X11_came : Room := { frames := 2, cells := 0, slots := 0, locals := 41 }
set_option maxRecDepth 100000 in
theorem F_X11_stuck : hp_Fv RX11 yX11_stuck cX11_stuck 2 (some .int) 0 := ⟨hp_in (List.mem_append_right _ (List.mem_append_right _ (List.mem_append_right _ (List.mem_append_right _ (List.mem_append_left _ (List.mem_of_getElem? (i := 213) (by decide +kernel))))))) rfl, hp_in (List.mem_append_right _ (List.mem_append_right _ (List.mem_append_right _ (List.mem_append_right _ (List.mem_append_left _ (List.mem_of_getElem? (i := 214) (by decide +kernel))))))) rfl, hp_in (List.mem_append_right _ (List.mem_append_left _ (List.mem_of_getElem? (i := 1) (by decide +kernel)))) rfl, hp_in (List.mem_append_right _ (List.mem_append_right _ (List.mem_append_right _ (List.mem_append_right _ (List.mem_append_left _ (List.mem_of_getElem? (i := 215) rfl)))))) rfl, by decide +kernel, by decide +kernel, by decide +kernel⟩
abbrev rm_X11_stuck : Room := { frames := 3, cells := 0, slots := 0, locals := 83 }
set_option maxRecDepth 100000 in
theorem F_X11_fault : hp_Fv RX11 yX11_fault cX11_fault 2 (some .int) 1 := ⟨hp_in (List.mem_append_right _ (List.mem_append_right _ (List.mem_append_right _ (List.mem_append_right _ (List.mem_append_left _ (List.mem_of_getElem? (i := 232) (by decide +kernel))))))) rfl, hp_in (List.mem_append_right _ (List.mem_append_right _ (List.mem_append_right _ (List.mem_append_right _ (List.mem_append_left _ (List.mem_of_getElem? (i := 233) (by decide +kernel))))))) rfl, hp_in (List.mem_append_right _ (List.mem_append_left _ (List.mem_of_getElem? (i := 1) (by decide +kernel)))) rfl, hp_in (List.mem_append_right _ (List.mem_append_right _ (List.mem_append_right _ (List.mem_append_right _ (List.mem_append_left _ (List.mem_of_getElem? (i := 234) rfl)))))) rfl, by decide +kernel, by decide +kernel, by decide +kernel⟩
abbrev rm_X11_fault : Room := { frames := 1, cells := 0, slots := 0, locals := 20 }
set_option maxRecDepth 100000 in
theorem F_X11_refusalOfPlain : hp_Fv RX11 yX11_refusalOfPlain cX11_refusalOfPlain 2 (some .int) 1 := ⟨hp_in (List.mem_append_right _ (List.mem_append_right _ (List.mem_append_right _ (List.mem_append_right _ (List.mem_append_right _ (List.mem_append_left _ (List.mem_of_getElem? (i := 1) (by decide +kernel)))))))) rfl, hp_in (List.mem_append_left _ (List.mem_of_getElem? (i := 17) (by decide +kernel))) rfl, hp_in (List.mem_append_right _ (List.mem_append_left _ (List.mem_of_getElem? (i := 1) (by decide +kernel)))) rfl, hp_in (List.mem_append_right _ (List.mem_append_right _ (List.mem_append_right _ (List.mem_append_right _ (List.mem_append_right _ (List.mem_append_left _ (List.mem_of_getElem? (i := 2) rfl))))))) rfl, by decide +kernel, by decide +kernel, by decide +kernel⟩
abbrev rm_X11_refusalOfPlain : Room := { frames := 1, cells := 0, slots := 0, locals := 21 }
set_option maxRecDepth 100000 in
theorem F_X11_always : hp_Fv RX11 yX11_always cX11_always 4 (some .int) 1 := ⟨hp_in (List.mem_append_right _ (List.mem_append_right _ (List.mem_append_right _ (List.mem_append_right _ (List.mem_append_left _ (List.mem_of_getElem? (i := 236) (by decide +kernel))))))) rfl, hp_in (List.mem_append_right _ (List.mem_append_right _ (List.mem_append_right _ (List.mem_append_right _ (List.mem_append_left _ (List.mem_of_getElem? (i := 237) (by decide +kernel))))))) rfl, hp_in (List.mem_append_right _ (List.mem_append_left _ (List.mem_of_getElem? (i := 1) (by decide +kernel)))) rfl, hp_in (List.mem_append_right _ (List.mem_append_right _ (List.mem_append_right _ (List.mem_append_right _ (List.mem_append_left _ (List.mem_of_getElem? (i := 238) rfl)))))) rfl, by decide +kernel, by decide +kernel, by decide +kernel⟩
abbrev rm_X11_always : Room := { frames := 4, cells := 0, slots := 0, locals := 104 }
set_option maxRecDepth 100000 in
theorem F_X11_again : hp_Fv RX11 yX11_again cX11_again 4 (some .int) 2 := ⟨hp_in (List.mem_append_right _ (List.mem_append_right _ (List.mem_append_right _ (List.mem_append_right _ (List.mem_append_right _ (List.mem_append_left _ (List.mem_of_getElem? (i := 4) (by decide +kernel)))))))) rfl, hp_in (List.mem_append_right _ (List.mem_append_right _ (List.mem_append_right _ (List.mem_append_right _ (List.mem_append_right _ (List.mem_append_left _ (List.mem_of_getElem? (i := 5) (by decide +kernel)))))))) rfl, hp_in (List.mem_append_right _ (List.mem_append_left _ (List.mem_of_getElem? (i := 1) (by decide +kernel)))) rfl, hp_in (List.mem_append_right _ (List.mem_append_right _ (List.mem_append_right _ (List.mem_append_right _ (List.mem_append_right _ (List.mem_append_left _ (List.mem_of_getElem? (i := 6) rfl))))))) rfl, by decide +kernel, by decide +kernel, by decide +kernel⟩
abbrev rm_X11_again : Room := { frames := 6, cells := 0, slots := 0, locals := 142 }
set_option maxRecDepth 100000 in
theorem F_X11_fromTo : hp_Fv RX11 yX11_fromTo cX11_fromTo 4 (some .int) 3 := ⟨hp_in (List.mem_append_right _ (List.mem_append_right _ (List.mem_append_right _ (List.mem_append_right _ (List.mem_append_right _ (List.mem_append_left _ (List.mem_of_getElem? (i := 55) (by decide +kernel)))))))) rfl, hp_in (List.mem_append_right _ (List.mem_append_right _ (List.mem_append_right _ (List.mem_append_right _ (List.mem_append_right _ (List.mem_append_left _ (List.mem_of_getElem? (i := 56) (by decide +kernel)))))))) rfl, hp_in (List.mem_append_right _ (List.mem_append_left _ (List.mem_of_getElem? (i := 1) (by decide +kernel)))) rfl, hp_in (List.mem_append_right _ (List.mem_append_right _ (List.mem_append_right _ (List.mem_append_right _ (List.mem_append_right _ (List.mem_append_left _ (List.mem_of_getElem? (i := 57) rfl))))))) rfl, by decide +kernel, by decide +kernel, by decide +kernel⟩
abbrev rm_X11_fromTo : Room := { frames := 6, cells := 0, slots := 0, locals := 143 }
set_option maxRecDepth 100000 in
theorem F_X11_observe : hp_Fv RX11 yX11_observe cX11_observe 3 (some .int) 1 := ⟨hp_in (List.mem_append_right _ (List.mem_append_right _ (List.mem_append_right _ (List.mem_append_right _ (List.mem_append_right _ (List.mem_append_left _ (List.mem_of_getElem? (i := 64) (by decide +kernel)))))))) rfl, hp_in (List.mem_append_right _ (List.mem_append_right _ (List.mem_append_right _ (List.mem_append_right _ (List.mem_append_right _ (List.mem_append_left _ (List.mem_of_getElem? (i := 65) (by decide +kernel)))))))) rfl, hp_in (List.mem_append_right _ (List.mem_append_left _ (List.mem_of_getElem? (i := 1) (by decide +kernel)))) rfl, hp_in (List.mem_append_right _ (List.mem_append_right _ (List.mem_append_right _ (List.mem_append_right _ (List.mem_append_right _ (List.mem_append_left _ (List.mem_of_getElem? (i := 66) rfl))))))) rfl, by decide +kernel, by decide +kernel, by decide +kernel⟩
abbrev rm_X11_observe : Room := { frames := 2, cells := 0, slots := 0, locals := 42 }
set_option maxRecDepth 100000 in
theorem F_X11_classes : hp_Fv RX11 yX11_classes cX11_classes 1 (some .int) 0 := ⟨hp_in (List.mem_append_right _ (List.mem_append_right _ (List.mem_append_right _ (List.mem_append_right _ (List.mem_append_right _ (List.mem_append_left _ (List.mem_of_getElem? (i := 76) (by decide +kernel)))))))) rfl, hp_in (List.mem_append_right _ (List.mem_append_right _ (List.mem_append_right _ (List.mem_append_right _ (List.mem_append_right _ (List.mem_append_left _ (List.mem_of_getElem? (i := 77) (by decide +kernel)))))))) rfl, hp_in (List.mem_append_right _ (List.mem_append_left _ (List.mem_of_getElem? (i := 1) (by decide +kernel)))) rfl, hp_in (List.mem_append_right _ (List.mem_append_right _ (List.mem_append_right _ (List.mem_append_right _ (List.mem_append_right _ (List.mem_append_left _ (List.mem_of_getElem? (i := 78) rfl))))))) rfl, by decide +kernel, by decide +kernel, by decide +kernel⟩
abbrev rm_X11_classes : Room := { frames := 6, cells := 0, slots := 0, locals := 150 }
set_option maxRecDepth 100000 in
theorem F_X11_classOf : hp_Fv RX11 yX11_classOf cX11_classOf 2 (some .int) 1 := ⟨hp_in (List.mem_append_right _ (List.mem_append_right _ (List.mem_append_right _ (List.mem_append_right _ (List.mem_append_right _ (List.mem_append_left _ (List.mem_of_getElem? (i := 119) (by decide +kernel)))))))) rfl, hp_in (List.mem_append_right _ (List.mem_append_right _ (List.mem_append_right _ (List.mem_append_right _ (List.mem_append_right _ (List.mem_append_left _ (List.mem_of_getElem? (i := 120) (by decide +kernel)))))))) rfl, hp_in (List.mem_append_right _ (List.mem_append_left _ (List.mem_of_getElem? (i := 1) (by decide +kernel)))) rfl, hp_in (List.mem_append_right _ (List.mem_append_right _ (List.mem_append_right _ (List.mem_append_right _ (List.mem_append_right _ (List.mem_append_left _ (List.mem_of_getElem? (i := 121) rfl))))))) rfl, by decide +kernel, by decide +kernel, by decide +kernel⟩
abbrev rm_X11_classOf : Room := { frames := 6, cells := 0, slots := 0, locals := 150 }
set_option maxRecDepth 100000 in
theorem F_X11_count : hp_Fv RX11 yX11_count cX11_count 2 (some .int) 1 := ⟨hp_in (List.mem_append_right _ (List.mem_append_right _ (List.mem_append_right _ (List.mem_append_right _ (List.mem_append_right _ (List.mem_append_left _ (List.mem_of_getElem? (i := 123) (by decide +kernel)))))))) rfl, hp_in (List.mem_append_right _ (List.mem_append_right _ (List.mem_append_right _ (List.mem_append_right _ (List.mem_append_right _ (List.mem_append_left _ (List.mem_of_getElem? (i := 124) (by decide +kernel)))))))) rfl, hp_in (List.mem_append_right _ (List.mem_append_left _ (List.mem_of_getElem? (i := 1) (by decide +kernel)))) rfl, hp_in (List.mem_append_right _ (List.mem_append_right _ (List.mem_append_right _ (List.mem_append_right _ (List.mem_append_right _ (List.mem_append_left _ (List.mem_of_getElem? (i := 125) rfl))))))) rfl, by decide +kernel, by decide +kernel, by decide +kernel⟩
abbrev rm_X11_count : Room := { frames := 1, cells := 0, slots := 0, locals := 20 }
set_option maxRecDepth 100000 in
theorem F_X12_in : hp_Fs yX12_in cX12_in 3 (some .boolean) 3 := ⟨hp_in (List.mem_append_right _ (List.mem_append_right _ (List.mem_append_right _ (List.mem_append_right _ (List.mem_append_right _ (List.mem_append_right _ (List.mem_append_left _ (List.mem_of_getElem? (i := 94) (by decide +kernel))))))))) rfl, hp_in (List.mem_append_right _ (List.mem_append_left _ (List.mem_of_getElem? (i := 13) (by decide +kernel)))) rfl, hp_in (List.mem_append_right _ (List.mem_append_right _ (List.mem_append_right _ (List.mem_append_right _ (List.mem_append_right _ (List.mem_append_right _ (List.mem_append_left _ (List.mem_of_getElem? (i := 95) rfl)))))))) rfl, by decide +kernel, by decide +kernel, by decide +kernel⟩
abbrev rm_X12_in : Room := { frames := 0, cells := 0, slots := 0, locals := 0 }
set_option maxRecDepth 100000 in
theorem F_X12_isValue : hp_Fs yX12_isValue cX12_isValue 3 (some .boolean) 3 := ⟨hp_in (List.mem_append_right _ (List.mem_append_right _ (List.mem_append_right _ (List.mem_append_right _ (List.mem_append_right _ (List.mem_append_right _ (List.mem_append_left _ (List.mem_of_getElem? (i := 91) (by decide +kernel))))))))) rfl, hp_in (List.mem_append_right _ (List.mem_append_left _ (List.mem_of_getElem? (i := 13) (by decide +kernel)))) rfl, hp_in (List.mem_append_right _ (List.mem_append_right _ (List.mem_append_right _ (List.mem_append_right _ (List.mem_append_right _ (List.mem_append_right _ (List.mem_append_left _ (List.mem_of_getElem? (i := 92) rfl)))))))) rfl, by decide +kernel, by decide +kernel, by decide +kernel⟩
abbrev rm_X12_isValue : Room := { frames := 1, cells := 0, slots := 0, locals := 22 }
set_option maxRecDepth 100000 in
theorem F_X12_over : hp_Fv RX12 yX12_over cX12_over 1 none 0 := ⟨hp_in (List.mem_append_right _ (List.mem_append_right _ (List.mem_append_right _ (List.mem_append_right _ (List.mem_append_right _ (List.mem_append_right _ (List.mem_append_left _ (List.mem_of_getElem? (i := 98) (by decide +kernel))))))))) rfl, hp_in (List.mem_append_left _ (List.mem_of_getElem? (i := 32) (by decide +kernel))) rfl, hp_in (List.mem_append_right _ (List.mem_append_left _ (List.mem_of_getElem? (i := 13) (by decide +kernel)))) rfl, hp_in (List.mem_append_right _ (List.mem_append_right _ (List.mem_append_right _ (List.mem_append_right _ (List.mem_append_right _ (List.mem_append_right _ (List.mem_append_left _ (List.mem_of_getElem? (i := 99) rfl)))))))) rfl, by decide +kernel, by decide +kernel, by decide +kernel⟩
abbrev rm_X12_over : Room := { frames := 0, cells := 0, slots := 0, locals := 0 }
set_option maxRecDepth 100000 in
theorem F_X12_shared : hp_Fv RX12 yX12_shared cX12_shared 4 (some .int) 3 := ⟨hp_in (List.mem_append_right _ (List.mem_append_right _ (List.mem_append_right _ (List.mem_append_right _ (List.mem_append_right _ (List.mem_append_right _ (List.mem_append_left _ (List.mem_of_getElem? (i := 87) (by decide +kernel))))))))) rfl, hp_in (List.mem_append_right _ (List.mem_append_right _ (List.mem_append_right _ (List.mem_append_right _ (List.mem_append_right _ (List.mem_append_right _ (List.mem_append_left _ (List.mem_of_getElem? (i := 88) (by decide +kernel))))))))) rfl, hp_in (List.mem_append_right _ (List.mem_append_left _ (List.mem_of_getElem? (i := 13) (by decide +kernel)))) rfl, hp_in (List.mem_append_right _ (List.mem_append_right _ (List.mem_append_right _ (List.mem_append_right _ (List.mem_append_right _ (List.mem_append_right _ (List.mem_append_left _ (List.mem_of_getElem? (i := 89) rfl)))))))) rfl, by decide +kernel, by decide +kernel, by decide +kernel⟩
abbrev rm_X12_shared : Room := { frames := 2, cells := 0, slots := 0, locals := 44 }
set_option maxRecDepth 100000 in
theorem F_X12_role : hp_Fv RX12 yX12_role cX12_role 2 (some .int) 1 := ⟨hp_in (List.mem_append_right _ (List.mem_append_right _ (List.mem_append_right _ (List.mem_append_right _ (List.mem_append_right _ (List.mem_append_right _ (List.mem_append_left _ (List.mem_of_getElem? (i := 101) (by decide +kernel))))))))) rfl, hp_in (List.mem_append_right _ (List.mem_append_right _ (List.mem_append_right _ (List.mem_append_right _ (List.mem_append_right _ (List.mem_append_right _ (List.mem_append_left _ (List.mem_of_getElem? (i := 102) (by decide +kernel))))))))) rfl, hp_in (List.mem_append_right _ (List.mem_append_left _ (List.mem_of_getElem? (i := 13) (by decide +kernel)))) rfl, hp_in (List.mem_append_right _ (List.mem_append_right _ (List.mem_append_right _ (List.mem_append_right _ (List.mem_append_right _ (List.mem_append_right _ (List.mem_append_left _ (List.mem_of_getElem? (i := 103) rfl)))))))) rfl, by decide +kernel, by decide +kernel, by decide +kernel⟩
abbrev rm_X12_role : Room := { frames := 1, cells := 0, slots := 0, locals := 22 }
set_option maxRecDepth 100000 in
theorem F_X12_isRole : hp_Fv RX12 yX12_isRole cX12_isRole 2 (some .boolean) 1 := ⟨hp_in (List.mem_append_right _ (List.mem_append_right _ (List.mem_append_right _ (List.mem_append_right _ (List.mem_append_right _ (List.mem_append_right _ (List.mem_append_left _ (List.mem_of_getElem? (i := 110) (by decide +kernel))))))))) rfl, hp_in (List.mem_append_left _ (List.mem_of_getElem? (i := 33) (by decide +kernel))) rfl, hp_in (List.mem_append_right _ (List.mem_append_left _ (List.mem_of_getElem? (i := 13) (by decide +kernel)))) rfl, hp_in (List.mem_append_right _ (List.mem_append_right _ (List.mem_append_right _ (List.mem_append_right _ (List.mem_append_right _ (List.mem_append_right _ (List.mem_append_left _ (List.mem_of_getElem? (i := 111) rfl)))))))) rfl, by decide +kernel, by decide +kernel, by decide +kernel⟩
abbrev rm_X12_isRole : Room := { frames := 1, cells := 0, slots := 0, locals := 22 }
set_option maxRecDepth 100000 in
theorem F_X12_own : hp_Fv RX12 yX12_own cX12_own 6 (some .int) 4 := ⟨hp_in (List.mem_append_right _ (List.mem_append_right _ (List.mem_append_right _ (List.mem_append_right _ (List.mem_append_right _ (List.mem_append_right _ (List.mem_append_left _ (List.mem_of_getElem? (i := 105) (by decide +kernel))))))))) rfl, hp_in (List.mem_append_right _ (List.mem_append_right _ (List.mem_append_right _ (List.mem_append_right _ (List.mem_append_right _ (List.mem_append_right _ (List.mem_append_left _ (List.mem_of_getElem? (i := 106) (by decide +kernel))))))))) rfl, hp_in (List.mem_append_right _ (List.mem_append_left _ (List.mem_of_getElem? (i := 13) (by decide +kernel)))) rfl, hp_in (List.mem_append_right _ (List.mem_append_right _ (List.mem_append_right _ (List.mem_append_right _ (List.mem_append_right _ (List.mem_append_right _ (List.mem_append_left _ (List.mem_of_getElem? (i := 107) rfl)))))))) rfl, by decide +kernel, by decide +kernel, by decide +kernel⟩
abbrev rm_X12_own : Room := { frames := 2, cells := 0, slots := 0, locals := 44 }
set_option maxRecDepth 100000 in
theorem F_X12_end : hp_Fv RX12 yX12_end cX12_end 4 (some .int) 2 := ⟨hp_in (List.mem_append_right _ (List.mem_append_right _ (List.mem_append_right _ (List.mem_append_right _ (List.mem_append_right _ (List.mem_append_right _ (List.mem_append_left _ (List.mem_of_getElem? (i := 113) (by decide +kernel))))))))) rfl, hp_in (List.mem_append_right _ (List.mem_append_right _ (List.mem_append_right _ (List.mem_append_right _ (List.mem_append_right _ (List.mem_append_right _ (List.mem_append_left _ (List.mem_of_getElem? (i := 114) (by decide +kernel))))))))) rfl, hp_in (List.mem_append_right _ (List.mem_append_left _ (List.mem_of_getElem? (i := 13) (by decide +kernel)))) rfl, hp_in (List.mem_append_right _ (List.mem_append_right _ (List.mem_append_right _ (List.mem_append_right _ (List.mem_append_right _ (List.mem_append_right _ (List.mem_append_left _ (List.mem_of_getElem? (i := 115) rfl)))))))) rfl, by decide +kernel, by decide +kernel, by decide +kernel⟩
abbrev rm_X12_end : Room := { frames := 2, cells := 0, slots := 0, locals := 43 }
set_option maxRecDepth 100000 in
theorem F_X12_channel : hp_Fv RX12 yX12_channel cX12_channel 4 (some .int) 3 := ⟨hp_in (List.mem_append_right _ (List.mem_append_right _ (List.mem_append_right _ (List.mem_append_right _ (List.mem_append_right _ (List.mem_append_right _ (List.mem_append_left _ (List.mem_of_getElem? (i := 117) (by decide +kernel))))))))) rfl, hp_in (List.mem_append_right _ (List.mem_append_right _ (List.mem_append_right _ (List.mem_append_right _ (List.mem_append_right _ (List.mem_append_right _ (List.mem_append_left _ (List.mem_of_getElem? (i := 118) (by decide +kernel))))))))) rfl, hp_in (List.mem_append_right _ (List.mem_append_left _ (List.mem_of_getElem? (i := 13) (by decide +kernel)))) rfl, hp_in (List.mem_append_right _ (List.mem_append_right _ (List.mem_append_right _ (List.mem_append_right _ (List.mem_append_right _ (List.mem_append_right _ (List.mem_append_left _ (List.mem_of_getElem? (i := 119) rfl)))))))) rfl, by decide +kernel, by decide +kernel, by decide +kernel⟩
abbrev rm_X12_channel : Room := { frames := 1, cells := 0, slots := 0, locals := 22 }
set_option maxRecDepth 100000 in
theorem F_X12_isExpr : hp_Fv RX12 yX12_isExpr cX12_isExpr 2 (some .boolean) 1 := ⟨hp_in (List.mem_append_right _ (List.mem_append_right _ (List.mem_append_right _ (List.mem_append_right _ (List.mem_append_right _ (List.mem_append_right _ (List.mem_append_left _ (List.mem_of_getElem? (i := 134) (by decide +kernel))))))))) rfl, hp_in (List.mem_append_left _ (List.mem_of_getElem? (i := 36) (by decide +kernel))) rfl, hp_in (List.mem_append_right _ (List.mem_append_left _ (List.mem_of_getElem? (i := 13) (by decide +kernel)))) rfl, hp_in (List.mem_append_right _ (List.mem_append_right _ (List.mem_append_right _ (List.mem_append_right _ (List.mem_append_right _ (List.mem_append_right _ (List.mem_append_left _ (List.mem_of_getElem? (i := 135) rfl)))))))) rfl, by decide +kernel, by decide +kernel, by decide +kernel⟩
abbrev rm_X12_isExpr : Room := { frames := 1, cells := 0, slots := 0, locals := 22 }
set_option maxRecDepth 100000 in
theorem F_X12_isChannel : hp_Fv RX12 yX12_isChannel cX12_isChannel 2 (some .boolean) 1 := ⟨hp_in (List.mem_append_right _ (List.mem_append_right _ (List.mem_append_right _ (List.mem_append_right _ (List.mem_append_right _ (List.mem_append_right _ (List.mem_append_left _ (List.mem_of_getElem? (i := 130) (by decide +kernel))))))))) rfl, hp_in (List.mem_append_left _ (List.mem_of_getElem? (i := 35) (by decide +kernel))) rfl, hp_in (List.mem_append_right _ (List.mem_append_left _ (List.mem_of_getElem? (i := 13) (by decide +kernel)))) rfl, hp_in (List.mem_append_right _ (List.mem_append_right _ (List.mem_append_right _ (List.mem_append_right _ (List.mem_append_right _ (List.mem_append_right _ (List.mem_append_left _ (List.mem_of_getElem? (i := 131) rfl)))))))) rfl, by decide +kernel, by decide +kernel, by decide +kernel⟩
abbrev rm_X12_isChannel : Room := { frames := 1, cells := 0, slots := 0, locals := 22 }
set_option maxRecDepth 100000 in
theorem F_X12_isThere : hp_Fv RX12 yX12_isThere cX12_isThere 5 (some .boolean) 4 := ⟨hp_in (List.mem_append_right _ (List.mem_append_right _ (List.mem_append_right _ (List.mem_append_right _ (List.mem_append_right _ (List.mem_append_right _ (List.mem_append_left _ (List.mem_of_getElem? (i := 126) (by decide +kernel))))))))) rfl, hp_in (List.mem_append_left _ (List.mem_of_getElem? (i := 34) (by decide +kernel))) rfl, hp_in (List.mem_append_right _ (List.mem_append_left _ (List.mem_of_getElem? (i := 13) (by decide +kernel)))) rfl, hp_in (List.mem_append_right _ (List.mem_append_right _ (List.mem_append_right _ (List.mem_append_right _ (List.mem_append_right _ (List.mem_append_right _ (List.mem_append_left _ (List.mem_of_getElem? (i := 127) rfl)))))))) rfl, by decide +kernel, by decide +kernel, by decide +kernel⟩
abbrev rm_X12_isThere : Room := { frames := 2, cells := 0, slots := 0, locals := 43 }
set_option maxRecDepth 100000 in
theorem F_X12_expr : hp_Fv RX12 yX12_expr cX12_expr 5 (some .int) 4 := ⟨hp_in (List.mem_append_right _ (List.mem_append_right _ (List.mem_append_right _ (List.mem_append_right _ (List.mem_append_right _ (List.mem_append_right _ (List.mem_append_left _ (List.mem_of_getElem? (i := 121) (by decide +kernel))))))))) rfl, hp_in (List.mem_append_right _ (List.mem_append_right _ (List.mem_append_right _ (List.mem_append_right _ (List.mem_append_right _ (List.mem_append_right _ (List.mem_append_left _ (List.mem_of_getElem? (i := 122) (by decide +kernel))))))))) rfl, hp_in (List.mem_append_right _ (List.mem_append_left _ (List.mem_of_getElem? (i := 13) (by decide +kernel)))) rfl, hp_in (List.mem_append_right _ (List.mem_append_right _ (List.mem_append_right _ (List.mem_append_right _ (List.mem_append_right _ (List.mem_append_right _ (List.mem_append_left _ (List.mem_of_getElem? (i := 123) rfl)))))))) rfl, by decide +kernel, by decide +kernel, by decide +kernel⟩
abbrev rm_X12_expr : Room := { frames := 3, cells := 0, slots := 0, locals := 67 }
set_option maxRecDepth 100000 in
theorem F_X12_step : hp_Fv RX12 yX12_step cX12_step 5 (some .int) 4 := ⟨hp_in (List.mem_append_right _ (List.mem_append_right _ (List.mem_append_right _ (List.mem_append_right _ (List.mem_append_right _ (List.mem_append_right _ (List.mem_append_left _ (List.mem_of_getElem? (i := 137) (by decide +kernel))))))))) rfl, hp_in (List.mem_append_right _ (List.mem_append_right _ (List.mem_append_right _ (List.mem_append_right _ (List.mem_append_right _ (List.mem_append_right _ (List.mem_append_left _ (List.mem_of_getElem? (i := 138) (by decide +kernel))))))))) rfl, hp_in (List.mem_append_right _ (List.mem_append_left _ (List.mem_of_getElem? (i := 13) (by decide +kernel)))) rfl, hp_in (List.mem_append_right _ (List.mem_append_right _ (List.mem_append_right _ (List.mem_append_right _ (List.mem_append_right _ (List.mem_append_right _ (List.mem_append_left _ (List.mem_of_getElem? (i := 139) rfl)))))))) rfl, by decide +kernel, by decide +kernel, by decide +kernel⟩
abbrev rm_X12_step : Room := { frames := 2, cells := 0, slots := 0, locals := 43 }
set_option maxRecDepth 100000 in
theorem F_X12_act : hp_Fv RX12 yX12_act cX12_act 8 (some .int) 4 := ⟨hp_in (List.mem_append_right _ (List.mem_append_right _ (List.mem_append_right _ (List.mem_append_right _ (List.mem_append_right _ (List.mem_append_right _ (List.mem_append_left _ (List.mem_of_getElem? (i := 141) (by decide +kernel))))))))) rfl, hp_in (List.mem_append_right _ (List.mem_append_right _ (List.mem_append_right _ (List.mem_append_right _ (List.mem_append_right _ (List.mem_append_right _ (List.mem_append_left _ (List.mem_of_getElem? (i := 142) (by decide +kernel))))))))) rfl, hp_in (List.mem_append_right _ (List.mem_append_left _ (List.mem_of_getElem? (i := 13) (by decide +kernel)))) rfl, hp_in (List.mem_append_right _ (List.mem_append_right _ (List.mem_append_right _ (List.mem_append_right _ (List.mem_append_right _ (List.mem_append_right _ (List.mem_append_left _ (List.mem_of_getElem? (i := 143) rfl)))))))) rfl, by decide +kernel, by decide +kernel, by decide +kernel⟩
abbrev rm_X12_act : Room := { frames := 2, cells := 0, slots := 0, locals := 43 }
set_option maxRecDepth 100000 in
theorem F_X12_alike : hp_Fv RX12 yX12_alike cX12_alike 3 (some .int) 1 := ⟨hp_in (List.mem_append_right _ (List.mem_append_right _ (List.mem_append_right _ (List.mem_append_right _ (List.mem_append_right _ (List.mem_append_right _ (List.mem_append_left _ (List.mem_of_getElem? (i := 145) (by decide +kernel))))))))) rfl, hp_in (List.mem_append_right _ (List.mem_append_right _ (List.mem_append_right _ (List.mem_append_right _ (List.mem_append_right _ (List.mem_append_right _ (List.mem_append_left _ (List.mem_of_getElem? (i := 146) (by decide +kernel))))))))) rfl, hp_in (List.mem_append_right _ (List.mem_append_left _ (List.mem_of_getElem? (i := 13) (by decide +kernel)))) rfl, hp_in (List.mem_append_right _ (List.mem_append_right _ (List.mem_append_right _ (List.mem_append_right _ (List.mem_append_right _ (List.mem_append_right _ (List.mem_append_left _ (List.mem_of_getElem? (i := 147) rfl)))))))) rfl, by decide +kernel, by decide +kernel, by decide +kernel⟩
abbrev rm_X12_alike : Room := { frames := 1, cells := 0, slots := 0, locals := 20 }
set_option maxRecDepth 100000 in
theorem F_X12_memberAt : hp_Fs yX12_memberAt cX12_memberAt 2 (some .int) 2 := ⟨hp_in (List.mem_append_right _ (List.mem_append_right _ (List.mem_append_right _ (List.mem_append_right _ (List.mem_append_right _ (List.mem_append_right _ (List.mem_append_left _ (List.mem_of_getElem? (i := 165) (by decide +kernel))))))))) rfl, hp_in (List.mem_append_right _ (List.mem_append_left _ (List.mem_of_getElem? (i := 13) (by decide +kernel)))) rfl, hp_in (List.mem_append_right _ (List.mem_append_right _ (List.mem_append_right _ (List.mem_append_right _ (List.mem_append_right _ (List.mem_append_right _ (List.mem_append_left _ (List.mem_of_getElem? (i := 166) rfl)))))))) rfl, by decide +kernel, by decide +kernel, by decide +kernel⟩
abbrev rm_X12_memberAt : Room := { frames := 0, cells := 0, slots := 0, locals := 0 }
set_option maxRecDepth 100000 in
theorem F_X12_channelAt : hp_Fs yX12_channelAt cX12_channelAt 1 (some .int) 1 := ⟨hp_in (List.mem_append_right _ (List.mem_append_right _ (List.mem_append_right _ (List.mem_append_right _ (List.mem_append_right _ (List.mem_append_right _ (List.mem_append_left _ (List.mem_of_getElem? (i := 184) (by decide +kernel))))))))) rfl, hp_in (List.mem_append_right _ (List.mem_append_left _ (List.mem_of_getElem? (i := 13) (by decide +kernel)))) rfl, hp_in (List.mem_append_right _ (List.mem_append_right _ (List.mem_append_right _ (List.mem_append_right _ (List.mem_append_right _ (List.mem_append_right _ (List.mem_append_left _ (List.mem_of_getElem? (i := 185) rfl)))))))) rfl, by decide +kernel, by decide +kernel, by decide +kernel⟩
abbrev rm_X12_channelAt : Room := { frames := 0, cells := 0, slots := 0, locals := 0 }
set_option maxRecDepth 100000 in
theorem F_X12_cell : hp_Fv RX12 yX12_cell cX12_cell 3 (some .int) 2 := ⟨hp_in (List.mem_append_right _ (List.mem_append_right _ (List.mem_append_right _ (List.mem_append_right _ (List.mem_append_right _ (List.mem_append_right _ (List.mem_append_left _ (List.mem_of_getElem? (i := 177) (by decide +kernel))))))))) rfl, hp_in (List.mem_append_left _ (List.mem_of_getElem? (i := 42) (by decide +kernel))) rfl, hp_in (List.mem_append_right _ (List.mem_append_left _ (List.mem_of_getElem? (i := 13) (by decide +kernel)))) rfl, hp_in (List.mem_append_right _ (List.mem_append_right _ (List.mem_append_right _ (List.mem_append_right _ (List.mem_append_right _ (List.mem_append_right _ (List.mem_append_left _ (List.mem_of_getElem? (i := 178) rfl)))))))) rfl, by decide +kernel, by decide +kernel, by decide +kernel⟩
abbrev rm_X12_cell : Room := { frames := 0, cells := 0, slots := 0, locals := 0 }
set_option maxRecDepth 100000 in
theorem F_X12_many : hp_Fv RX12 yX12_many cX12_many 6 (some .int) 3 := ⟨hp_in (List.mem_append_right _ (List.mem_append_right _ (List.mem_append_right _ (List.mem_append_right _ (List.mem_append_right _ (List.mem_append_right _ (List.mem_append_left _ (List.mem_of_getElem? (i := 181) (by decide +kernel))))))))) rfl, hp_in (List.mem_append_left _ (List.mem_of_getElem? (i := 43) (by decide +kernel))) rfl, hp_in (List.mem_append_right _ (List.mem_append_left _ (List.mem_of_getElem? (i := 13) (by decide +kernel)))) rfl, hp_in (List.mem_append_right _ (List.mem_append_right _ (List.mem_append_right _ (List.mem_append_right _ (List.mem_append_right _ (List.mem_append_right _ (List.mem_append_left _ (List.mem_of_getElem? (i := 182) rfl)))))))) rfl, by decide +kernel, by decide +kernel, by decide +kernel⟩
abbrev rm_X12_many : Room := { frames := 1, cells := 0, slots := 0, locals := 22 }
set_option maxRecDepth 100000 in
theorem F_X12_reckon : hp_Fv RX12 yX12_reckon cX12_reckon 8 none 3 := ⟨hp_in (List.mem_append_right _ (List.mem_append_right _ (List.mem_append_right _ (List.mem_append_right _ (List.mem_append_right _ (List.mem_append_right _ (List.mem_append_left _ (List.mem_of_getElem? (i := 173) (by decide +kernel))))))))) rfl, hp_in (List.mem_append_left _ (List.mem_of_getElem? (i := 41) (by decide +kernel))) rfl, hp_in (List.mem_append_right _ (List.mem_append_left _ (List.mem_of_getElem? (i := 13) (by decide +kernel)))) rfl, hp_in (List.mem_append_right _ (List.mem_append_right _ (List.mem_append_right _ (List.mem_append_right _ (List.mem_append_right _ (List.mem_append_right _ (List.mem_append_left _ (List.mem_of_getElem? (i := 174) rfl)))))))) rfl, by decide +kernel, by decide +kernel, by decide +kernel⟩
abbrev rm_X12_reckon : Room := { frames := 2, cells := 0, slots := 0, locals := 47 }
set_option maxRecDepth 100000 in
theorem F_X12_isBehind : hp_Fv RX12 yX12_isBehind cX12_isBehind 7 (some .boolean) 3 := ⟨hp_in (List.mem_append_right _ (List.mem_append_right _ (List.mem_append_right _ (List.mem_append_right _ (List.mem_append_right _ (List.mem_append_right _ (List.mem_append_left _ (List.mem_of_getElem? (i := 216) (by decide +kernel))))))))) rfl, hp_in (List.mem_append_left _ (List.mem_of_getElem? (i := 51) (by decide +kernel))) rfl, hp_in (List.mem_append_right _ (List.mem_append_left _ (List.mem_of_getElem? (i := 13) (by decide +kernel)))) rfl, hp_in (List.mem_append_right _ (List.mem_append_right _ (List.mem_append_right _ (List.mem_append_right _ (List.mem_append_right _ (List.mem_append_right _ (List.mem_append_left _ (List.mem_of_getElem? (i := 217) rfl)))))))) rfl, by decide +kernel, by decide +kernel, by decide +kernel⟩
abbrev rm_X12_isBehind : Room := { frames := 1, cells := 0, slots := 0, locals := 21 }
set_option maxRecDepth 100000 in
theorem F_X12_order : hp_Fv RX12 yX12_order cX12_order 7 none 0 := ⟨hp_in (List.mem_append_right _ (List.mem_append_right _ (List.mem_append_right _ (List.mem_append_right _ (List.mem_append_right _ (List.mem_append_right _ (List.mem_append_left _ (List.mem_of_getElem? (i := 212) (by decide +kernel))))))))) rfl, hp_in (List.mem_append_left _ (List.mem_of_getElem? (i := 50) (by decide +kernel))) rfl, hp_in (List.mem_append_right _ (List.mem_append_left _ (List.mem_of_getElem? (i := 13) (by decide +kernel)))) rfl, hp_in (List.mem_append_right _ (List.mem_append_right _ (List.mem_append_right _ (List.mem_append_right _ (List.mem_append_right _ (List.mem_append_right _ (List.mem_append_left _ (List.mem_of_getElem? (i := 213) rfl)))))))) rfl, by decide +kernel, by decide +kernel, by decide +kernel⟩
abbrev rm_X12_order : Room := { frames := 2, cells := 0, slots := 0, locals := 47 }
set_option maxRecDepth 100000 in
theorem F_X12_placeOf : hp_Fv RX12 yX12_placeOf cX12_placeOf 4 (some .int) 0 := ⟨hp_in (List.mem_append_right _ (List.mem_append_right _ (List.mem_append_right _ (List.mem_append_right _ (List.mem_append_right _ (List.mem_append_right _ (List.mem_append_left _ (List.mem_of_getElem? (i := 220) (by decide +kernel))))))))) rfl, hp_in (List.mem_append_left _ (List.mem_of_getElem? (i := 52) (by decide +kernel))) rfl, hp_in (List.mem_append_right _ (List.mem_append_left _ (List.mem_of_getElem? (i := 13) (by decide +kernel)))) rfl, hp_in (List.mem_append_right _ (List.mem_append_right _ (List.mem_append_right _ (List.mem_append_right _ (List.mem_append_right _ (List.mem_append_right _ (List.mem_append_left _ (List.mem_of_getElem? (i := 221) rfl)))))))) rfl, by decide +kernel, by decide +kernel, by decide +kernel⟩
abbrev rm_X12_placeOf : Room := { frames := 0, cells := 0, slots := 0, locals := 0 }
set_option maxRecDepth 100000 in
theorem F_X12_take : hp_Fv RX12 yX12_take cX12_take 3 none 1 := ⟨hp_in (List.mem_append_right _ (List.mem_append_right _ (List.mem_append_right _ (List.mem_append_right _ (List.mem_append_right _ (List.mem_append_right _ (List.mem_append_left _ (List.mem_of_getElem? (i := 196) (by decide +kernel))))))))) rfl, hp_in (List.mem_append_left _ (List.mem_of_getElem? (i := 46) (by decide +kernel))) rfl, hp_in (List.mem_append_right _ (List.mem_append_left _ (List.mem_of_getElem? (i := 13) (by decide +kernel)))) rfl, hp_in (List.mem_append_right _ (List.mem_append_right _ (List.mem_append_right _ (List.mem_append_right _ (List.mem_append_right _ (List.mem_append_right _ (List.mem_append_left _ (List.mem_of_getElem? (i := 197) rfl)))))))) rfl, by decide +kernel, by decide +kernel, by decide +kernel⟩
abbrev rm_X12_take : Room := { frames := 0, cells := 0, slots := 0, locals := 0 }
set_option maxRecDepth 100000 in
theorem F_X12_comes : hp_Fv RX12 yX12_comes cX12_comes 7 (some .boolean) 4 := ⟨hp_in (List.mem_append_right _ (List.mem_append_right _ (List.mem_append_right _ (List.mem_append_right _ (List.mem_append_right _ (List.mem_append_right _ (List.mem_append_left _ (List.mem_of_getElem? (i := 208) (by decide +kernel))))))))) rfl, hp_in (List.mem_append_left _ (List.mem_of_getElem? (i := 49) (by decide +kernel))) rfl, hp_in (List.mem_append_right _ (List.mem_append_left _ (List.mem_of_getElem? (i := 13) (by decide +kernel)))) rfl, hp_in (List.mem_append_right _ (List.mem_append_right _ (List.mem_append_right _ (List.mem_append_right _ (List.mem_append_right _ (List.mem_append_right _ (List.mem_append_left _ (List.mem_of_getElem? (i := 209) rfl)))))))) rfl, by decide +kernel, by decide +kernel, by decide +kernel⟩
abbrev rm_X12_comes : Room := { frames := 3, cells := 0, slots := 0, locals := 73 }
set_option maxRecDepth 100000 in
theorem F_X12_can : hp_Fv RX12 yX12_can cX12_can 9 (some .boolean) 3 := ⟨hp_in (List.mem_append_right _ (List.mem_append_right _ (List.mem_append_right _ (List.mem_append_right _ (List.mem_append_right _ (List.mem_append_right _ (List.mem_append_left _ (List.mem_of_getElem? (i := 188) (by decide +kernel))))))))) rfl, hp_in (List.mem_append_left _ (List.mem_of_getElem? (i := 44) (by decide +kernel))) rfl, hp_in (List.mem_append_right _ (List.mem_append_left _ (List.mem_of_getElem? (i := 13) (by decide +kernel)))) rfl, hp_in (List.mem_append_right _ (List.mem_append_right _ (List.mem_append_right _ (List.mem_append_right _ (List.mem_append_right _ (List.mem_append_right _ (List.mem_append_left _ (List.mem_of_getElem? (i := 189) rfl)))))))) rfl, by decide +kernel, by decide +kernel, by decide +kernel⟩
abbrev rm_X12_can : Room := { frames := 1, cells := 0, slots := 0, locals := 22 }
set_option maxRecDepth 100000 in
theorem F_X12_isFirst : hp_Fv RX12 yX12_isFirst cX12_isFirst 6 (some .boolean) 3 := ⟨hp_in (List.mem_append_right _ (List.mem_append_right _ (List.mem_append_right _ (List.mem_append_right _ (List.mem_append_right _ (List.mem_append_right _ (List.mem_append_left _ (List.mem_of_getElem? (i := 236) (by decide +kernel))))))))) rfl, hp_in (List.mem_append_left _ (List.mem_of_getElem? (i := 56) (by decide +kernel))) rfl, hp_in (List.mem_append_right _ (List.mem_append_left _ (List.mem_of_getElem? (i := 13) (by decide +kernel)))) rfl, hp_in (List.mem_append_right _ (List.mem_append_right _ (List.mem_append_right _ (List.mem_append_right _ (List.mem_append_right _ (List.mem_append_right _ (List.mem_append_left _ (List.mem_of_getElem? (i := 237) rfl)))))))) rfl, by decide +kernel, by decide +kernel, by decide +kernel⟩
abbrev rm_X12_isFirst : Room := { frames := 1, cells := 0, slots := 0, locals := 22 }
set_option maxRecDepth 100000 in
theorem F_X12_nextChoice : hp_Fv RX12 yX12_nextChoice cX12_nextChoice 7 (some .int) 3 := ⟨hp_in (List.mem_append_right _ (List.mem_append_right _ (List.mem_append_right _ (List.mem_append_right _ (List.mem_append_right _ (List.mem_append_right _ (List.mem_append_left _ (List.mem_of_getElem? (i := 232) (by decide +kernel))))))))) rfl, hp_in (List.mem_append_left _ (List.mem_of_getElem? (i := 55) (by decide +kernel))) rfl, hp_in (List.mem_append_right _ (List.mem_append_left _ (List.mem_of_getElem? (i := 13) (by decide +kernel)))) rfl, hp_in (List.mem_append_right _ (List.mem_append_right _ (List.mem_append_right _ (List.mem_append_right _ (List.mem_append_right _ (List.mem_append_right _ (List.mem_append_left _ (List.mem_of_getElem? (i := 233) rfl)))))))) rfl, by decide +kernel, by decide +kernel, by decide +kernel⟩
abbrev rm_X12_nextChoice : Room := { frames := 2, cells := 0, slots := 0, locals := 47 }
set_option maxRecDepth 100000 in
theorem F_X12_hasNextWay : hp_Fv RX12 yX12_hasNextWay cX12_hasNextWay 6 (some .boolean) 2 := ⟨hp_in (List.mem_append_right _ (List.mem_append_right _ (List.mem_append_right _ (List.mem_append_right _ (List.mem_append_right _ (List.mem_append_right _ (List.mem_append_left _ (List.mem_of_getElem? (i := 228) (by decide +kernel))))))))) rfl, hp_in (List.mem_append_left _ (List.mem_of_getElem? (i := 54) (by decide +kernel))) rfl, hp_in (List.mem_append_right _ (List.mem_append_left _ (List.mem_of_getElem? (i := 13) (by decide +kernel)))) rfl, hp_in (List.mem_append_right _ (List.mem_append_right _ (List.mem_append_right _ (List.mem_append_right _ (List.mem_append_right _ (List.mem_append_right _ (List.mem_append_left _ (List.mem_of_getElem? (i := 229) rfl)))))))) rfl, by decide +kernel, by decide +kernel, by decide +kernel⟩
abbrev rm_X12_hasNextWay : Room := { frames := 3, cells := 0, slots := 0, locals := 73 }
set_option maxRecDepth 100000 in
theorem F_X12_letterGoes : hp_Fv RX12 yX12_letterGoes cX12_letterGoes 5 none 2 := ⟨hp_in (List.mem_append_right _ (List.mem_append_right _ (List.mem_append_right _ (List.mem_append_right _ (List.mem_append_right _ (List.mem_append_right _ (List.mem_append_left _ (List.mem_of_getElem? (i := 204) (by decide +kernel))))))))) rfl, hp_in (List.mem_append_left _ (List.mem_of_getElem? (i := 48) (by decide +kernel))) rfl, hp_in (List.mem_append_right _ (List.mem_append_left _ (List.mem_of_getElem? (i := 13) (by decide +kernel)))) rfl, hp_in (List.mem_append_right _ (List.mem_append_right _ (List.mem_append_right _ (List.mem_append_right _ (List.mem_append_right _ (List.mem_append_right _ (List.mem_append_left _ (List.mem_of_getElem? (i := 205) rfl)))))))) rfl, by decide +kernel, by decide +kernel, by decide +kernel⟩
abbrev rm_X12_letterGoes : Room := { frames := 1, cells := 0, slots := 0, locals := 20 }
set_option maxRecDepth 100000 in
theorem F_X12_isDone : hp_Fv RX12 yX12_isDone cX12_isDone 11 (some .boolean) 3 := ⟨hp_in (List.mem_append_right _ (List.mem_append_right _ (List.mem_append_right _ (List.mem_append_right _ (List.mem_append_right _ (List.mem_append_right _ (List.mem_append_left _ (List.mem_of_getElem? (i := 200) (by decide +kernel))))))))) rfl, hp_in (List.mem_append_left _ (List.mem_of_getElem? (i := 47) (by decide +kernel))) rfl, hp_in (List.mem_append_right _ (List.mem_append_left _ (List.mem_of_getElem? (i := 13) (by decide +kernel)))) rfl, hp_in (List.mem_append_right _ (List.mem_append_right _ (List.mem_append_right _ (List.mem_append_right _ (List.mem_append_right _ (List.mem_append_right _ (List.mem_append_left _ (List.mem_of_getElem? (i := 201) rfl)))))))) rfl, by decide +kernel, by decide +kernel, by decide +kernel⟩
abbrev rm_X12_isDone : Room := { frames := 2, cells := 0, slots := 0, locals := 44 }
set_option maxRecDepth 100000 in
theorem F_X12_fault : hp_Fv RX12 yX12_fault cX12_fault 5 none 4 := ⟨hp_in (List.mem_append_right _ (List.mem_append_right _ (List.mem_append_right _ (List.mem_append_right _ (List.mem_append_right _ (List.mem_append_right _ (List.mem_append_left _ (List.mem_of_getElem? (i := 224) (by decide +kernel))))))))) rfl, hp_in (List.mem_append_left _ (List.mem_of_getElem? (i := 53) (by decide +kernel))) rfl, hp_in (List.mem_append_right _ (List.mem_append_left _ (List.mem_of_getElem? (i := 13) (by decide +kernel)))) rfl, hp_in (List.mem_append_right _ (List.mem_append_right _ (List.mem_append_right _ (List.mem_append_right _ (List.mem_append_right _ (List.mem_append_right _ (List.mem_append_left _ (List.mem_of_getElem? (i := 225) rfl)))))))) rfl, by decide +kernel, by decide +kernel, by decide +kernel⟩
abbrev rm_X12_fault : Room := { frames := 0, cells := 0, slots := 0, locals := 0 }
set_option maxRecDepth 100000 in
theorem F_X12_goWays : hp_Fv RX12 yX12_goWays cX12_goWays 5 (some .boolean) 3 := ⟨hp_in (List.mem_append_right _ (List.mem_append_right _ (List.mem_append_right _ (List.mem_append_right _ (List.mem_append_right _ (List.mem_append_right _ (List.mem_append_left _ (List.mem_of_getElem? (i := 192) (by decide +kernel))))))))) rfl, hp_in (List.mem_append_left _ (List.mem_of_getElem? (i := 45) (by decide +kernel))) rfl, hp_in (List.mem_append_right _ (List.mem_append_left _ (List.mem_of_getElem? (i := 13) (by decide +kernel)))) rfl, hp_in (List.mem_append_right _ (List.mem_append_right _ (List.mem_append_right _ (List.mem_append_right _ (List.mem_append_right _ (List.mem_append_right _ (List.mem_append_left _ (List.mem_of_getElem? (i := 193) rfl)))))))) rfl, by decide +kernel, by decide +kernel, by decide +kernel⟩
abbrev rm_X12_goWays : Room := { frames := 4, cells := 0, slots := 0, locals := 99 }
set_option maxRecDepth 100000 in
theorem F_X12_goThrough : hp_Fv RX12 yX12_goThrough cX12_goThrough 5 (some .boolean) 1 := ⟨hp_in (List.mem_append_right _ (List.mem_append_right _ (List.mem_append_right _ (List.mem_append_right _ (List.mem_append_right _ (List.mem_append_right _ (List.mem_append_left _ (List.mem_of_getElem? (i := 169) (by decide +kernel))))))))) rfl, hp_in (List.mem_append_left _ (List.mem_of_getElem? (i := 40) (by decide +kernel))) rfl, hp_in (List.mem_append_right _ (List.mem_append_left _ (List.mem_of_getElem? (i := 13) (by decide +kernel)))) rfl, hp_in (List.mem_append_right _ (List.mem_append_right _ (List.mem_append_right _ (List.mem_append_right _ (List.mem_append_right _ (List.mem_append_right _ (List.mem_append_left _ (List.mem_of_getElem? (i := 170) rfl)))))))) rfl, by decide +kernel, by decide +kernel, by decide +kernel⟩
abbrev rm_X12_goThrough : Room := { frames := 5, cells := 0, slots := 0, locals := 123 }
set_option maxRecDepth 100000 in
theorem F_X12_use : hp_Fv RX12 yX12_use cX12_use 2 none 1 := ⟨hp_in (List.mem_append_right _ (List.mem_append_right _ (List.mem_append_right _ (List.mem_append_right _ (List.mem_append_right _ (List.mem_append_right _ (List.mem_append_left _ (List.mem_of_getElem? (i := 162) (by decide +kernel))))))))) rfl, hp_in (List.mem_append_left _ (List.mem_of_getElem? (i := 39) (by decide +kernel))) rfl, hp_in (List.mem_append_right _ (List.mem_append_left _ (List.mem_of_getElem? (i := 13) (by decide +kernel)))) rfl, hp_in (List.mem_append_right _ (List.mem_append_right _ (List.mem_append_right _ (List.mem_append_right _ (List.mem_append_right _ (List.mem_append_right _ (List.mem_append_left _ (List.mem_of_getElem? (i := 163) rfl)))))))) rfl, by decide +kernel, by decide +kernel, by decide +kernel⟩
abbrev rm_X12_use : Room := { frames := 0, cells := 0, slots := 0, locals := 0 }
set_option maxRecDepth 100000 in
theorem F_X12_isFit : hp_Fv RX12 yX12_isFit cX12_isFit 3 (some .boolean) 1 := ⟨hp_in (List.mem_append_right _ (List.mem_append_right _ (List.mem_append_right _ (List.mem_append_right _ (List.mem_append_right _ (List.mem_append_right _ (List.mem_append_left _ (List.mem_of_getElem? (i := 158) (by decide +kernel))))))))) rfl, hp_in (List.mem_append_left _ (List.mem_of_getElem? (i := 38) (by decide +kernel))) rfl, hp_in (List.mem_append_right _ (List.mem_append_left _ (List.mem_of_getElem? (i := 13) (by decide +kernel)))) rfl, hp_in (List.mem_append_right _ (List.mem_append_right _ (List.mem_append_right _ (List.mem_append_right _ (List.mem_append_right _ (List.mem_append_right _ (List.mem_append_left _ (List.mem_of_getElem? (i := 159) rfl)))))))) rfl, by decide +kernel, by decide +kernel, by decide +kernel⟩
abbrev rm_X12_isFit : Room := { frames := 1, cells := 0, slots := 0, locals := 21 }
set_option maxRecDepth 100000 in
theorem F_X12_maySearch : hp_Fv RX12 yX12_maySearch cX12_maySearch 2 (some .boolean) 0 := ⟨hp_in (List.mem_append_right _ (List.mem_append_right _ (List.mem_append_right _ (List.mem_append_right _ (List.mem_append_right _ (List.mem_append_right _ (List.mem_append_left _ (List.mem_of_getElem? (i := 154) (by decide +kernel))))))))) rfl, hp_in (List.mem_append_left _ (List.mem_of_getElem? (i := 37) (by decide +kernel))) rfl, hp_in (List.mem_append_right _ (List.mem_append_left _ (List.mem_of_getElem? (i := 13) (by decide +kernel)))) rfl, hp_in (List.mem_append_right _ (List.mem_append_right _ (List.mem_append_right _ (List.mem_append_right _ (List.mem_append_right _ (List.mem_append_right _ (List.mem_append_left _ (List.mem_of_getElem? (i := 155) rfl)))))))) rfl, by decide +kernel, by decide +kernel, by decide +kernel⟩
abbrev rm_X12_maySearch : Room := { frames := 2, cells := 0, slots := 0, locals := 43 }
set_option maxRecDepth 100000 in
theorem F_X12_search : hp_Fv RX12 yX12_search cX12_search 4 (some .int) 0 := ⟨hp_in (List.mem_append_right _ (List.mem_append_right _ (List.mem_append_right _ (List.mem_append_right _ (List.mem_append_right _ (List.mem_append_right _ (List.mem_append_left _ (List.mem_of_getElem? (i := 149) (by decide +kernel))))))))) rfl, hp_in (List.mem_append_right _ (List.mem_append_right _ (List.mem_append_right _ (List.mem_append_right _ (List.mem_append_right _ (List.mem_append_right _ (List.mem_append_left _ (List.mem_of_getElem? (i := 150) (by decide +kernel))))))))) rfl, hp_in (List.mem_append_right _ (List.mem_append_left _ (List.mem_of_getElem? (i := 13) (by decide +kernel)))) rfl, hp_in (List.mem_append_right _ (List.mem_append_right _ (List.mem_append_right _ (List.mem_append_right _ (List.mem_append_right _ (List.mem_append_right _ (List.mem_append_left _ (List.mem_of_getElem? (i := 151) rfl)))))))) rfl, by decide +kernel, by decide +kernel, by decide +kernel⟩
abbrev rm_X12_search : Room := { frames := 6, cells := 0, slots := 0, locals := 147 }
set_option maxRecDepth 100000 in
theorem F_X12_hasStates : hp_Fv RX12 yX12_hasStates cX12_hasStates 1 (some .boolean) 0 := ⟨hp_in (List.mem_append_right _ (List.mem_append_right _ (List.mem_append_right _ (List.mem_append_right _ (List.mem_append_right _ (List.mem_append_right _ (List.mem_append_right _ (List.mem_of_getElem? (i := 4) (by decide +kernel))))))))) rfl, hp_in (List.mem_append_left _ (List.mem_of_getElem? (i := 57) (by decide +kernel))) rfl, hp_in (List.mem_append_right _ (List.mem_append_left _ (List.mem_of_getElem? (i := 13) (by decide +kernel)))) rfl, hp_in (List.mem_append_right _ (List.mem_append_right _ (List.mem_append_right _ (List.mem_append_right _ (List.mem_append_right _ (List.mem_append_right _ (List.mem_append_right _ (List.mem_of_getElem? (i := 5) rfl)))))))) rfl, by decide +kernel, by decide +kernel, by decide +kernel⟩
abbrev rm_X12_hasStates : Room := { frames := 0, cells := 0, slots := 0, locals := 0 }
set_option maxRecDepth 100000 in
theorem F_X12_isState : hp_Fv RX12 yX12_isState cX12_isState 2 (some .boolean) 1 := ⟨hp_in (List.mem_append_right _ (List.mem_append_right _ (List.mem_append_right _ (List.mem_append_right _ (List.mem_append_right _ (List.mem_append_right _ (List.mem_append_right _ (List.mem_of_getElem? (i := 8) (by decide +kernel))))))))) rfl, hp_in (List.mem_append_left _ (List.mem_of_getElem? (i := 58) (by decide +kernel))) rfl, hp_in (List.mem_append_right _ (List.mem_append_left _ (List.mem_of_getElem? (i := 13) (by decide +kernel)))) rfl, hp_in (List.mem_append_right _ (List.mem_append_right _ (List.mem_append_right _ (List.mem_append_right _ (List.mem_append_right _ (List.mem_append_right _ (List.mem_append_right _ (List.mem_of_getElem? (i := 9) rfl)))))))) rfl, by decide +kernel, by decide +kernel, by decide +kernel⟩
abbrev rm_X12_isState : Room := { frames := 1, cells := 0, slots := 0, locals := 22 }
set_option maxRecDepth 100000 in
theorem F_X12_tells : hp_Fv RX12 yX12_tells cX12_tells 3 (some .int) 2 := ⟨hp_in (List.mem_append_right _ (List.mem_append_right _ (List.mem_append_right _ (List.mem_append_right _ (List.mem_append_right _ (List.mem_append_right _ (List.mem_append_left _ (List.mem_of_getElem? (i := 239) (by decide +kernel))))))))) rfl, hp_in (List.mem_append_right _ (List.mem_append_right _ (List.mem_append_right _ (List.mem_append_right _ (List.mem_append_right _ (List.mem_append_right _ (List.mem_append_right _ (List.mem_of_getElem? (i := 0) (by decide +kernel))))))))) rfl, hp_in (List.mem_append_right _ (List.mem_append_left _ (List.mem_of_getElem? (i := 13) (by decide +kernel)))) rfl, hp_in (List.mem_append_right _ (List.mem_append_right _ (List.mem_append_right _ (List.mem_append_right _ (List.mem_append_right _ (List.mem_append_right _ (List.mem_append_right _ (List.mem_of_getElem? (i := 1) rfl)))))))) rfl, by decide +kernel, by decide +kernel, by decide +kernel⟩
abbrev rm_X12_tells : Room := { frames := 3, cells := 0, slots := 0, locals := 74 }
set_option maxRecDepth 100000 in
theorem F_X12_isMember : hp_Fv RX12 yX12_isMember cX12_isMember 3 (some .boolean) 2 := ⟨hp_in (List.mem_append_right _ (List.mem_append_right _ (List.mem_append_right _ (List.mem_append_right _ (List.mem_append_right _ (List.mem_append_right _ (List.mem_append_right _ (List.mem_of_getElem? (i := 17) (by decide +kernel))))))))) rfl, hp_in (List.mem_append_left _ (List.mem_of_getElem? (i := 59) (by decide +kernel))) rfl, hp_in (List.mem_append_right _ (List.mem_append_left _ (List.mem_of_getElem? (i := 13) (by decide +kernel)))) rfl, hp_in (List.mem_append_right _ (List.mem_append_right _ (List.mem_append_right _ (List.mem_append_right _ (List.mem_append_right _ (List.mem_append_right _ (List.mem_append_right _ (List.mem_of_getElem? (i := 18) rfl)))))))) rfl, by decide +kernel, by decide +kernel, by decide +kernel⟩
abbrev rm_X12_isMember : Room := { frames := 2, cells := 0, slots := 0, locals := 43 }
set_option maxRecDepth 100000 in
theorem F_X12_place : hp_Fv RX12 yX12_place cX12_place 4 (some .int) 3 := ⟨hp_in (List.mem_append_right _ (List.mem_append_right _ (List.mem_append_right _ (List.mem_append_right _ (List.mem_append_right _ (List.mem_append_right _ (List.mem_append_right _ (List.mem_of_getElem? (i := 12) (by decide +kernel))))))))) rfl, hp_in (List.mem_append_right _ (List.mem_append_right _ (List.mem_append_right _ (List.mem_append_right _ (List.mem_append_right _ (List.mem_append_right _ (List.mem_append_right _ (List.mem_of_getElem? (i := 13) (by decide +kernel))))))))) rfl, hp_in (List.mem_append_right _ (List.mem_append_left _ (List.mem_of_getElem? (i := 13) (by decide +kernel)))) rfl, hp_in (List.mem_append_right _ (List.mem_append_right _ (List.mem_append_right _ (List.mem_append_right _ (List.mem_append_right _ (List.mem_append_right _ (List.mem_append_right _ (List.mem_of_getElem? (i := 14) rfl)))))))) rfl, by decide +kernel, by decide +kernel, by decide +kernel⟩
abbrev rm_X12_place : Room := { frames := 3, cells := 0, slots := 0, locals := 65 }
set_option maxRecDepth 100000 in
theorem F_X12_owned : hp_Fv RX12 yX12_owned cX12_owned 5 (some .int) 4 := ⟨hp_in (List.mem_append_right _ (List.mem_append_right _ (List.mem_append_right _ (List.mem_append_right _ (List.mem_append_right _ (List.mem_append_right _ (List.mem_append_right _ (List.mem_of_getElem? (i := 20) (by decide +kernel))))))))) rfl, hp_in (List.mem_append_right _ (List.mem_append_right _ (List.mem_append_right _ (List.mem_append_right _ (List.mem_append_right _ (List.mem_append_right _ (List.mem_append_right _ (List.mem_of_getElem? (i := 21) (by decide +kernel))))))))) rfl, hp_in (List.mem_append_right _ (List.mem_append_left _ (List.mem_of_getElem? (i := 13) (by decide +kernel)))) rfl, hp_in (List.mem_append_right _ (List.mem_append_right _ (List.mem_append_right _ (List.mem_append_right _ (List.mem_append_right _ (List.mem_append_right _ (List.mem_append_right _ (List.mem_of_getElem? (i := 22) rfl)))))))) rfl, by decide +kernel, by decide +kernel, by decide +kernel⟩
abbrev rm_X12_owned : Room := { frames := 3, cells := 0, slots := 0, locals := 65 }
set_option maxRecDepth 100000 in
theorem F_X12_letter : hp_Fv RX12 yX12_letter cX12_letter 4 (some .int) 3 := ⟨hp_in (List.mem_append_right _ (List.mem_append_right _ (List.mem_append_right _ (List.mem_append_right _ (List.mem_append_right _ (List.mem_append_right _ (List.mem_append_right _ (List.mem_of_getElem? (i := 24) (by decide +kernel))))))))) rfl, hp_in (List.mem_append_right _ (List.mem_append_right _ (List.mem_append_right _ (List.mem_append_right _ (List.mem_append_right _ (List.mem_append_right _ (List.mem_append_right _ (List.mem_of_getElem? (i := 25) (by decide +kernel))))))))) rfl, hp_in (List.mem_append_right _ (List.mem_append_left _ (List.mem_of_getElem? (i := 13) (by decide +kernel)))) rfl, hp_in (List.mem_append_right _ (List.mem_append_right _ (List.mem_append_right _ (List.mem_append_right _ (List.mem_append_right _ (List.mem_append_right _ (List.mem_append_right _ (List.mem_of_getElem? (i := 26) rfl)))))))) rfl, by decide +kernel, by decide +kernel, by decide +kernel⟩
abbrev rm_X12_letter : Room := { frames := 2, cells := 0, slots := 0, locals := 43 }
set_option maxRecDepth 100000 in
theorem F_X12_movesOf : hp_Fv RX12 yX12_movesOf cX12_movesOf 2 (some .int) 1 := ⟨hp_in (List.mem_append_right _ (List.mem_append_right _ (List.mem_append_right _ (List.mem_append_right _ (List.mem_append_right _ (List.mem_append_right _ (List.mem_append_right _ (List.mem_of_getElem? (i := 33) (by decide +kernel))))))))) rfl, hp_in (List.mem_append_left _ (List.mem_of_getElem? (i := 60) (by decide +kernel))) rfl, hp_in (List.mem_append_right _ (List.mem_append_left _ (List.mem_of_getElem? (i := 13) (by decide +kernel)))) rfl, hp_in (List.mem_append_right _ (List.mem_append_right _ (List.mem_append_right _ (List.mem_append_right _ (List.mem_append_right _ (List.mem_append_right _ (List.mem_append_right _ (List.mem_of_getElem? (i := 34) rfl)))))))) rfl, by decide +kernel, by decide +kernel, by decide +kernel⟩
abbrev rm_X12_movesOf : Room := { frames := 0, cells := 0, slots := 0, locals := 0 }
set_option maxRecDepth 100000 in
theorem F_X12_moves : hp_Fv RX12 yX12_moves cX12_moves 2 (some .int) 1 := ⟨hp_in (List.mem_append_right _ (List.mem_append_right _ (List.mem_append_right _ (List.mem_append_right _ (List.mem_append_right _ (List.mem_append_right _ (List.mem_append_right _ (List.mem_of_getElem? (i := 28) (by decide +kernel))))))))) rfl, hp_in (List.mem_append_right _ (List.mem_append_right _ (List.mem_append_right _ (List.mem_append_right _ (List.mem_append_right _ (List.mem_append_right _ (List.mem_append_right _ (List.mem_of_getElem? (i := 29) (by decide +kernel))))))))) rfl, hp_in (List.mem_append_right _ (List.mem_append_left _ (List.mem_of_getElem? (i := 13) (by decide +kernel)))) rfl, hp_in (List.mem_append_right _ (List.mem_append_right _ (List.mem_append_right _ (List.mem_append_right _ (List.mem_append_right _ (List.mem_append_right _ (List.mem_append_right _ (List.mem_of_getElem? (i := 30) rfl)))))))) rfl, by decide +kernel, by decide +kernel, by decide +kernel⟩
abbrev rm_X12_moves : Room := { frames := 2, cells := 0, slots := 0, locals := 43 }
set_option maxRecDepth 100000 in
theorem F_X12_move : hp_Fv RX12 yX12_move cX12_move 5 (some .int) 3 := ⟨hp_in (List.mem_append_right _ (List.mem_append_right _ (List.mem_append_right _ (List.mem_append_right _ (List.mem_append_right _ (List.mem_append_right _ (List.mem_append_right _ (List.mem_of_getElem? (i := 36) (by decide +kernel))))))))) rfl, hp_in (List.mem_append_right _ (List.mem_append_right _ (List.mem_append_right _ (List.mem_append_right _ (List.mem_append_right _ (List.mem_append_right _ (List.mem_append_right _ (List.mem_of_getElem? (i := 37) (by decide +kernel))))))))) rfl, hp_in (List.mem_append_right _ (List.mem_append_left _ (List.mem_of_getElem? (i := 13) (by decide +kernel)))) rfl, hp_in (List.mem_append_right _ (List.mem_append_right _ (List.mem_append_right _ (List.mem_append_right _ (List.mem_append_right _ (List.mem_append_right _ (List.mem_append_right _ (List.mem_of_getElem? (i := 38) rfl)))))))) rfl, by decide +kernel, by decide +kernel, by decide +kernel⟩
abbrev rm_X12_move : Room := { frames := 2, cells := 0, slots := 0, locals := 43 }
set_option maxRecDepth 100000 in
theorem F_X12_depth : hp_Fv RX12 yX12_depth cX12_depth 2 (some .int) 1 := ⟨hp_in (List.mem_append_right _ (List.mem_append_right _ (List.mem_append_right _ (List.mem_append_right _ (List.mem_append_right _ (List.mem_append_right _ (List.mem_append_right _ (List.mem_of_getElem? (i := 40) (by decide +kernel))))))))) rfl, hp_in (List.mem_append_right _ (List.mem_append_right _ (List.mem_append_right _ (List.mem_append_right _ (List.mem_append_right _ (List.mem_append_right _ (List.mem_append_right _ (List.mem_of_getElem? (i := 41) (by decide +kernel))))))))) rfl, hp_in (List.mem_append_right _ (List.mem_append_left _ (List.mem_of_getElem? (i := 13) (by decide +kernel)))) rfl, hp_in (List.mem_append_right _ (List.mem_append_right _ (List.mem_append_right _ (List.mem_append_right _ (List.mem_append_right _ (List.mem_append_right _ (List.mem_append_right _ (List.mem_of_getElem? (i := 42) rfl)))))))) rfl, by decide +kernel, by decide +kernel, by decide +kernel⟩
abbrev rm_X12_depth : Room := { frames := 2, cells := 0, slots := 0, locals := 43 }
set_option maxRecDepth 100000 in
theorem F_X12_came : hp_Fv RX12 yX12_came cX12_came 3 (some .int) 2 := ⟨hp_in (List.mem_append_right _ (List.mem_append_right _ (List.mem_append_right _ (List.mem_append_right _ (List.mem_append_right _ (List.mem_append_right _ (List.mem_append_right _ (List.mem_of_getElem? (i := 44) (by decide +kernel))))))))) rfl, hp_in (List.mem_append_right _ (List.mem_append_right _ (List.mem_append_right _ (List.mem_append_right _ (List.mem_append_right _ (List.mem_append_right _ (List.mem_append_right _ (List.mem_of_getElem? (i := 45) (by decide +kernel))))))))) rfl, hp_in (List.mem_append_right _ (List.mem_append_left _ (List.mem_of_getElem? (i := 13) (by decide +kernel)))) rfl, hp_in (List.mem_append_right _ (List.mem_append_right _ (List.mem_append_right _ (List.mem_append_right _ (List.mem_append_right _ (List.mem_append_right _ (List.mem_append_right _ (List.mem_of_getElem? (i := 46) rfl)))))))) rfl, by decide +kernel, by decide +kernel, by decide +kernel⟩
abbrev rm_X12_came : Room := { frames := 2, cells := 0, slots := 0, locals := 43 }
set_option maxRecDepth 100000 in
theorem F_X12_isStuck : hp_Fv RX12 yX12_isStuck cX12_isStuck 4 (some .boolean) 1 := ⟨hp_in (List.mem_append_right _ (List.mem_append_right _ (List.mem_append_right _ (List.mem_append_right _ (List.mem_append_right _ (List.mem_append_right _ (List.mem_append_right _ (List.mem_of_getElem? (i := 53) (by decide +kernel))))))))) rfl, hp_in (List.mem_append_left _ (List.mem_of_getElem? (i := 61) (by decide +kernel))) rfl, hp_in (List.mem_append_right _ (List.mem_append_left _ (List.mem_of_getElem? (i := 13) (by decide +kernel)))) rfl, hp_in (List.mem_append_right _ (List.mem_append_right _ (List.mem_append_right _ (List.mem_append_right _ (List.mem_append_right _ (List.mem_append_right _ (List.mem_append_right _ (List.mem_of_getElem? (i := 54) rfl)))))))) rfl, by decide +kernel, by decide +kernel, by decide +kernel⟩
abbrev rm_X12_isStuck : Room := { frames := 1, cells := 0, slots := 0, locals := 22 }
set_option maxRecDepth 100000 in
theorem F_X12_stuck : hp_Fv RX12 yX12_stuck cX12_stuck 2 (some .int) 0 := ⟨hp_in (List.mem_append_right _ (List.mem_append_right _ (List.mem_append_right _ (List.mem_append_right _ (List.mem_append_right _ (List.mem_append_right _ (List.mem_append_right _ (List.mem_of_getElem? (i := 48) (by decide +kernel))))))))) rfl, hp_in (List.mem_append_right _ (List.mem_append_right _ (List.mem_append_right _ (List.mem_append_right _ (List.mem_append_right _ (List.mem_append_right _ (List.mem_append_right _ (List.mem_of_getElem? (i := 49) (by decide +kernel))))))))) rfl, hp_in (List.mem_append_right _ (List.mem_append_left _ (List.mem_of_getElem? (i := 13) (by decide +kernel)))) rfl, hp_in (List.mem_append_right _ (List.mem_append_right _ (List.mem_append_right _ (List.mem_append_right _ (List.mem_append_right _ (List.mem_append_right _ (List.mem_append_right _ (List.mem_of_getElem? (i := 50) rfl)))))))) rfl, by decide +kernel, by decide +kernel, by decide +kernel⟩
abbrev rm_X12_stuck : Room := { frames := 2, cells := 0, slots := 0, locals := 45 }
set_option maxRecDepth 100000 in
theorem F_X12_fault_ : hp_Fv RX12 yX12_fault_ cX12_fault_ 2 (some .int) 1 := ⟨hp_in (List.mem_append_right _ (List.mem_append_right _ (List.mem_append_right _ (List.mem_append_right _ (List.mem_append_right _ (List.mem_append_right _ (List.mem_append_right _ (List.mem_of_getElem? (i := 56) (by decide +kernel))))))))) rfl, hp_in (List.mem_append_right _ (List.mem_append_right _ (List.mem_append_right _ (List.mem_append_right _ (List.mem_append_right _ (List.mem_append_right _ (List.mem_append_right _ (List.mem_of_getElem? (i := 57) (by decide +kernel))))))))) rfl, hp_in (List.mem_append_right _ (List.mem_append_left _ (List.mem_of_getElem? (i := 13) (by decide +kernel)))) rfl, hp_in (List.mem_append_right _ (List.mem_append_right _ (List.mem_append_right _ (List.mem_append_right _ (List.mem_append_right _ (List.mem_append_right _ (List.mem_append_right _ (List.mem_of_getElem? (i := 58) rfl)))))))) rfl, by decide +kernel, by decide +kernel, by decide +kernel⟩
abbrev rm_X12_fault_ : Room := { frames := 1, cells := 0, slots := 0, locals := 22 }
set_option maxRecDepth 100000 in
theorem F_X12_always : hp_Fv RX12 yX12_always cX12_always 3 (some .int) 1 := ⟨hp_in (List.mem_append_right _ (List.mem_append_right _ (List.mem_append_right _ (List.mem_append_right _ (List.mem_append_right _ (List.mem_append_right _ (List.mem_append_right _ (List.mem_of_getElem? (i := 60) (by decide +kernel))))))))) rfl, hp_in (List.mem_append_right _ (List.mem_append_right _ (List.mem_append_right _ (List.mem_append_right _ (List.mem_append_right _ (List.mem_append_right _ (List.mem_append_right _ (List.mem_of_getElem? (i := 61) (by decide +kernel))))))))) rfl, hp_in (List.mem_append_right _ (List.mem_append_left _ (List.mem_of_getElem? (i := 13) (by decide +kernel)))) rfl, hp_in (List.mem_append_right _ (List.mem_append_right _ (List.mem_append_right _ (List.mem_append_right _ (List.mem_append_right _ (List.mem_append_right _ (List.mem_append_right _ (List.mem_of_getElem? (i := 62) rfl)))))))) rfl, by decide +kernel, by decide +kernel, by decide +kernel⟩
abbrev rm_X12_always : Room := { frames := 3, cells := 0, slots := 0, locals := 74 }
set_option maxRecDepth 100000 in
theorem F_X12_goAhead : hp_Fv RX12 yX12_goAhead cX12_goAhead 6 none 2 := ⟨hp_in (List.mem_append_right _ (List.mem_append_right _ (List.mem_append_right _ (List.mem_append_right _ (List.mem_append_right _ (List.mem_append_right _ (List.mem_append_right _ (List.mem_of_getElem? (i := 77) (by decide +kernel))))))))) rfl, hp_in (List.mem_append_left _ (List.mem_of_getElem? (i := 64) (by decide +kernel))) rfl, hp_in (List.mem_append_right _ (List.mem_append_left _ (List.mem_of_getElem? (i := 13) (by decide +kernel)))) rfl, hp_in (List.mem_append_right _ (List.mem_append_right _ (List.mem_append_right _ (List.mem_append_right _ (List.mem_append_right _ (List.mem_append_right _ (List.mem_append_right _ (List.mem_of_getElem? (i := 78) rfl)))))))) rfl, by decide +kernel, by decide +kernel, by decide +kernel⟩
abbrev rm_X12_goAhead : Room := { frames := 0, cells := 0, slots := 0, locals := 0 }
set_option maxRecDepth 100000 in
theorem F_X12_goBack : hp_Fv RX12 yX12_goBack cX12_goBack 6 none 2 := ⟨hp_in (List.mem_append_right _ (List.mem_append_right _ (List.mem_append_right _ (List.mem_append_right _ (List.mem_append_right _ (List.mem_append_right _ (List.mem_append_right _ (List.mem_of_getElem? (i := 81) (by decide +kernel))))))))) rfl, hp_in (List.mem_append_left _ (List.mem_of_getElem? (i := 65) (by decide +kernel))) rfl, hp_in (List.mem_append_right _ (List.mem_append_left _ (List.mem_of_getElem? (i := 13) (by decide +kernel)))) rfl, hp_in (List.mem_append_right _ (List.mem_append_right _ (List.mem_append_right _ (List.mem_append_right _ (List.mem_append_right _ (List.mem_append_right _ (List.mem_append_right _ (List.mem_of_getElem? (i := 82) rfl)))))))) rfl, by decide +kernel, by decide +kernel, by decide +kernel⟩
abbrev rm_X12_goBack : Room := { frames := 0, cells := 0, slots := 0, locals := 0 }
set_option maxRecDepth 100000 in
theorem F_X12_hasTurn : hp_Fv RX12 yX12_hasTurn cX12_hasTurn 7 (some .boolean) 2 := ⟨hp_in (List.mem_append_right _ (List.mem_append_right _ (List.mem_append_right _ (List.mem_append_right _ (List.mem_append_right _ (List.mem_append_right _ (List.mem_append_right _ (List.mem_of_getElem? (i := 93) (by decide +kernel))))))))) rfl, hp_in (List.mem_append_left _ (List.mem_of_getElem? (i := 68) (by decide +kernel))) rfl, hp_in (List.mem_append_right _ (List.mem_append_left _ (List.mem_of_getElem? (i := 13) (by decide +kernel)))) rfl, hp_in (List.mem_append_right _ (List.mem_append_right _ (List.mem_append_right _ (List.mem_append_right _ (List.mem_append_right _ (List.mem_append_right _ (List.mem_append_right _ (List.mem_of_getElem? (i := 94) rfl)))))))) rfl, by decide +kernel, by decide +kernel, by decide +kernel⟩
abbrev rm_X12_hasTurn : Room := { frames := 0, cells := 0, slots := 0, locals := 0 }
set_option maxRecDepth 100000 in
theorem F_X12_isFair : hp_Fv RX12 yX12_isFair cX12_isFair 3 (some .boolean) 0 := ⟨hp_in (List.mem_append_right _ (List.mem_append_right _ (List.mem_append_right _ (List.mem_append_right _ (List.mem_append_right _ (List.mem_append_right _ (List.mem_append_right _ (List.mem_of_getElem? (i := 89) (by decide +kernel))))))))) rfl, hp_in (List.mem_append_left _ (List.mem_of_getElem? (i := 67) (by decide +kernel))) rfl, hp_in (List.mem_append_right _ (List.mem_append_left _ (List.mem_of_getElem? (i := 13) (by decide +kernel)))) rfl, hp_in (List.mem_append_right _ (List.mem_append_right _ (List.mem_append_right _ (List.mem_append_right _ (List.mem_append_right _ (List.mem_append_right _ (List.mem_append_right _ (List.mem_of_getElem? (i := 90) rfl)))))))) rfl, by decide +kernel, by decide +kernel, by decide +kernel⟩
abbrev rm_X12_isFair : Room := { frames := 1, cells := 0, slots := 0, locals := 26 }
set_option maxRecDepth 100000 in
theorem F_X12_hasMove : hp_Fv RX12 yX12_hasMove cX12_hasMove 3 (some .boolean) 0 := ⟨hp_in (List.mem_append_right _ (List.mem_append_right _ (List.mem_append_right _ (List.mem_append_right _ (List.mem_append_right _ (List.mem_append_right _ (List.mem_append_right _ (List.mem_of_getElem? (i := 85) (by decide +kernel))))))))) rfl, hp_in (List.mem_append_left _ (List.mem_of_getElem? (i := 66) (by decide +kernel))) rfl, hp_in (List.mem_append_right _ (List.mem_append_left _ (List.mem_of_getElem? (i := 13) (by decide +kernel)))) rfl, hp_in (List.mem_append_right _ (List.mem_append_right _ (List.mem_append_right _ (List.mem_append_right _ (List.mem_append_right _ (List.mem_append_right _ (List.mem_append_right _ (List.mem_of_getElem? (i := 86) rfl)))))))) rfl, by decide +kernel, by decide +kernel, by decide +kernel⟩
abbrev rm_X12_hasMove : Room := { frames := 0, cells := 0, slots := 0, locals := 0 }
set_option maxRecDepth 100000 in
theorem F_X12_findKnots : hp_Fv RX12 yX12_findKnots cX12_findKnots 5 none 1 := ⟨hp_in (List.mem_append_right _ (List.mem_append_right _ (List.mem_append_right _ (List.mem_append_right _ (List.mem_append_right _ (List.mem_append_right _ (List.mem_append_right _ (List.mem_of_getElem? (i := 73) (by decide +kernel))))))))) rfl, hp_in (List.mem_append_left _ (List.mem_of_getElem? (i := 63) (by decide +kernel))) rfl, hp_in (List.mem_append_right _ (List.mem_append_left _ (List.mem_of_getElem? (i := 13) (by decide +kernel)))) rfl, hp_in (List.mem_append_right _ (List.mem_append_right _ (List.mem_append_right _ (List.mem_append_right _ (List.mem_append_right _ (List.mem_append_right _ (List.mem_append_right _ (List.mem_of_getElem? (i := 74) rfl)))))))) rfl, by decide +kernel, by decide +kernel, by decide +kernel⟩
abbrev rm_X12_findKnots : Room := { frames := 2, cells := 0, slots := 0, locals := 48 }
set_option maxRecDepth 100000 in
theorem F_X12_takeWhereNot : hp_Fv RX12 yX12_takeWhereNot cX12_takeWhereNot 3 none 1 := ⟨hp_in (List.mem_append_right _ (List.mem_append_right _ (List.mem_append_right _ (List.mem_append_right _ (List.mem_append_right _ (List.mem_append_right _ (List.mem_append_right _ (List.mem_of_getElem? (i := 69) (by decide +kernel))))))))) rfl, hp_in (List.mem_append_left _ (List.mem_of_getElem? (i := 62) (by decide +kernel))) rfl, hp_in (List.mem_append_right _ (List.mem_append_left _ (List.mem_of_getElem? (i := 13) (by decide +kernel)))) rfl, hp_in (List.mem_append_right _ (List.mem_append_right _ (List.mem_append_right _ (List.mem_append_right _ (List.mem_append_right _ (List.mem_append_right _ (List.mem_append_right _ (List.mem_of_getElem? (i := 70) rfl)))))))) rfl, by decide +kernel, by decide +kernel, by decide +kernel⟩
abbrev rm_X12_takeWhereNot : Room := { frames := 3, cells := 0, slots := 0, locals := 74 }
set_option maxRecDepth 100000 in
theorem F_X12_again : hp_Fv RX12 yX12_again cX12_again 4 (some .int) 2 := ⟨hp_in (List.mem_append_right _ (List.mem_append_right _ (List.mem_append_right _ (List.mem_append_right _ (List.mem_append_right _ (List.mem_append_right _ (List.mem_append_right _ (List.mem_of_getElem? (i := 64) (by decide +kernel))))))))) rfl, hp_in (List.mem_append_right _ (List.mem_append_right _ (List.mem_append_right _ (List.mem_append_right _ (List.mem_append_right _ (List.mem_append_right _ (List.mem_append_right _ (List.mem_of_getElem? (i := 65) (by decide +kernel))))))))) rfl, hp_in (List.mem_append_right _ (List.mem_append_left _ (List.mem_of_getElem? (i := 13) (by decide +kernel)))) rfl, hp_in (List.mem_append_right _ (List.mem_append_right _ (List.mem_append_right _ (List.mem_append_right _ (List.mem_append_right _ (List.mem_append_right _ (List.mem_append_right _ (List.mem_of_getElem? (i := 66) rfl)))))))) rfl, by decide +kernel, by decide +kernel, by decide +kernel⟩
abbrev rm_X12_again : Room := { frames := 4, cells := 0, slots := 0, locals := 96 }
set_option maxRecDepth 100000 in
theorem F_X12_fromTo : hp_Fv RX12 yX12_fromTo cX12_fromTo 6 (some .int) 3 := ⟨hp_in (List.mem_append_right _ (List.mem_append_right _ (List.mem_append_right _ (List.mem_append_right _ (List.mem_append_right _ (List.mem_append_right _ (List.mem_append_right _ (List.mem_of_getElem? (i := 96) (by decide +kernel))))))))) rfl, hp_in (List.mem_append_right _ (List.mem_append_right _ (List.mem_append_right _ (List.mem_append_right _ (List.mem_append_right _ (List.mem_append_right _ (List.mem_append_right _ (List.mem_of_getElem? (i := 97) (by decide +kernel))))))))) rfl, hp_in (List.mem_append_right _ (List.mem_append_left _ (List.mem_of_getElem? (i := 13) (by decide +kernel)))) rfl, hp_in (List.mem_append_right _ (List.mem_append_right _ (List.mem_append_right _ (List.mem_append_right _ (List.mem_append_right _ (List.mem_append_right _ (List.mem_append_right _ (List.mem_of_getElem? (i := 98) rfl)))))))) rfl, by decide +kernel, by decide +kernel, by decide +kernel⟩
abbrev rm_X12_fromTo : Room := { frames := 4, cells := 0, slots := 0, locals := 96 }
set_option maxRecDepth 100000 in
theorem F_X12_observe : hp_Fv RX12 yX12_observe cX12_observe 3 (some .int) 1 := ⟨hp_in (List.mem_append_right _ (List.mem_append_right _ (List.mem_append_right _ (List.mem_append_right _ (List.mem_append_right _ (List.mem_append_right _ (List.mem_append_right _ (List.mem_of_getElem? (i := 100) (by decide +kernel))))))))) rfl, hp_in (List.mem_append_right _ (List.mem_append_right _ (List.mem_append_right _ (List.mem_append_right _ (List.mem_append_right _ (List.mem_append_right _ (List.mem_append_right _ (List.mem_of_getElem? (i := 101) (by decide +kernel))))))))) rfl, hp_in (List.mem_append_right _ (List.mem_append_left _ (List.mem_of_getElem? (i := 13) (by decide +kernel)))) rfl, hp_in (List.mem_append_right _ (List.mem_append_right _ (List.mem_append_right _ (List.mem_append_right _ (List.mem_append_right _ (List.mem_append_right _ (List.mem_append_right _ (List.mem_of_getElem? (i := 102) rfl)))))))) rfl, by decide +kernel, by decide +kernel, by decide +kernel⟩
abbrev rm_X12_observe : Room := { frames := 2, cells := 0, slots := 0, locals := 43 }
set_option maxRecDepth 100000 in
theorem F_X12_isSeenAlike : hp_Fv RX12 yX12_isSeenAlike cX12_isSeenAlike 5 (some .boolean) 2 := ⟨hp_in (List.mem_append_right _ (List.mem_append_right _ (List.mem_append_right _ (List.mem_append_right _ (List.mem_append_right _ (List.mem_append_right _ (List.mem_append_right _ (List.mem_of_getElem? (i := 113) (by decide +kernel))))))))) rfl, hp_in (List.mem_append_left _ (List.mem_of_getElem? (i := 70) (by decide +kernel))) rfl, hp_in (List.mem_append_right _ (List.mem_append_left _ (List.mem_of_getElem? (i := 13) (by decide +kernel)))) rfl, hp_in (List.mem_append_right _ (List.mem_append_right _ (List.mem_append_right _ (List.mem_append_right _ (List.mem_append_right _ (List.mem_append_right _ (List.mem_append_right _ (List.mem_of_getElem? (i := 114) rfl)))))))) rfl, by decide +kernel, by decide +kernel, by decide +kernel⟩
abbrev rm_X12_isSeenAlike : Room := { frames := 0, cells := 0, slots := 0, locals := 0 }
set_option maxRecDepth 100000 in
theorem F_X12_findSigns : hp_Fv RX12 yX12_findSigns cX12_findSigns 4 none 0 := ⟨hp_in (List.mem_append_right _ (List.mem_append_right _ (List.mem_append_right _ (List.mem_append_right _ (List.mem_append_right _ (List.mem_append_right _ (List.mem_append_right _ (List.mem_of_getElem? (i := 117) (by decide +kernel))))))))) rfl, hp_in (List.mem_append_left _ (List.mem_of_getElem? (i := 71) (by decide +kernel))) rfl, hp_in (List.mem_append_right _ (List.mem_append_left _ (List.mem_of_getElem? (i := 13) (by decide +kernel)))) rfl, hp_in (List.mem_append_right _ (List.mem_append_right _ (List.mem_append_right _ (List.mem_append_right _ (List.mem_append_right _ (List.mem_append_right _ (List.mem_append_right _ (List.mem_of_getElem? (i := 118) rfl)))))))) rfl, by decide +kernel, by decide +kernel, by decide +kernel⟩
abbrev rm_X12_findSigns : Room := { frames := 0, cells := 0, slots := 0, locals := 0 }
set_option maxRecDepth 100000 in
theorem F_X12_hasSameSigns : hp_Fv RX12 yX12_hasSameSigns cX12_hasSameSigns 5 (some .boolean) 2 := ⟨hp_in (List.mem_append_right _ (List.mem_append_right _ (List.mem_append_right _ (List.mem_append_right _ (List.mem_append_right _ (List.mem_append_right _ (List.mem_append_right _ (List.mem_of_getElem? (i := 121) (by decide +kernel))))))))) rfl, hp_in (List.mem_append_left _ (List.mem_of_getElem? (i := 72) (by decide +kernel))) rfl, hp_in (List.mem_append_right _ (List.mem_append_left _ (List.mem_of_getElem? (i := 13) (by decide +kernel)))) rfl, hp_in (List.mem_append_right _ (List.mem_append_right _ (List.mem_append_right _ (List.mem_append_right _ (List.mem_append_right _ (List.mem_append_right _ (List.mem_append_right _ (List.mem_of_getElem? (i := 122) rfl)))))))) rfl, by decide +kernel, by decide +kernel, by decide +kernel⟩
abbrev rm_X12_hasSameSigns : Room := { frames := 0, cells := 0, slots := 0, locals := 0 }
set_option maxRecDepth 100000 in
theorem F_X12_divide : hp_Fv RX12 yX12_divide cX12_divide 5 (some .int) 0 := ⟨hp_in (List.mem_append_right _ (List.mem_append_right _ (List.mem_append_right _ (List.mem_append_right _ (List.mem_append_right _ (List.mem_append_right _ (List.mem_append_right _ (List.mem_of_getElem? (i := 109) (by decide +kernel))))))))) rfl, hp_in (List.mem_append_left _ (List.mem_of_getElem? (i := 69) (by decide +kernel))) rfl, hp_in (List.mem_append_right _ (List.mem_append_left _ (List.mem_of_getElem? (i := 13) (by decide +kernel)))) rfl, hp_in (List.mem_append_right _ (List.mem_append_right _ (List.mem_append_right _ (List.mem_append_right _ (List.mem_append_right _ (List.mem_append_right _ (List.mem_append_right _ (List.mem_of_getElem? (i := 110) rfl)))))))) rfl, by decide +kernel, by decide +kernel, by decide +kernel⟩
abbrev rm_X12_divide : Room := { frames := 3, cells := 0, slots := 0, locals := 74 }
set_option maxRecDepth 100000 in
theorem F_X12_classes : hp_Fv RX12 yX12_classes cX12_classes 1 (some .int) 0 := ⟨hp_in (List.mem_append_right _ (List.mem_append_right _ (List.mem_append_right _ (List.mem_append_right _ (List.mem_append_right _ (List.mem_append_right _ (List.mem_append_right _ (List.mem_of_getElem? (i := 104) (by decide +kernel))))))))) rfl, hp_in (List.mem_append_right _ (List.mem_append_right _ (List.mem_append_right _ (List.mem_append_right _ (List.mem_append_right _ (List.mem_append_right _ (List.mem_append_right _ (List.mem_of_getElem? (i := 105) (by decide +kernel))))))))) rfl, hp_in (List.mem_append_right _ (List.mem_append_left _ (List.mem_of_getElem? (i := 13) (by decide +kernel)))) rfl, hp_in (List.mem_append_right _ (List.mem_append_right _ (List.mem_append_right _ (List.mem_append_right _ (List.mem_append_right _ (List.mem_append_right _ (List.mem_append_right _ (List.mem_of_getElem? (i := 106) rfl)))))))) rfl, by decide +kernel, by decide +kernel, by decide +kernel⟩
abbrev rm_X12_classes : Room := { frames := 4, cells := 0, slots := 0, locals := 98 }
set_option maxRecDepth 100000 in
theorem F_X12_classOf : hp_Fv RX12 yX12_classOf cX12_classOf 3 (some .int) 1 := ⟨hp_in (List.mem_append_right _ (List.mem_append_right _ (List.mem_append_right _ (List.mem_append_right _ (List.mem_append_right _ (List.mem_append_right _ (List.mem_append_right _ (List.mem_of_getElem? (i := 124) (by decide +kernel))))))))) rfl, hp_in (List.mem_append_right _ (List.mem_append_right _ (List.mem_append_right _ (List.mem_append_right _ (List.mem_append_right _ (List.mem_append_right _ (List.mem_append_right _ (List.mem_of_getElem? (i := 125) (by decide +kernel))))))))) rfl, hp_in (List.mem_append_right _ (List.mem_append_left _ (List.mem_of_getElem? (i := 13) (by decide +kernel)))) rfl, hp_in (List.mem_append_right _ (List.mem_append_right _ (List.mem_append_right _ (List.mem_append_right _ (List.mem_append_right _ (List.mem_append_right _ (List.mem_append_right _ (List.mem_of_getElem? (i := 126) rfl)))))))) rfl, by decide +kernel, by decide +kernel, by decide +kernel⟩
abbrev rm_X12_classOf : Room := { frames := 4, cells := 0, slots := 0, locals := 98 }
set_option maxRecDepth 100000 in
theorem F_X12_count : hp_Fv RX12 yX12_count cX12_count 2 (some .int) 1 := ⟨hp_in (List.mem_append_right _ (List.mem_append_right _ (List.mem_append_right _ (List.mem_append_right _ (List.mem_append_right _ (List.mem_append_right _ (List.mem_append_right _ (List.mem_of_getElem? (i := 128) (by decide +kernel))))))))) rfl, hp_in (List.mem_append_right _ (List.mem_append_right _ (List.mem_append_right _ (List.mem_append_right _ (List.mem_append_right _ (List.mem_append_right _ (List.mem_append_right _ (List.mem_of_getElem? (i := 129) (by decide +kernel))))))))) rfl, hp_in (List.mem_append_right _ (List.mem_append_left _ (List.mem_of_getElem? (i := 13) (by decide +kernel)))) rfl, hp_in (List.mem_append_right _ (List.mem_append_right _ (List.mem_append_right _ (List.mem_append_right _ (List.mem_append_right _ (List.mem_append_right _ (List.mem_append_right _ (List.mem_of_getElem? (i := 130) rfl)))))))) rfl, by decide +kernel, by decide +kernel, by decide +kernel⟩
abbrev rm_X12_count : Room := { frames := 0, cells := 0, slots := 0, locals := 0 }
end
section
set_option maxRecDepth 100000 in
def q_X0_observes (h : hp_H) (a1 : Int32) (Q : Int32 → Prop) : Prop :=
  hp_lp1 (fun v2 B1 =>
    ((h 64 0) ≤ v2 →
      Q (nI 0)) ∧ (¬ (h 64 0) ≤ v2 →
      vp_in v2 8 ∧
      ((h 66 v2.toNatClampNeg) = a1 →
        Q (nI 1)) ∧ (¬ (h 66 v2.toNatClampNeg) = a1 →
        ∀ v5 : Int32, v5 = v2 + (nI 1) →
        B1 v5))) (nI 0)
set_option maxRecDepth 100000 in
def q_X0_addObserved (h : hp_H) (a1 : Int32) (Q : Int32 → hp_H → Prop) : Prop :=
  ∀ v1 : Int32, v1 = (h 64 0) →
  ∀ h2 : hp_H, h2 = hp_up h 64 0 (v1 + (nI 1)) →
  vp_in v1 8 ∧
  ∀ h3 : hp_H, h3 = hp_up h2 66 v1.toNatClampNeg a1 →
  ∀ h4 : hp_H, h4 = hp_up h3 64 11 (nI 0) →
  Q (h4 64 0) h4
set_option maxRecDepth 100000 in
def q_X0_forget (h : hp_H) (Q : hp_H → Prop) : Prop :=
  ∀ h1 : hp_H, h1 = hp_up h 64 11 (nI 0) →
  Q h1
set_option maxRecDepth 100000 in
def q_J7_fill_53178 (x0 nx0 : Nat) (h : hp_H) (a1 : Int32) (Q : hp_H → Prop) : Prop :=
  ∀ v1 : Int32, v1 = (nI nx0) →
  hp_lp1h (fun v3 h4 B2 =>
    (v1 ≤ v3 →
      Q h4) ∧ (¬ v1 ≤ v3 →
      vp_in v3 nx0 ∧
      ∀ h6 : hp_H, h6 = hp_up h4 x0 v3.toNatClampNeg a1 →
      ∀ v7 : Int32, v7 = v3 + (nI 1) →
      B2 v7 h6)) (nI 0) h
set_option maxRecDepth 100000 in
def q_X1_dropUse (h : hp_H) (a1 : Int32) (Q : hp_H → Prop) : Prop :=
  hp_lp1h (fun v2 h3 B1 =>
    ((h3 15 1) ≤ v2 →
      Q h3) ∧ (¬ (h3 15 1) ≤ v2 →
      vp_in v2 80 ∧
      vp_in v2 80 ∧
      ∀ h5 : hp_H, h5 = hp_up h3 21 v2.toNatClampNeg ((h3 21 v2.toNatClampNeg) &&& (a1 ^^^ (-1))) →
      ∀ v6 : Int32, v6 = v2 + (nI 1) →
      B1 v6 h5)) (nI 0) h
set_option maxRecDepth 100000 in
def q_X5_askNothing (h : hp_H) (Q : hp_H → Prop) : Prop :=
  q_X1_dropUse h (nI 8) (fun h1 =>
  Q h1)
set_option maxRecDepth 100000 in
def q_X1_addUse (h : hp_H) (a1 a2 : Int32) (Q : hp_H → Prop) : Prop :=
  vp_in a1 80 ∧
  vp_in a1 80 ∧
  ∀ h1 : hp_H, h1 = hp_up h 21 a1.toNatClampNeg ((h 21 a1.toNatClampNeg) ||| a2) →
  Q h1
set_option maxRecDepth 100000 in
def q_X1_isMade (a0 : Int32) (Q : Int32 → Prop) : Prop :=
  (a0 < (nI 7) →
    Q (nI 0)) ∧ (¬ a0 < (nI 7) →
    Q (nI 1))
set_option maxRecDepth 100000 in
def q_X1_isMadeOfTwo (a0 : Int32) (Q : Int32 → Prop) : Prop :=
  (a0 < (nI 7) →
    Q (nI 0)) ∧ (¬ a0 < (nI 7) →
    ((nI 14) ≤ a0 →
      Q (nI 0)) ∧ (¬ (nI 14) ≤ a0 →
      Q (nI 1)))
set_option maxRecDepth 100000 in
def q_X1_spreadUses (h : hp_H) (Q : hp_H → Prop) : Prop :=
  ∀ v1 : Int32, v1 = ((h 15 1) - (nI 1)) →
  hp_lp1h (fun v3 h4 B2 =>
    (v3 < 0 →
      Q h4) ∧ (¬ v3 < 0 →
      vp_in v3 80 ∧
      q_X1_isMade (h4 17 v3.toNatClampNeg) (fun r6 =>
      hp_jn0h (fun K8 =>
        (r6 = 0 →
          K8 h4) ∧ (¬ r6 = 0 →
          vp_in v3 80 ∧
          vp_in (h4 18 v3.toNatClampNeg) 80 ∧
          vp_in v3 80 ∧
          vp_in (h4 18 v3.toNatClampNeg) 80 ∧
          ∀ h10 : hp_H, h10 = hp_up h4 21 (h4 18 v3.toNatClampNeg).toNatClampNeg ((h4 21 (h4 18 v3.toNatClampNeg).toNatClampNeg) ||| (h4 21 v3.toNatClampNeg)) →
          K8 h10)) (fun h9 =>
        vp_in v3 80 ∧
        q_X1_isMadeOfTwo (h9 17 v3.toNatClampNeg) (fun r11 =>
        hp_jn0h (fun K13 =>
          (r11 = 0 →
            K13 h9) ∧ (¬ r11 = 0 →
            vp_in v3 80 ∧
            vp_in (h9 19 v3.toNatClampNeg) 80 ∧
            vp_in v3 80 ∧
            vp_in (h9 19 v3.toNatClampNeg) 80 ∧
            ∀ h15 : hp_H, h15 = hp_up h9 21 (h9 19 v3.toNatClampNeg).toNatClampNeg ((h9 21 (h9 19 v3.toNatClampNeg).toNatClampNeg) ||| (h9 21 v3.toNatClampNeg)) →
            K13 h15)) (fun h14 =>
          ∀ v16 : Int32, v16 = v3 + (-1) →
          B2 v16 h14)))))) v1 h
set_option maxRecDepth 100000 in
def q_X5_askToo (h : hp_H) (a1 : Int32) (Q : hp_H → Prop) : Prop :=
  q_X1_addUse h a1 (nI 8) (fun h1 =>
  q_X1_spreadUses h1 (fun h2 =>
  Q h2))
set_option maxRecDepth 100000 in
def q_X2_load (w_2 : Nat) (h : hp_H) (a1 : Int32) (Q : hp_H → Prop) : Prop :=
  (¬ (a1 * (nI 13)) < 0 ∧ ¬ (nI 0) < 0 ∧ ¬ (nI 13) < 0 ∧ (a1 * (nI 13)).toNatClampNeg + (nI 13).toNatClampNeg ≤ 5200 ∧ (nI 0).toNatClampNeg + (nI 13).toNatClampNeg ≤ 13) ∧
  ∀ h1 : hp_H, h1 = hp_cp h 42 w_2 (a1 * (nI 13)).toNatClampNeg (nI 0).toNatClampNeg (nI 13).toNatClampNeg →
  Q h1
set_option maxRecDepth 100000 in
def q_X5_rowOf (h : hp_H) (a1 : Int32) (Q : hp_H → Prop) : Prop :=
  q_X2_load 52 h a1 (fun h1 =>
  Q h1)
set_option maxRecDepth 100000 in
def q_X1_ofParts (a0 a1 a2 : Int32) (Q : Int32 → Prop) : Prop :=
  ((a0 = (nI 7)) →
    Q (a1 + a2))
  ∧ ((a0 = (nI 8)) →
    Q (a1 - a2))
  ∧ ((a0 = (nI 9)) →
    Q (a1 * a2))
  ∧ ((a0 = (nI 10)) →
    (a1 = a2 →
      Q (nI 1)) ∧ (¬ a1 = a2 →
      Q (nI 0)))
  ∧ ((a0 = (nI 11)) →
    (a2 ≤ a1 →
      Q (nI 0)) ∧ (¬ a2 ≤ a1 →
      Q (nI 1)))
  ∧ ((a0 = (nI 12)) →
    (a1 = 0 →
      Q (nI 0)) ∧ (¬ a1 = 0 →
      (a2 = 0 →
        Q (nI 0)) ∧ (¬ a2 = 0 →
        Q (nI 1))))
  ∧ ((a0 = (nI 13)) →
    (a1 = 0 →
      (a2 = 0 →
        Q (nI 0)) ∧ (¬ a2 = 0 →
        Q (nI 1))) ∧ (¬ a1 = 0 →
      Q (nI 1)))
  ∧ ((¬ a0 = (nI 7) ∧ ¬ a0 = (nI 8) ∧ ¬ a0 = (nI 9) ∧ ¬ a0 = (nI 10) ∧ ¬ a0 = (nI 11) ∧ ¬ a0 = (nI 12) ∧ ¬ a0 = (nI 13)) →
    (a1 = 0 →
      Q (nI 1)) ∧ (¬ a1 = 0 →
      Q (nI 0)))
set_option maxRecDepth 100000 in
def q_X7_sharedValue (w : Nat) (h : hp_H) (a1 : Int32) (Q : Int32 → Prop) : Prop :=
  vp_in (nI 0) 13 ∧
  Q ((hp_ushr (h w (nI 0).toNatClampNeg) ((nI 4) * a1)) &&& (nI 15))
set_option maxRecDepth 100000 in
def q_X7_ownValue (w : Nat) (h : hp_H) (a1 a2 a3 : Int32) (Q : Int32 → Prop) : Prop :=
  ∀ v1 : Int32, v1 = ((nI 8) - ((nI 4) * a3)) →
  vp_in (((nI 1) + (a1 * (nI 3))) + a2) 13 ∧
  Q ((hp_ushr (h w (((nI 1) + (a1 * (nI 3))) + a2).toNatClampNeg) v1) &&& (nI 15))
set_option maxRecDepth 100000 in
def q_X7_howManyAt (w : Nat) (h : hp_H) (a1 a2 a3 : Int32) (Q : Int32 → Prop) : Prop :=
  ∀ v1 : Int32, v1 = ((nI 1) + (a1 * (nI 3))) →
  hp_lp2 (fun v3 v4 B2 =>
    ((v1 + a2) ≤ v4 →
      Q v3) ∧ (¬ (v1 + a2) ≤ v4 →
      vp_in v4 13 ∧
      hp_jn1 (fun K7 =>
        ((hp_ushr (h w v4.toNatClampNeg) (nI 12)) = a3 →
          ∀ v9 : Int32, v9 = v3 + (nI 1) →
          K7 v9) ∧ (¬ (hp_ushr (h w v4.toNatClampNeg) (nI 12)) = a3 →
          K7 v3)) (fun v8 =>
        ∀ v10 : Int32, v10 = v4 + (nI 1) →
        B2 v8 v10))) (nI 0) v1
set_option maxRecDepth 100000 in
def q_X7_held (w : Nat) (h : hp_H) (a1 : Int32) (Q : Int32 → Prop) : Prop :=
  vp_in ((nI 10) + a1) 13 ∧
  Q (hp_ushr (h w ((nI 10) + a1).toNatClampNeg) (nI 12))
set_option maxRecDepth 100000 in
def q_X1_ofRow (w_2 : Nat) (h : hp_H) (a1 a3 a4 : Int32) (Q : Int32 → Prop) : Prop :=
  vp_in a1 80 ∧
  ∀ v1 : Int32, v1 = (h 17 a1.toNatClampNeg) →
  ((v1 = (nI 0)) →
    vp_in a1 80 ∧
    Q (h 18 a1.toNatClampNeg))
  ∧ ((v1 = (nI 1)) →
    vp_in a1 80 ∧
    q_X7_sharedValue w_2 h (h 18 a1.toNatClampNeg) (fun r2 =>
    Q r2))
  ∧ ((v1 = (nI 2)) →
    vp_in a1 80 ∧
    q_X7_ownValue w_2 h a3 a4 (h 18 a1.toNatClampNeg) (fun r3 =>
    Q r3))
  ∧ ((v1 = (nI 3)) →
    Q a4)
  ∧ ((v1 = (nI 4)) →
    vp_in a1 80 ∧
    vp_in a1 80 ∧
    vp_in (h 18 a1.toNatClampNeg) 3 ∧
    vp_in a1 80 ∧
    q_X7_howManyAt w_2 h (h 18 a1.toNatClampNeg) (h 13 (h 18 a1.toNatClampNeg).toNatClampNeg) (h 19 a1.toNatClampNeg) (fun r4 =>
    Q r4))
  ∧ ((v1 = (nI 5)) →
    vp_in a1 80 ∧
    q_X7_held w_2 h (h 18 a1.toNatClampNeg) (fun r5 =>
    Q r5))
  ∧ ((¬ v1 = (nI 0) ∧ ¬ v1 = (nI 1) ∧ ¬ v1 = (nI 2) ∧ ¬ v1 = (nI 3) ∧ ¬ v1 = (nI 4) ∧ ¬ v1 = (nI 5)) →
    vp_in a1 80 ∧
    vp_in a1 80 ∧
    vp_in a1 80 ∧
    q_X7_ownValue w_2 h (h 18 a1.toNatClampNeg) (h 19 a1.toNatClampNeg) (h 20 a1.toNatClampNeg) (fun r6 =>
    Q r6))
set_option maxRecDepth 100000 in
def q_X1_reckon (w_1 : Nat) (h : hp_H) (a2 a3 a4 : Int32) (Q : hp_H → Prop) : Prop :=
  hp_lp1h (fun v2 h3 B1 =>
    ((h3 15 1) ≤ v2 →
      Q h3) ∧ (¬ (h3 15 1) ≤ v2 →
      vp_in v2 80 ∧
      hp_jn0h (fun K6 =>
        (((h3 21 v2.toNatClampNeg) &&& a4) = 0 →
          K6 h3) ∧ (¬ ((h3 21 v2.toNatClampNeg) &&& a4) = 0 →
          vp_in v2 80 ∧
          q_X1_isMade (h3 17 v2.toNatClampNeg) (fun r8 =>
          (r8 = 0 →
            q_X1_ofRow w_1 h3 v2 a2 a3 (fun r10 =>
            vp_in v2 80 ∧
            ∀ h11 : hp_H, h11 = hp_up h3 16 v2.toNatClampNeg r10 →
            K6 h11)) ∧ (¬ r8 = 0 →
            vp_in v2 80 ∧
            vp_in v2 80 ∧
            vp_in (h3 18 v2.toNatClampNeg) 80 ∧
            vp_in v2 80 ∧
            q_X1_isMadeOfTwo (h3 17 v2.toNatClampNeg) (fun r12 =>
            hp_jn1 (fun K14 =>
              (r12 = 0 →
                K14 (nI 0)) ∧ (¬ r12 = 0 →
                vp_in v2 80 ∧
                vp_in (h3 19 v2.toNatClampNeg) 80 ∧
                K14 (h3 16 (h3 19 v2.toNatClampNeg).toNatClampNeg))) (fun v15 =>
              q_X1_ofParts (h3 17 v2.toNatClampNeg) (h3 16 (h3 18 v2.toNatClampNeg).toNatClampNeg) v15 (fun r16 =>
              vp_in v2 80 ∧
              ∀ h17 : hp_H, h17 = hp_up h3 16 v2.toNatClampNeg r16 →
              K6 h17))))))) (fun h7 =>
        ∀ v18 : Int32, v18 = v2 + (nI 1) →
        B1 v18 h7))) (nI 0) h
set_option maxRecDepth 100000 in
def q_X5_lookAt (h : hp_H) (a1 : Int32) (Q : hp_H → Prop) : Prop :=
  q_X5_rowOf h a1 (fun h1 =>
  q_X1_reckon 52 h1 (nI 0) (nI 0) (nI 8) (fun h2 =>
  Q h2))
set_option maxRecDepth 100000 in
def q_X5_answer (h : hp_H) (a1 : Int32) (Q : Int32 → Prop) : Prop :=
  vp_in a1 80 ∧
  Q (h 16 a1.toNatClampNeg)
set_option maxRecDepth 100000 in
def q_X0_keyByObserved (h : hp_H) (Q : hp_H → Prop) : Prop :=
  q_X5_askNothing h (fun h1 =>
  hp_lp1h (fun v3 h4 B2 =>
    ((h4 64 0) ≤ v3 →
      hp_lp1h (fun v7 h8 B6 =>
        ((h8 35 2) ≤ v7 →
          Q h8) ∧ (¬ (h8 35 2) ≤ v7 →
          q_X5_lookAt h8 v7 (fun h10 =>
          hp_lp1h (fun v12 h13 B11 =>
            ((h13 64 0) ≤ v12 →
              ∀ v15 : Int32, v15 = v7 + (nI 1) →
              B6 v15 h13) ∧ (¬ (h13 64 0) ≤ v12 →
              vp_in v12 8 ∧
              q_X5_answer h13 (h13 66 v12.toNatClampNeg) (fun r16 =>
              vp_in ((v7 * (nI 13)) + v12) 5200 ∧
              ∀ h17 : hp_H, h17 = hp_up h13 67 ((v7 * (nI 13)) + v12).toNatClampNeg r16 →
              ∀ v18 : Int32, v18 = v12 + (nI 1) →
              B11 v18 h17))) (nI 0) h10))) (nI 0) h4) ∧ (¬ (h4 64 0) ≤ v3 →
      vp_in v3 8 ∧
      q_X5_askToo h4 (h4 66 v3.toNatClampNeg) (fun h19 =>
      ∀ v20 : Int32, v20 = v3 + (nI 1) →
      B2 v20 h19))) (nI 0) h1)
set_option maxRecDepth 100000 in
def q_X0_haveSameKeys (h : hp_H) (a1 a2 a3 : Int32) (Q : Int32 → Prop) : Prop :=
  hp_lp1 (fun v2 B1 =>
    (a3 ≤ v2 →
      Q (nI 1)) ∧ (¬ a3 ≤ v2 →
      vp_in ((a1 * (nI 13)) + v2) 5200 ∧
      vp_in ((a2 * (nI 13)) + v2) 5200 ∧
      ((h 67 ((a1 * (nI 13)) + v2).toNatClampNeg) = (h 67 ((a2 * (nI 13)) + v2).toNatClampNeg) →
        ∀ v5 : Int32, v5 = v2 + (nI 1) →
        B1 v5) ∧ (¬ (h 67 ((a1 * (nI 13)) + v2).toNatClampNeg) = (h 67 ((a2 * (nI 13)) + v2).toNatClampNeg) →
        Q (nI 0)))) (nI 0)
set_option maxRecDepth 100000 in
def q_X0_newPartLike (h : hp_H) (a1 a2 : Int32) (Q : Int32 → Prop) : Prop :=
  ∀ w1 : Nat, w1 = 65 + (h hp_V 0).toNatClampNeg → (w1 = 65 ∨ w1 = 68) ∧
  vp_in a1 400 ∧
  vp_in (h w1 a1.toNatClampNeg) 400 ∧
  ∀ v2 : Int32, v2 = (h 69 (h w1 a1.toNatClampNeg).toNatClampNeg) →
  hp_lp2 (fun v4 v5 B3 =>
    ((nI 400) ≤ v5 →
      Q (-1)) ∧ (¬ (nI 400) ≤ v5 →
      (v4 = (-1) →
        Q (-1)) ∧ (¬ v4 = (-1) →
        vp_in v4 400 ∧
        q_X0_haveSameKeys h a1 (h 71 v4.toNatClampNeg) a2 (fun r8 =>
        (r8 = 0 →
          vp_in v4 400 ∧
          ∀ v10 : Int32, v10 = (h 70 v4.toNatClampNeg) →
          ∀ v11 : Int32, v11 = v5 + (nI 1) →
          B3 v10 v11) ∧ (¬ r8 = 0 →
          Q v4))))) v2 (nI 0)
set_option maxRecDepth 100000 in
def q_X0_openPart (h : hp_H) (a1 : Int32) (Q : Int32 → hp_H → Prop) : Prop :=
  ∀ v1 : Int32, v1 = (h 64 1) →
  ∀ h2 : hp_H, h2 = hp_up h 64 1 (v1 + (nI 1)) →
  vp_in v1 400 ∧
  ∀ h3 : hp_H, h3 = hp_up h2 71 v1.toNatClampNeg a1 →
  ∀ w4 : Nat, w4 = 65 + (h3 hp_V 0).toNatClampNeg → (w4 = 65 ∨ w4 = 68) ∧
  vp_in a1 400 ∧
  vp_in (h3 w4 a1.toNatClampNeg) 400 ∧
  vp_in v1 400 ∧
  ∀ h5 : hp_H, h5 = hp_up h3 70 v1.toNatClampNeg (h3 69 (h3 w4 a1.toNatClampNeg).toNatClampNeg) →
  ∀ w6 : Nat, w6 = 65 + (h5 hp_V 0).toNatClampNeg → (w6 = 65 ∨ w6 = 68) ∧
  vp_in a1 400 ∧
  vp_in (h5 w6 a1.toNatClampNeg) 400 ∧
  ∀ h7 : hp_H, h7 = hp_up h5 69 (h5 w6 a1.toNatClampNeg).toNatClampNeg v1 →
  Q v1 h7
set_option maxRecDepth 100000 in
def q_X0_split (h : hp_H) (a1 : Int32) (Q : hp_H → Prop) : Prop :=
  q_J7_fill_53178 69 400 h (-1) (fun h1 =>
  ∀ h2 : hp_H, h2 = hp_up h1 64 1 (nI 0) →
  hp_lp1h (fun v4 h5 B3 =>
    ((h5 35 2) ≤ v4 →
      ∀ w7 : Nat, w7 = 65 + (h5 hp_V 0).toNatClampNeg → (w7 = 65 ∨ w7 = 68) ∧
      ∀ w8 : Nat, w8 = 65 + (h5 hp_V 1).toNatClampNeg → (w8 = 65 ∨ w8 = 68) ∧
      ∀ h9 : hp_H, h9 = hp_up h5 hp_V 0 (nI (w8 - 65)) →
      ∀ h10 : hp_H, h10 = hp_up h9 hp_V 1 (nI (w7 - 65)) →
      Q h10) ∧ (¬ (h5 35 2) ≤ v4 →
      q_X0_newPartLike h5 v4 a1 (fun r11 =>
      ∀ w12 : Nat, w12 = 65 + (h5 hp_V 1).toNatClampNeg → (w12 = 65 ∨ w12 = 68) ∧
      hp_jn1h (fun K14 =>
        (r11 = (-1) →
          q_X0_openPart h5 v4 (fun r17 h18 =>
          K14 r17 h18)) ∧ (¬ r11 = (-1) →
          K14 r11 h5)) (fun v15 h16 =>
        vp_in v4 400 ∧
        ∀ h19 : hp_H, h19 = hp_up h16 w12 v4.toNatClampNeg v15 →
        ∀ v20 : Int32, v20 = v4 + (nI 1) →
        B3 v20 h19)))) (nI 0) h2)
set_option maxRecDepth 100000 in
def q_J7_rangeCheck_23922 (a0 a1 a2 : Int32) (Q : Prop) : Prop :=
  (a1 ≤ a2 →
    (0 ≤ a1 →
      (a2 ≤ a0 →
        Q) ∧ (¬ a2 ≤ a0 →
        False)) ∧ (¬ 0 ≤ a1 →
      False)) ∧ (¬ a1 ≤ a2 →
    False)
set_option maxRecDepth 100000 in
def q_J7_fill_fda19 (x0 nx0 : Nat) (h : hp_H) (a1 a2 a3 : Int32) (Q : hp_H → Prop) : Prop :=
  q_J7_rangeCheck_23922 (nI nx0) a1 a2 (
  hp_lp1h (fun v2 h3 B1 =>
    (a2 ≤ v2 →
      Q h3) ∧ (¬ a2 ≤ v2 →
      vp_in v2 nx0 ∧
      ∀ h5 : hp_H, h5 = hp_up h3 x0 v2.toNatClampNeg a3 →
      ∀ v6 : Int32, v6 = v2 + (nI 1) →
      B1 v6 h5)) a1 h)
set_option maxRecDepth 100000 in
def q_X0_keyByMoves (h : hp_H) (a1 : Int32) (Q : hp_H → Prop) : Prop :=
  hp_lp1h (fun v2 h3 B1 =>
    ((h3 35 2) ≤ v2 →
      Q h3) ∧ (¬ (h3 35 2) ≤ v2 →
      ∀ v5 : Int32, v5 = (v2 * (nI 13)) →
      q_J7_fill_fda19 67 5200 h3 v5 (v5 + a1) (nI 0) (fun h6 =>
      vp_in v2 401 ∧
      ∀ v7 : Int32, v7 = (h6 36 v2.toNatClampNeg) →
      hp_lp1h (fun v9 h10 B8 =>
        vp_in (v2 + (nI 1)) 401 ∧
        ((h10 36 (v2 + (nI 1)).toNatClampNeg) ≤ v9 →
          ∀ v12 : Int32, v12 = v2 + (nI 1) →
          B1 v12 h10) ∧ (¬ (h10 36 (v2 + (nI 1)).toNatClampNeg) ≤ v9 →
          ∀ w13 : Nat, w13 = 65 + (h10 hp_V 0).toNatClampNeg → (w13 = 65 ∨ w13 = 68) ∧
          vp_in v9 6000 ∧
          vp_in (h10 37 v9.toNatClampNeg) 400 ∧
          ∀ v14 : Int32, v14 = (h10 w13 (h10 37 v9.toNatClampNeg).toNatClampNeg) →
          vp_in (v5 + (v14 / (nI 32))) 5200 ∧
          vp_in (v5 + (v14 / (nI 32))) 5200 ∧
          ∀ h15 : hp_H, h15 = hp_up h10 67 (v5 + (v14 / (nI 32))).toNatClampNeg ((h10 67 (v5 + (v14 / (nI 32))).toNatClampNeg) ||| (hp_shl (nI 1) (hp_rem v14 (nI 32)))) →
          ∀ v16 : Int32, v16 = v9 + (nI 1) →
          B8 v16 h15)) v7 h6))) (nI 0) h
set_option maxRecDepth 100000 in
def q_X0_makeSure (h : hp_H) (Q : hp_H → Prop) : Prop :=
  ((h 64 11) = 0 →
    ∀ w2 : Nat, w2 = 65 + (h hp_V 0).toNatClampNeg → (w2 = 65 ∨ w2 = 68) ∧
    q_J7_fill_53178 w2 400 h (nI 0) (fun h3 =>
    ∀ h4 : hp_H, h4 = hp_up h3 64 1 (nI 1) →
    q_X0_keyByObserved h4 (fun h5 =>
    q_X0_split h5 (h5 64 0) (fun h6 =>
    hp_lp2h (fun v8 v9 h10 B7 =>
      ((nI 400) < v9 →
        ∀ h12 : hp_H, h12 = hp_up h10 64 11 (nI 1) →
        Q h12) ∧ (¬ (nI 400) < v9 →
        (v8 = 0 →
          ∀ h14 : hp_H, h14 = hp_up h10 64 11 (nI 1) →
          Q h14) ∧ (¬ v8 = 0 →
          ∀ v15 : Int32, v15 = (h10 64 1) →
          ∀ v16 : Int32, v16 = ((((h10 64 1) + (nI 32)) - (nI 1)) / (nI 32)) →
          q_X0_keyByMoves h10 v16 (fun h17 =>
          q_X0_split h17 v16 (fun h18 =>
          hp_jn1 (fun K20 =>
            ((h18 64 1) ≤ v15 →
              K20 (nI 0)) ∧ (¬ (h18 64 1) ≤ v15 →
              K20 (nI 1))) (fun v21 =>
            ∀ v22 : Int32, v22 = v9 + (nI 1) →
            B7 v21 v22 h18)))))) (nI 1) (nI 0) h6)))) ∧ (¬ (h 64 11) = 0 →
    Q h)
set_option maxRecDepth 100000 in
def q_X1_has (h : hp_H) (a1 : Int32) (Q : Int32 → Prop) : Prop :=
  (a1 < 0 →
    Q (nI 0)) ∧ (¬ a1 < 0 →
    ((h 15 1) ≤ a1 →
      Q (nI 0)) ∧ (¬ (h 15 1) ≤ a1 →
      Q (nI 1)))
set_option maxRecDepth 100000 in
def q_X1_isOwned (h : hp_H) (a1 : Int32) (Q : Int32 → Prop) : Prop :=
  vp_in a1 80 ∧
  hp_bz (h 22 a1.toNatClampNeg) ∧
  Q (h 22 a1.toNatClampNeg)
set_option maxRecDepth 100000 in
def q_X1_tellsMembersApart (h : hp_H) (Q : Int32 → Prop) : Prop :=
  hp_bz (h 15 9) ∧
  Q (h 15 9)
set_option maxRecDepth 100000 in
def q_X1_add (h : hp_H) (a1 a2 a3 a4 : Int32) (Q : Int32 → hp_H → Prop) : Prop :=
  vp_in (h 15 1) 80 ∧
  ∀ h1 : hp_H, h1 = hp_up h 17 (h 15 1).toNatClampNeg a1 →
  vp_in (h1 15 1) 80 ∧
  ∀ h2 : hp_H, h2 = hp_up h1 18 (h1 15 1).toNatClampNeg a2 →
  vp_in (h2 15 1) 80 ∧
  ∀ h3 : hp_H, h3 = hp_up h2 19 (h2 15 1).toNatClampNeg a3 →
  vp_in (h3 15 1) 80 ∧
  ∀ h4 : hp_H, h4 = hp_up h3 20 (h3 15 1).toNatClampNeg a4 →
  hp_jn1 (fun K6 =>
    hp_jn0 (fun K8 =>
      (a1 = (nI 2) →
        K8) ∧ (¬ a1 = (nI 2) →
        (a1 = (nI 3) →
          K8) ∧ (¬ a1 = (nI 3) →
          q_X1_isMade a1 (fun r10 =>
          hp_jn0 (fun K12 =>
            (r10 = 0 →
              K12) ∧ (¬ r10 = 0 →
              vp_in a2 80 ∧
              ((h4 22 a2.toNatClampNeg) = 0 →
                K12) ∧ (¬ (h4 22 a2.toNatClampNeg) = 0 →
                K8))) (
            q_X1_isMadeOfTwo a1 (fun r14 =>
            hp_jn0 (fun K16 =>
              (r14 = 0 →
                K16) ∧ (¬ r14 = 0 →
                vp_in a3 80 ∧
                ((h4 22 a3.toNatClampNeg) = 0 →
                  K16) ∧ (¬ (h4 22 a3.toNatClampNeg) = 0 →
                  K8))) (
              K6 (nI 0)))))))) (
      K6 (nI 1))) (fun v7 =>
    vp_in (h4 15 1) 80 ∧
    hp_bz v7 ∧
    ∀ h18 : hp_H, h18 = hp_up h4 22 (h4 15 1).toNatClampNeg v7 →
    hp_jn0h (fun K20 =>
      hp_jn0 (fun K22 =>
        (a1 = (nI 3) →
          K22) ∧ (¬ a1 = (nI 3) →
          (a1 = (nI 6) →
            K22) ∧ (¬ a1 = (nI 6) →
            K20 h18))) (
        ∀ h24 : hp_H, h24 = hp_up h18 15 9 (nI 1) →
        K20 h24)) (fun h21 =>
      ∀ v25 : Int32, v25 = (h21 15 1) →
      ∀ h26 : hp_H, h26 = hp_up h21 15 1 (v25 + (nI 1)) →
      Q v25 h26))
set_option maxRecDepth 100000 in
def q_X1_namesBeyond (h : hp_H) (a1 a2 : Int32) (Q : Int32 → Prop) : Prop :=
  hp_lp1 (fun v2 B1 =>
    ((h 15 1) ≤ v2 →
      Q (nI 0)) ∧ (¬ (h 15 1) ≤ v2 →
      vp_in v2 80 ∧
      hp_jn0 (fun K5 =>
        (((h 21 v2.toNatClampNeg) &&& a1) = 0 →
          K5) ∧ (¬ ((h 21 v2.toNatClampNeg) &&& a1) = 0 →
          vp_in v2 80 ∧
          ((h 17 v2.toNatClampNeg) = (nI 2) →
            vp_in v2 80 ∧
            ((h 18 v2.toNatClampNeg) < a2 →
              K5) ∧ (¬ (h 18 v2.toNatClampNeg) < a2 →
              Q (nI 1))) ∧ (¬ (h 17 v2.toNatClampNeg) = (nI 2) →
            K5))) (
        ∀ v8 : Int32, v8 = v2 + (nI 1) →
        B1 v8))) (nI 0)
set_option maxRecDepth 100000 in
def q_X2_clear (h : hp_H) (Q : hp_H → Prop) : Prop :=
  ∀ h1 : hp_H, h1 = hp_up h 35 0 (nI 0) →
  ∀ h2 : hp_H, h2 = hp_up h1 35 1 (nI 0) →
  ∀ h3 : hp_H, h3 = hp_up h2 35 2 (nI 0) →
  ∀ h4 : hp_H, h4 = hp_up h3 35 3 (nI 0) →
  ∀ h5 : hp_H, h5 = hp_up h4 35 4 (-1) →
  ∀ h6 : hp_H, h6 = hp_up h5 35 5 (-1) →
  ∀ h7 : hp_H, h7 = hp_up h6 35 6 (-1) →
  ∀ h8 : hp_H, h8 = hp_up h7 35 7 (-1) →
  Q h8
set_option maxRecDepth 100000 in
def q_X2_isSame (h : hp_H) (a1 : Int32) (Q : Int32 → Prop) : Prop :=
  ∀ v1 : Int32, v1 = (a1 * (nI 13)) →
  hp_lp1 (fun v3 B2 =>
    ((nI 13) ≤ v3 →
      Q (nI 1)) ∧ (¬ (nI 13) ≤ v3 →
      vp_in (v1 + v3) 5200 ∧
      vp_in v3 13 ∧
      ((h 42 (v1 + v3).toNatClampNeg) = (h 48 v3.toNatClampNeg) →
        ∀ v6 : Int32, v6 = v3 + (nI 1) →
        B2 v6) ∧ (¬ (h 42 (v1 + v3).toNatClampNeg) = (h 48 v3.toNatClampNeg) →
        Q (nI 0)))) (nI 0)
set_option maxRecDepth 100000 in
def q_X2_slotOf (h : hp_H) (Q : Int32 → Prop) : Prop :=
  hp_lp2 (fun v2 v3 B1 =>
    ((nI 13) ≤ v3 →
      ∀ v5 : Int32, v5 = (v2 ^^^ ((hp_ushr v2 (nI 20)) ^^^ (hp_ushr v2 (nI 10)))) →
      ∀ v6 : Int32, v6 = (v5 &&& (nI 1023)) →
      hp_lp2 (fun v8 v9 B7 =>
        ((nI 1024) ≤ v9 →
          Q v8) ∧ (¬ (nI 1024) ≤ v9 →
          vp_in v8 1024 ∧
          ((h 43 v8.toNatClampNeg) = 0 →
            Q v8) ∧ (¬ (h 43 v8.toNatClampNeg) = 0 →
            vp_in v8 1024 ∧
            q_X2_isSame h ((h 43 v8.toNatClampNeg) - (nI 1)) (fun r12 =>
            (r12 = 0 →
              ∀ v14 : Int32, v14 = ((v8 + (nI 1)) &&& (nI 1023)) →
              ∀ v15 : Int32, v15 = v9 + (nI 1) →
              B7 v14 v15) ∧ (¬ r12 = 0 →
              Q v8))))) v6 (nI 0)) ∧ (¬ (nI 13) ≤ v3 →
      vp_in v3 13 ∧
      ∀ v16 : Int32, v16 = ((v2 * (nI 31)) + (h 48 v3.toNatClampNeg)) →
      ∀ v17 : Int32, v17 = v3 + (nI 1) →
      B1 v16 v17)) (nI 0) (nI 0)
set_option maxRecDepth 100000 in
def q_X2_addState (h : hp_H) (a2 a3 a4 : Int32) (Q : hp_H → Prop) : Prop :=
  (¬ (nI 0) < 0 ∧ ¬ ((h 35 2) * (nI 13)) < 0 ∧ ¬ (nI 13) < 0 ∧ (nI 0).toNatClampNeg + (nI 13).toNatClampNeg ≤ 13 ∧ ((h 35 2) * (nI 13)).toNatClampNeg + (nI 13).toNatClampNeg ≤ 5200) ∧
  ∀ h1 : hp_H, h1 = hp_cp h 48 42 (nI 0).toNatClampNeg ((h 35 2) * (nI 13)).toNatClampNeg (nI 13).toNatClampNeg →
  vp_in (h1 35 2) 400 ∧
  ∀ h2 : hp_H, h2 = hp_up h1 39 (h1 35 2).toNatClampNeg a3 →
  vp_in (h2 35 2) 400 ∧
  ∀ h3 : hp_H, h3 = hp_up h2 40 (h2 35 2).toNatClampNeg a4 →
  hp_jn1 (fun K5 =>
    (a3 = (-1) →
      K5 (nI 0)) ∧ (¬ a3 = (-1) →
      vp_in a3 400 ∧
      K5 ((h3 38 a3.toNatClampNeg) + (nI 1)))) (fun v6 =>
    vp_in (h3 35 2) 400 ∧
    ∀ h7 : hp_H, h7 = hp_up h3 38 (h3 35 2).toNatClampNeg v6 →
    ∀ h8 : hp_H, h8 = hp_up h7 35 2 ((h7 35 2) + (nI 1)) →
    vp_in a2 1024 ∧
    ∀ h9 : hp_H, h9 = hp_up h8 43 a2.toNatClampNeg (h8 35 2) →
    Q h9)
set_option maxRecDepth 100000 in
def q_X2_begin (h : hp_H) (Q : hp_H → Prop) : Prop :=
  q_X2_clear h (fun h1 =>
  q_J7_fill_53178 43 1024 h1 (nI 0) (fun h2 =>
  ∀ h3 : hp_H, h3 = hp_up h2 35 0 (nI 1) →
  q_X2_slotOf h3 (fun r4 =>
  q_X2_addState h3 r4 (-1) (-1) (fun h5 =>
  Q h5))))
set_option maxRecDepth 100000 in
def q_X2_isUsable (h : hp_H) (Q : Int32 → Prop) : Prop :=
  ((h 35 0) = 0 →
    Q (nI 0)) ∧ (¬ (h 35 0) = 0 →
    ((h 35 1) = 0 →
      Q (nI 1)) ∧ (¬ (h 35 1) = 0 →
      Q (nI 0)))
set_option maxRecDepth 100000 in
def q_X2_has (h : hp_H) (a1 : Int32) (Q : Int32 → Prop) : Prop :=
  q_X2_isUsable h (fun r1 =>
  (r1 = 0 →
    Q (nI 0)) ∧ (¬ r1 = 0 →
    (a1 < 0 →
      Q (nI 0)) ∧ (¬ a1 < 0 →
      ((h 35 2) ≤ a1 →
        Q (nI 0)) ∧ (¬ (h 35 2) ≤ a1 →
        Q (nI 1)))))
set_option maxRecDepth 100000 in
def q_X2_movesFrom (h : hp_H) (a1 : Int32) (Q : Int32 → Prop) : Prop :=
  vp_in (a1 + (nI 1)) 401 ∧
  vp_in a1 401 ∧
  Q ((h 36 (a1 + (nI 1)).toNatClampNeg) - (h 36 a1.toNatClampNeg))
set_option maxRecDepth 100000 in
def q_X2_roleOfMove (h : hp_H) (a1 : Int32) (Q : Int32 → Prop) : Prop :=
  vp_in a1 6000 ∧
  ((h 41 a1.toNatClampNeg) = (-1) →
    Q (-1)) ∧ (¬ (h 41 a1.toNatClampNeg) = (-1) →
    vp_in a1 6000 ∧
    Q ((h 41 a1.toNatClampNeg) / (nI 72)))
set_option maxRecDepth 100000 in
def q_X2_memberOfMove (h : hp_H) (a1 : Int32) (Q : Int32 → Prop) : Prop :=
  vp_in a1 6000 ∧
  ((h 41 a1.toNatClampNeg) = (-1) →
    Q (-1)) ∧ (¬ (h 41 a1.toNatClampNeg) = (-1) →
    vp_in a1 6000 ∧
    Q (hp_rem ((h 41 a1.toNatClampNeg) / (nI 24)) (nI 3)))
set_option maxRecDepth 100000 in
def q_X2_stepOfMove (h : hp_H) (a1 : Int32) (Q : Int32 → Prop) : Prop :=
  vp_in a1 6000 ∧
  ((h 41 a1.toNatClampNeg) = (-1) →
    Q (-1)) ∧ (¬ (h 41 a1.toNatClampNeg) = (-1) →
    vp_in a1 6000 ∧
    Q (hp_rem (h 41 a1.toNatClampNeg) (nI 24)))
set_option maxRecDepth 100000 in
def q_X2_moverBit (h : hp_H) (a1 : Int32) (Q : Int32 → Prop) : Prop :=
  vp_in a1 6000 ∧
  ((h 41 a1.toNatClampNeg) = (-1) →
    Q (nI 0)) ∧ (¬ (h 41 a1.toNatClampNeg) = (-1) →
    vp_in a1 6000 ∧
    Q (hp_shl (nI 1) ((h 41 a1.toNatClampNeg) / (nI 24))))
set_option maxRecDepth 100000 in
def q_X2_hasMemberMove (h : hp_H) (a1 : Int32) (Q : Int32 → Prop) : Prop :=
  q_X2_movesFrom h a1 (fun r1 =>
  (r1 ≤ 0 →
    Q (nI 0)) ∧ (¬ r1 ≤ 0 →
    vp_in a1 401 ∧
    q_X2_moverBit h (h 36 a1.toNatClampNeg) (fun r3 =>
    (r3 = 0 →
      Q (nI 0)) ∧ (¬ r3 = 0 →
      Q (nI 1)))))
set_option maxRecDepth 100000 in
def q_X2_mover (a0 a1 a2 : Int32) (Q : Int32 → Prop) : Prop :=
  Q ((((a0 * (nI 3)) + a1) * (nI 24)) + a2)
set_option maxRecDepth 100000 in
def q_X2_noteFault (h : hp_H) (a1 a2 a3 a4 : Int32) (Q : hp_H → Prop) : Prop :=
  ((h 35 4) = (-1) →
    ∀ h2 : hp_H, h2 = hp_up h 35 4 a1 →
    ∀ h3 : hp_H, h3 = hp_up h2 35 5 a2 →
    ∀ h4 : hp_H, h4 = hp_up h3 35 6 a3 →
    ∀ h5 : hp_H, h5 = hp_up h4 35 7 a4 →
    Q h5) ∧ (¬ (h 35 4) = (-1) →
    Q h)
set_option maxRecDepth 100000 in
def q_X2_addMove (h : hp_H) (a1 a3 : Int32) (Q : hp_H → Prop) : Prop :=
  q_X2_slotOf h (fun r1 =>
  vp_in r1 1024 ∧
  hp_jn1 (fun K3 =>
    ((h 43 r1.toNatClampNeg) = 0 →
      K3 (nI 1)) ∧ (¬ (h 43 r1.toNatClampNeg) = 0 →
      K3 (nI 0))) (fun v4 =>
    ((h 35 3) = (nI 6000) →
      ∀ h6 : hp_H, h6 = hp_up h 35 1 (nI 1) →
      Q h6) ∧ (¬ (h 35 3) = (nI 6000) →
      hp_jn0 (fun K8 =>
        (v4 = 0 →
          K8) ∧ (¬ v4 = 0 →
          ((h 35 2) = (nI 400) →
            ∀ h10 : hp_H, h10 = hp_up h 35 1 (nI 1) →
            Q h10) ∧ (¬ (h 35 2) = (nI 400) →
            K8))) (
        hp_jn0h (fun K12 =>
          (v4 = 0 →
            K12 h) ∧ (¬ v4 = 0 →
            vp_in a1 401 ∧
            q_X2_addState h r1 a1 ((h 35 3) - (h 36 a1.toNatClampNeg)) (fun h14 =>
            K12 h14))) (fun h13 =>
          vp_in r1 1024 ∧
          vp_in (h13 35 3) 6000 ∧
          ∀ h15 : hp_H, h15 = hp_up h13 37 (h13 35 3).toNatClampNeg ((h13 43 r1.toNatClampNeg) - (nI 1)) →
          vp_in (h15 35 3) 6000 ∧
          ∀ h16 : hp_H, h16 = hp_up h15 41 (h15 35 3).toNatClampNeg a3 →
          ∀ h17 : hp_H, h17 = hp_up h16 35 3 ((h16 35 3) + (nI 1)) →
          Q h17)))))
set_option maxRecDepth 100000 in
def q_X5_ask (h : hp_H) (a1 : Int32) (Q : hp_H → Prop) : Prop :=
  q_X5_askNothing h (fun h1 =>
  q_X5_askToo h1 a1 (fun h2 =>
  Q h2))
set_option maxRecDepth 100000 in
def q_X6_everyoneBits (h : hp_H) (Q : Int32 → Prop) : Prop :=
  hp_lp2 (fun v2 v3 B1 =>
    ((h 12 1) ≤ v3 →
      Q v2) ∧ (¬ (h 12 1) ≤ v3 →
      vp_in v3 3 ∧
      ∀ v5 : Int32, v5 = (v2 ||| (hp_shl ((hp_shl (nI 1) (h 13 v3.toNatClampNeg)) - (nI 1)) (v3 * (nI 3)))) →
      ∀ v6 : Int32, v6 = v3 + (nI 1) →
      B1 v5 v6)) (nI 0) (nI 0)
set_option maxRecDepth 100000 in
def q_X3_enter (h : hp_H) (a1 : Int32) (Q : hp_H → Prop) : Prop :=
  ∀ h1 : hp_H, h1 = hp_up h 53 15 ((h 53 15) + (nI 1)) →
  vp_in a1 400 ∧
  ∀ h2 : hp_H, h2 = hp_up h1 58 a1.toNatClampNeg (h1 53 15) →
  vp_in a1 400 ∧
  ∀ h3 : hp_H, h3 = hp_up h2 59 a1.toNatClampNeg (h2 53 15) →
  vp_in a1 401 ∧
  vp_in a1 400 ∧
  ∀ h4 : hp_H, h4 = hp_up h3 60 a1.toNatClampNeg (h3 36 a1.toNatClampNeg) →
  ∀ v5 : Int32, v5 = (h4 53 13) →
  ∀ h6 : hp_H, h6 = hp_up h4 53 13 (v5 + (nI 1)) →
  vp_in v5 400 ∧
  ∀ h7 : hp_H, h7 = hp_up h6 62 v5.toNatClampNeg a1 →
  ∀ v8 : Int32, v8 = (h7 53 14) →
  ∀ h9 : hp_H, h9 = hp_up h7 53 14 (v8 + (nI 1)) →
  vp_in v8 400 ∧
  ∀ h10 : hp_H, h10 = hp_up h9 63 v8.toNatClampNeg a1 →
  Q h10
set_option maxRecDepth 100000 in
def q_X3_follow (h : hp_H) (a1 a2 : Int32) (Q : hp_H → Prop) : Prop :=
  vp_in a1 400 ∧
  vp_in a1 400 ∧
  ∀ h1 : hp_H, h1 = hp_up h 60 a1.toNatClampNeg ((h 60 a1.toNatClampNeg) + (nI 1)) →
  vp_in a2 400 ∧
  ((h1 54 a2.toNatClampNeg) = 0 →
    Q h1) ∧ (¬ (h1 54 a2.toNatClampNeg) = 0 →
    vp_in a2 400 ∧
    ((h1 58 a2.toNatClampNeg) = 0 →
      q_X3_enter h1 a2 (fun h6 =>
      Q h6)) ∧ (¬ (h1 58 a2.toNatClampNeg) = 0 →
      vp_in a2 400 ∧
      ((h1 61 a2.toNatClampNeg) = (-1) →
        vp_in a1 400 ∧
        vp_in a2 400 ∧
        vp_in a1 400 ∧
        ∀ h5 : hp_H, h5 = hp_up h1 59 a1.toNatClampNeg (if (h1 58 a2.toNatClampNeg) < (h1 59 a1.toNatClampNeg) then (h1 58 a2.toNatClampNeg) else (h1 59 a1.toNatClampNeg)) →
        Q h5) ∧ (¬ (h1 61 a2.toNatClampNeg) = (-1) →
        Q h1)))
set_option maxRecDepth 100000 in
def q_X3_handBack (h : hp_H) (a1 : Int32) (Q : hp_H → Prop) : Prop :=
  ((h 53 13) ≤ 0 →
    Q h) ∧ (¬ (h 53 13) ≤ 0 →
    vp_in ((h 53 13) - (nI 1)) 400 ∧
    ∀ v2 : Int32, v2 = (h 62 ((h 53 13) - (nI 1)).toNatClampNeg) →
    vp_in v2 400 ∧
    vp_in a1 400 ∧
    vp_in v2 400 ∧
    ∀ h3 : hp_H, h3 = hp_up h 59 v2.toNatClampNeg (if (h 59 a1.toNatClampNeg) < (h 59 v2.toNatClampNeg) then (h 59 a1.toNatClampNeg) else (h 59 v2.toNatClampNeg)) →
    Q h3)
set_option maxRecDepth 100000 in
def q_X3_weigh (h : hp_H) (a1 a2 : Int32) (Q : Int32 → hp_H → Prop) : Prop :=
  vp_in a1 401 ∧
  ∀ v1 : Int32, v1 = (h 36 a1.toNatClampNeg) →
  hp_lp3h (fun v3 v4 v5 h6 B2 =>
    vp_in (a1 + (nI 1)) 401 ∧
    ((h6 36 (a1 + (nI 1)).toNatClampNeg) ≤ v5 →
      ∀ h8 : hp_H, h8 = hp_up h6 53 18 ((h6 53 18) ||| ((h6 53 16) &&& (v3 ^^^ (-1)))) →
      hp_bz v4 ∧
      Q v4 h8) ∧ (¬ (h6 36 (a1 + (nI 1)).toNatClampNeg) ≤ v5 →
      q_X2_moverBit h6 v5 (fun r9 =>
      vp_in v5 6000 ∧
      ∀ v10 : Int32, v10 = (h6 37 v5.toNatClampNeg) →
      ∀ v11 : Int32, v11 = (v3 ||| r9) →
      vp_in v10 400 ∧
      hp_jn1h (fun K13 =>
        ((h6 61 v10.toNatClampNeg) = a2 →
          ∀ h17 : hp_H, h17 = hp_up h6 53 17 ((h6 53 17) ||| r9) →
          K13 v4 h17) ∧ (¬ (h6 61 v10.toNatClampNeg) = a2 →
          vp_in v10 400 ∧
          ((h6 57 v10.toNatClampNeg) = 0 →
            K13 v4 h6) ∧ (¬ (h6 57 v10.toNatClampNeg) = 0 →
            K13 (nI 1) h6))) (fun v14 h15 =>
        ∀ v18 : Int32, v18 = v5 + (nI 1) →
        B2 v11 v14 v18 h15)))) (nI 0) (nI 0) v1 h
set_option maxRecDepth 100000 in
def q_X3_close (h : hp_H) (a1 : Int32) (Q : hp_H → Prop) : Prop :=
  ∀ v1 : Int32, v1 = (h 53 14) →
  hp_lp2h (fun v3 v4 h5 B2 =>
    hp_jn0 (fun K7 =>
      (v4 = 0 →
        K7) ∧ (¬ v4 = 0 →
        (v3 ≤ 0 →
          K7) ∧ (¬ v3 ≤ 0 →
          ∀ v9 : Int32, v9 = v3 + (-1) →
          vp_in v9 400 ∧
          vp_in (h5 63 v9.toNatClampNeg) 400 ∧
          ∀ h10 : hp_H, h10 = hp_up h5 61 (h5 63 v9.toNatClampNeg).toNatClampNeg a1 →
          vp_in v9 400 ∧
          hp_jn1 (fun K12 =>
            ((h10 63 v9.toNatClampNeg) = a1 →
              K12 (nI 0)) ∧ (¬ (h10 63 v9.toNatClampNeg) = a1 →
              K12 (nI 1))) (fun v13 =>
            B2 v9 v13 h10)))) (
      ∀ h14 : hp_H, h14 = hp_up h5 53 17 (nI 0) →
      ∀ h15 : hp_H, h15 = hp_up h14 53 18 (nI 0) →
      hp_lp2h (fun v17 v18 h19 B16 =>
        ((h19 53 14) ≤ v18 →
          hp_jn1 (fun K22 =>
            hp_jn0 (fun K24 =>
              ((h19 53 17) = 0 →
                K24) ∧ (¬ (h19 53 17) = 0 →
                hp_jn0 (fun K26 =>
                  ((h19 53 19) = 0 →
                    K26) ∧ (¬ (h19 53 19) = 0 →
                    (((h19 53 17) ||| (h19 53 18)) = (h19 53 16) →
                      K26) ∧ (¬ ((h19 53 17) ||| (h19 53 18)) = (h19 53 16) →
                      K24))) (
                  K22 (nI 1)))) (
              K22 (nI 0))) (fun v23 =>
            hp_lp1h (fun v29 h30 B28 =>
              ((h30 53 14) ≤ v29 →
                ∀ h32 : hp_H, h32 = hp_up h30 53 14 v3 →
                Q h32) ∧ (¬ (h30 53 14) ≤ v29 →
                vp_in v29 400 ∧
                vp_in (h30 63 v29.toNatClampNeg) 400 ∧
                hp_bz v23 ∧
                ∀ h33 : hp_H, h33 = hp_up h30 56 (h30 63 v29.toNatClampNeg).toNatClampNeg v23 →
                vp_in v29 400 ∧
                hp_jn1 (fun K35 =>
                  hp_jn0 (fun K37 =>
                    (v23 = 0 →
                      (v17 = 0 →
                        K35 (nI 0)) ∧ (¬ v17 = 0 →
                        K37)) ∧ (¬ v23 = 0 →
                      K37)) (
                    K35 (nI 1))) (fun v36 =>
                  vp_in (h33 63 v29.toNatClampNeg) 400 ∧
                  hp_bz v36 ∧
                  ∀ h39 : hp_H, h39 = hp_up h33 57 (h33 63 v29.toNatClampNeg).toNatClampNeg v36 →
                  ∀ v40 : Int32, v40 = v29 + (nI 1) →
                  B28 v40 h39))) v3 h19)) ∧ (¬ (h19 53 14) ≤ v18 →
          vp_in v18 400 ∧
          q_X3_weigh h19 (h19 63 v18.toNatClampNeg) a1 (fun r41 h42 =>
          hp_jn1 (fun K44 =>
            (r41 = 0 →
              K44 v17) ∧ (¬ r41 = 0 →
              K44 (nI 1))) (fun v45 =>
            ∀ v46 : Int32, v46 = v18 + (nI 1) →
            B16 v45 v46 h42)))) (nI 0) v3 h15)) v1 (nI 1) h
set_option maxRecDepth 100000 in
def q_X3_walk (h : hp_H) (a1 : Int32) (Q : hp_H → Prop) : Prop :=
  q_X3_enter h a1 (fun h1 =>
  hp_lp1h (fun v3 h4 B2 =>
    ((nI 6400) ≤ v3 →
      Q h4) ∧ (¬ (nI 6400) ≤ v3 →
      ((h4 53 13) ≤ 0 →
        Q h4) ∧ (¬ (h4 53 13) ≤ 0 →
        vp_in ((h4 53 13) - (nI 1)) 400 ∧
        ∀ v7 : Int32, v7 = (h4 62 ((h4 53 13) - (nI 1)).toNatClampNeg) →
        vp_in v7 400 ∧
        vp_in (v7 + (nI 1)) 401 ∧
        hp_jn0h (fun K9 =>
          ((h4 36 (v7 + (nI 1)).toNatClampNeg) ≤ (h4 60 v7.toNatClampNeg) →
            ∀ h11 : hp_H, h11 = hp_up h4 53 13 ((h4 53 13) - (nI 1)) →
            q_X3_handBack h11 v7 (fun h12 =>
            vp_in v7 400 ∧
            vp_in v7 400 ∧
            ((h12 59 v7.toNatClampNeg) = (h12 58 v7.toNatClampNeg) →
              q_X3_close h12 v7 (fun h14 =>
              K9 h14)) ∧ (¬ (h12 59 v7.toNatClampNeg) = (h12 58 v7.toNatClampNeg) →
              K9 h12))) ∧ (¬ (h4 36 (v7 + (nI 1)).toNatClampNeg) ≤ (h4 60 v7.toNatClampNeg) →
            vp_in v7 400 ∧
            vp_in (h4 60 v7.toNatClampNeg) 6000 ∧
            q_X3_follow h4 v7 (h4 37 (h4 60 v7.toNatClampNeg).toNatClampNeg) (fun h15 =>
            K9 h15))) (fun h10 =>
          ∀ v16 : Int32, v16 = v3 + (nI 1) →
          B2 v16 h10)))) (nI 0) h1)
set_option maxRecDepth 100000 in
def q_X3_tie (h : hp_H) (a1 : Int32) (Q : hp_H → Prop) : Prop :=
  hp_bz a1 ∧
  ∀ h1 : hp_H, h1 = hp_up h 53 19 a1 →
  q_X6_everyoneBits h1 (fun r2 =>
  ∀ h3 : hp_H, h3 = hp_up h1 53 16 r2 →
  ∀ h4 : hp_H, h4 = hp_up h3 53 13 (nI 0) →
  ∀ h5 : hp_H, h5 = hp_up h4 53 14 (nI 0) →
  ∀ h6 : hp_H, h6 = hp_up h5 53 15 (nI 0) →
  hp_lp1h (fun v8 h9 B7 =>
    ((h9 35 2) ≤ v8 →
      hp_lp1h (fun v12 h13 B11 =>
        ((h13 35 2) ≤ v12 →
          Q h13) ∧ (¬ (h13 35 2) ≤ v12 →
          vp_in v12 400 ∧
          hp_jn0h (fun K16 =>
            ((h13 54 v12.toNatClampNeg) = 0 →
              K16 h13) ∧ (¬ (h13 54 v12.toNatClampNeg) = 0 →
              vp_in v12 400 ∧
              ((h13 58 v12.toNatClampNeg) = 0 →
                q_X3_walk h13 v12 (fun h19 =>
                K16 h19)) ∧ (¬ (h13 58 v12.toNatClampNeg) = 0 →
                K16 h13))) (fun h17 =>
            ∀ v20 : Int32, v20 = v12 + (nI 1) →
            B11 v20 h17))) (nI 0) h9) ∧ (¬ (h9 35 2) ≤ v8 →
      vp_in v8 400 ∧
      ∀ h21 : hp_H, h21 = hp_up h9 58 v8.toNatClampNeg (nI 0) →
      vp_in v8 400 ∧
      ∀ h22 : hp_H, h22 = hp_up h21 61 v8.toNatClampNeg (-1) →
      vp_in v8 400 ∧
      ∀ h23 : hp_H, h23 = hp_up h22 56 v8.toNatClampNeg (nI 0) →
      vp_in v8 400 ∧
      ∀ h24 : hp_H, h24 = hp_up h23 57 v8.toNatClampNeg (nI 0) →
      ∀ v25 : Int32, v25 = v8 + (nI 1) →
      B7 v25 h24)) (nI 0) h6)
set_option maxRecDepth 100000 in
def q_X3_firstOfBoth (x1 x2 : Nat) (h : hp_H) (Q : Int32 → Prop) : Prop :=
  hp_lp1 (fun v2 B1 =>
    ((h 35 2) ≤ v2 →
      Q (-1)) ∧ (¬ (h 35 2) ≤ v2 →
      vp_in v2 400 ∧
      hp_jn0 (fun K5 =>
        ((h x1 v2.toNatClampNeg) = 0 →
          K5) ∧ (¬ (h x1 v2.toNatClampNeg) = 0 →
          vp_in v2 400 ∧
          ((h x2 v2.toNatClampNeg) = 0 →
            K5) ∧ (¬ (h x2 v2.toNatClampNeg) = 0 →
            Q v2))) (
        ∀ v7 : Int32, v7 = v2 + (nI 1) →
        B1 v7))) (nI 0)
set_option maxRecDepth 100000 in
def q_X3_breakerOfAgain (h : hp_H) (a1 a2 : Int32) (Q : Int32 → hp_H → Prop) : Prop :=
  q_X5_ask h a1 (fun h1 =>
  hp_lp1h (fun v3 h4 B2 =>
    ((h4 35 2) ≤ v3 →
      q_X3_tie h4 a2 (fun h6 =>
      q_X3_firstOfBoth 54 56 h6 (fun r7 =>
      Q r7 h6))) ∧ (¬ (h4 35 2) ≤ v3 →
      q_X5_lookAt h4 v3 (fun h8 =>
      q_X5_answer h8 a1 (fun r9 =>
      hp_jn1 (fun K11 =>
        (r9 = 0 →
          K11 (nI 1)) ∧ (¬ r9 = 0 →
          K11 (nI 0))) (fun v12 =>
        vp_in v3 400 ∧
        hp_bz v12 ∧
        ∀ h13 : hp_H, h13 = hp_up h8 54 v3.toNatClampNeg v12 →
        ∀ v14 : Int32, v14 = v3 + (nI 1) →
        B2 v14 h13))))) (nI 0) h1)
set_option maxRecDepth 100000 in
def q_X3_breakerOfFromTo (h : hp_H) (a1 a2 a3 : Int32) (Q : Int32 → hp_H → Prop) : Prop :=
  q_X5_ask h a1 (fun h1 =>
  q_X5_askToo h1 a2 (fun h2 =>
  hp_lp1h (fun v4 h5 B3 =>
    ((h5 35 2) ≤ v4 →
      q_X3_tie h5 a3 (fun h7 =>
      q_X3_firstOfBoth 55 57 h7 (fun r8 =>
      Q r8 h7))) ∧ (¬ (h5 35 2) ≤ v4 →
      q_X5_lookAt h5 v4 (fun h9 =>
      q_X5_answer h9 a2 (fun r10 =>
      hp_jn1 (fun K12 =>
        (r10 = 0 →
          K12 (nI 1)) ∧ (¬ r10 = 0 →
          K12 (nI 0))) (fun v13 =>
        vp_in v4 400 ∧
        hp_bz v13 ∧
        ∀ h14 : hp_H, h14 = hp_up h9 54 v4.toNatClampNeg v13 →
        vp_in v4 400 ∧
        hp_jn1 (fun K16 =>
          hp_jn0 (fun K18 =>
            ((h14 54 v4.toNatClampNeg) = 0 →
              K18) ∧ (¬ (h14 54 v4.toNatClampNeg) = 0 →
              q_X5_answer h14 a1 (fun r19 =>
              (r19 = 0 →
                K18) ∧ (¬ r19 = 0 →
                K16 (nI 1))))) (
            K16 (nI 0))) (fun v17 =>
          vp_in v4 400 ∧
          hp_bz v17 ∧
          ∀ h21 : hp_H, h21 = hp_up h14 55 v4.toNatClampNeg v17 →
          ∀ v22 : Int32, v22 = v4 + (nI 1) →
          B3 v22 h21)))))) (nI 0) h2))
set_option maxRecDepth 100000 in
def q_X4_hasChannel (h : hp_H) (a1 : Int32) (Q : Int32 → Prop) : Prop :=
  (a1 < 0 →
    Q (nI 0)) ∧ (¬ a1 < 0 →
    ((h 1 8) ≤ a1 →
      Q (nI 0)) ∧ (¬ (h 1 8) ≤ a1 →
      Q (nI 1)))
set_option maxRecDepth 100000 in
def q_X4_addChannel (h : hp_H) (a1 a2 a3 : Int32) (Q : Int32 → hp_H → Prop) : Prop :=
  vp_in (h 1 8) 3 ∧
  ∀ h1 : hp_H, h1 = hp_up h 32 (h 1 8).toNatClampNeg a1 →
  vp_in (h1 1 8) 3 ∧
  hp_bz a2 ∧
  ∀ h2 : hp_H, h2 = hp_up h1 33 (h1 1 8).toNatClampNeg a2 →
  vp_in (h2 1 8) 3 ∧
  hp_bz a3 ∧
  ∀ h3 : hp_H, h3 = hp_up h2 34 (h2 1 8).toNatClampNeg a3 →
  ∀ v4 : Int32, v4 = (h3 1 8) →
  ∀ h5 : hp_H, h5 = hp_up h3 1 8 (v4 + (nI 1)) →
  Q v4 h5
set_option maxRecDepth 100000 in
def q_X10_has (vk vt vl vh vf vn vm : Nat) (h : hp_H) (a1 a2 : Int32) (Q : Int32 → Prop) : Prop :=
  (a2 < 0 →
    Q (nI 0)) ∧ (¬ a2 < 0 →
    vp_in a1 vn ∧
    ((h vt a1.toNatClampNeg) ≤ a2 →
      Q (nI 0)) ∧ (¬ (h vt a1.toNatClampNeg) ≤ a2 →
      Q (nI 1)))
set_option maxRecDepth 100000 in
def q_X6_has (h : hp_H) (a1 : Int32) (Q : Int32 → Prop) : Prop :=
  (a1 < 0 →
    Q (nI 0)) ∧ (¬ a1 < 0 →
    ((h 12 1) ≤ a1 →
      Q (nI 0)) ∧ (¬ (h 12 1) ≤ a1 →
      Q (nI 1)))
set_option maxRecDepth 100000 in
def q_X6_hasMember (h : hp_H) (a1 a2 : Int32) (Q : Int32 → Prop) : Prop :=
  q_X6_has h a1 (fun r1 =>
  (r1 = 0 →
    Q (nI 0)) ∧ (¬ r1 = 0 →
    (a2 < 0 →
      Q (nI 0)) ∧ (¬ a2 < 0 →
      vp_in a1 3 ∧
      ((h 13 a1.toNatClampNeg) ≤ a2 →
        Q (nI 0)) ∧ (¬ (h 13 a1.toNatClampNeg) ≤ a2 →
        Q (nI 1)))))
set_option maxRecDepth 100000 in
def q_X4_knowsParts (h : hp_H) (a1 a2 a3 a4 : Int32) (Q : Int32 → Prop) : Prop :=
  ((a1 = (nI 1)) →
    q_X10_has 2 3 4 5 6 1 6 h (nI 0) a2 (fun r1 =>
    hp_bz r1 ∧
    Q r1))
  ∧ ((a1 = (nI 4)) →
    q_X6_has h a2 (fun r2 =>
    hp_bz r2 ∧
    Q r2))
  ∧ ((a1 = (nI 5)) →
    q_X4_hasChannel h a2 (fun r3 =>
    hp_bz r3 ∧
    Q r3))
  ∧ ((a1 = (nI 6)) →
    q_X6_hasMember h a2 a3 (fun r4 =>
    (r4 = 0 →
      Q (nI 0)) ∧ (¬ r4 = 0 →
      q_X10_has 7 8 9 10 11 3 9 h a2 a4 (fun r6 =>
      (r6 = 0 →
        Q (nI 0)) ∧ (¬ r6 = 0 →
        Q (nI 1))))))
  ∧ ((¬ a1 = (nI 1) ∧ ¬ a1 = (nI 4) ∧ ¬ a1 = (nI 5) ∧ ¬ a1 = (nI 6)) →
    q_X1_isMade a1 (fun r8 =>
    hp_jn0 (fun K10 =>
      (r8 = 0 →
        K10) ∧ (¬ r8 = 0 →
        q_X1_has h a2 (fun r11 =>
        (r11 = 0 →
          Q (nI 0)) ∧ (¬ r11 = 0 →
          K10)))) (
      q_X1_isMadeOfTwo a1 (fun r13 =>
      (r13 = 0 →
        Q (nI 1)) ∧ (¬ r13 = 0 →
        q_X1_has h a3 (fun r15 =>
        (r15 = 0 →
          Q (nI 0)) ∧ (¬ r15 = 0 →
          Q (nI 1))))))))
set_option maxRecDepth 100000 in
def q_X4_knowsAct (h : hp_H) (a1 a2 a3 a4 : Int32) (Q : Int32 → Prop) : Prop :=
  vp_in a1 24 ∧
  ∀ v1 : Int32, v1 = (h 24 a1.toNatClampNeg) →
  ((a2 = (nI 0)) →
    q_X10_has 2 3 4 5 6 1 6 h (nI 0) a3 (fun r2 =>
    (r2 = 0 →
      Q (nI 0)) ∧ (¬ r2 = 0 →
      q_X1_has h a4 (fun r4 =>
      (r4 = 0 →
        Q (nI 0)) ∧ (¬ r4 = 0 →
        Q (nI 1))))))
  ∧ ((a2 = (nI 1)) →
    q_X10_has 7 8 9 10 11 3 9 h v1 a3 (fun r6 =>
    (r6 = 0 →
      Q (nI 0)) ∧ (¬ r6 = 0 →
      q_X1_has h a4 (fun r8 =>
      (r8 = 0 →
        Q (nI 0)) ∧ (¬ r8 = 0 →
        Q (nI 1))))))
  ∧ ((a2 = (nI 2)) →
    q_X4_hasChannel h a3 (fun r10 =>
    (r10 = 0 →
      Q (nI 0)) ∧ (¬ r10 = 0 →
      q_X1_has h a4 (fun r12 =>
      (r12 = 0 →
        Q (nI 0)) ∧ (¬ r12 = 0 →
        Q (nI 1))))))
  ∧ ((¬ a2 = (nI 0) ∧ ¬ a2 = (nI 1) ∧ ¬ a2 = (nI 2)) →
    q_X4_hasChannel h a3 (fun r14 =>
    (r14 = 0 →
      Q (nI 0)) ∧ (¬ r14 = 0 →
      q_X10_has 7 8 9 10 11 3 9 h v1 a4 (fun r16 =>
      (r16 = 0 →
        Q (nI 0)) ∧ (¬ r16 = 0 →
        Q (nI 1))))))
set_option maxRecDepth 100000 in
def q_X4_markUses (h : hp_H) (Q : hp_H → Prop) : Prop :=
  q_X1_dropUse h (nI 7) (fun h1 =>
  hp_lp1h (fun v3 h4 B2 =>
    ((h4 23 8) ≤ v3 →
      q_X1_spreadUses h4 (fun h6 =>
      Q h6)) ∧ (¬ (h4 23 8) ≤ v3 →
      vp_in v3 24 ∧
      ∀ v7 : Int32, v7 = (hp_shl (nI 1) (h4 24 v3.toNatClampNeg)) →
      vp_in v3 24 ∧
      hp_jn0h (fun K9 =>
        ((h4 27 v3.toNatClampNeg) = (-1) →
          K9 h4) ∧ (¬ (h4 27 v3.toNatClampNeg) = (-1) →
          vp_in v3 24 ∧
          q_X1_addUse h4 (h4 27 v3.toNatClampNeg) v7 (fun h11 =>
          K9 h11))) (fun h10 =>
        ∀ v12 : Int32, v12 = (v3 * (nI 4)) →
        hp_lp1h (fun v14 h15 B13 =>
          vp_in v3 24 ∧
          (((v3 * (nI 4)) + (h15 28 v3.toNatClampNeg)) ≤ v14 →
            ∀ v17 : Int32, v17 = v3 + (nI 1) →
            B2 v17 h15) ∧ (¬ ((v3 * (nI 4)) + (h15 28 v3.toNatClampNeg)) ≤ v14 →
            vp_in v14 96 ∧
            hp_jn0h (fun K19 =>
              ((h15 29 v14.toNatClampNeg) = (nI 3) →
                K19 h15) ∧ (¬ (h15 29 v14.toNatClampNeg) = (nI 3) →
                vp_in v14 96 ∧
                q_X1_addUse h15 (h15 31 v14.toNatClampNeg) v7 (fun h21 =>
                K19 h21))) (fun h20 =>
              ∀ v22 : Int32, v22 = v14 + (nI 1) →
              B13 v22 h20))) v12 h10))) (nI 0) h1)
set_option maxRecDepth 100000 in
def q_X4_isSearchable (h : hp_H) (Q : Int32 → hp_H → Prop) : Prop :=
  hp_jn0 (fun K2 =>
    ((h 1 9) = 0 →
      K2) ∧ (¬ (h 1 9) = 0 →
      q_X1_tellsMembersApart h (fun r3 =>
      (r3 = 0 →
        K2) ∧ (¬ r3 = 0 →
        Q (nI 0) h)))) (
    q_X4_markUses h (fun h5 =>
    hp_lp1 (fun v7 B6 =>
      ((h5 12 1) ≤ v7 →
        Q (nI 1) h5) ∧ (¬ (h5 12 1) ≤ v7 →
        vp_in v7 3 ∧
        q_X1_namesBeyond h5 (hp_shl (nI 1) v7) (h5 8 v7.toNatClampNeg) (fun r9 =>
        (r9 = 0 →
          ∀ v11 : Int32, v11 = v7 + (nI 1) →
          B6 v11) ∧ (¬ r9 = 0 →
          Q (nI 0) h5)))) (nI 0)))
set_option maxRecDepth 100000 in
def q_X7_clear (w : Nat) (h : hp_H) (Q : hp_H → Prop) : Prop :=
  q_J7_fill_53178 w 13 h (nI 0) (fun h1 =>
  Q h1)
set_option maxRecDepth 100000 in
def q_X10_firstOf (vk vt vl vh vf vn vm : Nat) (h : hp_H) (a1 a2 : Int32) (Q : Int32 → Prop) : Prop :=
  vp_in ((a1 * (h vk 1)) + a2) vm ∧
  Q (h vf ((a1 * (h vk 1)) + a2).toNatClampNeg)
set_option maxRecDepth 100000 in
def q_X7_setShared (w : Nat) (h : hp_H) (a1 a2 : Int32) (Q : hp_H → Prop) : Prop :=
  vp_in (nI 0) 13 ∧
  vp_in (nI 0) 13 ∧
  ∀ h1 : hp_H, h1 = hp_up h w (nI 0).toNatClampNeg (((h w (nI 0).toNatClampNeg) &&& ((hp_shl (nI 15) ((nI 4) * a1)) ^^^ (-1))) ||| (hp_shl a2 ((nI 4) * a1))) →
  Q h1
set_option maxRecDepth 100000 in
def q_X7_setOwn (w : Nat) (h : hp_H) (a1 a2 a3 a4 : Int32) (Q : hp_H → Prop) : Prop :=
  ∀ v1 : Int32, v1 = (((nI 1) + (a1 * (nI 3))) + a2) →
  ∀ v2 : Int32, v2 = ((nI 8) - ((nI 4) * a3)) →
  vp_in v1 13 ∧
  vp_in v1 13 ∧
  ∀ h3 : hp_H, h3 = hp_up h w v1.toNatClampNeg (((h w v1.toNatClampNeg) &&& ((hp_shl (nI 15) v2) ^^^ (-1))) ||| (hp_shl a4 v2)) →
  Q h3
set_option maxRecDepth 100000 in
def q_X4_setFirst (h : hp_H) (Q : hp_H → Prop) : Prop :=
  q_X7_clear 48 h (fun h1 =>
  hp_lp1h (fun v3 h4 B2 =>
    vp_in (nI 0) 1 ∧
    ((h4 3 (nI 0).toNatClampNeg) ≤ v3 →
      hp_lp1h (fun v7 h8 B6 =>
        ((h8 12 1) ≤ v7 →
          Q h8) ∧ (¬ (h8 12 1) ≤ v7 →
          hp_lp1h (fun v11 h12 B10 =>
            vp_in v7 3 ∧
            ((h12 13 v7.toNatClampNeg) ≤ v11 →
              ∀ v14 : Int32, v14 = v7 + (nI 1) →
              B6 v14 h12) ∧ (¬ (h12 13 v7.toNatClampNeg) ≤ v11 →
              hp_lp1h (fun v16 h17 B15 =>
                vp_in v7 3 ∧
                ((h17 8 v7.toNatClampNeg) ≤ v16 →
                  ∀ v19 : Int32, v19 = v11 + (nI 1) →
                  B10 v19 h17) ∧ (¬ (h17 8 v7.toNatClampNeg) ≤ v16 →
                  q_X10_firstOf 7 8 9 10 11 3 9 h17 v7 v16 (fun r20 =>
                  q_X7_setOwn 48 h17 v7 v11 v16 r20 (fun h21 =>
                  ∀ v22 : Int32, v22 = v16 + (nI 1) →
                  B15 v22 h21)))) (nI 0) h12)) (nI 0) h8)) (nI 0) h4) ∧ (¬ (h4 3 (nI 0).toNatClampNeg) ≤ v3 →
      q_X10_firstOf 2 3 4 5 6 1 6 h4 (nI 0) v3 (fun r23 =>
      q_X7_setShared 48 h4 v3 r23 (fun h24 =>
      ∀ v25 : Int32, v25 = v3 + (nI 1) →
      B2 v25 h24)))) (nI 0) h1)
set_option maxRecDepth 100000 in
def q_X7_placeOf (w : Nat) (h : hp_H) (a1 a2 : Int32) (Q : Int32 → Prop) : Prop :=
  vp_in (((nI 1) + (a1 * (nI 3))) + a2) 13 ∧
  Q (hp_ushr (h w (((nI 1) + (a1 * (nI 3))) + a2).toNatClampNeg) (nI 12))
set_option maxRecDepth 100000 in
def q_X6_isEnd (h : hp_H) (a1 a2 : Int32) (Q : Int32 → Prop) : Prop :=
  vp_in a1 3 ∧
  (((hp_ushr (h 14 a1.toNatClampNeg) a2) &&& (nI 1)) = (nI 1) →
    Q (nI 1)) ∧ (¬ ((hp_ushr (h 14 a1.toNatClampNeg) a2) &&& (nI 1)) = (nI 1) →
    Q (nI 0))
set_option maxRecDepth 100000 in
def q_X4_someAtNoEnd (h : hp_H) (Q : Int32 → Prop) : Prop :=
  hp_lp1 (fun v2 B1 =>
    ((h 12 1) ≤ v2 →
      Q (nI 0)) ∧ (¬ (h 12 1) ≤ v2 →
      hp_lp1 (fun v5 B4 =>
        vp_in v2 3 ∧
        ((h 13 v2.toNatClampNeg) ≤ v5 →
          ∀ v7 : Int32, v7 = v2 + (nI 1) →
          B1 v7) ∧ (¬ (h 13 v2.toNatClampNeg) ≤ v5 →
          q_X7_placeOf 52 h v2 v5 (fun r8 =>
          q_X6_isEnd h v2 r8 (fun r9 =>
          (r9 = 0 →
            Q (nI 1)) ∧ (¬ r9 = 0 →
            ∀ v11 : Int32, v11 = v5 + (nI 1) →
            B4 v11))))) (nI 0))) (nI 0)
set_option maxRecDepth 100000 in
def q_X6_add (h : hp_H) (a1 : Int32) (Q : Int32 → hp_H → Prop) : Prop :=
  vp_in (h 12 1) 3 ∧
  ∀ h1 : hp_H, h1 = hp_up h 13 (h 12 1).toNatClampNeg a1 →
  ∀ v2 : Int32, v2 = (h1 12 1) →
  ∀ h3 : hp_H, h3 = hp_up h1 12 1 (v2 + (nI 1)) →
  Q v2 h3
set_option maxRecDepth 100000 in
def q_X6_setEnd (h : hp_H) (a1 a2 : Int32) (Q : hp_H → Prop) : Prop :=
  vp_in a1 3 ∧
  vp_in a1 3 ∧
  ∀ h1 : hp_H, h1 = hp_up h 14 a1.toNatClampNeg ((h 14 a1.toNatClampNeg) ||| (hp_shl (nI 1) a2)) →
  Q h1
set_option maxRecDepth 100000 in
def q_X7_copy (w w_1 : Nat) (h : hp_H) (Q : hp_H → Prop) : Prop :=
  (¬ (nI 0) < 0 ∧ ¬ (nI 0) < 0 ∧ ¬ (nI 13) < 0 ∧ (nI 0).toNatClampNeg + (nI 13).toNatClampNeg ≤ 13 ∧ (nI 0).toNatClampNeg + (nI 13).toNatClampNeg ≤ 13) ∧
  ∀ h1 : hp_H, h1 = hp_cp h w_1 w (nI 0).toNatClampNeg (nI 0).toNatClampNeg (nI 13).toNatClampNeg →
  Q h1
set_option maxRecDepth 100000 in
def q_X7_setPlace (w : Nat) (h : hp_H) (a1 a2 a3 : Int32) (Q : hp_H → Prop) : Prop :=
  ∀ v1 : Int32, v1 = (((nI 1) + (a1 * (nI 3))) + a2) →
  vp_in v1 13 ∧
  vp_in v1 13 ∧
  ∀ h2 : hp_H, h2 = hp_up h w v1.toNatClampNeg (((h w v1.toNatClampNeg) &&& (-61441)) ||| (hp_shl a3 (nI 12))) →
  Q h2
set_option maxRecDepth 100000 in
def q_X7_letterAt (w : Nat) (h : hp_H) (a1 a2 : Int32) (Q : Int32 → Prop) : Prop :=
  vp_in ((nI 10) + a1) 13 ∧
  Q ((hp_ushr (h w ((nI 10) + a1).toNatClampNeg) ((nI 4) * a2)) &&& (nI 15))
set_option maxRecDepth 100000 in
def q_X7_put (w : Nat) (h : hp_H) (a1 a2 : Int32) (Q : hp_H → Prop) : Prop :=
  vp_in ((nI 10) + a1) 13 ∧
  ∀ v1 : Int32, v1 = (h w ((nI 10) + a1).toNatClampNeg) →
  ∀ v2 : Int32, v2 = (hp_ushr v1 (nI 12)) →
  vp_in ((nI 10) + a1) 13 ∧
  ∀ h3 : hp_H, h3 = hp_up h w ((nI 10) + a1).toNatClampNeg (((v1 &&& (nI 4095)) ||| (hp_shl a2 ((nI 4) * v2))) ||| (hp_shl (v2 + (nI 1)) (nI 12))) →
  Q h3
set_option maxRecDepth 100000 in
def q_X7_take (w : Nat) (h : hp_H) (a1 a2 : Int32) (Q : hp_H → Prop) : Prop :=
  vp_in ((nI 10) + a1) 13 ∧
  ∀ v1 : Int32, v1 = (h w ((nI 10) + a1).toNatClampNeg) →
  ∀ v2 : Int32, v2 = (v1 &&& (nI 4095)) →
  ∀ v3 : Int32, v3 = (v2 &&& ((hp_shl (nI 1) ((nI 4) * a2)) - (nI 1))) →
  ∀ v4 : Int32, v4 = (hp_shl (hp_ushr v2 ((nI 4) * (a2 + (nI 1)))) ((nI 4) * a2)) →
  vp_in ((nI 10) + a1) 13 ∧
  ∀ h5 : hp_H, h5 = hp_up h w ((nI 10) + a1).toNatClampNeg ((v3 ||| v4) ||| (hp_shl ((hp_ushr v1 (nI 12)) - (nI 1)) (nI 12))) →
  Q h5
set_option maxRecDepth 100000 in
def q_X7_isFirstOfLike (w : Nat) (h : hp_H) (a1 a2 : Int32) (Q : Int32 → Prop) : Prop :=
  vp_in ((nI 10) + a1) 13 ∧
  ∀ v1 : Int32, v1 = (h w ((nI 10) + a1).toNatClampNeg) →
  hp_lp1 (fun v3 B2 =>
    (a2 ≤ v3 →
      Q (nI 1)) ∧ (¬ a2 ≤ v3 →
      (((hp_ushr v1 ((nI 4) * v3)) &&& (nI 15)) = ((hp_ushr v1 ((nI 4) * a2)) &&& (nI 15)) →
        Q (nI 0)) ∧ (¬ ((hp_ushr v1 ((nI 4) * v3)) &&& (nI 15)) = ((hp_ushr v1 ((nI 4) * a2)) &&& (nI 15)) →
        ∀ v6 : Int32, v6 = v3 + (nI 1) →
        B2 v6))) (nI 0)
set_option maxRecDepth 100000 in
def q_X7_nextUnlike (w : Nat) (h : hp_H) (a1 a2 : Int32) (Q : Int32 → Prop) : Prop :=
  ∀ v1 : Int32, v1 = (a2 + (nI 1)) →
  hp_lp1 (fun v3 B2 =>
    q_X7_held w h a1 (fun r4 =>
    (r4 ≤ v3 →
      Q (-1)) ∧ (¬ r4 ≤ v3 →
      q_X7_isFirstOfLike w h a1 v3 (fun r6 =>
      (r6 = 0 →
        ∀ v8 : Int32, v8 = v3 + (nI 1) →
        B2 v8) ∧ (¬ r6 = 0 →
        Q v3))))) v1
set_option maxRecDepth 100000 in
def q_X7_arrange (w : Nat) (h : hp_H) (a1 a2 : Int32) (Q : hp_H → Prop) : Prop :=
  ∀ v1 : Int32, v1 = ((nI 1) + (a1 * (nI 3))) →
  ∀ v2 : Int32, v2 = ((v1 + a2) - (nI 1)) →
  hp_lp1h (fun v4 h5 B3 =>
    (v4 ≤ v1 →
      Q h5) ∧ (¬ v4 ≤ v1 →
      hp_lp1h (fun v8 h9 B7 =>
        (v4 ≤ v8 →
          ∀ v11 : Int32, v11 = v4 + (-1) →
          B3 v11 h9) ∧ (¬ v4 ≤ v8 →
          vp_in v8 13 ∧
          vp_in (v8 + (nI 1)) 13 ∧
          hp_jn0h (fun K13 =>
            ((h9 w v8.toNatClampNeg) ≤ (h9 w (v8 + (nI 1)).toNatClampNeg) →
              K13 h9) ∧ (¬ (h9 w v8.toNatClampNeg) ≤ (h9 w (v8 + (nI 1)).toNatClampNeg) →
              vp_in v8 13 ∧
              ∀ v15 : Int32, v15 = (h9 w v8.toNatClampNeg) →
              vp_in (v8 + (nI 1)) 13 ∧
              vp_in v8 13 ∧
              ∀ h16 : hp_H, h16 = hp_up h9 w v8.toNatClampNeg (h9 w (v8 + (nI 1)).toNatClampNeg) →
              vp_in (v8 + (nI 1)) 13 ∧
              ∀ h17 : hp_H, h17 = hp_up h16 w (v8 + (nI 1)).toNatClampNeg v15 →
              K13 h17)) (fun h14 =>
            ∀ v18 : Int32, v18 = v8 + (nI 1) →
            B7 v18 h14))) v1 h5)) v2 h
set_option maxRecDepth 100000 in
def q_X8_start (h : hp_H) (Q : hp_H → Prop) : Prop :=
  q_X4_setFirst h (fun h1 =>
  q_X2_begin h1 (fun h2 =>
  Q h2))
set_option maxRecDepth 100000 in
def q_X8_canDo (h : hp_H) (a1 : Int32) (Q : Int32 → Prop) : Prop :=
  vp_in a1 24 ∧
  ∀ v1 : Int32, v1 = (h 27 a1.toNatClampNeg) →
  hp_jn0 (fun K3 =>
    (v1 = (-1) →
      K3) ∧ (¬ v1 = (-1) →
      vp_in v1 80 ∧
      ((h 16 v1.toNatClampNeg) = 0 →
        Q (nI 0)) ∧ (¬ (h 16 v1.toNatClampNeg) = 0 →
        K3))) (
    ∀ v5 : Int32, v5 = (a1 * (nI 4)) →
    hp_lp1 (fun v7 B6 =>
      vp_in a1 24 ∧
      (((a1 * (nI 4)) + (h 28 a1.toNatClampNeg)) ≤ v7 →
        Q (nI 1)) ∧ (¬ ((a1 * (nI 4)) + (h 28 a1.toNatClampNeg)) ≤ v7 →
        vp_in v7 96 ∧
        ∀ v9 : Int32, v9 = (h 30 v7.toNatClampNeg) →
        vp_in v7 96 ∧
        hp_jn0 (fun K11 =>
          ((h 29 v7.toNatClampNeg) = (nI 2) →
            q_X7_held 46 h v9 (fun r12 =>
            vp_in v9 3 ∧
            (r12 < (h 32 v9.toNatClampNeg) →
              K11) ∧ (¬ r12 < (h 32 v9.toNatClampNeg) →
              Q (nI 0)))) ∧ (¬ (h 29 v7.toNatClampNeg) = (nI 2) →
            K11)) (
          vp_in v7 96 ∧
          hp_jn0 (fun K15 =>
            ((h 29 v7.toNatClampNeg) = (nI 3) →
              q_X7_held 46 h v9 (fun r16 =>
              (r16 = 0 →
                Q (nI 0)) ∧ (¬ r16 = 0 →
                K15))) ∧ (¬ (h 29 v7.toNatClampNeg) = (nI 3) →
              K15)) (
            ∀ v18 : Int32, v18 = v7 + (nI 1) →
            B6 v18)))) v5)
set_option maxRecDepth 100000 in
def q_X10_allows (vk vt vl vh vf vn vm : Nat) (h : hp_H) (a1 a2 a3 : Int32) (Q : Int32 → Prop) : Prop :=
  vp_in ((a1 * (h vk 1)) + a2) vm ∧
  (a3 < (h vl ((a1 * (h vk 1)) + a2).toNatClampNeg) →
    Q (nI 0)) ∧ (¬ a3 < (h vl ((a1 * (h vk 1)) + a2).toNatClampNeg) →
    vp_in ((a1 * (h vk 1)) + a2) vm ∧
    ((h vh ((a1 * (h vk 1)) + a2).toNatClampNeg) < a3 →
      Q (nI 0)) ∧ (¬ (h vh ((a1 * (h vk 1)) + a2).toNatClampNeg) < a3 →
      Q (nI 1)))
set_option maxRecDepth 100000 in
def q_X8_giveShared (h : hp_H) (a1 a2 : Int32) (Q : Int32 → hp_H → Prop) : Prop :=
  q_X10_allows 2 3 4 5 6 1 6 h (nI 0) a1 a2 (fun r1 =>
  (r1 = 0 →
    Q (nI 0) h) ∧ (¬ r1 = 0 →
    q_X7_setShared 48 h a1 a2 (fun h3 =>
    Q (nI 1) h3)))
set_option maxRecDepth 100000 in
def q_X8_giveOwn (h : hp_H) (a1 a2 a3 a4 : Int32) (Q : Int32 → hp_H → Prop) : Prop :=
  q_X10_allows 7 8 9 10 11 3 9 h a1 a3 a4 (fun r1 =>
  (r1 = 0 →
    Q (nI 0) h) ∧ (¬ r1 = 0 →
    q_X7_setOwn 48 h a1 a2 a3 a4 (fun h3 =>
    Q (nI 1) h3)))
set_option maxRecDepth 100000 in
def q_X11_isDigit (a0 : Int32) (Q : Int32 → Prop) : Prop :=
  (a0 < 0 →
    Q (nI 0)) ∧ (¬ a0 < 0 →
    ((nI 9) < a0 →
      Q (nI 0)) ∧ (¬ (nI 9) < a0 →
      Q (nI 1)))
set_option maxRecDepth 100000 in
def q_X8_send (h : hp_H) (a1 a2 : Int32) (Q : Int32 → hp_H → Prop) : Prop :=
  q_X11_isDigit a2 (fun r1 =>
  (r1 = 0 →
    Q (nI 0) h) ∧ (¬ r1 = 0 →
    q_X7_put 48 h a1 a2 (fun h3 =>
    Q (nI 1) h3)))
set_option maxRecDepth 100000 in
def q_X8_doActs (h : hp_H) (a1 a2 a3 : Int32) (Q : Int32 → hp_H → Prop) : Prop :=
  hp_lp1h (fun v2 h3 B1 =>
    vp_in a3 24 ∧
    ((h3 28 a3.toNatClampNeg) ≤ v2 →
      Q (nI 1) h3) ∧ (¬ (h3 28 a3.toNatClampNeg) ≤ v2 →
      ∀ v5 : Int32, v5 = ((a3 * (nI 4)) + v2) →
      vp_in v5 96 ∧
      ∀ v6 : Int32, v6 = (h3 30 v5.toNatClampNeg) →
      vp_in v5 96 ∧
      ∀ v7 : Int32, v7 = (h3 29 v5.toNatClampNeg) →
      hp_jn1h (fun K8 =>
        ((v7 = (nI 0)) →
          vp_in v5 96 ∧
          vp_in (h3 31 v5.toNatClampNeg) 80 ∧
          q_X8_giveShared h3 v6 (h3 16 (h3 31 v5.toNatClampNeg).toNatClampNeg) (fun r11 h12 =>
          K8 r11 h12))
        ∧ ((v7 = (nI 1)) →
          vp_in v5 96 ∧
          vp_in (h3 31 v5.toNatClampNeg) 80 ∧
          q_X8_giveOwn h3 a1 a2 v6 (h3 16 (h3 31 v5.toNatClampNeg).toNatClampNeg) (fun r13 h14 =>
          K8 r13 h14))
        ∧ ((v7 = (nI 2)) →
          vp_in v5 96 ∧
          vp_in (h3 31 v5.toNatClampNeg) 80 ∧
          q_X8_send h3 v6 (h3 16 (h3 31 v5.toNatClampNeg).toNatClampNeg) (fun r15 h16 =>
          K8 r15 h16))
        ∧ ((¬ v7 = (nI 0) ∧ ¬ v7 = (nI 1) ∧ ¬ v7 = (nI 2)) →
          vp_in v2 4 ∧
          q_X7_take 48 h3 v6 (h3 49 v2.toNatClampNeg) (fun h17 =>
          vp_in v5 96 ∧
          vp_in v2 4 ∧
          q_X7_letterAt 46 h17 v6 (h17 49 v2.toNatClampNeg) (fun r18 =>
          q_X8_giveOwn h17 a1 a2 (h17 31 v5.toNatClampNeg) r18 (fun r19 h20 =>
          K8 r19 h20))))) (fun v9 h10 =>
        (v9 = 0 →
          Q (nI 0) h10) ∧ (¬ v9 = 0 →
          ∀ v25 : Int32, v25 = v2 + (nI 1) →
          B1 v25 h10)))) (nI 0) h
set_option maxRecDepth 100000 in
def q_X8_takeAlike (h : hp_H) (a1 : Int32) (Q : hp_H → Prop) : Prop :=
  ((h 1 9) = 0 →
    Q h) ∧ (¬ (h 1 9) = 0 →
    vp_in a1 3 ∧
    q_X7_arrange 48 h a1 (h 13 a1.toNatClampNeg) (fun h2 =>
    Q h2))
set_option maxRecDepth 100000 in
def q_X8_pickNext (h : hp_H) (a1 : Int32) (Q : Int32 → hp_H → Prop) : Prop :=
  vp_in a1 24 ∧
  ∀ v1 : Int32, v1 = ((h 28 a1.toNatClampNeg) - (nI 1)) →
  hp_lp1h (fun v3 h4 B2 =>
    (v3 < 0 →
      Q (nI 0) h4) ∧ (¬ v3 < 0 →
      ∀ v6 : Int32, v6 = ((a1 * (nI 4)) + v3) →
      vp_in v6 96 ∧
      ∀ v7 : Int32, v7 = (h4 30 v6.toNatClampNeg) →
      vp_in v6 96 ∧
      hp_jn0h (fun K9 =>
        ((h4 29 v6.toNatClampNeg) = (nI 3) →
          vp_in v7 3 ∧
          ((h4 33 v7.toNatClampNeg) = 0 →
            K9 h4) ∧ (¬ (h4 33 v7.toNatClampNeg) = 0 →
            vp_in v3 4 ∧
            q_X7_nextUnlike 46 h4 v7 (h4 49 v3.toNatClampNeg) (fun r12 =>
            (r12 = (-1) →
              vp_in v3 4 ∧
              ∀ h14 : hp_H, h14 = hp_up h4 49 v3.toNatClampNeg (nI 0) →
              K9 h14) ∧ (¬ r12 = (-1) →
              vp_in v3 4 ∧
              ∀ h15 : hp_H, h15 = hp_up h4 49 v3.toNatClampNeg r12 →
              Q (nI 1) h15)))) ∧ (¬ (h4 29 v6.toNatClampNeg) = (nI 3) →
          K9 h4)) (fun h10 =>
        ∀ v16 : Int32, v16 = v3 + (-1) →
        B2 v16 h10))) v1 h
set_option maxRecDepth 100000 in
def q_X8_goWays (h : hp_H) (a1 a2 a3 : Int32) (Q : hp_H → Prop) : Prop :=
  vp_in a3 24 ∧
  ∀ v1 : Int32, v1 = (h 24 a3.toNatClampNeg) →
  q_J7_fill_53178 49 4 h (nI 0) (fun h2 =>
  hp_lp2h (fun v4 v5 h6 B3 =>
    ((nI 27) ≤ v5 →
      Q h6) ∧ (¬ (nI 27) ≤ v5 →
      (v4 = 0 →
        Q h6) ∧ (¬ v4 = 0 →
        ((h6 35 1) = 0 →
          q_X7_copy 48 46 h6 (fun h10 =>
          q_X8_doActs h10 v1 a2 a3 (fun r11 h12 =>
          hp_jn0h (fun K14 =>
            (r11 = 0 →
              q_X2_noteFault h12 a1 v1 a2 a3 (fun h16 =>
              K14 h16)) ∧ (¬ r11 = 0 →
              vp_in a3 24 ∧
              q_X7_setPlace 48 h12 v1 a2 (h12 26 a3.toNatClampNeg) (fun h17 =>
              q_X8_takeAlike h17 v1 (fun h18 =>
              q_X2_mover v1 a2 a3 (fun r19 =>
              q_X2_addMove h18 a1 r19 (fun h20 =>
              K14 h20)))))) (fun h15 =>
            q_X8_pickNext h15 a3 (fun r21 h22 =>
            ∀ v23 : Int32, v23 = v5 + (nI 1) →
            B3 r21 v23 h22))))) ∧ (¬ (h6 35 1) = 0 →
          Q h6)))) (nI 1) (nI 0) h2)
set_option maxRecDepth 100000 in
def q_X8_goMember (h : hp_H) (a1 a2 a3 : Int32) (Q : hp_H → Prop) : Prop :=
  q_X7_placeOf 46 h a2 a3 (fun r1 =>
  hp_lp2h (fun v3 v4 h5 B2 =>
    ((h5 23 8) ≤ v4 →
      Q h5) ∧ (¬ (h5 23 8) ≤ v4 →
      ((h5 35 1) = 0 →
        vp_in v4 24 ∧
        hp_jn1h (fun K9 =>
          ((h5 24 v4.toNatClampNeg) = a2 →
            vp_in v4 24 ∧
            ((h5 25 v4.toNatClampNeg) = r1 →
              hp_jn1h (fun K14 =>
                (v3 = 0 →
                  q_X1_reckon 46 h5 a2 a3 (hp_shl (nI 1) a2) (fun h17 =>
                  K14 (nI 1) h17)) ∧ (¬ v3 = 0 →
                  K14 v3 h5)) (fun v15 h16 =>
                q_X8_canDo h16 v4 (fun r18 =>
                (r18 = 0 →
                  K9 v15 h16) ∧ (¬ r18 = 0 →
                  q_X8_goWays h16 a1 a3 v4 (fun h20 =>
                  K9 v15 h20))))) ∧ (¬ (h5 25 v4.toNatClampNeg) = r1 →
              K9 v3 h5)) ∧ (¬ (h5 24 v4.toNatClampNeg) = a2 →
            K9 v3 h5)) (fun v10 h11 =>
          ∀ v21 : Int32, v21 = v4 + (nI 1) →
          B2 v10 v21 h11)) ∧ (¬ (h5 35 1) = 0 →
        Q h5))) (nI 0) (nI 0) h)
set_option maxRecDepth 100000 in
def q_X8_lose (h : hp_H) (a1 a2 : Int32) (Q : hp_H → Prop) : Prop :=
  q_X7_nextUnlike 46 h a2 (-1) (fun r1 =>
  hp_lp2h (fun v3 v4 h5 B2 =>
    ((nI 3) ≤ v4 →
      Q h5) ∧ (¬ (nI 3) ≤ v4 →
      (v3 = (-1) →
        Q h5) ∧ (¬ v3 = (-1) →
        ((h5 35 1) = 0 →
          q_X7_copy 48 46 h5 (fun h9 =>
          q_X7_take 48 h9 a2 v3 (fun h10 =>
          q_X2_addMove h10 a1 (-1) (fun h11 =>
          q_X7_nextUnlike 46 h11 a2 v3 (fun r12 =>
          ∀ v13 : Int32, v13 = v4 + (nI 1) →
          B2 r12 v13 h11))))) ∧ (¬ (h5 35 1) = 0 →
          Q h5)))) r1 (nI 0) h)
set_option maxRecDepth 100000 in
def q_X8_goThrough (h : hp_H) (a1 : Int32) (Q : hp_H → Prop) : Prop :=
  q_X2_load 46 h a1 (fun h1 =>
  vp_in a1 401 ∧
  ∀ h2 : hp_H, h2 = hp_up h1 36 a1.toNatClampNeg (h1 35 3) →
  hp_lp1h (fun v4 h5 B3 =>
    ((h5 12 1) ≤ v4 →
      hp_lp1h (fun v8 h9 B7 =>
        hp_jn0 (fun K11 =>
          ((h9 1 8) ≤ v8 →
            K11) ∧ (¬ (h9 1 8) ≤ v8 →
            ((h9 35 1) = 0 →
              vp_in v8 3 ∧
              hp_jn0h (fun K14 =>
                ((h9 34 v8.toNatClampNeg) = 0 →
                  K14 h9) ∧ (¬ (h9 34 v8.toNatClampNeg) = 0 →
                  q_X8_lose h9 a1 v8 (fun h16 =>
                  K14 h16))) (fun h15 =>
                ∀ v17 : Int32, v17 = v8 + (nI 1) →
                B7 v17 h15)) ∧ (¬ (h9 35 1) = 0 →
              K11))) (
          vp_in (a1 + (nI 1)) 401 ∧
          ∀ h18 : hp_H, h18 = hp_up h9 36 (a1 + (nI 1)).toNatClampNeg (h9 35 3) →
          Q h18)) (nI 0) h5) ∧ (¬ (h5 12 1) ≤ v4 →
      hp_lp1h (fun v20 h21 B19 =>
        vp_in v4 3 ∧
        hp_jn0 (fun K23 =>
          ((h21 13 v4.toNatClampNeg) ≤ v20 →
            K23) ∧ (¬ (h21 13 v4.toNatClampNeg) ≤ v20 →
            ((h21 35 1) = 0 →
              q_X8_goMember h21 a1 v4 v20 (fun h25 =>
              ∀ v26 : Int32, v26 = v20 + (nI 1) →
              B19 v26 h25)) ∧ (¬ (h21 35 1) = 0 →
              K23))) (
          ∀ v27 : Int32, v27 = v4 + (nI 1) →
          B3 v27 h21)) (nI 0) h5)) (nI 0) h2)
set_option maxRecDepth 100000 in
def q_X9_has (h : hp_H) (a1 : Int32) (Q : Int32 → Prop) : Prop :=
  (a1 < 0 →
    Q (nI 0)) ∧ (¬ a1 < 0 →
    ((h 23 8) ≤ a1 →
      Q (nI 0)) ∧ (¬ (h 23 8) ≤ a1 →
      Q (nI 1)))
set_option maxRecDepth 100000 in
def q_X9_add (h : hp_H) (a1 a2 a3 a4 : Int32) (Q : Int32 → hp_H → Prop) : Prop :=
  vp_in (h 23 8) 24 ∧
  ∀ h1 : hp_H, h1 = hp_up h 24 (h 23 8).toNatClampNeg a1 →
  vp_in (h1 23 8) 24 ∧
  ∀ h2 : hp_H, h2 = hp_up h1 25 (h1 23 8).toNatClampNeg a2 →
  vp_in (h2 23 8) 24 ∧
  ∀ h3 : hp_H, h3 = hp_up h2 26 (h2 23 8).toNatClampNeg a3 →
  vp_in (h3 23 8) 24 ∧
  ∀ h4 : hp_H, h4 = hp_up h3 27 (h3 23 8).toNatClampNeg a4 →
  ∀ v5 : Int32, v5 = (h4 23 8) →
  ∀ h6 : hp_H, h6 = hp_up h4 23 8 (v5 + (nI 1)) →
  Q v5 h6
set_option maxRecDepth 100000 in
def q_X9_hasLetterAct (h : hp_H) (a1 a2 a3 : Int32) (Q : Int32 → Prop) : Prop :=
  hp_jn0 (fun K2 =>
    (a2 = (nI 2) →
      K2) ∧ (¬ a2 = (nI 2) →
      (a2 = (nI 3) →
        K2) ∧ (¬ a2 = (nI 3) →
        Q (nI 0)))) (
    ∀ v4 : Int32, v4 = (a1 * (nI 4)) →
    hp_lp1 (fun v6 B5 =>
      vp_in a1 24 ∧
      (((a1 * (nI 4)) + (h 28 a1.toNatClampNeg)) ≤ v6 →
        Q (nI 0)) ∧ (¬ ((a1 * (nI 4)) + (h 28 a1.toNatClampNeg)) ≤ v6 →
        vp_in v6 96 ∧
        hp_jn0 (fun K9 =>
          ((h 29 v6.toNatClampNeg) = a2 →
            vp_in v6 96 ∧
            ((h 30 v6.toNatClampNeg) = a3 →
              Q (nI 1)) ∧ (¬ (h 30 v6.toNatClampNeg) = a3 →
              K9)) ∧ (¬ (h 29 v6.toNatClampNeg) = a2 →
            K9)) (
          ∀ v11 : Int32, v11 = v6 + (nI 1) →
          B5 v11))) v4)
set_option maxRecDepth 100000 in
def q_X9_addAct (h : hp_H) (a1 a2 a3 a4 : Int32) (Q : Int32 → hp_H → Prop) : Prop :=
  vp_in a1 24 ∧
  ∀ v1 : Int32, v1 = ((a1 * (nI 4)) + (h 28 a1.toNatClampNeg)) →
  vp_in v1 96 ∧
  ∀ h2 : hp_H, h2 = hp_up h 29 v1.toNatClampNeg a2 →
  vp_in v1 96 ∧
  ∀ h3 : hp_H, h3 = hp_up h2 30 v1.toNatClampNeg a3 →
  vp_in v1 96 ∧
  ∀ h4 : hp_H, h4 = hp_up h3 31 v1.toNatClampNeg a4 →
  vp_in a1 24 ∧
  vp_in a1 24 ∧
  ∀ h5 : hp_H, h5 = hp_up h4 28 a1.toNatClampNeg ((h4 28 a1.toNatClampNeg) + (nI 1)) →
  vp_in a1 24 ∧
  Q (h5 28 a1.toNatClampNeg) h5
set_option maxRecDepth 100000 in
def q_X10_fits (a0 a1 a2 : Int32) (Q : Int32 → Prop) : Prop :=
  (a0 < 0 →
    Q (nI 0)) ∧ (¬ a0 < 0 →
    ((nI 9) < a1 →
      Q (nI 0)) ∧ (¬ (nI 9) < a1 →
      (a2 < a0 →
        Q (nI 0)) ∧ (¬ a2 < a0 →
        (a1 < a2 →
          Q (nI 0)) ∧ (¬ a1 < a2 →
          Q (nI 1)))))
set_option maxRecDepth 100000 in
def q_X10_isFull (vk vt vl vh vf vn vm : Nat) (h : hp_H) (a1 : Int32) (Q : Int32 → Prop) : Prop :=
  vp_in a1 vn ∧
  ((h vt a1.toNatClampNeg) = (h vk 1) →
    Q (nI 1)) ∧ (¬ (h vt a1.toNatClampNeg) = (h vk 1) →
    Q (nI 0))
set_option maxRecDepth 100000 in
def q_X10_add (vk vt vl vh vf vn vm : Nat) (h : hp_H) (a1 a2 a3 a4 : Int32) (Q : Int32 → hp_H → Prop) : Prop :=
  vp_in a1 vn ∧
  ∀ v1 : Int32, v1 = (h vt a1.toNatClampNeg) →
  vp_in a1 vn ∧
  ∀ h2 : hp_H, h2 = hp_up h vt a1.toNatClampNeg (v1 + (nI 1)) →
  vp_in ((a1 * (h2 vk 1)) + v1) vm ∧
  ∀ h3 : hp_H, h3 = hp_up h2 vl ((a1 * (h2 vk 1)) + v1).toNatClampNeg a2 →
  vp_in ((a1 * (h3 vk 1)) + v1) vm ∧
  ∀ h4 : hp_H, h4 = hp_up h3 vh ((a1 * (h3 vk 1)) + v1).toNatClampNeg a3 →
  vp_in ((a1 * (h4 vk 1)) + v1) vm ∧
  ∀ h5 : hp_H, h5 = hp_up h4 vf ((a1 * (h4 vk 1)) + v1).toNatClampNeg a4 →
  Q v1 h5
set_option maxRecDepth 100000 in
def q_X11_endSearch (h : hp_H) (Q : hp_H → Prop) : Prop :=
  q_X2_clear h (fun h1 =>
  q_X0_forget h1 (fun h2 =>
  Q h2))
set_option maxRecDepth 100000 in
def q_X11_shared (h : hp_H) (a1 a2 a3 : Int32) (Q : Int32 → hp_H → Prop) : Prop :=
  q_X10_fits a1 a2 a3 (fun r1 =>
  (r1 = 0 →
    Q (-3) h) ∧ (¬ r1 = 0 →
    q_X10_isFull 2 3 4 5 6 1 6 h (nI 0) (fun r3 =>
    (r3 = 0 →
      q_X11_endSearch h (fun h5 =>
      q_X10_add 2 3 4 5 6 1 6 h5 (nI 0) a1 a2 a3 (fun r6 h7 =>
      Q r6 h7))) ∧ (¬ r3 = 0 →
      Q (-6) h))))
set_option maxRecDepth 100000 in
def q_X11_role (h : hp_H) (a1 : Int32) (Q : Int32 → hp_H → Prop) : Prop :=
  (a1 < (nI 1) →
    Q (-3) h) ∧ (¬ a1 < (nI 1) →
    (a1 ≤ (nI 3) →
      ((h 12 1) = (nI 3) →
        Q (-6) h) ∧ (¬ (h 12 1) = (nI 3) →
        q_X11_endSearch h (fun h4 =>
        q_X6_add h4 a1 (fun r5 h6 =>
        Q r5 h6)))) ∧ (¬ a1 ≤ (nI 3) →
      Q (-3) h))
set_option maxRecDepth 100000 in
def q_X11_own (h : hp_H) (a1 a2 a3 a4 : Int32) (Q : Int32 → hp_H → Prop) : Prop :=
  q_X6_has h a1 (fun r1 =>
  (r1 = 0 →
    Q (-2) h) ∧ (¬ r1 = 0 →
    q_X10_fits a2 a3 a4 (fun r3 =>
    (r3 = 0 →
      Q (-3) h) ∧ (¬ r3 = 0 →
      q_X10_isFull 7 8 9 10 11 3 9 h a1 (fun r5 =>
      (r5 = 0 →
        q_X11_endSearch h (fun h7 =>
        q_X10_add 7 8 9 10 11 3 9 h7 a1 a2 a3 a4 (fun r8 h9 =>
        Q r8 h9))) ∧ (¬ r5 = 0 →
        Q (-6) h))))))
set_option maxRecDepth 100000 in
def q_X11_asNumber (a0 : Int32) (Q : Int32 → Prop) : Prop :=
  (a0 = 0 →
    Q (nI 0)) ∧ (¬ a0 = 0 →
    Q (nI 1))
set_option maxRecDepth 100000 in
def q_X11_end (h : hp_H) (a1 a2 : Int32) (Q : Int32 → hp_H → Prop) : Prop :=
  q_X6_has h a1 (fun r1 =>
  (r1 = 0 →
    Q (-2) h) ∧ (¬ r1 = 0 →
    q_X11_isDigit a2 (fun r3 =>
    (r3 = 0 →
      Q (-3) h) ∧ (¬ r3 = 0 →
      q_X11_endSearch h (fun h5 =>
      q_X6_isEnd h5 a1 a2 (fun r6 =>
      q_X11_asNumber r6 (fun r7 =>
      q_X6_setEnd h5 a1 a2 (fun h8 =>
      Q r7 h8))))))))
set_option maxRecDepth 100000 in
def q_X11_channel (h : hp_H) (a1 a2 a3 : Int32) (Q : Int32 → hp_H → Prop) : Prop :=
  (a1 < (nI 1) →
    Q (-3) h) ∧ (¬ a1 < (nI 1) →
    (a1 ≤ (nI 3) →
      ((h 1 8) = (nI 3) →
        Q (-6) h) ∧ (¬ (h 1 8) = (nI 3) →
        q_X11_endSearch h (fun h4 =>
        q_X4_addChannel h4 a1 a2 a3 (fun r5 h6 =>
        Q r5 h6)))) ∧ (¬ a1 ≤ (nI 3) →
      Q (-3) h))
set_option maxRecDepth 100000 in
def q_X11_expr (h : hp_H) (a1 a2 a3 a4 : Int32) (Q : Int32 → hp_H → Prop) : Prop :=
  (a1 < 0 →
    Q (-3) h) ∧ (¬ a1 < 0 →
    (a1 ≤ (nI 14) →
      q_X4_knowsParts h a1 a2 a3 a4 (fun r3 =>
      (r3 = 0 →
        Q (-2) h) ∧ (¬ r3 = 0 →
        hp_jn0 (fun K6 =>
          (a1 = (nI 2) →
            (a2 < 0 →
              Q (-3) h) ∧ (¬ a2 < 0 →
              (a2 < (nI 3) →
                K6) ∧ (¬ a2 < (nI 3) →
                Q (-3) h))) ∧ (¬ a1 = (nI 2) →
            K6)) (
          hp_jn0 (fun K10 =>
            (a1 = (nI 4) →
              q_X11_isDigit a3 (fun r11 =>
              (r11 = 0 →
                Q (-3) h) ∧ (¬ r11 = 0 →
                K10))) ∧ (¬ a1 = (nI 4) →
              K10)) (
            ((h 15 1) = (nI 80) →
              Q (-6) h) ∧ (¬ (h 15 1) = (nI 80) →
              q_X11_endSearch h (fun h14 =>
              q_X1_add h14 a1 a2 a3 a4 (fun r15 h16 =>
              Q r15 h16)))))))) ∧ (¬ a1 ≤ (nI 14) →
      Q (-3) h))
set_option maxRecDepth 100000 in
def q_X11_step (h : hp_H) (a1 a2 a3 a4 : Int32) (Q : Int32 → hp_H → Prop) : Prop :=
  q_X6_has h a1 (fun r1 =>
  (r1 = 0 →
    Q (-2) h) ∧ (¬ r1 = 0 →
    hp_jn0 (fun K4 =>
      (a4 = (-1) →
        K4) ∧ (¬ a4 = (-1) →
        q_X1_has h a4 (fun r5 =>
        (r5 = 0 →
          Q (-2) h) ∧ (¬ r5 = 0 →
          K4)))) (
      q_X11_isDigit a2 (fun r7 =>
      (r7 = 0 →
        Q (-3) h) ∧ (¬ r7 = 0 →
        q_X11_isDigit a3 (fun r9 =>
        (r9 = 0 →
          Q (-3) h) ∧ (¬ r9 = 0 →
          ((h 23 8) = (nI 24) →
            Q (-6) h) ∧ (¬ (h 23 8) = (nI 24) →
            q_X11_endSearch h (fun h12 =>
            q_X9_add h12 a1 a2 a3 a4 (fun r13 h14 =>
            Q r13 h14))))))))))
set_option maxRecDepth 100000 in
def q_X11_act (h : hp_H) (a1 a2 a3 a4 : Int32) (Q : Int32 → hp_H → Prop) : Prop :=
  (a2 < 0 →
    Q (-3) h) ∧ (¬ a2 < 0 →
    (a2 ≤ (nI 3) →
      q_X9_has h a1 (fun r3 =>
      (r3 = 0 →
        Q (-2) h) ∧ (¬ r3 = 0 →
        q_X4_knowsAct h a1 a2 a3 a4 (fun r5 =>
        (r5 = 0 →
          Q (-2) h) ∧ (¬ r5 = 0 →
          q_X9_hasLetterAct h a1 a2 a3 (fun r7 =>
          (r7 = 0 →
            vp_in a1 24 ∧
            ((h 28 a1.toNatClampNeg) = (nI 4) →
              Q (-6) h) ∧ (¬ (h 28 a1.toNatClampNeg) = (nI 4) →
              q_X11_endSearch h (fun h10 =>
              q_X9_addAct h10 a1 a2 a3 a4 (fun r11 h12 =>
              Q r11 h12)))) ∧ (¬ r7 = 0 →
            Q (-3) h))))))) ∧ (¬ a2 ≤ (nI 3) →
      Q (-3) h))
set_option maxRecDepth 100000 in
def q_X11_alike (h : hp_H) (a1 : Int32) (Q : Int32 → hp_H → Prop) : Prop :=
  q_X11_endSearch h (fun h1 =>
  q_X11_asNumber (h1 1 9) (fun r2 =>
  hp_bz a1 ∧
  ∀ h3 : hp_H, h3 = hp_up h1 1 9 a1 →
  Q r2 h3))
set_option maxRecDepth 100000 in
def q_X11_search (h : hp_H) (Q : Int32 → hp_H → Prop) : Prop :=
  q_X4_isSearchable h (fun r1 h2 =>
  (r1 = 0 →
    Q (-5) h2) ∧ (¬ r1 = 0 →
    hp_jn0h (fun K5 =>
      ((h2 35 0) = 0 →
        q_X8_start h2 (fun h7 =>
        hp_lp1h (fun v9 h10 B8 =>
          ((nI 400) ≤ v9 →
            K5 h10) ∧ (¬ (nI 400) ≤ v9 →
            ((h10 35 2) ≤ v9 →
              K5 h10) ∧ (¬ (h10 35 2) ≤ v9 →
              ((h10 35 1) = 0 →
                q_X8_goThrough h10 v9 (fun h14 =>
                ∀ v15 : Int32, v15 = v9 + (nI 1) →
                B8 v15 h14)) ∧ (¬ (h10 35 1) = 0 →
                K5 h10)))) (nI 0) h7)) ∧ (¬ (h2 35 0) = 0 →
        K5 h2)) (fun h6 =>
      ((h6 35 1) = 0 →
        Q (h6 35 2) h6) ∧ (¬ (h6 35 1) = 0 →
        Q (-7) h6))))
set_option maxRecDepth 100000 in
def q_X11_tells (h : hp_H) (a1 a2 : Int32) (Q : Int32 → hp_H → Prop) : Prop :=
  q_X2_has h a1 (fun r1 =>
  (r1 = 0 →
    Q (-2147483648) h) ∧ (¬ r1 = 0 →
    q_X1_has h a2 (fun r3 =>
    (r3 = 0 →
      Q (-2147483648) h) ∧ (¬ r3 = 0 →
      q_X1_isOwned h a2 (fun r5 =>
      (r5 = 0 →
        q_X5_ask h a2 (fun h7 =>
        q_X5_lookAt h7 a1 (fun h8 =>
        q_X5_answer h8 a2 (fun r9 =>
        Q r9 h8)))) ∧ (¬ r5 = 0 →
        Q (-2147483648) h))))))
set_option maxRecDepth 100000 in
def q_X11_place (h : hp_H) (a1 a2 a3 : Int32) (Q : Int32 → hp_H → Prop) : Prop :=
  q_X2_isUsable h (fun r1 =>
  (r1 = 0 →
    Q (-5) h) ∧ (¬ r1 = 0 →
    q_X2_has h a1 (fun r3 =>
    (r3 = 0 →
      Q (-2) h) ∧ (¬ r3 = 0 →
      q_X6_hasMember h a2 a3 (fun r5 =>
      (r5 = 0 →
        Q (-2) h) ∧ (¬ r5 = 0 →
        q_X5_rowOf h a1 (fun h7 =>
        q_X7_placeOf 52 h7 a2 a3 (fun r8 =>
        Q r8 h7))))))))
set_option maxRecDepth 100000 in
def q_X11_owned (h : hp_H) (a1 a2 a3 a4 : Int32) (Q : Int32 → hp_H → Prop) : Prop :=
  q_X2_isUsable h (fun r1 =>
  (r1 = 0 →
    Q (-5) h) ∧ (¬ r1 = 0 →
    q_X2_has h a1 (fun r3 =>
    (r3 = 0 →
      Q (-2) h) ∧ (¬ r3 = 0 →
      q_X6_hasMember h a2 a3 (fun r5 =>
      (r5 = 0 →
        Q (-2) h) ∧ (¬ r5 = 0 →
        q_X10_has 7 8 9 10 11 3 9 h a2 a4 (fun r7 =>
        (r7 = 0 →
          Q (-2) h) ∧ (¬ r7 = 0 →
          q_X5_rowOf h a1 (fun h9 =>
          q_X7_ownValue 52 h9 a2 a3 a4 (fun r10 =>
          Q r10 h9))))))))))
set_option maxRecDepth 100000 in
def q_X11_letter (h : hp_H) (a1 a2 a3 : Int32) (Q : Int32 → hp_H → Prop) : Prop :=
  q_X2_isUsable h (fun r1 =>
  (r1 = 0 →
    Q (-5) h) ∧ (¬ r1 = 0 →
    q_X2_has h a1 (fun r3 =>
    (r3 = 0 →
      Q (-2) h) ∧ (¬ r3 = 0 →
      q_X4_hasChannel h a2 (fun r5 =>
      (r5 = 0 →
        Q (-2) h) ∧ (¬ r5 = 0 →
        q_X5_rowOf h a1 (fun h7 =>
        (a3 < 0 →
          Q (-1) h7) ∧ (¬ a3 < 0 →
          q_X7_held 52 h7 a2 (fun r9 =>
          (r9 ≤ a3 →
            Q (-1) h7) ∧ (¬ r9 ≤ a3 →
            q_X7_letterAt 52 h7 a2 a3 (fun r11 =>
            Q r11 h7)))))))))))
set_option maxRecDepth 100000 in
def q_X11_moves (h : hp_H) (a1 : Int32) (Q : Int32 → Prop) : Prop :=
  q_X2_isUsable h (fun r1 =>
  (r1 = 0 →
    Q (-5)) ∧ (¬ r1 = 0 →
    q_X2_has h a1 (fun r3 =>
    (r3 = 0 →
      Q (-2)) ∧ (¬ r3 = 0 →
      q_X2_movesFrom h a1 (fun r5 =>
      Q r5)))))
set_option maxRecDepth 100000 in
def q_X11_move (h : hp_H) (a1 a2 a3 : Int32) (Q : Int32 → Prop) : Prop :=
  q_X2_isUsable h (fun r1 =>
  (r1 = 0 →
    Q (-5)) ∧ (¬ r1 = 0 →
    q_X2_has h a1 (fun r3 =>
    (r3 = 0 →
      Q (-2)) ∧ (¬ r3 = 0 →
      (a2 < 0 →
        Q (-2)) ∧ (¬ a2 < 0 →
        q_X2_movesFrom h a1 (fun r6 =>
        (a2 < r6 →
          vp_in a1 401 ∧
          ∀ v8 : Int32, v8 = ((h 36 a1.toNatClampNeg) + a2) →
          ((a3 = (nI 0)) →
            vp_in v8 6000 ∧
            Q (h 37 v8.toNatClampNeg))
          ∧ ((a3 = (nI 1)) →
            q_X2_roleOfMove h v8 (fun r9 =>
            Q r9))
          ∧ ((a3 = (nI 2)) →
            q_X2_memberOfMove h v8 (fun r10 =>
            Q r10))
          ∧ ((a3 = (nI 3)) →
            q_X2_stepOfMove h v8 (fun r11 =>
            Q r11))
          ∧ ((¬ a3 = (nI 0) ∧ ¬ a3 = (nI 1) ∧ ¬ a3 = (nI 2) ∧ ¬ a3 = (nI 3)) →
            Q (-3))) ∧ (¬ a2 < r6 →
          Q (-2))))))))
set_option maxRecDepth 100000 in
def q_X11_depth (h : hp_H) (a1 : Int32) (Q : Int32 → Prop) : Prop :=
  q_X2_isUsable h (fun r1 =>
  (r1 = 0 →
    Q (-5)) ∧ (¬ r1 = 0 →
    q_X2_has h a1 (fun r3 =>
    (r3 = 0 →
      Q (-2)) ∧ (¬ r3 = 0 →
      vp_in a1 400 ∧
      Q (h 38 a1.toNatClampNeg)))))
set_option maxRecDepth 100000 in
def q_X11_came (h : hp_H) (a1 a2 : Int32) (Q : Int32 → Prop) : Prop :=
  q_X2_isUsable h (fun r1 =>
  (r1 = 0 →
    Q (-5)) ∧ (¬ r1 = 0 →
    q_X2_has h a1 (fun r3 =>
    (r3 = 0 →
      Q (-2)) ∧ (¬ r3 = 0 →
      ((a2 = (nI 0)) →
        vp_in a1 400 ∧
        Q (h 39 a1.toNatClampNeg))
      ∧ ((a2 = (nI 1)) →
        vp_in a1 400 ∧
        Q (h 40 a1.toNatClampNeg))
      ∧ ((¬ a2 = (nI 0) ∧ ¬ a2 = (nI 1)) →
        Q (-3))))))
set_option maxRecDepth 100000 in
def q_X11_stuck (h : hp_H) (Q : Int32 → hp_H → Prop) : Prop :=
  q_X2_isUsable h (fun r1 =>
  (r1 = 0 →
    Q (-5) h) ∧ (¬ r1 = 0 →
    hp_lp1h (fun v4 h5 B3 =>
      ((h5 35 2) ≤ v4 →
        Q (-1) h5) ∧ (¬ (h5 35 2) ≤ v4 →
        q_X2_hasMemberMove h5 v4 (fun r7 =>
        hp_jn0h (fun K9 =>
          (r7 = 0 →
            q_X5_rowOf h5 v4 (fun h11 =>
            q_X4_someAtNoEnd h11 (fun r12 =>
            (r12 = 0 →
              K9 h11) ∧ (¬ r12 = 0 →
              Q v4 h11)))) ∧ (¬ r7 = 0 →
            K9 h5)) (fun h10 =>
          ∀ v14 : Int32, v14 = v4 + (nI 1) →
          B3 v14 h10)))) (nI 0) h))
set_option maxRecDepth 100000 in
def q_X11_fault (h : hp_H) (a1 : Int32) (Q : Int32 → Prop) : Prop :=
  (a1 < 0 →
    Q (-3)) ∧ (¬ a1 < 0 →
    (a1 ≤ (nI 3) →
      q_X2_isUsable h (fun r3 =>
      (r3 = 0 →
        Q (-5)) ∧ (¬ r3 = 0 →
        ((a1 = (nI 0)) →
          Q (h 35 4))
        ∧ ((a1 = (nI 1)) →
          Q (h 35 5))
        ∧ ((a1 = (nI 2)) →
          Q (h 35 6))
        ∧ ((¬ a1 = (nI 0) ∧ ¬ a1 = (nI 1) ∧ ¬ a1 = (nI 2)) →
          Q (h 35 7))))) ∧ (¬ a1 ≤ (nI 3) →
      Q (-3)))
set_option maxRecDepth 100000 in
def q_X11_refusalOfPlain (h : hp_H) (a1 : Int32) (Q : Int32 → Prop) : Prop :=
  q_X1_has h a1 (fun r1 =>
  (r1 = 0 →
    Q (-2)) ∧ (¬ r1 = 0 →
    q_X1_isOwned h a1 (fun r3 =>
    (r3 = 0 →
      Q (nI 0)) ∧ (¬ r3 = 0 →
      Q (-4)))))
set_option maxRecDepth 100000 in
def q_X11_always (h : hp_H) (a1 : Int32) (Q : Int32 → hp_H → Prop) : Prop :=
  q_X11_refusalOfPlain h a1 (fun r1 =>
  (r1 = 0 →
    q_X2_isUsable h (fun r3 =>
    (r3 = 0 →
      Q (-5) h) ∧ (¬ r3 = 0 →
      q_X5_ask h a1 (fun h5 =>
      hp_lp1h (fun v7 h8 B6 =>
        ((h8 35 2) ≤ v7 →
          Q (-1) h8) ∧ (¬ (h8 35 2) ≤ v7 →
          q_X5_lookAt h8 v7 (fun h10 =>
          q_X5_answer h10 a1 (fun r11 =>
          (r11 = 0 →
            Q v7 h10) ∧ (¬ r11 = 0 →
            ∀ v13 : Int32, v13 = v7 + (nI 1) →
            B6 v13 h10))))) (nI 0) h5)))) ∧ (¬ r1 = 0 →
    Q r1 h))
set_option maxRecDepth 100000 in
def q_X11_again (h : hp_H) (a1 a2 : Int32) (Q : Int32 → hp_H → Prop) : Prop :=
  q_X11_refusalOfPlain h a1 (fun r1 =>
  (r1 = 0 →
    q_X2_isUsable h (fun r3 =>
    (r3 = 0 →
      Q (-5) h) ∧ (¬ r3 = 0 →
      hp_jn0 (fun K6 =>
        (a2 = 0 →
          K6) ∧ (¬ a2 = 0 →
          ((h 1 9) = 0 →
            K6) ∧ (¬ (h 1 9) = 0 →
            Q (-5) h))) (
        q_X3_breakerOfAgain h a1 a2 (fun r8 h9 =>
        Q r8 h9))))) ∧ (¬ r1 = 0 →
    Q r1 h))
set_option maxRecDepth 100000 in
def q_X11_fromTo (h : hp_H) (a1 a2 a3 : Int32) (Q : Int32 → hp_H → Prop) : Prop :=
  q_X1_has h a1 (fun r1 =>
  (r1 = 0 →
    Q (-2) h) ∧ (¬ r1 = 0 →
    q_X1_has h a2 (fun r3 =>
    (r3 = 0 →
      Q (-2) h) ∧ (¬ r3 = 0 →
      q_X1_isOwned h a1 (fun r5 =>
      (r5 = 0 →
        q_X1_isOwned h a2 (fun r7 =>
        (r7 = 0 →
          q_X2_isUsable h (fun r9 =>
          (r9 = 0 →
            Q (-5) h) ∧ (¬ r9 = 0 →
            hp_jn0 (fun K12 =>
              (a3 = 0 →
                K12) ∧ (¬ a3 = 0 →
                ((h 1 9) = 0 →
                  K12) ∧ (¬ (h 1 9) = 0 →
                  Q (-5) h))) (
              q_X3_breakerOfFromTo h a1 a2 a3 (fun r14 h15 =>
              Q r14 h15))))) ∧ (¬ r7 = 0 →
          Q (-4) h))) ∧ (¬ r5 = 0 →
        Q (-4) h))))))
set_option maxRecDepth 100000 in
def q_X11_observe (h : hp_H) (a1 : Int32) (Q : Int32 → hp_H → Prop) : Prop :=
  q_X11_refusalOfPlain h a1 (fun r1 =>
  (r1 = 0 →
    q_X0_observes h a1 (fun r3 =>
    (r3 = 0 →
      ((h 64 0) = (nI 8) →
        Q (-6) h) ∧ (¬ (h 64 0) = (nI 8) →
        q_X0_addObserved h a1 (fun r6 h7 =>
        Q r6 h7))) ∧ (¬ r3 = 0 →
      Q (-3) h))) ∧ (¬ r1 = 0 →
    Q r1 h))
set_option maxRecDepth 100000 in
def q_X11_classes (h : hp_H) (Q : Int32 → hp_H → Prop) : Prop :=
  q_X2_isUsable h (fun r1 =>
  (r1 = 0 →
    Q (-5) h) ∧ (¬ r1 = 0 →
    q_X0_makeSure h (fun h3 =>
    Q (h3 64 1) h3)))
set_option maxRecDepth 100000 in
def q_X11_classOf (h : hp_H) (a1 : Int32) (Q : Int32 → hp_H → Prop) : Prop :=
  q_X2_isUsable h (fun r1 =>
  (r1 = 0 →
    Q (-5) h) ∧ (¬ r1 = 0 →
    q_X2_has h a1 (fun r3 =>
    (r3 = 0 →
      Q (-2) h) ∧ (¬ r3 = 0 →
      q_X0_makeSure h (fun h5 =>
      ∀ w6 : Nat, w6 = 65 + (h5 hp_V 0).toNatClampNeg → (w6 = 65 ∨ w6 = 68) ∧
      vp_in a1 400 ∧
      Q (h5 w6 a1.toNatClampNeg) h5)))))
set_option maxRecDepth 100000 in
def q_X11_count (h : hp_H) (a1 : Int32) (Q : Int32 → Prop) : Prop :=
  ((a1 = (nI 0)) →
    vp_in (nI 0) 1 ∧
    Q (h 3 (nI 0).toNatClampNeg))
  ∧ ((a1 = (nI 1)) →
    Q (h 12 1))
  ∧ ((a1 = (nI 2)) →
    Q (h 1 8))
  ∧ ((a1 = (nI 3)) →
    Q (h 15 1))
  ∧ ((a1 = (nI 4)) →
    Q (h 23 8))
  ∧ ((a1 = (nI 5)) →
    Q (h 64 0))
  ∧ ((a1 = (nI 6)) →
    Q (h 35 2))
  ∧ ((a1 = (nI 7)) →
    q_X11_asNumber (h 35 1) (fun r1 =>
    Q r1))
  ∧ ((¬ a1 = (nI 0) ∧ ¬ a1 = (nI 1) ∧ ¬ a1 = (nI 2) ∧ ¬ a1 = (nI 3) ∧ ¬ a1 = (nI 4) ∧ ¬ a1 = (nI 5) ∧ ¬ a1 = (nI 6) ∧ ¬ a1 = (nI 7)) →
    Q (-3))
end
section
set_option maxRecDepth 100000 in
def q_X12_in (a0 a1 a2 : Int32) (Q : Int32 → Prop) : Prop :=
  (a0 < a1 →
    Q (nI 0)) ∧ (¬ a0 < a1 →
    (a2 < a0 →
      Q (nI 0)) ∧ (¬ a2 < a0 →
      Q (nI 1)))
set_option maxRecDepth 100000 in
def q_X12_isValue (a0 a1 a2 : Int32) (Q : Int32 → Prop) : Prop :=
  q_X12_in a0 (nI 0) (nI 9) (fun r1 =>
  (r1 = 0 →
    Q (nI 0)) ∧ (¬ r1 = 0 →
    q_X12_in a1 a0 (nI 9) (fun r3 =>
    (r3 = 0 →
      Q (nI 0)) ∧ (¬ r3 = 0 →
      q_X12_in a2 a0 a1 (fun r5 =>
      (r5 = 0 →
        Q (nI 0)) ∧ (¬ r5 = 0 →
        Q (nI 1)))))))
set_option maxRecDepth 100000 in
def q_X12_over (h : hp_H) (Q : hp_H → Prop) : Prop :=
  ∀ h1 : hp_H, h1 = hp_up h 0 33 (nI 0) →
  ∀ h2 : hp_H, h2 = hp_up h1 0 34 (nI 0) →
  ∀ h3 : hp_H, h3 = hp_up h2 0 35 (nI 0) →
  ∀ h4 : hp_H, h4 = hp_up h3 0 40 (nI 0) →
  Q h4
set_option maxRecDepth 100000 in
def q_X12_shared (h : hp_H) (a1 a2 a3 : Int32) (Q : Int32 → hp_H → Prop) : Prop :=
  q_X12_isValue a1 a2 a3 (fun r1 =>
  (r1 = 0 →
    Q (-3) h) ∧ (¬ r1 = 0 →
    ((h 0 0) = (nI 6) →
      Q (-6) h) ∧ (¬ (h 0 0) = (nI 6) →
      q_X12_over h (fun h4 =>
      vp_in (h4 0 0) 6 ∧
      ∀ h5 : hp_H, h5 = hp_up h4 1 (h4 0 0).toNatClampNeg a1 →
      vp_in (h5 0 0) 6 ∧
      ∀ h6 : hp_H, h6 = hp_up h5 2 (h5 0 0).toNatClampNeg a2 →
      vp_in (h6 0 0) 6 ∧
      ∀ h7 : hp_H, h7 = hp_up h6 3 (h6 0 0).toNatClampNeg a3 →
      ∀ h8 : hp_H, h8 = hp_up h7 0 0 ((h7 0 0) + (nI 1)) →
      Q ((h8 0 0) - (nI 1)) h8))))
set_option maxRecDepth 100000 in
def q_X12_role (h : hp_H) (a1 : Int32) (Q : Int32 → hp_H → Prop) : Prop :=
  q_X12_in a1 (nI 1) (nI 3) (fun r1 =>
  (r1 = 0 →
    Q (-3) h) ∧ (¬ r1 = 0 →
    ((h 0 4) = (nI 3) →
      Q (-6) h) ∧ (¬ (h 0 4) = (nI 3) →
      q_X12_over h (fun h4 =>
      vp_in (h4 0 4) 3 ∧
      ∀ h5 : hp_H, h5 = hp_up h4 4 (h4 0 4).toNatClampNeg a1 →
      ∀ h6 : hp_H, h6 = hp_up h5 0 4 ((h5 0 4) + (nI 1)) →
      Q ((h6 0 4) - (nI 1)) h6))))
set_option maxRecDepth 100000 in
def q_X12_isRole (h : hp_H) (a1 : Int32) (Q : Int32 → Prop) : Prop :=
  q_X12_in a1 (nI 0) ((h 0 4) - (nI 1)) (fun r1 =>
  hp_bz r1 ∧
  Q r1)
set_option maxRecDepth 100000 in
def q_X12_own (h : hp_H) (a1 a2 a3 a4 : Int32) (Q : Int32 → hp_H → Prop) : Prop :=
  q_X12_isRole h a1 (fun r1 =>
  (r1 = 0 →
    Q (-2) h) ∧ (¬ r1 = 0 →
    q_X12_isValue a2 a3 a4 (fun r3 =>
    (r3 = 0 →
      Q (-3) h) ∧ (¬ r3 = 0 →
      vp_in a1 3 ∧
      ((h 5 a1.toNatClampNeg) = (nI 3) →
        Q (-6) h) ∧ (¬ (h 5 a1.toNatClampNeg) = (nI 3) →
        q_X12_over h (fun h6 =>
        vp_in a1 3 ∧
        ∀ v7 : Int32, v7 = (((nI 3) * a1) + (h6 5 a1.toNatClampNeg)) →
        vp_in v7 9 ∧
        ∀ h8 : hp_H, h8 = hp_up h6 6 v7.toNatClampNeg a2 →
        vp_in v7 9 ∧
        ∀ h9 : hp_H, h9 = hp_up h8 7 v7.toNatClampNeg a3 →
        vp_in v7 9 ∧
        ∀ h10 : hp_H, h10 = hp_up h9 8 v7.toNatClampNeg a4 →
        vp_in a1 3 ∧
        vp_in a1 3 ∧
        ∀ h11 : hp_H, h11 = hp_up h10 5 a1.toNatClampNeg ((h10 5 a1.toNatClampNeg) + (nI 1)) →
        vp_in a1 3 ∧
        Q ((h11 5 a1.toNatClampNeg) - (nI 1)) h11))))))
set_option maxRecDepth 100000 in
def q_X12_end (h : hp_H) (a1 a2 : Int32) (Q : Int32 → hp_H → Prop) : Prop :=
  q_X12_isRole h a1 (fun r1 =>
  (r1 = 0 →
    Q (-2) h) ∧ (¬ r1 = 0 →
    q_X12_in a2 (nI 0) (nI 9) (fun r3 =>
    (r3 = 0 →
      Q (-3) h) ∧ (¬ r3 = 0 →
      q_X12_over h (fun h5 =>
      vp_in (((nI 10) * a1) + a2) 30 ∧
      hp_jn1 (fun K7 =>
        ((h5 9 (((nI 10) * a1) + a2).toNatClampNeg) = 0 →
          K7 (nI 0)) ∧ (¬ (h5 9 (((nI 10) * a1) + a2).toNatClampNeg) = 0 →
          K7 (nI 1))) (fun v8 =>
        vp_in (((nI 10) * a1) + a2) 30 ∧
        ∀ h9 : hp_H, h9 = hp_up h5 9 (((nI 10) * a1) + a2).toNatClampNeg (nI 1) →
        Q v8 h9))))))
set_option maxRecDepth 100000 in
def q_X12_channel (h : hp_H) (a1 a2 a3 : Int32) (Q : Int32 → hp_H → Prop) : Prop :=
  q_X12_in a1 (nI 1) (nI 3) (fun r1 =>
  (r1 = 0 →
    Q (-3) h) ∧ (¬ r1 = 0 →
    ((h 0 11) = (nI 3) →
      Q (-6) h) ∧ (¬ (h 0 11) = (nI 3) →
      q_X12_over h (fun h4 =>
      vp_in (h4 0 11) 3 ∧
      ∀ h5 : hp_H, h5 = hp_up h4 10 (h4 0 11).toNatClampNeg a1 →
      vp_in (h5 0 11) 3 ∧
      hp_bz a2 ∧
      ∀ h6 : hp_H, h6 = hp_up h5 11 (h5 0 11).toNatClampNeg a2 →
      vp_in (h6 0 11) 3 ∧
      hp_bz a3 ∧
      ∀ h7 : hp_H, h7 = hp_up h6 12 (h6 0 11).toNatClampNeg a3 →
      ∀ h8 : hp_H, h8 = hp_up h7 0 11 ((h7 0 11) + (nI 1)) →
      Q ((h8 0 11) - (nI 1)) h8))))
set_option maxRecDepth 100000 in
def q_X12_isExpr (h : hp_H) (a1 : Int32) (Q : Int32 → Prop) : Prop :=
  q_X12_in a1 (nI 0) ((h 0 15) - (nI 1)) (fun r1 =>
  hp_bz r1 ∧
  Q r1)
set_option maxRecDepth 100000 in
def q_X12_isChannel (h : hp_H) (a1 : Int32) (Q : Int32 → Prop) : Prop :=
  q_X12_in a1 (nI 0) ((h 0 11) - (nI 1)) (fun r1 =>
  hp_bz r1 ∧
  Q r1)
set_option maxRecDepth 100000 in
def q_X12_isThere (h : hp_H) (a1 a2 a3 a4 : Int32) (Q : Int32 → Prop) : Prop :=
  ((a1 = (nI 0) ∨ a1 = (nI 2) ∨ a1 = (nI 3)) →
    Q (nI 1))
  ∧ ((a1 = (nI 1)) →
    q_X12_in a2 (nI 0) ((h 0 0) - (nI 1)) (fun r1 =>
    hp_bz r1 ∧
    Q r1))
  ∧ ((a1 = (nI 4)) →
    q_X12_isRole h a2 (fun r2 =>
    hp_bz r2 ∧
    Q r2))
  ∧ ((a1 = (nI 5)) →
    q_X12_isChannel h a2 (fun r3 =>
    hp_bz r3 ∧
    Q r3))
  ∧ ((a1 = (nI 6)) →
    q_X12_isRole h a2 (fun r4 =>
    (r4 = 0 →
      Q (nI 0)) ∧ (¬ r4 = 0 →
      vp_in a2 3 ∧
      q_X12_in a3 (nI 0) ((h 4 a2.toNatClampNeg) - (nI 1)) (fun r6 =>
      (r6 = 0 →
        Q (nI 0)) ∧ (¬ r6 = 0 →
        vp_in a2 3 ∧
        q_X12_in a4 (nI 0) ((h 5 a2.toNatClampNeg) - (nI 1)) (fun r8 =>
        (r8 = 0 →
          Q (nI 0)) ∧ (¬ r8 = 0 →
          Q (nI 1))))))))
  ∧ ((a1 = (nI 14)) →
    q_X12_isExpr h a2 (fun r10 =>
    hp_bz r10 ∧
    Q r10))
  ∧ ((¬ a1 = (nI 0) ∧ ¬ a1 = (nI 1) ∧ ¬ a1 = (nI 2) ∧ ¬ a1 = (nI 3) ∧ ¬ a1 = (nI 4) ∧ ¬ a1 = (nI 5) ∧ ¬ a1 = (nI 6) ∧ ¬ a1 = (nI 14)) →
    q_X12_isExpr h a2 (fun r11 =>
    (r11 = 0 →
      Q (nI 0)) ∧ (¬ r11 = 0 →
      q_X12_isExpr h a3 (fun r13 =>
      (r13 = 0 →
        Q (nI 0)) ∧ (¬ r13 = 0 →
        Q (nI 1))))))
set_option maxRecDepth 100000 in
def q_X12_expr (h : hp_H) (a1 a2 a3 a4 : Int32) (Q : Int32 → hp_H → Prop) : Prop :=
  q_X12_in a1 (nI 0) (nI 14) (fun r1 =>
  (r1 = 0 →
    Q (-3) h) ∧ (¬ r1 = 0 →
    q_X12_isThere h a1 a2 a3 a4 (fun r3 =>
    (r3 = 0 →
      Q (-2) h) ∧ (¬ r3 = 0 →
      hp_jn0 (fun K6 =>
        (a1 = (nI 2) →
          q_X12_in a2 (nI 0) (nI 2) (fun r7 =>
          (r7 = 0 →
            Q (-3) h) ∧ (¬ r7 = 0 →
            K6))) ∧ (¬ a1 = (nI 2) →
          K6)) (
        hp_jn0 (fun K10 =>
          (a1 = (nI 4) →
            q_X12_in a3 (nI 0) (nI 9) (fun r11 =>
            (r11 = 0 →
              Q (-3) h) ∧ (¬ r11 = 0 →
              K10))) ∧ (¬ a1 = (nI 4) →
            K10)) (
          ((h 0 15) = (nI 80) →
            Q (-6) h) ∧ (¬ (h 0 15) = (nI 80) →
            q_X12_over h (fun h14 =>
            vp_in (h14 0 15) 80 ∧
            ∀ h15 : hp_H, h15 = hp_up h14 13 (h14 0 15).toNatClampNeg a1 →
            vp_in (h15 0 15) 80 ∧
            ∀ h16 : hp_H, h16 = hp_up h15 14 (h15 0 15).toNatClampNeg a2 →
            vp_in (h16 0 15) 80 ∧
            ∀ h17 : hp_H, h17 = hp_up h16 15 (h16 0 15).toNatClampNeg a3 →
            vp_in (h17 0 15) 80 ∧
            ∀ h18 : hp_H, h18 = hp_up h17 16 (h17 0 15).toNatClampNeg a4 →
            hp_jn1 (fun K20 =>
              hp_jn0 (fun K22 =>
                (a1 = (nI 2) →
                  K22) ∧ (¬ a1 = (nI 2) →
                  (a1 = (nI 3) →
                    K22) ∧ (¬ a1 = (nI 3) →
                    hp_jn0 (fun K25 =>
                      (a1 ≤ (nI 6) →
                        K25) ∧ (¬ a1 ≤ (nI 6) →
                        vp_in a2 80 ∧
                        ((h18 17 a2.toNatClampNeg) = 0 →
                          K25) ∧ (¬ (h18 17 a2.toNatClampNeg) = 0 →
                          K22))) (
                      hp_jn0 (fun K28 =>
                        (a1 ≤ (nI 6) →
                          K28) ∧ (¬ a1 ≤ (nI 6) →
                          ((nI 14) ≤ a1 →
                            K28) ∧ (¬ (nI 14) ≤ a1 →
                            vp_in a3 80 ∧
                            ((h18 17 a3.toNatClampNeg) = 0 →
                              K28) ∧ (¬ (h18 17 a3.toNatClampNeg) = 0 →
                              K22)))) (
                        K20 (nI 0)))))) (
                K20 (nI 1))) (fun v21 =>
              vp_in (h18 0 15) 80 ∧
              hp_bz v21 ∧
              ∀ h31 : hp_H, h31 = hp_up h18 17 (h18 0 15).toNatClampNeg v21 →
              ∀ h32 : hp_H, h32 = hp_up h31 0 15 ((h31 0 15) + (nI 1)) →
              Q ((h32 0 15) - (nI 1)) h32)))))))))
set_option maxRecDepth 100000 in
def q_X12_step (h : hp_H) (a1 a2 a3 a4 : Int32) (Q : Int32 → hp_H → Prop) : Prop :=
  q_X12_isRole h a1 (fun r1 =>
  (r1 = 0 →
    Q (-2) h) ∧ (¬ r1 = 0 →
    hp_jn0 (fun K4 =>
      (a4 = (-1) →
        K4) ∧ (¬ a4 = (-1) →
        q_X12_isExpr h a4 (fun r5 =>
        (r5 = 0 →
          Q (-2) h) ∧ (¬ r5 = 0 →
          K4)))) (
      q_X12_in a2 (nI 0) (nI 9) (fun r7 =>
      (r7 = 0 →
        Q (-3) h) ∧ (¬ r7 = 0 →
        q_X12_in a3 (nI 0) (nI 9) (fun r9 =>
        (r9 = 0 →
          Q (-3) h) ∧ (¬ r9 = 0 →
          ((h 0 21) = (nI 24) →
            Q (-6) h) ∧ (¬ (h 0 21) = (nI 24) →
            q_X12_over h (fun h12 =>
            vp_in (h12 0 21) 24 ∧
            ∀ h13 : hp_H, h13 = hp_up h12 18 (h12 0 21).toNatClampNeg a1 →
            vp_in (h13 0 21) 24 ∧
            ∀ h14 : hp_H, h14 = hp_up h13 19 (h13 0 21).toNatClampNeg a2 →
            vp_in (h14 0 21) 24 ∧
            ∀ h15 : hp_H, h15 = hp_up h14 20 (h14 0 21).toNatClampNeg a3 →
            vp_in (h15 0 21) 24 ∧
            ∀ h16 : hp_H, h16 = hp_up h15 21 (h15 0 21).toNatClampNeg a4 →
            ∀ h17 : hp_H, h17 = hp_up h16 0 21 ((h16 0 21) + (nI 1)) →
            Q ((h17 0 21) - (nI 1)) h17)))))))))
set_option maxRecDepth 100000 in
def q_X12_act (h : hp_H) (a1 a2 a3 a4 : Int32) (Q : Int32 → hp_H → Prop) : Prop :=
  q_X12_in a2 (nI 0) (nI 3) (fun r1 =>
  (r1 = 0 →
    Q (-3) h) ∧ (¬ r1 = 0 →
    q_X12_in a1 (nI 0) ((h 0 21) - (nI 1)) (fun r3 =>
    (r3 = 0 →
      Q (-2) h) ∧ (¬ r3 = 0 →
      vp_in a1 24 ∧
      vp_in (h 18 a1.toNatClampNeg) 3 ∧
      ∀ v5 : Int32, v5 = (h 5 (h 18 a1.toNatClampNeg).toNatClampNeg) →
      hp_jn1 (fun K7 =>
        (a2 = 0 →
          q_X12_in a3 (nI 0) ((h 0 0) - (nI 1)) (fun r26 =>
          hp_jn0 (fun K28 =>
            (r26 = 0 →
              K28) ∧ (¬ r26 = 0 →
              q_X12_isExpr h a4 (fun r29 =>
              (r29 = 0 →
                K28) ∧ (¬ r29 = 0 →
                K7 (nI 1))))) (
            K7 (nI 0)))) ∧ (¬ a2 = 0 →
          (a2 = (nI 1) →
            q_X12_in a3 (nI 0) (v5 - (nI 1)) (fun r21 =>
            hp_jn0 (fun K23 =>
              (r21 = 0 →
                K23) ∧ (¬ r21 = 0 →
                q_X12_isExpr h a4 (fun r24 =>
                (r24 = 0 →
                  K23) ∧ (¬ r24 = 0 →
                  K7 (nI 1))))) (
              K7 (nI 0)))) ∧ (¬ a2 = (nI 1) →
            (a2 = (nI 2) →
              q_X12_isChannel h a3 (fun r16 =>
              hp_jn0 (fun K18 =>
                (r16 = 0 →
                  K18) ∧ (¬ r16 = 0 →
                  q_X12_isExpr h a4 (fun r19 =>
                  (r19 = 0 →
                    K18) ∧ (¬ r19 = 0 →
                    K7 (nI 1))))) (
                K7 (nI 0)))) ∧ (¬ a2 = (nI 2) →
              q_X12_isChannel h a3 (fun r11 =>
              hp_jn0 (fun K13 =>
                (r11 = 0 →
                  K13) ∧ (¬ r11 = 0 →
                  q_X12_in a4 (nI 0) (v5 - (nI 1)) (fun r14 =>
                  (r14 = 0 →
                    K13) ∧ (¬ r14 = 0 →
                    K7 (nI 1))))) (
                K7 (nI 0))))))) (fun v8 =>
        (v8 = 0 →
          Q (-2) h) ∧ (¬ v8 = 0 →
          hp_lp1 (fun v33 B32 =>
            vp_in a1 24 ∧
            hp_jn0 (fun K35 =>
              ((h 22 a1.toNatClampNeg) ≤ v33 →
                K35) ∧ (¬ (h 22 a1.toNatClampNeg) ≤ v33 →
                (a2 ≤ (nI 1) →
                  K35) ∧ (¬ a2 ≤ (nI 1) →
                  vp_in (((nI 4) * a1) + v33) 96 ∧
                  hp_jn0 (fun K38 =>
                    ((h 23 (((nI 4) * a1) + v33).toNatClampNeg) = a2 →
                      vp_in (((nI 4) * a1) + v33) 96 ∧
                      ((h 24 (((nI 4) * a1) + v33).toNatClampNeg) = a3 →
                        Q (-3) h) ∧ (¬ (h 24 (((nI 4) * a1) + v33).toNatClampNeg) = a3 →
                        K38)) ∧ (¬ (h 23 (((nI 4) * a1) + v33).toNatClampNeg) = a2 →
                      K38)) (
                    ∀ v40 : Int32, v40 = v33 + (nI 1) →
                    B32 v40)))) (
              vp_in a1 24 ∧
              ((h 22 a1.toNatClampNeg) = (nI 4) →
                Q (-6) h) ∧ (¬ (h 22 a1.toNatClampNeg) = (nI 4) →
                q_X12_over h (fun h42 =>
                vp_in a1 24 ∧
                ∀ v43 : Int32, v43 = (((nI 4) * a1) + (h42 22 a1.toNatClampNeg)) →
                vp_in v43 96 ∧
                ∀ h44 : hp_H, h44 = hp_up h42 23 v43.toNatClampNeg a2 →
                vp_in v43 96 ∧
                ∀ h45 : hp_H, h45 = hp_up h44 24 v43.toNatClampNeg a3 →
                vp_in v43 96 ∧
                ∀ h46 : hp_H, h46 = hp_up h45 25 v43.toNatClampNeg a4 →
                vp_in a1 24 ∧
                vp_in a1 24 ∧
                ∀ h47 : hp_H, h47 = hp_up h46 22 a1.toNatClampNeg ((h46 22 a1.toNatClampNeg) + (nI 1)) →
                vp_in a1 24 ∧
                Q (h47 22 a1.toNatClampNeg) h47)))) (nI 0)))))))
set_option maxRecDepth 100000 in
def q_X12_alike (h : hp_H) (a1 : Int32) (Q : Int32 → hp_H → Prop) : Prop :=
  hp_jn1 (fun K2 =>
    ((h 0 30) = 0 →
      K2 (nI 0)) ∧ (¬ (h 0 30) = 0 →
      K2 (nI 1))) (fun v3 =>
    q_X12_over h (fun h4 =>
    hp_bz a1 ∧
    ∀ h5 : hp_H, h5 = hp_up h4 0 30 a1 →
    Q v3 h5))
set_option maxRecDepth 100000 in
def q_X12_memberAt (a0 a1 : Int32) (Q : Int32 → Prop) : Prop :=
  Q ((nI 6) + ((nI 4) * (((nI 3) * a0) + a1)))
set_option maxRecDepth 100000 in
def q_X12_channelAt (a0 : Int32) (Q : Int32 → Prop) : Prop :=
  Q ((nI 42) + ((nI 4) * a0))
set_option maxRecDepth 100000 in
def q_X12_cell (h : hp_H) (a1 a2 : Int32) (Q : Int32 → Prop) : Prop :=
  vp_in (((nI 54) * a1) + a2) 21600 ∧
  Q (h 27 (((nI 54) * a1) + a2).toNatClampNeg)
set_option maxRecDepth 100000 in
def q_X12_many (h : hp_H) (a1 a2 a3 : Int32) (Q : Int32 → Prop) : Prop :=
  hp_lp2 (fun v2 v3 B1 =>
    vp_in a2 3 ∧
    ((h 4 a2.toNatClampNeg) ≤ v3 →
      Q v2) ∧ (¬ (h 4 a2.toNatClampNeg) ≤ v3 →
      q_X12_memberAt a2 v3 (fun r5 =>
      q_X12_cell h a1 r5 (fun r6 =>
      hp_jn1 (fun K8 =>
        (r6 = a3 →
          K8 (nI 1)) ∧ (¬ r6 = a3 →
          K8 (nI 0))) (fun v9 =>
        ∀ v10 : Int32, v10 = (v2 + v9) →
        ∀ v11 : Int32, v11 = v3 + (nI 1) →
        B1 v10 v11))))) (nI 0) (nI 0)
set_option maxRecDepth 100000 in
def q_X12_reckon (h : hp_H) (a1 a2 a3 : Int32) (Q : hp_H → Prop) : Prop :=
  hp_lp1h (fun v2 h3 B1 =>
    ((h3 0 15) ≤ v2 →
      Q h3) ∧ (¬ (h3 0 15) ≤ v2 →
      vp_in v2 80 ∧
      ∀ v5 : Int32, v5 = (h3 14 v2.toNatClampNeg) →
      vp_in v2 80 ∧
      ∀ v6 : Int32, v6 = (h3 15 v2.toNatClampNeg) →
      vp_in v2 80 ∧
      ∀ v7 : Int32, v7 = (h3 13 v2.toNatClampNeg) →
      hp_jn1 (fun K8 =>
        ((v7 = (nI 0)) →
          K8 v5)
        ∧ ((v7 = (nI 1)) →
          q_X12_cell h3 a1 v5 (fun r10 =>
          K8 r10))
        ∧ ((v7 = (nI 2)) →
          hp_jn1 (fun K12 =>
            hp_jn0 (fun K14 =>
              (a2 = (-1) →
                K14) ∧ (¬ a2 = (-1) →
                vp_in a2 3 ∧
                (v5 < (h3 5 a2.toNatClampNeg) →
                  q_X12_memberAt a2 a3 (fun r16 =>
                  q_X12_cell h3 a1 ((r16 + (nI 1)) + v5) (fun r17 =>
                  K12 r17))) ∧ (¬ v5 < (h3 5 a2.toNatClampNeg) →
                  K14))) (
              K12 (nI 0))) (fun v13 =>
            K8 v13))
        ∧ ((v7 = (nI 3)) →
          hp_jn1 (fun K19 =>
            (a2 = (-1) →
              K19 (nI 0)) ∧ (¬ a2 = (-1) →
              K19 a3)) (fun v20 =>
            K8 v20))
        ∧ ((v7 = (nI 4)) →
          q_X12_many h3 a1 v5 v6 (fun r21 =>
          K8 r21))
        ∧ ((v7 = (nI 5)) →
          q_X12_channelAt v5 (fun r22 =>
          q_X12_cell h3 a1 r22 (fun r23 =>
          K8 r23)))
        ∧ ((v7 = (nI 6)) →
          q_X12_memberAt v5 v6 (fun r24 =>
          vp_in v2 80 ∧
          q_X12_cell h3 a1 ((r24 + (nI 1)) + (h3 16 v2.toNatClampNeg)) (fun r25 =>
          K8 r25)))
        ∧ ((v7 = (nI 7)) →
          vp_in v5 80 ∧
          vp_in v6 80 ∧
          ∀ v26 : Int32, v26 = ((h3 37 v5.toNatClampNeg) + (h3 37 v6.toNatClampNeg)) →
          K8 v26)
        ∧ ((v7 = (nI 8)) →
          vp_in v5 80 ∧
          vp_in v6 80 ∧
          ∀ v27 : Int32, v27 = ((h3 37 v5.toNatClampNeg) - (h3 37 v6.toNatClampNeg)) →
          K8 v27)
        ∧ ((v7 = (nI 9)) →
          vp_in v5 80 ∧
          vp_in v6 80 ∧
          ∀ v28 : Int32, v28 = ((h3 37 v5.toNatClampNeg) * (h3 37 v6.toNatClampNeg)) →
          K8 v28)
        ∧ ((v7 = (nI 10)) →
          vp_in v5 80 ∧
          vp_in v6 80 ∧
          hp_jn1 (fun K30 =>
            ((h3 37 v5.toNatClampNeg) = (h3 37 v6.toNatClampNeg) →
              K30 (nI 1)) ∧ (¬ (h3 37 v5.toNatClampNeg) = (h3 37 v6.toNatClampNeg) →
              K30 (nI 0))) (fun v31 =>
            K8 v31))
        ∧ ((v7 = (nI 11)) →
          vp_in v5 80 ∧
          vp_in v6 80 ∧
          hp_jn1 (fun K33 =>
            ((h3 37 v6.toNatClampNeg) ≤ (h3 37 v5.toNatClampNeg) →
              K33 (nI 0)) ∧ (¬ (h3 37 v6.toNatClampNeg) ≤ (h3 37 v5.toNatClampNeg) →
              K33 (nI 1))) (fun v34 =>
            K8 v34))
        ∧ ((v7 = (nI 12)) →
          vp_in v5 80 ∧
          hp_jn1 (fun K36 =>
            hp_jn0 (fun K38 =>
              ((h3 37 v5.toNatClampNeg) = 0 →
                K38) ∧ (¬ (h3 37 v5.toNatClampNeg) = 0 →
                vp_in v6 80 ∧
                ((h3 37 v6.toNatClampNeg) = 0 →
                  K38) ∧ (¬ (h3 37 v6.toNatClampNeg) = 0 →
                  K36 (nI 1)))) (
              K36 (nI 0))) (fun v37 =>
            K8 v37))
        ∧ ((v7 = (nI 13)) →
          vp_in v5 80 ∧
          hp_jn1 (fun K41 =>
            hp_jn0 (fun K43 =>
              ((h3 37 v5.toNatClampNeg) = 0 →
                vp_in v6 80 ∧
                ((h3 37 v6.toNatClampNeg) = 0 →
                  K41 (nI 0)) ∧ (¬ (h3 37 v6.toNatClampNeg) = 0 →
                  K43)) ∧ (¬ (h3 37 v5.toNatClampNeg) = 0 →
                K43)) (
              K41 (nI 1))) (fun v42 =>
            K8 v42))
        ∧ ((¬ v7 = (nI 0) ∧ ¬ v7 = (nI 1) ∧ ¬ v7 = (nI 2) ∧ ¬ v7 = (nI 3) ∧ ¬ v7 = (nI 4) ∧ ¬ v7 = (nI 5) ∧ ¬ v7 = (nI 6) ∧ ¬ v7 = (nI 7) ∧ ¬ v7 = (nI 8) ∧ ¬ v7 = (nI 9) ∧ ¬ v7 = (nI 10) ∧ ¬ v7 = (nI 11) ∧ ¬ v7 = (nI 12) ∧ ¬ v7 = (nI 13)) →
          vp_in v5 80 ∧
          hp_jn1 (fun K46 =>
            ((h3 37 v5.toNatClampNeg) = 0 →
              K46 (nI 1)) ∧ (¬ (h3 37 v5.toNatClampNeg) = 0 →
              K46 (nI 0))) (fun v47 =>
            K8 v47))) (fun v9 =>
        vp_in v2 80 ∧
        ∀ h62 : hp_H, h62 = hp_up h3 37 v2.toNatClampNeg v9 →
        ∀ v63 : Int32, v63 = v2 + (nI 1) →
        B1 v63 h62))) (nI 0) h
set_option maxRecDepth 100000 in
def q_X12_isBehind (h : hp_H) (a1 a2 a3 : Int32) (Q : Int32 → Prop) : Prop :=
  q_X12_memberAt a1 a2 (fun r1 =>
  q_X12_memberAt a1 a3 (fun r2 =>
  hp_lp1 (fun v4 B3 =>
    ((nI 4) ≤ v4 →
      Q (nI 0)) ∧ (¬ (nI 4) ≤ v4 →
      vp_in (r1 + v4) 54 ∧
      vp_in (r2 + v4) 54 ∧
      ((h 36 (r1 + v4).toNatClampNeg) = (h 36 (r2 + v4).toNatClampNeg) →
        ∀ v7 : Int32, v7 = v4 + (nI 1) →
        B3 v7) ∧ (¬ (h 36 (r1 + v4).toNatClampNeg) = (h 36 (r2 + v4).toNatClampNeg) →
        vp_in (r1 + v4) 54 ∧
        vp_in (r2 + v4) 54 ∧
        ((h 36 (r1 + v4).toNatClampNeg) ≤ (h 36 (r2 + v4).toNatClampNeg) →
          Q (nI 0)) ∧ (¬ (h 36 (r1 + v4).toNatClampNeg) ≤ (h 36 (r2 + v4).toNatClampNeg) →
          Q (nI 1))))) (nI 0)))
set_option maxRecDepth 100000 in
def q_X12_order (h : hp_H) (Q : hp_H → Prop) : Prop :=
  hp_lp1h (fun v2 h3 B1 =>
    ((h3 0 4) ≤ v2 →
      Q h3) ∧ (¬ (h3 0 4) ≤ v2 →
      hp_lp1h (fun v6 h7 B5 =>
        ((nI 2) ≤ v6 →
          ∀ v9 : Int32, v9 = v2 + (nI 1) →
          B1 v9 h7) ∧ (¬ (nI 2) ≤ v6 →
          hp_lp1h (fun v11 h12 B10 =>
            vp_in v2 3 ∧
            ((h12 4 v2.toNatClampNeg) ≤ (v11 + (nI 1)) →
              ∀ v14 : Int32, v14 = v6 + (nI 1) →
              B5 v14 h12) ∧ (¬ (h12 4 v2.toNatClampNeg) ≤ (v11 + (nI 1)) →
              q_X12_isBehind h12 v2 v11 (v11 + (nI 1)) (fun r15 =>
              hp_jn0h (fun K17 =>
                (r15 = 0 →
                  K17 h12) ∧ (¬ r15 = 0 →
                  q_X12_memberAt v2 v11 (fun r19 =>
                  hp_lp1h (fun v21 h22 B20 =>
                    ((nI 4) ≤ v21 →
                      K17 h22) ∧ (¬ (nI 4) ≤ v21 →
                      vp_in (r19 + v21) 54 ∧
                      ∀ v24 : Int32, v24 = (h22 36 (r19 + v21).toNatClampNeg) →
                      vp_in ((r19 + (nI 4)) + v21) 54 ∧
                      vp_in (r19 + v21) 54 ∧
                      ∀ h25 : hp_H, h25 = hp_up h22 36 (r19 + v21).toNatClampNeg (h22 36 ((r19 + (nI 4)) + v21).toNatClampNeg) →
                      vp_in ((r19 + (nI 4)) + v21) 54 ∧
                      ∀ h26 : hp_H, h26 = hp_up h25 36 ((r19 + (nI 4)) + v21).toNatClampNeg v24 →
                      ∀ v27 : Int32, v27 = v21 + (nI 1) →
                      B20 v27 h26)) (nI 0) h12))) (fun h18 =>
                ∀ v28 : Int32, v28 = v11 + (nI 1) →
                B10 v28 h18)))) (nI 0) h7)) (nI 0) h3)) (nI 0) h
set_option maxRecDepth 100000 in
def q_X12_placeOf (h : hp_H) (Q : Int32 → Prop) : Prop :=
  hp_lp1 (fun v2 B1 =>
    ((h 0 35) ≤ v2 →
      Q (-1)) ∧ (¬ (h 0 35) ≤ v2 →
      hp_lp2 (fun v5 v6 B4 =>
        hp_jn0 (fun K8 =>
          ((nI 54) ≤ v6 →
            K8) ∧ (¬ (nI 54) ≤ v6 →
            (v5 = 0 →
              K8) ∧ (¬ v5 = 0 →
              vp_in (((nI 54) * v2) + v6) 21600 ∧
              vp_in v6 54 ∧
              hp_jn1 (fun K11 =>
                ((h 27 (((nI 54) * v2) + v6).toNatClampNeg) = (h 36 v6.toNatClampNeg) →
                  K11 (nI 1)) ∧ (¬ (h 27 (((nI 54) * v2) + v6).toNatClampNeg) = (h 36 v6.toNatClampNeg) →
                  K11 (nI 0))) (fun v12 =>
                ∀ v13 : Int32, v13 = v6 + (nI 1) →
                B4 v12 v13)))) (
          (v5 = 0 →
            ∀ v15 : Int32, v15 = v2 + (nI 1) →
            B1 v15) ∧ (¬ v5 = 0 →
            Q v2))) (nI 1) (nI 0))) (nI 0)
set_option maxRecDepth 100000 in
def q_X12_take (h : hp_H) (a1 : Int32) (Q : hp_H → Prop) : Prop :=
  hp_lp1h (fun v2 h3 B1 =>
    ((nI 54) ≤ v2 →
      Q h3) ∧ (¬ (nI 54) ≤ v2 →
      vp_in (((nI 54) * a1) + v2) 21600 ∧
      vp_in v2 54 ∧
      ∀ h5 : hp_H, h5 = hp_up h3 36 v2.toNatClampNeg (h3 27 (((nI 54) * a1) + v2).toNatClampNeg) →
      ∀ v6 : Int32, v6 = v2 + (nI 1) →
      B1 v6 h5)) (nI 0) h
set_option maxRecDepth 100000 in
def q_X12_comes (h : hp_H) (a1 a2 a3 a4 : Int32) (Q : Int32 → hp_H → Prop) : Prop :=
  ((h 0 40) = (nI 6000) →
    Q (nI 0) h) ∧ (¬ (h 0 40) = (nI 6000) →
    hp_jn0h (fun K3 =>
      ((h 0 30) = 0 →
        K3 h) ∧ (¬ (h 0 30) = 0 →
        q_X12_order h (fun h5 =>
        K3 h5))) (fun h4 =>
      q_X12_placeOf h4 (fun r6 =>
      hp_jn1h (fun K8 =>
        (r6 = (-1) →
          ((h4 0 35) = (nI 400) →
            Q (nI 0) h4) ∧ (¬ (h4 0 35) = (nI 400) →
            ∀ v12 : Int32, v12 = (h4 0 35) →
            hp_lp1h (fun v14 h15 B13 =>
              ((nI 54) ≤ v14 →
                vp_in v12 400 ∧
                ∀ h17 : hp_H, h17 = hp_up h15 28 v12.toNatClampNeg a1 →
                vp_in a1 401 ∧
                vp_in v12 400 ∧
                ∀ h18 : hp_H, h18 = hp_up h17 29 v12.toNatClampNeg ((h17 0 40) - (h17 31 a1.toNatClampNeg)) →
                vp_in a1 400 ∧
                vp_in v12 400 ∧
                ∀ h19 : hp_H, h19 = hp_up h18 30 v12.toNatClampNeg ((h18 30 a1.toNatClampNeg) + (nI 1)) →
                ∀ h20 : hp_H, h20 = hp_up h19 0 35 ((h19 0 35) + (nI 1)) →
                K8 v12 h20) ∧ (¬ (nI 54) ≤ v14 →
                vp_in v14 54 ∧
                vp_in (((nI 54) * v12) + v14) 21600 ∧
                ∀ h21 : hp_H, h21 = hp_up h15 27 (((nI 54) * v12) + v14).toNatClampNeg (h15 36 v14.toNatClampNeg) →
                ∀ v22 : Int32, v22 = v14 + (nI 1) →
                B13 v22 h21)) (nI 0) h4)) ∧ (¬ r6 = (-1) →
          K8 r6 h4)) (fun v9 h10 =>
        vp_in (h10 0 40) 6000 ∧
        ∀ h23 : hp_H, h23 = hp_up h10 32 (h10 0 40).toNatClampNeg v9 →
        vp_in (h23 0 40) 6000 ∧
        ∀ h24 : hp_H, h24 = hp_up h23 33 (h23 0 40).toNatClampNeg a2 →
        vp_in (h24 0 40) 6000 ∧
        ∀ h25 : hp_H, h25 = hp_up h24 34 (h24 0 40).toNatClampNeg a3 →
        vp_in (h25 0 40) 6000 ∧
        ∀ h26 : hp_H, h26 = hp_up h25 35 (h25 0 40).toNatClampNeg a4 →
        ∀ h27 : hp_H, h27 = hp_up h26 0 40 ((h26 0 40) + (nI 1)) →
        Q (nI 1) h27))))
set_option maxRecDepth 100000 in
def q_X12_can (h : hp_H) (a1 a2 a3 : Int32) (Q : Int32 → Prop) : Prop :=
  vp_in a3 24 ∧
  ∀ v1 : Int32, v1 = (h 18 a3.toNatClampNeg) →
  q_X12_memberAt v1 a2 (fun r2 =>
  q_X12_cell h a1 r2 (fun r3 =>
  vp_in a3 24 ∧
  hp_jn1 (fun K5 =>
    hp_jn0 (fun K7 =>
      (r3 = (h 19 a3.toNatClampNeg) →
        vp_in a3 24 ∧
        hp_jn0 (fun K9 =>
          ((h 21 a3.toNatClampNeg) = (-1) →
            K9) ∧ (¬ (h 21 a3.toNatClampNeg) = (-1) →
            vp_in a3 24 ∧
            vp_in (h 21 a3.toNatClampNeg) 80 ∧
            ((h 37 (h 21 a3.toNatClampNeg).toNatClampNeg) = 0 →
              K7) ∧ (¬ (h 37 (h 21 a3.toNatClampNeg).toNatClampNeg) = 0 →
              K9))) (
          K5 (nI 1))) ∧ (¬ r3 = (h 19 a3.toNatClampNeg) →
        K7)) (
      K5 (nI 0))) (fun v6 =>
    hp_lp2 (fun v12 v13 B11 =>
      vp_in a3 24 ∧
      ((h 22 a3.toNatClampNeg) ≤ v13 →
        hp_bz v12 ∧
        Q v12) ∧ (¬ (h 22 a3.toNatClampNeg) ≤ v13 →
        (v12 = 0 →
          hp_bz v12 ∧
          Q v12) ∧ (¬ v12 = 0 →
          ∀ v16 : Int32, v16 = (((nI 4) * a3) + v13) →
          vp_in v16 96 ∧
          hp_jn1 (fun K18 =>
            ((h 23 v16.toNatClampNeg) ≤ (nI 1) →
              K18 (nI 0)) ∧ (¬ (h 23 v16.toNatClampNeg) ≤ (nI 1) →
              vp_in v16 96 ∧
              q_X12_channelAt (h 24 v16.toNatClampNeg) (fun r20 =>
              q_X12_cell h a1 r20 (fun r21 =>
              K18 r21)))) (fun v19 =>
            vp_in v16 96 ∧
            hp_jn1 (fun K23 =>
              hp_jn0 (fun K25 =>
                ((h 23 v16.toNatClampNeg) < (nI 2) →
                  K25) ∧ (¬ (h 23 v16.toNatClampNeg) < (nI 2) →
                  vp_in v16 96 ∧
                  hp_jn0 (fun K27 =>
                    ((h 23 v16.toNatClampNeg) = (nI 2) →
                      vp_in v16 96 ∧
                      vp_in (h 24 v16.toNatClampNeg) 3 ∧
                      ((h 10 (h 24 v16.toNatClampNeg).toNatClampNeg) ≤ v19 →
                        K27) ∧ (¬ (h 10 (h 24 v16.toNatClampNeg).toNatClampNeg) ≤ v19 →
                        K25)) ∧ (¬ (h 23 v16.toNatClampNeg) = (nI 2) →
                      (v19 ≤ 0 →
                        K27) ∧ (¬ v19 ≤ 0 →
                        K25))) (
                    K23 (nI 0)))) (
                K23 (nI 1))) (fun v24 =>
              ∀ v30 : Int32, v30 = v13 + (nI 1) →
              B11 v24 v30))))) v6 (nI 0))))
set_option maxRecDepth 100000 in
def q_X12_isFirst (h : hp_H) (a1 a2 a3 : Int32) (Q : Int32 → Prop) : Prop :=
  q_X12_channelAt a2 (fun r1 =>
  ∀ v2 : Int32, v2 = (r1 + (nI 1)) →
  hp_lp1 (fun v4 B3 =>
    (a3 ≤ v4 →
      Q (nI 1)) ∧ (¬ a3 ≤ v4 →
      q_X12_cell h a1 (v2 + v4) (fun r6 =>
      q_X12_cell h a1 (v2 + a3) (fun r7 =>
      (r6 = r7 →
        Q (nI 0)) ∧ (¬ r6 = r7 →
        ∀ v9 : Int32, v9 = v4 + (nI 1) →
        B3 v9))))) (nI 0))
set_option maxRecDepth 100000 in
def q_X12_nextChoice (h : hp_H) (a1 a2 a3 : Int32) (Q : Int32 → Prop) : Prop :=
  vp_in a2 96 ∧
  ∀ v1 : Int32, v1 = (h 24 a2.toNatClampNeg) →
  q_X12_channelAt v1 (fun r2 =>
  q_X12_cell h a1 r2 (fun r3 =>
  hp_lp1 (fun v5 B4 =>
    hp_jn0 (fun K7 =>
      (r3 ≤ v5 →
        K7) ∧ (¬ r3 ≤ v5 →
        q_X12_isFirst h a1 v1 v5 (fun r8 =>
        (r8 = 0 →
          ∀ v10 : Int32, v10 = v5 + (nI 1) →
          B4 v10) ∧ (¬ r8 = 0 →
          K7)))) (
      (r3 ≤ v5 →
        Q (-1)) ∧ (¬ r3 ≤ v5 →
        vp_in v1 3 ∧
        ((h 11 v1.toNatClampNeg) = 0 →
          (v5 = 0 →
            Q v5) ∧ (¬ v5 = 0 →
            Q (-1))) ∧ (¬ (h 11 v1.toNatClampNeg) = 0 →
          Q v5)))) a3))
set_option maxRecDepth 100000 in
def q_X12_hasNextWay (h : hp_H) (a1 a2 : Int32) (Q : Int32 → hp_H → Prop) : Prop :=
  vp_in a2 24 ∧
  ∀ v1 : Int32, v1 = ((h 22 a2.toNatClampNeg) - (nI 1)) →
  hp_lp1h (fun v3 h4 B2 =>
    (v3 < 0 →
      Q (nI 0) h4) ∧ (¬ v3 < 0 →
      ∀ v6 : Int32, v6 = (((nI 4) * a2) + v3) →
      vp_in v6 96 ∧
      hp_jn0h (fun K8 =>
        ((h4 23 v6.toNatClampNeg) = (nI 3) →
          vp_in v3 4 ∧
          q_X12_nextChoice h4 a1 v6 ((h4 38 v3.toNatClampNeg) + (nI 1)) (fun r10 =>
          (r10 = (-1) →
            vp_in v3 4 ∧
            ∀ h12 : hp_H, h12 = hp_up h4 38 v3.toNatClampNeg (nI 0) →
            K8 h12) ∧ (¬ r10 = (-1) →
            vp_in v3 4 ∧
            ∀ h13 : hp_H, h13 = hp_up h4 38 v3.toNatClampNeg r10 →
            Q (nI 1) h13))) ∧ (¬ (h4 23 v6.toNatClampNeg) = (nI 3) →
          K8 h4)) (fun h9 =>
        ∀ v14 : Int32, v14 = v3 + (-1) →
        B2 v14 h9))) v1 h
set_option maxRecDepth 100000 in
def q_X12_letterGoes (h : hp_H) (a1 a2 : Int32) (Q : hp_H → Prop) : Prop :=
  q_X12_channelAt a1 (fun r1 =>
  hp_lp1h (fun v3 h4 B2 =>
    vp_in r1 54 ∧
    ((h4 36 r1.toNatClampNeg) ≤ (v3 + (nI 1)) →
      vp_in r1 54 ∧
      vp_in (r1 + (h4 36 r1.toNatClampNeg)) 54 ∧
      ∀ h6 : hp_H, h6 = hp_up h4 36 (r1 + (h4 36 r1.toNatClampNeg)).toNatClampNeg (nI 0) →
      vp_in r1 54 ∧
      vp_in r1 54 ∧
      ∀ h7 : hp_H, h7 = hp_up h6 36 r1.toNatClampNeg ((h6 36 r1.toNatClampNeg) - (nI 1)) →
      Q h7) ∧ (¬ (h4 36 r1.toNatClampNeg) ≤ (v3 + (nI 1)) →
      vp_in ((r1 + (nI 2)) + v3) 54 ∧
      vp_in ((r1 + (nI 1)) + v3) 54 ∧
      ∀ h8 : hp_H, h8 = hp_up h4 36 ((r1 + (nI 1)) + v3).toNatClampNeg (h4 36 ((r1 + (nI 2)) + v3).toNatClampNeg) →
      ∀ v9 : Int32, v9 = v3 + (nI 1) →
      B2 v9 h8)) a2 h)
set_option maxRecDepth 100000 in
def q_X12_isDone (h : hp_H) (a1 a2 a3 : Int32) (Q : Int32 → hp_H → Prop) : Prop :=
  vp_in a3 24 ∧
  ∀ v1 : Int32, v1 = (h 18 a3.toNatClampNeg) →
  q_X12_memberAt v1 a2 (fun r2 =>
  hp_lp1h (fun v4 h5 B3 =>
    vp_in a3 24 ∧
    ((h5 22 a3.toNatClampNeg) ≤ v4 →
      vp_in a3 24 ∧
      vp_in r2 54 ∧
      ∀ h7 : hp_H, h7 = hp_up h5 36 r2.toNatClampNeg (h5 20 a3.toNatClampNeg) →
      Q (nI 1) h7) ∧ (¬ (h5 22 a3.toNatClampNeg) ≤ v4 →
      ∀ v8 : Int32, v8 = (((nI 4) * a3) + v4) →
      vp_in v8 96 ∧
      ∀ v9 : Int32, v9 = (h5 24 v8.toNatClampNeg) →
      vp_in v8 96 ∧
      hp_jn1 (fun K11 =>
        ((h5 23 v8.toNatClampNeg) = (nI 3) →
          q_X12_channelAt v9 (fun r13 =>
          vp_in v4 4 ∧
          q_X12_cell h5 a1 ((r13 + (nI 1)) + (h5 38 v4.toNatClampNeg)) (fun r14 =>
          K11 r14))) ∧ (¬ (h5 23 v8.toNatClampNeg) = (nI 3) →
          vp_in v8 96 ∧
          vp_in (h5 25 v8.toNatClampNeg) 80 ∧
          K11 (h5 37 (h5 25 v8.toNatClampNeg).toNatClampNeg))) (fun v12 =>
        vp_in v8 96 ∧
        hp_jn0h (fun K16 =>
          ((h5 23 v8.toNatClampNeg) = 0 →
            vp_in v9 6 ∧
            vp_in v9 6 ∧
            q_X12_in v12 (h5 1 v9.toNatClampNeg) (h5 2 v9.toNatClampNeg) (fun r32 =>
            (r32 = 0 →
              Q (nI 0) h5) ∧ (¬ r32 = 0 →
              vp_in v9 54 ∧
              ∀ h34 : hp_H, h34 = hp_up h5 36 v9.toNatClampNeg v12 →
              K16 h34))) ∧ (¬ (h5 23 v8.toNatClampNeg) = 0 →
            vp_in v8 96 ∧
            ((h5 23 v8.toNatClampNeg) = (nI 2) →
              q_X12_in v12 (nI 0) (nI 9) (fun r27 =>
              (r27 = 0 →
                Q (nI 0) h5) ∧ (¬ r27 = 0 →
                q_X12_channelAt v9 (fun r29 =>
                vp_in r29 54 ∧
                vp_in r29 54 ∧
                ∀ h30 : hp_H, h30 = hp_up h5 36 r29.toNatClampNeg ((h5 36 r29.toNatClampNeg) + (nI 1)) →
                vp_in r29 54 ∧
                vp_in (r29 + (h30 36 r29.toNatClampNeg)) 54 ∧
                ∀ h31 : hp_H, h31 = hp_up h30 36 (r29 + (h30 36 r29.toNatClampNeg)).toNatClampNeg v12 →
                K16 h31)))) ∧ (¬ (h5 23 v8.toNatClampNeg) = (nI 2) →
              vp_in v8 96 ∧
              hp_jn1 (fun K20 =>
                ((h5 23 v8.toNatClampNeg) = (nI 1) →
                  K20 v9) ∧ (¬ (h5 23 v8.toNatClampNeg) = (nI 1) →
                  vp_in v8 96 ∧
                  K20 (h5 25 v8.toNatClampNeg))) (fun v21 =>
                vp_in (((nI 3) * v1) + v21) 9 ∧
                vp_in (((nI 3) * v1) + v21) 9 ∧
                q_X12_in v12 (h5 6 (((nI 3) * v1) + v21).toNatClampNeg) (h5 7 (((nI 3) * v1) + v21).toNatClampNeg) (fun r22 =>
                (r22 = 0 →
                  Q (nI 0) h5) ∧ (¬ r22 = 0 →
                  vp_in ((r2 + (nI 1)) + v21) 54 ∧
                  ∀ h24 : hp_H, h24 = hp_up h5 36 ((r2 + (nI 1)) + v21).toNatClampNeg v12 →
                  vp_in v8 96 ∧
                  ((h24 23 v8.toNatClampNeg) = (nI 3) →
                    vp_in v4 4 ∧
                    q_X12_letterGoes h24 v9 (h24 38 v4.toNatClampNeg) (fun h26 =>
                    K16 h26)) ∧ (¬ (h24 23 v8.toNatClampNeg) = (nI 3) →
                    K16 h24))))))) (fun h17 =>
          ∀ v35 : Int32, v35 = v4 + (nI 1) →
          B3 v35 h17)))) (nI 0) h)
set_option maxRecDepth 100000 in
def q_X12_fault (h : hp_H) (a1 a2 a3 a4 : Int32) (Q : hp_H → Prop) : Prop :=
  ((h 0 46) = 0 →
    ∀ h2 : hp_H, h2 = hp_up h 0 46 (nI 1) →
    ∀ h3 : hp_H, h3 = hp_up h2 0 47 a1 →
    ∀ h4 : hp_H, h4 = hp_up h3 0 48 a2 →
    ∀ h5 : hp_H, h5 = hp_up h4 0 49 a3 →
    ∀ h6 : hp_H, h6 = hp_up h5 0 50 a4 →
    Q h6) ∧ (¬ (h 0 46) = 0 →
    Q h)
set_option maxRecDepth 100000 in
def q_X12_goWays (h : hp_H) (a1 a2 a3 : Int32) (Q : Int32 → hp_H → Prop) : Prop :=
  hp_lp1h (fun v2 h3 B1 =>
    ((nI 4) ≤ v2 →
      hp_lp1h (fun v6 h7 B5 =>
        (v6 = 0 →
          Q (nI 1) h7) ∧ (¬ v6 = 0 →
          q_X12_take h7 a1 (fun h9 =>
          q_X12_isDone h9 a1 a2 a3 (fun r10 h11 =>
          hp_jn0h (fun K13 =>
            (r10 = 0 →
              vp_in a3 24 ∧
              q_X12_fault h11 a1 (h11 18 a3.toNatClampNeg) a2 a3 (fun h15 =>
              K13 h15)) ∧ (¬ r10 = 0 →
              vp_in a3 24 ∧
              q_X12_comes h11 a1 (h11 18 a3.toNatClampNeg) a2 a3 (fun r16 h17 =>
              (r16 = 0 →
                Q (nI 0) h17) ∧ (¬ r16 = 0 →
                K13 h17)))) (fun h14 =>
            q_X12_hasNextWay h14 a1 a3 (fun r19 h20 =>
            B5 r19 h20)))))) (nI 1) h3) ∧ (¬ (nI 4) ≤ v2 →
      vp_in v2 4 ∧
      ∀ h21 : hp_H, h21 = hp_up h3 38 v2.toNatClampNeg (nI 0) →
      ∀ v22 : Int32, v22 = v2 + (nI 1) →
      B1 v22 h21)) (nI 0) h
set_option maxRecDepth 100000 in
def q_X12_goThrough (h : hp_H) (a1 : Int32) (Q : Int32 → hp_H → Prop) : Prop :=
  vp_in a1 401 ∧
  ∀ h1 : hp_H, h1 = hp_up h 31 a1.toNatClampNeg (h 0 40) →
  hp_lp1h (fun v3 h4 B2 =>
    ((h4 0 4) ≤ v3 →
      hp_lp1h (fun v7 h8 B6 =>
        ((h8 0 11) ≤ v7 →
          Q (nI 1) h8) ∧ (¬ (h8 0 11) ≤ v7 →
          hp_lp1h (fun v11 h12 B10 =>
            q_X12_channelAt v7 (fun r13 =>
            q_X12_cell h12 a1 r13 (fun r14 =>
            hp_jn0 (fun K16 =>
              (r14 ≤ v11 →
                K16) ∧ (¬ r14 ≤ v11 →
                vp_in v7 3 ∧
                ((h12 12 v7.toNatClampNeg) = 0 →
                  K16) ∧ (¬ (h12 12 v7.toNatClampNeg) = 0 →
                  q_X12_isFirst h12 a1 v7 v11 (fun r18 =>
                  hp_jn0h (fun K20 =>
                    (r18 = 0 →
                      K20 h12) ∧ (¬ r18 = 0 →
                      q_X12_take h12 a1 (fun h22 =>
                      q_X12_letterGoes h22 v7 v11 (fun h23 =>
                      q_X12_comes h23 a1 (-1) (-1) (-1) (fun r24 h25 =>
                      (r24 = 0 →
                        Q (nI 0) h25) ∧ (¬ r24 = 0 →
                        K20 h25)))))) (fun h21 =>
                    ∀ v27 : Int32, v27 = v11 + (nI 1) →
                    B10 v27 h21))))) (
              ∀ v28 : Int32, v28 = v7 + (nI 1) →
              B6 v28 h12)))) (nI 0) h8)) (nI 0) h4) ∧ (¬ (h4 0 4) ≤ v3 →
      hp_lp1h (fun v30 h31 B29 =>
        vp_in v3 3 ∧
        ((h31 4 v3.toNatClampNeg) ≤ v30 →
          ∀ v33 : Int32, v33 = v3 + (nI 1) →
          B2 v33 h31) ∧ (¬ (h31 4 v3.toNatClampNeg) ≤ v30 →
          q_X12_reckon h31 a1 v3 v30 (fun h34 =>
          hp_lp1h (fun v36 h37 B35 =>
            ((h37 0 21) ≤ v36 →
              ∀ v39 : Int32, v39 = v30 + (nI 1) →
              B29 v39 h37) ∧ (¬ (h37 0 21) ≤ v36 →
              vp_in v36 24 ∧
              hp_jn0h (fun K41 =>
                ((h37 18 v36.toNatClampNeg) = v3 →
                  q_X12_can h37 a1 v30 v36 (fun r43 =>
                  (r43 = 0 →
                    K41 h37) ∧ (¬ r43 = 0 →
                    q_X12_goWays h37 a1 v30 v36 (fun r45 h46 =>
                    (r45 = 0 →
                      Q (nI 0) h46) ∧ (¬ r45 = 0 →
                      K41 h46))))) ∧ (¬ (h37 18 v36.toNatClampNeg) = v3 →
                  K41 h37)) (fun h42 =>
                ∀ v48 : Int32, v48 = v36 + (nI 1) →
                B35 v48 h42))) (nI 0) h34))) (nI 0) h4)) (nI 0) h1
set_option maxRecDepth 100000 in
def q_X12_use (h : hp_H) (a1 : Int32) (Q : hp_H → Prop) : Prop :=
  (a1 = (-1) →
    Q h) ∧ (¬ a1 = (-1) →
    vp_in a1 80 ∧
    ∀ h2 : hp_H, h2 = hp_up h 39 a1.toNatClampNeg (nI 1) →
    Q h2)
set_option maxRecDepth 100000 in
def q_X12_isFit (h : hp_H) (a1 : Int32) (Q : Int32 → hp_H → Prop) : Prop :=
  hp_lp1h (fun v2 h3 B1 =>
    ((h3 0 15) ≤ v2 →
      vp_in a1 24 ∧
      q_X12_use h3 (h3 21 a1.toNatClampNeg) (fun h5 =>
      hp_lp1h (fun v7 h8 B6 =>
        vp_in a1 24 ∧
        ((h8 22 a1.toNatClampNeg) ≤ v7 →
          ∀ v10 : Int32, v10 = ((h8 0 15) - (nI 1)) →
          hp_lp1h (fun v12 h13 B11 =>
            (v12 < 0 →
              Q (nI 1) h13) ∧ (¬ v12 < 0 →
              vp_in v12 80 ∧
              hp_jn0h (fun K16 =>
                ((h13 39 v12.toNatClampNeg) = 0 →
                  K16 h13) ∧ (¬ (h13 39 v12.toNatClampNeg) = 0 →
                  vp_in v12 80 ∧
                  ((h13 13 v12.toNatClampNeg) ≤ (nI 6) →
                    K16 h13) ∧ (¬ (h13 13 v12.toNatClampNeg) ≤ (nI 6) →
                    vp_in v12 80 ∧
                    q_X12_use h13 (h13 14 v12.toNatClampNeg) (fun h19 =>
                    vp_in v12 80 ∧
                    hp_jn1 (fun K21 =>
                      ((nI 14) ≤ (h19 13 v12.toNatClampNeg) →
                        K21 (-1)) ∧ (¬ (nI 14) ≤ (h19 13 v12.toNatClampNeg) →
                        vp_in v12 80 ∧
                        K21 (h19 15 v12.toNatClampNeg))) (fun v22 =>
                      q_X12_use h19 v22 (fun h23 =>
                      K16 h23)))))) (fun h17 =>
                vp_in v12 80 ∧
                hp_jn0 (fun K25 =>
                  ((h17 39 v12.toNatClampNeg) = 0 →
                    K25) ∧ (¬ (h17 39 v12.toNatClampNeg) = 0 →
                    vp_in v12 80 ∧
                    ((h17 13 v12.toNatClampNeg) = (nI 2) →
                      vp_in v12 80 ∧
                      vp_in a1 24 ∧
                      vp_in (h17 18 a1.toNatClampNeg) 3 ∧
                      ((h17 14 v12.toNatClampNeg) < (h17 5 (h17 18 a1.toNatClampNeg).toNatClampNeg) →
                        K25) ∧ (¬ (h17 14 v12.toNatClampNeg) < (h17 5 (h17 18 a1.toNatClampNeg).toNatClampNeg) →
                        Q (nI 0) h17)) ∧ (¬ (h17 13 v12.toNatClampNeg) = (nI 2) →
                      K25))) (
                  ∀ v28 : Int32, v28 = v12 + (-1) →
                  B11 v28 h17)))) v10 h8) ∧ (¬ (h8 22 a1.toNatClampNeg) ≤ v7 →
          vp_in (((nI 4) * a1) + v7) 96 ∧
          hp_jn1 (fun K30 =>
            ((nI 3) ≤ (h8 23 (((nI 4) * a1) + v7).toNatClampNeg) →
              K30 (-1)) ∧ (¬ (nI 3) ≤ (h8 23 (((nI 4) * a1) + v7).toNatClampNeg) →
              vp_in (((nI 4) * a1) + v7) 96 ∧
              K30 (h8 25 (((nI 4) * a1) + v7).toNatClampNeg))) (fun v31 =>
            q_X12_use h8 v31 (fun h32 =>
            ∀ v33 : Int32, v33 = v7 + (nI 1) →
            B6 v33 h32)))) (nI 0) h5)) ∧ (¬ (h3 0 15) ≤ v2 →
      vp_in v2 80 ∧
      ∀ h34 : hp_H, h34 = hp_up h3 39 v2.toNatClampNeg (nI 0) →
      ∀ v35 : Int32, v35 = v2 + (nI 1) →
      B1 v35 h34)) (nI 0) h
set_option maxRecDepth 100000 in
def q_X12_maySearch (h : hp_H) (Q : Int32 → hp_H → Prop) : Prop :=
  hp_lp1 (fun v2 B1 =>
    hp_jn0 (fun K4 =>
      ((h 0 15) ≤ v2 →
        K4) ∧ (¬ (h 0 15) ≤ v2 →
        ((h 0 30) = 0 →
          K4) ∧ (¬ (h 0 30) = 0 →
          vp_in v2 80 ∧
          ((h 13 v2.toNatClampNeg) = (nI 3) →
            Q (nI 0) h) ∧ (¬ (h 13 v2.toNatClampNeg) = (nI 3) →
            vp_in v2 80 ∧
            ((h 13 v2.toNatClampNeg) = (nI 6) →
              Q (nI 0) h) ∧ (¬ (h 13 v2.toNatClampNeg) = (nI 6) →
              ∀ v8 : Int32, v8 = v2 + (nI 1) →
              B1 v8))))) (
      hp_lp1h (fun v10 h11 B9 =>
        ((h11 0 21) ≤ v10 →
          Q (nI 1) h11) ∧ (¬ (h11 0 21) ≤ v10 →
          q_X12_isFit h11 v10 (fun r13 h14 =>
          (r13 = 0 →
            Q (nI 0) h14) ∧ (¬ r13 = 0 →
            ∀ v16 : Int32, v16 = v10 + (nI 1) →
            B9 v16 h14)))) (nI 0) h)) (nI 0)
set_option maxRecDepth 100000 in
def q_X12_search (h : hp_H) (Q : Int32 → hp_H → Prop) : Prop :=
  q_X12_maySearch h (fun r1 h2 =>
  (r1 = 0 →
    Q (-5) h2) ∧ (¬ r1 = 0 →
    hp_lp1h (fun v5 h6 B4 =>
      ((nI 54) ≤ v5 →
        hp_lp1h (fun v9 h10 B8 =>
          ((h10 0 0) ≤ v9 →
            hp_lp1h (fun v13 h14 B12 =>
              ((h14 0 4) ≤ v13 →
                ∀ h16 : hp_H, h16 = hp_up h14 0 33 (nI 1) →
                ∀ h17 : hp_H, h17 = hp_up h16 0 34 (nI 0) →
                ∀ h18 : hp_H, h18 = hp_up h17 0 46 (nI 0) →
                ∀ h19 : hp_H, h19 = hp_up h18 0 35 (nI 1) →
                ∀ h20 : hp_H, h20 = hp_up h19 0 40 (nI 0) →
                vp_in (nI 0) 400 ∧
                ∀ h21 : hp_H, h21 = hp_up h20 28 (nI 0).toNatClampNeg (-1) →
                vp_in (nI 0) 400 ∧
                ∀ h22 : hp_H, h22 = hp_up h21 29 (nI 0).toNatClampNeg (-1) →
                vp_in (nI 0) 400 ∧
                ∀ h23 : hp_H, h23 = hp_up h22 30 (nI 0).toNatClampNeg (nI 0) →
                hp_lp1h (fun v25 h26 B24 =>
                  ((h26 0 35) ≤ v25 →
                    Q (h26 0 35) h26) ∧ (¬ (h26 0 35) ≤ v25 →
                    q_X12_goThrough h26 v25 (fun r28 h29 =>
                    (r28 = 0 →
                      ∀ h33 : hp_H, h33 = hp_up h29 0 34 (nI 1) →
                      Q (-7) h33) ∧ (¬ r28 = 0 →
                      vp_in (v25 + (nI 1)) 401 ∧
                      ∀ h31 : hp_H, h31 = hp_up h29 31 (v25 + (nI 1)).toNatClampNeg (h29 0 40) →
                      ∀ v32 : Int32, v32 = v25 + (nI 1) →
                      B24 v32 h31)))) (nI 0) h23) ∧ (¬ (h14 0 4) ≤ v13 →
                hp_lp1h (fun v35 h36 B34 =>
                  vp_in v13 3 ∧
                  ((h36 4 v13.toNatClampNeg) ≤ v35 →
                    ∀ v38 : Int32, v38 = v13 + (nI 1) →
                    B12 v38 h36) ∧ (¬ (h36 4 v13.toNatClampNeg) ≤ v35 →
                    hp_lp1h (fun v40 h41 B39 =>
                      vp_in v13 3 ∧
                      ((h41 5 v13.toNatClampNeg) ≤ v40 →
                        ∀ v43 : Int32, v43 = v35 + (nI 1) →
                        B34 v43 h41) ∧ (¬ (h41 5 v13.toNatClampNeg) ≤ v40 →
                        q_X12_memberAt v13 v35 (fun r44 =>
                        vp_in (((nI 3) * v13) + v40) 9 ∧
                        vp_in ((r44 + (nI 1)) + v40) 21600 ∧
                        ∀ h45 : hp_H, h45 = hp_up h41 27 ((r44 + (nI 1)) + v40).toNatClampNeg (h41 8 (((nI 3) * v13) + v40).toNatClampNeg) →
                        ∀ v46 : Int32, v46 = v40 + (nI 1) →
                        B39 v46 h45))) (nI 0) h36)) (nI 0) h14)) (nI 0) h10) ∧ (¬ (h10 0 0) ≤ v9 →
            vp_in v9 6 ∧
            vp_in v9 21600 ∧
            ∀ h47 : hp_H, h47 = hp_up h10 27 v9.toNatClampNeg (h10 3 v9.toNatClampNeg) →
            ∀ v48 : Int32, v48 = v9 + (nI 1) →
            B8 v48 h47)) (nI 0) h6) ∧ (¬ (nI 54) ≤ v5 →
        vp_in v5 21600 ∧
        ∀ h49 : hp_H, h49 = hp_up h6 27 v5.toNatClampNeg (nI 0) →
        ∀ v50 : Int32, v50 = v5 + (nI 1) →
        B4 v50 h49)) (nI 0) h2))
set_option maxRecDepth 100000 in
def q_X12_hasStates (h : hp_H) (Q : Int32 → Prop) : Prop :=
  ((h 0 33) = 0 →
    Q (nI 0)) ∧ (¬ (h 0 33) = 0 →
    ((h 0 34) = 0 →
      Q (nI 1)) ∧ (¬ (h 0 34) = 0 →
      Q (nI 0)))
set_option maxRecDepth 100000 in
def q_X12_isState (h : hp_H) (a1 : Int32) (Q : Int32 → Prop) : Prop :=
  q_X12_in a1 (nI 0) ((h 0 35) - (nI 1)) (fun r1 =>
  hp_bz r1 ∧
  Q r1)
set_option maxRecDepth 100000 in
def q_X12_tells (h : hp_H) (a1 a2 : Int32) (Q : Int32 → hp_H → Prop) : Prop :=
  q_X12_hasStates h (fun r1 =>
  (r1 = 0 →
    Q (-2147483648) h) ∧ (¬ r1 = 0 →
    q_X12_isState h a1 (fun r3 =>
    (r3 = 0 →
      Q (-2147483648) h) ∧ (¬ r3 = 0 →
      q_X12_isExpr h a2 (fun r5 =>
      (r5 = 0 →
        Q (-2147483648) h) ∧ (¬ r5 = 0 →
        vp_in a2 80 ∧
        ((h 17 a2.toNatClampNeg) = 0 →
          q_X12_reckon h a1 (-1) (-1) (fun h8 =>
          vp_in a2 80 ∧
          Q (h8 37 a2.toNatClampNeg) h8)) ∧ (¬ (h 17 a2.toNatClampNeg) = 0 →
          Q (-2147483648) h)))))))
set_option maxRecDepth 100000 in
def q_X12_isMember (h : hp_H) (a1 a2 : Int32) (Q : Int32 → Prop) : Prop :=
  q_X12_isRole h a1 (fun r1 =>
  (r1 = 0 →
    Q (nI 0)) ∧ (¬ r1 = 0 →
    vp_in a1 3 ∧
    q_X12_in a2 (nI 0) ((h 4 a1.toNatClampNeg) - (nI 1)) (fun r3 =>
    (r3 = 0 →
      Q (nI 0)) ∧ (¬ r3 = 0 →
      Q (nI 1)))))
set_option maxRecDepth 100000 in
def q_X12_place (h : hp_H) (a1 a2 a3 : Int32) (Q : Int32 → Prop) : Prop :=
  q_X12_hasStates h (fun r1 =>
  (r1 = 0 →
    Q (-5)) ∧ (¬ r1 = 0 →
    q_X12_isState h a1 (fun r3 =>
    (r3 = 0 →
      Q (-2)) ∧ (¬ r3 = 0 →
      q_X12_isMember h a2 a3 (fun r5 =>
      (r5 = 0 →
        Q (-2)) ∧ (¬ r5 = 0 →
        q_X12_memberAt a2 a3 (fun r7 =>
        q_X12_cell h a1 r7 (fun r8 =>
        Q r8))))))))
set_option maxRecDepth 100000 in
def q_X12_owned (h : hp_H) (a1 a2 a3 a4 : Int32) (Q : Int32 → Prop) : Prop :=
  q_X12_hasStates h (fun r1 =>
  (r1 = 0 →
    Q (-5)) ∧ (¬ r1 = 0 →
    q_X12_isState h a1 (fun r3 =>
    (r3 = 0 →
      Q (-2)) ∧ (¬ r3 = 0 →
      q_X12_isMember h a2 a3 (fun r5 =>
      (r5 = 0 →
        Q (-2)) ∧ (¬ r5 = 0 →
        vp_in a2 3 ∧
        q_X12_in a4 (nI 0) ((h 5 a2.toNatClampNeg) - (nI 1)) (fun r7 =>
        (r7 = 0 →
          Q (-2)) ∧ (¬ r7 = 0 →
          q_X12_memberAt a2 a3 (fun r9 =>
          q_X12_cell h a1 ((r9 + (nI 1)) + a4) (fun r10 =>
          Q r10))))))))))
set_option maxRecDepth 100000 in
def q_X12_letter (h : hp_H) (a1 a2 a3 : Int32) (Q : Int32 → Prop) : Prop :=
  q_X12_hasStates h (fun r1 =>
  (r1 = 0 →
    Q (-5)) ∧ (¬ r1 = 0 →
    q_X12_isState h a1 (fun r3 =>
    (r3 = 0 →
      Q (-2)) ∧ (¬ r3 = 0 →
      q_X12_isChannel h a2 (fun r5 =>
      (r5 = 0 →
        Q (-2)) ∧ (¬ r5 = 0 →
        q_X12_channelAt a2 (fun r7 =>
        q_X12_cell h a1 r7 (fun r8 =>
        q_X12_in a3 (nI 0) (r8 - (nI 1)) (fun r9 =>
        (r9 = 0 →
          Q (-1)) ∧ (¬ r9 = 0 →
          q_X12_channelAt a2 (fun r11 =>
          q_X12_cell h a1 ((r11 + (nI 1)) + a3) (fun r12 =>
          Q r12))))))))))))
set_option maxRecDepth 100000 in
def q_X12_movesOf (h : hp_H) (a1 : Int32) (Q : Int32 → Prop) : Prop :=
  vp_in (a1 + (nI 1)) 401 ∧
  vp_in a1 401 ∧
  Q ((h 31 (a1 + (nI 1)).toNatClampNeg) - (h 31 a1.toNatClampNeg))
set_option maxRecDepth 100000 in
def q_X12_moves (h : hp_H) (a1 : Int32) (Q : Int32 → Prop) : Prop :=
  q_X12_hasStates h (fun r1 =>
  (r1 = 0 →
    Q (-5)) ∧ (¬ r1 = 0 →
    q_X12_isState h a1 (fun r3 =>
    (r3 = 0 →
      Q (-2)) ∧ (¬ r3 = 0 →
      q_X12_movesOf h a1 (fun r5 =>
      Q r5)))))
set_option maxRecDepth 100000 in
def q_X12_move (h : hp_H) (a1 a2 a3 : Int32) (Q : Int32 → Prop) : Prop :=
  q_X12_hasStates h (fun r1 =>
  (r1 = 0 →
    Q (-5)) ∧ (¬ r1 = 0 →
    q_X12_isState h a1 (fun r3 =>
    (r3 = 0 →
      Q (-2)) ∧ (¬ r3 = 0 →
      q_X12_movesOf h a1 (fun r5 =>
      q_X12_in a2 (nI 0) (r5 - (nI 1)) (fun r6 =>
      (r6 = 0 →
        Q (-2)) ∧ (¬ r6 = 0 →
        vp_in a1 401 ∧
        ∀ v8 : Int32, v8 = ((h 31 a1.toNatClampNeg) + a2) →
        ((a3 = (nI 0)) →
          vp_in v8 6000 ∧
          Q (h 32 v8.toNatClampNeg))
        ∧ ((a3 = (nI 1)) →
          vp_in v8 6000 ∧
          Q (h 33 v8.toNatClampNeg))
        ∧ ((a3 = (nI 2)) →
          vp_in v8 6000 ∧
          Q (h 34 v8.toNatClampNeg))
        ∧ ((a3 = (nI 3)) →
          vp_in v8 6000 ∧
          Q (h 35 v8.toNatClampNeg))
        ∧ ((¬ a3 = (nI 0) ∧ ¬ a3 = (nI 1) ∧ ¬ a3 = (nI 2) ∧ ¬ a3 = (nI 3)) →
          Q (-3)))))))))
set_option maxRecDepth 100000 in
def q_X12_depth (h : hp_H) (a1 : Int32) (Q : Int32 → Prop) : Prop :=
  q_X12_hasStates h (fun r1 =>
  (r1 = 0 →
    Q (-5)) ∧ (¬ r1 = 0 →
    q_X12_isState h a1 (fun r3 =>
    (r3 = 0 →
      Q (-2)) ∧ (¬ r3 = 0 →
      vp_in a1 400 ∧
      Q (h 30 a1.toNatClampNeg)))))
set_option maxRecDepth 100000 in
def q_X12_came (h : hp_H) (a1 a2 : Int32) (Q : Int32 → Prop) : Prop :=
  q_X12_hasStates h (fun r1 =>
  (r1 = 0 →
    Q (-5)) ∧ (¬ r1 = 0 →
    q_X12_isState h a1 (fun r3 =>
    (r3 = 0 →
      Q (-2)) ∧ (¬ r3 = 0 →
      q_X12_in a2 (nI 0) (nI 1) (fun r5 =>
      (r5 = 0 →
        Q (-3)) ∧ (¬ r5 = 0 →
        (a2 = 0 →
          vp_in a1 400 ∧
          Q (h 28 a1.toNatClampNeg)) ∧ (¬ a2 = 0 →
          vp_in a1 400 ∧
          Q (h 29 a1.toNatClampNeg))))))))
set_option maxRecDepth 100000 in
def q_X12_isStuck (h : hp_H) (a1 : Int32) (Q : Int32 → Prop) : Prop :=
  vp_in a1 401 ∧
  ∀ v1 : Int32, v1 = (h 31 a1.toNatClampNeg) →
  hp_lp1 (fun v3 B2 =>
    vp_in (a1 + (nI 1)) 401 ∧
    ((h 31 (a1 + (nI 1)).toNatClampNeg) ≤ v3 →
      hp_lp1 (fun v6 B5 =>
        ((h 0 4) ≤ v6 →
          Q (nI 0)) ∧ (¬ (h 0 4) ≤ v6 →
          hp_lp1 (fun v9 B8 =>
            vp_in v6 3 ∧
            ((h 4 v6.toNatClampNeg) ≤ v9 →
              ∀ v11 : Int32, v11 = v6 + (nI 1) →
              B5 v11) ∧ (¬ (h 4 v6.toNatClampNeg) ≤ v9 →
              q_X12_memberAt v6 v9 (fun r12 =>
              q_X12_cell h a1 r12 (fun r13 =>
              vp_in (((nI 10) * v6) + r13) 30 ∧
              ((h 9 (((nI 10) * v6) + r13).toNatClampNeg) = 0 →
                Q (nI 1)) ∧ (¬ (h 9 (((nI 10) * v6) + r13).toNatClampNeg) = 0 →
                ∀ v15 : Int32, v15 = v9 + (nI 1) →
                B8 v15))))) (nI 0))) (nI 0)) ∧ (¬ (h 31 (a1 + (nI 1)).toNatClampNeg) ≤ v3 →
      vp_in v3 6000 ∧
      ((h 33 v3.toNatClampNeg) = (-1) →
        ∀ v17 : Int32, v17 = v3 + (nI 1) →
        B2 v17) ∧ (¬ (h 33 v3.toNatClampNeg) = (-1) →
        Q (nI 0)))) v1
set_option maxRecDepth 100000 in
def q_X12_stuck (h : hp_H) (Q : Int32 → Prop) : Prop :=
  q_X12_hasStates h (fun r1 =>
  (r1 = 0 →
    Q (-5)) ∧ (¬ r1 = 0 →
    hp_lp1 (fun v4 B3 =>
      ((h 0 35) ≤ v4 →
        Q (-1)) ∧ (¬ (h 0 35) ≤ v4 →
        q_X12_isStuck h v4 (fun r6 =>
        (r6 = 0 →
          ∀ v8 : Int32, v8 = v4 + (nI 1) →
          B3 v8) ∧ (¬ r6 = 0 →
          Q v4)))) (nI 0)))
set_option maxRecDepth 100000 in
def q_X12_fault_ (h : hp_H) (a1 : Int32) (Q : Int32 → Prop) : Prop :=
  q_X12_in a1 (nI 0) (nI 3) (fun r1 =>
  (r1 = 0 →
    Q (-3)) ∧ (¬ r1 = 0 →
    q_X12_hasStates h (fun r3 =>
    (r3 = 0 →
      Q (-5)) ∧ (¬ r3 = 0 →
      ((h 0 46) = 0 →
        Q (-1)) ∧ (¬ (h 0 46) = 0 →
        (a1 = 0 →
          Q (h 0 47)) ∧ (¬ a1 = 0 →
          (a1 = (nI 1) →
            Q (h 0 48)) ∧ (¬ a1 = (nI 1) →
            (a1 = (nI 2) →
              Q (h 0 49)) ∧ (¬ a1 = (nI 2) →
              Q (h 0 50)))))))))
set_option maxRecDepth 100000 in
def q_X12_always (h : hp_H) (a1 : Int32) (Q : Int32 → hp_H → Prop) : Prop :=
  q_X12_isExpr h a1 (fun r1 =>
  (r1 = 0 →
    Q (-2) h) ∧ (¬ r1 = 0 →
    vp_in a1 80 ∧
    ((h 17 a1.toNatClampNeg) = 0 →
      q_X12_hasStates h (fun r4 =>
      (r4 = 0 →
        Q (-5) h) ∧ (¬ r4 = 0 →
        hp_lp1h (fun v7 h8 B6 =>
          ((h8 0 35) ≤ v7 →
            Q (-1) h8) ∧ (¬ (h8 0 35) ≤ v7 →
            q_X12_reckon h8 v7 (-1) (-1) (fun h10 =>
            vp_in a1 80 ∧
            ((h10 37 a1.toNatClampNeg) = 0 →
              Q v7 h10) ∧ (¬ (h10 37 a1.toNatClampNeg) = 0 →
              ∀ v12 : Int32, v12 = v7 + (nI 1) →
              B6 v12 h10)))) (nI 0) h))) ∧ (¬ (h 17 a1.toNatClampNeg) = 0 →
      Q (-4) h)))
set_option maxRecDepth 100000 in
def q_X12_goAhead (h : hp_H) (a1 : Int32) (Q : hp_H → Prop) : Prop :=
  hp_lp1h (fun v2 h3 B1 =>
    ((h3 0 35) ≤ v2 →
      hp_lp1h (fun v6 h7 B5 =>
        (v6 = 0 →
          Q h7) ∧ (¬ v6 = 0 →
          hp_lp2h (fun v10 v11 h12 B9 =>
            ((h12 0 35) ≤ v11 →
              B5 v10 h12) ∧ (¬ (h12 0 35) ≤ v11 →
              vp_in v11 401 ∧
              ∀ v14 : Int32, v14 = (h12 31 v11.toNatClampNeg) →
              hp_lp2h (fun v16 v17 h18 B15 =>
                vp_in (v11 + (nI 1)) 401 ∧
                hp_jn0 (fun K20 =>
                  ((h18 31 (v11 + (nI 1)).toNatClampNeg) ≤ v17 →
                    K20) ∧ (¬ (h18 31 (v11 + (nI 1)).toNatClampNeg) ≤ v17 →
                    vp_in v11 400 ∧
                    ((h18 41 v11.toNatClampNeg) = 0 →
                      K20) ∧ (¬ (h18 41 v11.toNatClampNeg) = 0 →
                      vp_in v17 6000 ∧
                      vp_in (h18 32 v17.toNatClampNeg) 400 ∧
                      hp_jn1h (fun K23 =>
                        ((h18 40 (h18 32 v17.toNatClampNeg).toNatClampNeg) = 0 →
                          K23 v16 h18) ∧ (¬ (h18 40 (h18 32 v17.toNatClampNeg).toNatClampNeg) = 0 →
                          vp_in v17 6000 ∧
                          vp_in (h18 32 v17.toNatClampNeg) 400 ∧
                          ((h18 41 (h18 32 v17.toNatClampNeg).toNatClampNeg) = 0 →
                            vp_in v17 6000 ∧
                            vp_in (h18 32 v17.toNatClampNeg) 400 ∧
                            ∀ h27 : hp_H, h27 = hp_up h18 41 (h18 32 v17.toNatClampNeg).toNatClampNeg (nI 1) →
                            K23 (nI 1) h27) ∧ (¬ (h18 41 (h18 32 v17.toNatClampNeg).toNatClampNeg) = 0 →
                            K23 v16 h18))) (fun v24 h25 =>
                        ∀ v28 : Int32, v28 = v17 + (nI 1) →
                        B15 v24 v28 h25)))) (
                  ∀ v29 : Int32, v29 = v11 + (nI 1) →
                  B9 v16 v29 h18)) v10 v14 h12)) (nI 0) (nI 0) h7)) (nI 1) h3) ∧ (¬ (h3 0 35) ≤ v2 →
      hp_jn1 (fun K31 =>
        (v2 = a1 →
          K31 (nI 1)) ∧ (¬ v2 = a1 →
          K31 (nI 0))) (fun v32 =>
        vp_in v2 400 ∧
        hp_bz v32 ∧
        ∀ h33 : hp_H, h33 = hp_up h3 41 v2.toNatClampNeg v32 →
        ∀ v34 : Int32, v34 = v2 + (nI 1) →
        B1 v34 h33))) (nI 0) h
set_option maxRecDepth 100000 in
def q_X12_goBack (h : hp_H) (a1 : Int32) (Q : hp_H → Prop) : Prop :=
  hp_lp1h (fun v2 h3 B1 =>
    ((h3 0 35) ≤ v2 →
      hp_lp1h (fun v6 h7 B5 =>
        (v6 = 0 →
          Q h7) ∧ (¬ v6 = 0 →
          ∀ v9 : Int32, v9 = ((h7 0 35) - (nI 1)) →
          hp_lp2h (fun v11 v12 h13 B10 =>
            (v12 < 0 →
              B5 v11 h13) ∧ (¬ v12 < 0 →
              vp_in v12 401 ∧
              ∀ v15 : Int32, v15 = (h13 31 v12.toNatClampNeg) →
              hp_lp2h (fun v17 v18 h19 B16 =>
                vp_in (v12 + (nI 1)) 401 ∧
                hp_jn0 (fun K21 =>
                  ((h19 31 (v12 + (nI 1)).toNatClampNeg) ≤ v18 →
                    K21) ∧ (¬ (h19 31 (v12 + (nI 1)).toNatClampNeg) ≤ v18 →
                    vp_in v12 400 ∧
                    ((h19 40 v12.toNatClampNeg) = 0 →
                      K21) ∧ (¬ (h19 40 v12.toNatClampNeg) = 0 →
                      vp_in v12 400 ∧
                      ((h19 42 v12.toNatClampNeg) = 0 →
                        vp_in v18 6000 ∧
                        vp_in (h19 32 v18.toNatClampNeg) 400 ∧
                        hp_jn1h (fun K25 =>
                          ((h19 42 (h19 32 v18.toNatClampNeg).toNatClampNeg) = 0 →
                            K25 v17 h19) ∧ (¬ (h19 42 (h19 32 v18.toNatClampNeg).toNatClampNeg) = 0 →
                            vp_in v12 400 ∧
                            ∀ h28 : hp_H, h28 = hp_up h19 42 v12.toNatClampNeg (nI 1) →
                            K25 (nI 1) h28)) (fun v26 h27 =>
                          ∀ v29 : Int32, v29 = v18 + (nI 1) →
                          B16 v26 v29 h27)) ∧ (¬ (h19 42 v12.toNatClampNeg) = 0 →
                        K21)))) (
                  ∀ v30 : Int32, v30 = v12 + (-1) →
                  B10 v17 v30 h19)) v11 v15 h13)) (nI 0) v9 h7)) (nI 1) h3) ∧ (¬ (h3 0 35) ≤ v2 →
      hp_jn1 (fun K32 =>
        (v2 = a1 →
          K32 (nI 1)) ∧ (¬ v2 = a1 →
          K32 (nI 0))) (fun v33 =>
        vp_in v2 400 ∧
        hp_bz v33 ∧
        ∀ h34 : hp_H, h34 = hp_up h3 42 v2.toNatClampNeg v33 →
        ∀ v35 : Int32, v35 = v2 + (nI 1) →
        B1 v35 h34))) (nI 0) h
set_option maxRecDepth 100000 in
def q_X12_hasTurn (h : hp_H) (a1 a2 : Int32) (Q : Int32 → Prop) : Prop :=
  hp_lp1 (fun v2 B1 =>
    ((h 0 35) ≤ v2 →
      Q (nI 0)) ∧ (¬ (h 0 35) ≤ v2 →
      vp_in v2 401 ∧
      ∀ v4 : Int32, v4 = (h 31 v2.toNatClampNeg) →
      hp_lp2 (fun v6 v7 B5 =>
        vp_in (v2 + (nI 1)) 401 ∧
        hp_jn0 (fun K9 =>
          ((h 31 (v2 + (nI 1)).toNatClampNeg) ≤ v7 →
            K9) ∧ (¬ (h 31 (v2 + (nI 1)).toNatClampNeg) ≤ v7 →
            vp_in v2 400 ∧
            ((h 41 v2.toNatClampNeg) = 0 →
              K9) ∧ (¬ (h 41 v2.toNatClampNeg) = 0 →
              vp_in v7 6000 ∧
              hp_jn1 (fun K12 =>
                hp_jn0 (fun K14 =>
                  ((h 33 v7.toNatClampNeg) = a1 →
                    vp_in v7 6000 ∧
                    ((h 34 v7.toNatClampNeg) = a2 →
                      K12 (nI 1)) ∧ (¬ (h 34 v7.toNatClampNeg) = a2 →
                      K14)) ∧ (¬ (h 33 v7.toNatClampNeg) = a1 →
                    K14)) (
                  K12 (nI 0))) (fun v13 =>
                hp_jn1 (fun K17 =>
                  hp_jn0 (fun K19 =>
                    (v6 = 0 →
                      (v13 = 0 →
                        K17 (nI 0)) ∧ (¬ v13 = 0 →
                        K19)) ∧ (¬ v6 = 0 →
                      K19)) (
                    K17 (nI 1))) (fun v18 =>
                  hp_jn0 (fun K22 =>
                    (v13 = 0 →
                      K22) ∧ (¬ v13 = 0 →
                      vp_in v7 6000 ∧
                      vp_in (h 32 v7.toNatClampNeg) 400 ∧
                      ((h 41 (h 32 v7.toNatClampNeg).toNatClampNeg) = 0 →
                        K22) ∧ (¬ (h 41 (h 32 v7.toNatClampNeg).toNatClampNeg) = 0 →
                        Q (nI 1)))) (
                    ∀ v24 : Int32, v24 = v7 + (nI 1) →
                    B5 v18 v24)))))) (
          vp_in v2 400 ∧
          hp_jn0 (fun K26 =>
            ((h 41 v2.toNatClampNeg) = 0 →
              K26) ∧ (¬ (h 41 v2.toNatClampNeg) = 0 →
              (v6 = 0 →
                Q (nI 1)) ∧ (¬ v6 = 0 →
                K26))) (
            ∀ v28 : Int32, v28 = v2 + (nI 1) →
            B1 v28))) (nI 0) v4)) (nI 0)
set_option maxRecDepth 100000 in
def q_X12_isFair (h : hp_H) (Q : Int32 → Prop) : Prop :=
  hp_lp1 (fun v2 B1 =>
    ((h 0 4) ≤ v2 →
      Q (nI 1)) ∧ (¬ (h 0 4) ≤ v2 →
      hp_lp1 (fun v5 B4 =>
        vp_in v2 3 ∧
        ((h 4 v2.toNatClampNeg) ≤ v5 →
          ∀ v7 : Int32, v7 = v2 + (nI 1) →
          B1 v7) ∧ (¬ (h 4 v2.toNatClampNeg) ≤ v5 →
          q_X12_hasTurn h v2 v5 (fun r8 =>
          (r8 = 0 →
            Q (nI 0)) ∧ (¬ r8 = 0 →
            ∀ v10 : Int32, v10 = v5 + (nI 1) →
            B4 v10)))) (nI 0))) (nI 0)
set_option maxRecDepth 100000 in
def q_X12_hasMove (h : hp_H) (Q : Int32 → Prop) : Prop :=
  hp_lp1 (fun v2 B1 =>
    ((h 0 35) ≤ v2 →
      Q (nI 0)) ∧ (¬ (h 0 35) ≤ v2 →
      vp_in v2 401 ∧
      ∀ v4 : Int32, v4 = (h 31 v2.toNatClampNeg) →
      hp_lp1 (fun v6 B5 =>
        vp_in (v2 + (nI 1)) 401 ∧
        hp_jn0 (fun K8 =>
          ((h 31 (v2 + (nI 1)).toNatClampNeg) ≤ v6 →
            K8) ∧ (¬ (h 31 (v2 + (nI 1)).toNatClampNeg) ≤ v6 →
            vp_in v2 400 ∧
            ((h 41 v2.toNatClampNeg) = 0 →
              K8) ∧ (¬ (h 41 v2.toNatClampNeg) = 0 →
              vp_in v6 6000 ∧
              hp_jn0 (fun K11 =>
                ((h 33 v6.toNatClampNeg) = (-1) →
                  K11) ∧ (¬ (h 33 v6.toNatClampNeg) = (-1) →
                  vp_in v6 6000 ∧
                  vp_in (h 32 v6.toNatClampNeg) 400 ∧
                  ((h 41 (h 32 v6.toNatClampNeg).toNatClampNeg) = 0 →
                    K11) ∧ (¬ (h 41 (h 32 v6.toNatClampNeg).toNatClampNeg) = 0 →
                    Q (nI 1)))) (
                ∀ v13 : Int32, v13 = v6 + (nI 1) →
                B5 v13)))) (
          ∀ v14 : Int32, v14 = v2 + (nI 1) →
          B1 v14)) v4)) (nI 0)
set_option maxRecDepth 100000 in
def q_X12_findKnots (h : hp_H) (a1 : Int32) (Q : hp_H → Prop) : Prop :=
  hp_lp1h (fun v2 h3 B1 =>
    ((h3 0 35) ≤ v2 →
      hp_lp1h (fun v6 h7 B5 =>
        ((h7 0 35) ≤ v6 →
          Q h7) ∧ (¬ (h7 0 35) ≤ v6 →
          vp_in v6 400 ∧
          hp_jn0h (fun K10 =>
            ((h7 40 v6.toNatClampNeg) = 0 →
              K10 h7) ∧ (¬ (h7 40 v6.toNatClampNeg) = 0 →
              vp_in v6 400 ∧
              ((h7 44 v6.toNatClampNeg) = 0 →
                q_X12_goAhead h7 v6 (fun h13 =>
                q_X12_goBack h13 v6 (fun h14 =>
                hp_lp1h (fun v16 h17 B15 =>
                  ((h17 0 35) ≤ v16 →
                    q_X12_hasMove h17 (fun r19 =>
                    hp_jn1 (fun K21 =>
                      hp_jn0 (fun K23 =>
                        (r19 = 0 →
                          K23) ∧ (¬ r19 = 0 →
                          hp_jn0 (fun K25 =>
                            (a1 = 0 →
                              K25) ∧ (¬ a1 = 0 →
                              q_X12_isFair h17 (fun r26 =>
                              (r26 = 0 →
                                K23) ∧ (¬ r26 = 0 →
                                K25)))) (
                            K21 (nI 1)))) (
                        K21 (nI 0))) (fun v22 =>
                      hp_lp1h (fun v29 h30 B28 =>
                        ((h30 0 35) ≤ v29 →
                          K10 h30) ∧ (¬ (h30 0 35) ≤ v29 →
                          vp_in v29 400 ∧
                          hp_jn1 (fun K33 =>
                            hp_jn0 (fun K35 =>
                              ((h30 43 v29.toNatClampNeg) = 0 →
                                vp_in v29 400 ∧
                                hp_jn0 (fun K37 =>
                                  ((h30 41 v29.toNatClampNeg) = 0 →
                                    K37) ∧ (¬ (h30 41 v29.toNatClampNeg) = 0 →
                                    (v22 = 0 →
                                      K37) ∧ (¬ v22 = 0 →
                                      K35))) (
                                  K33 (nI 0))) ∧ (¬ (h30 43 v29.toNatClampNeg) = 0 →
                                K35)) (
                              K33 (nI 1))) (fun v34 =>
                            vp_in v29 400 ∧
                            hp_bz v34 ∧
                            ∀ h39 : hp_H, h39 = hp_up h30 43 v29.toNatClampNeg v34 →
                            ∀ v40 : Int32, v40 = v29 + (nI 1) →
                            B28 v40 h39))) (nI 0) h17))) ∧ (¬ (h17 0 35) ≤ v16 →
                    vp_in v16 400 ∧
                    hp_jn1 (fun K42 =>
                      hp_jn0 (fun K44 =>
                        ((h17 41 v16.toNatClampNeg) = 0 →
                          K44) ∧ (¬ (h17 41 v16.toNatClampNeg) = 0 →
                          vp_in v16 400 ∧
                          ((h17 42 v16.toNatClampNeg) = 0 →
                            K44) ∧ (¬ (h17 42 v16.toNatClampNeg) = 0 →
                            K42 (nI 1)))) (
                        K42 (nI 0))) (fun v43 =>
                      vp_in v16 400 ∧
                      hp_bz v43 ∧
                      ∀ h46 : hp_H, h46 = hp_up h17 41 v16.toNatClampNeg v43 →
                      vp_in v16 400 ∧
                      hp_jn1 (fun K48 =>
                        hp_jn0 (fun K50 =>
                          ((h46 44 v16.toNatClampNeg) = 0 →
                            vp_in v16 400 ∧
                            ((h46 41 v16.toNatClampNeg) = 0 →
                              K48 (nI 0)) ∧ (¬ (h46 41 v16.toNatClampNeg) = 0 →
                              K50)) ∧ (¬ (h46 44 v16.toNatClampNeg) = 0 →
                            K50)) (
                          K48 (nI 1))) (fun v49 =>
                        vp_in v16 400 ∧
                        hp_bz v49 ∧
                        ∀ h52 : hp_H, h52 = hp_up h46 44 v16.toNatClampNeg v49 →
                        ∀ v53 : Int32, v53 = v16 + (nI 1) →
                        B15 v53 h52)))) (nI 0) h14))) ∧ (¬ (h7 44 v6.toNatClampNeg) = 0 →
                K10 h7))) (fun h11 =>
            ∀ v54 : Int32, v54 = v6 + (nI 1) →
            B5 v54 h11))) (nI 0) h3) ∧ (¬ (h3 0 35) ≤ v2 →
      vp_in v2 400 ∧
      ∀ h55 : hp_H, h55 = hp_up h3 43 v2.toNatClampNeg (nI 0) →
      vp_in v2 400 ∧
      ∀ h56 : hp_H, h56 = hp_up h55 44 v2.toNatClampNeg (nI 0) →
      ∀ v57 : Int32, v57 = v2 + (nI 1) →
      B1 v57 h56)) (nI 0) h
set_option maxRecDepth 100000 in
def q_X12_takeWhereNot (h : hp_H) (a1 : Int32) (Q : hp_H → Prop) : Prop :=
  hp_lp1h (fun v2 h3 B1 =>
    ((h3 0 35) ≤ v2 →
      Q h3) ∧ (¬ (h3 0 35) ≤ v2 →
      q_X12_reckon h3 v2 (-1) (-1) (fun h5 =>
      vp_in a1 80 ∧
      hp_jn1 (fun K7 =>
        ((h5 37 a1.toNatClampNeg) = 0 →
          K7 (nI 1)) ∧ (¬ (h5 37 a1.toNatClampNeg) = 0 →
          K7 (nI 0))) (fun v8 =>
        vp_in v2 400 ∧
        hp_bz v8 ∧
        ∀ h9 : hp_H, h9 = hp_up h5 40 v2.toNatClampNeg v8 →
        ∀ v10 : Int32, v10 = v2 + (nI 1) →
        B1 v10 h9)))) (nI 0) h
set_option maxRecDepth 100000 in
def q_X12_again (h : hp_H) (a1 a2 : Int32) (Q : Int32 → hp_H → Prop) : Prop :=
  q_X12_isExpr h a1 (fun r1 =>
  (r1 = 0 →
    Q (-2) h) ∧ (¬ r1 = 0 →
    vp_in a1 80 ∧
    ((h 17 a1.toNatClampNeg) = 0 →
      q_X12_hasStates h (fun r4 =>
      (r4 = 0 →
        Q (-5) h) ∧ (¬ r4 = 0 →
        hp_jn0 (fun K7 =>
          (a2 = 0 →
            K7) ∧ (¬ a2 = 0 →
            ((h 0 30) = 0 →
              K7) ∧ (¬ (h 0 30) = 0 →
              Q (-5) h))) (
          q_X12_takeWhereNot h a1 (fun h9 =>
          q_X12_findKnots h9 a2 (fun h10 =>
          hp_lp1 (fun v12 B11 =>
            ((h10 0 35) ≤ v12 →
              Q (-1) h10) ∧ (¬ (h10 0 35) ≤ v12 →
              vp_in v12 400 ∧
              ((h10 43 v12.toNatClampNeg) = 0 →
                ∀ v15 : Int32, v15 = v12 + (nI 1) →
                B11 v15) ∧ (¬ (h10 43 v12.toNatClampNeg) = 0 →
                Q v12 h10))) (nI 0))))))) ∧ (¬ (h 17 a1.toNatClampNeg) = 0 →
      Q (-4) h)))
set_option maxRecDepth 100000 in
def q_X12_fromTo (h : hp_H) (a1 a2 a3 : Int32) (Q : Int32 → hp_H → Prop) : Prop :=
  q_X12_isExpr h a1 (fun r1 =>
  (r1 = 0 →
    Q (-2) h) ∧ (¬ r1 = 0 →
    q_X12_isExpr h a2 (fun r3 =>
    (r3 = 0 →
      Q (-2) h) ∧ (¬ r3 = 0 →
      vp_in a1 80 ∧
      ((h 17 a1.toNatClampNeg) = 0 →
        vp_in a2 80 ∧
        ((h 17 a2.toNatClampNeg) = 0 →
          q_X12_hasStates h (fun r7 =>
          (r7 = 0 →
            Q (-5) h) ∧ (¬ r7 = 0 →
            hp_jn0 (fun K10 =>
              (a3 = 0 →
                K10) ∧ (¬ a3 = 0 →
                ((h 0 30) = 0 →
                  K10) ∧ (¬ (h 0 30) = 0 →
                  Q (-5) h))) (
              q_X12_takeWhereNot h a2 (fun h12 =>
              q_X12_findKnots h12 a3 (fun h13 =>
              hp_lp1h (fun v15 h16 B14 =>
                ((h16 0 35) ≤ v15 →
                  Q (-1) h16) ∧ (¬ (h16 0 35) ≤ v15 →
                  q_X12_reckon h16 v15 (-1) (-1) (fun h18 =>
                  vp_in v15 400 ∧
                  hp_jn0h (fun K20 =>
                    ((h18 40 v15.toNatClampNeg) = 0 →
                      K20 h18) ∧ (¬ (h18 40 v15.toNatClampNeg) = 0 →
                      vp_in a1 80 ∧
                      ((h18 37 a1.toNatClampNeg) = 0 →
                        K20 h18) ∧ (¬ (h18 37 a1.toNatClampNeg) = 0 →
                        q_X12_goAhead h18 v15 (fun h23 =>
                        hp_lp1 (fun v25 B24 =>
                          ((h23 0 35) ≤ v25 →
                            K20 h23) ∧ (¬ (h23 0 35) ≤ v25 →
                            vp_in v25 400 ∧
                            hp_jn0 (fun K28 =>
                              ((h23 41 v25.toNatClampNeg) = 0 →
                                K28) ∧ (¬ (h23 41 v25.toNatClampNeg) = 0 →
                                vp_in v25 400 ∧
                                ((h23 43 v25.toNatClampNeg) = 0 →
                                  K28) ∧ (¬ (h23 43 v25.toNatClampNeg) = 0 →
                                  Q v15 h23))) (
                              ∀ v30 : Int32, v30 = v25 + (nI 1) →
                              B24 v30))) (nI 0))))) (fun h21 =>
                    ∀ v31 : Int32, v31 = v15 + (nI 1) →
                    B14 v31 h21)))) (nI 0) h13)))))) ∧ (¬ (h 17 a2.toNatClampNeg) = 0 →
          Q (-4) h)) ∧ (¬ (h 17 a1.toNatClampNeg) = 0 →
        Q (-4) h)))))
set_option maxRecDepth 100000 in
def q_X12_observe (h : hp_H) (a1 : Int32) (Q : Int32 → hp_H → Prop) : Prop :=
  q_X12_isExpr h a1 (fun r1 =>
  (r1 = 0 →
    Q (-2) h) ∧ (¬ r1 = 0 →
    vp_in a1 80 ∧
    ((h 17 a1.toNatClampNeg) = 0 →
      hp_lp1 (fun v5 B4 =>
        ((h 0 31) ≤ v5 →
          ((h 0 31) = (nI 8) →
            Q (-6) h) ∧ (¬ (h 0 31) = (nI 8) →
            vp_in (h 0 31) 8 ∧
            ∀ h8 : hp_H, h8 = hp_up h 26 (h 0 31).toNatClampNeg a1 →
            ∀ h9 : hp_H, h9 = hp_up h8 0 31 ((h8 0 31) + (nI 1)) →
            Q (h9 0 31) h9)) ∧ (¬ (h 0 31) ≤ v5 →
          vp_in v5 8 ∧
          ((h 26 v5.toNatClampNeg) = a1 →
            Q (-3) h) ∧ (¬ (h 26 v5.toNatClampNeg) = a1 →
            ∀ v11 : Int32, v11 = v5 + (nI 1) →
            B4 v11))) (nI 0)) ∧ (¬ (h 17 a1.toNatClampNeg) = 0 →
      Q (-4) h)))
set_option maxRecDepth 100000 in
def q_X12_isSeenAlike (h : hp_H) (a1 a2 : Int32) (Q : Int32 → Prop) : Prop :=
  hp_lp2 (fun v2 v3 B1 =>
    ((h 0 31) ≤ v3 →
      hp_bz v2 ∧
      Q v2) ∧ (¬ (h 0 31) ≤ v3 →
      (v2 = 0 →
        hp_bz v2 ∧
        Q v2) ∧ (¬ v2 = 0 →
        vp_in (((nI 8) * a1) + v3) 3200 ∧
        vp_in (((nI 8) * a2) + v3) 3200 ∧
        hp_jn1 (fun K7 =>
          ((h 48 (((nI 8) * a1) + v3).toNatClampNeg) = (h 48 (((nI 8) * a2) + v3).toNatClampNeg) →
            K7 (nI 1)) ∧ (¬ (h 48 (((nI 8) * a1) + v3).toNatClampNeg) = (h 48 (((nI 8) * a2) + v3).toNatClampNeg) →
            K7 (nI 0))) (fun v8 =>
          ∀ v9 : Int32, v9 = v3 + (nI 1) →
          B1 v8 v9)))) (nI 1) (nI 0)
set_option maxRecDepth 100000 in
def q_X12_findSigns (h : hp_H) (Q : hp_H → Prop) : Prop :=
  hp_lp1h (fun v2 h3 B1 =>
    (((nI 7) * (h3 0 35)) ≤ v2 →
      hp_lp1h (fun v6 h7 B5 =>
        ((h7 0 35) ≤ v6 →
          Q h7) ∧ (¬ (h7 0 35) ≤ v6 →
          vp_in v6 401 ∧
          ∀ v9 : Int32, v9 = (h7 31 v6.toNatClampNeg) →
          hp_lp1h (fun v11 h12 B10 =>
            vp_in (v6 + (nI 1)) 401 ∧
            ((h12 31 (v6 + (nI 1)).toNatClampNeg) ≤ v11 →
              ∀ v14 : Int32, v14 = v6 + (nI 1) →
              B5 v14 h12) ∧ (¬ (h12 31 (v6 + (nI 1)).toNatClampNeg) ≤ v11 →
              vp_in v11 6000 ∧
              vp_in (h12 32 v11.toNatClampNeg) 400 ∧
              ∀ v15 : Int32, v15 = (h12 45 (h12 32 v11.toNatClampNeg).toNatClampNeg) →
              vp_in (((nI 7) * v6) + (v15 / (nI 64))) 2800 ∧
              vp_in (((nI 7) * v6) + (v15 / (nI 64))) 2800 ∧
              ∀ h16 : hp_H, h16 = hp_upL h12 47 (((nI 7) * v6) + (v15 / (nI 64))).toNatClampNeg ((hp_ldL h12 47 (((nI 7) * v6) + (v15 / (nI 64))).toNatClampNeg) ||| (hp_shlL 1 (hp_rem v15 (nI 64)))) →
              ∀ v17 : Int32, v17 = v11 + (nI 1) →
              B10 v17 h16)) v9 h7)) (nI 0) h3) ∧ (¬ ((nI 7) * (h3 0 35)) ≤ v2 →
      vp_in v2 2800 ∧
      ∀ h18 : hp_H, h18 = hp_upL h3 47 v2.toNatClampNeg 0 →
      ∀ v19 : Int32, v19 = v2 + (nI 1) →
      B1 v19 h18)) (nI 0) h
set_option maxRecDepth 100000 in
def q_X12_hasSameSigns (h : hp_H) (a1 a2 : Int32) (Q : Int32 → Prop) : Prop :=
  vp_in a1 400 ∧
  vp_in a2 400 ∧
  hp_jn1 (fun K2 =>
    ((h 45 a1.toNatClampNeg) = (h 45 a2.toNatClampNeg) →
      K2 (nI 1)) ∧ (¬ (h 45 a1.toNatClampNeg) = (h 45 a2.toNatClampNeg) →
      K2 (nI 0))) (fun v3 =>
    hp_lp2 (fun v5 v6 B4 =>
      ((nI 7) ≤ v6 →
        hp_bz v5 ∧
        Q v5) ∧ (¬ (nI 7) ≤ v6 →
        (v5 = 0 →
          hp_bz v5 ∧
          Q v5) ∧ (¬ v5 = 0 →
          vp_in (((nI 7) * a1) + v6) 2800 ∧
          vp_in (((nI 7) * a2) + v6) 2800 ∧
          hp_jn1 (fun K10 =>
            ((lg_cmp (hp_ldL h 47 (((nI 7) * a1) + v6).toNatClampNeg) (hp_ldL h 47 (((nI 7) * a2) + v6).toNatClampNeg)) = 0 →
              K10 (nI 1)) ∧ (¬ (lg_cmp (hp_ldL h 47 (((nI 7) * a1) + v6).toNatClampNeg) (hp_ldL h 47 (((nI 7) * a2) + v6).toNatClampNeg)) = 0 →
              K10 (nI 0))) (fun v11 =>
            ∀ v12 : Int32, v12 = v6 + (nI 1) →
            B4 v11 v12)))) v3 (nI 0))
set_option maxRecDepth 100000 in
def q_X12_divide (h : hp_H) (Q : Int32 → hp_H → Prop) : Prop :=
  hp_lp1h (fun v2 h3 B1 =>
    ((h3 0 35) ≤ v2 →
      hp_lp2h (fun v6 v7 h8 B5 =>
        ((h8 0 35) ≤ v7 →
          hp_lp2h (fun v11 v12 h13 B10 =>
            (v11 ≤ v12 →
              Q v11 h13) ∧ (¬ v11 ≤ v12 →
              q_X12_findSigns h13 (fun h15 =>
              hp_lp2h (fun v17 v18 h19 B16 =>
                ((h19 0 35) ≤ v18 →
                  hp_lp1h (fun v22 h23 B21 =>
                    ((h23 0 35) ≤ v22 →
                      B10 v17 v11 h23) ∧ (¬ (h23 0 35) ≤ v22 →
                      vp_in v22 400 ∧
                      vp_in v22 400 ∧
                      ∀ h25 : hp_H, h25 = hp_up h23 45 v22.toNatClampNeg (h23 46 v22.toNatClampNeg) →
                      ∀ v26 : Int32, v26 = v22 + (nI 1) →
                      B21 v26 h25)) (nI 0) h19) ∧ (¬ (h19 0 35) ≤ v18 →
                  hp_lp1 (fun v28 B27 =>
                    hp_jn0 (fun K30 =>
                      (v18 ≤ v28 →
                        K30) ∧ (¬ v18 ≤ v28 →
                        q_X12_hasSameSigns h19 v28 v18 (fun r31 =>
                        (r31 = 0 →
                          ∀ v33 : Int32, v33 = v28 + (nI 1) →
                          B27 v33) ∧ (¬ r31 = 0 →
                          K30)))) (
                      hp_jn1 (fun K35 =>
                        (v18 ≤ v28 →
                          K35 v17) ∧ (¬ v18 ≤ v28 →
                          vp_in v28 400 ∧
                          K35 (h19 46 v28.toNatClampNeg))) (fun v36 =>
                        vp_in v18 400 ∧
                        ∀ h37 : hp_H, h37 = hp_up h19 46 v18.toNatClampNeg v36 →
                        hp_jn1 (fun K39 =>
                          (v18 ≤ v28 →
                            K39 (nI 1)) ∧ (¬ v18 ≤ v28 →
                            K39 (nI 0))) (fun v40 =>
                          ∀ v41 : Int32, v41 = (v17 + v40) →
                          ∀ v42 : Int32, v42 = v18 + (nI 1) →
                          B16 v41 v42 h37)))) (nI 0))) (nI 0) (nI 0) h15))) v6 (nI 0) h8) ∧ (¬ (h8 0 35) ≤ v7 →
          hp_lp1 (fun v44 B43 =>
            hp_jn0 (fun K46 =>
              (v7 ≤ v44 →
                K46) ∧ (¬ v7 ≤ v44 →
                q_X12_isSeenAlike h8 v44 v7 (fun r47 =>
                (r47 = 0 →
                  ∀ v49 : Int32, v49 = v44 + (nI 1) →
                  B43 v49) ∧ (¬ r47 = 0 →
                  K46)))) (
              hp_jn1 (fun K51 =>
                (v7 ≤ v44 →
                  K51 v6) ∧ (¬ v7 ≤ v44 →
                  vp_in v44 400 ∧
                  K51 (h8 45 v44.toNatClampNeg))) (fun v52 =>
                vp_in v7 400 ∧
                ∀ h53 : hp_H, h53 = hp_up h8 45 v7.toNatClampNeg v52 →
                hp_jn1 (fun K55 =>
                  (v7 ≤ v44 →
                    K55 (nI 1)) ∧ (¬ v7 ≤ v44 →
                    K55 (nI 0))) (fun v56 =>
                  ∀ v57 : Int32, v57 = (v6 + v56) →
                  ∀ v58 : Int32, v58 = v7 + (nI 1) →
                  B5 v57 v58 h53)))) (nI 0))) (nI 0) (nI 0) h3) ∧ (¬ (h3 0 35) ≤ v2 →
      q_X12_reckon h3 v2 (-1) (-1) (fun h59 =>
      hp_lp1h (fun v61 h62 B60 =>
        ((h62 0 31) ≤ v61 →
          ∀ v64 : Int32, v64 = v2 + (nI 1) →
          B1 v64 h62) ∧ (¬ (h62 0 31) ≤ v61 →
          vp_in v61 8 ∧
          vp_in (h62 26 v61.toNatClampNeg) 80 ∧
          vp_in (((nI 8) * v2) + v61) 3200 ∧
          ∀ h65 : hp_H, h65 = hp_up h62 48 (((nI 8) * v2) + v61).toNatClampNeg (h62 37 (h62 26 v61.toNatClampNeg).toNatClampNeg) →
          ∀ v66 : Int32, v66 = v61 + (nI 1) →
          B60 v66 h65)) (nI 0) h59))) (nI 0) h
set_option maxRecDepth 100000 in
def q_X12_classes (h : hp_H) (Q : Int32 → hp_H → Prop) : Prop :=
  q_X12_hasStates h (fun r1 =>
  (r1 = 0 →
    Q (-5) h) ∧ (¬ r1 = 0 →
    q_X12_divide h (fun r3 h4 =>
    Q r3 h4)))
set_option maxRecDepth 100000 in
def q_X12_classOf (h : hp_H) (a1 : Int32) (Q : Int32 → hp_H → Prop) : Prop :=
  q_X12_hasStates h (fun r1 =>
  (r1 = 0 →
    Q (-5) h) ∧ (¬ r1 = 0 →
    q_X12_isState h a1 (fun r3 =>
    (r3 = 0 →
      Q (-2) h) ∧ (¬ r3 = 0 →
      q_X12_divide h (fun r5 h6 =>
      (r5 ≤ 0 →
        Q (-2) h6) ∧ (¬ r5 ≤ 0 →
        vp_in a1 400 ∧
        Q (h6 45 a1.toNatClampNeg) h6))))))
set_option maxRecDepth 100000 in
def q_X12_count (h : hp_H) (a1 : Int32) (Q : Int32 → Prop) : Prop :=
  ((a1 = (nI 0)) →
    Q (h 0 0))
  ∧ ((a1 = (nI 1)) →
    Q (h 0 4))
  ∧ ((a1 = (nI 2)) →
    Q (h 0 11))
  ∧ ((a1 = (nI 3)) →
    Q (h 0 15))
  ∧ ((a1 = (nI 4)) →
    Q (h 0 21))
  ∧ ((a1 = (nI 5)) →
    Q (h 0 31))
  ∧ ((a1 = (nI 6)) →
    Q (h 0 35))
  ∧ ((a1 = (nI 7)) →
    ((h 0 34) = 0 →
      Q (nI 0)) ∧ (¬ (h 0 34) = 0 →
      Q (nI 1)))
  ∧ ((¬ a1 = (nI 0) ∧ ¬ a1 = (nI 1) ∧ ¬ a1 = (nI 2) ∧ ¬ a1 = (nI 3) ∧ ¬ a1 = (nI 4) ∧ ¬ a1 = (nI 5) ∧ ¬ a1 = (nI 6) ∧ ¬ a1 = (nI 7)) →
    Q (-3))
end
section
/-! ===== numbers: small whole numbers as Int32, digits of four bits ===== -/
theorem nu_0 {n : Nat} (h : n < 2 ^ 31) : (nI n = 0) ↔ n = 0 := by rw [← nI_0, nI_eq h (by decide)]
theorem nu_lt0 {n : Nat} (h : n < 2 ^ 31) : (nI n < 0) ↔ False := ⟨fun q => nI_pos h q, False.elim⟩
theorem nu_le0 {n : Nat} (h : n < 2 ^ 31) : (0 ≤ nI n) ↔ True := ⟨fun _ => trivial, fun _ => nI_pos' h⟩
theorem nu_m1 {n : Nat} (h : n < 2 ^ 31) : (nI n = -1) ↔ False := by
  refine ⟨fun q => ?_, False.elim⟩
  have := nI_pos h
  rw [q] at this
  exact this (by decide)
theorem nu_in {i n : Nat} (h : i < n) (hn : n < 2 ^ 31) : vp_in (nI i) n := vp_in_nI h hn
theorem nu_b (x : Int32) : ∃ n, n < 2 ^ 32 ∧ x = nI n := ⟨x.toBitVec.toNat, x.toBitVec.isLt, Int32.toBitVec_inj.mp (by show _ = BitVec.ofNat 32 _; simp)⟩
theorem nu_bv (n : Nat) : (nI n).toBitVec = BitVec.ofNat 32 n := rfl
theorem nu_and {a b : Nat} (ha : a < 2 ^ 32) (hb : b < 2 ^ 32) : nI a &&& nI b = nI (a &&& b) := by
  apply Int32.toBitVec_inj.mp
  rw [Int32.toBitVec_and, nu_bv, nu_bv, nu_bv]
  apply BitVec.eq_of_toNat_eq
  rw [BitVec.toNat_and, BitVec.toNat_ofNat, BitVec.toNat_ofNat, BitVec.toNat_ofNat, Nat.mod_eq_of_lt ha, Nat.mod_eq_of_lt hb, Nat.mod_eq_of_lt (Nat.lt_of_le_of_lt Nat.and_le_left ha)]
theorem nu_or {a b : Nat} (ha : a < 2 ^ 32) (hb : b < 2 ^ 32) : nI a ||| nI b = nI (a ||| b) := by
  apply Int32.toBitVec_inj.mp
  rw [Int32.toBitVec_or, nu_bv, nu_bv, nu_bv]
  apply BitVec.eq_of_toNat_eq
  rw [BitVec.toNat_or, BitVec.toNat_ofNat, BitVec.toNat_ofNat, BitVec.toNat_ofNat, Nat.mod_eq_of_lt ha, Nat.mod_eq_of_lt hb, Nat.mod_eq_of_lt (Nat.or_lt_two_pow ha hb)]
theorem nu_sl : ∀ n, n < 32 → ((nI n &&& 31).toBitVec.smod 32).toNat = n := by decide +kernel
theorem nu_su : ∀ n, n < 32 → (((nI n).toUInt32 &&& Int32.toUInt32 31).toBitVec % 32).toNat = n := by decide +kernel
theorem nu_ushr {n k : Nat} (hn : n < 2 ^ 32) (hk : k < 32) : hp_ushr (nI n) (nI k) = nI (n / 2 ^ k) := pk_ushrN hn _ k (nu_su k hk)
theorem nu_shl {n k : Nat} (hk : k < 32) (h : n * 2 ^ k < 2 ^ 32) : hp_shl (nI n) (nI k) = nI (n * 2 ^ k) := pk_shlN _ k (nu_sl k hk) h
theorem nu_and15 {n : Nat} (hn : n < 2 ^ 32) : nI n &&& nI 15 = nI (n % 16) := pk_andN hn 4 (by decide)
theorem nu_div {a d : Nat} (ha : a < 2 ^ 31) (h0 : 0 < d) (hd : d < 2 ^ 31) : nI a / nI d = nI (a / d) := pk_div ha h0 hd
theorem nu_rem {a d : Nat} (ha : a < 2 ^ 31) (h0 : 0 < d) (hd : d < 2 ^ 31) : hp_rem (nI a) (nI d) = nI (a % d) := pk_rem ha h0 hd
theorem nu_mask : ∀ k, k < 7 → hp_shl (nI 15) (nI (4 * k)) ^^^ (-1) = nI (2 ^ (4 * k + 4) * (2 ^ (28 - 4 * k) - 1) + (2 ^ (4 * k) - 1)) := by decide +kernel
/-- one digit of four bits is set -/
theorem nu_dig {hi x lo v k : Nat} (hk : k < 7) (hlo : lo < 2 ^ (4 * k)) (hx : x < 16) (hv : v < 16) (hhi : hi < 2 ^ (28 - 4 * k)) :
    ((2 ^ (4 * k + 4) * hi + (2 ^ (4 * k) * x + lo)) &&& (2 ^ (4 * k + 4) * (2 ^ (28 - 4 * k) - 1) + (2 ^ (4 * k) - 1))) ||| (v * 2 ^ (4 * k)) = 2 ^ (4 * k + 4) * hi + (2 ^ (4 * k) * v + lo) := by
  have p1 : 2 ^ (4 * k + 4) = 2 ^ (4 * k) * 16 := by rw [Nat.pow_add]
  have b1 : 2 ^ (4 * k) * x + lo < 2 ^ (4 * k + 4) := by
    rw [p1]
    calc 2 ^ (4 * k) * x + lo < 2 ^ (4 * k) * x + 2 ^ (4 * k) := by omega
      _ = 2 ^ (4 * k) * (x + 1) := by rw [Nat.mul_add, Nat.mul_one]
      _ ≤ 2 ^ (4 * k) * 16 := Nat.mul_le_mul_left _ (by omega)
  have b2 : 2 ^ (4 * k) * v + lo < 2 ^ (4 * k + 4) := by
    rw [p1]
    calc 2 ^ (4 * k) * v + lo < 2 ^ (4 * k) * v + 2 ^ (4 * k) := by omega
      _ = 2 ^ (4 * k) * (v + 1) := by rw [Nat.mul_add, Nat.mul_one]
      _ ≤ 2 ^ (4 * k) * 16 := Nat.mul_le_mul_left _ (by omega)
  have pp : 0 < 2 ^ (4 * k) := Nat.two_pow_pos _
  have b3 : 2 ^ (4 * k) - 1 < 2 ^ (4 * k + 4) := by rw [p1]; omega
  have v4 : v < 2 ^ 4 := hv
  apply Nat.eq_of_testBit_eq
  intro i
  rw [Nat.testBit_or, Nat.testBit_and, Nat.testBit_two_pow_mul_add _ b1, Nat.testBit_two_pow_mul_add _ b3, Nat.testBit_two_pow_mul_add _ b2, Nat.testBit_two_pow_mul_add _ hlo, Nat.testBit_two_pow_mul_add _ hlo, Nat.mul_comm v, Nat.testBit_two_pow_mul]
  simp only [Nat.testBit_two_pow_sub_one]
  by_cases h1 : i < 4 * k
  · have h2 : i < 4 * k + 4 := by omega
    have h3 : ¬ 4 * k ≤ i := by omega
    simp [h1, h2, h3]
  · by_cases h2 : i < 4 * k + 4
    · have h3 : 4 * k ≤ i := by omega
      simp [h1, h2, h3]
    · have h3 : 4 * k ≤ i := by omega
      have h4 : v.testBit (i - 4 * k) = false := Nat.testBit_lt_two_pow (Nat.lt_of_lt_of_le v4 (Nat.pow_le_pow_right (by decide) (by omega)))
      have h5 : hi.testBit (i - (4 * k + 4)) = true → i - (4 * k + 4) < 28 - 4 * k := by
        intro q
        rcases Nat.lt_or_ge (i - (4 * k + 4)) (28 - 4 * k) with z | z
        · exact z
        · have := Nat.testBit_lt_two_pow (Nat.lt_of_lt_of_le hhi (Nat.pow_le_pow_right (by decide) z))
          rw [this] at q
          cases q
      simp [h1, h2, h3, h4]
      exact h5
theorem nu_set {hi x lo v k : Nat} (hk : k < 7) (hlo : lo < 2 ^ (4 * k)) (hx : x < 16) (hv : v < 16) (hhi : hi < 2 ^ (28 - 4 * k)) :
    (nI (2 ^ (4 * k + 4) * hi + (2 ^ (4 * k) * x + lo)) &&& (hp_shl (nI 15) (nI (4 * k)) ^^^ (-1))) ||| hp_shl (nI v) (nI (4 * k)) = nI (2 ^ (4 * k + 4) * hi + (2 ^ (4 * k) * v + lo)) := by
  have p1 : 2 ^ (4 * k + 4) = 2 ^ (4 * k) * 16 := by rw [Nat.pow_add]
  have pp : 0 < 2 ^ (4 * k) := Nat.two_pow_pos _
  have p2 : 2 ^ (4 * k + 4) * 2 ^ (28 - 4 * k) = 2 ^ 32 := by rw [← Nat.pow_add]; congr 1; omega
  have q0 : 0 < 2 ^ (28 - 4 * k) := Nat.two_pow_pos _
  have big : ∀ z, z < 16 → 2 ^ (4 * k + 4) * hi + (2 ^ (4 * k) * z + lo) < 2 ^ 32 := by
    intro z hz
    have : 2 ^ (4 * k) * z + lo < 2 ^ (4 * k + 4) := by
      rw [p1]
      calc 2 ^ (4 * k) * z + lo < 2 ^ (4 * k) * z + 2 ^ (4 * k) := by omega
        _ = 2 ^ (4 * k) * (z + 1) := by rw [Nat.mul_add, Nat.mul_one]
        _ ≤ 2 ^ (4 * k) * 16 := Nat.mul_le_mul_left _ (by omega)
    calc 2 ^ (4 * k + 4) * hi + (2 ^ (4 * k) * z + lo) < 2 ^ (4 * k + 4) * hi + 2 ^ (4 * k + 4) := by omega
      _ = 2 ^ (4 * k + 4) * (hi + 1) := by rw [Nat.mul_add, Nat.mul_one]
      _ ≤ 2 ^ (4 * k + 4) * 2 ^ (28 - 4 * k) := Nat.mul_le_mul_left _ (by omega)
      _ = 2 ^ 32 := p2
  have m1 : 2 ^ (4 * k + 4) * (2 ^ (28 - 4 * k) - 1) + (2 ^ (4 * k) - 1) < 2 ^ 32 := by
    rw [Nat.mul_sub, p2, Nat.mul_one]
    have : 2 ^ (4 * k + 4) ≤ 2 ^ 32 := Nat.pow_le_pow_right (by decide) (by omega)
    omega
  have v1 : v * 2 ^ (4 * k) < 2 ^ 32 := by
    have := big v hv
    rw [Nat.mul_comm]
    omega
  rw [nu_mask k hk, nu_shl (by omega) v1, nu_and (big x hx) m1, nu_or (Nat.lt_of_le_of_lt Nat.and_le_left (big x hx)) v1, nu_dig hk hlo hx hv hhi]
end
section
/-! ===== a row of digits in thirteen words ===== -/
def rw_w (d : Nat → Nat) (j : Nat) : Nat :=
  if j = 0 then d 0 + 16 * d 1 + 256 * d 2 + 4096 * d 3 + 65536 * d 4 + 1048576 * d 5
  else if j < 10 then 4096 * d (6 + 4 * (j - 1)) + 256 * d (7 + 4 * (j - 1)) + 16 * d (8 + 4 * (j - 1)) + d (9 + 4 * (j - 1))
  else 4096 * d (42 + 4 * (j - 10)) + d (43 + 4 * (j - 10)) + 16 * d (44 + 4 * (j - 10)) + 256 * d (45 + 4 * (j - 10))
def rw_D (d : Nat → Nat) : Prop := ∀ k, d k < 16
def rw_B (h : hp_H) (w : Nat) (d : Nat → Nat) : Prop := ∀ j, j < 13 → h w j = nI (rw_w d j)
theorem rw_0 (d : Nat → Nat) : rw_w d 0 = d 0 + 16 * d 1 + 256 * d 2 + 4096 * d 3 + 65536 * d 4 + 1048576 * d 5 := rfl
theorem rw_m (d : Nat → Nat) {i : Nat} (h : i < 9) : rw_w d (1 + i) = 4096 * d (6 + 4 * i) + 256 * d (7 + 4 * i) + 16 * d (8 + 4 * i) + d (9 + 4 * i) := by
  unfold rw_w
  rw [if_neg (by omega), if_pos (by omega), show 1 + i - 1 = i by omega]
theorem rw_c (d : Nat → Nat) {c : Nat} (h : c < 3) : rw_w d (10 + c) = 4096 * d (42 + 4 * c) + d (43 + 4 * c) + 16 * d (44 + 4 * c) + 256 * d (45 + 4 * c) := by
  unfold rw_w
  rw [if_neg (by omega), if_neg (by omega), show 10 + c - 10 = c by omega]
theorem rw_lt {d : Nat → Nat} (hd : rw_D d) (j : Nat) : rw_w d j < 16777216 := by
  have a := hd
  unfold rw_w
  split
  · have := a 0; have := a 1; have := a 2; have := a 3; have := a 4; have := a 5
    omega
  · split
    · have := a (6 + 4 * (j - 1)); have := a (7 + 4 * (j - 1)); have := a (8 + 4 * (j - 1)); have := a (9 + 4 * (j - 1))
      omega
    · have := a (42 + 4 * (j - 10)); have := a (43 + 4 * (j - 10)); have := a (44 + 4 * (j - 10)); have := a (45 + 4 * (j - 10))
      omega
/-- equal words, equal digits -/
theorem rw_inj {d e : Nat → Nat} (hd : rw_D d) (he : rw_D e) (h : ∀ j, j < 13 → rw_w d j = rw_w e j) : ∀ k, k < 54 → d k = e k := by
  intro k hk
  rcases (show k < 6 ∨ (6 ≤ k ∧ k < 42) ∨ (42 ≤ k ∧ k < 54) by omega) with q | q | q
  · have := h 0 (by omega)
    rw [rw_0, rw_0] at this
    have := hd 0; have := hd 1; have := hd 2; have := hd 3; have := hd 4; have := hd 5
    have := he 0; have := he 1; have := he 2; have := he 3; have := he 4; have := he 5
    rcases (show k = 0 ∨ k = 1 ∨ k = 2 ∨ k = 3 ∨ k = 4 ∨ k = 5 by omega) with rfl | rfl | rfl | rfl | rfl | rfl <;> omega
  · obtain ⟨i, hi, r, hr, e1⟩ : ∃ i, i < 9 ∧ ∃ r, r < 4 ∧ k = 6 + 4 * i + r := ⟨(k - 6) / 4, by omega, (k - 6) % 4, by omega, by omega⟩
    have q1 := h (1 + i) (by omega)
    rw [rw_m d hi, rw_m e hi] at q1
    have := hd (6 + 4 * i); have := hd (7 + 4 * i); have := hd (8 + 4 * i); have := hd (9 + 4 * i)
    have := he (6 + 4 * i); have := he (7 + 4 * i); have := he (8 + 4 * i); have := he (9 + 4 * i)
    subst e1
    rcases (show r = 0 ∨ r = 1 ∨ r = 2 ∨ r = 3 by omega) with rfl | rfl | rfl | rfl
    · show d (6 + 4 * i) = e (6 + 4 * i); omega
    · rw [show 6 + 4 * i + 1 = 7 + 4 * i by omega]; omega
    · rw [show 6 + 4 * i + 2 = 8 + 4 * i by omega]; omega
    · rw [show 6 + 4 * i + 3 = 9 + 4 * i by omega]; omega
  · obtain ⟨i, hi, r, hr, e1⟩ : ∃ i, i < 3 ∧ ∃ r, r < 4 ∧ k = 42 + 4 * i + r := ⟨(k - 42) / 4, by omega, (k - 42) % 4, by omega, by omega⟩
    have q1 := h (10 + i) (by omega)
    rw [rw_c d hi, rw_c e hi] at q1
    have := hd (42 + 4 * i); have := hd (43 + 4 * i); have := hd (44 + 4 * i); have := hd (45 + 4 * i)
    have := he (42 + 4 * i); have := he (43 + 4 * i); have := he (44 + 4 * i); have := he (45 + 4 * i)
    subst e1
    rcases (show r = 0 ∨ r = 1 ∨ r = 2 ∨ r = 3 by omega) with rfl | rfl | rfl | rfl
    · show d (42 + 4 * i) = e (42 + 4 * i); omega
    · rw [show 42 + 4 * i + 1 = 43 + 4 * i by omega]; omega
    · rw [show 42 + 4 * i + 2 = 44 + 4 * i by omega]; omega
    · rw [show 42 + 4 * i + 3 = 45 + 4 * i by omega]; omega
theorem rw_cong {d e : Nat → Nat} (h : ∀ k, k < 54 → d k = e k) : ∀ j, j < 13 → rw_w d j = rw_w e j := by
  intro j hj
  unfold rw_w
  split
  · simp only [h 0 (by omega), h 1 (by omega), h 2 (by omega), h 3 (by omega), h 4 (by omega), h 5 (by omega)]
  · split
    · simp only [h (6 + 4 * (j - 1)) (by omega), h (7 + 4 * (j - 1)) (by omega), h (8 + 4 * (j - 1)) (by omega), h (9 + 4 * (j - 1)) (by omega)]
    · simp only [h (42 + 4 * (j - 10)) (by omega), h (43 + 4 * (j - 10)) (by omega), h (44 + 4 * (j - 10)) (by omega), h (45 + 4 * (j - 10)) (by omega)]
section
variable {w : Nat} {h : hp_H} {d : Nat → Nat}
theorem s_sharedValue {i : Nat} {Q : Int32 → Prop} (hd : rw_D d) (hr : rw_B h w d) (hi : i < 6) (hq : Q (nI (d i))) : q_X7_sharedValue w h (nI i) Q := by
  unfold q_X7_sharedValue
  refine ⟨nu_in (by decide) (by decide), ?_⟩
  have hl := rw_lt hd 0
  rw [nI_clamp (by decide), hr 0 (by decide), pk_mul, nu_ushr (by omega) (by omega), nu_and15 (Nat.lt_of_le_of_lt (Nat.div_le_self _ _) (by omega))]
  have e : rw_w d 0 / 2 ^ (4 * i) % 16 = d i := by
    rw [rw_0]
    have := hd 0; have := hd 1; have := hd 2; have := hd 3; have := hd 4; have := hd 5
    rcases (show i = 0 ∨ i = 1 ∨ i = 2 ∨ i = 3 ∨ i = 4 ∨ i = 5 by omega) with rfl | rfl | rfl | rfl | rfl | rfl <;> simp only [Nat.reduceMul, Nat.reducePow] <;> omega
  rw [e]
  exact hq
theorem rw_ix {r m : Nat} : ((nI 1) + (nI r * (nI 3))) + nI m = nI (1 + (3 * r + m)) := by
  rw [pk_mul, nI_add, nI_add]
  congr 1
  omega
theorem s_ownValue {r m v : Nat} {Q : Int32 → Prop} (hd : rw_D d) (hr : rw_B h w d) (h1 : r < 3) (h2 : m < 3) (h3 : v < 3) (hq : Q (nI (d (7 + 4 * (3 * r + m) + v)))) : q_X7_ownValue w h (nI r) (nI m) (nI v) Q := by
  unfold q_X7_ownValue
  rintro v1 rfl
  have hl := rw_lt hd (1 + (3 * r + m))
  rw [rw_ix, pk_mul, pk_sub (by omega)]
  refine ⟨nu_in (by omega) (by decide), ?_⟩
  rw [nI_clamp (by omega), hr _ (by omega), nu_ushr (by omega) (by omega), nu_and15 (Nat.lt_of_le_of_lt (Nat.div_le_self _ _) (by omega))]
  have e : rw_w d (1 + (3 * r + m)) / 2 ^ (8 - 4 * v) % 16 = d (7 + 4 * (3 * r + m) + v) := by
    rw [rw_m d (by omega)]
    have := hd (6 + 4 * (3 * r + m)); have := hd (7 + 4 * (3 * r + m)); have := hd (8 + 4 * (3 * r + m)); have := hd (9 + 4 * (3 * r + m))
    rcases (show v = 0 ∨ v = 1 ∨ v = 2 by omega) with rfl | rfl | rfl
    · simp only [Nat.reduceMul, Nat.reduceSub, Nat.reducePow, Nat.add_zero]; omega
    · simp only [Nat.reduceMul, Nat.reduceSub, Nat.reducePow]; rw [show 7 + 4 * (3 * r + m) + 1 = 8 + 4 * (3 * r + m) by omega]; omega
    · simp only [Nat.reduceMul, Nat.reduceSub, Nat.reducePow]; rw [show 7 + 4 * (3 * r + m) + 2 = 9 + 4 * (3 * r + m) by omega]; omega
  rw [e]
  exact hq
theorem rw_place (hd : rw_D d) {i : Nat} (hi : i < 9) : hp_ushr (nI (rw_w d (1 + i))) (nI 12) = nI (d (6 + 4 * i)) := by
  have hl := rw_lt hd (1 + i)
  rw [nu_ushr (by omega) (by omega), rw_m d hi]
  have := hd (6 + 4 * i); have := hd (7 + 4 * i); have := hd (8 + 4 * i); have := hd (9 + 4 * i)
  congr 1
  simp only [Nat.reducePow]
  omega
theorem s_placeOf {r m : Nat} {Q : Int32 → Prop} (hd : rw_D d) (hr : rw_B h w d) (h1 : r < 3) (h2 : m < 3) (hq : Q (nI (d (6 + 4 * (3 * r + m))))) : q_X7_placeOf w h (nI r) (nI m) Q := by
  unfold q_X7_placeOf
  rw [rw_ix]
  refine ⟨nu_in (by omega) (by decide), ?_⟩
  rw [nI_clamp (by omega), hr _ (by omega), rw_place hd (by omega)]
  exact hq
theorem rw_held (hd : rw_D d) {c : Nat} (hc : c < 3) : hp_ushr (nI (rw_w d (10 + c))) (nI 12) = nI (d (42 + 4 * c)) := by
  have hl := rw_lt hd (10 + c)
  rw [nu_ushr (by omega) (by omega), rw_c d hc]
  have := hd (42 + 4 * c); have := hd (43 + 4 * c); have := hd (44 + 4 * c); have := hd (45 + 4 * c)
  congr 1
  simp only [Nat.reducePow]
  omega
theorem rw_let (hd : rw_D d) {c i : Nat} (hc : c < 3) (hi : i < 3) : hp_ushr (nI (rw_w d (10 + c))) ((nI 4) * nI i) &&& (nI 15) = nI (d (43 + 4 * c + i)) := by
  have hl := rw_lt hd (10 + c)
  rw [pk_mul, nu_ushr (by omega) (by omega), nu_and15 (Nat.lt_of_le_of_lt (Nat.div_le_self _ _) (by omega)), rw_c d hc]
  have := hd (42 + 4 * c); have := hd (43 + 4 * c); have := hd (44 + 4 * c); have := hd (45 + 4 * c)
  congr 1
  rcases (show i = 0 ∨ i = 1 ∨ i = 2 by omega) with rfl | rfl | rfl
  · simp only [Nat.reduceMul, Nat.reducePow, Nat.add_zero]; omega
  · simp only [Nat.reduceMul, Nat.reducePow]; rw [show 43 + 4 * c + 1 = 44 + 4 * c by omega]; omega
  · simp only [Nat.reduceMul, Nat.reducePow]; rw [show 43 + 4 * c + 2 = 45 + 4 * c by omega]; omega
theorem s_held {c : Nat} {Q : Int32 → Prop} (hd : rw_D d) (hr : rw_B h w d) (hc : c < 3) (hq : Q (nI (d (42 + 4 * c)))) : q_X7_held w h (nI c) Q := by
  unfold q_X7_held
  rw [nI_add]
  refine ⟨nu_in (by omega) (by decide), ?_⟩
  rw [nI_clamp (by omega), hr _ (by omega), rw_held hd hc]
  exact hq
theorem s_letterAt {c i : Nat} {Q : Int32 → Prop} (hd : rw_D d) (hr : rw_B h w d) (hc : c < 3) (hi : i < 3) (hq : Q (nI (d (43 + 4 * c + i)))) : q_X7_letterAt w h (nI c) (nI i) Q := by
  unfold q_X7_letterAt
  rw [nI_add]
  refine ⟨nu_in (by omega) (by decide), ?_⟩
  rw [nI_clamp (by omega), hr _ (by omega), rw_let hd hc hi]
  exact hq
theorem s_isFirstOfLike {c i : Nat} {Q : Int32 → Prop} (hd : rw_D d) (hr : rw_B h w d) (hc : c < 3) (hi : i < 3) (h1 : (∀ j, j < i → d (43 + 4 * c + j) ≠ d (43 + 4 * c + i)) → Q (nI 1)) (h0 : (∃ j, j < i ∧ d (43 + 4 * c + j) = d (43 + 4 * c + i)) → Q (nI 0)) : q_X7_isFirstOfLike w h (nI c) (nI i) Q := by
  unfold q_X7_isFirstOfLike
  rw [nI_add]
  refine ⟨nu_in (by omega) (by decide), ?_⟩
  rintro v1 rfl
  rw [nI_clamp (by omega), hr _ (by omega)]
  refine hp_lp1_ind (fun v => ∃ j, v = nI j ∧ j ≤ i ∧ ∀ k, k < j → d (43 + 4 * c + k) ≠ d (43 + 4 * c + i)) (fun v => i - v.toNatClampNeg) ?_ ⟨0, rfl, by omega, fun k hk => by omega⟩
  rintro v ⟨j, rfl, hj, hk⟩
  have b16 := hd (43 + 4 * c + j)
  have b17 := hd (43 + 4 * c + i)
  rw [nI_leI (by omega) (by omega)]
  refine ⟨fun q => h1 (fun k hk2 => hk k (by omega)), fun q => ?_⟩
  rw [rw_let hd hc (by omega), rw_let hd hc hi, nI_eq (by omega) (by omega)]
  refine ⟨fun q2 => h0 ⟨j, by omega, q2⟩, fun q2 => ?_⟩
  rintro v6 rfl
  rw [nI_add]
  refine ⟨⟨j + 1, rfl, by omega, fun k hk2 => ?_⟩, by rw [nI_clamp (by omega), nI_clamp (by omega)]; omega⟩
  rcases (show k < j ∨ k = j by omega) with z | z
  · exact hk k z
  · subst z; exact q2
end
end
section
/-! ===== a loop, once unrolled ===== -/
theorem hp_lp0h_f {body : hp_H → (hp_H → Prop) → Prop} {h : hp_H} (hb : body h (hp_lp0h body)) : hp_lp0h body h := fun P hP => hP h ⟨_, hb, fun _ q => q P hP⟩
theorem hp_lp1_f {body : Int32 → (Int32 → Prop) → Prop} {a0 : Int32} (hb : body a0 (hp_lp1 body)) : hp_lp1 body a0 := fun P hP => hP a0 ⟨_, hb, fun _ q => q P hP⟩
theorem hp_lp1h_f {body : Int32 → hp_H → (Int32 → hp_H → Prop) → Prop} {a0 : Int32} {h : hp_H} (hb : body a0 h (hp_lp1h body)) : hp_lp1h body a0 h := fun P hP => hP a0 h ⟨_, hb, fun _ _ q => q P hP⟩
theorem hp_lp2_f {body : Int32 → Int32 → (Int32 → Int32 → Prop) → Prop} {a0 a1 : Int32} (hb : body a0 a1 (hp_lp2 body)) : hp_lp2 body a0 a1 := fun P hP => hP a0 a1 ⟨_, hb, fun _ _ q => q P hP⟩
theorem hp_lp2h_f {body : Int32 → Int32 → hp_H → (Int32 → Int32 → hp_H → Prop) → Prop} {a0 a1 : Int32} {h : hp_H} (hb : body a0 a1 h (hp_lp2h body)) : hp_lp2h body a0 a1 h := fun P hP => hP a0 a1 h ⟨_, hb, fun _ _ _ q => q P hP⟩
theorem hp_lp3_f {body : Int32 → Int32 → Int32 → (Int32 → Int32 → Int32 → Prop) → Prop} {a0 a1 a2 : Int32} (hb : body a0 a1 a2 (hp_lp3 body)) : hp_lp3 body a0 a1 a2 := fun P hP => hP a0 a1 a2 ⟨_, hb, fun _ _ _ q => q P hP⟩
theorem hp_lp3h_f {body : Int32 → Int32 → Int32 → hp_H → (Int32 → Int32 → Int32 → hp_H → Prop) → Prop} {a0 a1 a2 : Int32} {h : hp_H} (hb : body a0 a1 a2 h (hp_lp3h body)) : hp_lp3h body a0 a1 a2 h := fun P hP => hP a0 a1 a2 h ⟨_, hb, fun _ _ _ _ q => q P hP⟩
theorem hp_lp4_f {body : Int32 → Int32 → Int32 → Int32 → (Int32 → Int32 → Int32 → Int32 → Prop) → Prop} {a0 a1 a2 a3 : Int32} (hb : body a0 a1 a2 a3 (hp_lp4 body)) : hp_lp4 body a0 a1 a2 a3 := fun P hP => hP a0 a1 a2 a3 ⟨_, hb, fun _ _ _ _ q => q P hP⟩
theorem hp_lp4h_f {body : Int32 → Int32 → Int32 → Int32 → hp_H → (Int32 → Int32 → Int32 → Int32 → hp_H → Prop) → Prop} {a0 a1 a2 a3 : Int32} {h : hp_H} (hb : body a0 a1 a2 a3 h (hp_lp4h body)) : hp_lp4h body a0 a1 a2 a3 h := fun P hP => hP a0 a1 a2 a3 h ⟨_, hb, fun _ _ _ _ _ q => q P hP⟩
theorem hp_lp5_f {body : Int32 → Int32 → Int32 → Int32 → Int32 → (Int32 → Int32 → Int32 → Int32 → Int32 → Prop) → Prop} {a0 a1 a2 a3 a4 : Int32} (hb : body a0 a1 a2 a3 a4 (hp_lp5 body)) : hp_lp5 body a0 a1 a2 a3 a4 := fun P hP => hP a0 a1 a2 a3 a4 ⟨_, hb, fun _ _ _ _ _ q => q P hP⟩
theorem hp_lp5h_f {body : Int32 → Int32 → Int32 → Int32 → Int32 → hp_H → (Int32 → Int32 → Int32 → Int32 → Int32 → hp_H → Prop) → Prop} {a0 a1 a2 a3 a4 : Int32} {h : hp_H} (hb : body a0 a1 a2 a3 a4 h (hp_lp5h body)) : hp_lp5h body a0 a1 a2 a3 a4 h := fun P hP => hP a0 a1 a2 a3 a4 h ⟨_, hb, fun _ _ _ _ _ _ q => q P hP⟩
end
section
/-! ===== rows: what changes them ===== -/
def rw_f (d : Nat → Nat) (c i : Nat) : Prop := ∀ j, j < i → d (43 + 4 * c + j) ≠ d (43 + 4 * c + i)
/-- behind the last letter stands 0 -/
def rw_T (d : Nat → Nat) : Prop := ∀ c, c < 3 → d (42 + 4 * c) ≤ 3 ∧ ∀ i, i < 3 → d (42 + 4 * c) ≤ i → d (43 + 4 * c + i) = 0
theorem rw_D_up {d : Nat → Nat} {k v : Nat} (hd : rw_D d) (hv : v < 16) : rw_D (va_up d k v) := by
  intro j
  unfold va_up
  split
  · exact hv
  · exact hd j
section
variable {w : Nat} {h : hp_H} {d : Nat → Nat}
theorem s_nextUnlike {c s : Nat} {a2 : Int32} {Q : Int32 → Prop} (hd : rw_D d) (hr : rw_B h w d) (hc : c < 3) (hl : d (42 + 4 * c) ≤ 3) (ha : a2 + nI 1 = nI s) (hs4 : s ≤ 4)
    (h1 : ∀ i, s ≤ i → i < d (42 + 4 * c) → rw_f d c i → (∀ k, s ≤ k → k < i → ¬ rw_f d c k) → Q (nI i)) (h0 : (∀ k, s ≤ k → k < d (42 + 4 * c) → ¬ rw_f d c k) → Q (-1)) : q_X7_nextUnlike w h (nI c) a2 Q := by
  unfold q_X7_nextUnlike
  rintro v1 rfl
  rw [ha]
  refine hp_lp1_ind (fun v => ∃ j, v = nI j ∧ s ≤ j ∧ j ≤ 4 ∧ ∀ k, s ≤ k → k < j → ¬ rw_f d c k) (fun v => 4 - v.toNatClampNeg) ?_ ⟨s, rfl, by omega, hs4, fun k hk => by omega⟩
  rintro v ⟨j, rfl, hj, hj3, hk⟩
  refine s_held hd hr hc ?_
  rw [nI_leI (by omega) (by omega)]
  refine ⟨fun q => h0 (fun k h2 h3 => hk k h2 (by omega)), fun q => ?_⟩
  refine s_isFirstOfLike hd hr hc (by omega) (fun z => ?_) (fun z => ?_)
  · rw [nu_0 (by decide)]
    exact ⟨fun z2 => absurd z2 (by decide), fun _ => h1 j hj (by omega) z hk⟩
  · rw [nu_0 (by decide)]
    refine ⟨fun _ => ?_, fun z2 => absurd rfl z2⟩
    rintro v8 rfl
    rw [nI_add]
    refine ⟨⟨j + 1, rfl, by omega, by omega, fun k h2 h3 => ?_⟩, by rw [nI_clamp (by omega), nI_clamp (by omega)]; omega⟩
    rcases (show k < j ∨ k = j by omega) with y | y
    · exact hk k h2 y
    · subst y
      obtain ⟨j2, y1, y2⟩ := z
      exact fun y3 => y3 j2 y1 y2
theorem rw_B_up {h' : hp_H} {j0 : Nat} {d' : Nat → Nat} (hr : rw_B h w d) (h1 : h' = hp_up h w j0 (nI (rw_w d' j0))) (ho : ∀ j, j < 13 → j ≠ j0 → rw_w d' j = rw_w d j) : rw_B h' w d' := by
  intro j hj
  subst h1
  by_cases e : j = j0
  · subst e; exact hp_up_same _ _ _ _
  · rw [hp_up_slot e, hr j hj, ho j hj e]
theorem rw_oth {k v j : Nat} (h : (j = 0 ∧ 6 ≤ k) ∨ (1 ≤ j ∧ j < 10 ∧ (k < 2 + 4 * j ∨ 6 + 4 * j ≤ k)) ∨ (10 ≤ j ∧ (k < 2 + 4 * j ∨ 6 + 4 * j ≤ k))) : rw_w (va_up d k v) j = rw_w d j := by
  unfold rw_w va_up
  rcases h with ⟨rfl, q⟩ | ⟨q1, q2, q⟩ | ⟨q1, q⟩
  · simp only [if_pos]
    rw [if_neg (by omega), if_neg (by omega), if_neg (by omega), if_neg (by omega), if_neg (by omega), if_neg (by omega)]
  · rw [if_neg (by omega), if_pos q2, if_neg (by omega), if_pos q2, if_neg (by omega), if_neg (by omega), if_neg (by omega), if_neg (by omega)]
  · rw [if_neg (by omega), if_neg (by omega), if_neg (by omega), if_neg (by omega), if_neg (by omega), if_neg (by omega), if_neg (by omega), if_neg (by omega)]
theorem rw_sh_set (hd : rw_D d) {i v : Nat} (hi : i < 6) (hv : v < 16) : (nI (rw_w d 0) &&& ((hp_shl (nI 15) (nI (4 * i))) ^^^ (-1))) ||| (hp_shl (nI v) (nI (4 * i))) = nI (rw_w (va_up d i v) 0) := by
  have b0 := hd 0; have b1 := hd 1; have b2 := hd 2; have b3 := hd 3; have b4 := hd 4; have b5 := hd 5
  rw [rw_0, rw_0]
  rcases (show i = 0 ∨ i = 1 ∨ i = 2 ∨ i = 3 ∨ i = 4 ∨ i = 5 by omega) with rfl | rfl | rfl | rfl | rfl | rfl
  · have z := nu_set (hi := d 1 + 16 * d 2 + 256 * d 3 + 4096 * d 4 + 65536 * d 5) (x := d 0) (lo := 0) (v := v) (k := 0) (by omega) (by decide) b0 hv (by simp only [Nat.reduceMul, Nat.reduceSub, Nat.reducePow]; omega)
    simp only [Nat.reduceMul, Nat.reduceAdd, Nat.reducePow] at z ⊢
    simp only [va_up, Nat.reduceEqDiff, if_true, if_false]
    rw [show 16 * (d 1 + 16 * d 2 + 256 * d 3 + 4096 * d 4 + 65536 * d 5) + (1 * d 0 + 0) = d 0 + 16 * d 1 + 256 * d 2 + 4096 * d 3 + 65536 * d 4 + 1048576 * d 5 by omega] at z
    rw [z]; congr 1; omega
  · have z := nu_set (hi := d 2 + 16 * d 3 + 256 * d 4 + 4096 * d 5) (x := d 1) (lo := d 0) (v := v) (k := 1) (by omega) (by simp only [Nat.reduceMul, Nat.reducePow]; omega) b1 hv (by simp only [Nat.reduceMul, Nat.reduceSub, Nat.reducePow]; omega)
    simp only [Nat.reduceMul, Nat.reduceAdd, Nat.reducePow] at z ⊢
    simp only [va_up, Nat.reduceEqDiff, if_true, if_false]
    rw [show 256 * (d 2 + 16 * d 3 + 256 * d 4 + 4096 * d 5) + (16 * d 1 + d 0) = d 0 + 16 * d 1 + 256 * d 2 + 4096 * d 3 + 65536 * d 4 + 1048576 * d 5 by omega] at z
    rw [z]; congr 1; omega
  · have z := nu_set (hi := d 3 + 16 * d 4 + 256 * d 5) (x := d 2) (lo := d 0 + 16 * d 1) (v := v) (k := 2) (by omega) (by simp only [Nat.reduceMul, Nat.reducePow]; omega) b2 hv (by simp only [Nat.reduceMul, Nat.reduceSub, Nat.reducePow]; omega)
    simp only [Nat.reduceMul, Nat.reduceAdd, Nat.reducePow] at z ⊢
    simp only [va_up, Nat.reduceEqDiff, if_true, if_false]
    rw [show 4096 * (d 3 + 16 * d 4 + 256 * d 5) + (256 * d 2 + (d 0 + 16 * d 1)) = d 0 + 16 * d 1 + 256 * d 2 + 4096 * d 3 + 65536 * d 4 + 1048576 * d 5 by omega] at z
    rw [z]; congr 1; omega
  · have z := nu_set (hi := d 4 + 16 * d 5) (x := d 3) (lo := d 0 + 16 * d 1 + 256 * d 2) (v := v) (k := 3) (by omega) (by simp only [Nat.reduceMul, Nat.reducePow]; omega) b3 hv (by simp only [Nat.reduceMul, Nat.reduceSub, Nat.reducePow]; omega)
    simp only [Nat.reduceMul, Nat.reduceAdd, Nat.reducePow] at z ⊢
    simp only [va_up, Nat.reduceEqDiff, if_true, if_false]
    rw [show 65536 * (d 4 + 16 * d 5) + (4096 * d 3 + (d 0 + 16 * d 1 + 256 * d 2)) = d 0 + 16 * d 1 + 256 * d 2 + 4096 * d 3 + 65536 * d 4 + 1048576 * d 5 by omega] at z
    rw [z]; congr 1; omega
  · have z := nu_set (hi := d 5) (x := d 4) (lo := d 0 + 16 * d 1 + 256 * d 2 + 4096 * d 3) (v := v) (k := 4) (by omega) (by simp only [Nat.reduceMul, Nat.reducePow]; omega) b4 hv (by simp only [Nat.reduceMul, Nat.reduceSub, Nat.reducePow]; omega)
    simp only [Nat.reduceMul, Nat.reduceAdd, Nat.reducePow] at z ⊢
    simp only [va_up, Nat.reduceEqDiff, if_true, if_false]
    rw [show 1048576 * d 5 + (65536 * d 4 + (d 0 + 16 * d 1 + 256 * d 2 + 4096 * d 3)) = d 0 + 16 * d 1 + 256 * d 2 + 4096 * d 3 + 65536 * d 4 + 1048576 * d 5 by omega] at z
    rw [z]; congr 1; omega
  · have z := nu_set (hi := 0) (x := d 5) (lo := d 0 + 16 * d 1 + 256 * d 2 + 4096 * d 3 + 65536 * d 4) (v := v) (k := 5) (by omega) (by simp only [Nat.reduceMul, Nat.reducePow]; omega) b5 hv (by decide)
    simp only [Nat.reduceMul, Nat.reduceAdd, Nat.reducePow] at z ⊢
    simp only [va_up, Nat.reduceEqDiff, if_true, if_false]
    rw [show 0 + (1048576 * d 5 + (d 0 + 16 * d 1 + 256 * d 2 + 4096 * d 3 + 65536 * d 4)) = d 0 + 16 * d 1 + 256 * d 2 + 4096 * d 3 + 65536 * d 4 + 1048576 * d 5 by omega] at z
    rw [z]; congr 1; omega
theorem s_setShared {i v : Nat} {Q : hp_H → Prop} (hd : rw_D d) (hr : rw_B h w d) (hi : i < 6) (hv : v < 16) (hq : ∀ h', (∀ k, k ≠ w → h' k = h k) → rw_B h' w (va_up d i v) → Q h') : q_X7_setShared w h (nI i) (nI v) Q := by
  unfold q_X7_setShared
  refine ⟨nu_in (by decide) (by decide), nu_in (by decide) (by decide), ?_⟩
  intro h1 e1
  rw [nI_clamp (by decide), hr 0 (by decide), pk_mul, rw_sh_set hd hi hv] at e1
  refine hq h1 (fun k hk => by rw [e1]; exact hp_up_row hk) (rw_B_up hr e1 (fun j hj hj0 => rw_oth ?_))
  omega
theorem rw_mb_set (hd : rw_D d) {i x v : Nat} (hi : i < 9) (hx : x < 4) (hv : v < 16) : (nI (rw_w d (1 + i)) &&& ((hp_shl (nI 15) (nI (4 * x))) ^^^ (-1))) ||| (hp_shl (nI v) (nI (4 * x))) = nI (rw_w (va_up d (9 + 4 * i - x) v) (1 + i)) := by
  have b0 := hd (6 + 4 * i); have b1 := hd (7 + 4 * i); have b2 := hd (8 + 4 * i); have b3 := hd (9 + 4 * i)
  rw [rw_m d hi, rw_m _ hi]
  generalize ea : d (6 + 4 * i) = A at *
  generalize eb : d (7 + 4 * i) = B at *
  generalize ec : d (8 + 4 * i) = C at *
  generalize ee : d (9 + 4 * i) = E at *
  rcases (show x = 0 ∨ x = 1 ∨ x = 2 ∨ x = 3 by omega) with rfl | rfl | rfl | rfl
  · have z := nu_set (hi := C + 16 * B + 256 * A) (x := E) (lo := 0) (v := v) (k := 0) (by omega) (by decide) b3 hv (by simp only [Nat.reduceMul, Nat.reduceSub, Nat.reducePow]; omega)
    simp only [Nat.reduceMul, Nat.reduceAdd, Nat.reducePow] at z ⊢
    rw [show 9 + 4 * i - 0 = 9 + 4 * i by omega]
    unfold va_up
    rw [if_neg (by omega), if_neg (by omega), if_neg (by omega), if_pos rfl, ea, eb, ec]
    rw [show 16 * (C + 16 * B + 256 * A) + (1 * E + 0) = 4096 * A + 256 * B + 16 * C + E by omega] at z
    rw [z]; congr 1; omega
  · have z := nu_set (hi := B + 16 * A) (x := C) (lo := E) (v := v) (k := 1) (by omega) (by simp only [Nat.reduceMul, Nat.reducePow]; omega) b2 hv (by simp only [Nat.reduceMul, Nat.reduceSub, Nat.reducePow]; omega)
    simp only [Nat.reduceMul, Nat.reduceAdd, Nat.reducePow] at z ⊢
    rw [show 9 + 4 * i - 1 = 8 + 4 * i by omega]
    unfold va_up
    rw [if_neg (by omega), if_neg (by omega), if_pos rfl, if_neg (by omega), ea, eb, ee]
    rw [show 256 * (B + 16 * A) + (16 * C + E) = 4096 * A + 256 * B + 16 * C + E by omega] at z
    rw [z]; congr 1; omega
  · have z := nu_set (hi := A) (x := B) (lo := 16 * C + E) (v := v) (k := 2) (by omega) (by simp only [Nat.reduceMul, Nat.reducePow]; omega) b1 hv (by simp only [Nat.reduceMul, Nat.reduceSub, Nat.reducePow]; omega)
    simp only [Nat.reduceMul, Nat.reduceAdd, Nat.reducePow] at z ⊢
    rw [show 9 + 4 * i - 2 = 7 + 4 * i by omega]
    unfold va_up
    rw [if_neg (by omega), if_pos rfl, if_neg (by omega), if_neg (by omega), ea, ec, ee]
    rw [show 4096 * A + (256 * B + (16 * C + E)) = 4096 * A + 256 * B + 16 * C + E by omega] at z
    rw [z]; congr 1; omega
  · have z := nu_set (hi := 0) (x := A) (lo := 256 * B + 16 * C + E) (v := v) (k := 3) (by omega) (by simp only [Nat.reduceMul, Nat.reducePow]; omega) b0 hv (by decide)
    simp only [Nat.reduceMul, Nat.reduceAdd, Nat.reducePow] at z ⊢
    rw [show 9 + 4 * i - 3 = 6 + 4 * i by omega]
    unfold va_up
    rw [if_pos rfl, if_neg (by omega), if_neg (by omega), if_neg (by omega), eb, ec, ee]
    rw [show 0 + (4096 * A + (256 * B + 16 * C + E)) = 4096 * A + 256 * B + 16 * C + E by omega] at z
    rw [z]; congr 1; omega
theorem s_setOwn {r m v x : Nat} {Q : hp_H → Prop} (hd : rw_D d) (hr : rw_B h w d) (h1 : r < 3) (h2 : m < 3) (h3 : v < 3) (hx : x < 16) (hq : ∀ h', (∀ k, k ≠ w → h' k = h k) → rw_B h' w (va_up d (7 + 4 * (3 * r + m) + v) x) → Q h') : q_X7_setOwn w h (nI r) (nI m) (nI v) (nI x) Q := by
  unfold q_X7_setOwn
  rintro v1 rfl v2 rfl
  rw [rw_ix, pk_mul, pk_sub (by omega)]
  refine ⟨nu_in (by omega) (by decide), nu_in (by omega) (by decide), ?_⟩
  intro h3' e1
  have e2 := rw_mb_set hd (i := 3 * r + m) (x := 2 - v) (v := x) (by omega) (by omega) hx
  rw [nI_clamp (by omega), hr _ (by omega), show 8 - 4 * v = 4 * (2 - v) by omega, e2, show 9 + 4 * (3 * r + m) - (2 - v) = 7 + 4 * (3 * r + m) + v by omega] at e1
  refine hq h3' (fun k hk => by rw [e1]; exact hp_up_row hk) (rw_B_up hr e1 (fun j hj hj0 => rw_oth ?_))
  omega
theorem s_setPlace {r m x : Nat} {Q : hp_H → Prop} (hd : rw_D d) (hr : rw_B h w d) (h1 : r < 3) (h2 : m < 3) (hx : x < 16) (hq : ∀ h', (∀ k, k ≠ w → h' k = h k) → rw_B h' w (va_up d (6 + 4 * (3 * r + m)) x) → Q h') : q_X7_setPlace w h (nI r) (nI m) (nI x) Q := by
  unfold q_X7_setPlace
  rintro v1 rfl
  rw [rw_ix]
  refine ⟨nu_in (by omega) (by decide), nu_in (by omega) (by decide), ?_⟩
  intro h3' e1
  have e2 := rw_mb_set hd (i := 3 * r + m) (x := 3) (v := x) (by omega) (by omega) hx
  rw [show hp_shl (nI 15) (nI (4 * 3)) ^^^ (-1) = -61441 by decide, show 4 * 3 = 12 by rfl, show 9 + 4 * (3 * r + m) - 3 = 6 + 4 * (3 * r + m) by omega] at e2
  rw [nI_clamp (by omega), hr _ (by omega), e2] at e1
  refine hq h3' (fun k hk => by rw [e1]; exact hp_up_row hk) (rw_B_up hr e1 (fun j hj hj0 => rw_oth ?_))
  omega
theorem s_copy {w1 : Nat} {Q : hp_H → Prop} (hr : rw_B h w1 d) (hq : ∀ h', (∀ k, k ≠ w → h' k = h k) → rw_B h' w d → Q h') : q_X7_copy w w1 h Q := by
  unfold q_X7_copy
  refine ⟨⟨by decide, by decide, by decide, by decide, by decide⟩, ?_⟩
  intro h1 e1
  refine hq h1 (fun k hk => ?_) (fun j hj => ?_)
  · rw [e1]; funext b; simp [hp_cp, hk]
  · rw [e1]
    simp only [hp_cp, if_true]
    rw [nI_clamp (by decide), nI_clamp (by decide), pk_cpy_in (by omega) (by omega), show 0 + (j - 0) = j by omega]
    exact hr j hj
theorem s_load {s : Nat} {Q : hp_H → Prop} (hs : s < 400) (hr : ∀ j, j < 13 → h 42 (13 * s + j) = nI (rw_w d j)) (hw : w ≠ 42) (hq : ∀ h', (∀ k, k ≠ w → h' k = h k) → rw_B h' w d → Q h') : q_X2_load w h (nI s) Q := by
  unfold q_X2_load
  rw [pk_mul, nI_clamp (by omega), nI_clamp (by decide), nI_clamp (by decide)]
  refine ⟨⟨nI_pos (by omega), by decide, by decide, by omega, by omega⟩, ?_⟩
  intro h1 e1
  refine hq h1 (fun k hk => ?_) (fun j hj => ?_)
  · rw [e1]; funext b; simp [hp_cp, hk]
  · rw [e1]
    simp only [hp_cp, if_true]
    rw [pk_cpy_in (by omega) (by omega), show s * 13 + (j - 0) = 13 * s + j by omega]
    exact hr j hj
end
end
section
/-! ===== rows: letters, the order of members ===== -/
theorem nu_ol {a b k : Nat} (hb : b < 2 ^ k) (h : a * 2 ^ k + b < 2 ^ 32) : nI b ||| nI (a * 2 ^ k) = nI (a * 2 ^ k + b) := by
  rw [nu_or (by omega) (by omega), Nat.or_comm, Nat.mul_comm a, ← Nat.two_pow_add_eq_or_of_lt hb]
theorem nu_low {n k : Nat} (hn : n < 2 ^ 32) (hk : k < 32) : nI n &&& nI (2 ^ k - 1) = nI (n % 2 ^ k) := by
  refine pk_andN hn k ?_
  rw [pk_tn]
  have : 2 ^ k < 2 ^ 32 := Nat.pow_lt_pow_right (by decide) hk
  omega
/-- letter i of channel c goes -/
def rw_tk (d : Nat → Nat) (c i : Nat) : Nat → Nat := fun k => if k = 42 + 4 * c then d k - 1 else if 43 + 4 * c + i ≤ k ∧ k < 45 + 4 * c then d (k + 1) else if k = 45 + 4 * c then 0 else d k
/-- letter v comes to channel c -/
def rw_pt (d : Nat → Nat) (c v : Nat) : Nat → Nat := va_up (va_up d (43 + 4 * c + d (42 + 4 * c)) v) (42 + 4 * c) (d (42 + 4 * c) + 1)
theorem rw_tk_D {d : Nat → Nat} (hd : rw_D d) (c i : Nat) : rw_D (rw_tk d c i) := by
  intro k
  unfold rw_tk
  have := hd k
  have := hd (k + 1)
  split
  · omega
  · split
    · assumption
    · split <;> omega
theorem rw_pt_D {d : Nat → Nat} (hd : rw_D d) {c v : Nat} (hv : v < 16) (hl : d (42 + 4 * c) < 15) : rw_D (rw_pt d c v) := rw_D_up (rw_D_up hd hv) (by omega)
theorem rw_cs (d : Nat → Nat) {c : Nat} (hd : rw_D d) : d (43 + 4 * c) + 16 * d (44 + 4 * c) + 256 * d (45 + 4 * c) < 4096 := by
  have := hd (43 + 4 * c); have := hd (44 + 4 * c); have := hd (45 + 4 * c)
  omega
section
variable {w : Nat} {h : hp_H} {d : Nat → Nat}
theorem s_put {c v : Nat} {Q : hp_H → Prop} (hd : rw_D d) (ht : rw_T d) (hr : rw_B h w d) (hc : c < 3) (hl : d (42 + 4 * c) < 3) (hv : v < 16) (hq : ∀ h', (∀ k, k ≠ w → h' k = h k) → rw_B h' w (rw_pt d c v) → Q h') : q_X7_put w h (nI c) (nI v) Q := by
  unfold q_X7_put
  rw [nI_add]
  refine ⟨nu_in (by omega) (by decide), ?_⟩
  rintro v1 rfl v2 rfl
  refine ⟨nu_in (by omega) (by decide), ?_⟩
  intro h3 e1
  have hW := rw_lt hd (10 + c)
  rw [nI_clamp (by omega), hr _ (by omega), rw_held hd hc, pk_mul, nI_add] at e1
  have key : ((nI (rw_w d (10 + c)) &&& (nI 4095)) ||| (hp_shl (nI v) (nI (4 * d (42 + 4 * c))))) ||| (hp_shl (nI (d (42 + 4 * c) + 1)) (nI 12)) = nI (rw_w (rw_pt d c v) (10 + c)) := by
    have b1 := hd (43 + 4 * c); have b2 := hd (44 + 4 * c); have b3 := hd (45 + 4 * c)
    have t0 := (ht c hc).2 0 (by omega); have t1 := (ht c hc).2 1 (by omega); have t2 := (ht c hc).2 2 (by omega)
    simp only [Nat.add_zero] at t0
    rw [show 43 + 4 * c + 1 = 44 + 4 * c by omega] at t1
    rw [show 43 + 4 * c + 2 = 45 + 4 * c by omega] at t2
    have lo := nu_low (n := rw_w d (10 + c)) (k := 12) (by omega) (by decide)
    rw [show (2 : Nat) ^ 12 - 1 = 4095 by rfl] at lo
    have p0 : rw_pt d c v (42 + 4 * c) = d (42 + 4 * c) + 1 := by
      unfold rw_pt
      simp [va_up]
    have p1 : rw_pt d c v (43 + 4 * c) = if d (42 + 4 * c) = 0 then v else d (43 + 4 * c) := by
      simp only [rw_pt, va_up]
      repeat' split
      all_goals omega
    have p2 : rw_pt d c v (44 + 4 * c) = if d (42 + 4 * c) = 1 then v else d (44 + 4 * c) := by
      simp only [rw_pt, va_up]
      repeat' split
      all_goals omega
    have p3 : rw_pt d c v (45 + 4 * c) = if d (42 + 4 * c) = 2 then v else d (45 + 4 * c) := by
      simp only [rw_pt, va_up]
      repeat' split
      all_goals omega
    rw [lo, rw_c d hc, rw_c _ hc, p0, p1, p2, p3]
    clear p0 p1 p2 p3
    generalize eA : d (42 + 4 * c) = A at *
    generalize eB : d (43 + 4 * c) = B at *
    generalize eC : d (44 + 4 * c) = C at *
    generalize eE : d (45 + 4 * c) = E at *
    rw [show (4096 * A + B + 16 * C + 256 * E) % 2 ^ 12 = B + 16 * C + 256 * E by simp only [Nat.reducePow]; omega]
    rcases (show A = 0 ∨ A = 1 ∨ A = 2 by omega) with rfl | rfl | rfl
    · have z0 := t0 (by omega); have z1 := t1 (by omega); have z2 := t2 (by omega)
      subst z0; subst z1; subst z2
      rw [nu_shl (by decide) (by simp only [Nat.reduceMul, Nat.reducePow]; omega), nu_ol (k := 4 * 0) (by decide) (by simp only [Nat.reduceMul, Nat.reducePow]; omega), nu_shl (by decide) (by decide), nu_ol (k := 12) (by simp only [Nat.reduceMul, Nat.reducePow]; omega) (by simp only [Nat.reduceMul, Nat.reducePow]; omega)]
      congr 1
      simp only [Nat.reduceMul, Nat.reducePow, Nat.reduceEqDiff, if_true, if_false]
      omega
    · have z1 := t1 (by omega); have z2 := t2 (by omega)
      subst z1; subst z2
      rw [nu_shl (by decide) (by simp only [Nat.reduceMul, Nat.reducePow]; omega), nu_ol (k := 4 * 1) (by simp only [Nat.reduceMul, Nat.reducePow]; omega) (by simp only [Nat.reduceMul, Nat.reducePow]; omega), nu_shl (by decide) (by decide), nu_ol (k := 12) (by simp only [Nat.reduceMul, Nat.reducePow]; omega) (by simp only [Nat.reduceMul, Nat.reducePow]; omega)]
      congr 1
      simp only [Nat.reduceMul, Nat.reducePow, Nat.reduceEqDiff, if_true, if_false]
      omega
    · have z2 := t2 (by omega)
      subst z2
      rw [nu_shl (by decide) (by simp only [Nat.reduceMul, Nat.reducePow]; omega), nu_ol (k := 4 * 2) (by simp only [Nat.reduceMul, Nat.reducePow]; omega) (by simp only [Nat.reduceMul, Nat.reducePow]; omega), nu_shl (by decide) (by decide), nu_ol (k := 12) (by simp only [Nat.reduceMul, Nat.reducePow]; omega) (by simp only [Nat.reduceMul, Nat.reducePow]; omega)]
      congr 1
      simp only [Nat.reduceMul, Nat.reducePow, Nat.reduceEqDiff, if_true, if_false]
      omega
  rw [key] at e1
  refine hq h3 (fun k hk => by rw [e1]; exact hp_up_row hk) (rw_B_up hr e1 (fun j hj hj0 => ?_))
  unfold rw_pt
  rw [rw_oth (by omega), rw_oth (by omega)]
theorem s_take {c i : Nat} {Q : hp_H → Prop} (hd : rw_D d) (hr : rw_B h w d) (hc : c < 3) (h0 : 0 < d (42 + 4 * c)) (hi : i < 3) (hq : ∀ h', (∀ k, k ≠ w → h' k = h k) → rw_B h' w (rw_tk d c i) → Q h') : q_X7_take w h (nI c) (nI i) Q := by
  unfold q_X7_take
  rw [nI_add]
  refine ⟨nu_in (by omega) (by decide), ?_⟩
  rintro v1 rfl v2 rfl v3 rfl v4 rfl
  refine ⟨nu_in (by omega) (by decide), ?_⟩
  intro h5 e1
  have hW := rw_lt hd (10 + c)
  have lo := nu_low (n := rw_w d (10 + c)) (k := 12) (by omega) (by decide)
  rw [show (2 : Nat) ^ 12 - 1 = 4095 by rfl] at lo
  have lo2 : rw_w d (10 + c) % 2 ^ 12 = d (43 + 4 * c) + 16 * d (44 + 4 * c) + 256 * d (45 + 4 * c) := by
    have := rw_cs d (c := c) hd
    rw [rw_c d hc]
    simp only [Nat.reducePow]
    omega
  have b1 := hd (43 + 4 * c); have b2 := hd (44 + 4 * c); have b3 := hd (45 + 4 * c); have b4 := hd (42 + 4 * c)
  rw [nI_clamp (by omega), hr _ (by omega), rw_held hd hc, lo, lo2, nI_add, pk_mul, pk_mul, pk_sub (by omega)] at e1
  rw [nu_shl (by omega) (by rcases (show i = 0 ∨ i = 1 ∨ i = 2 by omega) with rfl | rfl | rfl <;> decide)] at e1
  rw [pk_sub (by have := Nat.two_pow_pos (4 * i); omega), Nat.one_mul, nu_low (by omega) (by omega), nu_ushr (by omega) (by omega)] at e1
  have key : nI ((d (43 + 4 * c) + 16 * d (44 + 4 * c) + 256 * d (45 + 4 * c)) % 2 ^ (4 * i)) ||| hp_shl (nI ((d (43 + 4 * c) + 16 * d (44 + 4 * c) + 256 * d (45 + 4 * c)) / 2 ^ (4 * (i + 1)))) (nI (4 * i)) ||| hp_shl (nI (d (42 + 4 * c) - 1)) (nI 12) = nI (rw_w (rw_tk d c i) (10 + c)) := by
    have p0 : rw_tk d c i (42 + 4 * c) = d (42 + 4 * c) - 1 := by
      unfold rw_tk
      rw [if_pos rfl]
    have p1 : rw_tk d c i (43 + 4 * c) = if i = 0 then d (44 + 4 * c) else d (43 + 4 * c) := by
      simp only [rw_tk, show 43 + 4 * c + 1 = 44 + 4 * c by omega]
      repeat' split
      all_goals omega
    have p2 : rw_tk d c i (44 + 4 * c) = if i ≤ 1 then d (45 + 4 * c) else d (44 + 4 * c) := by
      simp only [rw_tk, show 44 + 4 * c + 1 = 45 + 4 * c by omega]
      repeat' split
      all_goals omega
    have p3 : rw_tk d c i (45 + 4 * c) = 0 := by
      unfold rw_tk
      rw [if_neg (by omega), if_neg (by omega), if_pos rfl]
    rw [rw_c _ hc, p0, p1, p2, p3]
    clear p0 p1 p2 p3 lo lo2 e1
    generalize eA : d (42 + 4 * c) = A at *
    generalize eB : d (43 + 4 * c) = B at *
    generalize eC : d (44 + 4 * c) = C at *
    generalize eE : d (45 + 4 * c) = E at *
    rcases (show i = 0 ∨ i = 1 ∨ i = 2 by omega) with rfl | rfl | rfl
    · rw [nu_shl (k := 4 * 0) (by decide) (by simp only [Nat.reduceMul, Nat.reduceAdd, Nat.reducePow]; omega), nu_ol (k := 4 * 0) (by simp only [Nat.reduceMul, Nat.reduceAdd, Nat.reducePow]; omega) (by simp only [Nat.reduceMul, Nat.reduceAdd, Nat.reducePow]; omega), nu_shl (k := 12) (by decide) (by simp only [Nat.reduceMul, Nat.reducePow]; omega), nu_ol (k := 12) (by simp only [Nat.reduceMul, Nat.reduceAdd, Nat.reducePow]; omega) (by simp only [Nat.reduceMul, Nat.reduceAdd, Nat.reducePow]; omega)]
      congr 1
      simp only [Nat.reduceMul, Nat.reduceAdd, Nat.reducePow, Nat.reduceEqDiff, Nat.reduceLeDiff, if_true, if_false]
      omega
    · rw [nu_shl (k := 4 * 1) (by decide) (by simp only [Nat.reduceMul, Nat.reduceAdd, Nat.reducePow]; omega), nu_ol (k := 4 * 1) (by simp only [Nat.reduceMul, Nat.reduceAdd, Nat.reducePow]; omega) (by simp only [Nat.reduceMul, Nat.reduceAdd, Nat.reducePow]; omega), nu_shl (k := 12) (by decide) (by simp only [Nat.reduceMul, Nat.reducePow]; omega), nu_ol (k := 12) (by simp only [Nat.reduceMul, Nat.reduceAdd, Nat.reducePow]; omega) (by simp only [Nat.reduceMul, Nat.reduceAdd, Nat.reducePow]; omega)]
      congr 1
      simp only [Nat.reduceMul, Nat.reduceAdd, Nat.reducePow, Nat.reduceEqDiff, Nat.reduceLeDiff, if_true, if_false]
      omega
    · rw [nu_shl (k := 4 * 2) (by decide) (by simp only [Nat.reduceMul, Nat.reduceAdd, Nat.reducePow]; omega), nu_ol (k := 4 * 2) (by simp only [Nat.reduceMul, Nat.reduceAdd, Nat.reducePow]; omega) (by simp only [Nat.reduceMul, Nat.reduceAdd, Nat.reducePow]; omega), nu_shl (k := 12) (by decide) (by simp only [Nat.reduceMul, Nat.reducePow]; omega), nu_ol (k := 12) (by simp only [Nat.reduceMul, Nat.reduceAdd, Nat.reducePow]; omega) (by simp only [Nat.reduceMul, Nat.reduceAdd, Nat.reducePow]; omega)]
      congr 1
      simp only [Nat.reduceMul, Nat.reduceAdd, Nat.reducePow, Nat.reduceEqDiff, Nat.reduceLeDiff, if_true, if_false]
      omega
  rw [key] at e1
  refine hq h5 (fun k hk => by rw [e1]; exact hp_up_row hk) (rw_B_up hr e1 (fun j hj hj0 => ?_))
  have ho : ∀ k, (k < 42 + 4 * c ∨ 46 + 4 * c ≤ k) → rw_tk d c i k = d k := by
    intro k hk
    simp only [rw_tk]
    repeat' split
    all_goals omega
  unfold rw_w
  by_cases z0 : j = 0
  · rw [if_pos z0, if_pos z0, ho 0 (by omega), ho 1 (by omega), ho 2 (by omega), ho 3 (by omega), ho 4 (by omega), ho 5 (by omega)]
  · by_cases z1 : j < 10
    · rw [if_neg z0, if_pos z1, if_neg z0, if_pos z1, ho _ (by omega), ho _ (by omega), ho _ (by omega), ho _ (by omega)]
    · rw [if_neg z0, if_neg z1, if_neg z0, if_neg z1, ho _ (by omega), ho _ (by omega), ho _ (by omega), ho _ (by omega)]
/-- two members beside each other change places -/
def rw_sw (d : Nat → Nat) (i : Nat) : Nat → Nat := fun k => if 6 + 4 * i ≤ k ∧ k < 10 + 4 * i then d (k + 4) else if 10 + 4 * i ≤ k ∧ k < 14 + 4 * i then d (k - 4) else d k
def rw_cw (d : Nat → Nat) (i : Nat) : Nat → Nat := if rw_w d (1 + i) ≤ rw_w d (2 + i) then d else rw_sw d i
/-- the members of role r, of whom there are n, in their order -/
def rw_ar (d : Nat → Nat) (r n : Nat) : Nat → Nat := if n = 3 then rw_cw (rw_cw (rw_cw d (3 * r)) (3 * r + 1)) (3 * r) else if n = 2 then rw_cw d (3 * r) else d
theorem rw_sw_D (hd : rw_D d) (i : Nat) : rw_D (rw_sw d i) := by
  intro k
  unfold rw_sw
  split
  · exact hd _
  · split <;> exact hd _
theorem rw_cw_D (hd : rw_D d) (i : Nat) : rw_D (rw_cw d i) := by
  unfold rw_cw
  split
  · exact hd
  · exact rw_sw_D hd i
theorem rw_ar_D (hd : rw_D d) (r n : Nat) : rw_D (rw_ar d r n) := by
  unfold rw_ar
  split
  · exact rw_cw_D (rw_cw_D (rw_cw_D hd _) _) _
  · split
    · exact rw_cw_D hd _
    · exact hd
theorem rw_sw1 {i : Nat} (hi : i < 8) : rw_w (rw_sw d i) (1 + i) = rw_w d (2 + i) := by
  rw [rw_m _ (by omega), show 2 + i = 1 + (i + 1) by omega, rw_m _ (by omega)]
  unfold rw_sw
  rw [if_pos (by omega), if_pos (by omega), if_pos (by omega), if_pos (by omega), show 6 + 4 * i + 4 = 6 + 4 * (i + 1) by omega, show 7 + 4 * i + 4 = 7 + 4 * (i + 1) by omega, show 8 + 4 * i + 4 = 8 + 4 * (i + 1) by omega, show 9 + 4 * i + 4 = 9 + 4 * (i + 1) by omega]
theorem rw_sw2 {i : Nat} (hi : i < 8) : rw_w (rw_sw d i) (2 + i) = rw_w d (1 + i) := by
  rw [rw_m d (by omega), show 2 + i = 1 + (i + 1) by omega, rw_m _ (by omega)]
  unfold rw_sw
  rw [if_neg (by omega), if_pos (by omega), if_neg (by omega), if_pos (by omega), if_neg (by omega), if_pos (by omega), if_neg (by omega), if_pos (by omega), show 6 + 4 * (i + 1) - 4 = 6 + 4 * i by omega, show 7 + 4 * (i + 1) - 4 = 7 + 4 * i by omega, show 8 + 4 * (i + 1) - 4 = 8 + 4 * i by omega, show 9 + 4 * (i + 1) - 4 = 9 + 4 * i by omega]
theorem rw_sw0 {i j : Nat} (hi : i < 8) (h1 : j ≠ 1 + i) (h2 : j ≠ 2 + i) : rw_w (rw_sw d i) j = rw_w d j := by
  have ho : ∀ k, (k < 6 + 4 * i ∨ 14 + 4 * i ≤ k) → rw_sw d i k = d k := by
    intro k hk
    unfold rw_sw
    rw [if_neg (by omega), if_neg (by omega)]
  unfold rw_w
  by_cases z0 : j = 0
  · rw [if_pos z0, if_pos z0, ho 0 (by omega), ho 1 (by omega), ho 2 (by omega), ho 3 (by omega), ho 4 (by omega), ho 5 (by omega)]
  · by_cases z1 : j < 10
    · rw [if_neg z0, if_pos z1, if_neg z0, if_pos z1, ho _ (by omega), ho _ (by omega), ho _ (by omega), ho _ (by omega)]
    · rw [if_neg z0, if_neg z1, if_neg z0, if_neg z1, ho _ (by omega), ho _ (by omega), ho _ (by omega), ho _ (by omega)]
/-- one comparison of 'arrange' -/
theorem s_ar1 {i : Nat} {K : hp_H → Prop} (hd : rw_D d) (hr : rw_B h w d) (hi : i < 8) (hq : ∀ h', (∀ k, k ≠ w → h' k = h k) → rw_B h' w (rw_cw d i) → K h') :
    ((h w (nI (1 + i)).toNatClampNeg) ≤ (h w ((nI (1 + i)) + (nI 1)).toNatClampNeg) → K h) ∧ (¬ (h w (nI (1 + i)).toNatClampNeg) ≤ (h w ((nI (1 + i)) + (nI 1)).toNatClampNeg) →
      vp_in (nI (1 + i)) 13 ∧ ∀ v15 : Int32, v15 = (h w (nI (1 + i)).toNatClampNeg) → vp_in ((nI (1 + i)) + (nI 1)) 13 ∧ vp_in (nI (1 + i)) 13 ∧ ∀ h16 : hp_H, h16 = hp_up h w (nI (1 + i)).toNatClampNeg (h w ((nI (1 + i)) + (nI 1)).toNatClampNeg) → vp_in ((nI (1 + i)) + (nI 1)) 13 ∧ ∀ h17 : hp_H, h17 = hp_up h16 w ((nI (1 + i)) + (nI 1)).toNatClampNeg v15 → K h17) := by
  have l1 := rw_lt hd (1 + i)
  have l2 := rw_lt hd (2 + i)
  rw [nI_add, show 1 + i + 1 = 2 + i by omega, nI_clamp (by omega), nI_clamp (by omega), hr _ (by omega), hr _ (by omega), nI_leI (by omega) (by omega)]
  refine ⟨fun q => hq h (fun _ _ => rfl) (by unfold rw_cw; rw [if_pos q]; exact hr), fun q => ⟨nu_in (by omega) (by decide), ?_⟩⟩
  rintro v15 rfl
  refine ⟨nu_in (by omega) (by decide), nu_in (by omega) (by decide), ?_⟩
  rintro h16 rfl
  refine ⟨nu_in (by omega) (by decide), ?_⟩
  rintro h17 rfl
  refine hq _ (fun k hk => by rw [hp_up_row hk, hp_up_row hk]) ?_
  unfold rw_cw
  rw [if_neg q]
  intro j hj
  by_cases e1 : j = 1 + i
  · subst e1
    rw [hp_up_slot (by omega), hp_up_same, rw_sw1 hi]
  · by_cases e2 : j = 2 + i
    · subst e2
      rw [hp_up_same, rw_sw2 hi]
    · rw [hp_up_slot e2, hp_up_slot e1, hr j hj, rw_sw0 hi e1 e2]
theorem s_arrange {r n : Nat} {Q : hp_H → Prop} (hd : rw_D d) (hr : rw_B h w d) (h1 : r < 3) (hn : 1 ≤ n) (hn3 : n ≤ 3) (hq : ∀ h', (∀ k, k ≠ w → h' k = h k) → rw_B h' w (rw_ar d r n) → Q h') : q_X7_arrange w h (nI r) (nI n) Q := by
  unfold q_X7_arrange
  rintro v1 rfl v2 rfl
  rw [pk_mul, nI_add, nI_add, pk_sub (by omega), show r * 3 = 3 * r by omega]
  have step : ∀ (hh : hp_H) (dd : Nat → Nat) (i : Nat) (R : hp_H → Prop), rw_D dd → rw_B hh w dd → i < 8 → (∀ h', (∀ k, k ≠ w → h' k = hh k) → rw_B h' w (rw_cw dd i) → R h') →
      vp_in (nI (1 + i)) 13 ∧ vp_in ((nI (1 + i)) + (nI 1)) 13 ∧ hp_jn0h (fun K13 => ((hh w (nI (1 + i)).toNatClampNeg) ≤ (hh w ((nI (1 + i)) + (nI 1)).toNatClampNeg) → K13 hh) ∧ (¬ (hh w (nI (1 + i)).toNatClampNeg) ≤ (hh w ((nI (1 + i)) + (nI 1)).toNatClampNeg) →
        vp_in (nI (1 + i)) 13 ∧ ∀ v15 : Int32, v15 = (hh w (nI (1 + i)).toNatClampNeg) → vp_in ((nI (1 + i)) + (nI 1)) 13 ∧ vp_in (nI (1 + i)) 13 ∧ ∀ h16 : hp_H, h16 = hp_up hh w (nI (1 + i)).toNatClampNeg (hh w ((nI (1 + i)) + (nI 1)).toNatClampNeg) → vp_in ((nI (1 + i)) + (nI 1)) 13 ∧ ∀ h17 : hp_H, h17 = hp_up h16 w ((nI (1 + i)) + (nI 1)).toNatClampNeg v15 → K13 h17)) R := by
    intro hh dd i R q1 q2 q3 q4
    refine ⟨nu_in (by omega) (by decide), by rw [nI_add]; exact nu_in (by omega) (by decide), ?_⟩
    exact hp_jn0h_i (s_ar1 q1 q2 q3 q4)
  rcases (show n = 1 ∨ n = 2 ∨ n = 3 by omega) with rfl | rfl | rfl
  · refine hp_lp1h_f ⟨fun _ => hq h (fun _ _ => rfl) (by unfold rw_ar; rw [if_neg (by decide), if_neg (by decide)]; exact hr), fun q => absurd (nI_le (by omega) (by omega)) q⟩
  · refine hp_lp1h_f ⟨fun q => absurd q (nI_ge (by omega) (by omega)), fun _ => ?_⟩
    refine hp_lp1h_f ⟨fun q => absurd q (nI_ge (by omega) (by omega)), fun _ => ?_⟩
    refine step h d (3 * r) _ hd hr (by omega) (fun h2 f2 r2 => ?_)
    rintro v18 rfl
    rw [nI_add]
    refine hp_lp1h_f ⟨fun _ => ?_, fun q => absurd (nI_le (by omega) (by omega)) q⟩
    rintro v11 rfl
    rw [show 1 + 3 * r + 2 - 1 = (3 * r + 1) + 1 by omega, pk_m1]
    refine hp_lp1h_f ⟨fun _ => ?_, fun q => absurd (nI_le (by omega) (by omega)) q⟩
    exact hq h2 f2 (by unfold rw_ar; rw [if_neg (by decide), if_pos rfl]; exact r2)
  · refine hp_lp1h_f ⟨fun q => absurd q (nI_ge (by omega) (by omega)), fun _ => ?_⟩
    refine hp_lp1h_f ⟨fun q => absurd q (nI_ge (by omega) (by omega)), fun _ => ?_⟩
    refine step h d (3 * r) _ hd hr (by omega) (fun h2 f2 r2 => ?_)
    rintro v18 rfl
    rw [nI_add, show 1 + 3 * r + 1 = 1 + (3 * r + 1) by omega]
    refine hp_lp1h_f ⟨fun q => absurd q (nI_ge (by omega) (by omega)), fun _ => ?_⟩
    refine step h2 (rw_cw d (3 * r)) (3 * r + 1) _ (rw_cw_D hd _) r2 (by omega) (fun h3 f3 r3 => ?_)
    rintro v18 rfl
    rw [nI_add]
    refine hp_lp1h_f ⟨fun _ => ?_, fun q => absurd (nI_le (by omega) (by omega)) q⟩
    rintro v11 rfl
    rw [show 1 + 3 * r + 3 - 1 = (3 * r + 2) + 1 by omega, pk_m1]
    refine hp_lp1h_f ⟨fun q => absurd q (nI_ge (by omega) (by omega)), fun _ => ?_⟩
    refine hp_lp1h_f ⟨fun q => absurd q (nI_ge (by omega) (by omega)), fun _ => ?_⟩
    refine step h3 _ (3 * r) _ (rw_cw_D (rw_cw_D hd _) _) r3 (by omega) (fun h4 f4 r4 => ?_)
    rintro v18 rfl
    rw [nI_add]
    refine hp_lp1h_f ⟨fun _ => ?_, fun q => absurd (nI_le (by omega) (by omega)) q⟩
    rintro v11 rfl
    rw [show 3 * r + 2 = (3 * r + 1) + 1 by omega, pk_m1]
    refine hp_lp1h_f ⟨fun _ => ?_, fun q => absurd (nI_le (by omega) (by omega)) q⟩
    exact hq h4 (fun k hk => by rw [f4 k hk, f3 k hk, f2 k hk]) (by unfold rw_ar; rw [if_pos rfl]; exact r4)
end
end
section
/-! ===== truth values, small numbers, what both heaps hold of what was told ===== -/
def nt (x : Int32) : Nat := x.toNatClampNeg
def isn (x : Int32) (b : Nat) : Prop := x = nI (nt x) ∧ nt x ≤ b
theorem nt_nI {n : Nat} (h : n < 2 ^ 31) : nt (nI n) = n := nI_clamp h
theorem isn_i {n b : Nat} (h : n ≤ b) (hb : b < 2 ^ 31) : isn (nI n) b := by
  unfold isn
  rw [nt_nI (by omega)]
  exact ⟨rfl, h⟩
theorem isn_up {x : Int32} {b c : Nat} (h : isn x b) (hc : b ≤ c) : isn x c := ⟨h.1, Nat.le_trans h.2 hc⟩
theorem isn_e {x : Int32} {b : Nat} (h : isn x b) : ∃ n, n ≤ b ∧ x = nI n ∧ nt x = n := ⟨nt x, h.2, h.1, rfl⟩
def bi (p : Prop) [Decidable p] : Int32 := if p then nI 1 else nI 0
theorem bi_0 {p : Prop} [Decidable p] : (bi p = 0) ↔ ¬ p := by
  unfold bi
  split
  · next h => exact ⟨fun q => absurd q (by decide), fun q => absurd h q⟩
  · next h => exact ⟨fun _ => h, fun _ => rfl⟩
theorem bi_bz {p : Prop} [Decidable p] : hp_bz (bi p) := by
  unfold bi hp_bz
  split
  · exact Or.inr rfl
  · exact Or.inl rfl
theorem bi_t {p : Prop} [Decidable p] (h : p) : bi p = nI 1 := if_pos h
theorem bi_f {p : Prop} [Decidable p] (h : ¬ p) : bi p = nI 0 := if_neg h
theorem bi_c {p q : Prop} [Decidable p] [Decidable q] (h : p ↔ q) : bi p = bi q := by
  unfold bi
  by_cases z : p
  · rw [if_pos z, if_pos (h.mp z)]
  · rw [if_neg z, if_neg (fun y => z (h.mpr y))]
theorem le_lt {x y : Int32} : ¬ x ≤ y ↔ y < x := Int32.not_le
theorem lt_le {x y : Int32} : ¬ x < y ↔ y ≤ x := Int32.not_lt
/-- two tests, one after the other -/
theorem q2 {a b : Prop} [Decidable a] [Decidable b] {Q : Int32 → Prop} : ((a → Q (nI 0)) ∧ (¬ a → (b → Q (nI 0)) ∧ (¬ b → Q (nI 1)))) ↔ Q (bi (¬ a ∧ ¬ b)) := by
  by_cases h1 : a
  · rw [bi_f (fun z => z.1 h1)]
    exact ⟨fun q => q.1 h1, fun q => ⟨fun _ => q, fun z => absurd h1 z⟩⟩
  · by_cases h2 : b
    · rw [bi_f (fun z => z.2 h2)]
      exact ⟨fun q => (q.2 h1).1 h2, fun q => ⟨fun z => absurd z h1, fun _ => ⟨fun _ => q, fun z => absurd h2 z⟩⟩⟩
    · rw [bi_t ⟨h1, h2⟩]
      exact ⟨fun q => (q.2 h1).2 h2, fun q => ⟨fun z => absurd z h1, fun _ => ⟨fun z => absurd z h2, fun _ => q⟩⟩⟩
theorem i_X1_has {h : hp_H} {a : Int32} {Q : Int32 → Prop} : q_X1_has h a Q ↔ Q (bi (¬ a < 0 ∧ ¬ h 15 1 ≤ a)) := q2
theorem i_X6_has {h : hp_H} {a : Int32} {Q : Int32 → Prop} : q_X6_has h a Q ↔ Q (bi (¬ a < 0 ∧ ¬ h 12 1 ≤ a)) := q2
theorem i_X9_has {h : hp_H} {a : Int32} {Q : Int32 → Prop} : q_X9_has h a Q ↔ Q (bi (¬ a < 0 ∧ ¬ h 23 8 ≤ a)) := q2
theorem i_X4_hasChannel {h : hp_H} {a : Int32} {Q : Int32 → Prop} : q_X4_hasChannel h a Q ↔ Q (bi (¬ a < 0 ∧ ¬ h 1 8 ≤ a)) := q2
theorem i_X11_isDigit {a : Int32} {Q : Int32 → Prop} : q_X11_isDigit a Q ↔ Q (bi (¬ a < 0 ∧ ¬ nI 9 < a)) := q2
theorem i_X12_in {a b c : Int32} {Q : Int32 → Prop} : q_X12_in a b c Q ↔ Q (bi (¬ a < b ∧ ¬ c < a)) := q2
theorem i_X12_isRole {h : hp_H} {a : Int32} {Q : Int32 → Prop} : q_X12_isRole h a Q ↔ Q (bi (¬ a < nI 0 ∧ ¬ (h 0 4) - (nI 1) < a)) := by
  unfold q_X12_isRole
  rw [i_X12_in]
  exact ⟨fun q => q.2, fun q => ⟨bi_bz, q⟩⟩
theorem i_X12_isExpr {h : hp_H} {a : Int32} {Q : Int32 → Prop} : q_X12_isExpr h a Q ↔ Q (bi (¬ a < nI 0 ∧ ¬ (h 0 15) - (nI 1) < a)) := by
  unfold q_X12_isExpr
  rw [i_X12_in]
  exact ⟨fun q => q.2, fun q => ⟨bi_bz, q⟩⟩
theorem i_X12_isChannel {h : hp_H} {a : Int32} {Q : Int32 → Prop} : q_X12_isChannel h a Q ↔ Q (bi (¬ a < nI 0 ∧ ¬ (h 0 11) - (nI 1) < a)) := by
  unfold q_X12_isChannel
  rw [i_X12_in]
  exact ⟨fun q => q.2, fun q => ⟨bi_bz, q⟩⟩
/-- below a count, said in two ways -/
theorem nu_pred {a : Int32} {n : Nat} (hn : n < 2 ^ 31) : (nI n - nI 1 < a) ↔ nI n ≤ a := by
  rw [Int32.lt_iff_toInt_lt, Int32.le_iff_toInt_le]
  cases n with
  | zero =>
    have e1 : (nI 0 - nI 1).toInt = -1 := by decide
    have e2 : (nI 0).toInt = 0 := by decide
    rw [e1, e2]; omega
  | succ k =>
    rw [pk_sub (by omega), nI_toInt (by omega), nI_toInt hn]
    omega
theorem bi_in {a x : Int32} {b : Nat} (hx : isn x b) (hb : b < 2 ^ 31) : bi (¬ a < nI 0 ∧ ¬ x - nI 1 < a) = bi (¬ a < 0 ∧ ¬ x ≤ a) := by
  apply bi_c
  obtain ⟨n, h1, h2, -⟩ := isn_e hx
  rw [h2, nu_pred (by omega), nI_0]
/-- a number between -/
theorem nu_get {a x : Int32} {b : Nat} (hx : isn x b) (hb : b < 2 ^ 31) (h : ¬ a < 0 ∧ ¬ x ≤ a) : ∃ k, k < nt x ∧ a = nI k := by
  obtain ⟨n, h1, h2, h3⟩ := isn_e hx
  obtain ⟨j, j1, j2⟩ := nI_of h.1
  refine ⟨j, ?_, j2⟩
  have := h.2
  rw [h2, j2, nI_leI (by omega) j1] at this
  omega
theorem nu_put {x : Int32} {b k : Nat} (hx : isn x b) (hb : b < 2 ^ 31) (hk : k < nt x) : ¬ nI k < 0 ∧ ¬ x ≤ nI k := by
  obtain ⟨n, h1, h2, h3⟩ := isn_e hx
  refine ⟨nI_pos (by omega), ?_⟩
  rw [h2, nI_leI (by omega) (by omega)]
  omega
theorem nu_dg {a : Int32} (h : ¬ a < 0 ∧ ¬ nI 9 < a) : ∃ k, k ≤ 9 ∧ a = nI k := by
  obtain ⟨j, j1, j2⟩ := nI_of h.1
  have := h.2
  rw [j2, nI_ltI (by omega) j1] at this
  exact ⟨j, by omega, j2⟩
/-- a heap's cell, behind a store -/
theorem hp_at (h : hp_H) (k j : Nat) (v : Int32) (i : Nat) : hp_up h k j v i = if i = k then upd (h k) j v else h i := by
  funext b
  unfold hp_up upd
  by_cases e : i = k
  · subst e
    by_cases z : b = j
    · simp [z]
    · simp [z]
  · simp [e]
/-! ===== what was told ===== -/
def EQp (b m : hp_H) : Prop := b 4 = m 1 ∧ b 5 = m 2 ∧ b 6 = m 3 ∧ b 13 = m 4 ∧ b 8 = m 5 ∧ b 9 = m 6 ∧ b 10 = m 7 ∧ b 11 = m 8 ∧ b 32 = m 10 ∧ b 33 = m 11 ∧ b 34 = m 12 ∧ b 17 = m 13 ∧ b 18 = m 14 ∧ b 19 = m 15 ∧ b 20 = m 16 ∧ b 22 = m 17 ∧ b 24 = m 18 ∧ b 25 = m 19 ∧ b 26 = m 20 ∧ b 27 = m 21 ∧ b 28 = m 22 ∧ b 29 = m 23 ∧ b 30 = m 24 ∧ b 31 = m 25
def EQf (b m : hp_H) : Prop := b 3 0 = m 0 0 ∧ b 12 1 = m 0 4 ∧ b 1 8 = m 0 11 ∧ b 15 1 = m 0 15 ∧ b 23 8 = m 0 21 ∧ b 1 9 = m 0 30 ∧ b 2 1 = nI 6 ∧ b 7 1 = nI 3
def EQo (b m : hp_H) : Prop := b 66 = m 26 ∧ b 64 0 = m 0 31
def EQe (b m : hp_H) : Prop := ∀ r, r < 3 → ∃ n, n < 1024 ∧ b 14 r = nI n ∧ ∀ p, p < 10 → hp_bz (m 9 (10 * r + p)) ∧ (n.testBit p = true ↔ m 9 (10 * r + p) = nI 1)
def EQn (b m : hp_H) : Prop := hp_bz (b 15 9) ∧ (b 15 9 = 0 ↔ ∀ e, e < nt (m 0 15) → m 13 e ≠ nI 3 ∧ m 13 e ≠ nI 6)
def VPd (lo hi fi : Int32) : Prop := isn lo 9 ∧ isn hi 9 ∧ isn fi 9 ∧ nt lo ≤ nt fi ∧ nt fi ≤ nt hi
def VPs (m : hp_H) : Prop := isn (m 0 0) 6 ∧ ∀ i, i < nt (m 0 0) → VPd (m 1 i) (m 2 i) (m 3 i)
def VPr (m : hp_H) : Prop := isn (m 0 4) 3 ∧ (∀ r, r < 3 → isn (m 5 r) 3) ∧ (∀ r, r < nt (m 0 4) → isn (m 4 r) 3 ∧ 1 ≤ nt (m 4 r)) ∧ (∀ r, nt (m 0 4) ≤ r → r < 3 → m 5 r = nI 0) ∧ ∀ r v, r < 3 → v < nt (m 5 r) → VPd (m 6 (3 * r + v)) (m 7 (3 * r + v)) (m 8 (3 * r + v))
def VPc (m : hp_H) : Prop := isn (m 0 11) 3 ∧ ∀ c, c < nt (m 0 11) → isn (m 10 c) 3 ∧ 1 ≤ nt (m 10 c) ∧ hp_bz (m 11 c) ∧ hp_bz (m 12 c)
def VPx1 (m : hp_H) (e : Nat) : Prop := isn (m 13 e) 14 ∧ hp_bz (m 17 e) ∧
  (nt (m 13 e) = 1 → isn (m 14 e) 5 ∧ nt (m 14 e) < nt (m 0 0)) ∧
  (nt (m 13 e) = 2 → isn (m 14 e) 2) ∧
  (nt (m 13 e) = 4 → isn (m 14 e) 2 ∧ nt (m 14 e) < nt (m 0 4) ∧ isn (m 15 e) 9) ∧
  (nt (m 13 e) = 5 → isn (m 14 e) 2 ∧ nt (m 14 e) < nt (m 0 11)) ∧
  (nt (m 13 e) = 6 → isn (m 14 e) 2 ∧ nt (m 14 e) < nt (m 0 4) ∧ isn (m 15 e) 2 ∧ nt (m 15 e) < nt (m 4 (nt (m 14 e))) ∧ isn (m 16 e) 2 ∧ nt (m 16 e) < nt (m 5 (nt (m 14 e)))) ∧
  (7 ≤ nt (m 13 e) → isn (m 14 e) 79 ∧ nt (m 14 e) < e) ∧
  (7 ≤ nt (m 13 e) → nt (m 13 e) < 14 → isn (m 15 e) 79 ∧ nt (m 15 e) < e) ∧
  (m 17 e = 0 → nt (m 13 e) ≠ 2 ∧ nt (m 13 e) ≠ 3 ∧ (7 ≤ nt (m 13 e) → m 17 (nt (m 14 e)) = 0) ∧ (7 ≤ nt (m 13 e) → nt (m 13 e) < 14 → m 17 (nt (m 15 e)) = 0))
def VPx (m : hp_H) : Prop := isn (m 0 15) 80 ∧ ∀ e, e < nt (m 0 15) → VPx1 m e
def VPa (m : hp_H) (s i : Nat) : Prop := isn (m 23 (4 * s + i)) 3 ∧
  (nt (m 23 (4 * s + i)) = 0 → isn (m 24 (4 * s + i)) 5 ∧ nt (m 24 (4 * s + i)) < nt (m 0 0)) ∧
  (nt (m 23 (4 * s + i)) = 1 → isn (m 24 (4 * s + i)) 2 ∧ nt (m 24 (4 * s + i)) < nt (m 5 (nt (m 18 s)))) ∧
  (2 ≤ nt (m 23 (4 * s + i)) → isn (m 24 (4 * s + i)) 2 ∧ nt (m 24 (4 * s + i)) < nt (m 0 11)) ∧
  (nt (m 23 (4 * s + i)) < 3 → isn (m 25 (4 * s + i)) 79 ∧ nt (m 25 (4 * s + i)) < nt (m 0 15)) ∧
  (nt (m 23 (4 * s + i)) = 3 → isn (m 25 (4 * s + i)) 2 ∧ nt (m 25 (4 * s + i)) < nt (m 5 (nt (m 18 s))))
def VPt1 (m : hp_H) (s : Nat) : Prop := isn (m 18 s) 2 ∧ nt (m 18 s) < nt (m 0 4) ∧ isn (m 19 s) 9 ∧ isn (m 20 s) 9 ∧ (m 21 s = -1 ∨ (isn (m 21 s) 79 ∧ nt (m 21 s) < nt (m 0 15))) ∧ (∀ i, i < nt (m 22 s) → VPa m s i) ∧
  ∀ i j, i < nt (m 22 s) → j < nt (m 22 s) → i ≠ j → m 23 (4 * s + i) = m 23 (4 * s + j) → 2 ≤ nt (m 23 (4 * s + i)) → m 24 (4 * s + i) ≠ m 24 (4 * s + j)
def VPt (m : hp_H) : Prop := isn (m 0 21) 24 ∧ (∀ s, s < 24 → isn (m 22 s) 4) ∧ (∀ s, nt (m 0 21) ≤ s → s < 24 → m 22 s = nI 0) ∧ ∀ s, s < nt (m 0 21) → VPt1 m s
def VPo (m : hp_H) : Prop := isn (m 0 31) 8 ∧ ∀ k, k < nt (m 0 31) → isn (m 26 k) 79 ∧ nt (m 26 k) < nt (m 0 15) ∧ m 17 (nt (m 26 k)) = 0
def VP (m : hp_H) : Prop := VPs m ∧ VPr m ∧ VPc m ∧ VPx m ∧ VPt m ∧ hp_bz (m 0 30)
def EQ (b m : hp_H) : Prop := EQp b m ∧ EQf b m ∧ EQe b m ∧ EQn b m
/-- there is no search -/
def GR0 (b m : hp_H) : Prop := b 35 0 = nI 0 ∧ b 35 1 = nI 0 ∧ b 35 2 = nI 0 ∧ m 0 33 = nI 0 ∧ m 0 34 = nI 0 ∧ m 0 35 = nI 0
def DV0 (b : hp_H) : Prop := (b hp_V 0 = nI 0 ∧ b hp_V 1 = nI 3) ∨ (b hp_V 0 = nI 3 ∧ b hp_V 1 = nI 0)
end

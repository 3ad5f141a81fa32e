section
-- ===== PART A: goes FIRST, ahead of the names: the tables' words, and 'selects' of the private methods out of them =====
/-- a private method of a class that the tables say can be made, by its rows of tables_1 -/
def lw_okq (q : MethodName × Nat) : Prop := (q.1.cls ≠ "java/lang/invoke/MethodHandle" ∧ q.1.cls ≠ "java/lang/invoke/VarHandle") ∧ Cond.instantiable q.1.cls q.2 ∈ tables_1 ∧ Cond.privateMethod q.1 ∈ tables_1 ∧ Cond.instanceMethod q.1 ∈ tables_1
theorem lw_p0 : lw_okq (⟨"ProtocolBench", "endSearch", "()V"⟩, 6) := ⟨⟨by decide +kernel, by decide +kernel⟩, List.mem_of_getElem? (i := 18) (by decide +kernel), List.mem_of_getElem? (i := 491) (by decide +kernel), List.mem_of_getElem? (i := 492) (by decide +kernel)⟩
theorem lw_p1 : lw_okq (⟨"ProtocolBench$Protocol", "markUses", "()V"⟩, 10) := ⟨⟨by decide +kernel, by decide +kernel⟩, List.mem_of_getElem? (i := 26) (by decide +kernel), List.mem_of_getElem? (i := 632) (by decide +kernel), List.mem_of_getElem? (i := 633) (by decide +kernel)⟩
theorem lw_p2 : lw_okq (⟨"ProtocolBench$Graph", "slotOf", "(LProtocolBench$Row;)I"⟩, 16) := ⟨⟨by decide +kernel, by decide +kernel⟩, List.mem_of_getElem? (i := 221) (by decide +kernel), List.mem_of_getElem? (i := 685) (by decide +kernel), List.mem_of_getElem? (i := 686) (by decide +kernel)⟩
theorem lw_p3 : lw_okq (⟨"ProtocolBench$Graph", "isSame", "(ILProtocolBench$Row;)Z"⟩, 16) := ⟨⟨by decide +kernel, by decide +kernel⟩, List.mem_of_getElem? (i := 221) (by decide +kernel), List.mem_of_getElem? (i := 689) (by decide +kernel), List.mem_of_getElem? (i := 690) (by decide +kernel)⟩
theorem lw_p4 : lw_okq (⟨"ProtocolBench$Graph", "addState", "(LProtocolBench$Row;III)V"⟩, 16) := ⟨⟨by decide +kernel, by decide +kernel⟩, List.mem_of_getElem? (i := 221) (by decide +kernel), List.mem_of_getElem? (i := 693) (by decide +kernel), List.mem_of_getElem? (i := 694) (by decide +kernel)⟩
theorem lw_p5 : lw_okq (⟨"ProtocolBench$Searcher", "goMember", "(III)V"⟩, 5) := ⟨⟨by decide +kernel, by decide +kernel⟩, List.mem_of_getElem? (i := 297) (by decide +kernel), List.mem_of_getElem? (i := 708) (by decide +kernel), List.mem_of_getElem? (i := 709) (by decide +kernel)⟩
theorem lw_p6 : lw_okq (⟨"ProtocolBench$Exprs", "ofRow", "(ILProtocolBench$Row;II)I"⟩, 10) := ⟨⟨by decide +kernel, by decide +kernel⟩, List.mem_of_getElem? (i := 79) (by decide +kernel), List.mem_of_getElem? (i := 723) (by decide +kernel), List.mem_of_getElem? (i := 724) (by decide +kernel)⟩
theorem lw_p7 : lw_okq (⟨"ProtocolBench$Searcher", "canDo", "(I)Z"⟩, 5) := ⟨⟨by decide +kernel, by decide +kernel⟩, List.mem_of_getElem? (i := 297) (by decide +kernel), List.mem_of_getElem? (i := 743) (by decide +kernel), List.mem_of_getElem? (i := 744) (by decide +kernel)⟩
theorem lw_p8 : lw_okq (⟨"ProtocolBench$Searcher", "goWays", "(III)V"⟩, 5) := ⟨⟨by decide +kernel, by decide +kernel⟩, List.mem_of_getElem? (i := 297) (by decide +kernel), List.mem_of_getElem? (i := 748) (by decide +kernel), List.mem_of_getElem? (i := 749) (by decide +kernel)⟩
theorem lw_p9 : lw_okq (⟨"ProtocolBench$Searcher", "doActs", "(III)Z"⟩, 5) := ⟨⟨by decide +kernel, by decide +kernel⟩, List.mem_of_getElem? (i := 297) (by decide +kernel), List.mem_of_getElem? (i := 758) (by decide +kernel), List.mem_of_getElem? (i := 759) (by decide +kernel)⟩
theorem lw_p10 : lw_okq (⟨"ProtocolBench$Searcher", "giveShared", "(II)Z"⟩, 5) := ⟨⟨by decide +kernel, by decide +kernel⟩, List.mem_of_getElem? (i := 297) (by decide +kernel), List.mem_of_getElem? (i := 762) (by decide +kernel), List.mem_of_getElem? (i := 763) (by decide +kernel)⟩
theorem lw_p11 : lw_okq (⟨"ProtocolBench$Searcher", "giveOwn", "(IIII)Z"⟩, 5) := ⟨⟨by decide +kernel, by decide +kernel⟩, List.mem_of_getElem? (i := 297) (by decide +kernel), List.mem_of_getElem? (i := 771) (by decide +kernel), List.mem_of_getElem? (i := 772) (by decide +kernel)⟩
theorem lw_p12 : lw_okq (⟨"ProtocolBench$Searcher", "send", "(II)Z"⟩, 5) := ⟨⟨by decide +kernel, by decide +kernel⟩, List.mem_of_getElem? (i := 297) (by decide +kernel), List.mem_of_getElem? (i := 776) (by decide +kernel), List.mem_of_getElem? (i := 777) (by decide +kernel)⟩
theorem lw_p13 : lw_okq (⟨"ProtocolBench$Searcher", "takeAlike", "(I)V"⟩, 5) := ⟨⟨by decide +kernel, by decide +kernel⟩, List.mem_of_getElem? (i := 297) (by decide +kernel), List.mem_of_getElem? (i := 798) (by decide +kernel), List.mem_of_getElem? (i := 799) (by decide +kernel)⟩
theorem lw_p14 : lw_okq (⟨"ProtocolBench$Searcher", "pickNext", "(I)Z"⟩, 5) := ⟨⟨by decide +kernel, by decide +kernel⟩, List.mem_of_getElem? (i := 297) (by decide +kernel), List.mem_of_getElem? (i := 817) (by decide +kernel), List.mem_of_getElem? (i := 818) (by decide +kernel)⟩
theorem lw_p15 : lw_okq (⟨"ProtocolBench$Row", "isFirstOfLike", "(II)Z"⟩, 1) := ⟨⟨by decide +kernel, by decide +kernel⟩, List.mem_of_getElem? (i := 303) (by decide +kernel), List.mem_of_getElem? (i := 826) (by decide +kernel), List.mem_of_getElem? (i := 827) (by decide +kernel)⟩
def lw_privs_1 : List (MethodName × Nat) := [(⟨"ProtocolBench", "endSearch", "()V"⟩, 6), (⟨"ProtocolBench$Protocol", "markUses", "()V"⟩, 10), (⟨"ProtocolBench$Graph", "slotOf", "(LProtocolBench$Row;)I"⟩, 16), (⟨"ProtocolBench$Graph", "isSame", "(ILProtocolBench$Row;)Z"⟩, 16), (⟨"ProtocolBench$Graph", "addState", "(LProtocolBench$Row;III)V"⟩, 16), (⟨"ProtocolBench$Searcher", "goMember", "(III)V"⟩, 5), (⟨"ProtocolBench$Exprs", "ofRow", "(ILProtocolBench$Row;II)I"⟩, 10), (⟨"ProtocolBench$Searcher", "canDo", "(I)Z"⟩, 5), (⟨"ProtocolBench$Searcher", "goWays", "(III)V"⟩, 5), (⟨"ProtocolBench$Searcher", "doActs", "(III)Z"⟩, 5), (⟨"ProtocolBench$Searcher", "giveShared", "(II)Z"⟩, 5), (⟨"ProtocolBench$Searcher", "giveOwn", "(IIII)Z"⟩, 5), (⟨"ProtocolBench$Searcher", "send", "(II)Z"⟩, 5), (⟨"ProtocolBench$Searcher", "takeAlike", "(I)V"⟩, 5), (⟨"ProtocolBench$Searcher", "pickNext", "(I)Z"⟩, 5), (⟨"ProtocolBench$Row", "isFirstOfLike", "(II)Z"⟩, 1)]
theorem lw_r1 : ∀ q ∈ lw_privs_1, lw_okq q := List.forall_mem_cons.mpr ⟨lw_p0, List.forall_mem_cons.mpr ⟨lw_p1, List.forall_mem_cons.mpr ⟨lw_p2, List.forall_mem_cons.mpr ⟨lw_p3, List.forall_mem_cons.mpr ⟨lw_p4, List.forall_mem_cons.mpr ⟨lw_p5, List.forall_mem_cons.mpr ⟨lw_p6, List.forall_mem_cons.mpr ⟨lw_p7, List.forall_mem_cons.mpr ⟨lw_p8, List.forall_mem_cons.mpr ⟨lw_p9, List.forall_mem_cons.mpr ⟨lw_p10, List.forall_mem_cons.mpr ⟨lw_p11, List.forall_mem_cons.mpr ⟨lw_p12, List.forall_mem_cons.mpr ⟨lw_p13, List.forall_mem_cons.mpr ⟨lw_p14, List.forall_mem_cons.mpr ⟨lw_p15, fun _ h => absurd h List.not_mem_nil⟩⟩⟩⟩⟩⟩⟩⟩⟩⟩⟩⟩⟩⟩⟩⟩
theorem lw_p16 : lw_okq (⟨"ProtocolBench$Searcher", "lose", "(II)V"⟩, 5) := ⟨⟨by decide +kernel, by decide +kernel⟩, List.mem_of_getElem? (i := 297) (by decide +kernel), List.mem_of_getElem? (i := 830) (by decide +kernel), List.mem_of_getElem? (i := 831) (by decide +kernel)⟩
theorem lw_p17 : lw_okq (⟨"ProtocolBench", "refusalOfPlain", "(I)I"⟩, 6) := ⟨⟨by decide +kernel, by decide +kernel⟩, List.mem_of_getElem? (i := 18) (by decide +kernel), List.mem_of_getElem? (i := 960) (by decide +kernel), List.mem_of_getElem? (i := 961) (by decide +kernel)⟩
theorem lw_p18 : lw_okq (⟨"ProtocolBench$Knots", "tie", "(Z)V"⟩, 20) := ⟨⟨by decide +kernel, by decide +kernel⟩, List.mem_of_getElem? (i := 348) (by decide +kernel), List.mem_of_getElem? (i := 975) (by decide +kernel), List.mem_of_getElem? (i := 976) (by decide +kernel)⟩
theorem lw_p19 : lw_okq (⟨"ProtocolBench$Knots", "walk", "(I)V"⟩, 20) := ⟨⟨by decide +kernel, by decide +kernel⟩, List.mem_of_getElem? (i := 348) (by decide +kernel), List.mem_of_getElem? (i := 983) (by decide +kernel), List.mem_of_getElem? (i := 984) (by decide +kernel)⟩
theorem lw_p20 : lw_okq (⟨"ProtocolBench$Knots", "enter", "(I)V"⟩, 20) := ⟨⟨by decide +kernel, by decide +kernel⟩, List.mem_of_getElem? (i := 348) (by decide +kernel), List.mem_of_getElem? (i := 987) (by decide +kernel), List.mem_of_getElem? (i := 988) (by decide +kernel)⟩
theorem lw_p21 : lw_okq (⟨"ProtocolBench$Knots", "follow", "(II)V"⟩, 20) := ⟨⟨by decide +kernel, by decide +kernel⟩, List.mem_of_getElem? (i := 348) (by decide +kernel), List.mem_of_getElem? (i := 991) (by decide +kernel), List.mem_of_getElem? (i := 992) (by decide +kernel)⟩
theorem lw_p22 : lw_okq (⟨"ProtocolBench$Knots", "handBack", "(I)V"⟩, 20) := ⟨⟨by decide +kernel, by decide +kernel⟩, List.mem_of_getElem? (i := 348) (by decide +kernel), List.mem_of_getElem? (i := 998) (by decide +kernel), List.mem_of_getElem? (i := 999) (by decide +kernel)⟩
theorem lw_p23 : lw_okq (⟨"ProtocolBench$Knots", "close", "(I)V"⟩, 20) := ⟨⟨by decide +kernel, by decide +kernel⟩, List.mem_of_getElem? (i := 348) (by decide +kernel), List.mem_of_getElem? (i := 1002) (by decide +kernel), List.mem_of_getElem? (i := 1003) (by decide +kernel)⟩
theorem lw_p24 : lw_okq (⟨"ProtocolBench$Knots", "weigh", "(II)Z"⟩, 20) := ⟨⟨by decide +kernel, by decide +kernel⟩, List.mem_of_getElem? (i := 348) (by decide +kernel), List.mem_of_getElem? (i := 1006) (by decide +kernel), List.mem_of_getElem? (i := 1007) (by decide +kernel)⟩
theorem lw_p25 : lw_okq (⟨"ProtocolBench$Knots", "firstOfBoth", "([Z[Z)I"⟩, 20) := ⟨⟨by decide +kernel, by decide +kernel⟩, List.mem_of_getElem? (i := 348) (by decide +kernel), List.mem_of_getElem? (i := 1011) (by decide +kernel), List.mem_of_getElem? (i := 1012) (by decide +kernel)⟩
theorem lw_p26 : lw_okq (⟨"ProtocolBench$Division", "keyByObserved", "()V"⟩, 12) := ⟨⟨by decide +kernel, by decide +kernel⟩, List.mem_of_getElem? (i := 415) (by decide +kernel), List.mem_of_getElem? (i := 1045) (by decide +kernel), List.mem_of_getElem? (i := 1046) (by decide +kernel)⟩
theorem lw_p27 : lw_okq (⟨"ProtocolBench$Division", "split", "(I)V"⟩, 12) := ⟨⟨by decide +kernel, by decide +kernel⟩, List.mem_of_getElem? (i := 415) (by decide +kernel), List.mem_of_getElem? (i := 1053) (by decide +kernel), List.mem_of_getElem? (i := 1054) (by decide +kernel)⟩
theorem lw_p28 : lw_okq (⟨"ProtocolBench$Division", "newPartLike", "(II)I"⟩, 12) := ⟨⟨by decide +kernel, by decide +kernel⟩, List.mem_of_getElem? (i := 415) (by decide +kernel), List.mem_of_getElem? (i := 1057) (by decide +kernel), List.mem_of_getElem? (i := 1058) (by decide +kernel)⟩
theorem lw_p29 : lw_okq (⟨"ProtocolBench$Division", "haveSameKeys", "(III)Z"⟩, 12) := ⟨⟨by decide +kernel, by decide +kernel⟩, List.mem_of_getElem? (i := 415) (by decide +kernel), List.mem_of_getElem? (i := 1061) (by decide +kernel), List.mem_of_getElem? (i := 1062) (by decide +kernel)⟩
theorem lw_p30 : lw_okq (⟨"ProtocolBench$Division", "openPart", "(I)I"⟩, 12) := ⟨⟨by decide +kernel, by decide +kernel⟩, List.mem_of_getElem? (i := 415) (by decide +kernel), List.mem_of_getElem? (i := 1065) (by decide +kernel), List.mem_of_getElem? (i := 1066) (by decide +kernel)⟩
theorem lw_p31 : lw_okq (⟨"ProtocolBench$Division", "keyByMoves", "(I)V"⟩, 12) := ⟨⟨by decide +kernel, by decide +kernel⟩, List.mem_of_getElem? (i := 415) (by decide +kernel), List.mem_of_getElem? (i := 1069) (by decide +kernel), List.mem_of_getElem? (i := 1070) (by decide +kernel)⟩
def lw_privs_2 : List (MethodName × Nat) := [(⟨"ProtocolBench$Searcher", "lose", "(II)V"⟩, 5), (⟨"ProtocolBench", "refusalOfPlain", "(I)I"⟩, 6), (⟨"ProtocolBench$Knots", "tie", "(Z)V"⟩, 20), (⟨"ProtocolBench$Knots", "walk", "(I)V"⟩, 20), (⟨"ProtocolBench$Knots", "enter", "(I)V"⟩, 20), (⟨"ProtocolBench$Knots", "follow", "(II)V"⟩, 20), (⟨"ProtocolBench$Knots", "handBack", "(I)V"⟩, 20), (⟨"ProtocolBench$Knots", "close", "(I)V"⟩, 20), (⟨"ProtocolBench$Knots", "weigh", "(II)Z"⟩, 20), (⟨"ProtocolBench$Knots", "firstOfBoth", "([Z[Z)I"⟩, 20), (⟨"ProtocolBench$Division", "keyByObserved", "()V"⟩, 12), (⟨"ProtocolBench$Division", "split", "(I)V"⟩, 12), (⟨"ProtocolBench$Division", "newPartLike", "(II)I"⟩, 12), (⟨"ProtocolBench$Division", "haveSameKeys", "(III)Z"⟩, 12), (⟨"ProtocolBench$Division", "openPart", "(I)I"⟩, 12), (⟨"ProtocolBench$Division", "keyByMoves", "(I)V"⟩, 12)]
theorem lw_r2 : ∀ q ∈ lw_privs_2, lw_okq q := List.forall_mem_cons.mpr ⟨lw_p16, List.forall_mem_cons.mpr ⟨lw_p17, List.forall_mem_cons.mpr ⟨lw_p18, List.forall_mem_cons.mpr ⟨lw_p19, List.forall_mem_cons.mpr ⟨lw_p20, List.forall_mem_cons.mpr ⟨lw_p21, List.forall_mem_cons.mpr ⟨lw_p22, List.forall_mem_cons.mpr ⟨lw_p23, List.forall_mem_cons.mpr ⟨lw_p24, List.forall_mem_cons.mpr ⟨lw_p25, List.forall_mem_cons.mpr ⟨lw_p26, List.forall_mem_cons.mpr ⟨lw_p27, List.forall_mem_cons.mpr ⟨lw_p28, List.forall_mem_cons.mpr ⟨lw_p29, List.forall_mem_cons.mpr ⟨lw_p30, List.forall_mem_cons.mpr ⟨lw_p31, fun _ h => absurd h List.not_mem_nil⟩⟩⟩⟩⟩⟩⟩⟩⟩⟩⟩⟩⟩⟩⟩⟩
theorem lw_p32 : lw_okq (⟨"ProtocolBenchModel", "over", "()V"⟩, 64) := ⟨⟨by decide +kernel, by decide +kernel⟩, List.mem_of_getElem? (i := 1087) (by decide +kernel), List.mem_of_getElem? (i := 1297) (by decide +kernel), List.mem_of_getElem? (i := 1298) (by decide +kernel)⟩
theorem lw_p33 : lw_okq (⟨"ProtocolBenchModel", "isRole", "(I)Z"⟩, 64) := ⟨⟨by decide +kernel, by decide +kernel⟩, List.mem_of_getElem? (i := 1087) (by decide +kernel), List.mem_of_getElem? (i := 1309) (by decide +kernel), List.mem_of_getElem? (i := 1310) (by decide +kernel)⟩
theorem lw_p34 : lw_okq (⟨"ProtocolBenchModel", "isThere", "(IIII)Z"⟩, 64) := ⟨⟨by decide +kernel, by decide +kernel⟩, List.mem_of_getElem? (i := 1087) (by decide +kernel), List.mem_of_getElem? (i := 1325) (by decide +kernel), List.mem_of_getElem? (i := 1326) (by decide +kernel)⟩
theorem lw_p35 : lw_okq (⟨"ProtocolBenchModel", "isChannel", "(I)Z"⟩, 64) := ⟨⟨by decide +kernel, by decide +kernel⟩, List.mem_of_getElem? (i := 1087) (by decide +kernel), List.mem_of_getElem? (i := 1329) (by decide +kernel), List.mem_of_getElem? (i := 1330) (by decide +kernel)⟩
theorem lw_p36 : lw_okq (⟨"ProtocolBenchModel", "isExpr", "(I)Z"⟩, 64) := ⟨⟨by decide +kernel, by decide +kernel⟩, List.mem_of_getElem? (i := 1087) (by decide +kernel), List.mem_of_getElem? (i := 1333) (by decide +kernel), List.mem_of_getElem? (i := 1334) (by decide +kernel)⟩
theorem lw_p37 : lw_okq (⟨"ProtocolBenchModel", "maySearch", "()Z"⟩, 64) := ⟨⟨by decide +kernel, by decide +kernel⟩, List.mem_of_getElem? (i := 1087) (by decide +kernel), List.mem_of_getElem? (i := 1353) (by decide +kernel), List.mem_of_getElem? (i := 1354) (by decide +kernel)⟩
theorem lw_p38 : lw_okq (⟨"ProtocolBenchModel", "isFit", "(I)Z"⟩, 64) := ⟨⟨by decide +kernel, by decide +kernel⟩, List.mem_of_getElem? (i := 1087) (by decide +kernel), List.mem_of_getElem? (i := 1357) (by decide +kernel), List.mem_of_getElem? (i := 1358) (by decide +kernel)⟩
theorem lw_p39 : lw_okq (⟨"ProtocolBenchModel", "use", "(I)V"⟩, 64) := ⟨⟨by decide +kernel, by decide +kernel⟩, List.mem_of_getElem? (i := 1087) (by decide +kernel), List.mem_of_getElem? (i := 1361) (by decide +kernel), List.mem_of_getElem? (i := 1362) (by decide +kernel)⟩
theorem lw_p40 : lw_okq (⟨"ProtocolBenchModel", "goThrough", "(I)Z"⟩, 64) := ⟨⟨by decide +kernel, by decide +kernel⟩, List.mem_of_getElem? (i := 1087) (by decide +kernel), List.mem_of_getElem? (i := 1368) (by decide +kernel), List.mem_of_getElem? (i := 1369) (by decide +kernel)⟩
theorem lw_p41 : lw_okq (⟨"ProtocolBenchModel", "reckon", "(III)V"⟩, 64) := ⟨⟨by decide +kernel, by decide +kernel⟩, List.mem_of_getElem? (i := 1087) (by decide +kernel), List.mem_of_getElem? (i := 1372) (by decide +kernel), List.mem_of_getElem? (i := 1373) (by decide +kernel)⟩
theorem lw_p42 : lw_okq (⟨"ProtocolBenchModel", "cell", "(II)I"⟩, 64) := ⟨⟨by decide +kernel, by decide +kernel⟩, List.mem_of_getElem? (i := 1087) (by decide +kernel), List.mem_of_getElem? (i := 1376) (by decide +kernel), List.mem_of_getElem? (i := 1377) (by decide +kernel)⟩
theorem lw_p43 : lw_okq (⟨"ProtocolBenchModel", "many", "(III)I"⟩, 64) := ⟨⟨by decide +kernel, by decide +kernel⟩, List.mem_of_getElem? (i := 1087) (by decide +kernel), List.mem_of_getElem? (i := 1380) (by decide +kernel), List.mem_of_getElem? (i := 1381) (by decide +kernel)⟩
theorem lw_p44 : lw_okq (⟨"ProtocolBenchModel", "can", "(III)Z"⟩, 64) := ⟨⟨by decide +kernel, by decide +kernel⟩, List.mem_of_getElem? (i := 1087) (by decide +kernel), List.mem_of_getElem? (i := 1387) (by decide +kernel), List.mem_of_getElem? (i := 1388) (by decide +kernel)⟩
theorem lw_p45 : lw_okq (⟨"ProtocolBenchModel", "goWays", "(III)Z"⟩, 64) := ⟨⟨by decide +kernel, by decide +kernel⟩, List.mem_of_getElem? (i := 1087) (by decide +kernel), List.mem_of_getElem? (i := 1391) (by decide +kernel), List.mem_of_getElem? (i := 1392) (by decide +kernel)⟩
theorem lw_p46 : lw_okq (⟨"ProtocolBenchModel", "take", "(I)V"⟩, 64) := ⟨⟨by decide +kernel, by decide +kernel⟩, List.mem_of_getElem? (i := 1087) (by decide +kernel), List.mem_of_getElem? (i := 1395) (by decide +kernel), List.mem_of_getElem? (i := 1396) (by decide +kernel)⟩
theorem lw_p47 : lw_okq (⟨"ProtocolBenchModel", "isDone", "(III)Z"⟩, 64) := ⟨⟨by decide +kernel, by decide +kernel⟩, List.mem_of_getElem? (i := 1087) (by decide +kernel), List.mem_of_getElem? (i := 1399) (by decide +kernel), List.mem_of_getElem? (i := 1400) (by decide +kernel)⟩
def lw_privs_3 : List (MethodName × Nat) := [(⟨"ProtocolBenchModel", "over", "()V"⟩, 64), (⟨"ProtocolBenchModel", "isRole", "(I)Z"⟩, 64), (⟨"ProtocolBenchModel", "isThere", "(IIII)Z"⟩, 64), (⟨"ProtocolBenchModel", "isChannel", "(I)Z"⟩, 64), (⟨"ProtocolBenchModel", "isExpr", "(I)Z"⟩, 64), (⟨"ProtocolBenchModel", "maySearch", "()Z"⟩, 64), (⟨"ProtocolBenchModel", "isFit", "(I)Z"⟩, 64), (⟨"ProtocolBenchModel", "use", "(I)V"⟩, 64), (⟨"ProtocolBenchModel", "goThrough", "(I)Z"⟩, 64), (⟨"ProtocolBenchModel", "reckon", "(III)V"⟩, 64), (⟨"ProtocolBenchModel", "cell", "(II)I"⟩, 64), (⟨"ProtocolBenchModel", "many", "(III)I"⟩, 64), (⟨"ProtocolBenchModel", "can", "(III)Z"⟩, 64), (⟨"ProtocolBenchModel", "goWays", "(III)Z"⟩, 64), (⟨"ProtocolBenchModel", "take", "(I)V"⟩, 64), (⟨"ProtocolBenchModel", "isDone", "(III)Z"⟩, 64)]
theorem lw_r3 : ∀ q ∈ lw_privs_3, lw_okq q := List.forall_mem_cons.mpr ⟨lw_p32, List.forall_mem_cons.mpr ⟨lw_p33, List.forall_mem_cons.mpr ⟨lw_p34, List.forall_mem_cons.mpr ⟨lw_p35, List.forall_mem_cons.mpr ⟨lw_p36, List.forall_mem_cons.mpr ⟨lw_p37, List.forall_mem_cons.mpr ⟨lw_p38, List.forall_mem_cons.mpr ⟨lw_p39, List.forall_mem_cons.mpr ⟨lw_p40, List.forall_mem_cons.mpr ⟨lw_p41, List.forall_mem_cons.mpr ⟨lw_p42, List.forall_mem_cons.mpr ⟨lw_p43, List.forall_mem_cons.mpr ⟨lw_p44, List.forall_mem_cons.mpr ⟨lw_p45, List.forall_mem_cons.mpr ⟨lw_p46, List.forall_mem_cons.mpr ⟨lw_p47, fun _ h => absurd h List.not_mem_nil⟩⟩⟩⟩⟩⟩⟩⟩⟩⟩⟩⟩⟩⟩⟩⟩
theorem lw_p48 : lw_okq (⟨"ProtocolBenchModel", "letterGoes", "(II)V"⟩, 64) := ⟨⟨by decide +kernel, by decide +kernel⟩, List.mem_of_getElem? (i := 1087) (by decide +kernel), List.mem_of_getElem? (i := 1403) (by decide +kernel), List.mem_of_getElem? (i := 1404) (by decide +kernel)⟩
theorem lw_p49 : lw_okq (⟨"ProtocolBenchModel", "comes", "(IIII)Z"⟩, 64) := ⟨⟨by decide +kernel, by decide +kernel⟩, List.mem_of_getElem? (i := 1087) (by decide +kernel), List.mem_of_getElem? (i := 1407) (by decide +kernel), List.mem_of_getElem? (i := 1408) (by decide +kernel)⟩
theorem lw_p50 : lw_okq (⟨"ProtocolBenchModel", "order", "()V"⟩, 64) := ⟨⟨by decide +kernel, by decide +kernel⟩, List.mem_of_getElem? (i := 1087) (by decide +kernel), List.mem_of_getElem? (i := 1411) (by decide +kernel), List.mem_of_getElem? (i := 1412) (by decide +kernel)⟩
theorem lw_p51 : lw_okq (⟨"ProtocolBenchModel", "isBehind", "(III)Z"⟩, 64) := ⟨⟨by decide +kernel, by decide +kernel⟩, List.mem_of_getElem? (i := 1087) (by decide +kernel), List.mem_of_getElem? (i := 1415) (by decide +kernel), List.mem_of_getElem? (i := 1416) (by decide +kernel)⟩
theorem lw_p52 : lw_okq (⟨"ProtocolBenchModel", "placeOf", "()I"⟩, 64) := ⟨⟨by decide +kernel, by decide +kernel⟩, List.mem_of_getElem? (i := 1087) (by decide +kernel), List.mem_of_getElem? (i := 1419) (by decide +kernel), List.mem_of_getElem? (i := 1420) (by decide +kernel)⟩
theorem lw_p53 : lw_okq (⟨"ProtocolBenchModel", "fault", "(IIII)V"⟩, 64) := ⟨⟨by decide +kernel, by decide +kernel⟩, List.mem_of_getElem? (i := 1087) (by decide +kernel), List.mem_of_getElem? (i := 1423) (by decide +kernel), List.mem_of_getElem? (i := 1424) (by decide +kernel)⟩
theorem lw_p54 : lw_okq (⟨"ProtocolBenchModel", "hasNextWay", "(II)Z"⟩, 64) := ⟨⟨by decide +kernel, by decide +kernel⟩, List.mem_of_getElem? (i := 1087) (by decide +kernel), List.mem_of_getElem? (i := 1427) (by decide +kernel), List.mem_of_getElem? (i := 1428) (by decide +kernel)⟩
theorem lw_p55 : lw_okq (⟨"ProtocolBenchModel", "nextChoice", "(III)I"⟩, 64) := ⟨⟨by decide +kernel, by decide +kernel⟩, List.mem_of_getElem? (i := 1087) (by decide +kernel), List.mem_of_getElem? (i := 1431) (by decide +kernel), List.mem_of_getElem? (i := 1432) (by decide +kernel)⟩
theorem lw_p56 : lw_okq (⟨"ProtocolBenchModel", "isFirst", "(III)Z"⟩, 64) := ⟨⟨by decide +kernel, by decide +kernel⟩, List.mem_of_getElem? (i := 1087) (by decide +kernel), List.mem_of_getElem? (i := 1435) (by decide +kernel), List.mem_of_getElem? (i := 1436) (by decide +kernel)⟩
theorem lw_p57 : lw_okq (⟨"ProtocolBenchModel", "hasStates", "()Z"⟩, 64) := ⟨⟨by decide +kernel, by decide +kernel⟩, List.mem_of_getElem? (i := 1087) (by decide +kernel), List.mem_of_getElem? (i := 1443) (by decide +kernel), List.mem_of_getElem? (i := 1444) (by decide +kernel)⟩
theorem lw_p58 : lw_okq (⟨"ProtocolBenchModel", "isState", "(I)Z"⟩, 64) := ⟨⟨by decide +kernel, by decide +kernel⟩, List.mem_of_getElem? (i := 1087) (by decide +kernel), List.mem_of_getElem? (i := 1447) (by decide +kernel), List.mem_of_getElem? (i := 1448) (by decide +kernel)⟩
theorem lw_p59 : lw_okq (⟨"ProtocolBenchModel", "isMember", "(II)Z"⟩, 64) := ⟨⟨by decide +kernel, by decide +kernel⟩, List.mem_of_getElem? (i := 1087) (by decide +kernel), List.mem_of_getElem? (i := 1456) (by decide +kernel), List.mem_of_getElem? (i := 1457) (by decide +kernel)⟩
theorem lw_p60 : lw_okq (⟨"ProtocolBenchModel", "movesOf", "(I)I"⟩, 64) := ⟨⟨by decide +kernel, by decide +kernel⟩, List.mem_of_getElem? (i := 1087) (by decide +kernel), List.mem_of_getElem? (i := 1472) (by decide +kernel), List.mem_of_getElem? (i := 1473) (by decide +kernel)⟩
theorem lw_p61 : lw_okq (⟨"ProtocolBenchModel", "isStuck", "(I)Z"⟩, 64) := ⟨⟨by decide +kernel, by decide +kernel⟩, List.mem_of_getElem? (i := 1087) (by decide +kernel), List.mem_of_getElem? (i := 1492) (by decide +kernel), List.mem_of_getElem? (i := 1493) (by decide +kernel)⟩
theorem lw_p62 : lw_okq (⟨"ProtocolBenchModel", "takeWhereNot", "(I)V"⟩, 64) := ⟨⟨by decide +kernel, by decide +kernel⟩, List.mem_of_getElem? (i := 1087) (by decide +kernel), List.mem_of_getElem? (i := 1508) (by decide +kernel), List.mem_of_getElem? (i := 1509) (by decide +kernel)⟩
theorem lw_p63 : lw_okq (⟨"ProtocolBenchModel", "findKnots", "(Z)V"⟩, 64) := ⟨⟨by decide +kernel, by decide +kernel⟩, List.mem_of_getElem? (i := 1087) (by decide +kernel), List.mem_of_getElem? (i := 1512) (by decide +kernel), List.mem_of_getElem? (i := 1513) (by decide +kernel)⟩
def lw_privs_4 : List (MethodName × Nat) := [(⟨"ProtocolBenchModel", "letterGoes", "(II)V"⟩, 64), (⟨"ProtocolBenchModel", "comes", "(IIII)Z"⟩, 64), (⟨"ProtocolBenchModel", "order", "()V"⟩, 64), (⟨"ProtocolBenchModel", "isBehind", "(III)Z"⟩, 64), (⟨"ProtocolBenchModel", "placeOf", "()I"⟩, 64), (⟨"ProtocolBenchModel", "fault", "(IIII)V"⟩, 64), (⟨"ProtocolBenchModel", "hasNextWay", "(II)Z"⟩, 64), (⟨"ProtocolBenchModel", "nextChoice", "(III)I"⟩, 64), (⟨"ProtocolBenchModel", "isFirst", "(III)Z"⟩, 64), (⟨"ProtocolBenchModel", "hasStates", "()Z"⟩, 64), (⟨"ProtocolBenchModel", "isState", "(I)Z"⟩, 64), (⟨"ProtocolBenchModel", "isMember", "(II)Z"⟩, 64), (⟨"ProtocolBenchModel", "movesOf", "(I)I"⟩, 64), (⟨"ProtocolBenchModel", "isStuck", "(I)Z"⟩, 64), (⟨"ProtocolBenchModel", "takeWhereNot", "(I)V"⟩, 64), (⟨"ProtocolBenchModel", "findKnots", "(Z)V"⟩, 64)]
theorem lw_r4 : ∀ q ∈ lw_privs_4, lw_okq q := List.forall_mem_cons.mpr ⟨lw_p48, List.forall_mem_cons.mpr ⟨lw_p49, List.forall_mem_cons.mpr ⟨lw_p50, List.forall_mem_cons.mpr ⟨lw_p51, List.forall_mem_cons.mpr ⟨lw_p52, List.forall_mem_cons.mpr ⟨lw_p53, List.forall_mem_cons.mpr ⟨lw_p54, List.forall_mem_cons.mpr ⟨lw_p55, List.forall_mem_cons.mpr ⟨lw_p56, List.forall_mem_cons.mpr ⟨lw_p57, List.forall_mem_cons.mpr ⟨lw_p58, List.forall_mem_cons.mpr ⟨lw_p59, List.forall_mem_cons.mpr ⟨lw_p60, List.forall_mem_cons.mpr ⟨lw_p61, List.forall_mem_cons.mpr ⟨lw_p62, List.forall_mem_cons.mpr ⟨lw_p63, fun _ h => absurd h List.not_mem_nil⟩⟩⟩⟩⟩⟩⟩⟩⟩⟩⟩⟩⟩⟩⟩⟩
theorem lw_p64 : lw_okq (⟨"ProtocolBenchModel", "goAhead", "(I[Z)V"⟩, 64) := ⟨⟨by decide +kernel, by decide +kernel⟩, List.mem_of_getElem? (i := 1087) (by decide +kernel), List.mem_of_getElem? (i := 1516) (by decide +kernel), List.mem_of_getElem? (i := 1517) (by decide +kernel)⟩
theorem lw_p65 : lw_okq (⟨"ProtocolBenchModel", "goBack", "(I[Z)V"⟩, 64) := ⟨⟨by decide +kernel, by decide +kernel⟩, List.mem_of_getElem? (i := 1087) (by decide +kernel), List.mem_of_getElem? (i := 1520) (by decide +kernel), List.mem_of_getElem? (i := 1521) (by decide +kernel)⟩
theorem lw_p66 : lw_okq (⟨"ProtocolBenchModel", "hasMove", "()Z"⟩, 64) := ⟨⟨by decide +kernel, by decide +kernel⟩, List.mem_of_getElem? (i := 1087) (by decide +kernel), List.mem_of_getElem? (i := 1524) (by decide +kernel), List.mem_of_getElem? (i := 1525) (by decide +kernel)⟩
theorem lw_p67 : lw_okq (⟨"ProtocolBenchModel", "isFair", "()Z"⟩, 64) := ⟨⟨by decide +kernel, by decide +kernel⟩, List.mem_of_getElem? (i := 1087) (by decide +kernel), List.mem_of_getElem? (i := 1528) (by decide +kernel), List.mem_of_getElem? (i := 1529) (by decide +kernel)⟩
theorem lw_p68 : lw_okq (⟨"ProtocolBenchModel", "hasTurn", "(II)Z"⟩, 64) := ⟨⟨by decide +kernel, by decide +kernel⟩, List.mem_of_getElem? (i := 1087) (by decide +kernel), List.mem_of_getElem? (i := 1532) (by decide +kernel), List.mem_of_getElem? (i := 1533) (by decide +kernel)⟩
theorem lw_p69 : lw_okq (⟨"ProtocolBenchModel", "divide", "()I"⟩, 64) := ⟨⟨by decide +kernel, by decide +kernel⟩, List.mem_of_getElem? (i := 1087) (by decide +kernel), List.mem_of_getElem? (i := 1548) (by decide +kernel), List.mem_of_getElem? (i := 1549) (by decide +kernel)⟩
theorem lw_p70 : lw_okq (⟨"ProtocolBenchModel", "isSeenAlike", "(II)Z"⟩, 64) := ⟨⟨by decide +kernel, by decide +kernel⟩, List.mem_of_getElem? (i := 1087) (by decide +kernel), List.mem_of_getElem? (i := 1552) (by decide +kernel), List.mem_of_getElem? (i := 1553) (by decide +kernel)⟩
theorem lw_p71 : lw_okq (⟨"ProtocolBenchModel", "findSigns", "()V"⟩, 64) := ⟨⟨by decide +kernel, by decide +kernel⟩, List.mem_of_getElem? (i := 1087) (by decide +kernel), List.mem_of_getElem? (i := 1556) (by decide +kernel), List.mem_of_getElem? (i := 1557) (by decide +kernel)⟩
theorem lw_p72 : lw_okq (⟨"ProtocolBenchModel", "hasSameSigns", "(II)Z"⟩, 64) := ⟨⟨by decide +kernel, by decide +kernel⟩, List.mem_of_getElem? (i := 1087) (by decide +kernel), List.mem_of_getElem? (i := 1560) (by decide +kernel), List.mem_of_getElem? (i := 1561) (by decide +kernel)⟩
def lw_privs_5 : List (MethodName × Nat) := [(⟨"ProtocolBenchModel", "goAhead", "(I[Z)V"⟩, 64), (⟨"ProtocolBenchModel", "goBack", "(I[Z)V"⟩, 64), (⟨"ProtocolBenchModel", "hasMove", "()Z"⟩, 64), (⟨"ProtocolBenchModel", "isFair", "()Z"⟩, 64), (⟨"ProtocolBenchModel", "hasTurn", "(II)Z"⟩, 64), (⟨"ProtocolBenchModel", "divide", "()I"⟩, 64), (⟨"ProtocolBenchModel", "isSeenAlike", "(II)Z"⟩, 64), (⟨"ProtocolBenchModel", "findSigns", "()V"⟩, 64), (⟨"ProtocolBenchModel", "hasSameSigns", "(II)Z"⟩, 64)]
theorem lw_r5 : ∀ q ∈ lw_privs_5, lw_okq q := List.forall_mem_cons.mpr ⟨lw_p64, List.forall_mem_cons.mpr ⟨lw_p65, List.forall_mem_cons.mpr ⟨lw_p66, List.forall_mem_cons.mpr ⟨lw_p67, List.forall_mem_cons.mpr ⟨lw_p68, List.forall_mem_cons.mpr ⟨lw_p69, List.forall_mem_cons.mpr ⟨lw_p70, List.forall_mem_cons.mpr ⟨lw_p71, List.forall_mem_cons.mpr ⟨lw_p72, fun _ h => absurd h List.not_mem_nil⟩⟩⟩⟩⟩⟩⟩⟩⟩
def lw_privs : List (MethodName × Nat) := lw_privs_1 ++ (lw_privs_2 ++ (lw_privs_3 ++ (lw_privs_4 ++ (lw_privs_5))))
def lw_tbl : List Cond := k2_sels lw_privs ++ tables_1
theorem lw_privs_ok : ∀ q ∈ lw_privs, lw_okq q := by
  show ∀ q ∈ lw_privs_1 ++ (lw_privs_2 ++ (lw_privs_3 ++ (lw_privs_4 ++ (lw_privs_5)))), lw_okq q
  exact List.forall_mem_append.mpr ⟨lw_r1, List.forall_mem_append.mpr ⟨lw_r2, List.forall_mem_append.mpr ⟨lw_r3, List.forall_mem_append.mpr ⟨lw_r4, lw_r5⟩⟩⟩⟩
end
section
def RX0 : String := "ProtocolBench$Division"
def TX0 : u_T := fun k => match k with
  | 0 => ("ProtocolBench$Division", "observed", "I", false)
  | 1 => ("ProtocolBench$Division", "parts", "I", false)
  | 2 => ("ProtocolBench$Division", "partOf", "[I", false)
  | 3 => ("ProtocolBench$Division", "graph", "LProtocolBench$Graph;", true)
  | 4 => ("ProtocolBench$Division", "reckoner", "LProtocolBench$Reckoner;", true)
  | 5 => ("ProtocolBench$Division", "observedExpr", "[I", true)
  | 6 => ("ProtocolBench$Division", "keys", "[I", true)
  | 7 => ("ProtocolBench$Division", "newPartOf", "[I", false)
  | 8 => ("ProtocolBench$Division", "firstNew", "[I", true)
  | 9 => ("ProtocolBench$Division", "nextNew", "[I", true)
  | 10 => ("ProtocolBench$Division", "leastState", "[I", true)
  | _ => ("ProtocolBench$Division", "isMade", "Z", false)
def tyX0 : Nat → FieldType := fun k => match k with
  | 0 => .int
  | 1 => .int
  | 2 => .array .int
  | 3 => .object "ProtocolBench$Graph"
  | 4 => .object "ProtocolBench$Reckoner"
  | 5 => .array .int
  | 6 => .array .int
  | 7 => .array .int
  | 8 => .array .int
  | 9 => .array .int
  | 10 => .array .int
  | _ => .boolean
theorem nmX0 : ∀ a, a < 12 → ∀ b, b < 12 → a ≠ b → (TX0 a).2.1 ≠ (TX0 b).2.1 := by decide +kernel
theorem tyX0_ok : ∀ k, k < 12 → parseFieldDescriptor (TX0 k).2.2.1 = some (tyX0 k) := by decide +kernel
abbrev cX0_init : ByteArray := prog_2_method_1_code
def yX0_init : MethodName := ⟨RX0, "<init>", "(LProtocolBench$Graph;LProtocolBench$Reckoner;)V"⟩
abbrev cX0_observes : ByteArray := prog_2_method_2_code
def yX0_observes : MethodName := ⟨RX0, "observes", "(I)Z"⟩
abbrev cX0_addObserved : ByteArray := prog_2_method_3_code
def yX0_addObserved : MethodName := ⟨RX0, "addObserved", "(I)I"⟩
abbrev cX0_forget : ByteArray := prog_2_method_4_code
def yX0_forget : MethodName := ⟨RX0, "forget", "()V"⟩
abbrev cX0_makeSure : ByteArray := prog_2_method_5_code
def yX0_makeSure : MethodName := ⟨RX0, "makeSure", "()V"⟩
abbrev cX0_keyByObserved : ByteArray := prog_2_method_6_code
def yX0_keyByObserved : MethodName := ⟨RX0, "keyByObserved", "()V"⟩
abbrev cX0_keyByMoves : ByteArray := prog_2_method_7_code
def yX0_keyByMoves : MethodName := ⟨RX0, "keyByMoves", "(I)V"⟩
abbrev cX0_split : ByteArray := prog_2_method_8_code
def yX0_split : MethodName := ⟨RX0, "split", "(I)V"⟩
abbrev cX0_newPartLike : ByteArray := prog_2_method_9_code
def yX0_newPartLike : MethodName := ⟨RX0, "newPartLike", "(II)I"⟩
abbrev cX0_haveSameKeys : ByteArray := prog_2_method_10_code
def yX0_haveSameKeys : MethodName := ⟨RX0, "haveSameKeys", "(III)Z"⟩
abbrev cX0_openPart : ByteArray := prog_2_method_11_code
def yX0_openPart : MethodName := ⟨RX0, "openPart", "(I)I"⟩
def RX1 : String := "ProtocolBench$Exprs"
def TX1 : u_T := fun k => match k with
  | 0 => ("ProtocolBench$Exprs", "value", "[I", true)
  | 1 => ("ProtocolBench$Exprs", "told", "I", false)
  | 2 => ("ProtocolBench$Exprs", "roles", "LProtocolBench$Roles;", true)
  | 3 => ("ProtocolBench$Exprs", "kinds", "[I", true)
  | 4 => ("ProtocolBench$Exprs", "a", "[I", true)
  | 5 => ("ProtocolBench$Exprs", "b", "[I", true)
  | 6 => ("ProtocolBench$Exprs", "c", "[I", true)
  | 7 => ("ProtocolBench$Exprs", "uses", "[I", true)
  | 8 => ("ProtocolBench$Exprs", "ofMember", "[Z", true)
  | _ => ("ProtocolBench$Exprs", "namesMembers", "Z", false)
def tyX1 : Nat → FieldType := fun k => match k with
  | 0 => .array .int
  | 1 => .int
  | 2 => .object "ProtocolBench$Roles"
  | 3 => .array .int
  | 4 => .array .int
  | 5 => .array .int
  | 6 => .array .int
  | 7 => .array .int
  | 8 => .array .boolean
  | _ => .boolean
theorem nmX1 : ∀ a, a < 10 → ∀ b, b < 10 → a ≠ b → (TX1 a).2.1 ≠ (TX1 b).2.1 := by decide +kernel
theorem tyX1_ok : ∀ k, k < 10 → parseFieldDescriptor (TX1 k).2.2.1 = some (tyX1 k) := by decide +kernel
abbrev cX1_init : ByteArray := prog_3_method_1_code
def yX1_init : MethodName := ⟨RX1, "<init>", "(LProtocolBench$Roles;)V"⟩
abbrev cX1_has : ByteArray := prog_3_method_2_code
def yX1_has : MethodName := ⟨RX1, "has", "(I)Z"⟩
abbrev cX1_isOwned : ByteArray := prog_3_method_3_code
def yX1_isOwned : MethodName := ⟨RX1, "isOwned", "(I)Z"⟩
abbrev cX1_tellsMembersApart : ByteArray := prog_3_method_4_code
def yX1_tellsMembersApart : MethodName := ⟨RX1, "tellsMembersApart", "()Z"⟩
abbrev cX1_add : ByteArray := prog_3_method_5_code
def yX1_add : MethodName := ⟨RX1, "add", "(IIII)I"⟩
abbrev cX1_isMade : ByteArray := prog_3_method_6_code
def yX1_isMade : MethodName := ⟨RX1, "isMade", "(I)Z"⟩
abbrev cX1_isMadeOfTwo : ByteArray := prog_3_method_7_code
def yX1_isMadeOfTwo : MethodName := ⟨RX1, "isMadeOfTwo", "(I)Z"⟩
abbrev cX1_dropUse : ByteArray := prog_3_method_8_code
def yX1_dropUse : MethodName := ⟨RX1, "dropUse", "(I)V"⟩
abbrev cX1_addUse : ByteArray := prog_3_method_9_code
def yX1_addUse : MethodName := ⟨RX1, "addUse", "(II)V"⟩
abbrev cX1_spreadUses : ByteArray := prog_3_method_10_code
def yX1_spreadUses : MethodName := ⟨RX1, "spreadUses", "()V"⟩
abbrev cX1_namesBeyond : ByteArray := prog_3_method_11_code
def yX1_namesBeyond : MethodName := ⟨RX1, "namesBeyond", "(II)Z"⟩
abbrev cX1_reckon : ByteArray := prog_3_method_12_code
def yX1_reckon : MethodName := ⟨RX1, "reckon", "(LProtocolBench$Row;III)V"⟩
abbrev cX1_ofParts : ByteArray := prog_3_method_13_code
def yX1_ofParts : MethodName := ⟨RX1, "ofParts", "(III)I"⟩
abbrev cX1_ofRow : ByteArray := prog_3_method_14_code
def yX1_ofRow : MethodName := ⟨RX1, "ofRow", "(ILProtocolBench$Row;II)I"⟩
def RX2 : String := "ProtocolBench$Graph"
def TX2 : u_T := fun k => match k with
  | 0 => ("ProtocolBench$Graph", "isThere", "Z", false)
  | 1 => ("ProtocolBench$Graph", "isSpent", "Z", false)
  | 2 => ("ProtocolBench$Graph", "states", "I", false)
  | 3 => ("ProtocolBench$Graph", "moveCount", "I", false)
  | 4 => ("ProtocolBench$Graph", "faultState", "I", false)
  | 5 => ("ProtocolBench$Graph", "faultRole", "I", false)
  | 6 => ("ProtocolBench$Graph", "faultMember", "I", false)
  | 7 => ("ProtocolBench$Graph", "faultStep", "I", false)
  | 8 => ("ProtocolBench$Graph", "firstMove", "[I", true)
  | 9 => ("ProtocolBench$Graph", "moveTo", "[I", true)
  | 10 => ("ProtocolBench$Graph", "wayLength", "[I", true)
  | 11 => ("ProtocolBench$Graph", "cameFrom", "[I", true)
  | 12 => ("ProtocolBench$Graph", "cameBy", "[I", true)
  | 13 => ("ProtocolBench$Graph", "moveBy", "[I", true)
  | 14 => ("ProtocolBench$Graph", "words", "[I", true)
  | _ => ("ProtocolBench$Graph", "slots", "[I", true)
def tyX2 : Nat → FieldType := fun k => match k with
  | 0 => .boolean
  | 1 => .boolean
  | 2 => .int
  | 3 => .int
  | 4 => .int
  | 5 => .int
  | 6 => .int
  | 7 => .int
  | 8 => .array .int
  | 9 => .array .int
  | 10 => .array .int
  | 11 => .array .int
  | 12 => .array .int
  | 13 => .array .int
  | 14 => .array .int
  | _ => .array .int
theorem nmX2 : ∀ a, a < 16 → ∀ b, b < 16 → a ≠ b → (TX2 a).2.1 ≠ (TX2 b).2.1 := by decide +kernel
theorem tyX2_ok : ∀ k, k < 16 → parseFieldDescriptor (TX2 k).2.2.1 = some (tyX2 k) := by decide +kernel
abbrev cX2_init : ByteArray := prog_4_method_1_code
def yX2_init : MethodName := ⟨RX2, "<init>", "()V"⟩
abbrev cX2_clear : ByteArray := prog_4_method_2_code
def yX2_clear : MethodName := ⟨RX2, "clear", "()V"⟩
abbrev cX2_begin : ByteArray := prog_4_method_3_code
def yX2_begin : MethodName := ⟨RX2, "begin", "(LProtocolBench$Row;)V"⟩
abbrev cX2_isUsable : ByteArray := prog_4_method_4_code
def yX2_isUsable : MethodName := ⟨RX2, "isUsable", "()Z"⟩
abbrev cX2_has : ByteArray := prog_4_method_5_code
def yX2_has : MethodName := ⟨RX2, "has", "(I)Z"⟩
abbrev cX2_load : ByteArray := prog_4_method_6_code
def yX2_load : MethodName := ⟨RX2, "load", "(ILProtocolBench$Row;)V"⟩
abbrev cX2_movesFrom : ByteArray := prog_4_method_7_code
def yX2_movesFrom : MethodName := ⟨RX2, "movesFrom", "(I)I"⟩
abbrev cX2_roleOfMove : ByteArray := prog_4_method_8_code
def yX2_roleOfMove : MethodName := ⟨RX2, "roleOfMove", "(I)I"⟩
abbrev cX2_memberOfMove : ByteArray := prog_4_method_9_code
def yX2_memberOfMove : MethodName := ⟨RX2, "memberOfMove", "(I)I"⟩
abbrev cX2_stepOfMove : ByteArray := prog_4_method_10_code
def yX2_stepOfMove : MethodName := ⟨RX2, "stepOfMove", "(I)I"⟩
abbrev cX2_moverBit : ByteArray := prog_4_method_11_code
def yX2_moverBit : MethodName := ⟨RX2, "moverBit", "(I)I"⟩
abbrev cX2_hasMemberMove : ByteArray := prog_4_method_12_code
def yX2_hasMemberMove : MethodName := ⟨RX2, "hasMemberMove", "(I)Z"⟩
abbrev cX2_mover : ByteArray := prog_4_method_13_code
def yX2_mover : MethodName := ⟨RX2, "mover", "(III)I"⟩
abbrev cX2_noteFault : ByteArray := prog_4_method_14_code
def yX2_noteFault : MethodName := ⟨RX2, "noteFault", "(IIII)V"⟩
abbrev cX2_addMove : ByteArray := prog_4_method_15_code
def yX2_addMove : MethodName := ⟨RX2, "addMove", "(ILProtocolBench$Row;I)V"⟩
abbrev cX2_addState : ByteArray := prog_4_method_16_code
def yX2_addState : MethodName := ⟨RX2, "addState", "(LProtocolBench$Row;III)V"⟩
abbrev cX2_slotOf : ByteArray := prog_4_method_17_code
def yX2_slotOf : MethodName := ⟨RX2, "slotOf", "(LProtocolBench$Row;)I"⟩
abbrev cX2_isSame : ByteArray := prog_4_method_18_code
def yX2_isSame : MethodName := ⟨RX2, "isSame", "(ILProtocolBench$Row;)Z"⟩
def RX3 : String := "ProtocolBench$Knots"
def TX3 : u_T := fun k => match k with
  | 0 => ("ProtocolBench$Knots", "protocol", "LProtocolBench$Protocol;", true)
  | 1 => ("ProtocolBench$Knots", "graph", "LProtocolBench$Graph;", true)
  | 2 => ("ProtocolBench$Knots", "reckoner", "LProtocolBench$Reckoner;", true)
  | 3 => ("ProtocolBench$Knots", "isWithin", "[Z", true)
  | 4 => ("ProtocolBench$Knots", "isStart", "[Z", true)
  | 5 => ("ProtocolBench$Knots", "isTied", "[Z", true)
  | 6 => ("ProtocolBench$Knots", "leadsToKnot", "[Z", true)
  | 7 => ("ProtocolBench$Knots", "entered", "[I", true)
  | 8 => ("ProtocolBench$Knots", "lowest", "[I", true)
  | 9 => ("ProtocolBench$Knots", "nextMove", "[I", true)
  | 10 => ("ProtocolBench$Knots", "closedBy", "[I", true)
  | 11 => ("ProtocolBench$Knots", "path", "[I", true)
  | 12 => ("ProtocolBench$Knots", "open", "[I", true)
  | 13 => ("ProtocolBench$Knots", "pathLength", "I", false)
  | 14 => ("ProtocolBench$Knots", "openCount", "I", false)
  | 15 => ("ProtocolBench$Knots", "enteredCount", "I", false)
  | 16 => ("ProtocolBench$Knots", "everyone", "I", false)
  | 17 => ("ProtocolBench$Knots", "movedWithin", "I", false)
  | 18 => ("ProtocolBench$Knots", "idleSomewhere", "I", false)
  | _ => ("ProtocolBench$Knots", "isFairAsked", "Z", false)
def tyX3 : Nat → FieldType := fun k => match k with
  | 0 => .object "ProtocolBench$Protocol"
  | 1 => .object "ProtocolBench$Graph"
  | 2 => .object "ProtocolBench$Reckoner"
  | 3 => .array .boolean
  | 4 => .array .boolean
  | 5 => .array .boolean
  | 6 => .array .boolean
  | 7 => .array .int
  | 8 => .array .int
  | 9 => .array .int
  | 10 => .array .int
  | 11 => .array .int
  | 12 => .array .int
  | 13 => .int
  | 14 => .int
  | 15 => .int
  | 16 => .int
  | 17 => .int
  | 18 => .int
  | _ => .boolean
theorem nmX3 : ∀ a, a < 20 → ∀ b, b < 20 → a ≠ b → (TX3 a).2.1 ≠ (TX3 b).2.1 := by decide +kernel
theorem tyX3_ok : ∀ k, k < 20 → parseFieldDescriptor (TX3 k).2.2.1 = some (tyX3 k) := by decide +kernel
abbrev cX3_init : ByteArray := prog_5_method_1_code
def yX3_init : MethodName := ⟨RX3, "<init>", "(LProtocolBench$Protocol;LProtocolBench$Graph;LProtocolBench$Reckoner;)V"⟩
abbrev cX3_breakerOfAgain : ByteArray := prog_5_method_2_code
def yX3_breakerOfAgain : MethodName := ⟨RX3, "breakerOfAgain", "(IZ)I"⟩
abbrev cX3_breakerOfFromTo : ByteArray := prog_5_method_3_code
def yX3_breakerOfFromTo : MethodName := ⟨RX3, "breakerOfFromTo", "(IIZ)I"⟩
abbrev cX3_firstOfBoth : ByteArray := prog_5_method_4_code
def yX3_firstOfBoth : MethodName := ⟨RX3, "firstOfBoth", "([Z[Z)I"⟩
abbrev cX3_tie : ByteArray := prog_5_method_5_code
def yX3_tie : MethodName := ⟨RX3, "tie", "(Z)V"⟩
abbrev cX3_walk : ByteArray := prog_5_method_6_code
def yX3_walk : MethodName := ⟨RX3, "walk", "(I)V"⟩
abbrev cX3_enter : ByteArray := prog_5_method_7_code
def yX3_enter : MethodName := ⟨RX3, "enter", "(I)V"⟩
abbrev cX3_follow : ByteArray := prog_5_method_8_code
def yX3_follow : MethodName := ⟨RX3, "follow", "(II)V"⟩
abbrev cX3_handBack : ByteArray := prog_5_method_9_code
def yX3_handBack : MethodName := ⟨RX3, "handBack", "(I)V"⟩
abbrev cX3_close : ByteArray := prog_5_method_10_code
def yX3_close : MethodName := ⟨RX3, "close", "(I)V"⟩
abbrev cX3_weigh : ByteArray := prog_5_method_11_code
def yX3_weigh : MethodName := ⟨RX3, "weigh", "(II)Z"⟩
def RX4 : String := "ProtocolBench$Protocol"
def TX4 : u_T := fun k => match k with
  | 0 => ("ProtocolBench$Protocol", "shared", "LProtocolBench$Variables;", true)
  | 1 => ("ProtocolBench$Protocol", "owns", "LProtocolBench$Variables;", true)
  | 2 => ("ProtocolBench$Protocol", "roles", "LProtocolBench$Roles;", true)
  | 3 => ("ProtocolBench$Protocol", "exprs", "LProtocolBench$Exprs;", true)
  | 4 => ("ProtocolBench$Protocol", "steps", "LProtocolBench$Steps;", true)
  | 5 => ("ProtocolBench$Protocol", "room", "[I", true)
  | 6 => ("ProtocolBench$Protocol", "isLoose", "[Z", true)
  | 7 => ("ProtocolBench$Protocol", "losesLetters", "[Z", true)
  | 8 => ("ProtocolBench$Protocol", "channels", "I", false)
  | _ => ("ProtocolBench$Protocol", "takesAlike", "Z", false)
def tyX4 : Nat → FieldType := fun k => match k with
  | 0 => .object "ProtocolBench$Variables"
  | 1 => .object "ProtocolBench$Variables"
  | 2 => .object "ProtocolBench$Roles"
  | 3 => .object "ProtocolBench$Exprs"
  | 4 => .object "ProtocolBench$Steps"
  | 5 => .array .int
  | 6 => .array .boolean
  | 7 => .array .boolean
  | 8 => .int
  | _ => .boolean
theorem nmX4 : ∀ a, a < 10 → ∀ b, b < 10 → a ≠ b → (TX4 a).2.1 ≠ (TX4 b).2.1 := by decide +kernel
theorem tyX4_ok : ∀ k, k < 10 → parseFieldDescriptor (TX4 k).2.2.1 = some (tyX4 k) := by decide +kernel
abbrev cX4_init : ByteArray := prog_6_method_1_code
def yX4_init : MethodName := ⟨RX4, "<init>", "()V"⟩
abbrev cX4_hasChannel : ByteArray := prog_6_method_2_code
def yX4_hasChannel : MethodName := ⟨RX4, "hasChannel", "(I)Z"⟩
abbrev cX4_addChannel : ByteArray := prog_6_method_3_code
def yX4_addChannel : MethodName := ⟨RX4, "addChannel", "(IZZ)I"⟩
abbrev cX4_knowsParts : ByteArray := prog_6_method_4_code
def yX4_knowsParts : MethodName := ⟨RX4, "knowsParts", "(IIII)Z"⟩
abbrev cX4_knowsAct : ByteArray := prog_6_method_5_code
def yX4_knowsAct : MethodName := ⟨RX4, "knowsAct", "(IIII)Z"⟩
abbrev cX4_isSearchable : ByteArray := prog_6_method_6_code
def yX4_isSearchable : MethodName := ⟨RX4, "isSearchable", "()Z"⟩
abbrev cX4_markUses : ByteArray := prog_6_method_7_code
def yX4_markUses : MethodName := ⟨RX4, "markUses", "()V"⟩
abbrev cX4_setFirst : ByteArray := prog_6_method_8_code
def yX4_setFirst : MethodName := ⟨RX4, "setFirst", "(LProtocolBench$Row;)V"⟩
abbrev cX4_someAtNoEnd : ByteArray := prog_6_method_9_code
def yX4_someAtNoEnd : MethodName := ⟨RX4, "someAtNoEnd", "(LProtocolBench$Row;)Z"⟩
def RX5 : String := "ProtocolBench$Reckoner"
def TX5 : u_T := fun k => match k with
  | 0 => ("ProtocolBench$Reckoner", "protocol", "LProtocolBench$Protocol;", true)
  | 1 => ("ProtocolBench$Reckoner", "graph", "LProtocolBench$Graph;", true)
  | _ => ("ProtocolBench$Reckoner", "row", "LProtocolBench$Row;", true)
def tyX5 : Nat → FieldType := fun k => match k with
  | 0 => .object "ProtocolBench$Protocol"
  | 1 => .object "ProtocolBench$Graph"
  | _ => .object "ProtocolBench$Row"
theorem nmX5 : ∀ a, a < 3 → ∀ b, b < 3 → a ≠ b → (TX5 a).2.1 ≠ (TX5 b).2.1 := by decide +kernel
theorem tyX5_ok : ∀ k, k < 3 → parseFieldDescriptor (TX5 k).2.2.1 = some (tyX5 k) := by decide +kernel
abbrev cX5_init : ByteArray := prog_7_method_1_code
def yX5_init : MethodName := ⟨RX5, "<init>", "(LProtocolBench$Protocol;LProtocolBench$Graph;)V"⟩
abbrev cX5_rowOf : ByteArray := prog_7_method_2_code
def yX5_rowOf : MethodName := ⟨RX5, "rowOf", "(I)LProtocolBench$Row;"⟩
abbrev cX5_askNothing : ByteArray := prog_7_method_3_code
def yX5_askNothing : MethodName := ⟨RX5, "askNothing", "()V"⟩
abbrev cX5_askToo : ByteArray := prog_7_method_4_code
def yX5_askToo : MethodName := ⟨RX5, "askToo", "(I)V"⟩
abbrev cX5_ask : ByteArray := prog_7_method_5_code
def yX5_ask : MethodName := ⟨RX5, "ask", "(I)V"⟩
abbrev cX5_lookAt : ByteArray := prog_7_method_6_code
def yX5_lookAt : MethodName := ⟨RX5, "lookAt", "(I)V"⟩
abbrev cX5_answer : ByteArray := prog_7_method_7_code
def yX5_answer : MethodName := ⟨RX5, "answer", "(I)I"⟩
def RX6 : String := "ProtocolBench$Roles"
def TX6 : u_T := fun k => match k with
  | 0 => ("ProtocolBench$Roles", "members", "[I", true)
  | 1 => ("ProtocolBench$Roles", "told", "I", false)
  | _ => ("ProtocolBench$Roles", "endBits", "[I", true)
def tyX6 : Nat → FieldType := fun k => match k with
  | 0 => .array .int
  | 1 => .int
  | _ => .array .int
theorem nmX6 : ∀ a, a < 3 → ∀ b, b < 3 → a ≠ b → (TX6 a).2.1 ≠ (TX6 b).2.1 := by decide +kernel
theorem tyX6_ok : ∀ k, k < 3 → parseFieldDescriptor (TX6 k).2.2.1 = some (tyX6 k) := by decide +kernel
abbrev cX6_init : ByteArray := prog_8_method_1_code
def yX6_init : MethodName := ⟨RX6, "<init>", "()V"⟩
abbrev cX6_has : ByteArray := prog_8_method_2_code
def yX6_has : MethodName := ⟨RX6, "has", "(I)Z"⟩
abbrev cX6_hasMember : ByteArray := prog_8_method_3_code
def yX6_hasMember : MethodName := ⟨RX6, "hasMember", "(II)Z"⟩
abbrev cX6_add : ByteArray := prog_8_method_4_code
def yX6_add : MethodName := ⟨RX6, "add", "(I)I"⟩
abbrev cX6_isEnd : ByteArray := prog_8_method_5_code
def yX6_isEnd : MethodName := ⟨RX6, "isEnd", "(II)Z"⟩
abbrev cX6_setEnd : ByteArray := prog_8_method_6_code
def yX6_setEnd : MethodName := ⟨RX6, "setEnd", "(II)V"⟩
abbrev cX6_everyoneBits : ByteArray := prog_8_method_7_code
def yX6_everyoneBits : MethodName := ⟨RX6, "everyoneBits", "()I"⟩
def RX7 : String := "ProtocolBench$Row"
def TX7 : u_T := fun k => match k with
  | _ => ("ProtocolBench$Row", "words", "[I", true)
def tyX7 : Nat → FieldType := fun k => match k with
  | _ => .array .int
theorem nmX7 : ∀ a, a < 1 → ∀ b, b < 1 → a ≠ b → (TX7 a).2.1 ≠ (TX7 b).2.1 := by decide +kernel
theorem tyX7_ok : ∀ k, k < 1 → parseFieldDescriptor (TX7 k).2.2.1 = some (tyX7 k) := by decide +kernel
abbrev cX7_init : ByteArray := prog_9_method_1_code
def yX7_init : MethodName := ⟨RX7, "<init>", "()V"⟩
abbrev cX7_clear : ByteArray := prog_9_method_2_code
def yX7_clear : MethodName := ⟨RX7, "clear", "()V"⟩
abbrev cX7_copy : ByteArray := prog_9_method_3_code
def yX7_copy : MethodName := ⟨RX7, "copy", "(LProtocolBench$Row;)V"⟩
abbrev cX7_sharedValue : ByteArray := prog_9_method_4_code
def yX7_sharedValue : MethodName := ⟨RX7, "sharedValue", "(I)I"⟩
abbrev cX7_setShared : ByteArray := prog_9_method_5_code
def yX7_setShared : MethodName := ⟨RX7, "setShared", "(II)V"⟩
abbrev cX7_placeOf : ByteArray := prog_9_method_6_code
def yX7_placeOf : MethodName := ⟨RX7, "placeOf", "(II)I"⟩
abbrev cX7_setPlace : ByteArray := prog_9_method_7_code
def yX7_setPlace : MethodName := ⟨RX7, "setPlace", "(III)V"⟩
abbrev cX7_ownValue : ByteArray := prog_9_method_8_code
def yX7_ownValue : MethodName := ⟨RX7, "ownValue", "(III)I"⟩
abbrev cX7_setOwn : ByteArray := prog_9_method_9_code
def yX7_setOwn : MethodName := ⟨RX7, "setOwn", "(IIII)V"⟩
abbrev cX7_howManyAt : ByteArray := prog_9_method_10_code
def yX7_howManyAt : MethodName := ⟨RX7, "howManyAt", "(III)I"⟩
abbrev cX7_held : ByteArray := prog_9_method_11_code
def yX7_held : MethodName := ⟨RX7, "held", "(I)I"⟩
abbrev cX7_letterAt : ByteArray := prog_9_method_12_code
def yX7_letterAt : MethodName := ⟨RX7, "letterAt", "(II)I"⟩
abbrev cX7_put : ByteArray := prog_9_method_13_code
def yX7_put : MethodName := ⟨RX7, "put", "(II)V"⟩
abbrev cX7_take : ByteArray := prog_9_method_14_code
def yX7_take : MethodName := ⟨RX7, "take", "(II)V"⟩
abbrev cX7_nextUnlike : ByteArray := prog_9_method_15_code
def yX7_nextUnlike : MethodName := ⟨RX7, "nextUnlike", "(II)I"⟩
abbrev cX7_isFirstOfLike : ByteArray := prog_9_method_16_code
def yX7_isFirstOfLike : MethodName := ⟨RX7, "isFirstOfLike", "(II)Z"⟩
abbrev cX7_arrange : ByteArray := prog_9_method_17_code
def yX7_arrange : MethodName := ⟨RX7, "arrange", "(II)V"⟩
def RX8 : String := "ProtocolBench$Searcher"
def TX8 : u_T := fun k => match k with
  | 0 => ("ProtocolBench$Searcher", "protocol", "LProtocolBench$Protocol;", true)
  | 1 => ("ProtocolBench$Searcher", "graph", "LProtocolBench$Graph;", true)
  | 2 => ("ProtocolBench$Searcher", "now", "LProtocolBench$Row;", true)
  | 3 => ("ProtocolBench$Searcher", "then", "LProtocolBench$Row;", true)
  | _ => ("ProtocolBench$Searcher", "picked", "[I", true)
def tyX8 : Nat → FieldType := fun k => match k with
  | 0 => .object "ProtocolBench$Protocol"
  | 1 => .object "ProtocolBench$Graph"
  | 2 => .object "ProtocolBench$Row"
  | 3 => .object "ProtocolBench$Row"
  | _ => .array .int
theorem nmX8 : ∀ a, a < 5 → ∀ b, b < 5 → a ≠ b → (TX8 a).2.1 ≠ (TX8 b).2.1 := by decide +kernel
theorem tyX8_ok : ∀ k, k < 5 → parseFieldDescriptor (TX8 k).2.2.1 = some (tyX8 k) := by decide +kernel
abbrev cX8_init : ByteArray := prog_10_method_1_code
def yX8_init : MethodName := ⟨RX8, "<init>", "(LProtocolBench$Protocol;LProtocolBench$Graph;)V"⟩
abbrev cX8_start : ByteArray := prog_10_method_2_code
def yX8_start : MethodName := ⟨RX8, "start", "()V"⟩
abbrev cX8_goThrough : ByteArray := prog_10_method_3_code
def yX8_goThrough : MethodName := ⟨RX8, "goThrough", "(I)V"⟩
abbrev cX8_goMember : ByteArray := prog_10_method_4_code
def yX8_goMember : MethodName := ⟨RX8, "goMember", "(III)V"⟩
abbrev cX8_canDo : ByteArray := prog_10_method_5_code
def yX8_canDo : MethodName := ⟨RX8, "canDo", "(I)Z"⟩
abbrev cX8_goWays : ByteArray := prog_10_method_6_code
def yX8_goWays : MethodName := ⟨RX8, "goWays", "(III)V"⟩
abbrev cX8_doActs : ByteArray := prog_10_method_7_code
def yX8_doActs : MethodName := ⟨RX8, "doActs", "(III)Z"⟩
abbrev cX8_giveShared : ByteArray := prog_10_method_8_code
def yX8_giveShared : MethodName := ⟨RX8, "giveShared", "(II)Z"⟩
abbrev cX8_giveOwn : ByteArray := prog_10_method_9_code
def yX8_giveOwn : MethodName := ⟨RX8, "giveOwn", "(IIII)Z"⟩
abbrev cX8_send : ByteArray := prog_10_method_10_code
def yX8_send : MethodName := ⟨RX8, "send", "(II)Z"⟩
abbrev cX8_pickNext : ByteArray := prog_10_method_11_code
def yX8_pickNext : MethodName := ⟨RX8, "pickNext", "(I)Z"⟩
abbrev cX8_takeAlike : ByteArray := prog_10_method_12_code
def yX8_takeAlike : MethodName := ⟨RX8, "takeAlike", "(I)V"⟩
abbrev cX8_lose : ByteArray := prog_10_method_13_code
def yX8_lose : MethodName := ⟨RX8, "lose", "(II)V"⟩
def RX9 : String := "ProtocolBench$Steps"
def TX9 : u_T := fun k => match k with
  | 0 => ("ProtocolBench$Steps", "roleOf", "[I", true)
  | 1 => ("ProtocolBench$Steps", "from", "[I", true)
  | 2 => ("ProtocolBench$Steps", "to", "[I", true)
  | 3 => ("ProtocolBench$Steps", "guard", "[I", true)
  | 4 => ("ProtocolBench$Steps", "acts", "[I", true)
  | 5 => ("ProtocolBench$Steps", "actKind", "[I", true)
  | 6 => ("ProtocolBench$Steps", "actA", "[I", true)
  | 7 => ("ProtocolBench$Steps", "actB", "[I", true)
  | _ => ("ProtocolBench$Steps", "told", "I", false)
def tyX9 : Nat → FieldType := fun k => match k with
  | 0 => .array .int
  | 1 => .array .int
  | 2 => .array .int
  | 3 => .array .int
  | 4 => .array .int
  | 5 => .array .int
  | 6 => .array .int
  | 7 => .array .int
  | _ => .int
theorem nmX9 : ∀ a, a < 9 → ∀ b, b < 9 → a ≠ b → (TX9 a).2.1 ≠ (TX9 b).2.1 := by decide +kernel
theorem tyX9_ok : ∀ k, k < 9 → parseFieldDescriptor (TX9 k).2.2.1 = some (tyX9 k) := by decide +kernel
abbrev cX9_init : ByteArray := prog_11_method_1_code
def yX9_init : MethodName := ⟨RX9, "<init>", "()V"⟩
abbrev cX9_has : ByteArray := prog_11_method_2_code
def yX9_has : MethodName := ⟨RX9, "has", "(I)Z"⟩
abbrev cX9_add : ByteArray := prog_11_method_3_code
def yX9_add : MethodName := ⟨RX9, "add", "(IIII)I"⟩
abbrev cX9_hasLetterAct : ByteArray := prog_11_method_4_code
def yX9_hasLetterAct : MethodName := ⟨RX9, "hasLetterAct", "(III)Z"⟩
abbrev cX9_addAct : ByteArray := prog_11_method_5_code
def yX9_addAct : MethodName := ⟨RX9, "addAct", "(IIII)I"⟩
def RX10 : String := "ProtocolBench$Variables"
def TX10 : u_T := fun k => match k with
  | 0 => ("ProtocolBench$Variables", "told", "[I", true)
  | 1 => ("ProtocolBench$Variables", "most", "I", true)
  | 2 => ("ProtocolBench$Variables", "low", "[I", true)
  | 3 => ("ProtocolBench$Variables", "high", "[I", true)
  | _ => ("ProtocolBench$Variables", "first", "[I", true)
def tyX10 : Nat → FieldType := fun k => match k with
  | 0 => .array .int
  | 1 => .int
  | 2 => .array .int
  | 3 => .array .int
  | _ => .array .int
theorem nmX10 : ∀ a, a < 5 → ∀ b, b < 5 → a ≠ b → (TX10 a).2.1 ≠ (TX10 b).2.1 := by decide +kernel
theorem tyX10_ok : ∀ k, k < 5 → parseFieldDescriptor (TX10 k).2.2.1 = some (tyX10 k) := by decide +kernel
abbrev cX10_init : ByteArray := prog_12_method_1_code
def yX10_init : MethodName := ⟨RX10, "<init>", "(II)V"⟩
abbrev cX10_fits : ByteArray := prog_12_method_2_code
def yX10_fits : MethodName := ⟨RX10, "fits", "(III)Z"⟩
abbrev cX10_isFull : ByteArray := prog_12_method_3_code
def yX10_isFull : MethodName := ⟨RX10, "isFull", "(I)Z"⟩
abbrev cX10_has : ByteArray := prog_12_method_4_code
def yX10_has : MethodName := ⟨RX10, "has", "(II)Z"⟩
abbrev cX10_add : ByteArray := prog_12_method_5_code
def yX10_add : MethodName := ⟨RX10, "add", "(IIII)I"⟩
abbrev cX10_allows : ByteArray := prog_12_method_6_code
def yX10_allows : MethodName := ⟨RX10, "allows", "(III)Z"⟩
abbrev cX10_firstOf : ByteArray := prog_12_method_7_code
def yX10_firstOf : MethodName := ⟨RX10, "firstOf", "(II)I"⟩
def RX11 : String := "ProtocolBench"
def TX11 : u_T := fun k => match k with
  | 0 => ("ProtocolBench", "protocol", "LProtocolBench$Protocol;", true)
  | 1 => ("ProtocolBench", "graph", "LProtocolBench$Graph;", true)
  | 2 => ("ProtocolBench", "searcher", "LProtocolBench$Searcher;", true)
  | 3 => ("ProtocolBench", "reckoner", "LProtocolBench$Reckoner;", true)
  | 4 => ("ProtocolBench", "knots", "LProtocolBench$Knots;", true)
  | _ => ("ProtocolBench", "division", "LProtocolBench$Division;", true)
def tyX11 : Nat → FieldType := fun k => match k with
  | 0 => .object "ProtocolBench$Protocol"
  | 1 => .object "ProtocolBench$Graph"
  | 2 => .object "ProtocolBench$Searcher"
  | 3 => .object "ProtocolBench$Reckoner"
  | 4 => .object "ProtocolBench$Knots"
  | _ => .object "ProtocolBench$Division"
theorem nmX11 : ∀ a, a < 6 → ∀ b, b < 6 → a ≠ b → (TX11 a).2.1 ≠ (TX11 b).2.1 := by decide +kernel
theorem tyX11_ok : ∀ k, k < 6 → parseFieldDescriptor (TX11 k).2.2.1 = some (tyX11 k) := by decide +kernel
abbrev cX11_init : ByteArray := prog_1_method_1_code
def yX11_init : MethodName := ⟨RX11, "<init>", "()V"⟩
abbrev cX11_shared : ByteArray := prog_1_method_2_code
def yX11_shared : MethodName := ⟨RX11, "shared", "(III)I"⟩
abbrev cX11_role : ByteArray := prog_1_method_3_code
def yX11_role : MethodName := ⟨RX11, "role", "(I)I"⟩
abbrev cX11_own : ByteArray := prog_1_method_4_code
def yX11_own : MethodName := ⟨RX11, "own", "(IIII)I"⟩
abbrev cX11_end : ByteArray := prog_1_method_5_code
def yX11_end : MethodName := ⟨RX11, "end", "(II)I"⟩
abbrev cX11_channel : ByteArray := prog_1_method_6_code
def yX11_channel : MethodName := ⟨RX11, "channel", "(IZZ)I"⟩
abbrev cX11_expr : ByteArray := prog_1_method_7_code
def yX11_expr : MethodName := ⟨RX11, "expr", "(IIII)I"⟩
abbrev cX11_step : ByteArray := prog_1_method_8_code
def yX11_step : MethodName := ⟨RX11, "step", "(IIII)I"⟩
abbrev cX11_act : ByteArray := prog_1_method_9_code
def yX11_act : MethodName := ⟨RX11, "act", "(IIII)I"⟩
abbrev cX11_alike : ByteArray := prog_1_method_10_code
def yX11_alike : MethodName := ⟨RX11, "alike", "(Z)I"⟩
abbrev cX11_search : ByteArray := prog_1_method_11_code
def yX11_search : MethodName := ⟨RX11, "search", "()I"⟩
abbrev cX11_tells : ByteArray := prog_1_method_12_code
def yX11_tells : MethodName := ⟨RX11, "tells", "(II)I"⟩
abbrev cX11_place : ByteArray := prog_1_method_13_code
def yX11_place : MethodName := ⟨RX11, "place", "(III)I"⟩
abbrev cX11_owned : ByteArray := prog_1_method_14_code
def yX11_owned : MethodName := ⟨RX11, "owned", "(IIII)I"⟩
abbrev cX11_letter : ByteArray := prog_1_method_15_code
def yX11_letter : MethodName := ⟨RX11, "letter", "(III)I"⟩
abbrev cX11_moves : ByteArray := prog_1_method_16_code
def yX11_moves : MethodName := ⟨RX11, "moves", "(I)I"⟩
abbrev cX11_move : ByteArray := prog_1_method_17_code
def yX11_move : MethodName := ⟨RX11, "move", "(III)I"⟩
abbrev cX11_depth : ByteArray := prog_1_method_18_code
def yX11_depth : MethodName := ⟨RX11, "depth", "(I)I"⟩
abbrev cX11_came : ByteArray := prog_1_method_19_code
def yX11_came : MethodName := ⟨RX11, "came", "(II)I"⟩
abbrev cX11_stuck : ByteArray := prog_1_method_20_code
def yX11_stuck : MethodName := ⟨RX11, "stuck", "()I"⟩
abbrev cX11_fault : ByteArray := prog_1_method_21_code
def yX11_fault : MethodName := ⟨RX11, "fault", "(I)I"⟩
abbrev cX11_always : ByteArray := prog_1_method_22_code
def yX11_always : MethodName := ⟨RX11, "always", "(I)I"⟩
abbrev cX11_again : ByteArray := prog_1_method_23_code
def yX11_again : MethodName := ⟨RX11, "again", "(IZ)I"⟩
abbrev cX11_fromTo : ByteArray := prog_1_method_24_code
def yX11_fromTo : MethodName := ⟨RX11, "fromTo", "(IIZ)I"⟩
abbrev cX11_observe : ByteArray := prog_1_method_25_code
def yX11_observe : MethodName := ⟨RX11, "observe", "(I)I"⟩
abbrev cX11_classes : ByteArray := prog_1_method_26_code
def yX11_classes : MethodName := ⟨RX11, "classes", "()I"⟩
abbrev cX11_classOf : ByteArray := prog_1_method_27_code
def yX11_classOf : MethodName := ⟨RX11, "classOf", "(I)I"⟩
abbrev cX11_count : ByteArray := prog_1_method_28_code
def yX11_count : MethodName := ⟨RX11, "count", "(I)I"⟩
abbrev cX11_endSearch : ByteArray := prog_1_method_29_code
def yX11_endSearch : MethodName := ⟨RX11, "endSearch", "()V"⟩
abbrev cX11_refusalOfPlain : ByteArray := prog_1_method_30_code
def yX11_refusalOfPlain : MethodName := ⟨RX11, "refusalOfPlain", "(I)I"⟩
abbrev cX11_isDigit : ByteArray := prog_1_method_31_code
def yX11_isDigit : MethodName := ⟨RX11, "isDigit", "(I)Z"⟩
abbrev cX11_asNumber : ByteArray := prog_1_method_32_code
def yX11_asNumber : MethodName := ⟨RX11, "asNumber", "(Z)I"⟩
def RX12 : String := "ProtocolBenchModel"
def TX12 : u_T := fun k => match k with
  | 0 => ("ProtocolBenchModel", "sharedMany", "I", false)
  | 1 => ("ProtocolBenchModel", "sharedLow", "[I", true)
  | 2 => ("ProtocolBenchModel", "sharedHigh", "[I", true)
  | 3 => ("ProtocolBenchModel", "sharedFirst", "[I", true)
  | 4 => ("ProtocolBenchModel", "roles", "I", false)
  | 5 => ("ProtocolBenchModel", "members", "[I", true)
  | 6 => ("ProtocolBenchModel", "owns", "[I", true)
  | 7 => ("ProtocolBenchModel", "ownLow", "[I", true)
  | 8 => ("ProtocolBenchModel", "ownHigh", "[I", true)
  | 9 => ("ProtocolBenchModel", "ownFirst", "[I", true)
  | 10 => ("ProtocolBenchModel", "isEnd", "[Z", true)
  | 11 => ("ProtocolBenchModel", "channels", "I", false)
  | 12 => ("ProtocolBenchModel", "roomOf", "[I", true)
  | 13 => ("ProtocolBenchModel", "isLoose", "[Z", true)
  | 14 => ("ProtocolBenchModel", "loses", "[Z", true)
  | 15 => ("ProtocolBenchModel", "exprs", "I", false)
  | 16 => ("ProtocolBenchModel", "kindOf", "[I", true)
  | 17 => ("ProtocolBenchModel", "aOf", "[I", true)
  | 18 => ("ProtocolBenchModel", "bOf", "[I", true)
  | 19 => ("ProtocolBenchModel", "cOf", "[I", true)
  | 20 => ("ProtocolBenchModel", "isOwned", "[Z", true)
  | 21 => ("ProtocolBenchModel", "steps", "I", false)
  | 22 => ("ProtocolBenchModel", "stepRole", "[I", true)
  | 23 => ("ProtocolBenchModel", "stepFrom", "[I", true)
  | 24 => ("ProtocolBenchModel", "stepTo", "[I", true)
  | 25 => ("ProtocolBenchModel", "stepGuard", "[I", true)
  | 26 => ("ProtocolBenchModel", "actsOf", "[I", true)
  | 27 => ("ProtocolBenchModel", "actKind", "[I", true)
  | 28 => ("ProtocolBenchModel", "actA", "[I", true)
  | 29 => ("ProtocolBenchModel", "actB", "[I", true)
  | 30 => ("ProtocolBenchModel", "isAlike", "Z", false)
  | 31 => ("ProtocolBenchModel", "observed", "I", false)
  | 32 => ("ProtocolBenchModel", "observedOf", "[I", true)
  | 33 => ("ProtocolBenchModel", "hasSearch", "Z", false)
  | 34 => ("ProtocolBenchModel", "isSpent", "Z", false)
  | 35 => ("ProtocolBenchModel", "states", "I", false)
  | 36 => ("ProtocolBenchModel", "cells", "[I", true)
  | 37 => ("ProtocolBenchModel", "cameFrom", "[I", true)
  | 38 => ("ProtocolBenchModel", "cameBy", "[I", true)
  | 39 => ("ProtocolBenchModel", "depthOf", "[I", true)
  | 40 => ("ProtocolBenchModel", "moves", "I", false)
  | 41 => ("ProtocolBenchModel", "firstMove", "[I", true)
  | 42 => ("ProtocolBenchModel", "moveTo", "[I", true)
  | 43 => ("ProtocolBenchModel", "moveRole", "[I", true)
  | 44 => ("ProtocolBenchModel", "moveMember", "[I", true)
  | 45 => ("ProtocolBenchModel", "moveStep", "[I", true)
  | 46 => ("ProtocolBenchModel", "hasFault", "Z", false)
  | 47 => ("ProtocolBenchModel", "faultState", "I", false)
  | 48 => ("ProtocolBenchModel", "faultRole", "I", false)
  | 49 => ("ProtocolBenchModel", "faultMember", "I", false)
  | 50 => ("ProtocolBenchModel", "faultStep", "I", false)
  | 51 => ("ProtocolBenchModel", "next", "[I", true)
  | 52 => ("ProtocolBenchModel", "told", "[I", true)
  | 53 => ("ProtocolBenchModel", "choice", "[I", true)
  | 54 => ("ProtocolBenchModel", "isUsed", "[Z", true)
  | 55 => ("ProtocolBenchModel", "isIn", "[Z", true)
  | 56 => ("ProtocolBenchModel", "ahead", "[Z", true)
  | 57 => ("ProtocolBenchModel", "behind", "[Z", true)
  | 58 => ("ProtocolBenchModel", "isKnot", "[Z", true)
  | 59 => ("ProtocolBenchModel", "isSeen", "[Z", true)
  | 60 => ("ProtocolBenchModel", "classAt", "[I", true)
  | 61 => ("ProtocolBenchModel", "newClass", "[I", true)
  | 62 => ("ProtocolBenchModel", "signs", "[J", true)
  | _ => ("ProtocolBenchModel", "seen", "[I", true)
def tyX12 : Nat → FieldType := fun k => match k with
  | 0 => .int
  | 1 => .array .int
  | 2 => .array .int
  | 3 => .array .int
  | 4 => .int
  | 5 => .array .int
  | 6 => .array .int
  | 7 => .array .int
  | 8 => .array .int
  | 9 => .array .int
  | 10 => .array .boolean
  | 11 => .int
  | 12 => .array .int
  | 13 => .array .boolean
  | 14 => .array .boolean
  | 15 => .int
  | 16 => .array .int
  | 17 => .array .int
  | 18 => .array .int
  | 19 => .array .int
  | 20 => .array .boolean
  | 21 => .int
  | 22 => .array .int
  | 23 => .array .int
  | 24 => .array .int
  | 25 => .array .int
  | 26 => .array .int
  | 27 => .array .int
  | 28 => .array .int
  | 29 => .array .int
  | 30 => .boolean
  | 31 => .int
  | 32 => .array .int
  | 33 => .boolean
  | 34 => .boolean
  | 35 => .int
  | 36 => .array .int
  | 37 => .array .int
  | 38 => .array .int
  | 39 => .array .int
  | 40 => .int
  | 41 => .array .int
  | 42 => .array .int
  | 43 => .array .int
  | 44 => .array .int
  | 45 => .array .int
  | 46 => .boolean
  | 47 => .int
  | 48 => .int
  | 49 => .int
  | 50 => .int
  | 51 => .array .int
  | 52 => .array .int
  | 53 => .array .int
  | 54 => .array .boolean
  | 55 => .array .boolean
  | 56 => .array .boolean
  | 57 => .array .boolean
  | 58 => .array .boolean
  | 59 => .array .boolean
  | 60 => .array .int
  | 61 => .array .int
  | 62 => .array .long
  | _ => .array .int
theorem nmX12 : ∀ a, a < 64 → ∀ b, b < 64 → a ≠ b → (TX12 a).2.1 ≠ (TX12 b).2.1 := by decide +kernel
theorem tyX12_ok : ∀ k, k < 64 → parseFieldDescriptor (TX12 k).2.2.1 = some (tyX12 k) := by decide +kernel
abbrev cX12_init : ByteArray := prog_14_method_1_code
def yX12_init : MethodName := ⟨RX12, "<init>", "()V"⟩
abbrev cX12_in : ByteArray := prog_14_method_2_code
def yX12_in : MethodName := ⟨RX12, "in", "(III)Z"⟩
abbrev cX12_isValue : ByteArray := prog_14_method_3_code
def yX12_isValue : MethodName := ⟨RX12, "isValue", "(III)Z"⟩
abbrev cX12_over : ByteArray := prog_14_method_4_code
def yX12_over : MethodName := ⟨RX12, "over", "()V"⟩
abbrev cX12_shared : ByteArray := prog_14_method_5_code
def yX12_shared : MethodName := ⟨RX12, "shared", "(III)I"⟩
abbrev cX12_role : ByteArray := prog_14_method_6_code
def yX12_role : MethodName := ⟨RX12, "role", "(I)I"⟩
abbrev cX12_isRole : ByteArray := prog_14_method_7_code
def yX12_isRole : MethodName := ⟨RX12, "isRole", "(I)Z"⟩
abbrev cX12_own : ByteArray := prog_14_method_8_code
def yX12_own : MethodName := ⟨RX12, "own", "(IIII)I"⟩
abbrev cX12_end : ByteArray := prog_14_method_9_code
def yX12_end : MethodName := ⟨RX12, "end", "(II)I"⟩
abbrev cX12_channel : ByteArray := prog_14_method_10_code
def yX12_channel : MethodName := ⟨RX12, "channel", "(IZZ)I"⟩
abbrev cX12_isExpr : ByteArray := prog_14_method_11_code
def yX12_isExpr : MethodName := ⟨RX12, "isExpr", "(I)Z"⟩
abbrev cX12_isChannel : ByteArray := prog_14_method_12_code
def yX12_isChannel : MethodName := ⟨RX12, "isChannel", "(I)Z"⟩
abbrev cX12_isThere : ByteArray := prog_14_method_13_code
def yX12_isThere : MethodName := ⟨RX12, "isThere", "(IIII)Z"⟩
abbrev cX12_expr : ByteArray := prog_14_method_14_code
def yX12_expr : MethodName := ⟨RX12, "expr", "(IIII)I"⟩
abbrev cX12_step : ByteArray := prog_14_method_15_code
def yX12_step : MethodName := ⟨RX12, "step", "(IIII)I"⟩
abbrev cX12_act : ByteArray := prog_14_method_16_code
def yX12_act : MethodName := ⟨RX12, "act", "(IIII)I"⟩
abbrev cX12_alike : ByteArray := prog_14_method_17_code
def yX12_alike : MethodName := ⟨RX12, "alike", "(Z)I"⟩
abbrev cX12_memberAt : ByteArray := prog_14_method_18_code
def yX12_memberAt : MethodName := ⟨RX12, "memberAt", "(II)I"⟩
abbrev cX12_channelAt : ByteArray := prog_14_method_19_code
def yX12_channelAt : MethodName := ⟨RX12, "channelAt", "(I)I"⟩
abbrev cX12_cell : ByteArray := prog_14_method_20_code
def yX12_cell : MethodName := ⟨RX12, "cell", "(II)I"⟩
abbrev cX12_many : ByteArray := prog_14_method_21_code
def yX12_many : MethodName := ⟨RX12, "many", "(III)I"⟩
abbrev cX12_reckon : ByteArray := prog_14_method_22_code
def yX12_reckon : MethodName := ⟨RX12, "reckon", "(III)V"⟩
abbrev cX12_isBehind : ByteArray := prog_14_method_23_code
def yX12_isBehind : MethodName := ⟨RX12, "isBehind", "(III)Z"⟩
abbrev cX12_order : ByteArray := prog_14_method_24_code
def yX12_order : MethodName := ⟨RX12, "order", "()V"⟩
abbrev cX12_placeOf : ByteArray := prog_14_method_25_code
def yX12_placeOf : MethodName := ⟨RX12, "placeOf", "()I"⟩
abbrev cX12_take : ByteArray := prog_14_method_26_code
def yX12_take : MethodName := ⟨RX12, "take", "(I)V"⟩
abbrev cX12_comes : ByteArray := prog_14_method_27_code
def yX12_comes : MethodName := ⟨RX12, "comes", "(IIII)Z"⟩
abbrev cX12_can : ByteArray := prog_14_method_28_code
def yX12_can : MethodName := ⟨RX12, "can", "(III)Z"⟩
abbrev cX12_isFirst : ByteArray := prog_14_method_29_code
def yX12_isFirst : MethodName := ⟨RX12, "isFirst", "(III)Z"⟩
abbrev cX12_nextChoice : ByteArray := prog_14_method_30_code
def yX12_nextChoice : MethodName := ⟨RX12, "nextChoice", "(III)I"⟩
abbrev cX12_hasNextWay : ByteArray := prog_14_method_31_code
def yX12_hasNextWay : MethodName := ⟨RX12, "hasNextWay", "(II)Z"⟩
abbrev cX12_letterGoes : ByteArray := prog_14_method_32_code
def yX12_letterGoes : MethodName := ⟨RX12, "letterGoes", "(II)V"⟩
abbrev cX12_isDone : ByteArray := prog_14_method_33_code
def yX12_isDone : MethodName := ⟨RX12, "isDone", "(III)Z"⟩
abbrev cX12_fault : ByteArray := prog_14_method_34_code
def yX12_fault : MethodName := ⟨RX12, "fault", "(IIII)V"⟩
abbrev cX12_goWays : ByteArray := prog_14_method_35_code
def yX12_goWays : MethodName := ⟨RX12, "goWays", "(III)Z"⟩
abbrev cX12_goThrough : ByteArray := prog_14_method_36_code
def yX12_goThrough : MethodName := ⟨RX12, "goThrough", "(I)Z"⟩
abbrev cX12_use : ByteArray := prog_14_method_37_code
def yX12_use : MethodName := ⟨RX12, "use", "(I)V"⟩
abbrev cX12_isFit : ByteArray := prog_14_method_38_code
def yX12_isFit : MethodName := ⟨RX12, "isFit", "(I)Z"⟩
abbrev cX12_maySearch : ByteArray := prog_14_method_39_code
def yX12_maySearch : MethodName := ⟨RX12, "maySearch", "()Z"⟩
abbrev cX12_search : ByteArray := prog_14_method_40_code
def yX12_search : MethodName := ⟨RX12, "search", "()I"⟩
abbrev cX12_hasStates : ByteArray := prog_14_method_41_code
def yX12_hasStates : MethodName := ⟨RX12, "hasStates", "()Z"⟩
abbrev cX12_isState : ByteArray := prog_14_method_42_code
def yX12_isState : MethodName := ⟨RX12, "isState", "(I)Z"⟩
abbrev cX12_tells : ByteArray := prog_14_method_43_code
def yX12_tells : MethodName := ⟨RX12, "tells", "(II)I"⟩
abbrev cX12_isMember : ByteArray := prog_14_method_44_code
def yX12_isMember : MethodName := ⟨RX12, "isMember", "(II)Z"⟩
abbrev cX12_place : ByteArray := prog_14_method_45_code
def yX12_place : MethodName := ⟨RX12, "place", "(III)I"⟩
abbrev cX12_owned : ByteArray := prog_14_method_46_code
def yX12_owned : MethodName := ⟨RX12, "owned", "(IIII)I"⟩
abbrev cX12_letter : ByteArray := prog_14_method_47_code
def yX12_letter : MethodName := ⟨RX12, "letter", "(III)I"⟩
abbrev cX12_movesOf : ByteArray := prog_14_method_48_code
def yX12_movesOf : MethodName := ⟨RX12, "movesOf", "(I)I"⟩
abbrev cX12_moves : ByteArray := prog_14_method_49_code
def yX12_moves : MethodName := ⟨RX12, "moves", "(I)I"⟩
abbrev cX12_move : ByteArray := prog_14_method_50_code
def yX12_move : MethodName := ⟨RX12, "move", "(III)I"⟩
abbrev cX12_depth : ByteArray := prog_14_method_51_code
def yX12_depth : MethodName := ⟨RX12, "depth", "(I)I"⟩
abbrev cX12_came : ByteArray := prog_14_method_52_code
def yX12_came : MethodName := ⟨RX12, "came", "(II)I"⟩
abbrev cX12_isStuck : ByteArray := prog_14_method_53_code
def yX12_isStuck : MethodName := ⟨RX12, "isStuck", "(I)Z"⟩
abbrev cX12_stuck : ByteArray := prog_14_method_54_code
def yX12_stuck : MethodName := ⟨RX12, "stuck", "()I"⟩
abbrev cX12_fault_ : ByteArray := prog_14_method_55_code
def yX12_fault_ : MethodName := ⟨RX12, "fault", "(I)I"⟩
abbrev cX12_always : ByteArray := prog_14_method_56_code
def yX12_always : MethodName := ⟨RX12, "always", "(I)I"⟩
abbrev cX12_goAhead : ByteArray := prog_14_method_57_code
def yX12_goAhead : MethodName := ⟨RX12, "goAhead", "(I[Z)V"⟩
abbrev cX12_goBack : ByteArray := prog_14_method_58_code
def yX12_goBack : MethodName := ⟨RX12, "goBack", "(I[Z)V"⟩
abbrev cX12_hasTurn : ByteArray := prog_14_method_59_code
def yX12_hasTurn : MethodName := ⟨RX12, "hasTurn", "(II)Z"⟩
abbrev cX12_isFair : ByteArray := prog_14_method_60_code
def yX12_isFair : MethodName := ⟨RX12, "isFair", "()Z"⟩
abbrev cX12_hasMove : ByteArray := prog_14_method_61_code
def yX12_hasMove : MethodName := ⟨RX12, "hasMove", "()Z"⟩
abbrev cX12_findKnots : ByteArray := prog_14_method_62_code
def yX12_findKnots : MethodName := ⟨RX12, "findKnots", "(Z)V"⟩
abbrev cX12_takeWhereNot : ByteArray := prog_14_method_63_code
def yX12_takeWhereNot : MethodName := ⟨RX12, "takeWhereNot", "(I)V"⟩
abbrev cX12_again : ByteArray := prog_14_method_64_code
def yX12_again : MethodName := ⟨RX12, "again", "(IZ)I"⟩
abbrev cX12_fromTo : ByteArray := prog_14_method_65_code
def yX12_fromTo : MethodName := ⟨RX12, "fromTo", "(IIZ)I"⟩
abbrev cX12_observe : ByteArray := prog_14_method_66_code
def yX12_observe : MethodName := ⟨RX12, "observe", "(I)I"⟩
abbrev cX12_isSeenAlike : ByteArray := prog_14_method_67_code
def yX12_isSeenAlike : MethodName := ⟨RX12, "isSeenAlike", "(II)Z"⟩
abbrev cX12_findSigns : ByteArray := prog_14_method_68_code
def yX12_findSigns : MethodName := ⟨RX12, "findSigns", "()V"⟩
abbrev cX12_hasSameSigns : ByteArray := prog_14_method_69_code
def yX12_hasSameSigns : MethodName := ⟨RX12, "hasSameSigns", "(II)Z"⟩
abbrev cX12_divide : ByteArray := prog_14_method_70_code
def yX12_divide : MethodName := ⟨RX12, "divide", "()I"⟩
abbrev cX12_classes : ByteArray := prog_14_method_71_code
def yX12_classes : MethodName := ⟨RX12, "classes", "()I"⟩
abbrev cX12_classOf : ByteArray := prog_14_method_72_code
def yX12_classOf : MethodName := ⟨RX12, "classOf", "(I)I"⟩
abbrev cX12_count : ByteArray := prog_14_method_73_code
def yX12_count : MethodName := ⟨RX12, "count", "(I)I"⟩
def RJ9 : String := "java/lang/Math"
abbrev cJ9_min_7cf53 : ByteArray := prog_15_method_69_code
def yJ9_min_7cf53 : MethodName := ⟨RJ9, "min", "(II)I"⟩
def RJ10 : String := "java/lang/System"
def RJ7 : String := "java/util/Arrays"
abbrev cJ7_rangeCheck_23922 : ByteArray := prog_17_method_30_code
def yJ7_rangeCheck_23922 : MethodName := ⟨RJ7, "rangeCheck", "(III)V"⟩
abbrev cJ7_fill_53178 : ByteArray := prog_17_method_103_code
def yJ7_fill_53178 : MethodName := ⟨RJ7, "fill", "([II)V"⟩
abbrev cJ7_fill_fda19 : ByteArray := prog_17_method_104_code
def yJ7_fill_fda19 : MethodName := ⟨RJ7, "fill", "([IIII)V"⟩
def RL : String := "ProtocolBenchLaw"
abbrev cL_law : ByteArray := code
def yL_law : MethodName := ⟨RL, "law", "([I)Z"⟩
abbrev vwCl : List vw_C := [(RX0, TX0, 12), (RX1, TX1, 10), (RX2, TX2, 16), (RX3, TX3, 20), (RX4, TX4, 10), (RX5, TX5, 3), (RX6, TX6, 3), (RX7, TX7, 1), (RX8, TX8, 5), (RX9, TX9, 9), (RX10, TX10, 5), (RX11, TX11, 6), (RX12, TX12, 64)]
end
section
/-! ===== a heap of whole numbers, the shapes of cells, worlds out of both ===== -/
abbrev hp_H : Type := Nat → Nat → Int32
/-- an object: the number of its kind and its fields (0: a whole number; 1: the cell x; 2: the cell x + what the numbers' cell 999 says; 3: null); or an array: 0 of int, 1 of long, 2 of boolean, and its length -/
def hp_V : Nat := 999
abbrev hp_S : Type := (Nat × List (Nat × Nat × Nat)) ⊕ (Nat × Nat)
def hp_up (h : hp_H) (k j : Nat) (v : Int32) : hp_H := fun a b => if a = k ∧ b = j then v else h a b
def hp_cp (h : hp_H) (k0 k1 sp dp n : Nat) : hp_H := fun a b => if a = k1 then va_cpy (h k0) (h k1) sp dp n b else h a b
def hp_hi (x : Int64) : Int32 := ⟨⟨x.toBitVec.extractLsb' 32 32⟩⟩
def hp_lo (x : Int64) : Int32 := ⟨⟨x.toBitVec.extractLsb' 0 32⟩⟩
def hp_mk (a b : Int32) : Int64 := ⟨⟨a.toBitVec ++ b.toBitVec⟩⟩
theorem hp_mk_hl (x : Int64) : hp_mk (hp_hi x) (hp_lo x) = x := by
  apply Int64.toBitVec_inj.mp
  show (x.toBitVec.extractLsb' 32 32 ++ x.toBitVec.extractLsb' 0 32) = x.toBitVec
  apply BitVec.eq_of_getLsbD_eq
  intro i hi
  rw [BitVec.getLsbD_append]
  by_cases h : i < 32
  · simp [h, BitVec.getLsbD_extractLsb']
  · have h2 : i - 32 < 32 := by omega
    have h3 : 32 + (i - 32) = i := by omega
    simp [h, BitVec.getLsbD_extractLsb', h2, h3]
def hp_upL (h : hp_H) (k j : Nat) (x : Int64) : hp_H := hp_up (hp_up h k (2 * j) (hp_hi x)) k (2 * j + 1) (hp_lo x)
def hp_ldL (h : hp_H) (k j : Nat) : Int64 := hp_mk (h k (2 * j)) (h k (2 * j + 1))
def hp_fv (ad : Nat → Nat) (h : hp_H) (k j : Nat) (d : Nat × Nat × Nat) : Value := match d.1 with
  | 0 => .int (h k j)
  | 1 => .ref (ad d.2.1)
  | 2 => .ref (ad (d.2.1 + (h hp_V d.2.2).toNatClampNeg))
  | _ => .null
def hp_mi {α β : Type} (f : Nat → α → β) : Nat → List α → List β
  | _, [] => []
  | i, x :: xs => f i x :: hp_mi f (i + 1) xs
theorem hp_mi_len {α β : Type} (f : Nat → α → β) (l : List α) : ∀ i : Nat, (hp_mi f i l).length = l.length := by
  induction l with
  | nil => intro i; rfl
  | cons x xs ih => intro i; simp only [hp_mi, List.length_cons, ih]
theorem hp_mi_get {α β : Type} (f : Nat → α → β) (l : List α) : ∀ i j : Nat, (hp_mi f i l)[j]? = l[j]?.map (f (i + j)) := by
  induction l with
  | nil => intro i j; simp [hp_mi]
  | cons x xs ih =>
    intro i j
    cases j with
    | zero => simp [hp_mi]
    | succ j =>
      simp only [hp_mi, List.getElem?_cons_succ, ih]
      rw [show i + 1 + j = i + (j + 1) by omega]
theorem hp_mi_get0 {α β : Type} (f : Nat → α → β) (l : List α) (j : Nat) : (hp_mi f 0 l)[j]? = l[j]?.map (f j) := by rw [hp_mi_get, Nat.zero_add]
def hp_fs (ad : Nat → Nat) (h : hp_H) (k : Nat) (ds : List (Nat × Nat × Nat)) : List Value := hp_mi (fun j d => hp_fv ad h k j d) 0 ds
def hp_A (h : hp_H) (k : Nat) (t : Nat) : (Nat → Int32) ⊕ (Nat → Int64) ⊕ (Nat → UInt32) ⊕ (Nat → UInt64) ⊕ (Nat → Option Nat) := match t with
  | 1 => .inr (.inl (fun i => hp_ldL h k i))
  | _ => .inl (fun i => h k i)
def hp_E (cs : Nat → ClassId) (ad : Nat → Nat) (h : hp_H) (k : Nat) (s : hp_S) : va_E := match s with
  | .inl o => .inr (o.1, hp_fs ad h k o.2)
  | .inr a => .inl (cs a.1, a.2, hp_A h k a.1)
def hp_W (S : List hp_S) (cs : Nat → ClassId) (ad : Nat → Nat) (h : hp_H) : va_W := hp_mi (fun k s => (ad k, hp_E cs ad h k s)) 0 S
abbrev hp_tys (cs : Nat → ClassId) : List (ClassId × FieldType) := [(cs 0, .int), (cs 1, .long), (cs 2, .boolean)]
/-- the addresses are apart, and of a kind -/
def hp_J (S : List hp_S) (ad : Nat → Nat) (A : Nat → Prop) : Prop := (∀ i j : Nat, i < S.length → j < S.length → ad i = ad j → i = j) ∧ ∀ i : Nat, i < S.length → A (ad i)
theorem hp_W_get {S : List hp_S} {cs : Nat → ClassId} {ad : Nat → Nat} {h : hp_H} {k : Nat} {x : hp_S} (hk : S[k]? = some x) : (hp_W S cs ad h)[k]? = some (ad k, hp_E cs ad h k x) := by
  simp [hp_W, hp_mi_get0, hk]
theorem hp_W_of {S : List hp_S} {cs : Nat → ClassId} {ad : Nat → Nat} {h : hp_H} {k : Nat} {q : Nat × va_E} (hk : (hp_W S cs ad h)[k]? = some q) : k < S.length ∧ q.1 = ad k := by
  simp only [hp_W, hp_mi_get0, Option.map_eq_some_iff] at hk
  obtain ⟨x, h1, h2⟩ := hk
  exact ⟨(List.getElem?_eq_some_iff.mp h1).1, by rw [← h2]⟩
theorem hp_J.D {S : List hp_S} {cs : Nat → ClassId} {ad : Nat → Nat} {A : Nat → Prop} (hj : hp_J S ad A) (h : hp_H) : va_D A (hp_W S cs ad h) := by
  refine ⟨fun i j p q hi hj' e => ?_, fun k q hk => ?_⟩
  · obtain ⟨a1, a2⟩ := hp_W_of hi
    obtain ⟨b1, b2⟩ := hp_W_of hj'
    exact hj.1 i j a1 b1 (by rw [← a2, ← b2]; exact e)
  · obtain ⟨a1, a2⟩ := hp_W_of hk
    rw [a2]
    exact hj.2 k a1
theorem hp_fs_get {ad : Nat → Nat} {h : hp_H} {k j : Nat} {ds : List (Nat × Nat × Nat)} {d : Nat × Nat × Nat} (hd : ds[j]? = some d) : (hp_fs ad h k ds)[j]? = some (hp_fv ad h k j d) := by
  simp [hp_fs, hp_mi_get0, hd]
/-- a cell whose numbers are as before is as before -/
theorem hp_E_eq {cs : Nat → ClassId} {ad : Nat → Nat} {h h' : hp_H} {k : Nat} (h1 : h' k = h k) (h2 : h' hp_V = h hp_V) (x : hp_S) : hp_E cs ad h' k x = hp_E cs ad h k x := by
  have e1 : ∀ (j : Nat) (d : Nat × Nat × Nat), hp_fv ad h' k j d = hp_fv ad h k j d := fun j d => by simp only [hp_fv, h1, h2]
  have e2 : ∀ t : Nat, hp_A h' k t = hp_A h k t := fun t => by simp only [hp_A, hp_ldL, h1]
  cases x with
  | inl o => simp only [hp_E, hp_fs, e1]
  | inr a => simp only [hp_E, e2]
theorem hp_W_set {S : List hp_S} {cs : Nat → ClassId} {ad : Nat → Nat} {h h' : hp_H} {k : Nat} {x x' : hp_S} {E : va_E} (hk : S[k]? = some x) (hE : hp_E cs ad h' k x' = E) (ho : ∀ i, i < S.length → i ≠ k → h' i = h i) (h9 : h' hp_V = h hp_V) :
    (hp_W S cs ad h).set k (ad k, E) = hp_W (S.set k x') cs ad h' := by
  have hl := (List.getElem?_eq_some_iff.mp hk).1
  apply List.ext_getElem?
  intro i
  by_cases hi : i = k
  · subst hi
    rw [List.getElem?_set_self (by rw [hp_W, hp_mi_len]; exact hl)]
    simp [hp_W, hp_mi_get0, hl, hE]
  · rw [List.getElem?_set_ne (Ne.symm hi)]
    simp only [hp_W, hp_mi_get0, List.getElem?_set_ne (Ne.symm hi)]
    cases hs : S[i]? with
    | none => simp only [Option.map_none]
    | some y =>
      have hil := (List.getElem?_eq_some_iff.mp hs).1
      simp only [Option.map_some, hp_E_eq (ho i hil hi) h9]
theorem hp_set_self {α : Type} {S : List α} {k : Nat} {x : α} (hk : S[k]? = some x) : S.set k x = S := by
  apply List.ext_getElem?
  intro i
  by_cases hi : i = k
  · subst hi
    rw [List.getElem?_set_self (List.getElem?_eq_some_iff.mp hk).1, hk]
  · rw [List.getElem?_set_ne (Ne.symm hi)]
theorem hp_up_row {h : hp_H} {k j i : Nat} {v : Int32} (hi : i ≠ k) : hp_up h k j v i = h i := by
  funext b
  simp [hp_up, hi]
theorem hp_up_same (h : hp_H) (k j : Nat) (v : Int32) : hp_up h k j v k j = v := by simp [hp_up]
theorem hp_up_slot {h : hp_H} {k j b : Nat} {v : Int32} (hb : b ≠ j) : hp_up h k j v k b = h k b := by simp [hp_up, hb]
theorem hp_up_fn (h : hp_H) (k j : Nat) (v : Int32) : (fun i => hp_up h k j v k i) = upd (fun i => h k i) j v := by
  funext i
  by_cases hi : i = j
  · simp [hp_up, upd, hi]
  · simp [hp_up, upd, hi]
theorem hp_upL_row {h : hp_H} {k j i : Nat} {v : Int64} (hi : i ≠ k) : hp_upL h k j v i = h i := by
  unfold hp_upL
  rw [hp_up_row hi, hp_up_row hi]
theorem hp_upL_same (h : hp_H) (k j : Nat) (x : Int64) : hp_ldL (hp_upL h k j x) k j = x := by
  unfold hp_ldL hp_upL
  rw [hp_up_same, hp_up_slot (by omega), hp_up_same, hp_mk_hl]
theorem hp_upL_slot {h : hp_H} {k j b : Nat} {x : Int64} (hb : b ≠ j) : hp_ldL (hp_upL h k j x) k b = hp_ldL h k b := by
  unfold hp_ldL hp_upL
  rw [hp_up_slot (by omega), hp_up_slot (by omega), hp_up_slot (by omega), hp_up_slot (by omega)]
theorem hp_upL_fn (h : hp_H) (k j : Nat) (x : Int64) : (fun i => hp_ldL (hp_upL h k j x) k i) = vp_updL (fun i => hp_ldL h k i) j x := by
  funext i
  by_cases hi : i = j
  · subst hi
    simp [vp_updL, hp_upL_same]
  · simp [vp_updL, hi, hp_upL_slot hi]
/-- a whole number of a field is put -/
theorem hp_W_put {S : List hp_S} {cs : Nat → ClassId} {ad : Nat → Nat} {h : hp_H} {k j ci : Nat} {ds : List (Nat × Nat × Nat)} {u : Nat × Nat} (v : Int32) (hk : S[k]? = some (.inl (ci, ds))) (hd : ds[j]? = some (0, u)) (h9 : k ≠ hp_V) :
    (hp_W S cs ad h).set k (ad k, .inr (ci, (hp_fs ad h k ds).set j (.int v))) = hp_W S cs ad (hp_up h k j v) := by
  rw [hp_W_set (h' := hp_up h k j v) (x' := .inl (ci, ds)) hk ?_ (fun i _ hi => hp_up_row hi) (hp_up_row (Ne.symm h9)), hp_set_self hk]
  have hl := (List.getElem?_eq_some_iff.mp hd).1
  simp only [hp_E]
  congr 2
  apply List.ext_getElem?
  intro i
  by_cases hi : i = j
  · subst hi
    rw [List.getElem?_set_self (by rw [hp_fs, hp_mi_len]; exact hl), hp_fs_get hd]
    simp [hp_fv, hp_up]
  · rw [List.getElem?_set_ne (Ne.symm hi)]
    simp only [hp_fs, hp_mi_get0]
    cases ds[i]? with
    | none => simp only [Option.map_none]
    | some d => simp only [Option.map_some, hp_fv, hp_up_slot hi, hp_up_row (Ne.symm h9)]
/-- a reference field is put: the shape says where it leads -/
theorem hp_W_ref {S : List hp_S} {cs : Nat → ClassId} {ad : Nat → Nat} {h : hp_H} {k j ci t : Nat} {ds : List (Nat × Nat × Nat)} (hk : S[k]? = some (.inl (ci, ds))) :
    (hp_W S cs ad h).set k (ad k, .inr (ci, (hp_fs ad h k ds).set j (.ref (ad t)))) = hp_W (S.set k (.inl (ci, ds.set j (1, t, 0)))) cs ad h := by
  rw [hp_W_set (h' := h) (x' := .inl (ci, ds.set j (1, t, 0))) hk ?_ (fun i _ hi => rfl) rfl]
  simp only [hp_E]
  congr 2
  apply List.ext_getElem?
  intro i
  simp only [hp_fs, hp_mi_get0, List.getElem?_set, hp_mi_len]
  by_cases hi : j = i
  · subst hi
    by_cases hj : j < ds.length
    · simp [hj, hp_fv]
    · simp [hj]
  · simp [hi]
theorem hp_fv_same {ad : Nat → Nat} {h h' : hp_H} {k j tg u w : Nat} (h1 : h' k = h k) (h2 : tg = 2 → h' hp_V w = h hp_V w) : hp_fv ad h' k j (tg, u, w) = hp_fv ad h k j (tg, u, w) := by
  by_cases e : tg = 2
  · subst e
    simp only [hp_fv, h2 rfl]
  · unfold hp_fv
    simp only [h1]
    split
    · simp only
    · simp only
    · exact absurd rfl e
    · simp only
/-- a reference field of kind 2 is put -/
theorem hp_W_mut {S : List hp_S} {cs : Nat → ClassId} {ad : Nat → Nat} {h : hp_H} {k j ci x y t : Nat} {ds : List (Nat × Nat × Nat)} (hk : S[k]? = some (.inl (ci, ds))) (hd : ds[j]? = some (2, x, y)) (hs : S.length ≤ hp_V) (hx : x ≤ t) (ht : t - x < 2 ^ 31)
    (hu : ∀ (i : Nat) (c : Nat) (es : List (Nat × Nat × Nat)) (b : Nat) (z : Nat), S[i]? = some (.inl (c, es)) → es[b]? = some (2, z, y) → i = k ∧ b = j) :
    (hp_W S cs ad h).set k (ad k, .inr (ci, (hp_fs ad h k ds).set j (.ref (ad t)))) = hp_W S cs ad (hp_up h hp_V y (nI (t - x))) := by
  have hkl := (List.getElem?_eq_some_iff.mp hk).1
  have hl := (List.getElem?_eq_some_iff.mp hd).1
  have row : ∀ i, i < S.length → hp_up h hp_V y (nI (t - x)) i = h i := fun i hi => hp_up_row (by omega)
  apply List.ext_getElem?
  intro i
  by_cases hi : i = k
  · subst hi
    rw [List.getElem?_set_self (by rw [hp_W, hp_mi_len]; exact hkl)]
    simp only [hp_W, hp_mi_get0, hk, Option.map_some, hp_E]
    congr 4
    apply List.ext_getElem?
    intro b
    by_cases hb : b = j
    · subst hb
      rw [List.getElem?_set_self (by rw [hp_fs, hp_mi_len]; exact hl), hp_fs_get hd]
      simp only [hp_fv, hp_up_same, nI_clamp ht]
      congr 3
      omega
    · rw [List.getElem?_set_ne (Ne.symm hb)]
      simp only [hp_fs, hp_mi_get0]
      cases hdb : ds[b]? with
      | none => simp only [Option.map_none]
      | some d =>
        obtain ⟨tg, u, w⟩ := d
        simp only [Option.map_some]
        exact congrArg some (hp_fv_same (row i hkl) (fun e2 => hp_up_slot (fun e => hb (hu i ci ds b u hk (by rw [hdb, e, e2])).2))).symm
  · rw [List.getElem?_set_ne (Ne.symm hi)]
    simp only [hp_W, hp_mi_get0]
    cases hs' : S[i]? with
    | none => simp only [Option.map_none]
    | some z =>
      have hil := (List.getElem?_eq_some_iff.mp hs').1
      simp only [Option.map_some]
      congr 2
      cases z with
      | inr a => simp only [hp_E, hp_A, hp_ldL, row i hil]
      | inl o =>
        obtain ⟨c, es⟩ := o
        simp only [hp_E]
        congr 2
        apply List.ext_getElem?
        intro b
        simp only [hp_fs, hp_mi_get0]
        cases hdb : es[b]? with
        | none => simp only [Option.map_none]
        | some d =>
          obtain ⟨tg, u, w⟩ := d
          simp only [Option.map_some]
          exact congrArg some (hp_fv_same (row i hil) (fun e2 => hp_up_slot (fun e => hi (hu i c es b u hs' (by rw [hdb, e, e2])).1))).symm
theorem hp_W_ast {S : List hp_S} {cs : Nat → ClassId} {ad : Nat → Nat} {h : hp_H} {k t n j : Nat} (v : Int32) (hk : S[k]? = some (.inr (t, n))) (ht : t ≠ 1) (h9 : k ≠ hp_V) :
    (hp_W S cs ad h).set k (ad k, .inl (cs t, n, .inl (upd (fun i => h k i) j v))) = hp_W S cs ad (hp_up h k j v) := by
  rw [hp_W_set (h' := hp_up h k j v) (x' := .inr (t, n)) hk ?_ (fun i _ hi => hp_up_row hi) (hp_up_row (Ne.symm h9)), hp_set_self hk]
  rw [← hp_up_fn]
  simp only [hp_E, hp_A]
theorem hp_W_last {S : List hp_S} {cs : Nat → ClassId} {ad : Nat → Nat} {h : hp_H} {k n j : Nat} (v : Int64) (hk : S[k]? = some (.inr (1, n))) (h9 : k ≠ hp_V) :
    (hp_W S cs ad h).set k (ad k, .inl (cs 1, n, .inr (.inl (vp_updL (fun i => hp_ldL h k i) j v)))) = hp_W S cs ad (hp_upL h k j v) := by
  rw [hp_W_set (h' := hp_upL h k j v) (x' := .inr (1, n)) hk ?_ (fun i _ hi => hp_upL_row hi) (hp_upL_row (Ne.symm h9)), hp_set_self hk]
  rw [← hp_upL_fn]
  simp only [hp_E, hp_A]
theorem hp_W_cp {S : List hp_S} {cs : Nat → ClassId} {ad : Nat → Nat} {h : hp_H} {k0 k t n sp dp m : Nat} (hk : S[k]? = some (.inr (t, n))) (ht : t ≠ 1) (h9 : k ≠ hp_V) :
    (hp_W S cs ad h).set k (ad k, .inl (cs t, n, .inl (va_cpy (fun i => h k0 i) (fun i => h k i) sp dp m))) = hp_W S cs ad (hp_cp h k0 k sp dp m) := by
  rw [hp_W_set (h' := hp_cp h k0 k sp dp m) (x' := .inr (t, n)) hk ?_ (fun i _ hi => by funext b; simp [hp_cp, hi]) (by funext b; simp [hp_cp, Ne.symm h9]), hp_set_self hk]
  simp only [hp_E, hp_A, hp_cp]
  simp
end
section
/-! ===== rows: one an instruction, over such a world ===== -/
/-- the tables' words that a callee's start may name; the links to nest mates -/
def hp_tbl : List Cond := lw_tbl.filter goodWord
def hp_nst : List (String × Nat × MethodName × String) := [("ProtocolBench", 11, ⟨"ProtocolBench$Protocol", "<init>", "()V"⟩, "ProtocolBench"), ("ProtocolBench", 18, ⟨"ProtocolBench$Graph", "<init>", "()V"⟩, "ProtocolBench"), ("ProtocolBench$Protocol", 25, ⟨"ProtocolBench$Roles", "<init>", "()V"⟩, "ProtocolBench"), ("ProtocolBench$Protocol", 41, ⟨"ProtocolBench$Steps", "<init>", "()V"⟩, "ProtocolBench"), ("ProtocolBench$Reckoner", 11, ⟨"ProtocolBench$Row", "<init>", "()V"⟩, "ProtocolBench"), ("ProtocolBench$Searcher", 11, ⟨"ProtocolBench$Row", "<init>", "()V"⟩, "ProtocolBench"), ("ProtocolBench$Searcher", 218, ⟨"ProtocolBench", "isDigit", "(I)Z"⟩, "ProtocolBench")]
def hp_N (U : State) : Prop := ∀ q ∈ hp_nst, va_Nw (.methodLinkNest q.1 q.2.1 q.2.2.1 q.2.2.2) U
theorem hp_in {w : Cond} (h : w ∈ lw_tbl) (g : goodWord w = true) : w ∈ hp_tbl := List.mem_filter.mpr ⟨h, g⟩
/-- the locals: an ordered list, each of one slot -/
def hp_L (ls : Array Slot) (nL : Nat) (lv : List (Nat × Value)) : Prop := lv_has ls nL lv ∧ ∀ q ∈ lv, q.2.category = 1
def hp_ins (i : Nat) (v : Value) : List (Nat × Value) → List (Nat × Value)
  | [] => [(i, v)]
  | q :: t => if q.1 = i then (i, v) :: t else if i < q.1 then (i, v) :: q :: t else q :: hp_ins i v t
def hp_ord : List (Nat × Value) → Bool
  | [] => true
  | q :: t => t.all (fun r => decide (q.1 < r.1)) && hp_ord t
theorem hp_ins_mem {i : Nat} {v : Value} : ∀ {lv : List (Nat × Value)} {q : Nat × Value}, hp_ord lv = true → q ∈ hp_ins i v lv → q = (i, v) ∨ (q ∈ lv ∧ q.1 ≠ i)
  | [], q, _, h => by
    simp only [hp_ins, List.mem_singleton] at h
    exact Or.inl h
  | r :: t, q, ho, h => by
    simp only [hp_ord, Bool.and_eq_true, List.all_eq_true, decide_eq_true_eq] at ho
    unfold hp_ins at h
    split at h
    · next e =>
      rcases List.mem_cons.mp h with h | h
      · exact Or.inl h
      · have := ho.1 q h
        exact Or.inr ⟨List.mem_cons_of_mem _ h, by omega⟩
    · next e =>
      split at h
      · next e2 =>
        rcases List.mem_cons.mp h with h | h
        · exact Or.inl h
        · refine Or.inr ⟨h, ?_⟩
          rcases List.mem_cons.mp h with h3 | h3
          · subst h3; exact e
          · have := ho.1 q h3
            omega
      · rcases List.mem_cons.mp h with h | h
        · exact Or.inr ⟨by rw [h]; exact List.mem_cons_self, by rw [h]; exact e⟩
        · rcases hp_ins_mem ho.2 h with h3 | h3
          · exact Or.inl h3
          · exact Or.inr ⟨List.mem_cons_of_mem _ h3.1, h3.2⟩
theorem hp_L.sto {ls : Array Slot} {nL i : Nat} {v : Value} {lv lv' : List (Nat × Value)} (h : hp_L ls nL lv) (hi : i < nL) (hc : v.category = 1) (ho : hp_ord lv = true) (hl : hp_ins i v lv = lv') :
    ∃ ls', storeLocals ls i v = some ls' ∧ hp_L ls' nL lv' := by
  obtain ⟨ls', h1, h2⟩ := lv_store1 h.1 hi hc
  subst hl
  refine ⟨ls', h1, ⟨h2.1, h2.2.1, fun q hq => ?_⟩, fun q hq => ?_⟩
  · rcases hp_ins_mem ho hq with h3 | ⟨h3, h4⟩
    · exact h2.2.2 q (by rw [h3]; exact List.mem_cons_self)
    · refine h2.2.2 q (List.mem_cons_of_mem _ (List.mem_filter.mpr ⟨h3, ?_⟩))
      have := h.2 q h3
      simp [h4, this]
  · rcases hp_ins_mem ho hq with h3 | ⟨h3, h4⟩
    · rw [h3]; exact hc
    · exact h.2 q h3
def hp_all1 : List Value → Bool
  | [] => true
  | v :: t => (match v with
    | .long _ => false
    | .double _ => false
    | _ => true) && hp_all1 t
theorem hp_cat1 {v : Value} (h : (match v with
    | .long _ => false
    | .double _ => false
    | _ => true) = true) : v.category = 1 := by
  cases v <;> simp_all [Value.category]
theorem hp_all1_args : ∀ (av : List Value) (i : Nat), hp_all1 av = true → ∀ q ∈ lv_args i av, q.2.category = 1
  | [], i, _, q, h => by simp [lv_args] at h
  | v :: t, i, ha, q, h => by
    simp only [hp_all1, Bool.and_eq_true] at ha
    simp only [lv_args] at h
    rcases List.mem_cons.mp h with h | h
    · rw [h]; exact hp_cat1 ha.1
    · exact hp_all1_args t _ ha.2 q h
/-- what a walk stands on -/
def hp_Env (p : Program) (R : Room) (s : State) (m : MethodId) (args : Array Value) (meth : Method) (c : Code) (cs : Nat → ClassId) (D : va_G) (own : String) (cc : ByteArray) (nL : Nat) (ret : Option FieldType) : Prop :=
  p.tables.exec = Jvm.exec ∧ c.code = cc ∧ c.maxLocals = nL ∧ s.vm.findClass own = some m.cls ∧ (∀ w ∈ hp_tbl, w.before args s = true) ∧ va_K D vwCl (hp_tys cs) s ∧ meth.locks = false ∧ meth.sig.returnType = ret ∧ hp_N s
def hp_G (p : Program) (l : Launch) (e : Env) (R : Room) (s : State) (m : MethodId) (args : Array Value) (below : List Frame) (meth : Method) (c : Code) (S : List hp_S) (cs : Nat → ClassId) (ad : Nat → Nat) (A : Nat → Prop) (D : va_G) (nL cells slots : Nat) (Q : State → Prop) (pc : Nat) (lv : List (Nat × Value)) (st : List Value) (h : hp_H) : Prop :=
  ∀ (H : Heap) (locs : List Loc) (ls : Array Slot), va_P D vwCl (hp_W S cs ad h) H → va_S A s.heap H locs → hp_L ls nL lv → W p l e R s m args below meth c H locs cells slots Q (F0 m pc ls st)
section
variable {p : Program} {l : Launch} {e : Env} {R : Room} {s : State} {m : MethodId} {args : Array Value} {below : List Frame} {meth : Method} {c : Code} {S : List hp_S} {cs : Nat → ClassId} {ad : Nat → Nat} {A : Nat → Prop} {D : va_G} {own : String} {cc : ByteArray} {ret : Option FieldType} {nL cells slots : Nat} {Q : State → Prop}
variable {pc : Nat} {lv : List (Nat × Value)} {st : List Value} {h : hp_H}
theorem hp_sub {lv' : List (Nat × Value)} (ks : List Nat) (hl : lv_pick lv ks = lv') (k : hp_G p l e R s m args below meth c S cs ad A D nL cells slots Q pc lv' st h) : hp_G p l e R s m args below meth c S cs ad A D nL cells slots Q pc lv st h := by
  intro H locs ls hP hS hl0
  refine k H locs ls hP hS ⟨lv_sub hl0.1 ks hl, fun q hq => ?_⟩
  rw [← hl] at hq
  obtain ⟨i, -, hi⟩ := List.mem_filterMap.mp hq
  exact hl0.2 q (List.mem_of_getElem? hi)
theorem hp_topi {x : Int32} (k : ∀ y : Int32, y = x → hp_G p l e R s m args below meth c S cs ad A D nL cells slots Q pc lv (.int y :: st) h) : hp_G p l e R s m args below meth c S cs ad A D nL cells slots Q pc lv (.int x :: st) h := k x rfl
theorem hp_iconst (E : hp_Env p R s m args meth c cs D own cc nL ret) {n : Int} (v : Int32) (hd : decode cc pc = .ok (.iconst n, 1)) (hv : Int32.ofInt n = v) (k : hp_G p l e R s m args below meth c S cs ad A D nL cells slots Q (pc + 1) lv (.int v :: st) h) : hp_G p l e R s m args below meth c S cs ad A D nL cells slots Q pc lv st h :=
  fun H locs ls hP hS hl => lv_iconst E.1 E.2.1 hd hv (k H locs ls hP hS hl)
theorem hp_bipush (E : hp_Env p R s m args meth c cs D own cc nL ret) {n : Int} (v : Int32) (hd : decode cc pc = .ok (.bipush n, 2)) (hv : (Int8.ofInt n).toInt32 = v) (k : hp_G p l e R s m args below meth c S cs ad A D nL cells slots Q (pc + 2) lv (.int v :: st) h) : hp_G p l e R s m args below meth c S cs ad A D nL cells slots Q pc lv st h :=
  fun H locs ls hP hS hl => lv_bipush E.1 E.2.1 hd hv (k H locs ls hP hS hl)
theorem hp_sipush (E : hp_Env p R s m args meth c cs D own cc nL ret) {n : Int} (v : Int32) (hd : decode cc pc = .ok (.sipush n, 3)) (hv : (Int16.ofInt n).toInt32 = v) (k : hp_G p l e R s m args below meth c S cs ad A D nL cells slots Q (pc + 3) lv (.int v :: st) h) : hp_G p l e R s m args below meth c S cs ad A D nL cells slots Q pc lv st h :=
  fun H locs ls hP hS hl => lv_sipush E.1 E.2.1 hd hv (k H locs ls hP hS hl)
theorem hp_ldc (E : hp_Env p R s m args meth c cs D own cc nL ret) {i : Nat} (v : Int32) (hm : Cond.constant own i v ∈ hp_tbl) (hd : decode cc pc = .ok (.ldc i, 2)) (k : hp_G p l e R s m args below meth c S cs ad A D nL cells slots Q (pc + 2) lv (.int v :: st) h) : hp_G p l e R s m args below meth c S cs ad A D nL cells slots Q pc lv st h :=
  fun H locs ls hP hS hl => lv_ldc E.1 E.2.1 E.2.2.2.1 (E.2.2.2.2.1 _ hm) hd (k H locs ls hP hS hl)
theorem hp_ldcw (E : hp_Env p R s m args meth c cs D own cc nL ret) {i : Nat} (v : Int32) (hm : Cond.constant own i v ∈ hp_tbl) (hd : decode cc pc = .ok (.ldc_w i, 3)) (k : hp_G p l e R s m args below meth c S cs ad A D nL cells slots Q (pc + 3) lv (.int v :: st) h) : hp_G p l e R s m args below meth c S cs ad A D nL cells slots Q pc lv st h :=
  fun H locs ls hP hS hl => lv_ldcw E.1 E.2.1 E.2.2.2.1 (E.2.2.2.2.1 _ hm) hd (k H locs ls hP hS hl)
theorem hp_lconst (E : hp_Env p R s m args meth c cs D own cc nL ret) {n : Fin 2} (v : Int64) (hd : decode cc pc = .ok (.lconst n, 1)) (hv : Int64.ofNat (n : Nat) = v) (k : hp_G p l e R s m args below meth c S cs ad A D nL cells slots Q (pc + 1) lv (.long v :: st) h) : hp_G p l e R s m args below meth c S cs ad A D nL cells slots Q pc lv st h :=
  fun H locs ls hP hS hl => lv_lconst E.1 E.2.1 hd hv (k H locs ls hP hS hl)
theorem hp_iload_n (E : hp_Env p R s m args meth c cs D own cc nL ret) (w : Nat) {k0 : Fin 4} {i : Nat} {x : Int32} (hd : decode cc pc = .ok (.iload_n k0, 1)) (hi : (k0 : Nat) = i) (hw : lv[w]? = some (i, .int x)) (k : hp_G p l e R s m args below meth c S cs ad A D nL cells slots Q (pc + 1) lv (.int x :: st) h) : hp_G p l e R s m args below meth c S cs ad A D nL cells slots Q pc lv st h :=
  fun H locs ls hP hS hl => lv_iload_n E.1 E.2.1 hd hi (lv_at hl.1 w hw) (k H locs ls hP hS hl)
theorem hp_iload (E : hp_Env p R s m args meth c cs D own cc nL ret) (w : Nat) {i : Nat} {x : Int32} (hd : decode cc pc = .ok (.iload i, 2)) (hw : lv[w]? = some (i, .int x)) (k : hp_G p l e R s m args below meth c S cs ad A D nL cells slots Q (pc + 2) lv (.int x :: st) h) : hp_G p l e R s m args below meth c S cs ad A D nL cells slots Q pc lv st h :=
  fun H locs ls hP hS hl => lv_iload E.1 E.2.1 hd (lv_at hl.1 w hw) (k H locs ls hP hS hl)
theorem hp_aload_n (E : hp_Env p R s m args meth c cs D own cc nL ret) (w : Nat) {k0 : Fin 4} {i : Nat} {x : Nat} (hd : decode cc pc = .ok (.aload_n k0, 1)) (hi : (k0 : Nat) = i) (hw : lv[w]? = some (i, .ref x)) (k : hp_G p l e R s m args below meth c S cs ad A D nL cells slots Q (pc + 1) lv (.ref x :: st) h) : hp_G p l e R s m args below meth c S cs ad A D nL cells slots Q pc lv st h :=
  fun H locs ls hP hS hl => lv_aload_n E.1 E.2.1 hd hi (lv_at hl.1 w hw) (k H locs ls hP hS hl)
theorem hp_aload (E : hp_Env p R s m args meth c cs D own cc nL ret) (w : Nat) {i : Nat} {x : Nat} (hd : decode cc pc = .ok (.aload i, 2)) (hw : lv[w]? = some (i, .ref x)) (k : hp_G p l e R s m args below meth c S cs ad A D nL cells slots Q (pc + 2) lv (.ref x :: st) h) : hp_G p l e R s m args below meth c S cs ad A D nL cells slots Q pc lv st h :=
  fun H locs ls hP hS hl => lv_aload E.1 E.2.1 hd (lv_at hl.1 w hw) (k H locs ls hP hS hl)
theorem hp_istore_n (E : hp_Env p R s m args meth c cs D own cc nL ret) {k0 : Fin 4} {i : Nat} {x : Int32} {lv' : List (Nat × Value)} (hd : decode cc pc = .ok (.istore_n k0, 1)) (hi : (k0 : Nat) = i) (hn : i < nL) (ho : hp_ord lv = true) (hl' : hp_ins i (.int x) lv = lv') (k : hp_G p l e R s m args below meth c S cs ad A D nL cells slots Q (pc + 1) lv' st h) : hp_G p l e R s m args below meth c S cs ad A D nL cells slots Q pc lv (.int x :: st) h := by
  intro H locs ls hP hS hl
  subst hi
  obtain ⟨ls', h1, h2⟩ := hl.sto hn rfl ho hl'
  intro T hT X
  obtain ⟨t, a, b⟩ := k H locs ls' hP hS h2 T hT X
  refine ⟨t, ?_, b⟩
  jvm_step X.here [X.here.top, E.1, E.2.1, hd, h1]
  exact a
theorem hp_istore (E : hp_Env p R s m args meth c cs D own cc nL ret) {i : Nat} {x : Int32} {lv' : List (Nat × Value)} (hd : decode cc pc = .ok (.istore i, 2)) (hn : i < nL) (ho : hp_ord lv = true) (hl' : hp_ins i (.int x) lv = lv') (k : hp_G p l e R s m args below meth c S cs ad A D nL cells slots Q (pc + 2) lv' st h) : hp_G p l e R s m args below meth c S cs ad A D nL cells slots Q pc lv (.int x :: st) h := by
  intro H locs ls hP hS hl
  obtain ⟨ls', h1, h2⟩ := hl.sto hn rfl ho hl'
  intro T hT X
  obtain ⟨t, a, b⟩ := k H locs ls' hP hS h2 T hT X
  refine ⟨t, ?_, b⟩
  jvm_step X.here [X.here.top, E.1, E.2.1, hd, h1]
  exact a
theorem hp_astore_n (E : hp_Env p R s m args meth c cs D own cc nL ret) {k0 : Fin 4} {i : Nat} {x : Nat} {lv' : List (Nat × Value)} (hd : decode cc pc = .ok (.astore_n k0, 1)) (hi : (k0 : Nat) = i) (hn : i < nL) (ho : hp_ord lv = true) (hl' : hp_ins i (.ref x) lv = lv') (k : hp_G p l e R s m args below meth c S cs ad A D nL cells slots Q (pc + 1) lv' st h) : hp_G p l e R s m args below meth c S cs ad A D nL cells slots Q pc lv (.ref x :: st) h := by
  intro H locs ls hP hS hl
  subst hi
  obtain ⟨ls', h1, h2⟩ := hl.sto hn rfl ho hl'
  intro T hT X
  obtain ⟨t, a, b⟩ := k H locs ls' hP hS h2 T hT X
  refine ⟨t, ?_, b⟩
  jvm_step X.here [X.here.top, E.1, E.2.1, hd, h1]
  exact ⟨rfl, a⟩
theorem hp_astore (E : hp_Env p R s m args meth c cs D own cc nL ret) {i : Nat} {x : Nat} {lv' : List (Nat × Value)} (hd : decode cc pc = .ok (.astore i, 2)) (hn : i < nL) (ho : hp_ord lv = true) (hl' : hp_ins i (.ref x) lv = lv') (k : hp_G p l e R s m args below meth c S cs ad A D nL cells slots Q (pc + 2) lv' st h) : hp_G p l e R s m args below meth c S cs ad A D nL cells slots Q pc lv (.ref x :: st) h := by
  intro H locs ls hP hS hl
  obtain ⟨ls', h1, h2⟩ := hl.sto hn rfl ho hl'
  intro T hT X
  obtain ⟨t, a, b⟩ := k H locs ls' hP hS h2 T hT X
  refine ⟨t, ?_, b⟩
  jvm_step X.here [X.here.top, E.1, E.2.1, hd, h1]
  exact ⟨rfl, a⟩
theorem hp_iinc (E : hp_Env p R s m args meth c cs D own cc nL ret) (w : Nat) (v : Int32) {i : Nat} {n : Int} {x : Int32} {lv' : List (Nat × Value)} (hd : decode cc pc = .ok (.iinc i n, 3)) (hw : lv[w]? = some (i, .int x)) (hv : x + Int32.ofInt n = v) (hn : i < nL) (ho : hp_ord lv = true) (hl' : hp_ins i (.int v) lv = lv') (k : hp_G p l e R s m args below meth c S cs ad A D nL cells slots Q (pc + 3) lv' st h) : hp_G p l e R s m args below meth c S cs ad A D nL cells slots Q pc lv st h := by
  intro H locs ls hP hS hl
  obtain ⟨ls', h1, h2⟩ := hl.sto hn rfl ho hl'
  have hi := lv_at hl.1 w hw
  subst hv
  intro T hT X
  obtain ⟨t, a, b⟩ := k H locs ls' hP hS h2 T hT X
  refine ⟨t, ?_, b⟩
  jvm_step X.here [X.here.top, E.1, E.2.1, hd, hi, h1]
  exact a
def hp_ushr (x y : Int32) : Int32 := (x.toUInt32 >>> (y.toUInt32 &&& Int32.toUInt32 31)).toInt32
def hp_shl (x y : Int32) : Int32 := x <<< (y &&& 31)
def hp_rem (x y : Int32) : Int32 := x - x / y * y
def hp_shlL (x : Int64) (y : Int32) : Int64 := x <<< (y.toInt64 &&& 63)
theorem hp_iadd (E : hp_Env p R s m args meth c cs D own cc nL ret) {x y : Int32} (hd : decode cc pc = .ok (.iadd, 1)) (k : hp_G p l e R s m args below meth c S cs ad A D nL cells slots Q (pc + 1) lv (.int (x + y) :: st) h) : hp_G p l e R s m args below meth c S cs ad A D nL cells slots Q (pc) lv (.int y :: .int x :: st) h :=
  fun H locs ls hP hS hl => lv_iadd E.1 E.2.1 hd (k H locs ls hP hS hl)
theorem hp_isub (E : hp_Env p R s m args meth c cs D own cc nL ret) {x y : Int32} (hd : decode cc pc = .ok (.isub, 1)) (k : hp_G p l e R s m args below meth c S cs ad A D nL cells slots Q (pc + 1) lv (.int (x - y) :: st) h) : hp_G p l e R s m args below meth c S cs ad A D nL cells slots Q (pc) lv (.int y :: .int x :: st) h :=
  fun H locs ls hP hS hl => lv_isub E.1 E.2.1 hd (k H locs ls hP hS hl)
theorem hp_imul (E : hp_Env p R s m args meth c cs D own cc nL ret) {x y : Int32} (hd : decode cc pc = .ok (.imul, 1)) (k : hp_G p l e R s m args below meth c S cs ad A D nL cells slots Q (pc + 1) lv (.int (x * y) :: st) h) : hp_G p l e R s m args below meth c S cs ad A D nL cells slots Q (pc) lv (.int y :: .int x :: st) h :=
  fun H locs ls hP hS hl => lv_imul E.1 E.2.1 hd (k H locs ls hP hS hl)
theorem hp_iand (E : hp_Env p R s m args meth c cs D own cc nL ret) {x y : Int32} (hd : decode cc pc = .ok (.iand, 1)) (k : hp_G p l e R s m args below meth c S cs ad A D nL cells slots Q (pc + 1) lv (.int (x &&& y) :: st) h) : hp_G p l e R s m args below meth c S cs ad A D nL cells slots Q (pc) lv (.int y :: .int x :: st) h :=
  fun H locs ls hP hS hl => lv_iand E.1 E.2.1 hd (k H locs ls hP hS hl)
theorem hp_ior (E : hp_Env p R s m args meth c cs D own cc nL ret) {x y : Int32} (hd : decode cc pc = .ok (.ior, 1)) (k : hp_G p l e R s m args below meth c S cs ad A D nL cells slots Q (pc + 1) lv (.int (x ||| y) :: st) h) : hp_G p l e R s m args below meth c S cs ad A D nL cells slots Q (pc) lv (.int y :: .int x :: st) h :=
  fun H locs ls hP hS hl => lv_ior E.1 E.2.1 hd (k H locs ls hP hS hl)
theorem hp_ixor (E : hp_Env p R s m args meth c cs D own cc nL ret) {x y : Int32} (hd : decode cc pc = .ok (.ixor, 1)) (k : hp_G p l e R s m args below meth c S cs ad A D nL cells slots Q (pc + 1) lv (.int (x ^^^ y) :: st) h) : hp_G p l e R s m args below meth c S cs ad A D nL cells slots Q (pc) lv (.int y :: .int x :: st) h :=
  fun H locs ls hP hS hl => lv_ixor E.1 E.2.1 hd (k H locs ls hP hS hl)
theorem hp_ishl (E : hp_Env p R s m args meth c cs D own cc nL ret) {x y : Int32} (hd : decode cc pc = .ok (.ishl, 1)) (k : hp_G p l e R s m args below meth c S cs ad A D nL cells slots Q (pc + 1) lv (.int (hp_shl x y) :: st) h) : hp_G p l e R s m args below meth c S cs ad A D nL cells slots Q (pc) lv (.int y :: .int x :: st) h :=
  fun H locs ls hP hS hl => lv_ishl E.1 E.2.1 hd (k H locs ls hP hS hl)
theorem hp_idiv (E : hp_Env p R s m args meth c cs D own cc nL ret) {x y : Int32} (hy : ¬ y = 0) (hd : decode cc pc = .ok (.idiv, 1)) (k : hp_G p l e R s m args below meth c S cs ad A D nL cells slots Q (pc + 1) lv (.int (x / y) :: st) h) : hp_G p l e R s m args below meth c S cs ad A D nL cells slots Q (pc) lv (.int y :: .int x :: st) h :=
  fun H locs ls hP hS hl => lv_idiv E.1 E.2.1 hd hy (k H locs ls hP hS hl)
theorem hp_irem (E : hp_Env p R s m args meth c cs D own cc nL ret) {x y : Int32} (hy : ¬ y = 0) (hd : decode cc pc = .ok (.irem, 1)) (k : hp_G p l e R s m args below meth c S cs ad A D nL cells slots Q (pc + 1) lv (.int (hp_rem x y) :: st) h) : hp_G p l e R s m args below meth c S cs ad A D nL cells slots Q (pc) lv (.int y :: .int x :: st) h :=
  fun H locs ls hP hS hl => lv_irem E.1 E.2.1 hd hy (k H locs ls hP hS hl)
theorem hp_iushr (E : hp_Env p R s m args meth c cs D own cc nL ret) {x y : Int32} (hd : decode cc pc = .ok (.iushr, 1)) (k : hp_G p l e R s m args below meth c S cs ad A D nL cells slots Q (pc + 1) lv (.int (hp_ushr x y) :: st) h) : hp_G p l e R s m args below meth c S cs ad A D nL cells slots Q (pc) lv (.int y :: .int x :: st) h :=
  fun H locs ls hP hS hl => lv_iushr E.1 E.2.1 hd rfl (k H locs ls hP hS hl)
theorem hp_lshl (E : hp_Env p R s m args meth c cs D own cc nL ret) {x : Int64} {y : Int32} (hd : decode cc pc = .ok (.lshl, 1)) (k : hp_G p l e R s m args below meth c S cs ad A D nL cells slots Q (pc + 1) lv (.long (hp_shlL x y) :: st) h) : hp_G p l e R s m args below meth c S cs ad A D nL cells slots Q (pc) lv (.int y :: .long x :: st) h :=
  fun H locs ls hP hS hl => lv_lshl E.1 E.2.1 hd rfl (k H locs ls hP hS hl)
theorem hp_lor (E : hp_Env p R s m args meth c cs D own cc nL ret) {x y : Int64} (hd : decode cc pc = .ok (.lor, 1)) (k : hp_G p l e R s m args below meth c S cs ad A D nL cells slots Q (pc + 1) lv (.long (x ||| y) :: st) h) : hp_G p l e R s m args below meth c S cs ad A D nL cells slots Q (pc) lv (.long y :: .long x :: st) h :=
  fun H locs ls hP hS hl => lv_lor E.1 E.2.1 hd (k H locs ls hP hS hl)
theorem hp_lcmp (E : hp_Env p R s m args meth c cs D own cc nL ret) {x y : Int64} (hd : decode cc pc = .ok (.lcmp, 1)) (k : hp_G p l e R s m args below meth c S cs ad A D nL cells slots Q (pc + 1) lv (.int (lg_cmp x y) :: st) h) : hp_G p l e R s m args below meth c S cs ad A D nL cells slots Q (pc) lv (.long y :: .long x :: st) h :=
  fun H locs ls hP hS hl => W.lcmp E.1 E.2.1 hd (k H locs ls hP hS hl)
theorem hp_dup (E : hp_Env p R s m args meth c cs D own cc nL ret) {va : Value} (h1 : va.category = 1) (hd : decode cc pc = .ok (.dup, 1)) (k : hp_G p l e R s m args below meth c S cs ad A D nL cells slots Q (pc + 1) lv (va :: va :: st) h) : hp_G p l e R s m args below meth c S cs ad A D nL cells slots Q (pc) lv (va :: st) h :=
  fun H locs ls hP hS hl => lv_dup E.1 E.2.1 hd h1 (k H locs ls hP hS hl)
theorem hp_pop (E : hp_Env p R s m args meth c cs D own cc nL ret) {va : Value} (h1 : va.category = 1) (hd : decode cc pc = .ok (.pop, 1)) (k : hp_G p l e R s m args below meth c S cs ad A D nL cells slots Q (pc + 1) lv (st) h) : hp_G p l e R s m args below meth c S cs ad A D nL cells slots Q (pc) lv (va :: st) h :=
  fun H locs ls hP hS hl => lv_pop E.1 E.2.1 hd h1 (k H locs ls hP hS hl)
theorem hp_dup_x1 (E : hp_Env p R s m args meth c cs D own cc nL ret) {va vb : Value} (h1 : va.category = 1) (h2 : vb.category = 1) (hd : decode cc pc = .ok (.dup_x1, 1)) (k : hp_G p l e R s m args below meth c S cs ad A D nL cells slots Q (pc + 1) lv (va :: vb :: va :: st) h) : hp_G p l e R s m args below meth c S cs ad A D nL cells slots Q (pc) lv (va :: vb :: st) h :=
  fun H locs ls hP hS hl => lv_dup_x1 E.1 E.2.1 hd h1 h2 (k H locs ls hP hS hl)
theorem hp_dup_x2 (E : hp_Env p R s m args meth c cs D own cc nL ret) {va vb vd : Value} (h1 : va.category = 1) (h2 : vb.category = 1) (h3 : vd.category = 1) (hd : decode cc pc = .ok (.dup_x2, 1)) (k : hp_G p l e R s m args below meth c S cs ad A D nL cells slots Q (pc + 1) lv (va :: vb :: vd :: va :: st) h) : hp_G p l e R s m args below meth c S cs ad A D nL cells slots Q (pc) lv (va :: vb :: vd :: st) h :=
  fun H locs ls hP hS hl => lv_dup_x2 E.1 E.2.1 hd h1 h2 h3 (k H locs ls hP hS hl)
theorem hp_dup2 (E : hp_Env p R s m args meth c cs D own cc nL ret) {va vb : Value} (h1 : va.category = 1) (h2 : vb.category = 1) (hd : decode cc pc = .ok (.dup2, 1)) (k : hp_G p l e R s m args below meth c S cs ad A D nL cells slots Q (pc + 1) lv (va :: vb :: va :: vb :: st) h) : hp_G p l e R s m args below meth c S cs ad A D nL cells slots Q (pc) lv (va :: vb :: st) h :=
  fun H locs ls hP hS hl => lv_dup2_11 E.1 E.2.1 hd h1 h2 (k H locs ls hP hS hl)
theorem hp_if_eq (E : hp_Env p R s m args meth c cs D own cc nL ret) {x : Int32} {off : Int} (tgt : Nat) (hd : decode cc pc = .ok (.ifCond .eq off, 3)) (ht : (pc : Int) + off = (tgt : Int)) (kt : x = 0 → hp_G p l e R s m args below meth c S cs ad A D nL cells slots Q (tgt) lv (st) h) (kf : ¬ (x = 0) → hp_G p l e R s m args below meth c S cs ad A D nL cells slots Q (pc + 3) lv (st) h) : hp_G p l e R s m args below meth c S cs ad A D nL cells slots Q (pc) lv (.int x :: st) h :=
  fun H locs ls hP hS hl => lv_if_eq E.1 E.2.1 hd ht (fun q => kt q H locs ls hP hS hl) (fun q => kf q H locs ls hP hS hl)
theorem hp_icmp_eq (E : hp_Env p R s m args meth c cs D own cc nL ret) {x y : Int32} {off : Int} (tgt : Nat) (hd : decode cc pc = .ok (.if_icmp .eq off, 3)) (ht : (pc : Int) + off = (tgt : Int)) (kt : x = y → hp_G p l e R s m args below meth c S cs ad A D nL cells slots Q (tgt) lv (st) h) (kf : ¬ (x = y) → hp_G p l e R s m args below meth c S cs ad A D nL cells slots Q (pc + 3) lv (st) h) : hp_G p l e R s m args below meth c S cs ad A D nL cells slots Q (pc) lv (.int y :: .int x :: st) h :=
  fun H locs ls hP hS hl => lv_icmp_eq E.1 E.2.1 hd ht (fun q => kt q H locs ls hP hS hl) (fun q => kf q H locs ls hP hS hl)
theorem hp_if_ne (E : hp_Env p R s m args meth c cs D own cc nL ret) {x : Int32} {off : Int} (tgt : Nat) (hd : decode cc pc = .ok (.ifCond .ne off, 3)) (ht : (pc : Int) + off = (tgt : Int)) (kt : ¬ x = 0 → hp_G p l e R s m args below meth c S cs ad A D nL cells slots Q (tgt) lv (st) h) (kf : x = 0 → hp_G p l e R s m args below meth c S cs ad A D nL cells slots Q (pc + 3) lv (st) h) : hp_G p l e R s m args below meth c S cs ad A D nL cells slots Q (pc) lv (.int x :: st) h :=
  fun H locs ls hP hS hl => lv_if_ne E.1 E.2.1 hd ht (fun q => kt q H locs ls hP hS hl) (fun q => kf q H locs ls hP hS hl)
theorem hp_icmp_ne (E : hp_Env p R s m args meth c cs D own cc nL ret) {x y : Int32} {off : Int} (tgt : Nat) (hd : decode cc pc = .ok (.if_icmp .ne off, 3)) (ht : (pc : Int) + off = (tgt : Int)) (kt : ¬ x = y → hp_G p l e R s m args below meth c S cs ad A D nL cells slots Q (tgt) lv (st) h) (kf : x = y → hp_G p l e R s m args below meth c S cs ad A D nL cells slots Q (pc + 3) lv (st) h) : hp_G p l e R s m args below meth c S cs ad A D nL cells slots Q (pc) lv (.int y :: .int x :: st) h :=
  fun H locs ls hP hS hl => lv_icmp_ne E.1 E.2.1 hd ht (fun q => kt q H locs ls hP hS hl) (fun q => kf q H locs ls hP hS hl)
theorem hp_if_lt (E : hp_Env p R s m args meth c cs D own cc nL ret) {x : Int32} {off : Int} (tgt : Nat) (hd : decode cc pc = .ok (.ifCond .lt off, 3)) (ht : (pc : Int) + off = (tgt : Int)) (kt : x < 0 → hp_G p l e R s m args below meth c S cs ad A D nL cells slots Q (tgt) lv (st) h) (kf : ¬ (x < 0) → hp_G p l e R s m args below meth c S cs ad A D nL cells slots Q (pc + 3) lv (st) h) : hp_G p l e R s m args below meth c S cs ad A D nL cells slots Q (pc) lv (.int x :: st) h :=
  fun H locs ls hP hS hl => lv_if_lt E.1 E.2.1 hd ht (fun q => kt q H locs ls hP hS hl) (fun q => kf q H locs ls hP hS hl)
theorem hp_icmp_lt (E : hp_Env p R s m args meth c cs D own cc nL ret) {x y : Int32} {off : Int} (tgt : Nat) (hd : decode cc pc = .ok (.if_icmp .lt off, 3)) (ht : (pc : Int) + off = (tgt : Int)) (kt : x < y → hp_G p l e R s m args below meth c S cs ad A D nL cells slots Q (tgt) lv (st) h) (kf : ¬ (x < y) → hp_G p l e R s m args below meth c S cs ad A D nL cells slots Q (pc + 3) lv (st) h) : hp_G p l e R s m args below meth c S cs ad A D nL cells slots Q (pc) lv (.int y :: .int x :: st) h :=
  fun H locs ls hP hS hl => lv_icmp_lt E.1 E.2.1 hd ht (fun q => kt q H locs ls hP hS hl) (fun q => kf q H locs ls hP hS hl)
theorem hp_if_ge (E : hp_Env p R s m args meth c cs D own cc nL ret) {x : Int32} {off : Int} (tgt : Nat) (hd : decode cc pc = .ok (.ifCond .ge off, 3)) (ht : (pc : Int) + off = (tgt : Int)) (kt : 0 ≤ x → hp_G p l e R s m args below meth c S cs ad A D nL cells slots Q (tgt) lv (st) h) (kf : ¬ (0 ≤ x) → hp_G p l e R s m args below meth c S cs ad A D nL cells slots Q (pc + 3) lv (st) h) : hp_G p l e R s m args below meth c S cs ad A D nL cells slots Q (pc) lv (.int x :: st) h :=
  fun H locs ls hP hS hl => lv_if_ge E.1 E.2.1 hd ht (fun q => kt q H locs ls hP hS hl) (fun q => kf q H locs ls hP hS hl)
theorem hp_icmp_ge (E : hp_Env p R s m args meth c cs D own cc nL ret) {x y : Int32} {off : Int} (tgt : Nat) (hd : decode cc pc = .ok (.if_icmp .ge off, 3)) (ht : (pc : Int) + off = (tgt : Int)) (kt : y ≤ x → hp_G p l e R s m args below meth c S cs ad A D nL cells slots Q (tgt) lv (st) h) (kf : ¬ (y ≤ x) → hp_G p l e R s m args below meth c S cs ad A D nL cells slots Q (pc + 3) lv (st) h) : hp_G p l e R s m args below meth c S cs ad A D nL cells slots Q (pc) lv (.int y :: .int x :: st) h :=
  fun H locs ls hP hS hl => lv_icmp_ge E.1 E.2.1 hd ht (fun q => kt q H locs ls hP hS hl) (fun q => kf q H locs ls hP hS hl)
theorem hp_if_gt (E : hp_Env p R s m args meth c cs D own cc nL ret) {x : Int32} {off : Int} (tgt : Nat) (hd : decode cc pc = .ok (.ifCond .gt off, 3)) (ht : (pc : Int) + off = (tgt : Int)) (kt : 0 < x → hp_G p l e R s m args below meth c S cs ad A D nL cells slots Q (tgt) lv (st) h) (kf : ¬ (0 < x) → hp_G p l e R s m args below meth c S cs ad A D nL cells slots Q (pc + 3) lv (st) h) : hp_G p l e R s m args below meth c S cs ad A D nL cells slots Q (pc) lv (.int x :: st) h :=
  fun H locs ls hP hS hl => lv_if_gt E.1 E.2.1 hd ht (fun q => kt q H locs ls hP hS hl) (fun q => kf q H locs ls hP hS hl)
theorem hp_icmp_gt (E : hp_Env p R s m args meth c cs D own cc nL ret) {x y : Int32} {off : Int} (tgt : Nat) (hd : decode cc pc = .ok (.if_icmp .gt off, 3)) (ht : (pc : Int) + off = (tgt : Int)) (kt : y < x → hp_G p l e R s m args below meth c S cs ad A D nL cells slots Q (tgt) lv (st) h) (kf : ¬ (y < x) → hp_G p l e R s m args below meth c S cs ad A D nL cells slots Q (pc + 3) lv (st) h) : hp_G p l e R s m args below meth c S cs ad A D nL cells slots Q (pc) lv (.int y :: .int x :: st) h :=
  fun H locs ls hP hS hl => lv_icmp_gt E.1 E.2.1 hd ht (fun q => kt q H locs ls hP hS hl) (fun q => kf q H locs ls hP hS hl)
theorem hp_if_le (E : hp_Env p R s m args meth c cs D own cc nL ret) {x : Int32} {off : Int} (tgt : Nat) (hd : decode cc pc = .ok (.ifCond .le off, 3)) (ht : (pc : Int) + off = (tgt : Int)) (kt : x ≤ 0 → hp_G p l e R s m args below meth c S cs ad A D nL cells slots Q (tgt) lv (st) h) (kf : ¬ (x ≤ 0) → hp_G p l e R s m args below meth c S cs ad A D nL cells slots Q (pc + 3) lv (st) h) : hp_G p l e R s m args below meth c S cs ad A D nL cells slots Q (pc) lv (.int x :: st) h :=
  fun H locs ls hP hS hl => lv_if_le E.1 E.2.1 hd ht (fun q => kt q H locs ls hP hS hl) (fun q => kf q H locs ls hP hS hl)
theorem hp_icmp_le (E : hp_Env p R s m args meth c cs D own cc nL ret) {x y : Int32} {off : Int} (tgt : Nat) (hd : decode cc pc = .ok (.if_icmp .le off, 3)) (ht : (pc : Int) + off = (tgt : Int)) (kt : x ≤ y → hp_G p l e R s m args below meth c S cs ad A D nL cells slots Q (tgt) lv (st) h) (kf : ¬ (x ≤ y) → hp_G p l e R s m args below meth c S cs ad A D nL cells slots Q (pc + 3) lv (st) h) : hp_G p l e R s m args below meth c S cs ad A D nL cells slots Q (pc) lv (.int y :: .int x :: st) h :=
  fun H locs ls hP hS hl => lv_icmp_le E.1 E.2.1 hd ht (fun q => kt q H locs ls hP hS hl) (fun q => kf q H locs ls hP hS hl)
theorem hp_goto (E : hp_Env p R s m args meth c cs D own cc nL ret) {off : Int} (tgt : Nat) (hd : decode cc pc = .ok (.goto off, 3)) (ht : (pc : Int) + off = (tgt : Int)) (k : hp_G p l e R s m args below meth c S cs ad A D nL cells slots Q (tgt) lv (st) h) : hp_G p l e R s m args below meth c S cs ad A D nL cells slots Q (pc) lv (st) h :=
  fun H locs ls hP hS hl => lv_goto E.1 E.2.1 hd ht (k H locs ls hP hS hl)
theorem hp_tswV (E : hp_Env p R s m args meth c cs D own cc nL ret) {x : Int32} (v : Int32) {dflt lo hi off : Int} {offs : Array Int} {len : Nat} (tgt : Nat) (hd : decode cc pc = .ok (.tableswitch dflt lo hi offs, len)) (hx : x = v) (h1 : ¬ v.toInt < lo) (h2 : ¬ hi < v.toInt) (ho : offs[(v.toInt - lo).toNat]? = some off) (ht : (pc : Int) + off = (tgt : Int)) (k : hp_G p l e R s m args below meth c S cs ad A D nL cells slots Q (tgt) lv (st) h) : hp_G p l e R s m args below meth c S cs ad A D nL cells slots Q (pc) lv (.int x :: st) h :=
  fun H locs ls hP hS hl => lv_tableIn E.1 E.2.1 hd (by rw [hx]; exact h1) (by rw [hx]; exact h2) (by rw [hx]; exact ho) ht (k H locs ls hP hS hl)
theorem hp_tswD (E : hp_Env p R s m args meth c cs D own cc nL ret) {x : Int32} {dflt lo hi : Int} {offs : Array Int} {len : Nat} (tgt : Nat) (hd : decode cc pc = .ok (.tableswitch dflt lo hi offs, len)) (h1 : x.toInt < lo ∨ hi < x.toInt) (ht : (pc : Int) + dflt = (tgt : Int)) (k : hp_G p l e R s m args below meth c S cs ad A D nL cells slots Q (tgt) lv (st) h) : hp_G p l e R s m args below meth c S cs ad A D nL cells slots Q (pc) lv (.int x :: st) h :=
  fun H locs ls hP hS hl => lv_tableOut E.1 E.2.1 hd h1 ht (k H locs ls hP hS hl)
theorem hp_lsw (E : hp_Env p R s m args meth c cs D own cc nL ret) {x : Int32} {dflt off : Int} {ps : Array (Int × Int)} {len : Nat} (tgt : Nat) (hd : decode cc pc = .ok (.lookupswitch dflt ps, len)) (hp : (ps.toList.zip (ps.toList.drop 1)).all (fun (a, next) => a.1 < next.1) = true) (ho : Op.lookupswitch.offset ps.toList dflt x.toInt = off) (ht : (pc : Int) + off = (tgt : Int)) (k : hp_G p l e R s m args below meth c S cs ad A D nL cells slots Q (tgt) lv (st) h) : hp_G p l e R s m args below meth c S cs ad A D nL cells slots Q (pc) lv (.int x :: st) h :=
  fun H locs ls hP hS hl => lv_lookup E.1 E.2.1 hd hp ho ht (k H locs ls hP hS hl)
theorem hp_geti (E : hp_Env p R s m args meth c cs D own cc nL ret) (k0 j : Nat) {ci N idx : Nat} {ds : List (Nat × Nat × Nat)} {u : Nat × Nat} {ref C : String} {T : u_T} (hs : S[k0]? = some (.inl (ci, ds))) (hf : ds[j]? = some (0, u)) (hc : vwCl[ci]? = some (C, T, N)) (hin : ∀ w ∈ u_ws C T N, w ∈ hp_tbl) (hj : j < N) (hr : (T j).1 = ref) (hm : Cond.fieldLink own idx ref (T j).2.1 (T j).2.2.1 ∈ hp_tbl) (hd : decode cc pc = .ok (.getfield idx, 3)) (k : hp_G p l e R s m args below meth c S cs ad A D nL cells slots Q (pc + 3) lv (.int (h k0 j) :: st) h) : hp_G p l e R s m args below meth c S cs ad A D nL cells slots Q (pc) lv (.ref (ad k0) :: st) h :=
  fun H locs ls hP hS hl => va_get E.1 E.2.1 E.2.2.2.2.1 hin E.2.2.2.1 E.2.2.2.2.2.1 hP k0 (hp_W_get hs) hc j hj (E.2.2.2.2.1 _ hm) (by rw [hr]; exact fun _ h9 => h9) (hp_fs_get hf) hd (k H locs ls hP hS hl)
theorem hp_getr (E : hp_Env p R s m args meth c cs D own cc nL ret) (k0 j t : Nat) {ci N idx u : Nat} {ds : List (Nat × Nat × Nat)} {ref C : String} {T : u_T} (hs : S[k0]? = some (.inl (ci, ds))) (hf : ds[j]? = some (1, t, u)) (hc : vwCl[ci]? = some (C, T, N)) (hin : ∀ w ∈ u_ws C T N, w ∈ hp_tbl) (hj : j < N) (hr : (T j).1 = ref) (hm : Cond.fieldLink own idx ref (T j).2.1 (T j).2.2.1 ∈ hp_tbl) (hd : decode cc pc = .ok (.getfield idx, 3)) (k : hp_G p l e R s m args below meth c S cs ad A D nL cells slots Q (pc + 3) lv (.ref (ad t) :: st) h) : hp_G p l e R s m args below meth c S cs ad A D nL cells slots Q (pc) lv (.ref (ad k0) :: st) h :=
  fun H locs ls hP hS hl => va_get E.1 E.2.1 E.2.2.2.2.1 hin E.2.2.2.1 E.2.2.2.2.2.1 hP k0 (hp_W_get hs) hc j hj (E.2.2.2.2.1 _ hm) (by rw [hr]; exact fun _ h9 => h9) (hp_fs_get hf) hd (k H locs ls hP hS hl)
theorem hp_getm (E : hp_Env p R s m args meth c cs D own cc nL ret) (k0 j t : Nat) {ci N idx u : Nat} {ds : List (Nat × Nat × Nat)} {ref C : String} {T : u_T} (hs : S[k0]? = some (.inl (ci, ds))) (hf : ds[j]? = some (2, t, u)) (hc : vwCl[ci]? = some (C, T, N)) (hin : ∀ w ∈ u_ws C T N, w ∈ hp_tbl) (hj : j < N) (hr : (T j).1 = ref) (hm : Cond.fieldLink own idx ref (T j).2.1 (T j).2.2.1 ∈ hp_tbl) (hd : decode cc pc = .ok (.getfield idx, 3)) (k : hp_G p l e R s m args below meth c S cs ad A D nL cells slots Q (pc + 3) lv (.ref (ad (t + (h hp_V u).toNatClampNeg)) :: st) h) : hp_G p l e R s m args below meth c S cs ad A D nL cells slots Q (pc) lv (.ref (ad k0) :: st) h :=
  fun H locs ls hP hS hl => va_get E.1 E.2.1 E.2.2.2.2.1 hin E.2.2.2.1 E.2.2.2.2.2.1 hP k0 (hp_W_get hs) hc j hj (E.2.2.2.2.1 _ hm) (by rw [hr]; exact fun _ h9 => h9) (hp_fs_get hf) hd (k H locs ls hP hS hl)
def hp_bz (v : Int32) : Prop := v = 0 ∨ v = 1
theorem hp_bz_n {v : Int32} (h : hp_bz v) : narrow .boolean (.int v) = .int v := by rcases h with rfl | rfl <;> rfl
theorem hp_bz_f {v : Int32} (h : hp_bz v) : fits .boolean (.int v) = true := by rcases h with rfl | rfl <;> rfl
theorem hp_putv (E : hp_Env p R s m args meth c cs D own cc nL ret) (k0 j : Nat) {ci N idx : Nat} {ds : List (Nat × Nat × Nat)} {u : Nat × Nat} {ref C : String} {T : u_T} {ty : FieldType} {v : Int32} (hs : S[k0]? = some (.inl (ci, ds))) (hf : ds[j]? = some (0, u)) (h9 : k0 ≠ hp_V) (hJ : hp_J S ad A) (hc : vwCl[ci]? = some (C, T, N)) (hin : ∀ w ∈ u_ws C T N, w ∈ hp_tbl) (ty0 : Nat → FieldType) (hty : ∀ k, k < N → parseFieldDescriptor (T k).2.2.1 = some (ty0 k)) (hnm : ∀ a, a < N → ∀ b, b < N → a ≠ b → (T a).2.1 ≠ (T b).2.1) (hj : j < N) (hr : (T j).1 = ref) (hfin : (T j).2.2.2 = false) (hm : Cond.fieldLink own idx ref (T j).2.1 (T j).2.2.1 ∈ hp_tbl) (ht : ty0 j = ty) (hn : narrow ty (.int v) = .int v) (hfit : fits ty (.int v) = true) (hd : decode cc pc = .ok (.putfield idx, 3)) (k : hp_G p l e R s m args below meth c S cs ad A D nL cells slots Q (pc + 3) lv (st) (hp_up h k0 j v)) : hp_G p l e R s m args below meth c S cs ad A D nL cells slots Q (pc) lv (.int v :: .ref (ad k0) :: st) h :=
  fun H locs ls hP hS hl => va_put (ty := ty) E.1 E.2.1 E.2.2.2.2.1 hin ty0 hty hnm E.2.2.2.1 E.2.2.2.2.2.1 hP (hJ.D h) hS k0 (hp_W_get hs) hc j hj (E.2.2.2.2.1 _ hm) (by rw [hr]; exact fun _ h9 => h9) hfin (by rw [hty j hj, ht]) hn hfit (by rw [hp_fs, hp_mi_len]; exact (List.getElem?_eq_some_iff.mp hf).1) hd (fun H1 locs1 hP1 hD1 hS1 => k H1 locs1 ls (by rw [← hp_W_put v hs hf h9]; exact hP1) hS1 hl)
theorem hp_puti (E : hp_Env p R s m args meth c cs D own cc nL ret) (k0 j : Nat) {ci N idx : Nat} {ds : List (Nat × Nat × Nat)} {u : Nat × Nat} {ref C : String} {T : u_T} {v : Int32} (hs : S[k0]? = some (.inl (ci, ds))) (hf : ds[j]? = some (0, u)) (h9 : k0 ≠ hp_V) (hJ : hp_J S ad A) (hc : vwCl[ci]? = some (C, T, N)) (hin : ∀ w ∈ u_ws C T N, w ∈ hp_tbl) (ty0 : Nat → FieldType) (hty : ∀ k, k < N → parseFieldDescriptor (T k).2.2.1 = some (ty0 k)) (hnm : ∀ a, a < N → ∀ b, b < N → a ≠ b → (T a).2.1 ≠ (T b).2.1) (hj : j < N) (hr : (T j).1 = ref) (hfin : (T j).2.2.2 = false) (hm : Cond.fieldLink own idx ref (T j).2.1 (T j).2.2.1 ∈ hp_tbl) (ht : ty0 j = .int) (hd : decode cc pc = .ok (.putfield idx, 3)) (k : hp_G p l e R s m args below meth c S cs ad A D nL cells slots Q (pc + 3) lv (st) (hp_up h k0 j v)) : hp_G p l e R s m args below meth c S cs ad A D nL cells slots Q (pc) lv (.int v :: .ref (ad k0) :: st) h :=
  hp_putv E k0 j hs hf h9 hJ hc hin ty0 hty hnm hj hr hfin hm ht rfl rfl hd k
theorem hp_putz (E : hp_Env p R s m args meth c cs D own cc nL ret) (k0 j : Nat) {ci N idx : Nat} {ds : List (Nat × Nat × Nat)} {u : Nat × Nat} {ref C : String} {T : u_T} {v : Int32} (hs : S[k0]? = some (.inl (ci, ds))) (hf : ds[j]? = some (0, u)) (h9 : k0 ≠ hp_V) (hJ : hp_J S ad A) (hc : vwCl[ci]? = some (C, T, N)) (hin : ∀ w ∈ u_ws C T N, w ∈ hp_tbl) (ty0 : Nat → FieldType) (hty : ∀ k, k < N → parseFieldDescriptor (T k).2.2.1 = some (ty0 k)) (hnm : ∀ a, a < N → ∀ b, b < N → a ≠ b → (T a).2.1 ≠ (T b).2.1) (hj : j < N) (hr : (T j).1 = ref) (hfin : (T j).2.2.2 = false) (hm : Cond.fieldLink own idx ref (T j).2.1 (T j).2.2.1 ∈ hp_tbl) (ht : ty0 j = .boolean) (hv : hp_bz v) (hd : decode cc pc = .ok (.putfield idx, 3)) (k : hp_G p l e R s m args below meth c S cs ad A D nL cells slots Q (pc + 3) lv (st) (hp_up h k0 j v)) : hp_G p l e R s m args below meth c S cs ad A D nL cells slots Q (pc) lv (.int v :: .ref (ad k0) :: st) h :=
  hp_putv E k0 j hs hf h9 hJ hc hin ty0 hty hnm hj hr hfin hm ht (hp_bz_n hv) (hp_bz_f hv) hd k
theorem hp_iald (E : hp_Env p R s m args meth c cs D own cc nL ret) (k0 : Nat) {n : Nat} {i : Int32} (hs : S[k0]? = some (.inr (0, n))) (hi : vp_in i n) (hd : decode cc pc = .ok (.iaload, 1)) (k : hp_G p l e R s m args below meth c S cs ad A D nL cells slots Q (pc + 1) lv (.int (h k0 i.toNatClampNeg) :: st) h) : hp_G p l e R s m args below meth c S cs ad A D nL cells slots Q (pc) lv (.int i :: .ref (ad k0) :: st) h :=
  fun H locs ls hP hS hl => va_iald E.1 E.2.1 E.2.2.2.2.2.1 hP k0 0 (hp_W_get hs) rfl hi hd (k H locs ls hP hS hl)
theorem hp_zald (E : hp_Env p R s m args meth c cs D own cc nL ret) (k0 : Nat) {n : Nat} {i : Int32} (hs : S[k0]? = some (.inr (2, n))) (hi : vp_in i n) (hd : decode cc pc = .ok (.baload, 1)) (k : hp_G p l e R s m args below meth c S cs ad A D nL cells slots Q (pc + 1) lv (.int (h k0 i.toNatClampNeg) :: st) h) : hp_G p l e R s m args below meth c S cs ad A D nL cells slots Q (pc) lv (.int i :: .ref (ad k0) :: st) h :=
  fun H locs ls hP hS hl => va_zald E.1 E.2.1 E.2.2.2.2.2.1 hP k0 2 (hp_W_get hs) rfl hi hd (k H locs ls hP hS hl)
theorem hp_lald (E : hp_Env p R s m args meth c cs D own cc nL ret) (k0 : Nat) {n : Nat} {i : Int32} (hs : S[k0]? = some (.inr (1, n))) (hi : vp_in i n) (hd : decode cc pc = .ok (.laload, 1)) (k : hp_G p l e R s m args below meth c S cs ad A D nL cells slots Q (pc + 1) lv (.long (hp_ldL h k0 i.toNatClampNeg) :: st) h) : hp_G p l e R s m args below meth c S cs ad A D nL cells slots Q (pc) lv (.int i :: .ref (ad k0) :: st) h :=
  fun H locs ls hP hS hl => va_lald E.1 E.2.1 E.2.2.2.2.2.1 hP k0 1 (hp_W_get hs) rfl hi hd (k H locs ls hP hS hl)
theorem hp_iast (E : hp_Env p R s m args meth c cs D own cc nL ret) (k0 : Nat) {n : Nat} {i x : Int32} (hs : S[k0]? = some (.inr (0, n))) (h9 : k0 ≠ hp_V) (hJ : hp_J S ad A) (hi : vp_in i n) (hd : decode cc pc = .ok (.iastore, 1)) (k : hp_G p l e R s m args below meth c S cs ad A D nL cells slots Q (pc + 1) lv (st) (hp_up h k0 i.toNatClampNeg x)) : hp_G p l e R s m args below meth c S cs ad A D nL cells slots Q (pc) lv (.int x :: .int i :: .ref (ad k0) :: st) h :=
  fun H locs ls hP hS hl => va_iast E.1 E.2.1 E.2.2.2.2.2.1 hP (hJ.D h) hS k0 0 (hp_W_get hs) rfl hi hd (fun H1 locs1 hP1 hD1 hS1 => k H1 locs1 ls (by rw [← hp_W_ast x hs (by decide) h9]; exact hP1) hS1 hl)
theorem hp_zast (E : hp_Env p R s m args meth c cs D own cc nL ret) (k0 : Nat) {n : Nat} {i x : Int32} (hs : S[k0]? = some (.inr (2, n))) (h9 : k0 ≠ hp_V) (hJ : hp_J S ad A) (hi : vp_in i n) (hx : hp_bz x) (hd : decode cc pc = .ok (.bastore, 1)) (k : hp_G p l e R s m args below meth c S cs ad A D nL cells slots Q (pc + 1) lv (st) (hp_up h k0 i.toNatClampNeg x)) : hp_G p l e R s m args below meth c S cs ad A D nL cells slots Q (pc) lv (.int x :: .int i :: .ref (ad k0) :: st) h :=
  fun H locs ls hP hS hl => va_zast E.1 E.2.1 E.2.2.2.2.2.1 hP (hJ.D h) hS k0 2 (hp_W_get hs) rfl hi hd (fun H1 locs1 hP1 hD1 hS1 => k H1 locs1 ls (by rw [← hp_W_ast x hs (by decide) h9]; rw [show vp_nar .boolean x = x by rcases hx with rfl | rfl <;> rfl] at hP1; exact hP1) hS1 hl)
theorem hp_last (E : hp_Env p R s m args meth c cs D own cc nL ret) (k0 : Nat) {n : Nat} {i : Int32} {x : Int64} (hs : S[k0]? = some (.inr (1, n))) (h9 : k0 ≠ hp_V) (hJ : hp_J S ad A) (hi : vp_in i n) (hd : decode cc pc = .ok (.lastore, 1)) (k : hp_G p l e R s m args below meth c S cs ad A D nL cells slots Q (pc + 1) lv (st) (hp_upL h k0 i.toNatClampNeg x)) : hp_G p l e R s m args below meth c S cs ad A D nL cells slots Q (pc) lv (.long x :: .int i :: .ref (ad k0) :: st) h :=
  fun H locs ls hP hS hl => va_last E.1 E.2.1 E.2.2.2.2.2.1 hP (hJ.D h) hS k0 1 (hp_W_get hs) rfl hi hd (fun H1 locs1 hP1 hD1 hS1 => k H1 locs1 ls (by rw [← hp_W_last x hs h9]; exact hP1) hS1 hl)
theorem hp_alen (E : hp_Env p R s m args meth c cs D own cc nL ret) (k0 : Nat) {n : Nat} (hs : S[k0]? = some (.inr (0, n))) (hd : decode cc pc = .ok (.arraylength, 1)) (k : hp_G p l e R s m args below meth c S cs ad A D nL cells slots Q (pc + 1) lv (.int (nI n) :: st) h) : hp_G p l e R s m args below meth c S cs ad A D nL cells slots Q (pc) lv (.ref (ad k0) :: st) h :=
  fun H locs ls hP hS hl => va_alen (ty := .int) E.1 E.2.1 E.2.2.2.2.2.1 hP k0 0 (hp_W_get hs) rfl rfl hd (k H locs ls hP hS hl)
theorem hp_copy (E : hp_Env p R s m args meth c cs D own cc nL ret) (k0 k1 : Nat) {n0 n1 idx : Nat} {sp dp n : Int32} (hs0 : S[k0]? = some (.inr (0, n0))) (hs1 : S[k1]? = some (.inr (0, n1))) (h9 : k1 ≠ hp_V) (hJ : hp_J S ad A) (hm : Cond.methodLink own idx arraycopyName ∈ hp_tbl) (hm2 : Cond.native arraycopyName ∈ hp_tbl ∧ Cond.static arraycopyName ∈ hp_tbl ∧ Cond.initialized "java/lang/System" ∈ hp_tbl) (h1 : ¬ sp < 0) (h2 : ¬ dp < 0) (h3 : ¬ n < 0) (h4 : sp.toNatClampNeg + n.toNatClampNeg ≤ n0) (h5 : dp.toNatClampNeg + n.toNatClampNeg ≤ n1) (hf : 1 ≤ R.frames) (hl0 : (st.map fun v => v.category).sum + (nativeFrameWords "java/lang/System" "arraycopy" 5 + 11) ≤ R.locals) (hd : decode cc pc = .ok (.invokestatic idx, 3)) (k : hp_G p l e R s m args below meth c S cs ad A D nL cells slots Q (pc + 3) lv (st) (hp_cp h k0 k1 sp.toNatClampNeg dp.toNatClampNeg n.toNatClampNeg)) : hp_G p l e R s m args below meth c S cs ad A D nL cells slots Q (pc) lv (.int n :: .int dp :: .ref (ad k1) :: .int sp :: .ref (ad k0) :: st) h :=
  fun H locs ls hP hS hl => va_copyi (ty := .int) E.1 E.2.1 (by rw [E.2.2.1]; exact hl.1.1.symm) E.2.2.2.1 (E.2.2.2.2.1 _ hm) (E.2.2.2.2.1 _ hm2.1) (E.2.2.2.2.1 _ hm2.2.1) (E.2.2.2.2.1 _ hm2.2.2) E.2.2.2.2.2.1 hP (hJ.D h) hS k0 k1 0 0 (hp_W_get hs0) (hp_W_get hs1) rfl rfl rfl h1 h2 h3 h4 h5 (fun _ _ => rfl) hf hl0 hd (fun H1 locs1 hP1 hD1 hS1 => k H1 locs1 ls (by rw [← hp_W_cp hs1 (by decide) h9]; exact hP1) hS1 hl)
theorem hp_mmin (E : hp_Env p R s m args meth c cs D own cc nL ret) {idx : Nat} {x y : Int32} (hm : Cond.methodLink own idx Lib.Math.min.name ∈ hp_tbl) (hm2 : Cond.static Lib.Math.min.name ∈ hp_tbl ∧ Cond.initialized "java/lang/Math" ∈ hp_tbl ∧ Cond.code Lib.Math.min.name Lib.Math.min.code 2 (some .int) ∈ hp_tbl) (hf : 1 ≤ R.frames) (hl0 : (st.map fun v => v.category).sum + 13 ≤ R.locals) (hc : cells ≤ R.cells) (hs : slots ≤ R.slots) (hd : decode cc pc = .ok (.invokestatic idx, 3)) (k : hp_G p l e R s m args below meth c S cs ad A D nL cells slots Q (pc + 3) lv (.int (if y < x then y else x) :: st) h) : hp_G p l e R s m args below meth c S cs ad A D nL cells slots Q (pc) lv (.int y :: .int x :: st) h :=
  fun H locs ls hP hS hl => va_mmin E.1 E.2.1 (by rw [E.2.2.1]; exact hl.1.1.symm) E.2.2.2.1 (E.2.2.2.2.1 _ hm) (E.2.2.2.2.1 _ hm2.1) (E.2.2.2.2.1 _ hm2.2.1) (E.2.2.2.2.1 _ hm2.2.2) hf hl0 hc hs hd (k H locs ls hP hS hl)
def hp_B (S : List hp_S) (cs : Nat → ClassId) (ad : Nat → Nat) (D : va_G) : hp_H → State → Prop := fun h t => va_P D vwCl (hp_W S cs ad h) t.heap
def hp_Br (S : List hp_S) (cs : Nat → ClassId) (ad : Nat → Nat) (D : va_G) (r : Nat) : hp_H → Nat → State → Prop := fun h a t => a = ad r ∧ va_P D vwCl (hp_W S cs ad h) t.heap
theorem hp_iret (E : hp_Env p R s m args meth c cs D own cc nL (some .int)) {Qp : Int32 → hp_H → Prop} {v : Int32} (hq : Qp v h) (hZ : Q = MQ below (va_Qi Qp (hp_B S cs ad D) A) args s cells slots A) (hd : decode cc pc = .ok (.ireturn, 1)) : hp_G p l e R s m args below meth c S cs ad A D nL cells slots Q pc lv [.int v] h :=
  by subst hZ; exact fun H locs ls hP hS hl => W.iret E.1 E.2.1 E.2.2.2.2.2.2.2.1 (fun t ht hW => ⟨⟨v, h, rfl, hq, by show va_P _ _ _ _; rw [ht]; exact hP⟩, hS.F ht⟩) hS.2.2 hd E.2.2.2.2.2.2.1
theorem hp_zret (E : hp_Env p R s m args meth c cs D own cc nL (some .boolean)) {Qp : Int32 → hp_H → Prop} {v : Int32} (hv : hp_bz v) (hq : Qp v h) (hZ : Q = MQ below (va_Qi Qp (hp_B S cs ad D) A) args s cells slots A) (hd : decode cc pc = .ok (.ireturn, 1)) : hp_G p l e R s m args below meth c S cs ad A D nL cells slots Q pc lv [.int v] h :=
  by subst hZ; exact fun H locs ls hP hS hl => W.zret E.1 E.2.1 E.2.2.2.2.2.2.2.1 (hp_bz_n hv) (fun t ht hW => ⟨⟨v, h, rfl, hq, by show va_P _ _ _ _; rw [ht]; exact hP⟩, hS.F ht⟩) hS.2.2 hd E.2.2.2.2.2.2.1
theorem hp_vret (E : hp_Env p R s m args meth c cs D own cc nL none) {Qp : hp_H → Prop} (hq : Qp h) (hZ : Q = MQ below (va_Qv Qp (hp_B S cs ad D) A) args s cells slots A) (hd : decode cc pc = .ok (.return_, 1)) : hp_G p l e R s m args below meth c S cs ad A D nL cells slots Q pc lv [] h :=
  by subst hZ; exact fun H locs ls hP hS hl => W.vret E.1 E.2.1 E.2.2.2.2.2.2.2.1 (fun t ht hW => ⟨⟨h, rfl, hq, by show va_P _ _ _ _; rw [ht]; exact hP⟩, hS.F ht⟩) hS.2.2 hd E.2.2.2.2.2.2.1
theorem hp_aret {C : String} (E : hp_Env p R s m args meth c cs D own cc nL (some (.object C))) {Qp : hp_H → Prop} {r : Nat} (hq : Qp h) (hZ : Q = MQ below (va_Qr Qp (hp_Br S cs ad D r) A) args s cells slots A) (hd : decode cc pc = .ok (.areturn, 1)) : hp_G p l e R s m args below meth c S cs ad A D nL cells slots Q pc lv [.ref (ad r)] h :=
  by subst hZ; exact fun H locs ls hP hS hl => W.aret E.1 E.2.1 E.2.2.2.2.2.2.2.1 (Or.inl ⟨_, rfl⟩) (Or.inr ⟨_, rfl⟩) (fun t ht hW => ⟨⟨h, ad r, rfl, hq, rfl, by rw [ht]; exact hP⟩, hS.F ht⟩) hS.2.2 hd E.2.2.2.2.2.2.1
end
end
section
/-! ===== methods, calls ===== -/
def hp_Pc (av : List Value) (S : List hp_S) (cs : Nat → ClassId) (ad : Nat → Nat) (D : va_G) (h : hp_H) : Array Value → State → Prop := va_Pc av (fun U => va_P D vwCl (hp_W S cs ad h) U.heap ∧ va_K D vwCl (hp_tys cs) U ∧ hp_N U)
theorem hp_Pc_blind {av : List Value} {S : List hp_S} {cs : Nat → ClassId} {ad : Nat → Nat} {D : va_G} {h : hp_H} : FrameBlind (hp_Pc av S cs ad D h) := by
  intro a U g mk q
  obtain ⟨q0, qP, qK, qN⟩ := q
  exact ⟨q0, qP, va_K.moved (u := U) (U := U.calling g mk a) (Vm.Alike.refl U.vm) qK, fun w hw => va_Nw.same rfl (u := U) (U := U.calling g mk a) rfl (qN w hw)⟩
theorem hp_N.warm {s U : State} (hW : s.WarmedH U.vm) (h : hp_N s) : hp_N U := fun q hq => va_Nw.warmM hW (h q hq)
theorem lw_good : hp_tbl.all goodWord = true := List.all_eq_true.mpr (fun w hw => (List.mem_filter.mp hw).2)
theorem hp_good {y : MethodName} {cc : ByteArray} {n : Nat} {ret : Option FieldType} (hm : Cond.code y cc n ret ∈ hp_tbl) : GoodIn hp_tbl (.code y cc n ret :: hp_tbl) := by
  intro w hw
  rcases List.mem_cons.mp hw with h | h
  · rw [h]; exact ⟨hm, good_of_word (List.all_eq_true.mp lw_good _ hm)⟩
  · exact ⟨h, good_of_word (List.all_eq_true.mp lw_good _ h)⟩
abbrev hp_Mi (l : Launch) (y : MethodName) (cc : ByteArray) (nL : Nat) (ret : Option FieldType) (rm : Room) (av : List Value) (S : List hp_S) (cs : Nat → ClassId) (ad : Nat → Nat) (A : Nat → Prop) (D : va_G) (h : hp_H) (Q : Int32 → hp_H → Prop) : Prop := Met l y (.code y cc nL ret :: hp_tbl) rm (hp_Pc av S cs ad D h) (va_Qi Q (hp_B S cs ad D) A) 0 0 A
abbrev hp_Mv (l : Launch) (y : MethodName) (cc : ByteArray) (nL : Nat) (ret : Option FieldType) (rm : Room) (av : List Value) (S : List hp_S) (cs : Nat → ClassId) (ad : Nat → Nat) (A : Nat → Prop) (D : va_G) (h : hp_H) (Q : hp_H → Prop) : Prop := Met l y (.code y cc nL ret :: hp_tbl) rm (hp_Pc av S cs ad D h) (va_Qv Q (hp_B S cs ad D) A) 0 0 A
abbrev hp_Mr (l : Launch) (y : MethodName) (cc : ByteArray) (nL : Nat) (ret : Option FieldType) (rm : Room) (av : List Value) (S : List hp_S) (cs : Nat → ClassId) (ad : Nat → Nat) (A : Nat → Prop) (D : va_G) (r : Nat) (h : hp_H) (Q : hp_H → Prop) : Prop := Met l y (.code y cc nL ret :: hp_tbl) rm (hp_Pc av S cs ad D h) (va_Qr Q (hp_Br S cs ad D r) A) 0 0 A
theorem hp_met {l : Launch} {y : MethodName} {cc : ByteArray} {nL mc ms : Nat} {ret : Option FieldType} {rm : Room} {av : List Value} {S : List hp_S} {cs : Nat → ClassId} {ad : Nat → Nat} {A : Nat → Prop} {D : va_G} {h : hp_H} {Qc : Array Value → State → Outcome → State → Prop} {own : String} (ho : y.cls = own) (hy : plainName y.cls = true) (hn : (lg_sl av).length ≤ nL) (h1 : hp_all1 av = true)
    (body : ∀ (p : Program) (e : Env) (s : State) (m : MethodId) (args : Array Value) (below : List Frame) (meth : Method) (c : Code) (Z : State → Prop), hp_Env p rm s m args meth c cs D own cc nL ret → Z = MQ below Qc args s mc ms A → meth.name = y.name → hp_G p l e rm s m args below meth c S cs ad A D nL 0 0 Z 0 (lv_args 0 av) [] h) : Met l y (.code y cc nL ret :: hp_tbl) rm (hp_Pc av S cs ad D h) Qc mc ms A := by
  subst ho
  refine Met.ofW (cc := cc) (maxL := nL) (ret := ret) hy rfl ?_
  intro p e s m args below meth c s₁ B hml hv
  obtain ⟨rfl, hP, hK, hN⟩ := hv
  have hts := atoms_spec (ws := Cond.code y cc nL ret :: hp_tbl) B.pre
  have E : hp_Env p rm s m av.toArray meth c cs D y.cls cc nL ret := ⟨B.exec, B.bytes, hml, findClass_of_methodNamed B.named, fun w hw => hts w (List.mem_cons_of_mem _ hw), hK, B.notSynchronized, B.returns, hN⟩
  have K := body p e s m _ below meth c _ E rfl (name_of_methodNamed B.named B.method).1
  have hl := lv_entry av hn
  rw [lg_entry_eq]
  exact K s.heap [] _ hP va_S.rf ⟨hl, hp_all1_args av 0 h1⟩
/-- what the tables say of a method that is called on an object, of one without an object -/
def hp_Fv (C : String) (y : MethodName) (cc : ByteArray) (nL : Nat) (ret : Option FieldType) (n : Nat) : Prop := Cond.instanceMethod y ∈ hp_tbl ∧ Cond.selects C y y ∈ hp_tbl ∧ Cond.initialized y.cls ∈ hp_tbl ∧ Cond.code y cc nL ret ∈ hp_tbl ∧ (y.cls ≠ "java/lang/invoke/MethodHandle" ∧ y.cls ≠ "java/lang/invoke/VarHandle" ∧ (parseMethodDescriptor y.desc).map (fun d => d.parameters.length) = some n)
def hp_Fs (y : MethodName) (cc : ByteArray) (nL : Nat) (ret : Option FieldType) (n : Nat) : Prop := Cond.static y ∈ hp_tbl ∧ Cond.initialized y.cls ∈ hp_tbl ∧ Cond.code y cc nL ret ∈ hp_tbl ∧ (y.cls ≠ "java/lang/invoke/MethodHandle" ∧ y.cls ≠ "java/lang/invoke/VarHandle" ∧ (parseMethodDescriptor y.desc).map (fun d => d.parameters.length) = some n)
section
variable {p : Program} {l : Launch} {e : Env} {R : Room} {s : State} {m : MethodId} {args : Array Value} {below : List Frame} {meth : Method} {c : Code} {S : List hp_S} {cs : Nat → ClassId} {ad : Nat → Nat} {A : Nat → Prop} {D : va_G} {own : String} {cc : ByteArray} {ret : Option FieldType} {nL cells slots : Nat} {Q : State → Prop}
variable {pc : Nat} {lv : List (Nat × Value)} {st : List Value} {h : hp_H}
variable {y : MethodName} {C : String} {c1 : ByteArray} {n1 n idx ci N : Nat} {ret1 : Option FieldType} {rm : Room} {As rest : List Value} {ds : List (Nat × Nat × Nat)} {T : u_T}
theorem hp_runV {Qc : Array Value → State → Outcome → State → Prop} {H : Heap} {locs : List Loc} {ls : Array Slot} (E : hp_Env p R s m args meth c cs D own cc nL ret) (k0 : Nat) (hs : S[k0]? = some (.inl (ci, ds))) (hc : vwCl[ci]? = some (C, T, N)) (hM : Met l y (.code y c1 n1 ret1 :: hp_tbl) rm (hp_Pc (.ref (ad k0) :: As) S cs ad D h) Qc 0 0 A) (F : hp_Fv C y c1 n1 ret1 n) (hm : Cond.methodLink own idx y ∈ hp_tbl) (hrm : rm.cells = 0 ∧ rm.slots = 0) (hR : rm.frames + 1 ≤ R.frames ∧ 8 + (n1 + 11) + rm.locals ≤ R.locals) (hR2 : cells ≤ R.cells ∧ slots ≤ R.slots) (hn : As.length = n) (hst : st = As.reverse ++ .ref (ad k0) :: rest) (hW : (rest.map fun v => v.category).sum ≤ 8) (hd : decode cc pc = .ok (.invokevirtual idx, 3)) (hP : va_P D vwCl (hp_W S cs ad h) H) (hl : hp_L ls nL lv) :
    va_Run p l e R s m args below meth c H locs cells slots 0 0 (F0 m pc ls st) rest (Qc (Value.ref (ad k0) :: As).toArray) A := by
  have hts := E.2.2.2.2.1
  have hK := E.2.2.2.2.2.1
  exact va_runV (C := C) (n := n) ⟨E.1, E.2.1, E.2.2.1, E.2.2.2.1, hts⟩ hM ⟨callB_of n hts (hp_good F.2.2.2.1) rfl hrm.1 hrm.2 (hts _ F.2.2.1) (hts _ hm) F.2.2.2.2 hR, hts _ F.1, hts _ F.2.1⟩ ⟨hp_Pc_blind, va_recv hK hP hc (hp_W_get hs), fun U hU hW => ⟨rfl, by rw [hU]; exact hP, va_K.moved hW.alike hK, E.2.2.2.2.2.2.2.2.warm hW⟩⟩ rfl hn hl.1.1 hst (lv_room hW) hd hR2
theorem hp_runS {Qc : Array Value → State → Outcome → State → Prop} {H : Heap} {locs : List Loc} {ls : Array Slot} (E : hp_Env p R s m args meth c cs D own cc nL ret) (hM : Met l y (.code y c1 n1 ret1 :: hp_tbl) rm (hp_Pc As S cs ad D h) Qc 0 0 A) (F : hp_Fs y c1 n1 ret1 n) (hm : Cond.methodLink own idx y ∈ hp_tbl) (hrm : rm.cells = 0 ∧ rm.slots = 0) (hR : rm.frames + 1 ≤ R.frames ∧ 8 + (n1 + 11) + rm.locals ≤ R.locals) (hR2 : cells ≤ R.cells ∧ slots ≤ R.slots) (hn : As.length = n) (hst : st = As.reverse ++ rest) (hW : (rest.map fun v => v.category).sum ≤ 8) (hd : decode cc pc = .ok (.invokestatic idx, 3)) (hP : va_P D vwCl (hp_W S cs ad h) H) (hl : hp_L ls nL lv) :
    va_Run p l e R s m args below meth c H locs cells slots 0 0 (F0 m pc ls st) rest (Qc As.toArray) A := by
  have hts := E.2.2.2.2.1
  have hK := E.2.2.2.2.2.1
  exact va_runS (n := n) ⟨E.1, E.2.1, E.2.2.1, E.2.2.2.1, hts⟩ hM ⟨callB_of n hts (hp_good F.2.2.1) rfl hrm.1 hrm.2 (hts _ F.2.1) (hts _ hm) F.2.2.2 hR, hts _ F.1⟩ ⟨hp_Pc_blind, fun U hU hW => ⟨rfl, by rw [hU]; exact hP, va_K.moved hW.alike hK, E.2.2.2.2.2.2.2.2.warm hW⟩⟩ rfl hn hl.1.1 hst (lv_room hW) hd hR2
theorem hp_runSN {Qc : Array Value → State → Outcome → State → Prop} {H : Heap} {locs : List Loc} {ls : Array Slot} {host : String} (E : hp_Env p R s m args meth c cs D own cc nL ret) (hM : Met l y (.code y c1 n1 ret1 :: hp_tbl) rm (hp_Pc As S cs ad D h) Qc 0 0 A) (F : hp_Fs y c1 n1 ret1 n) (hm : (own, idx, y, host) ∈ hp_nst) (hrm : rm.cells = 0 ∧ rm.slots = 0) (hR : rm.frames + 1 ≤ R.frames ∧ 8 + (n1 + 11) + rm.locals ≤ R.locals) (hR2 : cells ≤ R.cells ∧ slots ≤ R.slots) (hn : As.length = n) (hst : st = As.reverse ++ rest) (hW : (rest.map fun v => v.category).sum ≤ 8) (hd : decode cc pc = .ok (.invokestatic idx, 3)) (hP : va_P D vwCl (hp_W S cs ad h) H) (hl : hp_L ls nL lv) :
    va_Run p l e R s m args below meth c H locs cells slots 0 0 (F0 m pc ls st) rest (Qc As.toArray) A := by
  have hts := E.2.2.2.2.1
  have hK := E.2.2.2.2.2.1
  exact va_runSN (n := n) ⟨E.1, E.2.1, E.2.2.1, E.2.2.2.1, hts⟩ hM ⟨va_cnB n hts (hp_good F.2.2.1) rfl hrm.1 hrm.2 (E.2.2.2.2.2.2.2.2 _ hm) (hts _ F.2.1) F.2.2.2 hR, hts _ F.1, trivial⟩ ⟨hp_Pc_blind, fun U hU hW => ⟨rfl, by rw [hU]; exact hP, va_K.moved hW.alike hK, E.2.2.2.2.2.2.2.2.warm hW⟩⟩ rfl hn hl.1.1 hst (lv_room hW) hd hR2
/-- behind a call -/
theorem hp_conti {Qr : Int32 → hp_H → Prop} {a : Array Value} (run : ∀ (H : Heap) (locs : List Loc) (ls : Array Slot), va_P D vwCl (hp_W S cs ad h) H → hp_L ls nL lv → va_Run p l e R s m args below meth c H locs cells slots 0 0 (F0 m pc ls st) rest (va_Qi Qr (hp_B S cs ad D) A a) A) (k : ∀ (r : Int32) (h : hp_H), Qr r h → hp_G p l e R s m args below meth c S cs ad A D nL cells slots Q (pc + 3) lv (.int r :: rest) h) : hp_G p l e R s m args below meth c S cs ad A D nL cells slots Q pc lv st h :=
  fun H locs ls hP hS hl => va_calli (run H locs ls hP hl) hS (fun _ _ q => q) (fun _ q => q) (fun r u t H1 locs1 ht _ hw hB _ _ hS1 => k r u hw H1 locs1 ls (by rw [← ht]; exact hB) hS1 hl)
theorem hp_contv {Qr : hp_H → Prop} {a : Array Value} (run : ∀ (H : Heap) (locs : List Loc) (ls : Array Slot), va_P D vwCl (hp_W S cs ad h) H → hp_L ls nL lv → va_Run p l e R s m args below meth c H locs cells slots 0 0 (F0 m pc ls st) rest (va_Qv Qr (hp_B S cs ad D) A a) A) (k : ∀ (h : hp_H), Qr h → hp_G p l e R s m args below meth c S cs ad A D nL cells slots Q (pc + 3) lv rest h) : hp_G p l e R s m args below meth c S cs ad A D nL cells slots Q pc lv st h :=
  fun H locs ls hP hS hl => va_callv (run H locs ls hP hl) hS (fun _ _ q => q) (fun _ q => q) (fun u t H1 locs1 ht _ hw hB _ _ hS1 => k u hw H1 locs1 ls (by rw [← ht]; exact hB) hS1 hl)
theorem hp_contr {Qr : hp_H → Prop} {a : Array Value} {r : Nat} (run : ∀ (H : Heap) (locs : List Loc) (ls : Array Slot), va_P D vwCl (hp_W S cs ad h) H → hp_L ls nL lv → va_Run p l e R s m args below meth c H locs cells slots 0 0 (F0 m pc ls st) rest (va_Qr Qr (hp_Br S cs ad D r) A a) A) (k : ∀ (h : hp_H), Qr h → hp_G p l e R s m args below meth c S cs ad A D nL cells slots Q (pc + 3) lv (.ref (ad r) :: rest) h) : hp_G p l e R s m args below meth c S cs ad A D nL cells slots Q pc lv st h :=
  fun H locs ls hP hS hl => va_callr (run H locs ls hP hl) hS (fun _ _ q => q) (fun _ q => q) (fun u ra t H1 locs1 ht _ hw hB _ _ hS1 => by rw [hB.1]; exact k u hw H1 locs1 ls (by rw [← ht]; exact hB.2) hS1 hl)
theorem hp_callVi {Qr : Int32 → hp_H → Prop} (E : hp_Env p R s m args meth c cs D own cc nL ret) (k0 : Nat) (hs : S[k0]? = some (.inl (ci, ds))) (hc : vwCl[ci]? = some (C, T, N)) (hM : hp_Mi l y c1 n1 ret1 rm (.ref (ad k0) :: As) S cs ad A D h Qr) (F : hp_Fv C y c1 n1 ret1 n) (hm : Cond.methodLink own idx y ∈ hp_tbl) (hrm : rm.cells = 0 ∧ rm.slots = 0) (hR : rm.frames + 1 ≤ R.frames ∧ 8 + (n1 + 11) + rm.locals ≤ R.locals) (hR2 : cells ≤ R.cells ∧ slots ≤ R.slots) (hn : As.length = n) (hst : st = As.reverse ++ .ref (ad k0) :: rest) (hW : (rest.map fun v => v.category).sum ≤ 8) (hd : decode cc pc = .ok (.invokevirtual idx, 3)) (k : ∀ (r : Int32) (h : hp_H), Qr r h → hp_G p l e R s m args below meth c S cs ad A D nL cells slots Q (pc + 3) lv (.int r :: rest) h) : hp_G p l e R s m args below meth c S cs ad A D nL cells slots Q pc lv st h :=
  hp_conti (fun _ _ _ hP hl => hp_runV E k0 hs hc hM F hm hrm hR hR2 hn hst hW hd hP hl) k
theorem hp_callVv {Qr : hp_H → Prop} (E : hp_Env p R s m args meth c cs D own cc nL ret) (k0 : Nat) (hs : S[k0]? = some (.inl (ci, ds))) (hc : vwCl[ci]? = some (C, T, N)) (hM : hp_Mv l y c1 n1 ret1 rm (.ref (ad k0) :: As) S cs ad A D h Qr) (F : hp_Fv C y c1 n1 ret1 n) (hm : Cond.methodLink own idx y ∈ hp_tbl) (hrm : rm.cells = 0 ∧ rm.slots = 0) (hR : rm.frames + 1 ≤ R.frames ∧ 8 + (n1 + 11) + rm.locals ≤ R.locals) (hR2 : cells ≤ R.cells ∧ slots ≤ R.slots) (hn : As.length = n) (hst : st = As.reverse ++ .ref (ad k0) :: rest) (hW : (rest.map fun v => v.category).sum ≤ 8) (hd : decode cc pc = .ok (.invokevirtual idx, 3)) (k : ∀ (h : hp_H), Qr h → hp_G p l e R s m args below meth c S cs ad A D nL cells slots Q (pc + 3) lv rest h) : hp_G p l e R s m args below meth c S cs ad A D nL cells slots Q pc lv st h :=
  hp_contv (fun _ _ _ hP hl => hp_runV E k0 hs hc hM F hm hrm hR hR2 hn hst hW hd hP hl) k
theorem hp_callVr {Qr : hp_H → Prop} {r : Nat} (E : hp_Env p R s m args meth c cs D own cc nL ret) (k0 : Nat) (hs : S[k0]? = some (.inl (ci, ds))) (hc : vwCl[ci]? = some (C, T, N)) (hM : hp_Mr l y c1 n1 ret1 rm (.ref (ad k0) :: As) S cs ad A D r h Qr) (F : hp_Fv C y c1 n1 ret1 n) (hm : Cond.methodLink own idx y ∈ hp_tbl) (hrm : rm.cells = 0 ∧ rm.slots = 0) (hR : rm.frames + 1 ≤ R.frames ∧ 8 + (n1 + 11) + rm.locals ≤ R.locals) (hR2 : cells ≤ R.cells ∧ slots ≤ R.slots) (hn : As.length = n) (hst : st = As.reverse ++ .ref (ad k0) :: rest) (hW : (rest.map fun v => v.category).sum ≤ 8) (hd : decode cc pc = .ok (.invokevirtual idx, 3)) (k : ∀ (h : hp_H), Qr h → hp_G p l e R s m args below meth c S cs ad A D nL cells slots Q (pc + 3) lv (.ref (ad r) :: rest) h) : hp_G p l e R s m args below meth c S cs ad A D nL cells slots Q pc lv st h :=
  hp_contr (fun _ _ _ hP hl => hp_runV E k0 hs hc hM F hm hrm hR hR2 hn hst hW hd hP hl) k
theorem hp_callSi {Qr : Int32 → hp_H → Prop} (E : hp_Env p R s m args meth c cs D own cc nL ret) (hM : hp_Mi l y c1 n1 ret1 rm As S cs ad A D h Qr) (F : hp_Fs y c1 n1 ret1 n) (hm : Cond.methodLink own idx y ∈ hp_tbl) (hrm : rm.cells = 0 ∧ rm.slots = 0) (hR : rm.frames + 1 ≤ R.frames ∧ 8 + (n1 + 11) + rm.locals ≤ R.locals) (hR2 : cells ≤ R.cells ∧ slots ≤ R.slots) (hn : As.length = n) (hst : st = As.reverse ++ rest) (hW : (rest.map fun v => v.category).sum ≤ 8) (hd : decode cc pc = .ok (.invokestatic idx, 3)) (k : ∀ (r : Int32) (h : hp_H), Qr r h → hp_G p l e R s m args below meth c S cs ad A D nL cells slots Q (pc + 3) lv (.int r :: rest) h) : hp_G p l e R s m args below meth c S cs ad A D nL cells slots Q pc lv st h :=
  hp_conti (fun _ _ _ hP hl => hp_runS E hM F hm hrm hR hR2 hn hst hW hd hP hl) k
theorem hp_callSv {Qr : hp_H → Prop} (E : hp_Env p R s m args meth c cs D own cc nL ret) (hM : hp_Mv l y c1 n1 ret1 rm As S cs ad A D h Qr) (F : hp_Fs y c1 n1 ret1 n) (hm : Cond.methodLink own idx y ∈ hp_tbl) (hrm : rm.cells = 0 ∧ rm.slots = 0) (hR : rm.frames + 1 ≤ R.frames ∧ 8 + (n1 + 11) + rm.locals ≤ R.locals) (hR2 : cells ≤ R.cells ∧ slots ≤ R.slots) (hn : As.length = n) (hst : st = As.reverse ++ rest) (hW : (rest.map fun v => v.category).sum ≤ 8) (hd : decode cc pc = .ok (.invokestatic idx, 3)) (k : ∀ (h : hp_H), Qr h → hp_G p l e R s m args below meth c S cs ad A D nL cells slots Q (pc + 3) lv rest h) : hp_G p l e R s m args below meth c S cs ad A D nL cells slots Q pc lv st h :=
  hp_contv (fun _ _ _ hP hl => hp_runS E hM F hm hrm hR hR2 hn hst hW hd hP hl) k
theorem hp_callSNi {Qr : Int32 → hp_H → Prop} {host : String} (E : hp_Env p R s m args meth c cs D own cc nL ret) (hM : hp_Mi l y c1 n1 ret1 rm As S cs ad A D h Qr) (F : hp_Fs y c1 n1 ret1 n) (hm : (own, idx, y, host) ∈ hp_nst) (hrm : rm.cells = 0 ∧ rm.slots = 0) (hR : rm.frames + 1 ≤ R.frames ∧ 8 + (n1 + 11) + rm.locals ≤ R.locals) (hR2 : cells ≤ R.cells ∧ slots ≤ R.slots) (hn : As.length = n) (hst : st = As.reverse ++ rest) (hW : (rest.map fun v => v.category).sum ≤ 8) (hd : decode cc pc = .ok (.invokestatic idx, 3)) (k : ∀ (r : Int32) (h : hp_H), Qr r h → hp_G p l e R s m args below meth c S cs ad A D nL cells slots Q (pc + 3) lv (.int r :: rest) h) : hp_G p l e R s m args below meth c S cs ad A D nL cells slots Q pc lv st h :=
  hp_conti (fun _ _ _ hP hl => hp_runSN E hM F hm hrm hR hR2 hn hst hW hd hP hl) k
end
/-! ===== loops and joins as predicates ===== -/
def hp_lp {α : Type} (body : α → (α → Prop) → Prop) (a : α) : Prop := ∀ P : α → Prop, (∀ b, (∃ B : α → Prop, body b B ∧ ∀ x, B x → P x) → P b) → P a
theorem hp_lp_ind {α : Type} {body : α → (α → Prop) → Prop} (I : α → Prop) (μ : α → Nat) (hs : ∀ a, I a → body a (fun b => I b ∧ μ b < μ a)) (a : α) (h : I a) : hp_lp body a := by
  intro P hP
  have key : ∀ n : Nat, ∀ a, μ a < n → I a → P a := by
    intro n
    induction n with
    | zero => intro a h1; omega
    | succ n ih => exact fun a h1 h2 => hP a ⟨_, hs a h2, fun b hb => ih b (by omega) hb.1⟩
  exact key (μ a + 1) a (Nat.lt_succ_self _) h
def hp_jn {α : Type} (f : (α → Prop) → Prop) (g : α → Prop) : Prop := ∃ K : α → Prop, f K ∧ ∀ a, K a → g a
theorem hp_jn_i {α : Type} {f : (α → Prop) → Prop} {g : α → Prop} (h : f g) : hp_jn f g := ⟨g, h, fun _ q => q⟩
/-- the values of a switch, none of which it is -/
theorem hp_out {x : Int32} {lo hi : Int} (h : ∀ i : Int, lo ≤ i → i ≤ hi → ¬ x.toInt = i) : x.toInt < lo ∨ hi < x.toInt := by
  rcases Decidable.em (x.toInt < lo ∨ hi < x.toInt) with q | q
  · exact q
  · exact absurd rfl (h x.toInt (by omega) (by omega))
theorem hp_nat {x : Int32} {n : Nat} (h : ¬ x = nI n) (hn : n < 2 ^ 31) : ¬ x.toInt = (n : Int) := fun q => h (Int32.toInt_inj.mp (by rw [q, nI_toInt hn]))
end
section
/-! ===== the same rows, shorter: what the tables and shapes say comes as one fact ===== -/
def hp_sh (S : List hp_S) (k ci j : Nat) (d : Nat × Nat × Nat) : Prop := ∃ ds : List (Nat × Nat × Nat), S[k]? = some (.inl (ci, ds)) ∧ ds[j]? = some d
def hp_Fg (own : String) (idx ci j : Nat) : Prop := ∃ (C : String) (T : u_T) (N : Nat) (ref : String), vwCl[ci]? = some (C, T, N) ∧ (∀ w ∈ u_ws C T N, w ∈ hp_tbl) ∧ j < N ∧ (T j).1 = ref ∧ Cond.fieldLink own idx ref (T j).2.1 (T j).2.2.1 ∈ hp_tbl
def hp_Fp (own : String) (idx ci j : Nat) (ty : FieldType) : Prop := ∃ (C : String) (T : u_T) (N : Nat) (ref : String) (ty0 : Nat → FieldType), vwCl[ci]? = some (C, T, N) ∧ (∀ w ∈ u_ws C T N, w ∈ hp_tbl) ∧ j < N ∧ (T j).1 = ref ∧ Cond.fieldLink own idx ref (T j).2.1 (T j).2.2.1 ∈ hp_tbl ∧ (∀ k, k < N → parseFieldDescriptor (T k).2.2.1 = some (ty0 k)) ∧ (∀ a, a < N → ∀ b, b < N → a ≠ b → (T a).2.1 ≠ (T b).2.1) ∧ (T j).2.2.2 = false ∧ ty0 j = ty
section
variable {p : Program} {l : Launch} {e : Env} {R : Room} {s : State} {m : MethodId} {args : Array Value} {below : List Frame} {meth : Method} {c : Code} {S : List hp_S} {cs : Nat → ClassId} {ad : Nat → Nat} {A : Nat → Prop} {D : va_G} {own : String} {cc : ByteArray} {ret : Option FieldType} {nL cells slots : Nat} {Q : State → Prop}
variable {pc : Nat} {lv : List (Nat × Value)} {st : List Value} {h : hp_H}
theorem hp_toph {h0 : hp_H} (k : ∀ h : hp_H, h = h0 → hp_G p l e R s m args below meth c S cs ad A D nL cells slots Q (pc) lv (st) h) : hp_G p l e R s m args below meth c S cs ad A D nL cells slots Q (pc) lv (st) h0 := k _ rfl
theorem hp_topw {x : Nat} (k : ∀ w : Nat, w = x → hp_G p l e R s m args below meth c S cs ad A D nL cells slots Q (pc) lv (.ref (ad w) :: st) h) : hp_G p l e R s m args below meth c S cs ad A D nL cells slots Q (pc) lv (.ref (ad x) :: st) h := k _ rfl
theorem hp_gI (E : hp_Env p R s m args meth c cs D own cc nL ret) {k0 j idx ci : Nat} {u : Nat × Nat} (F : hp_Fg own idx ci j) (hs : hp_sh S k0 ci j (0, u)) (hd : decode cc pc = .ok (.getfield idx, 3)) (k : hp_G p l e R s m args below meth c S cs ad A D nL cells slots Q (pc + 3) lv (.int (h k0 j) :: st) h) : hp_G p l e R s m args below meth c S cs ad A D nL cells slots Q (pc) lv (.ref (ad k0) :: st) h := by
  obtain ⟨C, T, N, ref, f1, f2, f3, f4, f5⟩ := F
  obtain ⟨ds, s1, s2⟩ := hs
  exact hp_geti E k0 j s1 s2 f1 f2 f3 f4 f5 hd k
theorem hp_gR (E : hp_Env p R s m args meth c cs D own cc nL ret) {k0 j t u idx ci : Nat} (F : hp_Fg own idx ci j) (hs : hp_sh S k0 ci j (1, t, u)) (hd : decode cc pc = .ok (.getfield idx, 3)) (k : hp_G p l e R s m args below meth c S cs ad A D nL cells slots Q (pc + 3) lv (.ref (ad t) :: st) h) : hp_G p l e R s m args below meth c S cs ad A D nL cells slots Q (pc) lv (.ref (ad k0) :: st) h := by
  obtain ⟨C, T, N, ref, f1, f2, f3, f4, f5⟩ := F
  obtain ⟨ds, s1, s2⟩ := hs
  exact hp_getr E k0 j t s1 s2 f1 f2 f3 f4 f5 hd k
theorem hp_gM (E : hp_Env p R s m args meth c cs D own cc nL ret) {k0 j t u idx ci : Nat} (F : hp_Fg own idx ci j) (hs : hp_sh S k0 ci j (2, t, u)) (hd : decode cc pc = .ok (.getfield idx, 3)) (k : hp_G p l e R s m args below meth c S cs ad A D nL cells slots Q (pc + 3) lv (.ref (ad (t + (h hp_V u).toNatClampNeg)) :: st) h) : hp_G p l e R s m args below meth c S cs ad A D nL cells slots Q (pc) lv (.ref (ad k0) :: st) h := by
  obtain ⟨C, T, N, ref, f1, f2, f3, f4, f5⟩ := F
  obtain ⟨ds, s1, s2⟩ := hs
  exact hp_getm E k0 j t s1 s2 f1 f2 f3 f4 f5 hd k
theorem hp_pI (E : hp_Env p R s m args meth c cs D own cc nL ret) {k0 j idx ci : Nat} {u : Nat × Nat} {v : Int32} (F : hp_Fp own idx ci j .int) (hs : hp_sh S k0 ci j (0, u)) (h9 : k0 ≠ hp_V) (hJ : hp_J S ad A) (hd : decode cc pc = .ok (.putfield idx, 3)) (k : hp_G p l e R s m args below meth c S cs ad A D nL cells slots Q (pc + 3) lv (st) (hp_up h k0 j v)) : hp_G p l e R s m args below meth c S cs ad A D nL cells slots Q (pc) lv (.int v :: .ref (ad k0) :: st) h := by
  obtain ⟨C, T, N, ref, ty0, f1, f2, f3, f4, f5, f6, f7, f8, f9⟩ := F
  obtain ⟨ds, s1, s2⟩ := hs
  exact hp_puti E k0 j s1 s2 h9 hJ f1 f2 ty0 f6 f7 f3 f4 f8 f5 f9 hd k
theorem hp_pZ (E : hp_Env p R s m args meth c cs D own cc nL ret) {k0 j idx ci : Nat} {u : Nat × Nat} {v : Int32} (F : hp_Fp own idx ci j .boolean) (hs : hp_sh S k0 ci j (0, u)) (h9 : k0 ≠ hp_V) (hJ : hp_J S ad A) (hv : hp_bz v) (hd : decode cc pc = .ok (.putfield idx, 3)) (k : hp_G p l e R s m args below meth c S cs ad A D nL cells slots Q (pc + 3) lv (st) (hp_up h k0 j v)) : hp_G p l e R s m args below meth c S cs ad A D nL cells slots Q (pc) lv (.int v :: .ref (ad k0) :: st) h := by
  obtain ⟨C, T, N, ref, ty0, f1, f2, f3, f4, f5, f6, f7, f8, f9⟩ := F
  obtain ⟨ds, s1, s2⟩ := hs
  exact hp_putz E k0 j s1 s2 h9 hJ f1 f2 ty0 f6 f7 f3 f4 f8 f5 f9 hv hd k
theorem hp_pM (E : hp_Env p R s m args meth c cs D own cc nL ret) {k0 j idx ci x y t : Nat} (F : hp_Fp own idx ci j (.array .int)) (hs : hp_sh S k0 ci j (2, x, y)) (h9 : S.length ≤ hp_V) (hu : ∀ (i c : Nat) (es : List (Nat × Nat × Nat)) (b z : Nat), S[i]? = some (.inl (c, es)) → es[b]? = some (2, z, y) → i = k0 ∧ b = j) (hx : x ≤ t) (ht : t - x < 2 ^ 31) (hJ : hp_J S ad A) (hd : decode cc pc = .ok (.putfield idx, 3)) (k : hp_G p l e R s m args below meth c S cs ad A D nL cells slots Q (pc + 3) lv (st) (hp_up h hp_V y (nI (t - x)))) : hp_G p l e R s m args below meth c S cs ad A D nL cells slots Q (pc) lv (.ref (ad t) :: .ref (ad k0) :: st) h := by
  obtain ⟨C, T, N, ref, ty0, f1, f2, f3, f4, f5, f6, f7, f8, f9⟩ := F
  obtain ⟨ds, s1, s2⟩ := hs
  exact fun H locs ls hP hS hl => va_put (ty := .array .int) E.1 E.2.1 E.2.2.2.2.1 f2 ty0 f6 f7 E.2.2.2.1 E.2.2.2.2.2.1 hP (hJ.D h) hS k0 (hp_W_get s1) f1 j f3 (E.2.2.2.2.1 _ f5) (by rw [f4]; exact fun _ h9 => h9) f8 (by rw [f6 j f3, f9]) rfl rfl (by rw [hp_fs, hp_mi_len]; exact (List.getElem?_eq_some_iff.mp s2).1) hd (fun H1 locs1 hP1 hD1 hS1 => k H1 locs1 ls (by rw [← hp_W_mut s1 s2 h9 hx ht hu]; exact hP1) hS1 hl)
variable {y : MethodName} {C : String} {c1 : ByteArray} {n1 n idx ci N : Nat} {ret1 : Option FieldType} {rm : Room} {As rest : List Value} {dd : Nat × Nat × Nat} {T : u_T}
theorem hp_callVip {Qr : Int32 → Prop} (E : hp_Env p R s m args meth c cs D own cc nL ret) (k0 : Nat) (hs : hp_sh S k0 ci 0 dd) (hc : vwCl[ci]? = some (C, T, N)) (hM : hp_Mi l y c1 n1 ret1 rm (.ref (ad k0) :: As) S cs ad A D h (fun r h' => Qr r ∧ h' = h)) (F : hp_Fv C y c1 n1 ret1 n) (hm : Cond.methodLink own idx y ∈ hp_tbl) (hrm : rm.cells = 0 ∧ rm.slots = 0) (hR : rm.frames + 1 ≤ R.frames ∧ 8 + (n1 + 11) + rm.locals ≤ R.locals) (hR2 : cells ≤ R.cells ∧ slots ≤ R.slots) (hn : As.length = n) (hst : st = As.reverse ++ .ref (ad k0) :: rest) (hW : (rest.map fun v => v.category).sum ≤ 8) (hd : decode cc pc = .ok (.invokevirtual idx, 3)) (k : ∀ (r : Int32), Qr r → hp_G p l e R s m args below meth c S cs ad A D nL cells slots Q (pc + 3) lv (.int r :: rest) h) : hp_G p l e R s m args below meth c S cs ad A D nL cells slots Q (pc) lv (st) h := by
  obtain ⟨ds, s1, s2⟩ := hs
  exact hp_callVi E k0 s1 hc hM F hm hrm hR hR2 hn hst hW hd (fun r h' q => by rw [q.2]; exact k r q.1)
theorem hp_callVi' {Qr : Int32 → hp_H → Prop} (E : hp_Env p R s m args meth c cs D own cc nL ret) (k0 : Nat) (hs : hp_sh S k0 ci 0 dd) (hc : vwCl[ci]? = some (C, T, N)) (hM : hp_Mi l y c1 n1 ret1 rm (.ref (ad k0) :: As) S cs ad A D h Qr) (F : hp_Fv C y c1 n1 ret1 n) (hm : Cond.methodLink own idx y ∈ hp_tbl) (hrm : rm.cells = 0 ∧ rm.slots = 0) (hR : rm.frames + 1 ≤ R.frames ∧ 8 + (n1 + 11) + rm.locals ≤ R.locals) (hR2 : cells ≤ R.cells ∧ slots ≤ R.slots) (hn : As.length = n) (hst : st = As.reverse ++ .ref (ad k0) :: rest) (hW : (rest.map fun v => v.category).sum ≤ 8) (hd : decode cc pc = .ok (.invokevirtual idx, 3)) (k : ∀ (r : Int32) (h : hp_H), Qr r h → hp_G p l e R s m args below meth c S cs ad A D nL cells slots Q (pc + 3) lv (.int r :: rest) h) : hp_G p l e R s m args below meth c S cs ad A D nL cells slots Q (pc) lv (st) h := by
  obtain ⟨ds, s1, s2⟩ := hs
  exact hp_callVi E k0 s1 hc hM F hm hrm hR hR2 hn hst hW hd k
theorem hp_callVv' {Qr : hp_H → Prop} (E : hp_Env p R s m args meth c cs D own cc nL ret) (k0 : Nat) (hs : hp_sh S k0 ci 0 dd) (hc : vwCl[ci]? = some (C, T, N)) (hM : hp_Mv l y c1 n1 ret1 rm (.ref (ad k0) :: As) S cs ad A D h Qr) (F : hp_Fv C y c1 n1 ret1 n) (hm : Cond.methodLink own idx y ∈ hp_tbl) (hrm : rm.cells = 0 ∧ rm.slots = 0) (hR : rm.frames + 1 ≤ R.frames ∧ 8 + (n1 + 11) + rm.locals ≤ R.locals) (hR2 : cells ≤ R.cells ∧ slots ≤ R.slots) (hn : As.length = n) (hst : st = As.reverse ++ .ref (ad k0) :: rest) (hW : (rest.map fun v => v.category).sum ≤ 8) (hd : decode cc pc = .ok (.invokevirtual idx, 3)) (k : ∀ (h : hp_H), Qr h → hp_G p l e R s m args below meth c S cs ad A D nL cells slots Q (pc + 3) lv (rest) h) : hp_G p l e R s m args below meth c S cs ad A D nL cells slots Q (pc) lv (st) h := by
  obtain ⟨ds, s1, s2⟩ := hs
  exact hp_callVv E k0 s1 hc hM F hm hrm hR hR2 hn hst hW hd k
theorem hp_callVr' {Qr : hp_H → Prop} {r : Nat} (E : hp_Env p R s m args meth c cs D own cc nL ret) (k0 : Nat) (hs : hp_sh S k0 ci 0 dd) (hc : vwCl[ci]? = some (C, T, N)) (hM : hp_Mr l y c1 n1 ret1 rm (.ref (ad k0) :: As) S cs ad A D r h Qr) (F : hp_Fv C y c1 n1 ret1 n) (hm : Cond.methodLink own idx y ∈ hp_tbl) (hrm : rm.cells = 0 ∧ rm.slots = 0) (hR : rm.frames + 1 ≤ R.frames ∧ 8 + (n1 + 11) + rm.locals ≤ R.locals) (hR2 : cells ≤ R.cells ∧ slots ≤ R.slots) (hn : As.length = n) (hst : st = As.reverse ++ .ref (ad k0) :: rest) (hW : (rest.map fun v => v.category).sum ≤ 8) (hd : decode cc pc = .ok (.invokevirtual idx, 3)) (k : ∀ (h : hp_H), Qr h → hp_G p l e R s m args below meth c S cs ad A D nL cells slots Q (pc + 3) lv (.ref (ad r) :: rest) h) : hp_G p l e R s m args below meth c S cs ad A D nL cells slots Q (pc) lv (st) h := by
  obtain ⟨ds, s1, s2⟩ := hs
  exact hp_callVr E k0 s1 hc hM F hm hrm hR hR2 hn hst hW hd k
theorem hp_callSip {Qr : Int32 → Prop} (E : hp_Env p R s m args meth c cs D own cc nL ret) (hM : hp_Mi l y c1 n1 ret1 rm As S cs ad A D h (fun r h' => Qr r ∧ h' = h)) (F : hp_Fs y c1 n1 ret1 n) (hm : Cond.methodLink own idx y ∈ hp_tbl) (hrm : rm.cells = 0 ∧ rm.slots = 0) (hR : rm.frames + 1 ≤ R.frames ∧ 8 + (n1 + 11) + rm.locals ≤ R.locals) (hR2 : cells ≤ R.cells ∧ slots ≤ R.slots) (hn : As.length = n) (hst : st = As.reverse ++ rest) (hW : (rest.map fun v => v.category).sum ≤ 8) (hd : decode cc pc = .ok (.invokestatic idx, 3)) (k : ∀ (r : Int32), Qr r → hp_G p l e R s m args below meth c S cs ad A D nL cells slots Q (pc + 3) lv (.int r :: rest) h) : hp_G p l e R s m args below meth c S cs ad A D nL cells slots Q (pc) lv (st) h :=
  hp_callSi E hM F hm hrm hR hR2 hn hst hW hd (fun r h' q => by rw [q.2]; exact k r q.1)
theorem hp_callSvp {Qr : Prop} (E : hp_Env p R s m args meth c cs D own cc nL ret) (hM : hp_Mv l y c1 n1 ret1 rm As S cs ad A D h (fun h' => Qr ∧ h' = h)) (F : hp_Fs y c1 n1 ret1 n) (hm : Cond.methodLink own idx y ∈ hp_tbl) (hrm : rm.cells = 0 ∧ rm.slots = 0) (hR : rm.frames + 1 ≤ R.frames ∧ 8 + (n1 + 11) + rm.locals ≤ R.locals) (hR2 : cells ≤ R.cells ∧ slots ≤ R.slots) (hn : As.length = n) (hst : st = As.reverse ++ rest) (hW : (rest.map fun v => v.category).sum ≤ 8) (hd : decode cc pc = .ok (.invokestatic idx, 3)) (k : Qr → hp_G p l e R s m args below meth c S cs ad A D nL cells slots Q (pc + 3) lv (rest) h) : hp_G p l e R s m args below meth c S cs ad A D nL cells slots Q (pc) lv (st) h :=
  hp_callSv E hM F hm hrm hR hR2 hn hst hW hd (fun h' q => by rw [q.2]; exact k q.1)
theorem hp_callSNip {Qr : Int32 → Prop} {host : String} (E : hp_Env p R s m args meth c cs D own cc nL ret) (hM : hp_Mi l y c1 n1 ret1 rm As S cs ad A D h (fun r h' => Qr r ∧ h' = h)) (F : hp_Fs y c1 n1 ret1 n) (hm : (own, idx, y, host) ∈ hp_nst) (hrm : rm.cells = 0 ∧ rm.slots = 0) (hR : rm.frames + 1 ≤ R.frames ∧ 8 + (n1 + 11) + rm.locals ≤ R.locals) (hR2 : cells ≤ R.cells ∧ slots ≤ R.slots) (hn : As.length = n) (hst : st = As.reverse ++ rest) (hW : (rest.map fun v => v.category).sum ≤ 8) (hd : decode cc pc = .ok (.invokestatic idx, 3)) (k : ∀ (r : Int32), Qr r → hp_G p l e R s m args below meth c S cs ad A D nL cells slots Q (pc + 3) lv (.int r :: rest) h) : hp_G p l e R s m args below meth c S cs ad A D nL cells slots Q (pc) lv (st) h :=
  hp_callSNi E hM F hm hrm hR hR2 hn hst hW hd (fun r h' q => by rw [q.2]; exact k r q.1)
end
/-! ===== loops and joins, by how many numbers they carry ===== -/
def hp_jn0 (f : Prop → Prop) (g : Prop) : Prop := ∃ K : Prop, f K ∧ (K → g)
theorem hp_jn0_i {f : Prop → Prop} {g : Prop} (h : f g) : hp_jn0 f g := ⟨g, h, fun q => q⟩
def hp_lp0h (body : hp_H → (hp_H → Prop) → Prop)  (h : hp_H) : Prop := ∀ P : hp_H → Prop, (∀  (h : hp_H), (∃ B : hp_H → Prop, body h B ∧ ∀  (g : hp_H), B g → P g) → P h) → P h
theorem hp_lp0h_ind {body : hp_H → (hp_H → Prop) → Prop} (I : hp_H → Prop) (μ : hp_H → Nat) (hs : ∀  (h : hp_H), I h → body h (fun g => I g ∧ μ g < μ h))  {h : hp_H} (h0 : I h) : hp_lp0h body h := by
  intro P hP
  have key : ∀ n : Nat, ∀  (h : hp_H), μ h < n → I h → P h := by
    intro n
    induction n with
    | zero => intro h h1; omega
    | succ n ih => exact fun h h1 h2 => hP h ⟨_, hs h h2, fun g hb => ih g (by omega) hb.1⟩
  exact key (μ h + 1) h (Nat.lt_succ_self _) h0
def hp_jn0h (f : (hp_H → Prop) → Prop) (g : hp_H → Prop) : Prop := ∃ K : hp_H → Prop, f K ∧ ∀  (h : hp_H), K h → g h
theorem hp_jn0h_i {f : (hp_H → Prop) → Prop} {g : hp_H → Prop} (h : f g) : hp_jn0h f g := ⟨g, h, fun _ q => q⟩
def hp_lp1 (body : Int32 → (Int32 → Prop) → Prop) (a0 : Int32) : Prop := ∀ P : Int32 → Prop, (∀ (a0 : Int32), (∃ B : Int32 → Prop, body a0 B ∧ ∀ (b0 : Int32), B b0 → P b0) → P a0) → P a0
theorem hp_lp1_ind {body : Int32 → (Int32 → Prop) → Prop} (I : Int32 → Prop) (μ : Int32 → Nat) (hs : ∀ (a0 : Int32), I a0 → body a0 (fun b0 => I b0 ∧ μ b0 < μ a0)) {a0 : Int32} (h0 : I a0) : hp_lp1 body a0 := by
  intro P hP
  have key : ∀ n : Nat, ∀ (a0 : Int32), μ a0 < n → I a0 → P a0 := by
    intro n
    induction n with
    | zero => intro a0 h1; omega
    | succ n ih => exact fun a0 h1 h2 => hP a0 ⟨_, hs a0 h2, fun b0 hb => ih b0 (by omega) hb.1⟩
  exact key (μ a0 + 1) a0 (Nat.lt_succ_self _) h0
def hp_jn1 (f : (Int32 → Prop) → Prop) (g : Int32 → Prop) : Prop := ∃ K : Int32 → Prop, f K ∧ ∀ (a0 : Int32), K a0 → g a0
theorem hp_jn1_i {f : (Int32 → Prop) → Prop} {g : Int32 → Prop} (h : f g) : hp_jn1 f g := ⟨g, h, fun _ q => q⟩
def hp_lp1h (body : Int32 → hp_H → (Int32 → hp_H → Prop) → Prop) (a0 : Int32) (h : hp_H) : Prop := ∀ P : Int32 → hp_H → Prop, (∀ (a0 : Int32) (h : hp_H), (∃ B : Int32 → hp_H → Prop, body a0 h B ∧ ∀ (b0 : Int32) (g : hp_H), B b0 g → P b0 g) → P a0 h) → P a0 h
theorem hp_lp1h_ind {body : Int32 → hp_H → (Int32 → hp_H → Prop) → Prop} (I : Int32 → hp_H → Prop) (μ : Int32 → hp_H → Nat) (hs : ∀ (a0 : Int32) (h : hp_H), I a0 h → body a0 h (fun b0 g => I b0 g ∧ μ b0 g < μ a0 h)) {a0 : Int32} {h : hp_H} (h0 : I a0 h) : hp_lp1h body a0 h := by
  intro P hP
  have key : ∀ n : Nat, ∀ (a0 : Int32) (h : hp_H), μ a0 h < n → I a0 h → P a0 h := by
    intro n
    induction n with
    | zero => intro a0 h h1; omega
    | succ n ih => exact fun a0 h h1 h2 => hP a0 h ⟨_, hs a0 h h2, fun b0 g hb => ih b0 g (by omega) hb.1⟩
  exact key (μ a0 h + 1) a0 h (Nat.lt_succ_self _) h0
def hp_jn1h (f : (Int32 → hp_H → Prop) → Prop) (g : Int32 → hp_H → Prop) : Prop := ∃ K : Int32 → hp_H → Prop, f K ∧ ∀ (a0 : Int32) (h : hp_H), K a0 h → g a0 h
theorem hp_jn1h_i {f : (Int32 → hp_H → Prop) → Prop} {g : Int32 → hp_H → Prop} (h : f g) : hp_jn1h f g := ⟨g, h, fun _ _ q => q⟩
def hp_lp2 (body : Int32 → Int32 → (Int32 → Int32 → Prop) → Prop) (a0 : Int32) (a1 : Int32) : Prop := ∀ P : Int32 → Int32 → Prop, (∀ (a0 : Int32) (a1 : Int32), (∃ B : Int32 → Int32 → Prop, body a0 a1 B ∧ ∀ (b0 : Int32) (b1 : Int32), B b0 b1 → P b0 b1) → P a0 a1) → P a0 a1
theorem hp_lp2_ind {body : Int32 → Int32 → (Int32 → Int32 → Prop) → Prop} (I : Int32 → Int32 → Prop) (μ : Int32 → Int32 → Nat) (hs : ∀ (a0 : Int32) (a1 : Int32), I a0 a1 → body a0 a1 (fun b0 b1 => I b0 b1 ∧ μ b0 b1 < μ a0 a1)) {a0 : Int32} {a1 : Int32} (h0 : I a0 a1) : hp_lp2 body a0 a1 := by
  intro P hP
  have key : ∀ n : Nat, ∀ (a0 : Int32) (a1 : Int32), μ a0 a1 < n → I a0 a1 → P a0 a1 := by
    intro n
    induction n with
    | zero => intro a0 a1 h1; omega
    | succ n ih => exact fun a0 a1 h1 h2 => hP a0 a1 ⟨_, hs a0 a1 h2, fun b0 b1 hb => ih b0 b1 (by omega) hb.1⟩
  exact key (μ a0 a1 + 1) a0 a1 (Nat.lt_succ_self _) h0
def hp_jn2 (f : (Int32 → Int32 → Prop) → Prop) (g : Int32 → Int32 → Prop) : Prop := ∃ K : Int32 → Int32 → Prop, f K ∧ ∀ (a0 : Int32) (a1 : Int32), K a0 a1 → g a0 a1
theorem hp_jn2_i {f : (Int32 → Int32 → Prop) → Prop} {g : Int32 → Int32 → Prop} (h : f g) : hp_jn2 f g := ⟨g, h, fun _ _ q => q⟩
def hp_lp2h (body : Int32 → Int32 → hp_H → (Int32 → Int32 → hp_H → Prop) → Prop) (a0 : Int32) (a1 : Int32) (h : hp_H) : Prop := ∀ P : Int32 → Int32 → hp_H → Prop, (∀ (a0 : Int32) (a1 : Int32) (h : hp_H), (∃ B : Int32 → Int32 → hp_H → Prop, body a0 a1 h B ∧ ∀ (b0 : Int32) (b1 : Int32) (g : hp_H), B b0 b1 g → P b0 b1 g) → P a0 a1 h) → P a0 a1 h
theorem hp_lp2h_ind {body : Int32 → Int32 → hp_H → (Int32 → Int32 → hp_H → Prop) → Prop} (I : Int32 → Int32 → hp_H → Prop) (μ : Int32 → Int32 → hp_H → Nat) (hs : ∀ (a0 : Int32) (a1 : Int32) (h : hp_H), I a0 a1 h → body a0 a1 h (fun b0 b1 g => I b0 b1 g ∧ μ b0 b1 g < μ a0 a1 h)) {a0 : Int32} {a1 : Int32} {h : hp_H} (h0 : I a0 a1 h) : hp_lp2h body a0 a1 h := by
  intro P hP
  have key : ∀ n : Nat, ∀ (a0 : Int32) (a1 : Int32) (h : hp_H), μ a0 a1 h < n → I a0 a1 h → P a0 a1 h := by
    intro n
    induction n with
    | zero => intro a0 a1 h h1; omega
    | succ n ih => exact fun a0 a1 h h1 h2 => hP a0 a1 h ⟨_, hs a0 a1 h h2, fun b0 b1 g hb => ih b0 b1 g (by omega) hb.1⟩
  exact key (μ a0 a1 h + 1) a0 a1 h (Nat.lt_succ_self _) h0
def hp_jn2h (f : (Int32 → Int32 → hp_H → Prop) → Prop) (g : Int32 → Int32 → hp_H → Prop) : Prop := ∃ K : Int32 → Int32 → hp_H → Prop, f K ∧ ∀ (a0 : Int32) (a1 : Int32) (h : hp_H), K a0 a1 h → g a0 a1 h
theorem hp_jn2h_i {f : (Int32 → Int32 → hp_H → Prop) → Prop} {g : Int32 → Int32 → hp_H → Prop} (h : f g) : hp_jn2h f g := ⟨g, h, fun _ _ _ q => q⟩
def hp_lp3 (body : Int32 → Int32 → Int32 → (Int32 → Int32 → Int32 → Prop) → Prop) (a0 : Int32) (a1 : Int32) (a2 : Int32) : Prop := ∀ P : Int32 → Int32 → Int32 → Prop, (∀ (a0 : Int32) (a1 : Int32) (a2 : Int32), (∃ B : Int32 → Int32 → Int32 → Prop, body a0 a1 a2 B ∧ ∀ (b0 : Int32) (b1 : Int32) (b2 : Int32), B b0 b1 b2 → P b0 b1 b2) → P a0 a1 a2) → P a0 a1 a2
theorem hp_lp3_ind {body : Int32 → Int32 → Int32 → (Int32 → Int32 → Int32 → Prop) → Prop} (I : Int32 → Int32 → Int32 → Prop) (μ : Int32 → Int32 → Int32 → Nat) (hs : ∀ (a0 : Int32) (a1 : Int32) (a2 : Int32), I a0 a1 a2 → body a0 a1 a2 (fun b0 b1 b2 => I b0 b1 b2 ∧ μ b0 b1 b2 < μ a0 a1 a2)) {a0 : Int32} {a1 : Int32} {a2 : Int32} (h0 : I a0 a1 a2) : hp_lp3 body a0 a1 a2 := by
  intro P hP
  have key : ∀ n : Nat, ∀ (a0 : Int32) (a1 : Int32) (a2 : Int32), μ a0 a1 a2 < n → I a0 a1 a2 → P a0 a1 a2 := by
    intro n
    induction n with
    | zero => intro a0 a1 a2 h1; omega
    | succ n ih => exact fun a0 a1 a2 h1 h2 => hP a0 a1 a2 ⟨_, hs a0 a1 a2 h2, fun b0 b1 b2 hb => ih b0 b1 b2 (by omega) hb.1⟩
  exact key (μ a0 a1 a2 + 1) a0 a1 a2 (Nat.lt_succ_self _) h0
def hp_jn3 (f : (Int32 → Int32 → Int32 → Prop) → Prop) (g : Int32 → Int32 → Int32 → Prop) : Prop := ∃ K : Int32 → Int32 → Int32 → Prop, f K ∧ ∀ (a0 : Int32) (a1 : Int32) (a2 : Int32), K a0 a1 a2 → g a0 a1 a2
theorem hp_jn3_i {f : (Int32 → Int32 → Int32 → Prop) → Prop} {g : Int32 → Int32 → Int32 → Prop} (h : f g) : hp_jn3 f g := ⟨g, h, fun _ _ _ q => q⟩
def hp_lp3h (body : Int32 → Int32 → Int32 → hp_H → (Int32 → Int32 → Int32 → hp_H → Prop) → Prop) (a0 : Int32) (a1 : Int32) (a2 : Int32) (h : hp_H) : Prop := ∀ P : Int32 → Int32 → Int32 → hp_H → Prop, (∀ (a0 : Int32) (a1 : Int32) (a2 : Int32) (h : hp_H), (∃ B : Int32 → Int32 → Int32 → hp_H → Prop, body a0 a1 a2 h B ∧ ∀ (b0 : Int32) (b1 : Int32) (b2 : Int32) (g : hp_H), B b0 b1 b2 g → P b0 b1 b2 g) → P a0 a1 a2 h) → P a0 a1 a2 h
theorem hp_lp3h_ind {body : Int32 → Int32 → Int32 → hp_H → (Int32 → Int32 → Int32 → hp_H → Prop) → Prop} (I : Int32 → Int32 → Int32 → hp_H → Prop) (μ : Int32 → Int32 → Int32 → hp_H → Nat) (hs : ∀ (a0 : Int32) (a1 : Int32) (a2 : Int32) (h : hp_H), I a0 a1 a2 h → body a0 a1 a2 h (fun b0 b1 b2 g => I b0 b1 b2 g ∧ μ b0 b1 b2 g < μ a0 a1 a2 h)) {a0 : Int32} {a1 : Int32} {a2 : Int32} {h : hp_H} (h0 : I a0 a1 a2 h) : hp_lp3h body a0 a1 a2 h := by
  intro P hP
  have key : ∀ n : Nat, ∀ (a0 : Int32) (a1 : Int32) (a2 : Int32) (h : hp_H), μ a0 a1 a2 h < n → I a0 a1 a2 h → P a0 a1 a2 h := by
    intro n
    induction n with
    | zero => intro a0 a1 a2 h h1; omega
    | succ n ih => exact fun a0 a1 a2 h h1 h2 => hP a0 a1 a2 h ⟨_, hs a0 a1 a2 h h2, fun b0 b1 b2 g hb => ih b0 b1 b2 g (by omega) hb.1⟩
  exact key (μ a0 a1 a2 h + 1) a0 a1 a2 h (Nat.lt_succ_self _) h0
def hp_jn3h (f : (Int32 → Int32 → Int32 → hp_H → Prop) → Prop) (g : Int32 → Int32 → Int32 → hp_H → Prop) : Prop := ∃ K : Int32 → Int32 → Int32 → hp_H → Prop, f K ∧ ∀ (a0 : Int32) (a1 : Int32) (a2 : Int32) (h : hp_H), K a0 a1 a2 h → g a0 a1 a2 h
theorem hp_jn3h_i {f : (Int32 → Int32 → Int32 → hp_H → Prop) → Prop} {g : Int32 → Int32 → Int32 → hp_H → Prop} (h : f g) : hp_jn3h f g := ⟨g, h, fun _ _ _ _ q => q⟩
def hp_lp4 (body : Int32 → Int32 → Int32 → Int32 → (Int32 → Int32 → Int32 → Int32 → Prop) → Prop) (a0 : Int32) (a1 : Int32) (a2 : Int32) (a3 : Int32) : Prop := ∀ P : Int32 → Int32 → Int32 → Int32 → Prop, (∀ (a0 : Int32) (a1 : Int32) (a2 : Int32) (a3 : Int32), (∃ B : Int32 → Int32 → Int32 → Int32 → Prop, body a0 a1 a2 a3 B ∧ ∀ (b0 : Int32) (b1 : Int32) (b2 : Int32) (b3 : Int32), B b0 b1 b2 b3 → P b0 b1 b2 b3) → P a0 a1 a2 a3) → P a0 a1 a2 a3
theorem hp_lp4_ind {body : Int32 → Int32 → Int32 → Int32 → (Int32 → Int32 → Int32 → Int32 → Prop) → Prop} (I : Int32 → Int32 → Int32 → Int32 → Prop) (μ : Int32 → Int32 → Int32 → Int32 → Nat) (hs : ∀ (a0 : Int32) (a1 : Int32) (a2 : Int32) (a3 : Int32), I a0 a1 a2 a3 → body a0 a1 a2 a3 (fun b0 b1 b2 b3 => I b0 b1 b2 b3 ∧ μ b0 b1 b2 b3 < μ a0 a1 a2 a3)) {a0 : Int32} {a1 : Int32} {a2 : Int32} {a3 : Int32} (h0 : I a0 a1 a2 a3) : hp_lp4 body a0 a1 a2 a3 := by
  intro P hP
  have key : ∀ n : Nat, ∀ (a0 : Int32) (a1 : Int32) (a2 : Int32) (a3 : Int32), μ a0 a1 a2 a3 < n → I a0 a1 a2 a3 → P a0 a1 a2 a3 := by
    intro n
    induction n with
    | zero => intro a0 a1 a2 a3 h1; omega
    | succ n ih => exact fun a0 a1 a2 a3 h1 h2 => hP a0 a1 a2 a3 ⟨_, hs a0 a1 a2 a3 h2, fun b0 b1 b2 b3 hb => ih b0 b1 b2 b3 (by omega) hb.1⟩
  exact key (μ a0 a1 a2 a3 + 1) a0 a1 a2 a3 (Nat.lt_succ_self _) h0
def hp_jn4 (f : (Int32 → Int32 → Int32 → Int32 → Prop) → Prop) (g : Int32 → Int32 → Int32 → Int32 → Prop) : Prop := ∃ K : Int32 → Int32 → Int32 → Int32 → Prop, f K ∧ ∀ (a0 : Int32) (a1 : Int32) (a2 : Int32) (a3 : Int32), K a0 a1 a2 a3 → g a0 a1 a2 a3
theorem hp_jn4_i {f : (Int32 → Int32 → Int32 → Int32 → Prop) → Prop} {g : Int32 → Int32 → Int32 → Int32 → Prop} (h : f g) : hp_jn4 f g := ⟨g, h, fun _ _ _ _ q => q⟩
def hp_lp4h (body : Int32 → Int32 → Int32 → Int32 → hp_H → (Int32 → Int32 → Int32 → Int32 → hp_H → Prop) → Prop) (a0 : Int32) (a1 : Int32) (a2 : Int32) (a3 : Int32) (h : hp_H) : Prop := ∀ P : Int32 → Int32 → Int32 → Int32 → hp_H → Prop, (∀ (a0 : Int32) (a1 : Int32) (a2 : Int32) (a3 : Int32) (h : hp_H), (∃ B : Int32 → Int32 → Int32 → Int32 → hp_H → Prop, body a0 a1 a2 a3 h B ∧ ∀ (b0 : Int32) (b1 : Int32) (b2 : Int32) (b3 : Int32) (g : hp_H), B b0 b1 b2 b3 g → P b0 b1 b2 b3 g) → P a0 a1 a2 a3 h) → P a0 a1 a2 a3 h
theorem hp_lp4h_ind {body : Int32 → Int32 → Int32 → Int32 → hp_H → (Int32 → Int32 → Int32 → Int32 → hp_H → Prop) → Prop} (I : Int32 → Int32 → Int32 → Int32 → hp_H → Prop) (μ : Int32 → Int32 → Int32 → Int32 → hp_H → Nat) (hs : ∀ (a0 : Int32) (a1 : Int32) (a2 : Int32) (a3 : Int32) (h : hp_H), I a0 a1 a2 a3 h → body a0 a1 a2 a3 h (fun b0 b1 b2 b3 g => I b0 b1 b2 b3 g ∧ μ b0 b1 b2 b3 g < μ a0 a1 a2 a3 h)) {a0 : Int32} {a1 : Int32} {a2 : Int32} {a3 : Int32} {h : hp_H} (h0 : I a0 a1 a2 a3 h) : hp_lp4h body a0 a1 a2 a3 h := by
  intro P hP
  have key : ∀ n : Nat, ∀ (a0 : Int32) (a1 : Int32) (a2 : Int32) (a3 : Int32) (h : hp_H), μ a0 a1 a2 a3 h < n → I a0 a1 a2 a3 h → P a0 a1 a2 a3 h := by
    intro n
    induction n with
    | zero => intro a0 a1 a2 a3 h h1; omega
    | succ n ih => exact fun a0 a1 a2 a3 h h1 h2 => hP a0 a1 a2 a3 h ⟨_, hs a0 a1 a2 a3 h h2, fun b0 b1 b2 b3 g hb => ih b0 b1 b2 b3 g (by omega) hb.1⟩
  exact key (μ a0 a1 a2 a3 h + 1) a0 a1 a2 a3 h (Nat.lt_succ_self _) h0
def hp_jn4h (f : (Int32 → Int32 → Int32 → Int32 → hp_H → Prop) → Prop) (g : Int32 → Int32 → Int32 → Int32 → hp_H → Prop) : Prop := ∃ K : Int32 → Int32 → Int32 → Int32 → hp_H → Prop, f K ∧ ∀ (a0 : Int32) (a1 : Int32) (a2 : Int32) (a3 : Int32) (h : hp_H), K a0 a1 a2 a3 h → g a0 a1 a2 a3 h
theorem hp_jn4h_i {f : (Int32 → Int32 → Int32 → Int32 → hp_H → Prop) → Prop} {g : Int32 → Int32 → Int32 → Int32 → hp_H → Prop} (h : f g) : hp_jn4h f g := ⟨g, h, fun _ _ _ _ _ q => q⟩
def hp_lp5 (body : Int32 → Int32 → Int32 → Int32 → Int32 → (Int32 → Int32 → Int32 → Int32 → Int32 → Prop) → Prop) (a0 : Int32) (a1 : Int32) (a2 : Int32) (a3 : Int32) (a4 : Int32) : Prop := ∀ P : Int32 → Int32 → Int32 → Int32 → Int32 → Prop, (∀ (a0 : Int32) (a1 : Int32) (a2 : Int32) (a3 : Int32) (a4 : Int32), (∃ B : Int32 → Int32 → Int32 → Int32 → Int32 → Prop, body a0 a1 a2 a3 a4 B ∧ ∀ (b0 : Int32) (b1 : Int32) (b2 : Int32) (b3 : Int32) (b4 : Int32), B b0 b1 b2 b3 b4 → P b0 b1 b2 b3 b4) → P a0 a1 a2 a3 a4) → P a0 a1 a2 a3 a4
theorem hp_lp5_ind {body : Int32 → Int32 → Int32 → Int32 → Int32 → (Int32 → Int32 → Int32 → Int32 → Int32 → Prop) → Prop} (I : Int32 → Int32 → Int32 → Int32 → Int32 → Prop) (μ : Int32 → Int32 → Int32 → Int32 → Int32 → Nat) (hs : ∀ (a0 : Int32) (a1 : Int32) (a2 : Int32) (a3 : Int32) (a4 : Int32), I a0 a1 a2 a3 a4 → body a0 a1 a2 a3 a4 (fun b0 b1 b2 b3 b4 => I b0 b1 b2 b3 b4 ∧ μ b0 b1 b2 b3 b4 < μ a0 a1 a2 a3 a4)) {a0 : Int32} {a1 : Int32} {a2 : Int32} {a3 : Int32} {a4 : Int32} (h0 : I a0 a1 a2 a3 a4) : hp_lp5 body a0 a1 a2 a3 a4 := by
  intro P hP
  have key : ∀ n : Nat, ∀ (a0 : Int32) (a1 : Int32) (a2 : Int32) (a3 : Int32) (a4 : Int32), μ a0 a1 a2 a3 a4 < n → I a0 a1 a2 a3 a4 → P a0 a1 a2 a3 a4 := by
    intro n
    induction n with
    | zero => intro a0 a1 a2 a3 a4 h1; omega
    | succ n ih => exact fun a0 a1 a2 a3 a4 h1 h2 => hP a0 a1 a2 a3 a4 ⟨_, hs a0 a1 a2 a3 a4 h2, fun b0 b1 b2 b3 b4 hb => ih b0 b1 b2 b3 b4 (by omega) hb.1⟩
  exact key (μ a0 a1 a2 a3 a4 + 1) a0 a1 a2 a3 a4 (Nat.lt_succ_self _) h0
def hp_jn5 (f : (Int32 → Int32 → Int32 → Int32 → Int32 → Prop) → Prop) (g : Int32 → Int32 → Int32 → Int32 → Int32 → Prop) : Prop := ∃ K : Int32 → Int32 → Int32 → Int32 → Int32 → Prop, f K ∧ ∀ (a0 : Int32) (a1 : Int32) (a2 : Int32) (a3 : Int32) (a4 : Int32), K a0 a1 a2 a3 a4 → g a0 a1 a2 a3 a4
theorem hp_jn5_i {f : (Int32 → Int32 → Int32 → Int32 → Int32 → Prop) → Prop} {g : Int32 → Int32 → Int32 → Int32 → Int32 → Prop} (h : f g) : hp_jn5 f g := ⟨g, h, fun _ _ _ _ _ q => q⟩
def hp_lp5h (body : Int32 → Int32 → Int32 → Int32 → Int32 → hp_H → (Int32 → Int32 → Int32 → Int32 → Int32 → hp_H → Prop) → Prop) (a0 : Int32) (a1 : Int32) (a2 : Int32) (a3 : Int32) (a4 : Int32) (h : hp_H) : Prop := ∀ P : Int32 → Int32 → Int32 → Int32 → Int32 → hp_H → Prop, (∀ (a0 : Int32) (a1 : Int32) (a2 : Int32) (a3 : Int32) (a4 : Int32) (h : hp_H), (∃ B : Int32 → Int32 → Int32 → Int32 → Int32 → hp_H → Prop, body a0 a1 a2 a3 a4 h B ∧ ∀ (b0 : Int32) (b1 : Int32) (b2 : Int32) (b3 : Int32) (b4 : Int32) (g : hp_H), B b0 b1 b2 b3 b4 g → P b0 b1 b2 b3 b4 g) → P a0 a1 a2 a3 a4 h) → P a0 a1 a2 a3 a4 h
theorem hp_lp5h_ind {body : Int32 → Int32 → Int32 → Int32 → Int32 → hp_H → (Int32 → Int32 → Int32 → Int32 → Int32 → hp_H → Prop) → Prop} (I : Int32 → Int32 → Int32 → Int32 → Int32 → hp_H → Prop) (μ : Int32 → Int32 → Int32 → Int32 → Int32 → hp_H → Nat) (hs : ∀ (a0 : Int32) (a1 : Int32) (a2 : Int32) (a3 : Int32) (a4 : Int32) (h : hp_H), I a0 a1 a2 a3 a4 h → body a0 a1 a2 a3 a4 h (fun b0 b1 b2 b3 b4 g => I b0 b1 b2 b3 b4 g ∧ μ b0 b1 b2 b3 b4 g < μ a0 a1 a2 a3 a4 h)) {a0 : Int32} {a1 : Int32} {a2 : Int32} {a3 : Int32} {a4 : Int32} {h : hp_H} (h0 : I a0 a1 a2 a3 a4 h) : hp_lp5h body a0 a1 a2 a3 a4 h := by
  intro P hP
  have key : ∀ n : Nat, ∀ (a0 : Int32) (a1 : Int32) (a2 : Int32) (a3 : Int32) (a4 : Int32) (h : hp_H), μ a0 a1 a2 a3 a4 h < n → I a0 a1 a2 a3 a4 h → P a0 a1 a2 a3 a4 h := by
    intro n
    induction n with
    | zero => intro a0 a1 a2 a3 a4 h h1; omega
    | succ n ih => exact fun a0 a1 a2 a3 a4 h h1 h2 => hP a0 a1 a2 a3 a4 h ⟨_, hs a0 a1 a2 a3 a4 h h2, fun b0 b1 b2 b3 b4 g hb => ih b0 b1 b2 b3 b4 g (by omega) hb.1⟩
  exact key (μ a0 a1 a2 a3 a4 h + 1) a0 a1 a2 a3 a4 h (Nat.lt_succ_self _) h0
def hp_jn5h (f : (Int32 → Int32 → Int32 → Int32 → Int32 → hp_H → Prop) → Prop) (g : Int32 → Int32 → Int32 → Int32 → Int32 → hp_H → Prop) : Prop := ∃ K : Int32 → Int32 → Int32 → Int32 → Int32 → hp_H → Prop, f K ∧ ∀ (a0 : Int32) (a1 : Int32) (a2 : Int32) (a3 : Int32) (a4 : Int32) (h : hp_H), K a0 a1 a2 a3 a4 h → g a0 a1 a2 a3 a4 h
theorem hp_jn5h_i {f : (Int32 → Int32 → Int32 → Int32 → Int32 → hp_H → Prop) → Prop} {g : Int32 → Int32 → Int32 → Int32 → Int32 → hp_H → Prop} (h : f g) : hp_jn5h f g := ⟨g, h, fun _ _ _ _ _ _ q => q⟩
def hp_lp6 (body : Int32 → Int32 → Int32 → Int32 → Int32 → Int32 → (Int32 → Int32 → Int32 → Int32 → Int32 → Int32 → Prop) → Prop) (a0 : Int32) (a1 : Int32) (a2 : Int32) (a3 : Int32) (a4 : Int32) (a5 : Int32) : Prop := ∀ P : Int32 → Int32 → Int32 → Int32 → Int32 → Int32 → Prop, (∀ (a0 : Int32) (a1 : Int32) (a2 : Int32) (a3 : Int32) (a4 : Int32) (a5 : Int32), (∃ B : Int32 → Int32 → Int32 → Int32 → Int32 → Int32 → Prop, body a0 a1 a2 a3 a4 a5 B ∧ ∀ (b0 : Int32) (b1 : Int32) (b2 : Int32) (b3 : Int32) (b4 : Int32) (b5 : Int32), B b0 b1 b2 b3 b4 b5 → P b0 b1 b2 b3 b4 b5) → P a0 a1 a2 a3 a4 a5) → P a0 a1 a2 a3 a4 a5
theorem hp_lp6_ind {body : Int32 → Int32 → Int32 → Int32 → Int32 → Int32 → (Int32 → Int32 → Int32 → Int32 → Int32 → Int32 → Prop) → Prop} (I : Int32 → Int32 → Int32 → Int32 → Int32 → Int32 → Prop) (μ : Int32 → Int32 → Int32 → Int32 → Int32 → Int32 → Nat) (hs : ∀ (a0 : Int32) (a1 : Int32) (a2 : Int32) (a3 : Int32) (a4 : Int32) (a5 : Int32), I a0 a1 a2 a3 a4 a5 → body a0 a1 a2 a3 a4 a5 (fun b0 b1 b2 b3 b4 b5 => I b0 b1 b2 b3 b4 b5 ∧ μ b0 b1 b2 b3 b4 b5 < μ a0 a1 a2 a3 a4 a5)) {a0 : Int32} {a1 : Int32} {a2 : Int32} {a3 : Int32} {a4 : Int32} {a5 : Int32} (h0 : I a0 a1 a2 a3 a4 a5) : hp_lp6 body a0 a1 a2 a3 a4 a5 := by
  intro P hP
  have key : ∀ n : Nat, ∀ (a0 : Int32) (a1 : Int32) (a2 : Int32) (a3 : Int32) (a4 : Int32) (a5 : Int32), μ a0 a1 a2 a3 a4 a5 < n → I a0 a1 a2 a3 a4 a5 → P a0 a1 a2 a3 a4 a5 := by
    intro n
    induction n with
    | zero => intro a0 a1 a2 a3 a4 a5 h1; omega
    | succ n ih => exact fun a0 a1 a2 a3 a4 a5 h1 h2 => hP a0 a1 a2 a3 a4 a5 ⟨_, hs a0 a1 a2 a3 a4 a5 h2, fun b0 b1 b2 b3 b4 b5 hb => ih b0 b1 b2 b3 b4 b5 (by omega) hb.1⟩
  exact key (μ a0 a1 a2 a3 a4 a5 + 1) a0 a1 a2 a3 a4 a5 (Nat.lt_succ_self _) h0
def hp_jn6 (f : (Int32 → Int32 → Int32 → Int32 → Int32 → Int32 → Prop) → Prop) (g : Int32 → Int32 → Int32 → Int32 → Int32 → Int32 → Prop) : Prop := ∃ K : Int32 → Int32 → Int32 → Int32 → Int32 → Int32 → Prop, f K ∧ ∀ (a0 : Int32) (a1 : Int32) (a2 : Int32) (a3 : Int32) (a4 : Int32) (a5 : Int32), K a0 a1 a2 a3 a4 a5 → g a0 a1 a2 a3 a4 a5
theorem hp_jn6_i {f : (Int32 → Int32 → Int32 → Int32 → Int32 → Int32 → Prop) → Prop} {g : Int32 → Int32 → Int32 → Int32 → Int32 → Int32 → Prop} (h : f g) : hp_jn6 f g := ⟨g, h, fun _ _ _ _ _ _ q => q⟩
def hp_lp6h (body : Int32 → Int32 → Int32 → Int32 → Int32 → Int32 → hp_H → (Int32 → Int32 → Int32 → Int32 → Int32 → Int32 → hp_H → Prop) → Prop) (a0 : Int32) (a1 : Int32) (a2 : Int32) (a3 : Int32) (a4 : Int32) (a5 : Int32) (h : hp_H) : Prop := ∀ P : Int32 → Int32 → Int32 → Int32 → Int32 → Int32 → hp_H → Prop, (∀ (a0 : Int32) (a1 : Int32) (a2 : Int32) (a3 : Int32) (a4 : Int32) (a5 : Int32) (h : hp_H), (∃ B : Int32 → Int32 → Int32 → Int32 → Int32 → Int32 → hp_H → Prop, body a0 a1 a2 a3 a4 a5 h B ∧ ∀ (b0 : Int32) (b1 : Int32) (b2 : Int32) (b3 : Int32) (b4 : Int32) (b5 : Int32) (g : hp_H), B b0 b1 b2 b3 b4 b5 g → P b0 b1 b2 b3 b4 b5 g) → P a0 a1 a2 a3 a4 a5 h) → P a0 a1 a2 a3 a4 a5 h
theorem hp_lp6h_ind {body : Int32 → Int32 → Int32 → Int32 → Int32 → Int32 → hp_H → (Int32 → Int32 → Int32 → Int32 → Int32 → Int32 → hp_H → Prop) → Prop} (I : Int32 → Int32 → Int32 → Int32 → Int32 → Int32 → hp_H → Prop) (μ : Int32 → Int32 → Int32 → Int32 → Int32 → Int32 → hp_H → Nat) (hs : ∀ (a0 : Int32) (a1 : Int32) (a2 : Int32) (a3 : Int32) (a4 : Int32) (a5 : Int32) (h : hp_H), I a0 a1 a2 a3 a4 a5 h → body a0 a1 a2 a3 a4 a5 h (fun b0 b1 b2 b3 b4 b5 g => I b0 b1 b2 b3 b4 b5 g ∧ μ b0 b1 b2 b3 b4 b5 g < μ a0 a1 a2 a3 a4 a5 h)) {a0 : Int32} {a1 : Int32} {a2 : Int32} {a3 : Int32} {a4 : Int32} {a5 : Int32} {h : hp_H} (h0 : I a0 a1 a2 a3 a4 a5 h) : hp_lp6h body a0 a1 a2 a3 a4 a5 h := by
  intro P hP
  have key : ∀ n : Nat, ∀ (a0 : Int32) (a1 : Int32) (a2 : Int32) (a3 : Int32) (a4 : Int32) (a5 : Int32) (h : hp_H), μ a0 a1 a2 a3 a4 a5 h < n → I a0 a1 a2 a3 a4 a5 h → P a0 a1 a2 a3 a4 a5 h := by
    intro n
    induction n with
    | zero => intro a0 a1 a2 a3 a4 a5 h h1; omega
    | succ n ih => exact fun a0 a1 a2 a3 a4 a5 h h1 h2 => hP a0 a1 a2 a3 a4 a5 h ⟨_, hs a0 a1 a2 a3 a4 a5 h h2, fun b0 b1 b2 b3 b4 b5 g hb => ih b0 b1 b2 b3 b4 b5 g (by omega) hb.1⟩
  exact key (μ a0 a1 a2 a3 a4 a5 h + 1) a0 a1 a2 a3 a4 a5 h (Nat.lt_succ_self _) h0
def hp_jn6h (f : (Int32 → Int32 → Int32 → Int32 → Int32 → Int32 → hp_H → Prop) → Prop) (g : Int32 → Int32 → Int32 → Int32 → Int32 → Int32 → hp_H → Prop) : Prop := ∃ K : Int32 → Int32 → Int32 → Int32 → Int32 → Int32 → hp_H → Prop, f K ∧ ∀ (a0 : Int32) (a1 : Int32) (a2 : Int32) (a3 : Int32) (a4 : Int32) (a5 : Int32) (h : hp_H), K a0 a1 a2 a3 a4 a5 h → g a0 a1 a2 a3 a4 a5 h
theorem hp_jn6h_i {f : (Int32 → Int32 → Int32 → Int32 → Int32 → Int32 → hp_H → Prop) → Prop} {g : Int32 → Int32 → Int32 → Int32 → Int32 → Int32 → hp_H → Prop} (h : f g) : hp_jn6h f g := ⟨g, h, fun _ _ _ _ _ _ _ q => q⟩
def hp_lp7 (body : Int32 → Int32 → Int32 → Int32 → Int32 → Int32 → Int32 → (Int32 → Int32 → Int32 → Int32 → Int32 → Int32 → Int32 → Prop) → Prop) (a0 : Int32) (a1 : Int32) (a2 : Int32) (a3 : Int32) (a4 : Int32) (a5 : Int32) (a6 : Int32) : Prop := ∀ P : Int32 → Int32 → Int32 → Int32 → Int32 → Int32 → Int32 → Prop, (∀ (a0 : Int32) (a1 : Int32) (a2 : Int32) (a3 : Int32) (a4 : Int32) (a5 : Int32) (a6 : Int32), (∃ B : Int32 → Int32 → Int32 → Int32 → Int32 → Int32 → Int32 → Prop, body a0 a1 a2 a3 a4 a5 a6 B ∧ ∀ (b0 : Int32) (b1 : Int32) (b2 : Int32) (b3 : Int32) (b4 : Int32) (b5 : Int32) (b6 : Int32), B b0 b1 b2 b3 b4 b5 b6 → P b0 b1 b2 b3 b4 b5 b6) → P a0 a1 a2 a3 a4 a5 a6) → P a0 a1 a2 a3 a4 a5 a6
theorem hp_lp7_ind {body : Int32 → Int32 → Int32 → Int32 → Int32 → Int32 → Int32 → (Int32 → Int32 → Int32 → Int32 → Int32 → Int32 → Int32 → Prop) → Prop} (I : Int32 → Int32 → Int32 → Int32 → Int32 → Int32 → Int32 → Prop) (μ : Int32 → Int32 → Int32 → Int32 → Int32 → Int32 → Int32 → Nat) (hs : ∀ (a0 : Int32) (a1 : Int32) (a2 : Int32) (a3 : Int32) (a4 : Int32) (a5 : Int32) (a6 : Int32), I a0 a1 a2 a3 a4 a5 a6 → body a0 a1 a2 a3 a4 a5 a6 (fun b0 b1 b2 b3 b4 b5 b6 => I b0 b1 b2 b3 b4 b5 b6 ∧ μ b0 b1 b2 b3 b4 b5 b6 < μ a0 a1 a2 a3 a4 a5 a6)) {a0 : Int32} {a1 : Int32} {a2 : Int32} {a3 : Int32} {a4 : Int32} {a5 : Int32} {a6 : Int32} (h0 : I a0 a1 a2 a3 a4 a5 a6) : hp_lp7 body a0 a1 a2 a3 a4 a5 a6 := by
  intro P hP
  have key : ∀ n : Nat, ∀ (a0 : Int32) (a1 : Int32) (a2 : Int32) (a3 : Int32) (a4 : Int32) (a5 : Int32) (a6 : Int32), μ a0 a1 a2 a3 a4 a5 a6 < n → I a0 a1 a2 a3 a4 a5 a6 → P a0 a1 a2 a3 a4 a5 a6 := by
    intro n
    induction n with
    | zero => intro a0 a1 a2 a3 a4 a5 a6 h1; omega
    | succ n ih => exact fun a0 a1 a2 a3 a4 a5 a6 h1 h2 => hP a0 a1 a2 a3 a4 a5 a6 ⟨_, hs a0 a1 a2 a3 a4 a5 a6 h2, fun b0 b1 b2 b3 b4 b5 b6 hb => ih b0 b1 b2 b3 b4 b5 b6 (by omega) hb.1⟩
  exact key (μ a0 a1 a2 a3 a4 a5 a6 + 1) a0 a1 a2 a3 a4 a5 a6 (Nat.lt_succ_self _) h0
def hp_jn7 (f : (Int32 → Int32 → Int32 → Int32 → Int32 → Int32 → Int32 → Prop) → Prop) (g : Int32 → Int32 → Int32 → Int32 → Int32 → Int32 → Int32 → Prop) : Prop := ∃ K : Int32 → Int32 → Int32 → Int32 → Int32 → Int32 → Int32 → Prop, f K ∧ ∀ (a0 : Int32) (a1 : Int32) (a2 : Int32) (a3 : Int32) (a4 : Int32) (a5 : Int32) (a6 : Int32), K a0 a1 a2 a3 a4 a5 a6 → g a0 a1 a2 a3 a4 a5 a6
theorem hp_jn7_i {f : (Int32 → Int32 → Int32 → Int32 → Int32 → Int32 → Int32 → Prop) → Prop} {g : Int32 → Int32 → Int32 → Int32 → Int32 → Int32 → Int32 → Prop} (h : f g) : hp_jn7 f g := ⟨g, h, fun _ _ _ _ _ _ _ q => q⟩
def hp_lp7h (body : Int32 → Int32 → Int32 → Int32 → Int32 → Int32 → Int32 → hp_H → (Int32 → Int32 → Int32 → Int32 → Int32 → Int32 → Int32 → hp_H → Prop) → Prop) (a0 : Int32) (a1 : Int32) (a2 : Int32) (a3 : Int32) (a4 : Int32) (a5 : Int32) (a6 : Int32) (h : hp_H) : Prop := ∀ P : Int32 → Int32 → Int32 → Int32 → Int32 → Int32 → Int32 → hp_H → Prop, (∀ (a0 : Int32) (a1 : Int32) (a2 : Int32) (a3 : Int32) (a4 : Int32) (a5 : Int32) (a6 : Int32) (h : hp_H), (∃ B : Int32 → Int32 → Int32 → Int32 → Int32 → Int32 → Int32 → hp_H → Prop, body a0 a1 a2 a3 a4 a5 a6 h B ∧ ∀ (b0 : Int32) (b1 : Int32) (b2 : Int32) (b3 : Int32) (b4 : Int32) (b5 : Int32) (b6 : Int32) (g : hp_H), B b0 b1 b2 b3 b4 b5 b6 g → P b0 b1 b2 b3 b4 b5 b6 g) → P a0 a1 a2 a3 a4 a5 a6 h) → P a0 a1 a2 a3 a4 a5 a6 h
theorem hp_lp7h_ind {body : Int32 → Int32 → Int32 → Int32 → Int32 → Int32 → Int32 → hp_H → (Int32 → Int32 → Int32 → Int32 → Int32 → Int32 → Int32 → hp_H → Prop) → Prop} (I : Int32 → Int32 → Int32 → Int32 → Int32 → Int32 → Int32 → hp_H → Prop) (μ : Int32 → Int32 → Int32 → Int32 → Int32 → Int32 → Int32 → hp_H → Nat) (hs : ∀ (a0 : Int32) (a1 : Int32) (a2 : Int32) (a3 : Int32) (a4 : Int32) (a5 : Int32) (a6 : Int32) (h : hp_H), I a0 a1 a2 a3 a4 a5 a6 h → body a0 a1 a2 a3 a4 a5 a6 h (fun b0 b1 b2 b3 b4 b5 b6 g => I b0 b1 b2 b3 b4 b5 b6 g ∧ μ b0 b1 b2 b3 b4 b5 b6 g < μ a0 a1 a2 a3 a4 a5 a6 h)) {a0 : Int32} {a1 : Int32} {a2 : Int32} {a3 : Int32} {a4 : Int32} {a5 : Int32} {a6 : Int32} {h : hp_H} (h0 : I a0 a1 a2 a3 a4 a5 a6 h) : hp_lp7h body a0 a1 a2 a3 a4 a5 a6 h := by
  intro P hP
  have key : ∀ n : Nat, ∀ (a0 : Int32) (a1 : Int32) (a2 : Int32) (a3 : Int32) (a4 : Int32) (a5 : Int32) (a6 : Int32) (h : hp_H), μ a0 a1 a2 a3 a4 a5 a6 h < n → I a0 a1 a2 a3 a4 a5 a6 h → P a0 a1 a2 a3 a4 a5 a6 h := by
    intro n
    induction n with
    | zero => intro a0 a1 a2 a3 a4 a5 a6 h h1; omega
    | succ n ih => exact fun a0 a1 a2 a3 a4 a5 a6 h h1 h2 => hP a0 a1 a2 a3 a4 a5 a6 h ⟨_, hs a0 a1 a2 a3 a4 a5 a6 h h2, fun b0 b1 b2 b3 b4 b5 b6 g hb => ih b0 b1 b2 b3 b4 b5 b6 g (by omega) hb.1⟩
  exact key (μ a0 a1 a2 a3 a4 a5 a6 h + 1) a0 a1 a2 a3 a4 a5 a6 h (Nat.lt_succ_self _) h0
def hp_jn7h (f : (Int32 → Int32 → Int32 → Int32 → Int32 → Int32 → Int32 → hp_H → Prop) → Prop) (g : Int32 → Int32 → Int32 → Int32 → Int32 → Int32 → Int32 → hp_H → Prop) : Prop := ∃ K : Int32 → Int32 → Int32 → Int32 → Int32 → Int32 → Int32 → hp_H → Prop, f K ∧ ∀ (a0 : Int32) (a1 : Int32) (a2 : Int32) (a3 : Int32) (a4 : Int32) (a5 : Int32) (a6 : Int32) (h : hp_H), K a0 a1 a2 a3 a4 a5 a6 h → g a0 a1 a2 a3 a4 a5 a6 h
theorem hp_jn7h_i {f : (Int32 → Int32 → Int32 → Int32 → Int32 → Int32 → Int32 → hp_H → Prop) → Prop} {g : Int32 → Int32 → Int32 → Int32 → Int32 → Int32 → Int32 → hp_H → Prop} (h : f g) : hp_jn7h f g := ⟨g, h, fun _ _ _ _ _ _ _ _ q => q⟩
def hp_lp8 (body : Int32 → Int32 → Int32 → Int32 → Int32 → Int32 → Int32 → Int32 → (Int32 → Int32 → Int32 → Int32 → Int32 → Int32 → Int32 → Int32 → Prop) → Prop) (a0 : Int32) (a1 : Int32) (a2 : Int32) (a3 : Int32) (a4 : Int32) (a5 : Int32) (a6 : Int32) (a7 : Int32) : Prop := ∀ P : Int32 → Int32 → Int32 → Int32 → Int32 → Int32 → Int32 → Int32 → Prop, (∀ (a0 : Int32) (a1 : Int32) (a2 : Int32) (a3 : Int32) (a4 : Int32) (a5 : Int32) (a6 : Int32) (a7 : Int32), (∃ B : Int32 → Int32 → Int32 → Int32 → Int32 → Int32 → Int32 → Int32 → Prop, body a0 a1 a2 a3 a4 a5 a6 a7 B ∧ ∀ (b0 : Int32) (b1 : Int32) (b2 : Int32) (b3 : Int32) (b4 : Int32) (b5 : Int32) (b6 : Int32) (b7 : Int32), B b0 b1 b2 b3 b4 b5 b6 b7 → P b0 b1 b2 b3 b4 b5 b6 b7) → P a0 a1 a2 a3 a4 a5 a6 a7) → P a0 a1 a2 a3 a4 a5 a6 a7
theorem hp_lp8_ind {body : Int32 → Int32 → Int32 → Int32 → Int32 → Int32 → Int32 → Int32 → (Int32 → Int32 → Int32 → Int32 → Int32 → Int32 → Int32 → Int32 → Prop) → Prop} (I : Int32 → Int32 → Int32 → Int32 → Int32 → Int32 → Int32 → Int32 → Prop) (μ : Int32 → Int32 → Int32 → Int32 → Int32 → Int32 → Int32 → Int32 → Nat) (hs : ∀ (a0 : Int32) (a1 : Int32) (a2 : Int32) (a3 : Int32) (a4 : Int32) (a5 : Int32) (a6 : Int32) (a7 : Int32), I a0 a1 a2 a3 a4 a5 a6 a7 → body a0 a1 a2 a3 a4 a5 a6 a7 (fun b0 b1 b2 b3 b4 b5 b6 b7 => I b0 b1 b2 b3 b4 b5 b6 b7 ∧ μ b0 b1 b2 b3 b4 b5 b6 b7 < μ a0 a1 a2 a3 a4 a5 a6 a7)) {a0 : Int32} {a1 : Int32} {a2 : Int32} {a3 : Int32} {a4 : Int32} {a5 : Int32} {a6 : Int32} {a7 : Int32} (h0 : I a0 a1 a2 a3 a4 a5 a6 a7) : hp_lp8 body a0 a1 a2 a3 a4 a5 a6 a7 := by
  intro P hP
  have key : ∀ n : Nat, ∀ (a0 : Int32) (a1 : Int32) (a2 : Int32) (a3 : Int32) (a4 : Int32) (a5 : Int32) (a6 : Int32) (a7 : Int32), μ a0 a1 a2 a3 a4 a5 a6 a7 < n → I a0 a1 a2 a3 a4 a5 a6 a7 → P a0 a1 a2 a3 a4 a5 a6 a7 := by
    intro n
    induction n with
    | zero => intro a0 a1 a2 a3 a4 a5 a6 a7 h1; omega
    | succ n ih => exact fun a0 a1 a2 a3 a4 a5 a6 a7 h1 h2 => hP a0 a1 a2 a3 a4 a5 a6 a7 ⟨_, hs a0 a1 a2 a3 a4 a5 a6 a7 h2, fun b0 b1 b2 b3 b4 b5 b6 b7 hb => ih b0 b1 b2 b3 b4 b5 b6 b7 (by omega) hb.1⟩
  exact key (μ a0 a1 a2 a3 a4 a5 a6 a7 + 1) a0 a1 a2 a3 a4 a5 a6 a7 (Nat.lt_succ_self _) h0
def hp_jn8 (f : (Int32 → Int32 → Int32 → Int32 → Int32 → Int32 → Int32 → Int32 → Prop) → Prop) (g : Int32 → Int32 → Int32 → Int32 → Int32 → Int32 → Int32 → Int32 → Prop) : Prop := ∃ K : Int32 → Int32 → Int32 → Int32 → Int32 → Int32 → Int32 → Int32 → Prop, f K ∧ ∀ (a0 : Int32) (a1 : Int32) (a2 : Int32) (a3 : Int32) (a4 : Int32) (a5 : Int32) (a6 : Int32) (a7 : Int32), K a0 a1 a2 a3 a4 a5 a6 a7 → g a0 a1 a2 a3 a4 a5 a6 a7
theorem hp_jn8_i {f : (Int32 → Int32 → Int32 → Int32 → Int32 → Int32 → Int32 → Int32 → Prop) → Prop} {g : Int32 → Int32 → Int32 → Int32 → Int32 → Int32 → Int32 → Int32 → Prop} (h : f g) : hp_jn8 f g := ⟨g, h, fun _ _ _ _ _ _ _ _ q => q⟩
def hp_lp8h (body : Int32 → Int32 → Int32 → Int32 → Int32 → Int32 → Int32 → Int32 → hp_H → (Int32 → Int32 → Int32 → Int32 → Int32 → Int32 → Int32 → Int32 → hp_H → Prop) → Prop) (a0 : Int32) (a1 : Int32) (a2 : Int32) (a3 : Int32) (a4 : Int32) (a5 : Int32) (a6 : Int32) (a7 : Int32) (h : hp_H) : Prop := ∀ P : Int32 → Int32 → Int32 → Int32 → Int32 → Int32 → Int32 → Int32 → hp_H → Prop, (∀ (a0 : Int32) (a1 : Int32) (a2 : Int32) (a3 : Int32) (a4 : Int32) (a5 : Int32) (a6 : Int32) (a7 : Int32) (h : hp_H), (∃ B : Int32 → Int32 → Int32 → Int32 → Int32 → Int32 → Int32 → Int32 → hp_H → Prop, body a0 a1 a2 a3 a4 a5 a6 a7 h B ∧ ∀ (b0 : Int32) (b1 : Int32) (b2 : Int32) (b3 : Int32) (b4 : Int32) (b5 : Int32) (b6 : Int32) (b7 : Int32) (g : hp_H), B b0 b1 b2 b3 b4 b5 b6 b7 g → P b0 b1 b2 b3 b4 b5 b6 b7 g) → P a0 a1 a2 a3 a4 a5 a6 a7 h) → P a0 a1 a2 a3 a4 a5 a6 a7 h
theorem hp_lp8h_ind {body : Int32 → Int32 → Int32 → Int32 → Int32 → Int32 → Int32 → Int32 → hp_H → (Int32 → Int32 → Int32 → Int32 → Int32 → Int32 → Int32 → Int32 → hp_H → Prop) → Prop} (I : Int32 → Int32 → Int32 → Int32 → Int32 → Int32 → Int32 → Int32 → hp_H → Prop) (μ : Int32 → Int32 → Int32 → Int32 → Int32 → Int32 → Int32 → Int32 → hp_H → Nat) (hs : ∀ (a0 : Int32) (a1 : Int32) (a2 : Int32) (a3 : Int32) (a4 : Int32) (a5 : Int32) (a6 : Int32) (a7 : Int32) (h : hp_H), I a0 a1 a2 a3 a4 a5 a6 a7 h → body a0 a1 a2 a3 a4 a5 a6 a7 h (fun b0 b1 b2 b3 b4 b5 b6 b7 g => I b0 b1 b2 b3 b4 b5 b6 b7 g ∧ μ b0 b1 b2 b3 b4 b5 b6 b7 g < μ a0 a1 a2 a3 a4 a5 a6 a7 h)) {a0 : Int32} {a1 : Int32} {a2 : Int32} {a3 : Int32} {a4 : Int32} {a5 : Int32} {a6 : Int32} {a7 : Int32} {h : hp_H} (h0 : I a0 a1 a2 a3 a4 a5 a6 a7 h) : hp_lp8h body a0 a1 a2 a3 a4 a5 a6 a7 h := by
  intro P hP
  have key : ∀ n : Nat, ∀ (a0 : Int32) (a1 : Int32) (a2 : Int32) (a3 : Int32) (a4 : Int32) (a5 : Int32) (a6 : Int32) (a7 : Int32) (h : hp_H), μ a0 a1 a2 a3 a4 a5 a6 a7 h < n → I a0 a1 a2 a3 a4 a5 a6 a7 h → P a0 a1 a2 a3 a4 a5 a6 a7 h := by
    intro n
    induction n with
    | zero => intro a0 a1 a2 a3 a4 a5 a6 a7 h h1; omega
    | succ n ih => exact fun a0 a1 a2 a3 a4 a5 a6 a7 h h1 h2 => hP a0 a1 a2 a3 a4 a5 a6 a7 h ⟨_, hs a0 a1 a2 a3 a4 a5 a6 a7 h h2, fun b0 b1 b2 b3 b4 b5 b6 b7 g hb => ih b0 b1 b2 b3 b4 b5 b6 b7 g (by omega) hb.1⟩
  exact key (μ a0 a1 a2 a3 a4 a5 a6 a7 h + 1) a0 a1 a2 a3 a4 a5 a6 a7 h (Nat.lt_succ_self _) h0
def hp_jn8h (f : (Int32 → Int32 → Int32 → Int32 → Int32 → Int32 → Int32 → Int32 → hp_H → Prop) → Prop) (g : Int32 → Int32 → Int32 → Int32 → Int32 → Int32 → Int32 → Int32 → hp_H → Prop) : Prop := ∃ K : Int32 → Int32 → Int32 → Int32 → Int32 → Int32 → Int32 → Int32 → hp_H → Prop, f K ∧ ∀ (a0 : Int32) (a1 : Int32) (a2 : Int32) (a3 : Int32) (a4 : Int32) (a5 : Int32) (a6 : Int32) (a7 : Int32) (h : hp_H), K a0 a1 a2 a3 a4 a5 a6 a7 h → g a0 a1 a2 a3 a4 a5 a6 a7 h
theorem hp_jn8h_i {f : (Int32 → Int32 → Int32 → Int32 → Int32 → Int32 → Int32 → Int32 → hp_H → Prop) → Prop} {g : Int32 → Int32 → Int32 → Int32 → Int32 → Int32 → Int32 → Int32 → hp_H → Prop} (h : f g) : hp_jn8h f g := ⟨g, h, fun _ _ _ _ _ _ _ _ _ q => q⟩
def hp_lp9 (body : Int32 → Int32 → Int32 → Int32 → Int32 → Int32 → Int32 → Int32 → Int32 → (Int32 → Int32 → Int32 → Int32 → Int32 → Int32 → Int32 → Int32 → Int32 → Prop) → Prop) (a0 : Int32) (a1 : Int32) (a2 : Int32) (a3 : Int32) (a4 : Int32) (a5 : Int32) (a6 : Int32) (a7 : Int32) (a8 : Int32) : Prop := ∀ P : Int32 → Int32 → Int32 → Int32 → Int32 → Int32 → Int32 → Int32 → Int32 → Prop, (∀ (a0 : Int32) (a1 : Int32) (a2 : Int32) (a3 : Int32) (a4 : Int32) (a5 : Int32) (a6 : Int32) (a7 : Int32) (a8 : Int32), (∃ B : Int32 → Int32 → Int32 → Int32 → Int32 → Int32 → Int32 → Int32 → Int32 → Prop, body a0 a1 a2 a3 a4 a5 a6 a7 a8 B ∧ ∀ (b0 : Int32) (b1 : Int32) (b2 : Int32) (b3 : Int32) (b4 : Int32) (b5 : Int32) (b6 : Int32) (b7 : Int32) (b8 : Int32), B b0 b1 b2 b3 b4 b5 b6 b7 b8 → P b0 b1 b2 b3 b4 b5 b6 b7 b8) → P a0 a1 a2 a3 a4 a5 a6 a7 a8) → P a0 a1 a2 a3 a4 a5 a6 a7 a8
theorem hp_lp9_ind {body : Int32 → Int32 → Int32 → Int32 → Int32 → Int32 → Int32 → Int32 → Int32 → (Int32 → Int32 → Int32 → Int32 → Int32 → Int32 → Int32 → Int32 → Int32 → Prop) → Prop} (I : Int32 → Int32 → Int32 → Int32 → Int32 → Int32 → Int32 → Int32 → Int32 → Prop) (μ : Int32 → Int32 → Int32 → Int32 → Int32 → Int32 → Int32 → Int32 → Int32 → Nat) (hs : ∀ (a0 : Int32) (a1 : Int32) (a2 : Int32) (a3 : Int32) (a4 : Int32) (a5 : Int32) (a6 : Int32) (a7 : Int32) (a8 : Int32), I a0 a1 a2 a3 a4 a5 a6 a7 a8 → body a0 a1 a2 a3 a4 a5 a6 a7 a8 (fun b0 b1 b2 b3 b4 b5 b6 b7 b8 => I b0 b1 b2 b3 b4 b5 b6 b7 b8 ∧ μ b0 b1 b2 b3 b4 b5 b6 b7 b8 < μ a0 a1 a2 a3 a4 a5 a6 a7 a8)) {a0 : Int32} {a1 : Int32} {a2 : Int32} {a3 : Int32} {a4 : Int32} {a5 : Int32} {a6 : Int32} {a7 : Int32} {a8 : Int32} (h0 : I a0 a1 a2 a3 a4 a5 a6 a7 a8) : hp_lp9 body a0 a1 a2 a3 a4 a5 a6 a7 a8 := by
  intro P hP
  have key : ∀ n : Nat, ∀ (a0 : Int32) (a1 : Int32) (a2 : Int32) (a3 : Int32) (a4 : Int32) (a5 : Int32) (a6 : Int32) (a7 : Int32) (a8 : Int32), μ a0 a1 a2 a3 a4 a5 a6 a7 a8 < n → I a0 a1 a2 a3 a4 a5 a6 a7 a8 → P a0 a1 a2 a3 a4 a5 a6 a7 a8 := by
    intro n
    induction n with
    | zero => intro a0 a1 a2 a3 a4 a5 a6 a7 a8 h1; omega
    | succ n ih => exact fun a0 a1 a2 a3 a4 a5 a6 a7 a8 h1 h2 => hP a0 a1 a2 a3 a4 a5 a6 a7 a8 ⟨_, hs a0 a1 a2 a3 a4 a5 a6 a7 a8 h2, fun b0 b1 b2 b3 b4 b5 b6 b7 b8 hb => ih b0 b1 b2 b3 b4 b5 b6 b7 b8 (by omega) hb.1⟩
  exact key (μ a0 a1 a2 a3 a4 a5 a6 a7 a8 + 1) a0 a1 a2 a3 a4 a5 a6 a7 a8 (Nat.lt_succ_self _) h0
def hp_jn9 (f : (Int32 → Int32 → Int32 → Int32 → Int32 → Int32 → Int32 → Int32 → Int32 → Prop) → Prop) (g : Int32 → Int32 → Int32 → Int32 → Int32 → Int32 → Int32 → Int32 → Int32 → Prop) : Prop := ∃ K : Int32 → Int32 → Int32 → Int32 → Int32 → Int32 → Int32 → Int32 → Int32 → Prop, f K ∧ ∀ (a0 : Int32) (a1 : Int32) (a2 : Int32) (a3 : Int32) (a4 : Int32) (a5 : Int32) (a6 : Int32) (a7 : Int32) (a8 : Int32), K a0 a1 a2 a3 a4 a5 a6 a7 a8 → g a0 a1 a2 a3 a4 a5 a6 a7 a8
theorem hp_jn9_i {f : (Int32 → Int32 → Int32 → Int32 → Int32 → Int32 → Int32 → Int32 → Int32 → Prop) → Prop} {g : Int32 → Int32 → Int32 → Int32 → Int32 → Int32 → Int32 → Int32 → Int32 → Prop} (h : f g) : hp_jn9 f g := ⟨g, h, fun _ _ _ _ _ _ _ _ _ q => q⟩
def hp_lp9h (body : Int32 → Int32 → Int32 → Int32 → Int32 → Int32 → Int32 → Int32 → Int32 → hp_H → (Int32 → Int32 → Int32 → Int32 → Int32 → Int32 → Int32 → Int32 → Int32 → hp_H → Prop) → Prop) (a0 : Int32) (a1 : Int32) (a2 : Int32) (a3 : Int32) (a4 : Int32) (a5 : Int32) (a6 : Int32) (a7 : Int32) (a8 : Int32) (h : hp_H) : Prop := ∀ P : Int32 → Int32 → Int32 → Int32 → Int32 → Int32 → Int32 → Int32 → Int32 → hp_H → Prop, (∀ (a0 : Int32) (a1 : Int32) (a2 : Int32) (a3 : Int32) (a4 : Int32) (a5 : Int32) (a6 : Int32) (a7 : Int32) (a8 : Int32) (h : hp_H), (∃ B : Int32 → Int32 → Int32 → Int32 → Int32 → Int32 → Int32 → Int32 → Int32 → hp_H → Prop, body a0 a1 a2 a3 a4 a5 a6 a7 a8 h B ∧ ∀ (b0 : Int32) (b1 : Int32) (b2 : Int32) (b3 : Int32) (b4 : Int32) (b5 : Int32) (b6 : Int32) (b7 : Int32) (b8 : Int32) (g : hp_H), B b0 b1 b2 b3 b4 b5 b6 b7 b8 g → P b0 b1 b2 b3 b4 b5 b6 b7 b8 g) → P a0 a1 a2 a3 a4 a5 a6 a7 a8 h) → P a0 a1 a2 a3 a4 a5 a6 a7 a8 h
theorem hp_lp9h_ind {body : Int32 → Int32 → Int32 → Int32 → Int32 → Int32 → Int32 → Int32 → Int32 → hp_H → (Int32 → Int32 → Int32 → Int32 → Int32 → Int32 → Int32 → Int32 → Int32 → hp_H → Prop) → Prop} (I : Int32 → Int32 → Int32 → Int32 → Int32 → Int32 → Int32 → Int32 → Int32 → hp_H → Prop) (μ : Int32 → Int32 → Int32 → Int32 → Int32 → Int32 → Int32 → Int32 → Int32 → hp_H → Nat) (hs : ∀ (a0 : Int32) (a1 : Int32) (a2 : Int32) (a3 : Int32) (a4 : Int32) (a5 : Int32) (a6 : Int32) (a7 : Int32) (a8 : Int32) (h : hp_H), I a0 a1 a2 a3 a4 a5 a6 a7 a8 h → body a0 a1 a2 a3 a4 a5 a6 a7 a8 h (fun b0 b1 b2 b3 b4 b5 b6 b7 b8 g => I b0 b1 b2 b3 b4 b5 b6 b7 b8 g ∧ μ b0 b1 b2 b3 b4 b5 b6 b7 b8 g < μ a0 a1 a2 a3 a4 a5 a6 a7 a8 h)) {a0 : Int32} {a1 : Int32} {a2 : Int32} {a3 : Int32} {a4 : Int32} {a5 : Int32} {a6 : Int32} {a7 : Int32} {a8 : Int32} {h : hp_H} (h0 : I a0 a1 a2 a3 a4 a5 a6 a7 a8 h) : hp_lp9h body a0 a1 a2 a3 a4 a5 a6 a7 a8 h := by
  intro P hP
  have key : ∀ n : Nat, ∀ (a0 : Int32) (a1 : Int32) (a2 : Int32) (a3 : Int32) (a4 : Int32) (a5 : Int32) (a6 : Int32) (a7 : Int32) (a8 : Int32) (h : hp_H), μ a0 a1 a2 a3 a4 a5 a6 a7 a8 h < n → I a0 a1 a2 a3 a4 a5 a6 a7 a8 h → P a0 a1 a2 a3 a4 a5 a6 a7 a8 h := by
    intro n
    induction n with
    | zero => intro a0 a1 a2 a3 a4 a5 a6 a7 a8 h h1; omega
    | succ n ih => exact fun a0 a1 a2 a3 a4 a5 a6 a7 a8 h h1 h2 => hP a0 a1 a2 a3 a4 a5 a6 a7 a8 h ⟨_, hs a0 a1 a2 a3 a4 a5 a6 a7 a8 h h2, fun b0 b1 b2 b3 b4 b5 b6 b7 b8 g hb => ih b0 b1 b2 b3 b4 b5 b6 b7 b8 g (by omega) hb.1⟩
  exact key (μ a0 a1 a2 a3 a4 a5 a6 a7 a8 h + 1) a0 a1 a2 a3 a4 a5 a6 a7 a8 h (Nat.lt_succ_self _) h0
def hp_jn9h (f : (Int32 → Int32 → Int32 → Int32 → Int32 → Int32 → Int32 → Int32 → Int32 → hp_H → Prop) → Prop) (g : Int32 → Int32 → Int32 → Int32 → Int32 → Int32 → Int32 → Int32 → Int32 → hp_H → Prop) : Prop := ∃ K : Int32 → Int32 → Int32 → Int32 → Int32 → Int32 → Int32 → Int32 → Int32 → hp_H → Prop, f K ∧ ∀ (a0 : Int32) (a1 : Int32) (a2 : Int32) (a3 : Int32) (a4 : Int32) (a5 : Int32) (a6 : Int32) (a7 : Int32) (a8 : Int32) (h : hp_H), K a0 a1 a2 a3 a4 a5 a6 a7 a8 h → g a0 a1 a2 a3 a4 a5 a6 a7 a8 h
theorem hp_jn9h_i {f : (Int32 → Int32 → Int32 → Int32 → Int32 → Int32 → Int32 → Int32 → Int32 → hp_H → Prop) → Prop} {g : Int32 → Int32 → Int32 → Int32 → Int32 → Int32 → Int32 → Int32 → Int32 → hp_H → Prop} (h : f g) : hp_jn9h f g := ⟨g, h, fun _ _ _ _ _ _ _ _ _ _ q => q⟩
end

section
-- ===== PART A: goes FIRST, ahead of the names: the tables' words, and 'selects' of the private methods out of them =====
/-- a private method of a class that the tables say can be made, by its rows of tables_1 -/
def lw_okq (q : MethodName × Nat) : Prop := (q.1.cls ≠ "java/lang/invoke/MethodHandle" ∧ q.1.cls ≠ "java/lang/invoke/VarHandle") ∧ Cond.instantiable q.1.cls q.2 ∈ tables_1 ∧ Cond.privateMethod q.1 ∈ tables_1 ∧ Cond.instanceMethod q.1 ∈ tables_1
theorem lw_p0 : lw_okq (⟨"HeronBook$Book", "sumGroups", "()V"⟩, 13) := ⟨⟨by decide +kernel, by decide +kernel⟩, List.mem_of_getElem? (i := 46) (by decide +kernel), List.mem_of_getElem? (i := 59) (by decide +kernel), List.mem_of_getElem? (i := 60) (by decide +kernel)⟩
theorem lw_p1 : lw_okq (⟨"HeronBook$Reader", "begin", "(LHeronBook$Tape;)V"⟩, 14) := ⟨⟨by decide +kernel, by decide +kernel⟩, List.mem_of_getElem? (i := 136) (by decide +kernel), List.mem_of_getElem? (i := 428) (by decide +kernel), List.mem_of_getElem? (i := 429) (by decide +kernel)⟩
theorem lw_p2 : lw_okq (⟨"HeronBook$Reader", "advance", "()V"⟩, 14) := ⟨⟨by decide +kernel, by decide +kernel⟩, List.mem_of_getElem? (i := 136) (by decide +kernel), List.mem_of_getElem? (i := 433) (by decide +kernel), List.mem_of_getElem? (i := 434) (by decide +kernel)⟩
theorem lw_p3 : lw_okq (⟨"HeronBook$Reader", "keyword", "()I"⟩, 14) := ⟨⟨by decide +kernel, by decide +kernel⟩, List.mem_of_getElem? (i := 136) (by decide +kernel), List.mem_of_getElem? (i := 440) (by decide +kernel), List.mem_of_getElem? (i := 441) (by decide +kernel)⟩
theorem lw_p4 : lw_okq (⟨"HeronBook$Reader", "isWord", "(Ljava/lang/String;)Z"⟩, 14) := ⟨⟨by decide +kernel, by decide +kernel⟩, List.mem_of_getElem? (i := 136) (by decide +kernel), List.mem_of_getElem? (i := 445) (by decide +kernel), List.mem_of_getElem? (i := 446) (by decide +kernel)⟩
theorem lw_p5 : lw_okq (⟨"HeronBook$Reader", "mayBegin", "(I)Z"⟩, 14) := ⟨⟨by decide +kernel, by decide +kernel⟩, List.mem_of_getElem? (i := 136) (by decide +kernel), List.mem_of_getElem? (i := 507) (by decide +kernel), List.mem_of_getElem? (i := 508) (by decide +kernel)⟩
theorem lw_p6 : lw_okq (⟨"HeronBook$Reader", "refuse", "(I)Z"⟩, 14) := ⟨⟨by decide +kernel, by decide +kernel⟩, List.mem_of_getElem? (i := 136) (by decide +kernel), List.mem_of_getElem? (i := 511) (by decide +kernel), List.mem_of_getElem? (i := 512) (by decide +kernel)⟩
theorem lw_p7 : lw_okq (⟨"HeronBook$Reader", "readBody", "(I)Z"⟩, 14) := ⟨⟨by decide +kernel, by decide +kernel⟩, List.mem_of_getElem? (i := 136) (by decide +kernel), List.mem_of_getElem? (i := 518) (by decide +kernel), List.mem_of_getElem? (i := 519) (by decide +kernel)⟩
theorem lw_p8 : lw_okq (⟨"HeronBook$Reader", "readTraits", "(LHeronBook$Names;I[I)Z"⟩, 14) := ⟨⟨by decide +kernel, by decide +kernel⟩, List.mem_of_getElem? (i := 136) (by decide +kernel), List.mem_of_getElem? (i := 522) (by decide +kernel), List.mem_of_getElem? (i := 523) (by decide +kernel)⟩
theorem lw_p9 : lw_okq (⟨"HeronBook$Reader", "readNewName", "(LHeronBook$Names;)Z"⟩, 14) := ⟨⟨by decide +kernel, by decide +kernel⟩, List.mem_of_getElem? (i := 136) (by decide +kernel), List.mem_of_getElem? (i := 526) (by decide +kernel), List.mem_of_getElem? (i := 527) (by decide +kernel)⟩
theorem lw_p10 : lw_okq (⟨"HeronBook$Reader", "readSet", "()Z"⟩, 14) := ⟨⟨by decide +kernel, by decide +kernel⟩, List.mem_of_getElem? (i := 136) (by decide +kernel), List.mem_of_getElem? (i := 541) (by decide +kernel), List.mem_of_getElem? (i := 542) (by decide +kernel)⟩
theorem lw_p11 : lw_okq (⟨"HeronBook$Reader", "readPlace", "()Z"⟩, 14) := ⟨⟨by decide +kernel, by decide +kernel⟩, List.mem_of_getElem? (i := 136) (by decide +kernel), List.mem_of_getElem? (i := 545) (by decide +kernel), List.mem_of_getElem? (i := 546) (by decide +kernel)⟩
theorem lw_p12 : lw_okq (⟨"HeronBook$Reader", "readTie", "()Z"⟩, 14) := ⟨⟨by decide +kernel, by decide +kernel⟩, List.mem_of_getElem? (i := 136) (by decide +kernel), List.mem_of_getElem? (i := 549) (by decide +kernel), List.mem_of_getElem? (i := 550) (by decide +kernel)⟩
theorem lw_p13 : lw_okq (⟨"HeronBook$Reader", "readNumber", "(II)Z"⟩, 14) := ⟨⟨by decide +kernel, by decide +kernel⟩, List.mem_of_getElem? (i := 136) (by decide +kernel), List.mem_of_getElem? (i := 553) (by decide +kernel), List.mem_of_getElem? (i := 554) (by decide +kernel)⟩
theorem lw_p14 : lw_okq (⟨"HeronBook$Reader", "readHearer", "()Z"⟩, 14) := ⟨⟨by decide +kernel, by decide +kernel⟩, List.mem_of_getElem? (i := 136) (by decide +kernel), List.mem_of_getElem? (i := 557) (by decide +kernel), List.mem_of_getElem? (i := 558) (by decide +kernel)⟩
theorem lw_p15 : lw_okq (⟨"HeronBook$Reader", "readWeight", "()Z"⟩, 14) := ⟨⟨by decide +kernel, by decide +kernel⟩, List.mem_of_getElem? (i := 136) (by decide +kernel), List.mem_of_getElem? (i := 561) (by decide +kernel), List.mem_of_getElem? (i := 562) (by decide +kernel)⟩
def lw_privs_1 : List (MethodName × Nat) := [(⟨"HeronBook$Book", "sumGroups", "()V"⟩, 13), (⟨"HeronBook$Reader", "begin", "(LHeronBook$Tape;)V"⟩, 14), (⟨"HeronBook$Reader", "advance", "()V"⟩, 14), (⟨"HeronBook$Reader", "keyword", "()I"⟩, 14), (⟨"HeronBook$Reader", "isWord", "(Ljava/lang/String;)Z"⟩, 14), (⟨"HeronBook$Reader", "mayBegin", "(I)Z"⟩, 14), (⟨"HeronBook$Reader", "refuse", "(I)Z"⟩, 14), (⟨"HeronBook$Reader", "readBody", "(I)Z"⟩, 14), (⟨"HeronBook$Reader", "readTraits", "(LHeronBook$Names;I[I)Z"⟩, 14), (⟨"HeronBook$Reader", "readNewName", "(LHeronBook$Names;)Z"⟩, 14), (⟨"HeronBook$Reader", "readSet", "()Z"⟩, 14), (⟨"HeronBook$Reader", "readPlace", "()Z"⟩, 14), (⟨"HeronBook$Reader", "readTie", "()Z"⟩, 14), (⟨"HeronBook$Reader", "readNumber", "(II)Z"⟩, 14), (⟨"HeronBook$Reader", "readHearer", "()Z"⟩, 14), (⟨"HeronBook$Reader", "readWeight", "()Z"⟩, 14)]
theorem lw_r1 : ∀ q ∈ lw_privs_1, lw_okq q := List.forall_mem_cons.mpr ⟨lw_p0, List.forall_mem_cons.mpr ⟨lw_p1, List.forall_mem_cons.mpr ⟨lw_p2, List.forall_mem_cons.mpr ⟨lw_p3, List.forall_mem_cons.mpr ⟨lw_p4, List.forall_mem_cons.mpr ⟨lw_p5, List.forall_mem_cons.mpr ⟨lw_p6, List.forall_mem_cons.mpr ⟨lw_p7, List.forall_mem_cons.mpr ⟨lw_p8, List.forall_mem_cons.mpr ⟨lw_p9, List.forall_mem_cons.mpr ⟨lw_p10, List.forall_mem_cons.mpr ⟨lw_p11, List.forall_mem_cons.mpr ⟨lw_p12, List.forall_mem_cons.mpr ⟨lw_p13, List.forall_mem_cons.mpr ⟨lw_p14, List.forall_mem_cons.mpr ⟨lw_p15, fun _ h => absurd h List.not_mem_nil⟩⟩⟩⟩⟩⟩⟩⟩⟩⟩⟩⟩⟩⟩⟩⟩
theorem lw_p16 : lw_okq (⟨"HeronBook$Reader", "readSetting", "(I)Z"⟩, 14) := ⟨⟨by decide +kernel, by decide +kernel⟩, List.mem_of_getElem? (i := 136) (by decide +kernel), List.mem_of_getElem? (i := 569) (by decide +kernel), List.mem_of_getElem? (i := 570) (by decide +kernel)⟩
theorem lw_p17 : lw_okq (⟨"HeronBook$Reader", "readSemicolon", "()Z"⟩, 14) := ⟨⟨by decide +kernel, by decide +kernel⟩, List.mem_of_getElem? (i := 136) (by decide +kernel), List.mem_of_getElem? (i := 573) (by decide +kernel), List.mem_of_getElem? (i := 574) (by decide +kernel)⟩
theorem lw_p18 : lw_okq (⟨"HeronBook", "wordsAreFit", "(IIII)Z"⟩, 10) := ⟨⟨by decide +kernel, by decide +kernel⟩, List.mem_of_getElem? (i := 21) (by decide +kernel), List.mem_of_getElem? (i := 624) (by decide +kernel), List.mem_of_getElem? (i := 625) (by decide +kernel)⟩
theorem lw_p19 : lw_okq (⟨"HeronBook$Search", "begin", "(LHeronBook$Rendering;I)V"⟩, 10) := ⟨⟨by decide +kernel, by decide +kernel⟩, List.mem_of_getElem? (i := 243) (by decide +kernel), List.mem_of_getElem? (i := 758) (by decide +kernel), List.mem_of_getElem? (i := 759) (by decide +kernel)⟩
theorem lw_p20 : lw_okq (⟨"HeronBook$Search", "obeyTie", "(LHeronBook$Rendering;I)V"⟩, 10) := ⟨⟨by decide +kernel, by decide +kernel⟩, List.mem_of_getElem? (i := 243) (by decide +kernel), List.mem_of_getElem? (i := 776) (by decide +kernel), List.mem_of_getElem? (i := 777) (by decide +kernel)⟩
theorem lw_p21 : lw_okq (⟨"HeronBook$Search", "levelOf", "(I)I"⟩, 10) := ⟨⟨by decide +kernel, by decide +kernel⟩, List.mem_of_getElem? (i := 243) (by decide +kernel), List.mem_of_getElem? (i := 780) (by decide +kernel), List.mem_of_getElem? (i := 781) (by decide +kernel)⟩
theorem lw_p22 : lw_okq (⟨"HeronBook$Search", "obeyInside", "(LHeronBook$Rendering;III)V"⟩, 10) := ⟨⟨by decide +kernel, by decide +kernel⟩, List.mem_of_getElem? (i := 243) (by decide +kernel), List.mem_of_getElem? (i := 790) (by decide +kernel), List.mem_of_getElem? (i := 791) (by decide +kernel)⟩
theorem lw_p23 : lw_okq (⟨"HeronBook$Search", "obeyOutside", "(LHeronBook$Rendering;II)V"⟩, 10) := ⟨⟨by decide +kernel, by decide +kernel⟩, List.mem_of_getElem? (i := 243) (by decide +kernel), List.mem_of_getElem? (i := 797) (by decide +kernel), List.mem_of_getElem? (i := 798) (by decide +kernel)⟩
theorem lw_p24 : lw_okq (⟨"HeronBook$Search", "settle", "(II)V"⟩, 10) := ⟨⟨by decide +kernel, by decide +kernel⟩, List.mem_of_getElem? (i := 243) (by decide +kernel), List.mem_of_getElem? (i := 802) (by decide +kernel), List.mem_of_getElem? (i := 803) (by decide +kernel)⟩
theorem lw_p25 : lw_okq (⟨"HeronBook$Search", "narrow", "(II)I"⟩, 10) := ⟨⟨by decide +kernel, by decide +kernel⟩, List.mem_of_getElem? (i := 243) (by decide +kernel), List.mem_of_getElem? (i := 807) (by decide +kernel), List.mem_of_getElem? (i := 808) (by decide +kernel)⟩
theorem lw_p26 : lw_okq (⟨"HeronBook$Search", "leastOf", "(II)I"⟩, 10) := ⟨⟨by decide +kernel, by decide +kernel⟩, List.mem_of_getElem? (i := 243) (by decide +kernel), List.mem_of_getElem? (i := 811) (by decide +kernel), List.mem_of_getElem? (i := 812) (by decide +kernel)⟩
theorem lw_p27 : lw_okq (⟨"HeronBook$Rendering", "exchangeAt", "(I)Z"⟩, 6) := ⟨⟨by decide +kernel, by decide +kernel⟩, List.mem_of_getElem? (i := 207) (by decide +kernel), List.mem_of_getElem? (i := 828) (by decide +kernel), List.mem_of_getElem? (i := 829) (by decide +kernel)⟩
theorem lw_p28 : lw_okq (⟨"HeronBook$Rendering", "clashesAt", "(IIZ)I"⟩, 6) := ⟨⟨by decide +kernel, by decide +kernel⟩, List.mem_of_getElem? (i := 207) (by decide +kernel), List.mem_of_getElem? (i := 832) (by decide +kernel), List.mem_of_getElem? (i := 833) (by decide +kernel)⟩
theorem lw_p29 : lw_okq (⟨"HeronBook$Rendering", "untoldLacks", "(I)I"⟩, 6) := ⟨⟨by decide +kernel, by decide +kernel⟩, List.mem_of_getElem? (i := 207) (by decide +kernel), List.mem_of_getElem? (i := 877) (by decide +kernel), List.mem_of_getElem? (i := 878) (by decide +kernel)⟩
theorem lw_p30 : lw_okq (⟨"HeronBook", "whyNotHeard", "(II)I"⟩, 10) := ⟨⟨by decide +kernel, by decide +kernel⟩, List.mem_of_getElem? (i := 21) (by decide +kernel), List.mem_of_getElem? (i := 886) (by decide +kernel), List.mem_of_getElem? (i := 887) (by decide +kernel)⟩
theorem lw_p31 : lw_okq (⟨"HeronBook$Four", "costOf", "(II)I"⟩, 1) := ⟨⟨by decide +kernel, by decide +kernel⟩, List.mem_of_getElem? (i := 283) (by decide +kernel), List.mem_of_getElem? (i := 961) (by decide +kernel), List.mem_of_getElem? (i := 962) (by decide +kernel)⟩
def lw_privs_2 : List (MethodName × Nat) := [(⟨"HeronBook$Reader", "readSetting", "(I)Z"⟩, 14), (⟨"HeronBook$Reader", "readSemicolon", "()Z"⟩, 14), (⟨"HeronBook", "wordsAreFit", "(IIII)Z"⟩, 10), (⟨"HeronBook$Search", "begin", "(LHeronBook$Rendering;I)V"⟩, 10), (⟨"HeronBook$Search", "obeyTie", "(LHeronBook$Rendering;I)V"⟩, 10), (⟨"HeronBook$Search", "levelOf", "(I)I"⟩, 10), (⟨"HeronBook$Search", "obeyInside", "(LHeronBook$Rendering;III)V"⟩, 10), (⟨"HeronBook$Search", "obeyOutside", "(LHeronBook$Rendering;II)V"⟩, 10), (⟨"HeronBook$Search", "settle", "(II)V"⟩, 10), (⟨"HeronBook$Search", "narrow", "(II)I"⟩, 10), (⟨"HeronBook$Search", "leastOf", "(II)I"⟩, 10), (⟨"HeronBook$Rendering", "exchangeAt", "(I)Z"⟩, 6), (⟨"HeronBook$Rendering", "clashesAt", "(IIZ)I"⟩, 6), (⟨"HeronBook$Rendering", "untoldLacks", "(I)I"⟩, 6), (⟨"HeronBook", "whyNotHeard", "(II)I"⟩, 10), (⟨"HeronBook$Four", "costOf", "(II)I"⟩, 1)]
theorem lw_r2 : ∀ q ∈ lw_privs_2, lw_okq q := List.forall_mem_cons.mpr ⟨lw_p16, List.forall_mem_cons.mpr ⟨lw_p17, List.forall_mem_cons.mpr ⟨lw_p18, List.forall_mem_cons.mpr ⟨lw_p19, List.forall_mem_cons.mpr ⟨lw_p20, List.forall_mem_cons.mpr ⟨lw_p21, List.forall_mem_cons.mpr ⟨lw_p22, List.forall_mem_cons.mpr ⟨lw_p23, List.forall_mem_cons.mpr ⟨lw_p24, List.forall_mem_cons.mpr ⟨lw_p25, List.forall_mem_cons.mpr ⟨lw_p26, List.forall_mem_cons.mpr ⟨lw_p27, List.forall_mem_cons.mpr ⟨lw_p28, List.forall_mem_cons.mpr ⟨lw_p29, List.forall_mem_cons.mpr ⟨lw_p30, List.forall_mem_cons.mpr ⟨lw_p31, fun _ h => absurd h List.not_mem_nil⟩⟩⟩⟩⟩⟩⟩⟩⟩⟩⟩⟩⟩⟩⟩⟩
theorem lw_p32 : lw_okq (⟨"HeronBook$Laughs", "fitsAll", "(III)Z"⟩, 14) := ⟨⟨by decide +kernel, by decide +kernel⟩, List.mem_of_getElem? (i := 322) (by decide +kernel), List.mem_of_getElem? (i := 1054) (by decide +kernel), List.mem_of_getElem? (i := 1055) (by decide +kernel)⟩
theorem lw_p33 : lw_okq (⟨"HeronBookModel", "begin", "()V"⟩, 59) := ⟨⟨by decide +kernel, by decide +kernel⟩, List.mem_of_getElem? (i := 1083) (by decide +kernel), List.mem_of_getElem? (i := 1089) (by decide +kernel), List.mem_of_getElem? (i := 1090) (by decide +kernel)⟩
theorem lw_p34 : lw_okq (⟨"HeronBookModel", "settle", "()V"⟩, 59) := ⟨⟨by decide +kernel, by decide +kernel⟩, List.mem_of_getElem? (i := 1083) (by decide +kernel), List.mem_of_getElem? (i := 1093) (by decide +kernel), List.mem_of_getElem? (i := 1094) (by decide +kernel)⟩
theorem lw_p35 : lw_okq (⟨"HeronBookModel", "scan", "()V"⟩, 59) := ⟨⟨by decide +kernel, by decide +kernel⟩, List.mem_of_getElem? (i := 1083) (by decide +kernel), List.mem_of_getElem? (i := 1295) (by decide +kernel), List.mem_of_getElem? (i := 1296) (by decide +kernel)⟩
theorem lw_p36 : lw_okq (⟨"HeronBookModel", "see", "(I)I"⟩, 59) := ⟨⟨by decide +kernel, by decide +kernel⟩, List.mem_of_getElem? (i := 1083) (by decide +kernel), List.mem_of_getElem? (i := 1299) (by decide +kernel), List.mem_of_getElem? (i := 1300) (by decide +kernel)⟩
theorem lw_p37 : lw_okq (⟨"HeronBookModel", "keyAt", "(II)I"⟩, 59) := ⟨⟨by decide +kernel, by decide +kernel⟩, List.mem_of_getElem? (i := 1083) (by decide +kernel), List.mem_of_getElem? (i := 1308) (by decide +kernel), List.mem_of_getElem? (i := 1309) (by decide +kernel)⟩
theorem lw_p38 : lw_okq (⟨"HeronBookModel", "readClause", "()Z"⟩, 59) := ⟨⟨by decide +kernel, by decide +kernel⟩, List.mem_of_getElem? (i := 1083) (by decide +kernel), List.mem_of_getElem? (i := 1318) (by decide +kernel), List.mem_of_getElem? (i := 1319) (by decide +kernel)⟩
theorem lw_p39 : lw_okq (⟨"HeronBookModel", "readName", "(III)Z"⟩, 59) := ⟨⟨by decide +kernel, by decide +kernel⟩, List.mem_of_getElem? (i := 1083) (by decide +kernel), List.mem_of_getElem? (i := 1322) (by decide +kernel), List.mem_of_getElem? (i := 1323) (by decide +kernel)⟩
theorem lw_p40 : lw_okq (⟨"HeronBookModel", "fails", "(I)Z"⟩, 59) := ⟨⟨by decide +kernel, by decide +kernel⟩, List.mem_of_getElem? (i := 1083) (by decide +kernel), List.mem_of_getElem? (i := 1326) (by decide +kernel), List.mem_of_getElem? (i := 1327) (by decide +kernel)⟩
theorem lw_p41 : lw_okq (⟨"HeronBookModel", "named", "(II)I"⟩, 59) := ⟨⟨by decide +kernel, by decide +kernel⟩, List.mem_of_getElem? (i := 1083) (by decide +kernel), List.mem_of_getElem? (i := 1330) (by decide +kernel), List.mem_of_getElem? (i := 1331) (by decide +kernel)⟩
theorem lw_p42 : lw_okq (⟨"HeronBookModel", "readSet", "()Z"⟩, 59) := ⟨⟨by decide +kernel, by decide +kernel⟩, List.mem_of_getElem? (i := 1083) (by decide +kernel), List.mem_of_getElem? (i := 1334) (by decide +kernel), List.mem_of_getElem? (i := 1335) (by decide +kernel)⟩
theorem lw_p43 : lw_okq (⟨"HeronBookModel", "setHere", "()I"⟩, 59) := ⟨⟨by decide +kernel, by decide +kernel⟩, List.mem_of_getElem? (i := 1083) (by decide +kernel), List.mem_of_getElem? (i := 1338) (by decide +kernel), List.mem_of_getElem? (i := 1339) (by decide +kernel)⟩
theorem lw_p44 : lw_okq (⟨"HeronBookModel", "readPlace", "()Z"⟩, 59) := ⟨⟨by decide +kernel, by decide +kernel⟩, List.mem_of_getElem? (i := 1083) (by decide +kernel), List.mem_of_getElem? (i := 1342) (by decide +kernel), List.mem_of_getElem? (i := 1343) (by decide +kernel)⟩
theorem lw_p45 : lw_okq (⟨"HeronBookModel", "readTie", "()Z"⟩, 59) := ⟨⟨by decide +kernel, by decide +kernel⟩, List.mem_of_getElem? (i := 1083) (by decide +kernel), List.mem_of_getElem? (i := 1346) (by decide +kernel), List.mem_of_getElem? (i := 1347) (by decide +kernel)⟩
theorem lw_p46 : lw_okq (⟨"HeronBookModel", "readNumber", "(II)Z"⟩, 59) := ⟨⟨by decide +kernel, by decide +kernel⟩, List.mem_of_getElem? (i := 1083) (by decide +kernel), List.mem_of_getElem? (i := 1350) (by decide +kernel), List.mem_of_getElem? (i := 1351) (by decide +kernel)⟩
theorem lw_p47 : lw_okq (⟨"HeronBookModel", "readHearer", "()Z"⟩, 59) := ⟨⟨by decide +kernel, by decide +kernel⟩, List.mem_of_getElem? (i := 1083) (by decide +kernel), List.mem_of_getElem? (i := 1357) (by decide +kernel), List.mem_of_getElem? (i := 1358) (by decide +kernel)⟩
def lw_privs_3 : List (MethodName × Nat) := [(⟨"HeronBook$Laughs", "fitsAll", "(III)Z"⟩, 14), (⟨"HeronBookModel", "begin", "()V"⟩, 59), (⟨"HeronBookModel", "settle", "()V"⟩, 59), (⟨"HeronBookModel", "scan", "()V"⟩, 59), (⟨"HeronBookModel", "see", "(I)I"⟩, 59), (⟨"HeronBookModel", "keyAt", "(II)I"⟩, 59), (⟨"HeronBookModel", "readClause", "()Z"⟩, 59), (⟨"HeronBookModel", "readName", "(III)Z"⟩, 59), (⟨"HeronBookModel", "fails", "(I)Z"⟩, 59), (⟨"HeronBookModel", "named", "(II)I"⟩, 59), (⟨"HeronBookModel", "readSet", "()Z"⟩, 59), (⟨"HeronBookModel", "setHere", "()I"⟩, 59), (⟨"HeronBookModel", "readPlace", "()Z"⟩, 59), (⟨"HeronBookModel", "readTie", "()Z"⟩, 59), (⟨"HeronBookModel", "readNumber", "(II)Z"⟩, 59), (⟨"HeronBookModel", "readHearer", "()Z"⟩, 59)]
theorem lw_r3 : ∀ q ∈ lw_privs_3, lw_okq q := List.forall_mem_cons.mpr ⟨lw_p32, List.forall_mem_cons.mpr ⟨lw_p33, List.forall_mem_cons.mpr ⟨lw_p34, List.forall_mem_cons.mpr ⟨lw_p35, List.forall_mem_cons.mpr ⟨lw_p36, List.forall_mem_cons.mpr ⟨lw_p37, List.forall_mem_cons.mpr ⟨lw_p38, List.forall_mem_cons.mpr ⟨lw_p39, List.forall_mem_cons.mpr ⟨lw_p40, List.forall_mem_cons.mpr ⟨lw_p41, List.forall_mem_cons.mpr ⟨lw_p42, List.forall_mem_cons.mpr ⟨lw_p43, List.forall_mem_cons.mpr ⟨lw_p44, List.forall_mem_cons.mpr ⟨lw_p45, List.forall_mem_cons.mpr ⟨lw_p46, List.forall_mem_cons.mpr ⟨lw_p47, fun _ h => absurd h List.not_mem_nil⟩⟩⟩⟩⟩⟩⟩⟩⟩⟩⟩⟩⟩⟩⟩⟩
theorem lw_p48 : lw_okq (⟨"HeronBookModel", "readWeight", "()Z"⟩, 59) := ⟨⟨by decide +kernel, by decide +kernel⟩, List.mem_of_getElem? (i := 1083) (by decide +kernel), List.mem_of_getElem? (i := 1361) (by decide +kernel), List.mem_of_getElem? (i := 1362) (by decide +kernel)⟩
theorem lw_p49 : lw_okq (⟨"HeronBookModel", "readTold", "(I)Z"⟩, 59) := ⟨⟨by decide +kernel, by decide +kernel⟩, List.mem_of_getElem? (i := 1083) (by decide +kernel), List.mem_of_getElem? (i := 1365) (by decide +kernel), List.mem_of_getElem? (i := 1366) (by decide +kernel)⟩
theorem lw_p50 : lw_okq (⟨"HeronBookModel", "isNotion", "(I)Z"⟩, 59) := ⟨⟨by decide +kernel, by decide +kernel⟩, List.mem_of_getElem? (i := 1083) (by decide +kernel), List.mem_of_getElem? (i := 1377) (by decide +kernel), List.mem_of_getElem? (i := 1378) (by decide +kernel)⟩
theorem lw_p51 : lw_okq (⟨"HeronBookModel", "isWord", "(I)Z"⟩, 59) := ⟨⟨by decide +kernel, by decide +kernel⟩, List.mem_of_getElem? (i := 1083) (by decide +kernel), List.mem_of_getElem? (i := 1381) (by decide +kernel), List.mem_of_getElem? (i := 1382) (by decide +kernel)⟩
theorem lw_p52 : lw_okq (⟨"HeronBookModel", "isPlace", "(I)Z"⟩, 59) := ⟨⟨by decide +kernel, by decide +kernel⟩, List.mem_of_getElem? (i := 1083) (by decide +kernel), List.mem_of_getElem? (i := 1385) (by decide +kernel), List.mem_of_getElem? (i := 1386) (by decide +kernel)⟩
theorem lw_p53 : lw_okq (⟨"HeronBookModel", "isTie", "(I)Z"⟩, 59) := ⟨⟨by decide +kernel, by decide +kernel⟩, List.mem_of_getElem? (i := 1083) (by decide +kernel), List.mem_of_getElem? (i := 1389) (by decide +kernel), List.mem_of_getElem? (i := 1390) (by decide +kernel)⟩
theorem lw_p54 : lw_okq (⟨"HeronBookModel", "isHearer", "(I)Z"⟩, 59) := ⟨⟨by decide +kernel, by decide +kernel⟩, List.mem_of_getElem? (i := 1083) (by decide +kernel), List.mem_of_getElem? (i := 1393) (by decide +kernel), List.mem_of_getElem? (i := 1394) (by decide +kernel)⟩
theorem lw_p55 : lw_okq (⟨"HeronBookModel", "put", "(IIIII)V"⟩, 59) := ⟨⟨by decide +kernel, by decide +kernel⟩, List.mem_of_getElem? (i := 1083) (by decide +kernel), List.mem_of_getElem? (i := 1405) (by decide +kernel), List.mem_of_getElem? (i := 1406) (by decide +kernel)⟩
theorem lw_p56 : lw_okq (⟨"HeronBookModel", "lostAt", "(II)I"⟩, 59) := ⟨⟨by decide +kernel, by decide +kernel⟩, List.mem_of_getElem? (i := 1083) (by decide +kernel), List.mem_of_getElem? (i := 1409) (by decide +kernel), List.mem_of_getElem? (i := 1410) (by decide +kernel)⟩
theorem lw_p57 : lw_okq (⟨"HeronBookModel", "lackAt", "(II)I"⟩, 59) := ⟨⟨by decide +kernel, by decide +kernel⟩, List.mem_of_getElem? (i := 1083) (by decide +kernel), List.mem_of_getElem? (i := 1413) (by decide +kernel), List.mem_of_getElem? (i := 1414) (by decide +kernel)⟩
theorem lw_p58 : lw_okq (⟨"HeronBookModel", "had", "(II)I"⟩, 59) := ⟨⟨by decide +kernel, by decide +kernel⟩, List.mem_of_getElem? (i := 1083) (by decide +kernel), List.mem_of_getElem? (i := 1417) (by decide +kernel), List.mem_of_getElem? (i := 1418) (by decide +kernel)⟩
theorem lw_p59 : lw_okq (⟨"HeronBookModel", "traitsOf", "(II)I"⟩, 59) := ⟨⟨by decide +kernel, by decide +kernel⟩, List.mem_of_getElem? (i := 1083) (by decide +kernel), List.mem_of_getElem? (i := 1421) (by decide +kernel), List.mem_of_getElem? (i := 1422) (by decide +kernel)⟩
theorem lw_p60 : lw_okq (⟨"HeronBookModel", "weigh", "(I)I"⟩, 59) := ⟨⟨by decide +kernel, by decide +kernel⟩, List.mem_of_getElem? (i := 1083) (by decide +kernel), List.mem_of_getElem? (i := 1425) (by decide +kernel), List.mem_of_getElem? (i := 1426) (by decide +kernel)⟩
theorem lw_p61 : lw_okq (⟨"HeronBookModel", "addAt", "(II)I"⟩, 59) := ⟨⟨by decide +kernel, by decide +kernel⟩, List.mem_of_getElem? (i := 1083) (by decide +kernel), List.mem_of_getElem? (i := 1429) (by decide +kernel), List.mem_of_getElem? (i := 1430) (by decide +kernel)⟩
theorem lw_p62 : lw_okq (⟨"HeronBookModel", "notedAll", "()I"⟩, 59) := ⟨⟨by decide +kernel, by decide +kernel⟩, List.mem_of_getElem? (i := 1083) (by decide +kernel), List.mem_of_getElem? (i := 1449) (by decide +kernel), List.mem_of_getElem? (i := 1450) (by decide +kernel)⟩
theorem lw_p63 : lw_okq (⟨"HeronBookModel", "lostAll", "(I)I"⟩, 59) := ⟨⟨by decide +kernel, by decide +kernel⟩, List.mem_of_getElem? (i := 1083) (by decide +kernel), List.mem_of_getElem? (i := 1460) (by decide +kernel), List.mem_of_getElem? (i := 1461) (by decide +kernel)⟩
def lw_privs_4 : List (MethodName × Nat) := [(⟨"HeronBookModel", "readWeight", "()Z"⟩, 59), (⟨"HeronBookModel", "readTold", "(I)Z"⟩, 59), (⟨"HeronBookModel", "isNotion", "(I)Z"⟩, 59), (⟨"HeronBookModel", "isWord", "(I)Z"⟩, 59), (⟨"HeronBookModel", "isPlace", "(I)Z"⟩, 59), (⟨"HeronBookModel", "isTie", "(I)Z"⟩, 59), (⟨"HeronBookModel", "isHearer", "(I)Z"⟩, 59), (⟨"HeronBookModel", "put", "(IIIII)V"⟩, 59), (⟨"HeronBookModel", "lostAt", "(II)I"⟩, 59), (⟨"HeronBookModel", "lackAt", "(II)I"⟩, 59), (⟨"HeronBookModel", "had", "(II)I"⟩, 59), (⟨"HeronBookModel", "traitsOf", "(II)I"⟩, 59), (⟨"HeronBookModel", "weigh", "(I)I"⟩, 59), (⟨"HeronBookModel", "addAt", "(II)I"⟩, 59), (⟨"HeronBookModel", "notedAll", "()I"⟩, 59), (⟨"HeronBookModel", "lostAll", "(I)I"⟩, 59)]
theorem lw_r4 : ∀ q ∈ lw_privs_4, lw_okq q := List.forall_mem_cons.mpr ⟨lw_p48, List.forall_mem_cons.mpr ⟨lw_p49, List.forall_mem_cons.mpr ⟨lw_p50, List.forall_mem_cons.mpr ⟨lw_p51, List.forall_mem_cons.mpr ⟨lw_p52, List.forall_mem_cons.mpr ⟨lw_p53, List.forall_mem_cons.mpr ⟨lw_p54, List.forall_mem_cons.mpr ⟨lw_p55, List.forall_mem_cons.mpr ⟨lw_p56, List.forall_mem_cons.mpr ⟨lw_p57, List.forall_mem_cons.mpr ⟨lw_p58, List.forall_mem_cons.mpr ⟨lw_p59, List.forall_mem_cons.mpr ⟨lw_p60, List.forall_mem_cons.mpr ⟨lw_p61, List.forall_mem_cons.mpr ⟨lw_p62, List.forall_mem_cons.mpr ⟨lw_p63, fun _ h => absurd h List.not_mem_nil⟩⟩⟩⟩⟩⟩⟩⟩⟩⟩⟩⟩⟩⟩⟩⟩
theorem lw_p64 : lw_okq (⟨"HeronBookModel", "isClash", "(I)Z"⟩, 59) := ⟨⟨by decide +kernel, by decide +kernel⟩, List.mem_of_getElem? (i := 1083) (by decide +kernel), List.mem_of_getElem? (i := 1468) (by decide +kernel), List.mem_of_getElem? (i := 1469) (by decide +kernel)⟩
theorem lw_p65 : lw_okq (⟨"HeronBookModel", "layRow", "(II)I"⟩, 59) := ⟨⟨by decide +kernel, by decide +kernel⟩, List.mem_of_getElem? (i := 1083) (by decide +kernel), List.mem_of_getElem? (i := 1480) (by decide +kernel), List.mem_of_getElem? (i := 1481) (by decide +kernel)⟩
theorem lw_p66 : lw_okq (⟨"HeronBookModel", "putBy", "(II)V"⟩, 59) := ⟨⟨by decide +kernel, by decide +kernel⟩, List.mem_of_getElem? (i := 1083) (by decide +kernel), List.mem_of_getElem? (i := 1484) (by decide +kernel), List.mem_of_getElem? (i := 1485) (by decide +kernel)⟩
theorem lw_p67 : lw_okq (⟨"HeronBookModel", "isFree", "(I)Z"⟩, 59) := ⟨⟨by decide +kernel, by decide +kernel⟩, List.mem_of_getElem? (i := 1083) (by decide +kernel), List.mem_of_getElem? (i := 1488) (by decide +kernel), List.mem_of_getElem? (i := 1489) (by decide +kernel)⟩
theorem lw_p68 : lw_okq (⟨"HeronBookModel", "costs", "()I"⟩, 59) := ⟨⟨by decide +kernel, by decide +kernel⟩, List.mem_of_getElem? (i := 1083) (by decide +kernel), List.mem_of_getElem? (i := 1496) (by decide +kernel), List.mem_of_getElem? (i := 1497) (by decide +kernel)⟩
theorem lw_p69 : lw_okq (⟨"HeronBookModel", "oneOf", "(I)I"⟩, 59) := ⟨⟨by decide +kernel, by decide +kernel⟩, List.mem_of_getElem? (i := 1083) (by decide +kernel), List.mem_of_getElem? (i := 1505) (by decide +kernel), List.mem_of_getElem? (i := 1506) (by decide +kernel)⟩
theorem lw_p70 : lw_okq (⟨"HeronBookModel", "plainSum", "(II)I"⟩, 59) := ⟨⟨by decide +kernel, by decide +kernel⟩, List.mem_of_getElem? (i := 1083) (by decide +kernel), List.mem_of_getElem? (i := 1509) (by decide +kernel), List.mem_of_getElem? (i := 1510) (by decide +kernel)⟩
theorem lw_p71 : lw_okq (⟨"HeronBookModel", "plainAt", "(II)I"⟩, 59) := ⟨⟨by decide +kernel, by decide +kernel⟩, List.mem_of_getElem? (i := 1083) (by decide +kernel), List.mem_of_getElem? (i := 1513) (by decide +kernel), List.mem_of_getElem? (i := 1514) (by decide +kernel)⟩
theorem lw_p72 : lw_okq (⟨"HeronBookModel", "isAsked", "(II)Z"⟩, 59) := ⟨⟨by decide +kernel, by decide +kernel⟩, List.mem_of_getElem? (i := 1083) (by decide +kernel), List.mem_of_getElem? (i := 1533) (by decide +kernel), List.mem_of_getElem? (i := 1534) (by decide +kernel)⟩
theorem lw_p73 : lw_okq (⟨"HeronBookModel", "heardBy", "(II)I"⟩, 59) := ⟨⟨by decide +kernel, by decide +kernel⟩, List.mem_of_getElem? (i := 1083) (by decide +kernel), List.mem_of_getElem? (i := 1537) (by decide +kernel), List.mem_of_getElem? (i := 1538) (by decide +kernel)⟩
theorem lw_p74 : lw_okq (⟨"HeronBookModel", "backOf", "(I)I"⟩, 59) := ⟨⟨by decide +kernel, by decide +kernel⟩, List.mem_of_getElem? (i := 1083) (by decide +kernel), List.mem_of_getElem? (i := 1545) (by decide +kernel), List.mem_of_getElem? (i := 1546) (by decide +kernel)⟩
theorem lw_p75 : lw_okq (⟨"HeronBookModel", "isLaugh", "(II)Z"⟩, 59) := ⟨⟨by decide +kernel, by decide +kernel⟩, List.mem_of_getElem? (i := 1083) (by decide +kernel), List.mem_of_getElem? (i := 1553) (by decide +kernel), List.mem_of_getElem? (i := 1554) (by decide +kernel)⟩
theorem lw_p76 : lw_okq (⟨"HeronBookModel", "hitsOf", "(I)I"⟩, 59) := ⟨⟨by decide +kernel, by decide +kernel⟩, List.mem_of_getElem? (i := 1083) (by decide +kernel), List.mem_of_getElem? (i := 1561) (by decide +kernel), List.mem_of_getElem? (i := 1562) (by decide +kernel)⟩
theorem lw_p77 : lw_okq (⟨"HeronBookModel", "store", "(I)V"⟩, 59) := ⟨⟨by decide +kernel, by decide +kernel⟩, List.mem_of_getElem? (i := 1083) (by decide +kernel), List.mem_of_getElem? (i := 1576) (by decide +kernel), List.mem_of_getElem? (i := 1577) (by decide +kernel)⟩
theorem lw_p78 : lw_okq (⟨"HeronBookModel", "load", "(I)V"⟩, 59) := ⟨⟨by decide +kernel, by decide +kernel⟩, List.mem_of_getElem? (i := 1083) (by decide +kernel), List.mem_of_getElem? (i := 1584) (by decide +kernel), List.mem_of_getElem? (i := 1585) (by decide +kernel)⟩
theorem lw_p79 : lw_okq (⟨"HeronBookModel", "makeFits", "(II)I"⟩, 59) := ⟨⟨by decide +kernel, by decide +kernel⟩, List.mem_of_getElem? (i := 1083) (by decide +kernel), List.mem_of_getElem? (i := 1632) (by decide +kernel), List.mem_of_getElem? (i := 1633) (by decide +kernel)⟩
def lw_privs_5 : List (MethodName × Nat) := [(⟨"HeronBookModel", "isClash", "(I)Z"⟩, 59), (⟨"HeronBookModel", "layRow", "(II)I"⟩, 59), (⟨"HeronBookModel", "putBy", "(II)V"⟩, 59), (⟨"HeronBookModel", "isFree", "(I)Z"⟩, 59), (⟨"HeronBookModel", "costs", "()I"⟩, 59), (⟨"HeronBookModel", "oneOf", "(I)I"⟩, 59), (⟨"HeronBookModel", "plainSum", "(II)I"⟩, 59), (⟨"HeronBookModel", "plainAt", "(II)I"⟩, 59), (⟨"HeronBookModel", "isAsked", "(II)Z"⟩, 59), (⟨"HeronBookModel", "heardBy", "(II)I"⟩, 59), (⟨"HeronBookModel", "backOf", "(I)I"⟩, 59), (⟨"HeronBookModel", "isLaugh", "(II)Z"⟩, 59), (⟨"HeronBookModel", "hitsOf", "(I)I"⟩, 59), (⟨"HeronBookModel", "store", "(I)V"⟩, 59), (⟨"HeronBookModel", "load", "(I)V"⟩, 59), (⟨"HeronBookModel", "makeFits", "(II)I"⟩, 59)]
theorem lw_r5 : ∀ q ∈ lw_privs_5, lw_okq q := List.forall_mem_cons.mpr ⟨lw_p64, List.forall_mem_cons.mpr ⟨lw_p65, List.forall_mem_cons.mpr ⟨lw_p66, List.forall_mem_cons.mpr ⟨lw_p67, List.forall_mem_cons.mpr ⟨lw_p68, List.forall_mem_cons.mpr ⟨lw_p69, List.forall_mem_cons.mpr ⟨lw_p70, List.forall_mem_cons.mpr ⟨lw_p71, List.forall_mem_cons.mpr ⟨lw_p72, List.forall_mem_cons.mpr ⟨lw_p73, List.forall_mem_cons.mpr ⟨lw_p74, List.forall_mem_cons.mpr ⟨lw_p75, List.forall_mem_cons.mpr ⟨lw_p76, List.forall_mem_cons.mpr ⟨lw_p77, List.forall_mem_cons.mpr ⟨lw_p78, List.forall_mem_cons.mpr ⟨lw_p79, fun _ h => absurd h List.not_mem_nil⟩⟩⟩⟩⟩⟩⟩⟩⟩⟩⟩⟩⟩⟩⟩⟩
def lw_privs : List (MethodName × Nat) := lw_privs_1 ++ (lw_privs_2 ++ (lw_privs_3 ++ (lw_privs_4 ++ (lw_privs_5))))
def lw_tbl : List Cond := k2_sels lw_privs ++ tables_1
theorem lw_privs_ok : ∀ q ∈ lw_privs, lw_okq q := by
  show ∀ q ∈ lw_privs_1 ++ (lw_privs_2 ++ (lw_privs_3 ++ (lw_privs_4 ++ (lw_privs_5)))), lw_okq q
  exact List.forall_mem_append.mpr ⟨lw_r1, List.forall_mem_append.mpr ⟨lw_r2, List.forall_mem_append.mpr ⟨lw_r3, List.forall_mem_append.mpr ⟨lw_r4, lw_r5⟩⟩⟩⟩
def RX0 : String := "HeronBook$Book"
def TX0 : u_T := fun k => match k with
  | 0 => ("HeronBook$Book", "counts", "[I", true)
  | 1 => ("HeronBook$Book", "settings", "[I", true)
  | 2 => ("HeronBook$Book", "weights", "[I", true)
  | 3 => ("HeronBook$Book", "groupSums", "[I", true)
  | 4 => ("HeronBook$Book", "notionTraits", "[I", true)
  | 5 => ("HeronBook$Book", "wordTraits", "[I", true)
  | 6 => ("HeronBook$Book", "placeNotion", "[I", true)
  | 7 => ("HeronBook$Book", "placeBears", "[I", true)
  | 8 => ("HeronBook$Book", "tieFirst", "[I", true)
  | 9 => ("HeronBook$Book", "tieSecond", "[I", true)
  | 10 => ("HeronBook$Book", "tieTraits", "[I", true)
  | 11 => ("HeronBook$Book", "hearerKnows", "[I", true)
  | _ => ("HeronBook$Book", "hearerLaughs", "[I", true)
def tyX0 : Nat → FieldType := fun k => match k with
  | 0 => .array .int
  | 1 => .array .int
  | 2 => .array .int
  | 3 => .array .int
  | 4 => .array .int
  | 5 => .array .int
  | 6 => .array .int
  | 7 => .array .int
  | 8 => .array .int
  | 9 => .array .int
  | 10 => .array .int
  | 11 => .array .int
  | _ => .array .int
abbrev wsX00 : List Cond := u_ws RX0 TX0 13
theorem nmX0 : ∀ a, a < 13 → ∀ b, b < 13 → a ≠ b → (TX0 a).2.1 ≠ (TX0 b).2.1 := by decide +kernel
theorem tyX0_ok : ∀ k, k < 13 → parseFieldDescriptor (TX0 k).2.2.1 = some (tyX0 k) := by decide +kernel
abbrev cX0_init : ByteArray := prog_2_method_1_code
def yX0_init : MethodName := ⟨RX0, "<init>", "()V"⟩
abbrev cX0_clear : ByteArray := prog_2_method_2_code
def yX0_clear : MethodName := ⟨RX0, "clear", "()V"⟩
abbrev cX0_copyFrom : ByteArray := prog_2_method_3_code
def yX0_copyFrom : MethodName := ⟨RX0, "copyFrom", "(LHeronBook$Book;)V"⟩
abbrev cX0_roomFor : ByteArray := prog_2_method_4_code
def yX0_roomFor : MethodName := ⟨RX0, "roomFor", "(I)I"⟩
abbrev cX0_has : ByteArray := prog_2_method_5_code
def yX0_has : MethodName := ⟨RX0, "has", "(II)Z"⟩
abbrev cX0_setting : ByteArray := prog_2_method_6_code
def yX0_setting : MethodName := ⟨RX0, "setting", "(I)I"⟩
abbrev cX0_allPlaces : ByteArray := prog_2_method_7_code
def yX0_allPlaces : MethodName := ⟨RX0, "allPlaces", "()I"⟩
abbrev cX0_weigh : ByteArray := prog_2_method_8_code
def yX0_weigh : MethodName := ⟨RX0, "weigh", "(II)V"⟩
abbrev cX0_sumGroups : ByteArray := prog_2_method_9_code
def yX0_sumGroups : MethodName := ⟨RX0, "sumGroups", "()V"⟩
abbrev cX0_weightsOf : ByteArray := prog_2_method_10_code
def yX0_weightsOf : MethodName := ⟨RX0, "weightsOf", "(I)I"⟩
abbrev cX0_traitsOfNotionAt : ByteArray := prog_2_method_11_code
def yX0_traitsOfNotionAt : MethodName := ⟨RX0, "traitsOfNotionAt", "(I)I"⟩
abbrev cX0_lacksOf : ByteArray := prog_2_method_12_code
def yX0_lacksOf : MethodName := ⟨RX0, "lacksOf", "(II)I"⟩
abbrev cX0_addsOf : ByteArray := prog_2_method_13_code
def yX0_addsOf : MethodName := ⟨RX0, "addsOf", "(II)I"⟩
abbrev cX0_lostByTraits : ByteArray := prog_2_method_14_code
def yX0_lostByTraits : MethodName := ⟨RX0, "lostByTraits", "(III)I"⟩
abbrev cX0_wouldClash : ByteArray := prog_2_method_15_code
def yX0_wouldClash : MethodName := ⟨RX0, "wouldClash", "(IIIZ)Z"⟩
abbrev cX0_otherPlace : ByteArray := prog_2_method_16_code
def yX0_otherPlace : MethodName := ⟨RX0, "otherPlace", "(II)I"⟩
abbrev cX0_boundBy : ByteArray := prog_2_method_17_code
def yX0_boundBy : MethodName := ⟨RX0, "boundBy", "(I)I"⟩
abbrev cX0_wordForAll : ByteArray := prog_2_method_18_code
def yX0_wordForAll : MethodName := ⟨RX0, "wordForAll", "(I)I"⟩
abbrev cX0_toldBack : ByteArray := prog_2_method_19_code
def yX0_toldBack : MethodName := ⟨RX0, "toldBack", "(I)I"⟩
abbrev cX0_traitsSaidFor : ByteArray := prog_2_method_20_code
def yX0_traitsSaidFor : MethodName := ⟨RX0, "traitsSaidFor", "(I)I"⟩
def RX1 : String := "HeronBook$Four"
def TX1 : u_T := fun k => match k with
  | _ => ("HeronBook$Four", "given", "[B", true)
def tyX1 : Nat → FieldType := fun k => match k with
  | _ => .array .byte
abbrev wsX10 : List Cond := u_ws RX1 TX1 1
theorem nmX1 : ∀ a, a < 1 → ∀ b, b < 1 → a ≠ b → (TX1 a).2.1 ≠ (TX1 b).2.1 := by decide +kernel
theorem tyX1_ok : ∀ k, k < 1 → parseFieldDescriptor (TX1 k).2.2.1 = some (tyX1 k) := by decide +kernel
abbrev cX1_init : ByteArray := prog_3_method_1_code
def yX1_init : MethodName := ⟨RX1, "<init>", "()V"⟩
abbrev cX1_clear : ByteArray := prog_3_method_2_code
def yX1_clear : MethodName := ⟨RX1, "clear", "()V"⟩
abbrev cX1_indexOf : ByteArray := prog_3_method_3_code
def yX1_indexOf : MethodName := ⟨RX1, "indexOf", "(III)I"⟩
abbrev cX1_put : ByteArray := prog_3_method_4_code
def yX1_put : MethodName := ⟨RX1, "put", "(IIII)I"⟩
abbrev cX1_agreed : ByteArray := prog_3_method_5_code
def yX1_agreed : MethodName := ⟨RX1, "agreed", "(II)I"⟩
abbrev cX1_costOf : ByteArray := prog_3_method_6_code
def yX1_costOf : MethodName := ⟨RX1, "costOf", "(II)I"⟩
def RX2 : String := "HeronBook$Laughs"
def TX2 : u_T := fun k => match k with
  | 0 => ("HeronBook$Laughs", "hearers", "[I", true)
  | 1 => ("HeronBook$Laughs", "traitsThen", "[I", true)
  | 2 => ("HeronBook$Laughs", "laughed", "[I", true)
  | 3 => ("HeronBook$Laughs", "steps", "[I", true)
  | 4 => ("HeronBook$Laughs", "timesRight", "[I", true)
  | 5 => ("HeronBook$Laughs", "rightOnes", "[I", true)
  | 6 => ("HeronBook$Laughs", "rightLaughs", "[I", true)
  | 7 => ("HeronBook$Laughs", "rightSteps", "[I", true)
  | 8 => ("HeronBook$Laughs", "laughedAsKnown", "[I", true)
  | 9 => ("HeronBook$Laughs", "sets", "[I", true)
  | 10 => ("HeronBook$Laughs", "fitting", "I", false)
  | 11 => ("HeronBook$Laughs", "latest", "I", false)
  | 12 => ("HeronBook$Laughs", "size", "I", false)
  | _ => ("HeronBook$Laughs", "rights", "I", false)
def tyX2 : Nat → FieldType := fun k => match k with
  | 0 => .array .int
  | 1 => .array .int
  | 2 => .array .int
  | 3 => .array .int
  | 4 => .array .int
  | 5 => .array .int
  | 6 => .array .int
  | 7 => .array .int
  | 8 => .array .int
  | 9 => .array .int
  | 10 => .int
  | 11 => .int
  | 12 => .int
  | _ => .int
abbrev wsX20 : List Cond := u_ws RX2 TX2 14
theorem nmX2 : ∀ a, a < 14 → ∀ b, b < 14 → a ≠ b → (TX2 a).2.1 ≠ (TX2 b).2.1 := by decide +kernel
theorem tyX2_ok : ∀ k, k < 14 → parseFieldDescriptor (TX2 k).2.2.1 = some (tyX2 k) := by decide +kernel
abbrev cX2_init : ByteArray := prog_4_method_1_code
def yX2_init : MethodName := ⟨RX2, "<init>", "()V"⟩
abbrev cX2_clear : ByteArray := prog_4_method_2_code
def yX2_clear : MethodName := ⟨RX2, "clear", "()V"⟩
abbrev cX2_mayTell : ByteArray := prog_4_method_3_code
def yX2_mayTell : MethodName := ⟨RX2, "mayTell", "(II)Z"⟩
abbrev cX2_isFull : ByteArray := prog_4_method_4_code
def yX2_isFull : MethodName := ⟨RX2, "isFull", "()Z"⟩
abbrev cX2_isFullOfRights : ByteArray := prog_4_method_5_code
def yX2_isFullOfRights : MethodName := ⟨RX2, "isFullOfRights", "()Z"⟩
abbrev cX2_append : ByteArray := prog_4_method_6_code
def yX2_append : MethodName := ⟨RX2, "append", "(IIII)I"⟩
abbrev cX2_putRight : ByteArray := prog_4_method_7_code
def yX2_putRight : MethodName := ⟨RX2, "putRight", "(III)I"⟩
abbrev cX2_gather : ByteArray := prog_4_method_8_code
def yX2_gather : MethodName := ⟨RX2, "gather", "(II)I"⟩
abbrev cX2_fitsAll : ByteArray := prog_4_method_9_code
def yX2_fitsAll : MethodName := ⟨RX2, "fitsAll", "(III)Z"⟩
abbrev cX2_setsWith : ByteArray := prog_4_method_10_code
def yX2_setsWith : MethodName := ⟨RX2, "setsWith", "(I)I"⟩
abbrev cX2_setsWithin : ByteArray := prog_4_method_11_code
def yX2_setsWithin : MethodName := ⟨RX2, "setsWithin", "(I)I"⟩
def RX3 : String := "HeronBook$Names"
def TX3 : u_T := fun k => match k with
  | 0 => ("HeronBook$Names", "starts", "[I", true)
  | 1 => ("HeronBook$Names", "ends", "[I", true)
  | _ => ("HeronBook$Names", "size", "I", false)
def tyX3 : Nat → FieldType := fun k => match k with
  | 0 => .array .int
  | 1 => .array .int
  | _ => .int
abbrev wsX30 : List Cond := u_ws RX3 TX3 3
theorem nmX3 : ∀ a, a < 3 → ∀ b, b < 3 → a ≠ b → (TX3 a).2.1 ≠ (TX3 b).2.1 := by decide +kernel
theorem tyX3_ok : ∀ k, k < 3 → parseFieldDescriptor (TX3 k).2.2.1 = some (tyX3 k) := by decide +kernel
abbrev cX3_init : ByteArray := prog_5_method_1_code
def yX3_init : MethodName := ⟨RX3, "<init>", "()V"⟩
abbrev cX3_append : ByteArray := prog_5_method_2_code
def yX3_append : MethodName := ⟨RX3, "append", "(II)V"⟩
abbrev cX3_find : ByteArray := prog_5_method_3_code
def yX3_find : MethodName := ⟨RX3, "find", "([BII)I"⟩
abbrev cX3_isSame : ByteArray := prog_5_method_4_code
def yX3_isSame : MethodName := ⟨RX3, "isSame", "([BIII)Z"⟩
def RX4 : String := "HeronBook$Reader"
def TX4 : u_T := fun k => match k with
  | 0 => ("HeronBook$Reader", "draft", "LHeronBook$Book;", true)
  | 1 => ("HeronBook$Reader", "notionNames", "LHeronBook$Names;", true)
  | 2 => ("HeronBook$Reader", "wordNames", "LHeronBook$Names;", true)
  | 3 => ("HeronBook$Reader", "hearerNames", "LHeronBook$Names;", true)
  | 4 => ("HeronBook$Reader", "faultKind", "I", false)
  | 5 => ("HeronBook$Reader", "faultPlace", "I", false)
  | 6 => ("HeronBook$Reader", "text", "[B", false)
  | 7 => ("HeronBook$Reader", "length", "I", false)
  | 8 => ("HeronBook$Reader", "start", "I", false)
  | 9 => ("HeronBook$Reader", "end", "I", false)
  | 10 => ("HeronBook$Reader", "token", "C", false)
  | 11 => ("HeronBook$Reader", "set", "I", false)
  | 12 => ("HeronBook$Reader", "number", "I", false)
  | _ => ("HeronBook$Reader", "toldOnce", "I", false)
def tyX4 : Nat → FieldType := fun k => match k with
  | 0 => .object "HeronBook$Book"
  | 1 => .object "HeronBook$Names"
  | 2 => .object "HeronBook$Names"
  | 3 => .object "HeronBook$Names"
  | 4 => .int
  | 5 => .int
  | 6 => .array .byte
  | 7 => .int
  | 8 => .int
  | 9 => .int
  | 10 => .char
  | 11 => .int
  | 12 => .int
  | _ => .int
abbrev wsX40 : List Cond := u_ws RX4 TX4 14
theorem nmX4 : ∀ a, a < 14 → ∀ b, b < 14 → a ≠ b → (TX4 a).2.1 ≠ (TX4 b).2.1 := by decide +kernel
theorem tyX4_ok : ∀ k, k < 14 → parseFieldDescriptor (TX4 k).2.2.1 = some (tyX4 k) := by decide +kernel
abbrev cX4_init : ByteArray := prog_6_method_1_code
def yX4_init : MethodName := ⟨RX4, "<init>", "()V"⟩
abbrev cX4_read : ByteArray := prog_6_method_2_code
def yX4_read : MethodName := ⟨RX4, "read", "(LHeronBook$Tape;)I"⟩
abbrev cX4_begin : ByteArray := prog_6_method_3_code
def yX4_begin : MethodName := ⟨RX4, "begin", "(LHeronBook$Tape;)V"⟩
abbrev cX4_advance : ByteArray := prog_6_method_4_code
def yX4_advance : MethodName := ⟨RX4, "advance", "()V"⟩
abbrev cX4_signOf : ByteArray := prog_6_method_5_code
def yX4_signOf : MethodName := ⟨RX4, "signOf", "(B)C"⟩
abbrev cX4_refuse : ByteArray := prog_6_method_6_code
def yX4_refuse : MethodName := ⟨RX4, "refuse", "(I)Z"⟩
abbrev cX4_mayBegin : ByteArray := prog_6_method_7_code
def yX4_mayBegin : MethodName := ⟨RX4, "mayBegin", "(I)Z"⟩
abbrev cX4_readBody : ByteArray := prog_6_method_8_code
def yX4_readBody : MethodName := ⟨RX4, "readBody", "(I)Z"⟩
abbrev cX4_keyword : ByteArray := prog_6_method_9_code
def yX4_keyword : MethodName := ⟨RX4, "keyword", "()I"⟩
abbrev cX4_isWord : ByteArray := prog_6_method_10_code
def yX4_isWord : MethodName := ⟨RX4, "isWord", "(Ljava/lang/String;)Z"⟩
abbrev cX4_readSemicolon : ByteArray := prog_6_method_11_code
def yX4_readSemicolon : MethodName := ⟨RX4, "readSemicolon", "()Z"⟩
abbrev cX4_readTraits : ByteArray := prog_6_method_12_code
def yX4_readTraits : MethodName := ⟨RX4, "readTraits", "(LHeronBook$Names;I[I)Z"⟩
abbrev cX4_readPlace : ByteArray := prog_6_method_13_code
def yX4_readPlace : MethodName := ⟨RX4, "readPlace", "()Z"⟩
abbrev cX4_readTie : ByteArray := prog_6_method_14_code
def yX4_readTie : MethodName := ⟨RX4, "readTie", "()Z"⟩
abbrev cX4_readHearer : ByteArray := prog_6_method_15_code
def yX4_readHearer : MethodName := ⟨RX4, "readHearer", "()Z"⟩
abbrev cX4_readWeight : ByteArray := prog_6_method_16_code
def yX4_readWeight : MethodName := ⟨RX4, "readWeight", "()Z"⟩
abbrev cX4_readSetting : ByteArray := prog_6_method_17_code
def yX4_readSetting : MethodName := ⟨RX4, "readSetting", "(I)Z"⟩
abbrev cX4_readNewName : ByteArray := prog_6_method_18_code
def yX4_readNewName : MethodName := ⟨RX4, "readNewName", "(LHeronBook$Names;)Z"⟩
abbrev cX4_readSet : ByteArray := prog_6_method_19_code
def yX4_readSet : MethodName := ⟨RX4, "readSet", "()Z"⟩
abbrev cX4_readNumber : ByteArray := prog_6_method_20_code
def yX4_readNumber : MethodName := ⟨RX4, "readNumber", "(II)Z"⟩
def RX5 : String := "HeronBook$Rendering"
def TX5 : u_T := fun k => match k with
  | 0 => ("HeronBook$Rendering", "book", "LHeronBook$Book;", true)
  | 1 => ("HeronBook$Rendering", "kinds", "[I", true)
  | 2 => ("HeronBook$Rendering", "firsts", "[I", true)
  | 3 => ("HeronBook$Rendering", "seconds", "[I", true)
  | 4 => ("HeronBook$Rendering", "thirds", "[I", true)
  | _ => ("HeronBook$Rendering", "notes", "[I", true)
def tyX5 : Nat → FieldType := fun k => match k with
  | 0 => .object "HeronBook$Book"
  | 1 => .array .int
  | 2 => .array .int
  | 3 => .array .int
  | 4 => .array .int
  | _ => .array .int
abbrev wsX50 : List Cond := u_ws RX5 TX5 6
theorem nmX5 : ∀ a, a < 6 → ∀ b, b < 6 → a ≠ b → (TX5 a).2.1 ≠ (TX5 b).2.1 := by decide +kernel
theorem tyX5_ok : ∀ k, k < 6 → parseFieldDescriptor (TX5 k).2.2.1 = some (tyX5 k) := by decide +kernel
abbrev cX5_init : ByteArray := prog_7_method_1_code
def yX5_init : MethodName := ⟨RX5, "<init>", "(LHeronBook$Book;)V"⟩
abbrev cX5_clear : ByteArray := prog_7_method_2_code
def yX5_clear : MethodName := ⟨RX5, "clear", "()V"⟩
abbrev cX5_copyFrom : ByteArray := prog_7_method_3_code
def yX5_copyFrom : MethodName := ⟨RX5, "copyFrom", "(LHeronBook$Rendering;)V"⟩
abbrev cX5_put : ByteArray := prog_7_method_4_code
def yX5_put : MethodName := ⟨RX5, "put", "(IIIII)V"⟩
abbrev cX5_isChosen : ByteArray := prog_7_method_5_code
def yX5_isChosen : MethodName := ⟨RX5, "isChosen", "(I)Z"⟩
abbrev cX5_isBorrowed : ByteArray := prog_7_method_6_code
def yX5_isBorrowed : MethodName := ⟨RX5, "isBorrowed", "(I)Z"⟩
abbrev cX5_chosen : ByteArray := prog_7_method_7_code
def yX5_chosen : MethodName := ⟨RX5, "chosen", "()I"⟩
abbrev cX5_noted : ByteArray := prog_7_method_8_code
def yX5_noted : MethodName := ⟨RX5, "noted", "()I"⟩
abbrev cX5_traitsAt : ByteArray := prog_7_method_9_code
def yX5_traitsAt : MethodName := ⟨RX5, "traitsAt", "(I[I)I"⟩
abbrev cX5_traitsOf : ByteArray := prog_7_method_10_code
def yX5_traitsOf : MethodName := ⟨RX5, "traitsOf", "(I[I)I"⟩
abbrev cX5_lostAt : ByteArray := prog_7_method_11_code
def yX5_lostAt : MethodName := ⟨RX5, "lostAt", "(I[I)I"⟩
abbrev cX5_lostOfAll : ByteArray := prog_7_method_12_code
def yX5_lostOfAll : MethodName := ⟨RX5, "lostOfAll", "([I)I"⟩
abbrev cX5_clashBits : ByteArray := prog_7_method_13_code
def yX5_clashBits : MethodName := ⟨RX5, "clashBits", "()I"⟩
abbrev cX5_isClashing : ByteArray := prog_7_method_14_code
def yX5_isClashing : MethodName := ⟨RX5, "isClashing", "(IIIZ)Z"⟩
abbrev cX5_clashesAt : ByteArray := prog_7_method_15_code
def yX5_clashesAt : MethodName := ⟨RX5, "clashesAt", "(IIZ)I"⟩
abbrev cX5_isBorrowedOption : ByteArray := prog_7_method_16_code
def yX5_isBorrowedOption : MethodName := ⟨RX5, "isBorrowedOption", "(I)Z"⟩
abbrev cX5_traitsOfOption : ByteArray := prog_7_method_17_code
def yX5_traitsOfOption : MethodName := ⟨RX5, "traitsOfOption", "(I)I"⟩
abbrev cX5_lostWithOption : ByteArray := prog_7_method_18_code
def yX5_lostWithOption : MethodName := ⟨RX5, "lostWithOption", "(II)I"⟩
abbrev cX5_putOption : ByteArray := prog_7_method_19_code
def yX5_putOption : MethodName := ⟨RX5, "putOption", "(II)V"⟩
abbrev cX5_exchangeRound : ByteArray := prog_7_method_20_code
def yX5_exchangeRound : MethodName := ⟨RX5, "exchangeRound", "()Z"⟩
abbrev cX5_exchangeAt : ByteArray := prog_7_method_21_code
def yX5_exchangeAt : MethodName := ⟨RX5, "exchangeAt", "(I)Z"⟩
abbrev cX5_lostWithWord : ByteArray := prog_7_method_22_code
def yX5_lostWithWord : MethodName := ⟨RX5, "lostWithWord", "(II)I"⟩
abbrev cX5_lostWithLeast : ByteArray := prog_7_method_23_code
def yX5_lostWithLeast : MethodName := ⟨RX5, "lostWithLeast", "(I)I"⟩
abbrev cX5_oneWord : ByteArray := prog_7_method_24_code
def yX5_oneWord : MethodName := ⟨RX5, "oneWord", "(I)I"⟩
abbrev cX5_mendOnce : ByteArray := prog_7_method_25_code
def yX5_mendOnce : MethodName := ⟨RX5, "mendOnce", "()Z"⟩
abbrev cX5_untoldLacks : ByteArray := prog_7_method_26_code
def yX5_untoldLacks : MethodName := ⟨RX5, "untoldLacks", "(I)I"⟩
abbrev cX5_heardAt : ByteArray := prog_7_method_27_code
def yX5_heardAt : MethodName := ⟨RX5, "heardAt", "(II)I"⟩
abbrev cX5_rightOf : ByteArray := prog_7_method_28_code
def yX5_rightOf : MethodName := ⟨RX5, "rightOf", "(I)I"⟩
def RX6 : String := "HeronBook$Search"
def TX6 : u_T := fun k => match k with
  | 0 => ("HeronBook$Search", "book", "LHeronBook$Book;", true)
  | 1 => ("HeronBook$Search", "places", "[I", true)
  | 2 => ("HeronBook$Search", "lostWith", "[[I", true)
  | 3 => ("HeronBook$Search", "goesWith", "[[I", true)
  | 4 => ("HeronBook$Search", "left", "[[I", true)
  | 5 => ("HeronBook$Search", "row", "[I", true)
  | 6 => ("HeronBook$Search", "bestRow", "[I", true)
  | 7 => ("HeronBook$Search", "size", "I", false)
  | 8 => ("HeronBook$Search", "options", "I", false)
  | _ => ("HeronBook$Search", "least", "I", false)
def tyX6 : Nat → FieldType := fun k => match k with
  | 0 => .object "HeronBook$Book"
  | 1 => .array .int
  | 2 => .array (.array .int)
  | 3 => .array (.array .int)
  | 4 => .array (.array .int)
  | 5 => .array .int
  | 6 => .array .int
  | 7 => .int
  | 8 => .int
  | _ => .int
abbrev wsX60 : List Cond := u_ws RX6 TX6 10
theorem nmX6 : ∀ a, a < 10 → ∀ b, b < 10 → a ≠ b → (TX6 a).2.1 ≠ (TX6 b).2.1 := by decide +kernel
theorem tyX6_ok : ∀ k, k < 10 → parseFieldDescriptor (TX6 k).2.2.1 = some (tyX6 k) := by decide +kernel
abbrev cX6_init : ByteArray := prog_8_method_1_code
def yX6_init : MethodName := ⟨RX6, "<init>", "(LHeronBook$Book;)V"⟩
abbrev cX6_putBest : ByteArray := prog_8_method_2_code
def yX6_putBest : MethodName := ⟨RX6, "putBest", "(LHeronBook$Rendering;I)Z"⟩
abbrev cX6_begin : ByteArray := prog_8_method_3_code
def yX6_begin : MethodName := ⟨RX6, "begin", "(LHeronBook$Rendering;I)V"⟩
abbrev cX6_levelOf : ByteArray := prog_8_method_4_code
def yX6_levelOf : MethodName := ⟨RX6, "levelOf", "(I)I"⟩
abbrev cX6_obeyTie : ByteArray := prog_8_method_5_code
def yX6_obeyTie : MethodName := ⟨RX6, "obeyTie", "(LHeronBook$Rendering;I)V"⟩
abbrev cX6_obeyInside : ByteArray := prog_8_method_6_code
def yX6_obeyInside : MethodName := ⟨RX6, "obeyInside", "(LHeronBook$Rendering;III)V"⟩
abbrev cX6_obeyOutside : ByteArray := prog_8_method_7_code
def yX6_obeyOutside : MethodName := ⟨RX6, "obeyOutside", "(LHeronBook$Rendering;II)V"⟩
abbrev cX6_settle : ByteArray := prog_8_method_8_code
def yX6_settle : MethodName := ⟨RX6, "settle", "(II)V"⟩
abbrev cX6_narrow : ByteArray := prog_8_method_9_code
def yX6_narrow : MethodName := ⟨RX6, "narrow", "(II)I"⟩
abbrev cX6_leastOf : ByteArray := prog_8_method_10_code
def yX6_leastOf : MethodName := ⟨RX6, "leastOf", "(II)I"⟩
def RX7 : String := "HeronBook$Tape"
def TX7 : u_T := fun k => match k with
  | 0 => ("HeronBook$Tape", "bytes", "[B", true)
  | _ => ("HeronBook$Tape", "length", "I", false)
def tyX7 : Nat → FieldType := fun k => match k with
  | 0 => .array .byte
  | _ => .int
abbrev wsX70 : List Cond := u_ws RX7 TX7 2
theorem nmX7 : ∀ a, a < 2 → ∀ b, b < 2 → a ≠ b → (TX7 a).2.1 ≠ (TX7 b).2.1 := by decide +kernel
theorem tyX7_ok : ∀ k, k < 2 → parseFieldDescriptor (TX7 k).2.2.1 = some (tyX7 k) := by decide +kernel
abbrev cX7_init : ByteArray := prog_9_method_1_code
def yX7_init : MethodName := ⟨RX7, "<init>", "()V"⟩
abbrev cX7_hasRoom : ByteArray := prog_9_method_2_code
def yX7_hasRoom : MethodName := ⟨RX7, "hasRoom", "()Z"⟩
abbrev cX7_append : ByteArray := prog_9_method_3_code
def yX7_append : MethodName := ⟨RX7, "append", "(I)V"⟩
def RX8 : String := "HeronBook$Years"
def TX8 : u_T := fun k => match k with
  | 0 => ("HeronBook$Years", "book", "LHeronBook$Book;", true)
  | 1 => ("HeronBook$Years", "movedWords", "[I", true)
  | 2 => ("HeronBook$Years", "fromYears", "[I", true)
  | 3 => ("HeronBook$Years", "movedTraits", "[I", true)
  | 4 => ("HeronBook$Years", "words", "[I", true)
  | 5 => ("HeronBook$Years", "lostBefore", "[I", true)
  | _ => ("HeronBook$Years", "size", "I", false)
def tyX8 : Nat → FieldType := fun k => match k with
  | 0 => .object "HeronBook$Book"
  | 1 => .array .int
  | 2 => .array .int
  | 3 => .array .int
  | 4 => .array .int
  | 5 => .array .int
  | _ => .int
abbrev wsX80 : List Cond := u_ws RX8 TX8 7
theorem nmX8 : ∀ a, a < 7 → ∀ b, b < 7 → a ≠ b → (TX8 a).2.1 ≠ (TX8 b).2.1 := by decide +kernel
theorem tyX8_ok : ∀ k, k < 7 → parseFieldDescriptor (TX8 k).2.2.1 = some (tyX8 k) := by decide +kernel
abbrev cX8_init : ByteArray := prog_10_method_1_code
def yX8_init : MethodName := ⟨RX8, "<init>", "(LHeronBook$Book;)V"⟩
abbrev cX8_clear : ByteArray := prog_10_method_2_code
def yX8_clear : MethodName := ⟨RX8, "clear", "()V"⟩
abbrev cX8_isFull : ByteArray := prog_10_method_3_code
def yX8_isFull : MethodName := ⟨RX8, "isFull", "()Z"⟩
abbrev cX8_latestOf : ByteArray := prog_10_method_4_code
def yX8_latestOf : MethodName := ⟨RX8, "latestOf", "(I)I"⟩
abbrev cX8_append : ByteArray := prog_10_method_5_code
def yX8_append : MethodName := ⟨RX8, "append", "(III)I"⟩
abbrev cX8_wordsIn : ByteArray := prog_10_method_6_code
def yX8_wordsIn : MethodName := ⟨RX8, "wordsIn", "(I)[I"⟩
abbrev cX8_turns : ByteArray := prog_10_method_7_code
def yX8_turns : MethodName := ⟨RX8, "turns", "(LHeronBook$Rendering;I)I"⟩
abbrev cX8_firstAbove : ByteArray := prog_10_method_8_code
def yX8_firstAbove : MethodName := ⟨RX8, "firstAbove", "(LHeronBook$Rendering;I)I"⟩
def RX9 : String := "HeronBook"
def TX9 : u_T := fun k => match k with
  | 0 => ("HeronBook", "tape", "LHeronBook$Tape;", true)
  | 1 => ("HeronBook", "held", "LHeronBook$Book;", true)
  | 2 => ("HeronBook", "reader", "LHeronBook$Reader;", true)
  | 3 => ("HeronBook", "now", "LHeronBook$Rendering;", true)
  | 4 => ("HeronBook", "kept", "[LHeronBook$Rendering;", true)
  | 5 => ("HeronBook", "isKept", "[Z", true)
  | 6 => ("HeronBook", "search", "LHeronBook$Search;", true)
  | 7 => ("HeronBook", "four", "LHeronBook$Four;", true)
  | 8 => ("HeronBook", "years", "LHeronBook$Years;", true)
  | _ => ("HeronBook", "laughter", "LHeronBook$Laughs;", true)
def tyX9 : Nat → FieldType := fun k => match k with
  | 0 => .object "HeronBook$Tape"
  | 1 => .object "HeronBook$Book"
  | 2 => .object "HeronBook$Reader"
  | 3 => .object "HeronBook$Rendering"
  | 4 => .array (.object "HeronBook$Rendering")
  | 5 => .array .boolean
  | 6 => .object "HeronBook$Search"
  | 7 => .object "HeronBook$Four"
  | 8 => .object "HeronBook$Years"
  | _ => .object "HeronBook$Laughs"
abbrev wsX90 : List Cond := u_ws RX9 TX9 10
theorem nmX9 : ∀ a, a < 10 → ∀ b, b < 10 → a ≠ b → (TX9 a).2.1 ≠ (TX9 b).2.1 := by decide +kernel
theorem tyX9_ok : ∀ k, k < 10 → parseFieldDescriptor (TX9 k).2.2.1 = some (tyX9 k) := by decide +kernel
abbrev cX9_init : ByteArray := prog_1_method_1_code
def yX9_init : MethodName := ⟨RX9, "<init>", "()V"⟩
abbrev cX9_feed : ByteArray := prog_1_method_2_code
def yX9_feed : MethodName := ⟨RX9, "feed", "(IIIII)I"⟩
abbrev cX9_end : ByteArray := prog_1_method_3_code
def yX9_end : MethodName := ⟨RX9, "end", "(I)I"⟩
abbrev cX9_book : ByteArray := prog_1_method_4_code
def yX9_book : MethodName := ⟨RX9, "book", "()I"⟩
abbrev cX9_fault : ByteArray := prog_1_method_5_code
def yX9_fault : MethodName := ⟨RX9, "fault", "(I)I"⟩
abbrev cX9_told : ByteArray := prog_1_method_6_code
def yX9_told : MethodName := ⟨RX9, "told", "(I)I"⟩
abbrev cX9_traits : ByteArray := prog_1_method_7_code
def yX9_traits : MethodName := ⟨RX9, "traits", "(II)I"⟩
abbrev cX9_notion : ByteArray := prog_1_method_8_code
def yX9_notion : MethodName := ⟨RX9, "notion", "(I)I"⟩
abbrev cX9_choose : ByteArray := prog_1_method_9_code
def yX9_choose : MethodName := ⟨RX9, "choose", "(IIIII)I"⟩
abbrev cX9_wordsAreFit : ByteArray := prog_1_method_10_code
def yX9_wordsAreFit : MethodName := ⟨RX9, "wordsAreFit", "(IIII)Z"⟩
abbrev cX9_leave : ByteArray := prog_1_method_11_code
def yX9_leave : MethodName := ⟨RX9, "leave", "(I)I"⟩
abbrev cX9_choice : ByteArray := prog_1_method_12_code
def yX9_choice : MethodName := ⟨RX9, "choice", "(II)I"⟩
abbrev cX9_bears : ByteArray := prog_1_method_13_code
def yX9_bears : MethodName := ⟨RX9, "bears", "(II)I"⟩
abbrev cX9_note : ByteArray := prog_1_method_14_code
def yX9_note : MethodName := ⟨RX9, "note", "(II)I"⟩
abbrev cX9_lost : ByteArray := prog_1_method_15_code
def yX9_lost : MethodName := ⟨RX9, "lost", "()I"⟩
abbrev cX9_clashes : ByteArray := prog_1_method_16_code
def yX9_clashes : MethodName := ⟨RX9, "clashes", "()I"⟩
abbrev cX9_bound : ByteArray := prog_1_method_17_code
def yX9_bound : MethodName := ⟨RX9, "bound", "(I)I"⟩
abbrev cX9_best : ByteArray := prog_1_method_18_code
def yX9_best : MethodName := ⟨RX9, "best", "(I)I"⟩
abbrev cX9_exchange : ByteArray := prog_1_method_19_code
def yX9_exchange : MethodName := ⟨RX9, "exchange", "()I"⟩
abbrev cX9_one : ByteArray := prog_1_method_20_code
def yX9_one : MethodName := ⟨RX9, "one", "(I)I"⟩
abbrev cX9_price : ByteArray := prog_1_method_21_code
def yX9_price : MethodName := ⟨RX9, "price", "(I)I"⟩
abbrev cX9_swap : ByteArray := prog_1_method_22_code
def yX9_swap : MethodName := ⟨RX9, "swap", "(I)I"⟩
abbrev cX9_mend : ByteArray := prog_1_method_23_code
def yX9_mend : MethodName := ⟨RX9, "mend", "(I)I"⟩
abbrev cX9_whyNotHeard : ByteArray := prog_1_method_24_code
def yX9_whyNotHeard : MethodName := ⟨RX9, "whyNotHeard", "(II)I"⟩
abbrev cX9_hears : ByteArray := prog_1_method_25_code
def yX9_hears : MethodName := ⟨RX9, "hears", "(II)I"⟩
abbrev cX9_back : ByteArray := prog_1_method_26_code
def yX9_back : MethodName := ⟨RX9, "back", "(II)I"⟩
abbrev cX9_laughs : ByteArray := prog_1_method_27_code
def yX9_laughs : MethodName := ⟨RX9, "laughs", "(II)I"⟩
abbrev cX9_hits : ByteArray := prog_1_method_28_code
def yX9_hits : MethodName := ⟨RX9, "hits", "(I)I"⟩
abbrev cX9_on : ByteArray := prog_1_method_29_code
def yX9_on : MethodName := ⟨RX9, "on", "(III)I"⟩
abbrev cX9_keep : ByteArray := prog_1_method_30_code
def yX9_keep : MethodName := ⟨RX9, "keep", "(I)I"⟩
abbrev cX9_take : ByteArray := prog_1_method_31_code
def yX9_take : MethodName := ⟨RX9, "take", "(I)I"⟩
abbrev cX9_nearer : ByteArray := prog_1_method_32_code
def yX9_nearer : MethodName := ⟨RX9, "nearer", "(III)I"⟩
abbrev cX9_gives : ByteArray := prog_1_method_33_code
def yX9_gives : MethodName := ⟨RX9, "gives", "(IIII)I"⟩
abbrev cX9_agree : ByteArray := prog_1_method_34_code
def yX9_agree : MethodName := ⟨RX9, "agree", "(I)I"⟩
abbrev cX9_moves : ByteArray := prog_1_method_35_code
def yX9_moves : MethodName := ⟨RX9, "moves", "(III)I"⟩
abbrev cX9_lostIn : ByteArray := prog_1_method_36_code
def yX9_lostIn : MethodName := ⟨RX9, "lostIn", "(I)I"⟩
abbrev cX9_turned : ByteArray := prog_1_method_37_code
def yX9_turned : MethodName := ⟨RX9, "turned", "(I)I"⟩
abbrev cX9_until : ByteArray := prog_1_method_38_code
def yX9_until : MethodName := ⟨RX9, "until", "(I)I"⟩
abbrev cX9_isYear : ByteArray := prog_1_method_39_code
def yX9_isYear : MethodName := ⟨RX9, "isYear", "(I)Z"⟩
abbrev cX9_heard : ByteArray := prog_1_method_40_code
def yX9_heard : MethodName := ⟨RX9, "heard", "(IIII)I"⟩
abbrev cX9_right : ByteArray := prog_1_method_41_code
def yX9_right : MethodName := ⟨RX9, "right", "(III)I"⟩
abbrev cX9_fit : ByteArray := prog_1_method_42_code
def yX9_fit : MethodName := ⟨RX9, "fit", "(II)I"⟩
abbrev cX9_surely : ByteArray := prog_1_method_43_code
def yX9_surely : MethodName := ⟨RX9, "surely", "(III)I"⟩
abbrev cX9_next : ByteArray := prog_1_method_44_code
def yX9_next : MethodName := ⟨RX9, "next", "(I)I"⟩
abbrev cX9_isStep : ByteArray := prog_1_method_45_code
def yX9_isStep : MethodName := ⟨RX9, "isStep", "(I)Z"⟩
abbrev cX9_count : ByteArray := prog_1_method_46_code
def yX9_count : MethodName := ⟨RX9, "count", "(I)I"⟩
def RX10 : String := "HeronBookModel"
def TX10 : u_T := fun k => match k with
  | 0 => ("HeronBookModel", "tape", "[B", true)
  | 1 => ("HeronBookModel", "taped", "I", false)
  | 2 => ("HeronBookModel", "size", "I", false)
  | 3 => ("HeronBookModel", "sort", "I", false)
  | 4 => ("HeronBookModel", "key", "I", false)
  | 5 => ("HeronBookModel", "at", "I", false)
  | 6 => ("HeronBookModel", "end", "I", false)
  | 7 => ("HeronBookModel", "number", "I", false)
  | 8 => ("HeronBookModel", "faultKind", "I", false)
  | 9 => ("HeronBookModel", "faultPlace", "I", false)
  | 10 => ("HeronBookModel", "front", "J", false)
  | 11 => ("HeronBookModel", "rear", "J", false)
  | 12 => ("HeronBookModel", "got", "I", false)
  | 13 => ("HeronBookModel", "num", "[I", true)
  | 14 => ("HeronBookModel", "nameFront", "[J", true)
  | 15 => ("HeronBookModel", "nameRear", "[J", true)
  | 16 => ("HeronBookModel", "notionTraits", "[I", true)
  | 17 => ("HeronBookModel", "wordTraits", "[I", true)
  | 18 => ("HeronBookModel", "placeNotion", "[I", true)
  | 19 => ("HeronBookModel", "placeBears", "[I", true)
  | 20 => ("HeronBookModel", "tieOne", "[I", true)
  | 21 => ("HeronBookModel", "tieTwo", "[I", true)
  | 22 => ("HeronBookModel", "tieTraits", "[I", true)
  | 23 => ("HeronBookModel", "knows", "[I", true)
  | 24 => ("HeronBookModel", "laughsAt", "[I", true)
  | 25 => ("HeronBookModel", "weight", "[I", true)
  | 26 => ("HeronBookModel", "seen", "I", false)
  | 27 => ("HeronBookModel", "kind", "[I", true)
  | 28 => ("HeronBookModel", "wordA", "[I", true)
  | 29 => ("HeronBookModel", "wordB", "[I", true)
  | 30 => ("HeronBookModel", "wordC", "[I", true)
  | 31 => ("HeronBookModel", "noted", "[I", true)
  | 32 => ("HeronBookModel", "asked", "[I", true)
  | 33 => ("HeronBookModel", "wasKind", "[I", true)
  | 34 => ("HeronBookModel", "wasA", "[I", true)
  | 35 => ("HeronBookModel", "wasB", "[I", true)
  | 36 => ("HeronBookModel", "wasC", "[I", true)
  | 37 => ("HeronBookModel", "isKept", "[Z", true)
  | 38 => ("HeronBookModel", "slotKind", "[I", true)
  | 39 => ("HeronBookModel", "slotA", "[I", true)
  | 40 => ("HeronBookModel", "slotB", "[I", true)
  | 41 => ("HeronBookModel", "slotC", "[I", true)
  | 42 => ("HeronBookModel", "slotNoted", "[I", true)
  | 43 => ("HeronBookModel", "given", "[I", true)
  | 44 => ("HeronBookModel", "moves", "I", false)
  | 45 => ("HeronBookModel", "mWord", "[I", true)
  | 46 => ("HeronBookModel", "mYear", "[I", true)
  | 47 => ("HeronBookModel", "mTraits", "[I", true)
  | 48 => ("HeronBookModel", "heardMany", "I", false)
  | 49 => ("HeronBookModel", "rightMany", "I", false)
  | 50 => ("HeronBookModel", "lastTold", "I", false)
  | 51 => ("HeronBookModel", "hTold", "[I", true)
  | 52 => ("HeronBookModel", "hWho", "[I", true)
  | 53 => ("HeronBookModel", "hTraits", "[I", true)
  | 54 => ("HeronBookModel", "hLaugh", "[I", true)
  | 55 => ("HeronBookModel", "rTold", "[I", true)
  | 56 => ("HeronBookModel", "rOf", "[I", true)
  | 57 => ("HeronBookModel", "rLaugh", "[I", true)
  | _ => ("HeronBookModel", "fits", "[Z", true)
def tyX10 : Nat → FieldType := fun k => match k with
  | 0 => .array .byte
  | 1 => .int
  | 2 => .int
  | 3 => .int
  | 4 => .int
  | 5 => .int
  | 6 => .int
  | 7 => .int
  | 8 => .int
  | 9 => .int
  | 10 => .long
  | 11 => .long
  | 12 => .int
  | 13 => .array .int
  | 14 => .array .long
  | 15 => .array .long
  | 16 => .array .int
  | 17 => .array .int
  | 18 => .array .int
  | 19 => .array .int
  | 20 => .array .int
  | 21 => .array .int
  | 22 => .array .int
  | 23 => .array .int
  | 24 => .array .int
  | 25 => .array .int
  | 26 => .int
  | 27 => .array .int
  | 28 => .array .int
  | 29 => .array .int
  | 30 => .array .int
  | 31 => .array .int
  | 32 => .array .int
  | 33 => .array .int
  | 34 => .array .int
  | 35 => .array .int
  | 36 => .array .int
  | 37 => .array .boolean
  | 38 => .array .int
  | 39 => .array .int
  | 40 => .array .int
  | 41 => .array .int
  | 42 => .array .int
  | 43 => .array .int
  | 44 => .int
  | 45 => .array .int
  | 46 => .array .int
  | 47 => .array .int
  | 48 => .int
  | 49 => .int
  | 50 => .int
  | 51 => .array .int
  | 52 => .array .int
  | 53 => .array .int
  | 54 => .array .int
  | 55 => .array .int
  | 56 => .array .int
  | 57 => .array .int
  | _ => .array .boolean
abbrev wsX100 : List Cond := u_ws RX10 TX10 59
theorem nmX10 : ∀ a, a < 59 → ∀ b, b < 59 → a ≠ b → (TX10 a).2.1 ≠ (TX10 b).2.1 := by decide +kernel
theorem tyX10_ok : ∀ k, k < 59 → parseFieldDescriptor (TX10 k).2.2.1 = some (tyX10 k) := by decide +kernel
abbrev cX10_init : ByteArray := prog_12_method_1_code
def yX10_init : MethodName := ⟨RX10, "<init>", "()V"⟩
abbrev cX10_in : ByteArray := prog_12_method_2_code
def yX10_in : MethodName := ⟨RX10, "in", "(III)Z"⟩
abbrev cX10_feed : ByteArray := prog_12_method_3_code
def yX10_feed : MethodName := ⟨RX10, "feed", "(IIIII)I"⟩
abbrev cX10_end : ByteArray := prog_12_method_4_code
def yX10_end : MethodName := ⟨RX10, "end", "(I)I"⟩
abbrev cX10_see : ByteArray := prog_12_method_5_code
def yX10_see : MethodName := ⟨RX10, "see", "(I)I"⟩
abbrev cX10_isSmall : ByteArray := prog_12_method_6_code
def yX10_isSmall : MethodName := ⟨RX10, "isSmall", "(I)Z"⟩
abbrev cX10_isDigit : ByteArray := prog_12_method_7_code
def yX10_isDigit : MethodName := ⟨RX10, "isDigit", "(I)Z"⟩
abbrev cX10_keyAt : ByteArray := prog_12_method_8_code
def yX10_keyAt : MethodName := ⟨RX10, "keyAt", "(II)I"⟩
abbrev cX10_scan : ByteArray := prog_12_method_9_code
def yX10_scan : MethodName := ⟨RX10, "scan", "()V"⟩
abbrev cX10_fails : ByteArray := prog_12_method_10_code
def yX10_fails : MethodName := ⟨RX10, "fails", "(I)Z"⟩
abbrev cX10_readNumber : ByteArray := prog_12_method_11_code
def yX10_readNumber : MethodName := ⟨RX10, "readNumber", "(II)Z"⟩
abbrev cX10_setHere : ByteArray := prog_12_method_12_code
def yX10_setHere : MethodName := ⟨RX10, "setHere", "()I"⟩
abbrev cX10_readSet : ByteArray := prog_12_method_13_code
def yX10_readSet : MethodName := ⟨RX10, "readSet", "()Z"⟩
abbrev cX10_fault : ByteArray := prog_12_method_14_code
def yX10_fault : MethodName := ⟨RX10, "fault", "(I)I"⟩
abbrev cX10_begin : ByteArray := prog_12_method_15_code
def yX10_begin : MethodName := ⟨RX10, "begin", "()V"⟩
abbrev cX10_comes : ByteArray := prog_12_method_16_code
def yX10_comes : MethodName := ⟨RX10, "comes", "([II)V"⟩
abbrev cX10_settle : ByteArray := prog_12_method_17_code
def yX10_settle : MethodName := ⟨RX10, "settle", "()V"⟩
abbrev cX10_named : ByteArray := prog_12_method_18_code
def yX10_named : MethodName := ⟨RX10, "named", "(II)I"⟩
abbrev cX10_readName : ByteArray := prog_12_method_19_code
def yX10_readName : MethodName := ⟨RX10, "readName", "(III)Z"⟩
abbrev cX10_readPlace : ByteArray := prog_12_method_20_code
def yX10_readPlace : MethodName := ⟨RX10, "readPlace", "()Z"⟩
abbrev cX10_readTie : ByteArray := prog_12_method_21_code
def yX10_readTie : MethodName := ⟨RX10, "readTie", "()Z"⟩
abbrev cX10_readHearer : ByteArray := prog_12_method_22_code
def yX10_readHearer : MethodName := ⟨RX10, "readHearer", "()Z"⟩
abbrev cX10_readWeight : ByteArray := prog_12_method_23_code
def yX10_readWeight : MethodName := ⟨RX10, "readWeight", "()Z"⟩
abbrev cX10_readTold : ByteArray := prog_12_method_24_code
def yX10_readTold : MethodName := ⟨RX10, "readTold", "(I)Z"⟩
abbrev cX10_readClause : ByteArray := prog_12_method_25_code
def yX10_readClause : MethodName := ⟨RX10, "readClause", "()Z"⟩
abbrev cX10_book : ByteArray := prog_12_method_26_code
def yX10_book : MethodName := ⟨RX10, "book", "()I"⟩
abbrev cX10_told : ByteArray := prog_12_method_27_code
def yX10_told : MethodName := ⟨RX10, "told", "(I)I"⟩
abbrev cX10_isNotion : ByteArray := prog_12_method_28_code
def yX10_isNotion : MethodName := ⟨RX10, "isNotion", "(I)Z"⟩
abbrev cX10_isWord : ByteArray := prog_12_method_29_code
def yX10_isWord : MethodName := ⟨RX10, "isWord", "(I)Z"⟩
abbrev cX10_isPlace : ByteArray := prog_12_method_30_code
def yX10_isPlace : MethodName := ⟨RX10, "isPlace", "(I)Z"⟩
abbrev cX10_isTie : ByteArray := prog_12_method_31_code
def yX10_isTie : MethodName := ⟨RX10, "isTie", "(I)Z"⟩
abbrev cX10_isHearer : ByteArray := prog_12_method_32_code
def yX10_isHearer : MethodName := ⟨RX10, "isHearer", "(I)Z"⟩
abbrev cX10_traits : ByteArray := prog_12_method_33_code
def yX10_traits : MethodName := ⟨RX10, "traits", "(II)I"⟩
abbrev cX10_notion : ByteArray := prog_12_method_34_code
def yX10_notion : MethodName := ⟨RX10, "notion", "(I)I"⟩
abbrev cX10_weigh : ByteArray := prog_12_method_35_code
def yX10_weigh : MethodName := ⟨RX10, "weigh", "(I)I"⟩
abbrev cX10_traitsOf : ByteArray := prog_12_method_36_code
def yX10_traitsOf : MethodName := ⟨RX10, "traitsOf", "(II)I"⟩
abbrev cX10_had : ByteArray := prog_12_method_37_code
def yX10_had : MethodName := ⟨RX10, "had", "(II)I"⟩
abbrev cX10_lackAt : ByteArray := prog_12_method_38_code
def yX10_lackAt : MethodName := ⟨RX10, "lackAt", "(II)I"⟩
abbrev cX10_addAt : ByteArray := prog_12_method_39_code
def yX10_addAt : MethodName := ⟨RX10, "addAt", "(II)I"⟩
abbrev cX10_lostAt : ByteArray := prog_12_method_40_code
def yX10_lostAt : MethodName := ⟨RX10, "lostAt", "(II)I"⟩
abbrev cX10_lostAll : ByteArray := prog_12_method_41_code
def yX10_lostAll : MethodName := ⟨RX10, "lostAll", "(I)I"⟩
abbrev cX10_put : ByteArray := prog_12_method_42_code
def yX10_put : MethodName := ⟨RX10, "put", "(IIIII)V"⟩
abbrev cX10_choose : ByteArray := prog_12_method_43_code
def yX10_choose : MethodName := ⟨RX10, "choose", "(IIIII)I"⟩
abbrev cX10_leave : ByteArray := prog_12_method_44_code
def yX10_leave : MethodName := ⟨RX10, "leave", "(I)I"⟩
abbrev cX10_choice : ByteArray := prog_12_method_45_code
def yX10_choice : MethodName := ⟨RX10, "choice", "(II)I"⟩
abbrev cX10_bears : ByteArray := prog_12_method_46_code
def yX10_bears : MethodName := ⟨RX10, "bears", "(II)I"⟩
abbrev cX10_bits : ByteArray := prog_12_method_47_code
def yX10_bits : MethodName := ⟨RX10, "bits", "(I)I"⟩
abbrev cX10_notedAll : ByteArray := prog_12_method_48_code
def yX10_notedAll : MethodName := ⟨RX10, "notedAll", "()I"⟩
abbrev cX10_note : ByteArray := prog_12_method_49_code
def yX10_note : MethodName := ⟨RX10, "note", "(II)I"⟩
abbrev cX10_lost : ByteArray := prog_12_method_50_code
def yX10_lost : MethodName := ⟨RX10, "lost", "()I"⟩
abbrev cX10_isClash : ByteArray := prog_12_method_51_code
def yX10_isClash : MethodName := ⟨RX10, "isClash", "(I)Z"⟩
abbrev cX10_clashes : ByteArray := prog_12_method_52_code
def yX10_clashes : MethodName := ⟨RX10, "clashes", "()I"⟩
abbrev cX10_bound : ByteArray := prog_12_method_53_code
def yX10_bound : MethodName := ⟨RX10, "bound", "(I)I"⟩
abbrev cX10_putBy : ByteArray := prog_12_method_54_code
def yX10_putBy : MethodName := ⟨RX10, "putBy", "(II)V"⟩
abbrev cX10_isFree : ByteArray := prog_12_method_55_code
def yX10_isFree : MethodName := ⟨RX10, "isFree", "(I)Z"⟩
abbrev cX10_best : ByteArray := prog_12_method_56_code
def yX10_best : MethodName := ⟨RX10, "best", "(I)I"⟩
abbrev cX10_layRow : ByteArray := prog_12_method_57_code
def yX10_layRow : MethodName := ⟨RX10, "layRow", "(II)I"⟩
abbrev cX10_costs : ByteArray := prog_12_method_58_code
def yX10_costs : MethodName := ⟨RX10, "costs", "()I"⟩
abbrev cX10_exchange : ByteArray := prog_12_method_59_code
def yX10_exchange : MethodName := ⟨RX10, "exchange", "()I"⟩
abbrev cX10_plainAt : ByteArray := prog_12_method_60_code
def yX10_plainAt : MethodName := ⟨RX10, "plainAt", "(II)I"⟩
abbrev cX10_plainSum : ByteArray := prog_12_method_61_code
def yX10_plainSum : MethodName := ⟨RX10, "plainSum", "(II)I"⟩
abbrev cX10_oneOf : ByteArray := prog_12_method_62_code
def yX10_oneOf : MethodName := ⟨RX10, "oneOf", "(I)I"⟩
abbrev cX10_one : ByteArray := prog_12_method_63_code
def yX10_one : MethodName := ⟨RX10, "one", "(I)I"⟩
abbrev cX10_price : ByteArray := prog_12_method_64_code
def yX10_price : MethodName := ⟨RX10, "price", "(I)I"⟩
abbrev cX10_swap : ByteArray := prog_12_method_65_code
def yX10_swap : MethodName := ⟨RX10, "swap", "(I)I"⟩
abbrev cX10_mend : ByteArray := prog_12_method_66_code
def yX10_mend : MethodName := ⟨RX10, "mend", "(I)I"⟩
abbrev cX10_heardBy : ByteArray := prog_12_method_67_code
def yX10_heardBy : MethodName := ⟨RX10, "heardBy", "(II)I"⟩
abbrev cX10_backOf : ByteArray := prog_12_method_68_code
def yX10_backOf : MethodName := ⟨RX10, "backOf", "(I)I"⟩
abbrev cX10_isLaugh : ByteArray := prog_12_method_69_code
def yX10_isLaugh : MethodName := ⟨RX10, "isLaugh", "(II)Z"⟩
abbrev cX10_isAsked : ByteArray := prog_12_method_70_code
def yX10_isAsked : MethodName := ⟨RX10, "isAsked", "(II)Z"⟩
abbrev cX10_hears : ByteArray := prog_12_method_71_code
def yX10_hears : MethodName := ⟨RX10, "hears", "(II)I"⟩
abbrev cX10_back : ByteArray := prog_12_method_72_code
def yX10_back : MethodName := ⟨RX10, "back", "(II)I"⟩
abbrev cX10_laughs : ByteArray := prog_12_method_73_code
def yX10_laughs : MethodName := ⟨RX10, "laughs", "(II)I"⟩
abbrev cX10_hitsOf : ByteArray := prog_12_method_74_code
def yX10_hitsOf : MethodName := ⟨RX10, "hitsOf", "(I)I"⟩
abbrev cX10_hits : ByteArray := prog_12_method_75_code
def yX10_hits : MethodName := ⟨RX10, "hits", "(I)I"⟩
abbrev cX10_on : ByteArray := prog_12_method_76_code
def yX10_on : MethodName := ⟨RX10, "on", "(III)I"⟩
abbrev cX10_store : ByteArray := prog_12_method_77_code
def yX10_store : MethodName := ⟨RX10, "store", "(I)V"⟩
abbrev cX10_load : ByteArray := prog_12_method_78_code
def yX10_load : MethodName := ⟨RX10, "load", "(I)V"⟩
abbrev cX10_isSlot : ByteArray := prog_12_method_79_code
def yX10_isSlot : MethodName := ⟨RX10, "isSlot", "(I)Z"⟩
abbrev cX10_keep : ByteArray := prog_12_method_80_code
def yX10_keep : MethodName := ⟨RX10, "keep", "(I)I"⟩
abbrev cX10_take : ByteArray := prog_12_method_81_code
def yX10_take : MethodName := ⟨RX10, "take", "(I)I"⟩
abbrev cX10_nearer : ByteArray := prog_12_method_82_code
def yX10_nearer : MethodName := ⟨RX10, "nearer", "(III)I"⟩
abbrev cX10_cellOf : ByteArray := prog_12_method_83_code
def yX10_cellOf : MethodName := ⟨RX10, "cellOf", "(III)I"⟩
abbrev cX10_gives : ByteArray := prog_12_method_84_code
def yX10_gives : MethodName := ⟨RX10, "gives", "(IIII)I"⟩
abbrev cX10_agree : ByteArray := prog_12_method_85_code
def yX10_agree : MethodName := ⟨RX10, "agree", "(I)I"⟩
abbrev cX10_moves : ByteArray := prog_12_method_86_code
def yX10_moves : MethodName := ⟨RX10, "moves", "(III)I"⟩
abbrev cX10_lostIn : ByteArray := prog_12_method_87_code
def yX10_lostIn : MethodName := ⟨RX10, "lostIn", "(I)I"⟩
abbrev cX10_turned : ByteArray := prog_12_method_88_code
def yX10_turned : MethodName := ⟨RX10, "turned", "(I)I"⟩
abbrev cX10_until : ByteArray := prog_12_method_89_code
def yX10_until : MethodName := ⟨RX10, "until", "(I)I"⟩
abbrev cX10_heard : ByteArray := prog_12_method_90_code
def yX10_heard : MethodName := ⟨RX10, "heard", "(IIII)I"⟩
abbrev cX10_right : ByteArray := prog_12_method_91_code
def yX10_right : MethodName := ⟨RX10, "right", "(III)I"⟩
abbrev cX10_setOf : ByteArray := prog_12_method_92_code
def yX10_setOf : MethodName := ⟨RX10, "setOf", "(I)I"⟩
abbrev cX10_makeFits : ByteArray := prog_12_method_93_code
def yX10_makeFits : MethodName := ⟨RX10, "makeFits", "(II)I"⟩
abbrev cX10_fit : ByteArray := prog_12_method_94_code
def yX10_fit : MethodName := ⟨RX10, "fit", "(II)I"⟩
abbrev cX10_surely : ByteArray := prog_12_method_95_code
def yX10_surely : MethodName := ⟨RX10, "surely", "(III)I"⟩
abbrev cX10_next : ByteArray := prog_12_method_96_code
def yX10_next : MethodName := ⟨RX10, "next", "(I)I"⟩
abbrev cX10_count : ByteArray := prog_12_method_97_code
def yX10_count : MethodName := ⟨RX10, "count", "(I)I"⟩
def RJ6 : String := "java/lang/Integer"
def TJ6 : u_T := fun k => match k with
  | _ => ("", "", "", false)
def tyJ6 : Nat → FieldType := fun k => match k with
  | _ => .int
abbrev wsJ60 : List Cond := u_ws RJ6 TJ6 0
theorem nmJ6 : ∀ a, a < 0 → ∀ b, b < 0 → a ≠ b → (TJ6 a).2.1 ≠ (TJ6 b).2.1 := by decide +kernel
theorem tyJ6_ok : ∀ k, k < 0 → parseFieldDescriptor (TJ6 k).2.2.1 = some (tyJ6 k) := by decide +kernel
abbrev cJ6_bitCount_0f7a4 : ByteArray := prog_13_method_49_code
def yJ6_bitCount_0f7a4 : MethodName := ⟨RJ6, "bitCount", "(I)I"⟩
def RJ9 : String := "java/lang/Math"
def TJ9 : u_T := fun k => match k with
  | _ => ("", "", "", false)
def tyJ9 : Nat → FieldType := fun k => match k with
  | _ => .int
abbrev wsJ90 : List Cond := u_ws RJ9 TJ9 0
theorem nmJ9 : ∀ a, a < 0 → ∀ b, b < 0 → a ≠ b → (TJ9 a).2.1 ≠ (TJ9 b).2.1 := by decide +kernel
theorem tyJ9_ok : ∀ k, k < 0 → parseFieldDescriptor (TJ9 k).2.2.1 = some (tyJ9 k) := by decide +kernel
abbrev cJ9_max_7cf53 : ByteArray := prog_14_method_65_code
def yJ9_max_7cf53 : MethodName := ⟨RJ9, "max", "(II)I"⟩
abbrev cJ9_min_7cf53 : ByteArray := prog_14_method_69_code
def yJ9_min_7cf53 : MethodName := ⟨RJ9, "min", "(II)I"⟩
def RJ0 : String := "java/lang/String"
def TJ0 : u_T := fun k => match k with
  | _ => ("", "", "", false)
def tyJ0 : Nat → FieldType := fun k => match k with
  | _ => .int
abbrev wsJ00 : List Cond := u_ws RJ0 TJ0 0
theorem nmJ0 : ∀ a, a < 0 → ∀ b, b < 0 → a ≠ b → (TJ0 a).2.1 ≠ (TJ0 b).2.1 := by decide +kernel
theorem tyJ0_ok : ∀ k, k < 0 → parseFieldDescriptor (TJ0 k).2.2.1 = some (tyJ0 k) := by decide +kernel
abbrev cJ0_length_8abf5 : ByteArray := prog_15_method_54_code
def yJ0_length_8abf5 : MethodName := ⟨RJ0, "length", "()I"⟩
abbrev cJ0_charAt_5068e : ByteArray := prog_15_method_56_code
def yJ0_charAt_5068e : MethodName := ⟨RJ0, "charAt", "(I)C"⟩
abbrev cJ0_coder_7d493 : ByteArray := prog_15_method_152_code
def yJ0_coder_7d493 : MethodName := ⟨RJ0, "coder", "()B"⟩
abbrev cJ0_isLatin1_aae02 : ByteArray := prog_15_method_154_code
def yJ0_isLatin1_aae02 : MethodName := ⟨RJ0, "isLatin1", "()Z"⟩
abbrev cJ0_checkIndex_df160 : ByteArray := prog_15_method_155_code
def yJ0_checkIndex_df160 : MethodName := ⟨RJ0, "checkIndex", "(II)V"⟩
def RJ1 : String := "java/lang/StringLatin1"
def TJ1 : u_T := fun k => match k with
  | _ => ("", "", "", false)
def tyJ1 : Nat → FieldType := fun k => match k with
  | _ => .int
abbrev wsJ10 : List Cond := u_ws RJ1 TJ1 0
theorem nmJ1 : ∀ a, a < 0 → ∀ b, b < 0 → a ≠ b → (TJ1 a).2.1 ≠ (TJ1 b).2.1 := by decide +kernel
theorem tyJ1_ok : ∀ k, k < 0 → parseFieldDescriptor (TJ1 k).2.2.1 = some (tyJ1 k) := by decide +kernel
abbrev cJ1_charAt_3b067 : ByteArray := prog_16_method_2_code
def yJ1_charAt_3b067 : MethodName := ⟨RJ1, "charAt", "([BI)C"⟩
def RJ2 : String := "java/lang/StringUTF16"
def TJ2 : u_T := fun k => match k with
  | _ => ("", "", "", false)
def tyJ2 : Nat → FieldType := fun k => match k with
  | _ => .int
abbrev wsJ20 : List Cond := u_ws RJ2 TJ2 0
theorem nmJ2 : ∀ a, a < 0 → ∀ b, b < 0 → a ≠ b → (TJ2 a).2.1 ≠ (TJ2 b).2.1 := by decide +kernel
theorem tyJ2_ok : ∀ k, k < 0 → parseFieldDescriptor (TJ2 k).2.2.1 = some (tyJ2 k) := by decide +kernel
abbrev cJ2_getChar_3b067 : ByteArray := prog_17_method_5_code
def yJ2_getChar_3b067 : MethodName := ⟨RJ2, "getChar", "([BI)C"⟩
abbrev cJ2_length_9d52b : ByteArray := prog_17_method_6_code
def yJ2_length_9d52b : MethodName := ⟨RJ2, "length", "([B)I"⟩
abbrev cJ2_charAt_3b067 : ByteArray := prog_17_method_83_code
def yJ2_charAt_3b067 : MethodName := ⟨RJ2, "charAt", "([BI)C"⟩
abbrev cJ2_checkIndex_2214a : ByteArray := prog_17_method_91_code
def yJ2_checkIndex_2214a : MethodName := ⟨RJ2, "checkIndex", "(I[B)V"⟩
def RJ10 : String := "java/lang/System"
def TJ10 : u_T := fun k => match k with
  | _ => ("", "", "", false)
def tyJ10 : Nat → FieldType := fun k => match k with
  | _ => .int
abbrev wsJ100 : List Cond := u_ws RJ10 TJ10 0
theorem nmJ10 : ∀ a, a < 0 → ∀ b, b < 0 → a ≠ b → (TJ10 a).2.1 ≠ (TJ10 b).2.1 := by decide +kernel
theorem tyJ10_ok : ∀ k, k < 0 → parseFieldDescriptor (TJ10 k).2.2.1 = some (tyJ10 k) := by decide +kernel
def RJ7 : String := "java/util/Arrays"
def TJ7 : u_T := fun k => match k with
  | _ => ("", "", "", false)
def tyJ7 : Nat → FieldType := fun k => match k with
  | _ => .int
abbrev wsJ70 : List Cond := u_ws RJ7 TJ7 0
theorem nmJ7 : ∀ a, a < 0 → ∀ b, b < 0 → a ≠ b → (TJ7 a).2.1 ≠ (TJ7 b).2.1 := by decide +kernel
theorem tyJ7_ok : ∀ k, k < 0 → parseFieldDescriptor (TJ7 k).2.2.1 = some (tyJ7 k) := by decide +kernel
abbrev cJ7_fill_53178 : ByteArray := prog_19_method_103_code
def yJ7_fill_53178 : MethodName := ⟨RJ7, "fill", "([II)V"⟩
abbrev cJ7_fill_031fb : ByteArray := prog_19_method_109_code
def yJ7_fill_031fb : MethodName := ⟨RJ7, "fill", "([BB)V"⟩
def RJ3 : String := "jdk/internal/util/Preconditions"
def TJ3 : u_T := fun k => match k with
  | _ => ("", "", "", false)
def tyJ3 : Nat → FieldType := fun k => match k with
  | _ => .int
abbrev wsJ30 : List Cond := u_ws RJ3 TJ3 0
theorem nmJ3 : ∀ a, a < 0 → ∀ b, b < 0 → a ≠ b → (TJ3 a).2.1 ≠ (TJ3 b).2.1 := by decide +kernel
theorem tyJ3_ok : ∀ k, k < 0 → parseFieldDescriptor (TJ3 k).2.2.1 = some (tyJ3 k) := by decide +kernel
abbrev cJ3_checkIndex_8e157 : ByteArray := prog_20_method_11_code
def yJ3_checkIndex_8e157 : MethodName := ⟨RJ3, "checkIndex", "(IILjava/util/function/BiFunction;)I"⟩
def RL : String := "HeronBookLaw"
abbrev cL_law : ByteArray := code
abbrev vwCl : List vw_C := [(RX0, TX0, 13), (RX1, TX1, 1), (RX2, TX2, 14), (RX3, TX3, 3), (RX4, TX4, 14), (RX5, TX5, 6), (RX6, TX6, 10), (RX7, TX7, 2), (RX8, TX8, 7), (RX9, TX9, 10), (RX10, TX10, 59)]
end
section
/-! THE PURE MACHINE. A value: an int, a long, or a reference (k, j): the cell k, or (j = i + 1) the row i of the grid k. -/
abbrev pV : Type := Int32 ⊕ Int64 ⊕ (Nat × Nat)
/-- a shape: 0 int[], 1 byte[], 2 boolean[], 3 long[] of n places; 4 an array of references (codes r + 1); 5 a grid of n rows of w places; 6 a text; ci + 7 an object of the ci-th sort, its fields' codes: 0 int, 1 long, 2 char, 2 r + 3 the cell r, 2 r + 4 the cell r once it has been put there (its number is 1 then; 2: another one, else null) -/
abbrev pSh : Type := Nat × Nat × List Nat
abbrev pD : Type := Nat → Nat → Nat → Int32
abbrev pDL : Type := Nat → Nat → Int64
abbrev pSt : Type := pD × pDL
abbrev pL : Type := List (Option pV)
abbrev pRes : Type := Option pV × pSt
/-- an entry of the code: the instruction, five numbers and an int that were found out ahead -/
abbrev pX : Type := Instr × Nat × Nat × Nat × Nat × Nat × Int32
/-- a method: its code, the cuts and what lives there -/
abbrev pM : Type := List (Nat × pX) × List (Nat × List Bool)
def dset (D : pD) (k j i : Nat) (x : Int32) : pD := fun k' j' => if k' = k ∧ j' = j then upd (D k j) i x else D k' j'
def dcpy (D : pD) (s : Nat) (sp : Nat) (d : Nat) (dp n : Nat) : pD := fun k' j' => if k' = d ∧ j' = 0 then va_cpy (D s 0) (D d 0) sp dp n else D k' j'
def lset (D : pDL) (k i : Nat) (x : Int64) : pDL := fun k' => if k' = k then vp_updL (D k) i x else D k'
/-- the texts -/
abbrev pTx : Type := List (List Int32)
section PM
variable {ρ : Type}
def pPick (fs : List Nat) (j : Nat) (f : Nat → Option ρ) : Option ρ := match fs with
  | [] => none
  | c :: t => if j = 0 then (match c with | 0 => none | r + 1 => f r) else pPick t (j - 1) f
def pI1 (st : List pV) (f : Int32 → List pV → Option ρ) : Option ρ := match st with
  | .inl x :: r => f x r
  | _ => none
def pI2 (st : List pV) (f : Int32 → Int32 → List pV → Option ρ) : Option ρ := match st with
  | .inl y :: .inl x :: r => f x y r
  | _ => none
def pL2 (st : List pV) (f : Int64 → Int64 → List pV → Option ρ) : Option ρ := match st with
  | .inr (.inl y) :: .inr (.inl x) :: r => f x y r
  | _ => none
def pR1 (st : List pV) (f : Nat → Nat → List pV → Option ρ) : Option ρ := match st with
  | .inr (.inr (k, j)) :: r => f k j r
  | _ => none
def pRI (st : List pV) (f : Nat → Nat → Int32 → List pV → Option ρ) : Option ρ := match st with
  | .inl i :: .inr (.inr (k, j)) :: r => f k j i r
  | _ => none
def pRII (st : List pV) (f : Nat → Nat → Int32 → Int32 → List pV → Option ρ) : Option ρ := match st with
  | .inl x :: .inl i :: .inr (.inr (k, j)) :: r => f k j i x r
  | _ => none
def pRIL (st : List pV) (f : Nat → Nat → Int32 → Int64 → List pV → Option ρ) : Option ρ := match st with
  | .inr (.inl x) :: .inl i :: .inr (.inr (k, j)) :: r => f k j i x r
  | _ => none
def pV1 (st : List pV) (f : pV → List pV → Option ρ) : Option ρ := match st with
  | v :: r => f v r
  | _ => none
def pV2 (st : List pV) (f : pV → pV → List pV → Option ρ) : Option ρ := match st with
  | v :: u :: r => f v u r
  | _ => none
def pVR (st : List pV) (f : pV → Nat → Nat → List pV → Option ρ) : Option ρ := match st with
  | v :: .inr (.inr (k, j)) :: r => f v k j r
  | _ => none
def pE0 (st : List pV) (f : Option ρ) : Option ρ := match st with
  | [] => f
  | _ => none
def pE1 (st : List pV) (f : Int32 → Option ρ) : Option ρ := match st with
  | [.inl x] => f x
  | _ => none
def pER (st : List pV) (f : Nat → Nat → Option ρ) : Option ρ := match st with
  | [.inr (.inr (k, j))] => f k j
  | _ => none
/-- an array of numbers at (k, j): its sort and length -/
def pArr (S : List pSh) (k j : Nat) (f : Nat → Nat → Option ρ) : Option ρ := match S[k]? with
  | none => none
  | some q => (match q.1, j with
    | 0, 0 => f 0 q.2.1
    | 1, 0 => f 1 q.2.1
    | 2, 0 => f 2 q.2.1
    | 3, 0 => f 3 q.2.1
    | 5, i + 1 => if i < q.2.1 then (match q.2.2 with | w :: _ => f 0 w | [] => none) else none
    | _, _ => none)
def pIn (i : Int32) (n : Nat) (f : Nat → Option ρ) : Option ρ := if i < 0 ∨ n ≤ i.toNatClampNeg then none else f i.toNatClampNeg
def pLdI (L : pL) (i : Nat) (f : Int32 → Option ρ) : Option ρ := match L[i]? with
  | some (some (.inl x)) => f x
  | _ => none
def pLdR (L : pL) (i : Nat) (f : Nat → Nat → Option ρ) : Option ρ := match L[i]? with
  | some (some (.inr (.inr q))) => f q.1 q.2
  | _ => none
def pSto (L : pL) (i : Nat) (v : pV) (f : pL → Option ρ) : Option ρ := match L[i]? with
  | some _ => f (L.set i (some v))
  | none => none
def pC1 (v : pV) (f : Option ρ) : Option ρ := match v with
  | .inr (.inl _) => none
  | _ => f
/-- tableswitch, as a row of tests -/
def pSwT (x : Int32) (lo : Int) (pc : Nat) (offs : List Int) (d : Int) (f : Nat → Option ρ) : Option ρ := match offs with
  | [] => f ((pc : Int) + d).toNat
  | o :: q => if x.toInt = lo then f ((pc : Int) + o).toNat else pSwT x (lo + 1) pc q d f
def pSwL (x : Int32) (pc : Nat) (ps : List (Int × Int)) (d : Int) (f : Nat → Option ρ) : Option ρ := match ps with
  | [] => f ((pc : Int) + d).toNat
  | o :: q => if x.toInt = o.1 then f ((pc : Int) + o.2).toNat else pSwL x pc q d f
/-- the object (k, j) of the sort a: its fields' codes -/
def pObj (S : List pSh) (k j a : Nat) (f : pSh → Option ρ) : Option ρ := match S[k]? with
  | none => none
  | some q => (match Nat.beq q.1 (a + 7), j with
    | true, 0 => f q
    | _, _ => none)
/-- a reference in a field: even codes once it has been put there -/
def pFr (c : Nat) : Bool × Nat := match c with
  | 0 => (true, 0)
  | 1 => (false, 0)
  | c + 2 => ((pFr c).1, (pFr c).2 + 1)
/-- a field is read -/
def pGet (S : List pSh) (σ : pSt) (k j a b : Nat) (f : pV → Option ρ) : Option ρ := pObj S k j a fun q => (match q.2.2[b]? with
    | none => none
    | some 0 => f (.inl (σ.1 k 0 b))
    | some 1 => f (.inr (.inl (σ.2 k b)))
    | some 2 => f (.inl (σ.1 k 0 b))
    | some (c + 3) => (match pFr c with
      | (true, r) => f (.inr (.inr (r, 0)))
      | (false, r) => if σ.1 k 0 b = 1 then f (.inr (.inr (r, 0))) else none))
/-- a field is written -/
def pPut (S : List pSh) (σ : pSt) (k j a b : Nat) (v : pV) (f : pSt → Option ρ) : Option ρ := pObj S k j a fun q => (match q.2.2[b]?, v with
    | some 0, .inl x => f (dset σ.1 k 0 b x, σ.2)
    | some 1, .inr (.inl x) => f (σ.1, lset σ.2 k b x)
    | some 2, .inl x => if (x.toUInt32 % 65536).toInt32 = x then f (dset σ.1 k 0 b x, σ.2) else none
    | some (c + 3), .inr (.inr (y, j)) => (match pFr c, Nat.beq y (pFr c).2, j with
      | (false, _), true, 0 => f (dset σ.1 k 0 b 1, σ.2)
      | _, _, _ => none)
    | _, _ => none)
/-- what a return of this sort may give: 0 int, 1 boolean, 2 char -/
def pRet (a : Nat) (x : Int32) (f : Option ρ) : Option ρ := match a with
  | 0 => f
  | 1 => if x &&& 1 = x then f else none
  | 2 => if (x.toUInt32 % 65536).toInt32 = x then f else none
  | _ => none
/-- is there room for what stays -/
def pRm : Nat → List pV → Bool
  | _, [] => true
  | n + 1, .inl _ :: r => pRm n r
  | n + 1, .inr (.inr _) :: r => pRm n r
  | n + 2, .inr (.inl _) :: r => pRm n r
  | _, _ => false
/-- the call's arguments, the last one first, and what stays -/
def pTk : Nat → List pV → List pV → (List pV → List pV → Option ρ) → Option ρ
  | 0, acc, r, f => (match pRm 8 r with
    | true => f acc r
    | false => none)
  | n + 1, acc, v :: r, f => pC1 v (pTk n (v :: acc) r f)
  | _ + 1, _, [], _ => none
/-- is the receiver of its sort -/
def pRecv (S : List pSh) (w : Nat) (as : List pV) (f : Option ρ) : Option ρ := match w with
  | 0 => f
  | ci + 1 => (match as with
    | .inr (.inr (k, j)) :: _ => pObj S k j ci fun _ => f
    | _ => none)
/-- the depth of a call -/
def pDep (d c : Nat) (f : Nat → Option ρ) : Option ρ := match c with
  | 0 => (match d with
    | 0 => none
    | d' + 1 => f d')
  | d' + 1 => (match Nat.blt d' d with
    | true => f d'
    | false => none)
/-- arraycopy of ints -/
def pCopy (S : List pSh) (σ : pSt) (st : List pV) (f : List pV → pSt → Option ρ) : Option ρ := match st with
  | .inl n :: .inl dp :: .inr (.inr (d, 0)) :: .inl sp :: .inr (.inr (s, 0)) :: r => (match S[s]?, S[d]? with
    | some (0, ns, _), some (0, nd, _) => if sp < 0 ∨ dp < 0 ∨ n < 0 ∨ ns < sp.toNatClampNeg + n.toNatClampNeg ∨ nd < dp.toNatClampNeg + n.toNatClampNeg then none else f r (dcpy σ.1 s sp.toNatClampNeg d dp.toNatClampNeg n.toNatClampNeg, σ.2)
    | _, _ => none)
  | _ => none
def pTxt (S : List pSh) (k j : Nat) (T : pTx) (f : List Int32 → Option ρ) : Option ρ := match S[k]?, j with
  | some (6, i, _), 0 => (match T[i]? with | some t => f t | none => none)
  | _, _ => none
/-- what a call gave: nothing, an int, the cell r -/
def pB0 (q : Option pRes) (f : pD → pDL → Option ρ) : Option ρ := match q with
  | some (none, σ) => f σ.1 σ.2
  | _ => none
def pB1 (q : Option pRes) (f : Int32 → pD → pDL → Option ρ) : Option ρ := match q with
  | some (some (.inl x), σ) => f x σ.1 σ.2
  | _ => none
def pB2 (q : Option pRes) (r : Nat) (f : pD → pDL → Option ρ) : Option ρ := match q with
  | some (some (.inr (.inr y)), σ) => if y = (r, 0) then f σ.1 σ.2 else none
  | _ => none
def pBk (q : Option pRes) (g : Nat) (f : List pV → pSt → Option ρ) : Option ρ := match g with
  | 0 => pB0 q fun D DL => f [] (D, DL)
  | 1 => pB1 q fun x D DL => f [.inl x] (D, DL)
  | r + 2 => pB2 q r fun D DL => f [.inr (.inr (r, 0))] (D, DL)
end PM
end
section
section PS
variable {ρ : Type}
/-- ONE INSTRUCTION. K: goes on at a place; C: a call; Rr: the end -/
def sI (S : List pSh) (T : pTx) (d pc : Nat) (x : pX) (L : pL) (st : List pV) (σ : pSt) (K : Nat → pL → List pV → pSt → Option ρ) (C : Nat → Nat → List pV → Nat → Nat → pL → List pV → Option ρ) (Rr : Option pV → Option ρ) : Option ρ := match x with
  | (ins, a, b, c, w, g, z) => match ins with
    | .iconst _ => K (pc + 1) L (.inl z :: st) σ
    | .bipush _ => K (pc + 2) L (.inl z :: st) σ
    | .sipush _ => K (pc + 3) L (.inl z :: st) σ
    | .ldc _ => (match b with
      | 0 => K (pc + 2) L (.inl z :: st) σ
      | _ => (match S[a]? with
        | some (6, _, _) => K (pc + 2) L (.inr (.inr (a, 0)) :: st) σ
        | _ => none))
    | .ldc_w _ => K (pc + 3) L (.inl z :: st) σ
    | .ldc2_w _ => K (pc + 3) L (.inr (.inl (lN a)) :: st) σ
    | .lconst _ => K (pc + 1) L (.inr (.inl (lN a)) :: st) σ
    | .iload_n _ => pLdI L a fun x => K (pc + 1) L (.inl x :: st) σ
    | .iload _ => pLdI L a fun x => K (pc + 2) L (.inl x :: st) σ
    | .aload_n _ => pLdR L a fun k j => K (pc + 1) L (.inr (.inr (k, j)) :: st) σ
    | .aload _ => pLdR L a fun k j => K (pc + 2) L (.inr (.inr (k, j)) :: st) σ
    | .istore_n _ => pI1 st fun x r => pSto L a (.inl x) fun L' => K (pc + 1) L' r σ
    | .istore _ => pI1 st fun x r => pSto L a (.inl x) fun L' => K (pc + 2) L' r σ
    | .astore_n _ => pR1 st fun k j r => pSto L a (.inr (.inr (k, j))) fun L' => K (pc + 1) L' r σ
    | .astore _ => pR1 st fun k j r => pSto L a (.inr (.inr (k, j))) fun L' => K (pc + 2) L' r σ
    | .iinc _ _ => pLdI L a fun x => pSto L a (.inl (x + z)) fun L' => K (pc + 3) L' st σ
    | .iadd => pI2 st fun x y r => K (pc + 1) L (.inl (x + y) :: r) σ
    | .isub => pI2 st fun x y r => K (pc + 1) L (.inl (x - y) :: r) σ
    | .imul => pI2 st fun x y r => K (pc + 1) L (.inl (x * y) :: r) σ
    | .idiv => pI2 st fun x y r => if y = 0 then none else K (pc + 1) L (.inl (x / y) :: r) σ
    | .irem => pI2 st fun x y r => if y = 0 then none else K (pc + 1) L (.inl (x - x / y * y) :: r) σ
    | .iand => pI2 st fun x y r => K (pc + 1) L (.inl (x &&& y) :: r) σ
    | .ior => pI2 st fun x y r => K (pc + 1) L (.inl (x ||| y) :: r) σ
    | .ixor => pI2 st fun x y r => K (pc + 1) L (.inl (x ^^^ y) :: r) σ
    | .ishl => pI2 st fun x y r => K (pc + 1) L (.inl (x <<< (y &&& 31)) :: r) σ
    | .ishr => pI2 st fun x y r => K (pc + 1) L (.inl (x >>> (y &&& 31)) :: r) σ
    | .iushr => pI2 st fun x y r => K (pc + 1) L (.inl (x.toUInt32 >>> (y.toUInt32 &&& Int32.toUInt32 31)).toInt32 :: r) σ
    | .ladd => pL2 st fun x y r => K (pc + 1) L (.inr (.inl (x + y)) :: r) σ
    | .lsub => pL2 st fun x y r => K (pc + 1) L (.inr (.inl (x - y)) :: r) σ
    | .lmul => pL2 st fun x y r => K (pc + 1) L (.inr (.inl (x * y)) :: r) σ
    | .lcmp => pL2 st fun x y r => K (pc + 1) L (.inl (lg_cmp x y) :: r) σ
    | .i2l => pI1 st fun x r => K (pc + 1) L (.inr (.inl x.toInt64) :: r) σ
    | .i2b => pI1 st fun x r => K (pc + 1) L (.inl x.toInt8.toInt32 :: r) σ
    | .i2c => pI1 st fun x r => K (pc + 1) L (.inl (x.toUInt32 % 65536).toInt32 :: r) σ
    | .dup => pV1 st fun v r => pC1 v (K (pc + 1) L (v :: v :: r) σ)
    | .dup2 => pV2 st fun v u r => pC1 v (pC1 u (K (pc + 1) L (v :: u :: v :: u :: r) σ))
    | .pop => pV1 st fun v r => pC1 v (K (pc + 1) L r σ)
    | .goto _ => K a L st σ
    | .ifCond .eq _ => pI1 st fun x r => if x = 0 then K a L r σ else K (pc + 3) L r σ
    | .ifCond .ne _ => pI1 st fun x r => if x = 0 then K (pc + 3) L r σ else K a L r σ
    | .ifCond .lt _ => pI1 st fun x r => if x < 0 then K a L r σ else K (pc + 3) L r σ
    | .ifCond .ge _ => pI1 st fun x r => if 0 ≤ x then K a L r σ else K (pc + 3) L r σ
    | .ifCond .gt _ => pI1 st fun x r => if 0 < x then K a L r σ else K (pc + 3) L r σ
    | .ifCond .le _ => pI1 st fun x r => if x ≤ 0 then K a L r σ else K (pc + 3) L r σ
    | .if_icmp .eq _ => pI2 st fun x y r => if x = y then K a L r σ else K (pc + 3) L r σ
    | .if_icmp .ne _ => pI2 st fun x y r => if x = y then K (pc + 3) L r σ else K a L r σ
    | .if_icmp .lt _ => pI2 st fun x y r => if x < y then K a L r σ else K (pc + 3) L r σ
    | .if_icmp .ge _ => pI2 st fun x y r => if y ≤ x then K a L r σ else K (pc + 3) L r σ
    | .if_icmp .gt _ => pI2 st fun x y r => if y < x then K a L r σ else K (pc + 3) L r σ
    | .if_icmp .le _ => pI2 st fun x y r => if x ≤ y then K a L r σ else K (pc + 3) L r σ
    | .tableswitch d lo _ offs => pI1 st fun x r => pSwT x lo pc offs.toList d fun t => K t L r σ
    | .lookupswitch d ps => pI1 st fun x r => pSwL x pc ps.toList d fun t => K t L r σ
    | .getfield _ => pR1 st fun k j r => pGet S σ k j a b fun v => K (pc + 3) L (v :: r) σ
    | .putfield _ => pVR st fun v k j r => pPut S σ k j a b v fun σ' => K (pc + 3) L r σ'
    | .iaload => pRI st fun k j i r => pArr S k j fun t n => (match t with | 0 => pIn i n fun q => K (pc + 1) L (.inl (σ.1 k j q) :: r) σ | _ => none)
    | .baload => pRI st fun k j i r => pArr S k j fun t n => (match t with | 1 => pIn i n fun q => K (pc + 1) L (.inl (σ.1 k j q) :: r) σ | 2 => pIn i n fun q => K (pc + 1) L (.inl (σ.1 k j q) :: r) σ | _ => none)
    | .laload => pRI st fun k j i r => pArr S k j fun t n => (match t with | 3 => pIn i n fun q => K (pc + 1) L (.inr (.inl (σ.2 k q)) :: r) σ | _ => none)
    | .aaload => pRI st fun k j i r => (match S[k]?, j with
      | some (4, n, fs), 0 => pIn i n fun q => pPick fs q fun y => K (pc + 1) L (.inr (.inr (y, 0)) :: r) σ
      | some (5, n, _), 0 => pIn i n fun q => K (pc + 1) L (.inr (.inr (k, q + 1)) :: r) σ
      | _, _ => none)
    | .iastore => pRII st fun k j i x r => pArr S k j fun t n => (match t with | 0 => pIn i n fun q => K (pc + 1) L r (dset σ.1 k j q x, σ.2) | _ => none)
    | .bastore => pRII st fun k j i x r => pArr S k j fun t n => (match t with | 1 => pIn i n fun q => K (pc + 1) L r (dset σ.1 k j q x.toInt8.toInt32, σ.2) | 2 => pIn i n fun q => K (pc + 1) L r (dset σ.1 k j q (x &&& 1), σ.2) | _ => none)
    | .lastore => pRIL st fun k j i x r => pArr S k j fun t n => (match t with | 3 => pIn i n fun q => K (pc + 1) L r (σ.1, lset σ.2 k q x) | _ => none)
    | .arraylength => pR1 st fun k j r => pArr S k j fun _ n => K (pc + 1) L (.inl (nI n) :: r) σ
    | .invokevirtual _ => (match c, b with
      | 0, 0 => pR1 st fun k j r => pTxt S k j T fun t => (match pRm 8 r with | true => K (pc + 3) L (.inl (nI t.length) :: r) σ | false => none)
      | 0, _ + 1 => pRI st fun k j i r => pTxt S k j T fun t => (match pRm 8 r with | true => pIn i t.length fun q => K (pc + 3) L (.inl (t.getD q 0) :: r) σ | false => none)
      | c + 1, b => pTk b [] st fun as r => pRecv S w as (pDep d c fun d' => C a d' as g (pc + 3) L r))
    | .invokestatic _ => (match c, b with
      | 0, 0 => pCopy S σ st fun r σ' => (match pRm 8 r with | true => K (pc + 3) L r σ' | false => none)
      | 0, 1 => pI2 st fun x y r => (match pRm 8 r with | true => K (pc + 3) L (.inl (if x < y then y else x) :: r) σ | false => none)
      | 0, _ + 2 => pI2 st fun x y r => (match pRm 8 r with | true => K (pc + 3) L (.inl (if y < x then y else x) :: r) σ | false => none)
      | c + 1, b => pTk b [] st fun as r => pDep d c fun d' => C a d' as g (pc + 3) L r)
    | .ireturn => pE1 st fun x => pRet a x (Rr (some (.inl x)))
    | .areturn => pER st fun k j => Rr (some (.inr (.inr (k, j))))
    | .return_ => pE0 st (Rr none)
    | _ => none
end PS
end
section
section PR
/-- what lives at a cut -/
def pMask (keep : List Bool) (L : pL) : pL := match keep, L with
  | true :: k, v :: l => v :: pMask k l
  | false :: k, _ :: l => none :: pMask k l
  | _, _ => []
def pFind {α : Type} (pc : Nat) (l : List (Nat × α)) : Option α := match l with
  | [] => none
  | q :: t => (match Nat.beq q.1 pc with
    | true => some q.2
    | false => pFind pc t)
def pL0 (as : List pV) : pL := as.map some ++ [none, none, none, none, none, none, none, none, none, none, none, none, none, none]
def pCut (M : pM) (pc : Nat) (L : pL) : pL := match pFind pc M.2 with
  | none => L
  | some k => pMask k L
variable {ρ : Type}
abbrev pK (ρ : Type) : Type := Nat → Nat → Nat → pL → List pV → pSt → Option ρ
/-- one instruction of the method me, whose runs are E -/
def pSt1 (S : List pSh) (T : pTx) (E : pK pRes) (M : pM) (me d pc : Nat) (L : pL) (st : List pV) (σ : pSt) (K : Nat → pL → List pV → pSt → Option pRes) : Option pRes := match pFind pc M.1 with
  | none => none
  | some x => sI S T d pc x L st σ K (fun me' d' as g pc' L' r => pBk (E me' d' 0 (pL0 as) [] σ) g fun v σ' => K pc' L' (v ++ r) σ') (fun v => some (v, σ))
/-- THE RUN, n steps: method me, its depth d -/
def pr (S : List pSh) (P : List pM) (T : pTx) : Nat → pK pRes
  | 0, _, _, _, _, _, _ => none
  | n + 1, me, d, pc, L, st, σ => match P[me]? with
    | none => none
    | some M => pSt1 S T (pr S P T n) M me d pc L st σ fun pc' L' st' σ' => pr S P T n me d pc' (pCut M pc' L') st' σ'
/-! naturality -/
variable {τ : Type}
theorem nb_pick (fs : List Nat) (j : Nat) (F : Nat → Option ρ) (f : ρ → Option τ) : (pPick fs j F).bind f = pPick fs j fun x => (F x).bind f := by
  induction fs generalizing j with
  | nil => rfl
  | cons c t ih =>
    unfold pPick
    split
    · cases c <;> rfl
    · exact ih _
theorem nb_I1 (st : List pV) (F : Int32 → List pV → Option ρ) (f : ρ → Option τ) : (pI1 st F).bind f = pI1 st fun x r => (F x r).bind f := by unfold pI1; split <;> rfl
theorem nb_I2 (st : List pV) (F : Int32 → Int32 → List pV → Option ρ) (f : ρ → Option τ) : (pI2 st F).bind f = pI2 st fun x y r => (F x y r).bind f := by unfold pI2; split <;> rfl
theorem nb_L2 (st : List pV) (F : Int64 → Int64 → List pV → Option ρ) (f : ρ → Option τ) : (pL2 st F).bind f = pL2 st fun x y r => (F x y r).bind f := by unfold pL2; split <;> rfl
theorem nb_R1 (st : List pV) (F : Nat → Nat → List pV → Option ρ) (f : ρ → Option τ) : (pR1 st F).bind f = pR1 st fun x y r => (F x y r).bind f := by unfold pR1; split <;> rfl
theorem nb_RI (st : List pV) (F : Nat → Nat → Int32 → List pV → Option ρ) (f : ρ → Option τ) : (pRI st F).bind f = pRI st fun x y i r => (F x y i r).bind f := by unfold pRI; split <;> rfl
theorem nb_RII (st : List pV) (F : Nat → Nat → Int32 → Int32 → List pV → Option ρ) (f : ρ → Option τ) : (pRII st F).bind f = pRII st fun x y i z r => (F x y i z r).bind f := by unfold pRII; split <;> rfl
theorem nb_RIL (st : List pV) (F : Nat → Nat → Int32 → Int64 → List pV → Option ρ) (f : ρ → Option τ) : (pRIL st F).bind f = pRIL st fun x y i z r => (F x y i z r).bind f := by unfold pRIL; split <;> rfl
theorem nb_V1 (st : List pV) (F : pV → List pV → Option ρ) (f : ρ → Option τ) : (pV1 st F).bind f = pV1 st fun x r => (F x r).bind f := by unfold pV1; split <;> rfl
theorem nb_V2 (st : List pV) (F : pV → pV → List pV → Option ρ) (f : ρ → Option τ) : (pV2 st F).bind f = pV2 st fun x y r => (F x y r).bind f := by unfold pV2; split <;> rfl
theorem nb_VR (st : List pV) (F : pV → Nat → Nat → List pV → Option ρ) (f : ρ → Option τ) : (pVR st F).bind f = pVR st fun x k j r => (F x k j r).bind f := by unfold pVR; split <;> rfl
theorem nb_E0 (st : List pV) (F : Option ρ) (f : ρ → Option τ) : (pE0 st F).bind f = pE0 st (F.bind f) := by unfold pE0; split <;> rfl
theorem nb_E1 (st : List pV) (F : Int32 → Option ρ) (f : ρ → Option τ) : (pE1 st F).bind f = pE1 st fun x => (F x).bind f := by unfold pE1; split <;> rfl
theorem nb_ER (st : List pV) (F : Nat → Nat → Option ρ) (f : ρ → Option τ) : (pER st F).bind f = pER st fun x y => (F x y).bind f := by unfold pER; split <;> rfl
theorem nb_Arr (S : List pSh) (k j : Nat) (F : Nat → Nat → Option ρ) (f : ρ → Option τ) : (pArr S k j F).bind f = pArr S k j fun t n => (F t n).bind f := by
  unfold pArr
  split
  · rfl
  · split <;> try rfl
    split
    · split <;> rfl
    · rfl
theorem nb_In (i : Int32) (n : Nat) (F : Nat → Option ρ) (f : ρ → Option τ) : (pIn i n F).bind f = pIn i n fun q => (F q).bind f := by unfold pIn; split <;> rfl
theorem nb_LdI (L : pL) (i : Nat) (F : Int32 → Option ρ) (f : ρ → Option τ) : (pLdI L i F).bind f = pLdI L i fun q => (F q).bind f := by unfold pLdI; split <;> rfl
theorem nb_LdR (L : pL) (i : Nat) (F : Nat → Nat → Option ρ) (f : ρ → Option τ) : (pLdR L i F).bind f = pLdR L i fun k j => (F k j).bind f := by unfold pLdR; split <;> rfl
theorem nb_Sto (L : pL) (i : Nat) (v : pV) (F : pL → Option ρ) (f : ρ → Option τ) : (pSto L i v F).bind f = pSto L i v fun q => (F q).bind f := by unfold pSto; split <;> rfl
theorem nb_C1 (v : pV) (F : Option ρ) (f : ρ → Option τ) : (pC1 v F).bind f = pC1 v (F.bind f) := by unfold pC1; split <;> rfl
theorem nb_SwT (x : Int32) (pc : Nat) (offs : List Int) (d : Int) (F : Nat → Option ρ) (f : ρ → Option τ) : ∀ lo : Int, (pSwT x lo pc offs d F).bind f = pSwT x lo pc offs d fun q => (F q).bind f := by
  induction offs with
  | nil => intro lo; rfl
  | cons o t ih =>
    intro lo
    unfold pSwT
    split
    · rfl
    · exact ih _
theorem nb_SwL (x : Int32) (pc : Nat) (ps : List (Int × Int)) (d : Int) (F : Nat → Option ρ) (f : ρ → Option τ) : (pSwL x pc ps d F).bind f = pSwL x pc ps d fun q => (F q).bind f := by
  induction ps with
  | nil => rfl
  | cons o t ih =>
    unfold pSwL
    split
    · rfl
    · exact ih
theorem nb_Obj (S : List pSh) (k j a : Nat) (F : pSh → Option ρ) (f : ρ → Option τ) : (pObj S k j a F).bind f = pObj S k j a fun q => (F q).bind f := by
  unfold pObj
  split
  · rfl
  · split <;> rfl
theorem nb_Get (S : List pSh) (σ : pSt) (k j a b : Nat) (F : pV → Option ρ) (f : ρ → Option τ) : (pGet S σ k j a b F).bind f = pGet S σ k j a b fun q => (F q).bind f := by
  unfold pGet
  rw [nb_Obj]
  congr 1
  funext q
  split <;> try rfl
  split
  · rfl
  · split <;> rfl
theorem nb_Put (S : List pSh) (σ : pSt) (k j a b : Nat) (v : pV) (F : pSt → Option ρ) (f : ρ → Option τ) : (pPut S σ k j a b v F).bind f = pPut S σ k j a b v fun q => (F q).bind f := by
  unfold pPut
  rw [nb_Obj]
  congr 1
  funext q
  split <;> try rfl
  · split <;> rfl
  · split <;> rfl
theorem nb_Ret (a : Nat) (x : Int32) (F : Option ρ) (f : ρ → Option τ) : (pRet a x F).bind f = pRet a x (F.bind f) := by
  unfold pRet
  split <;> try rfl
  · split <;> rfl
  · split <;> rfl
theorem nb_Tk (F : List pV → List pV → Option ρ) (f : ρ → Option τ) : ∀ (n : Nat) (acc st : List pV), (pTk n acc st F).bind f = pTk n acc st fun x y => (F x y).bind f
  | 0, acc, st => by unfold pTk; split <;> rfl
  | n + 1, acc, v :: r => by unfold pTk; rw [nb_C1, nb_Tk F f n]
  | n + 1, acc, [] => rfl
theorem nb_Recv (S : List pSh) (w : Nat) (as : List pV) (F : Option ρ) (f : ρ → Option τ) : (pRecv S w as F).bind f = pRecv S w as (F.bind f) := by
  unfold pRecv
  split
  · rfl
  · split
    · exact nb_Obj _ _ _ _ _ _
    · rfl
theorem nb_Dep (d c : Nat) (F : Nat → Option ρ) (f : ρ → Option τ) : (pDep d c F).bind f = pDep d c fun q => (F q).bind f := by
  unfold pDep
  split
  · split <;> rfl
  · split <;> rfl
theorem nb_Copy (S : List pSh) (σ : pSt) (st : List pV) (F : List pV → pSt → Option ρ) (f : ρ → Option τ) : (pCopy S σ st F).bind f = pCopy S σ st fun x y => (F x y).bind f := by
  unfold pCopy
  split
  · split
    · split <;> rfl
    · rfl
  · rfl
theorem nb_Txt (S : List pSh) (k j : Nat) (T : pTx) (F : List Int32 → Option ρ) (f : ρ → Option τ) : (pTxt S k j T F).bind f = pTxt S k j T fun x => (F x).bind f := by
  unfold pTxt
  split
  · split <;> rfl
  · rfl
theorem nb_ite {q : Prop} {hd : Decidable q} (A B : Option ρ) (f : ρ → Option τ) : (if q then A else B).bind f = if q then A.bind f else B.bind f := by split <;> rfl
end PR
end
section
section PN
variable {ρ τ : Type}
set_option maxHeartbeats 4000000 in
theorem sI_nat (S : List pSh) (T : pTx) (d pc : Nat) (x : pX) (L : pL) (st : List pV) (σ : pSt) (K : Nat → pL → List pV → pSt → Option ρ) (C : Nat → Nat → List pV → Nat → Nat → pL → List pV → Option ρ) (Rr : Option pV → Option ρ) (f : ρ → Option τ) :
    (sI S T d pc x L st σ K C Rr).bind f = sI S T d pc x L st σ (fun q1 q2 q3 q4 => (K q1 q2 q3 q4).bind f) (fun q1 q2 q3 q4 q5 q6 q7 => (C q1 q2 q3 q4 q5 q6 q7).bind f) (fun v => (Rr v).bind f) := by
  obtain ⟨ins, a, b, c, w, g, z⟩ := x
  cases ins with
  | ifCond cd o => cases cd <;> simp only [sI, nb_I1, nb_ite]
  | if_icmp cd o => cases cd <;> simp only [sI, nb_I2, nb_ite]
  | ldc i =>
    unfold sI
    dsimp only
    split
    · rfl
    · split <;> rfl
  | iaload =>
    simp only [sI, nb_RI, nb_Arr]
    congr 1; funext k j i r; congr 1; funext t n
    split
    · exact nb_In _ _ _ _
    · rfl
  | baload =>
    simp only [sI, nb_RI, nb_Arr]
    congr 1; funext k j i r; congr 1; funext t n
    split
    · exact nb_In _ _ _ _
    · exact nb_In _ _ _ _
    · rfl
  | laload =>
    simp only [sI, nb_RI, nb_Arr]
    congr 1; funext k j i r; congr 1; funext t n
    split
    · exact nb_In _ _ _ _
    · rfl
  | aaload =>
    simp only [sI, nb_RI]
    congr 1; funext k j i r
    split
    · rw [nb_In]; simp only [nb_pick]
    · exact nb_In _ _ _ _
    · rfl
  | iastore =>
    simp only [sI, nb_RII, nb_Arr]
    congr 1; funext k j i x r; congr 1; funext t n
    split
    · exact nb_In _ _ _ _
    · rfl
  | bastore =>
    simp only [sI, nb_RII, nb_Arr]
    congr 1; funext k j i x r; congr 1; funext t n
    split
    · exact nb_In _ _ _ _
    · exact nb_In _ _ _ _
    · rfl
  | lastore =>
    simp only [sI, nb_RIL, nb_Arr]
    congr 1; funext k j i x r; congr 1; funext t n
    split
    · exact nb_In _ _ _ _
    · rfl
  | invokevirtual i =>
    unfold sI
    dsimp only
    split
    · rw [nb_R1]; congr 1; funext k j r; rw [nb_Txt]; congr 1; funext t
      split <;> rfl
    · rw [nb_RI]; congr 1; funext k j i r; rw [nb_Txt]; congr 1; funext t
      split
      · exact nb_In _ _ _ _
      · rfl
    · simp only [nb_Tk, nb_Recv, nb_Dep]
  | invokestatic i =>
    unfold sI
    dsimp only
    split
    · rw [nb_Copy]; congr 1; funext r s
      split <;> rfl
    · rw [nb_I2]; congr 1; funext x y r
      split <;> rfl
    · rw [nb_I2]; congr 1; funext x y r
      split <;> rfl
    · simp only [nb_Tk, nb_Dep]
  | _ => first | rfl | (simp only [sI, nb_V1, nb_V2, nb_VR, nb_E0, nb_E1, nb_ER, nb_C1, nb_Put, nb_Ret, nb_I1, nb_I2, nb_L2, nb_R1, nb_RI, nb_RII, nb_RIL, nb_Arr, nb_LdI, nb_LdR, nb_Sto, nb_SwT, nb_SwL, nb_Get, nb_ite, Option.bind_none]; done)
/-- what one instruction comes to -/
abbrev pO : Type := (Nat × pL × List pV × pSt) ⊕ (Nat × Nat × List pV × Nat × Nat × pL × List pV) ⊕ Option pV
def sO (S : List pSh) (T : pTx) (d pc : Nat) (x : pX) (L : pL) (st : List pV) (σ : pSt) : Option pO := sI S T d pc x L st σ (fun q1 q2 q3 q4 => some (.inl (q1, q2, q3, q4))) (fun q1 q2 q3 q4 q5 q6 q7 => some (.inr (.inl (q1, q2, q3, q4, q5, q6, q7)))) (fun v => some (.inr (.inr v)))
theorem sI_sO (S : List pSh) (T : pTx) (d pc : Nat) (x : pX) (L : pL) (st : List pV) (σ : pSt) (K : Nat → pL → List pV → pSt → Option ρ) (C : Nat → Nat → List pV → Nat → Nat → pL → List pV → Option ρ) (Rr : Option pV → Option ρ) :
    sI S T d pc x L st σ K C Rr = (sO S T d pc x L st σ).bind fun o => match o with
      | .inl q => K q.1 q.2.1 q.2.2.1 q.2.2.2
      | .inr (.inl q) => C q.1 q.2.1 q.2.2.1 q.2.2.2.1 q.2.2.2.2.1 q.2.2.2.2.2.1 q.2.2.2.2.2.2
      | .inr (.inr v) => Rr v := by
  unfold sO
  rw [sI_nat]
  rfl
end PN
end
section
section PEV
variable (S : List pSh) (P : List pM) (T : pTx)
theorem pB0_le {ρ : Type} {E E' : Option pRes} {F F' : pD → pDL → Option ρ} {r : ρ} (hE : ∀ r, E = some r → E' = some r) (hF : ∀ D DL r, F D DL = some r → F' D DL = some r) (h : pB0 E F = some r) : pB0 E' F' = some r := by
  unfold pB0 at h
  split at h
  · rw [hE _ rfl]; exact hF _ _ _ h
  · cases h
theorem pB1_le {ρ : Type} {E E' : Option pRes} {F F' : Int32 → pD → pDL → Option ρ} {r : ρ} (hE : ∀ r, E = some r → E' = some r) (hF : ∀ x D DL r, F x D DL = some r → F' x D DL = some r) (h : pB1 E F = some r) : pB1 E' F' = some r := by
  unfold pB1 at h
  split at h
  · rw [hE _ rfl]; exact hF _ _ _ _ h
  · cases h
theorem pB2_le {ρ : Type} {E E' : Option pRes} {k : Nat} {F F' : pD → pDL → Option ρ} {r : ρ} (hE : ∀ r, E = some r → E' = some r) (hF : ∀ D DL r, F D DL = some r → F' D DL = some r) (h : pB2 E k F = some r) : pB2 E' k F' = some r := by
  unfold pB2 at h
  split at h
  · split at h
    · rw [hE _ rfl]; exact (if_pos (by assumption)).trans (hF _ _ _ h)
    · cases h
  · cases h
theorem pBk_le {ρ : Type} {E E' : Option pRes} {g : Nat} {F F' : List pV → pSt → Option ρ} {r : ρ} (hE : ∀ r, E = some r → E' = some r) (hF : ∀ v σ r, F v σ = some r → F' v σ = some r) (h : pBk E g F = some r) : pBk E' g F' = some r := by
  unfold pBk at h ⊢
  split
  · exact pB0_le hE (fun _ _ _ => hF _ _ _) h
  · exact pB1_le hE (fun _ _ _ _ => hF _ _ _) h
  · exact pB2_le hE (fun _ _ _ => hF _ _ _) h
theorem pr_mono : ∀ (n me d pc : Nat) (L : pL) (st : List pV) (σ : pSt) (r : pRes), pr S P T n me d pc L st σ = some r → pr S P T (n + 1) me d pc L st σ = some r
  | 0, _, _, _, _, _, _, _, h => by cases h
  | n + 1, me, d, pc, L, st, σ, r, h => by
    unfold pr at h ⊢
    cases hM : P[me]? with
    | none => rw [hM] at h; cases h
    | some M =>
      rw [hM] at h
      dsimp only at h ⊢
      unfold pSt1 at h ⊢
      cases hx : pFind pc M.1 with
      | none => rw [hx] at h; cases h
      | some x =>
        rw [hx] at h
        dsimp only at h ⊢
        rw [sI_sO] at h ⊢
        cases ho : sO S T d pc x L st σ with
        | none => rw [ho] at h; cases h
        | some o =>
          rw [ho] at h
          rw [Option.bind_some] at h ⊢
          rcases o with q | q | v
          · exact pr_mono n _ _ _ _ _ _ _ h
          · dsimp only at h ⊢
            exact pBk_le (fun r hr => pr_mono n _ _ _ _ _ _ _ hr) (fun v s r hr => pr_mono n _ _ _ _ _ _ _ hr) h
          · exact h
theorem pr_le {n k me d pc : Nat} {L : pL} {st : List pV} {σ : pSt} {r : pRes} (hk : n ≤ k) (h : pr S P T n me d pc L st σ = some r) : pr S P T k me d pc L st σ = some r := by
  induction hk with
  | refl => exact h
  | step _ ih => exact pr_mono S P T _ _ _ _ _ _ _ _ ih
/-- what the run comes to, if it ends -/
noncomputable def ev : pK pRes := fun me d pc L st σ => @dite _ (∃ (r : pRes) (n : Nat), pr S P T n me d pc L st σ = some r) (Classical.propDecidable _) (fun h => some (Classical.choose h)) (fun _ => none)
theorem ev_iff {me d pc : Nat} {L : pL} {st : List pV} {σ : pSt} {r : pRes} : ev S P T me d pc L st σ = some r ↔ ∃ n, pr S P T n me d pc L st σ = some r := by
  unfold ev
  constructor
  · intro h
    split at h
    · next hh =>
      obtain ⟨n, hn⟩ := Classical.choose_spec hh
      exact ⟨n, by rw [hn, ← Option.some.inj h]⟩
    · cases h
  · intro ⟨n, hn⟩
    have hh : ∃ (r : pRes) (n : Nat), pr S P T n me d pc L st σ = some r := ⟨r, n, hn⟩
    rw [dif_pos hh]
    obtain ⟨k, hk⟩ := Classical.choose_spec hh
    have h1 := pr_le S P T (Nat.le_max_left n k) hn
    have h2 := pr_le S P T (Nat.le_max_right n k) hk
    rw [h1] at h2
    exact h2.symm
theorem ev_eq (me d pc : Nat) (L : pL) (st : List pV) (σ : pSt) : ev S P T me d pc L st σ = match P[me]? with
    | none => none
    | some M => pSt1 S T (ev S P T) M me d pc L st σ fun pc' L' st' σ' => ev S P T me d pc' (pCut M pc' L') st' σ' := by
  apply Option.ext
  intro r
  constructor
  · intro h
    obtain ⟨n, hn⟩ := (ev_iff S P T).mp h
    cases n with
    | zero => cases hn
    | succ n =>
      unfold pr at hn
      cases hM : P[me]? with
      | none => rw [hM] at hn; cases hn
      | some M =>
        rw [hM] at hn
        dsimp only at hn ⊢
        unfold pSt1 at hn ⊢
        cases hx : pFind pc M.1 with
        | none => rw [hx] at hn; cases hn
        | some x =>
          rw [hx] at hn
          dsimp only at hn ⊢
          rw [sI_sO] at hn ⊢
          cases ho : sO S T d pc x L st σ with
          | none => rw [ho] at hn; cases hn
          | some o =>
            rw [ho] at hn
            rw [Option.bind_some] at hn ⊢
            rcases o with q | q | v
            · exact (ev_iff S P T).mpr ⟨n, hn⟩
            · dsimp only at hn ⊢
              exact pBk_le (fun r hr => (ev_iff S P T).mpr ⟨n, hr⟩) (fun v s r hr => (ev_iff S P T).mpr ⟨n, hr⟩) hn
            · exact hn
  · intro h
    cases hM : P[me]? with
    | none => rw [hM] at h; cases h
    | some M =>
      rw [hM] at h
      dsimp only at h
      unfold pSt1 at h
      cases hx : pFind pc M.1 with
      | none => rw [hx] at h; cases h
      | some x =>
        rw [hx] at h
        dsimp only at h
        rw [sI_sO] at h
        cases ho : sO S T d pc x L st σ with
        | none => rw [ho] at h; cases h
        | some o =>
          have goal : ∀ n, (match o with
              | .inl q => pr S P T n me d q.1 (pCut M q.1 q.2.1) q.2.2.1 q.2.2.2
              | .inr (.inl q) => pBk (pr S P T n q.1 q.2.1 0 (pL0 q.2.2.1) [] σ) q.2.2.2.1 fun v σ' => pr S P T n me d q.2.2.2.2.1 (pCut M q.2.2.2.2.1 q.2.2.2.2.2.1) (v ++ q.2.2.2.2.2.2) σ'
              | .inr (.inr v) => some (v, σ)) = some r → ev S P T me d pc L st σ = some r := by
            intro n hn
            refine (ev_iff S P T).mpr ⟨n + 1, ?_⟩
            unfold pr
            rw [hM]
            dsimp only
            unfold pSt1
            rw [hx]
            dsimp only
            rw [sI_sO, ho, Option.bind_some]
            rcases o with q | q | v <;> exact hn
          rw [ho] at h
          rw [Option.bind_some] at h
          rcases o with q | q | v
          · obtain ⟨n, hn⟩ := (ev_iff S P T).mp h
            exact goal n hn
          · dsimp only at h goal
            have key : ∃ (n : Nat) (w : pRes), pr S P T n q.1 q.2.1 0 (pL0 q.2.2.1) [] σ = some w ∧ pBk (some w) q.2.2.2.1 (fun v σ' => pr S P T n me d q.2.2.2.2.1 (pCut M q.2.2.2.2.1 q.2.2.2.2.2.1) (v ++ q.2.2.2.2.2.2) σ') = some r := by
              unfold pBk at h ⊢
              split at h
              · unfold pB0 at h ⊢
                split at h
                · next w hw =>
                  obtain ⟨n, hn⟩ := (ev_iff S P T).mp hw
                  obtain ⟨k, hk⟩ := (ev_iff S P T).mp h
                  exact ⟨max n k, _, pr_le S P T (Nat.le_max_left n k) hn, pr_le S P T (Nat.le_max_right n k) hk⟩
                · cases h
              · unfold pB1 at h ⊢
                split at h
                · next w hw =>
                  obtain ⟨n, hn⟩ := (ev_iff S P T).mp hw
                  obtain ⟨k, hk⟩ := (ev_iff S P T).mp h
                  exact ⟨max n k, _, pr_le S P T (Nat.le_max_left n k) hn, pr_le S P T (Nat.le_max_right n k) hk⟩
                · cases h
              · unfold pB2 at h ⊢
                split at h
                · next w hw =>
                  split at h
                  · next hc =>
                    obtain ⟨n, hn⟩ := (ev_iff S P T).mp hw
                    obtain ⟨k, hk⟩ := (ev_iff S P T).mp h
                    exact ⟨max n k, _, pr_le S P T (Nat.le_max_left n k) hn, (if_pos hc).trans (pr_le S P T (Nat.le_max_right n k) hk)⟩
                  · cases h
                · cases h
            obtain ⟨n, w, h1, h2⟩ := key
            refine goal n ?_
            rw [h1]
            exact h2
          · exact goal 0 h
/-- k steps within the method, up to its cuts -/
noncomputable def go (E : pK pRes) (M : pM) (me d : Nat) : Nat → Nat → pL → List pV → pSt → Option pRes
  | 0, pc, L, st, σ => E me d pc L st σ
  | k + 1, pc, L, st, σ => pSt1 S T E M me d pc L st σ fun pc' L' st' σ' => (match pFind pc' M.2 with
    | some keep => E me d pc' (pMask keep L') st' σ'
    | none => go E M me d k pc' L' st' σ')
theorem ev_go {M : pM} {me : Nat} (hM : P[me]? = some M) (d : Nat) : ∀ (k pc : Nat) (L : pL) (st : List pV) (σ : pSt), ev S P T me d pc L st σ = go S T (ev S P T) M me d k pc L st σ
  | 0, _, _, _, _ => rfl
  | k + 1, pc, L, st, σ => by
    rw [ev_eq, hM]
    dsimp only
    unfold go
    congr 1
    funext pc' L' st' σ'
    unfold pCut
    cases hc : pFind pc' M.2 with
    | none => exact ev_go hM d k pc' L' st' σ'
    | some keep => rfl
end PEV
end
section
def tx0 : List Int32 := [110, 111, 116, 105, 111, 110]
def tx1 : List Int32 := [119, 111, 114, 100]
def tx2 : List Int32 := [112, 108, 97, 99, 101]
def tx3 : List Int32 := [116, 105, 101]
def tx4 : List Int32 := [104, 101, 97, 114, 101, 114]
def tx5 : List Int32 := [108, 97, 99, 107]
def tx6 : List Int32 := [97, 100, 100]
def tx7 : List Int32 := [98, 111, 114, 114, 111, 119]
def tx8 : List Int32 := [108, 111, 110, 103]
def tx9 : List Int32 := [110, 111, 116, 101, 115]
def tx10 : List Int32 := [119, 101, 105, 103, 104, 116]
def tx11 : List Int32 := [110, 111, 116, 105, 111, 110, 32, 119, 111, 114, 100, 32, 112, 108, 97, 99, 101, 32, 116, 105, 101, 32, 104, 101, 97, 114, 101, 114, 32, 119, 101, 105, 103, 104, 116, 32, 108, 97, 99, 107, 32, 97, 100, 100, 32, 98, 111, 114, 114, 111, 119, 32, 108, 111, 110, 103, 32, 110, 111, 116, 101, 115, 32]
def Tx : pTx := [tx0, tx1, tx2, tx3, tx4, tx5, tx6, tx7, tx8, tx9, tx10, tx11]
def Sh : List pSh := [(16, 0, [5, 9, 37, 87, 99, 101, 103, 117, 121, 133]), (14, 0, [7, 0]), (1, 1200, []), (7, 0, [11, 13, 15, 17, 19, 21, 23, 25, 27, 29, 31, 33, 35]), (0, 5, []), (0, 5, []), (0, 24, []), (0, 256, []), (0, 12, []), (0, 20, []), (0, 24, []), (0, 24, []), (0, 20, []), (0, 20, []), (0, 20, []), (0, 6, []), (0, 6, []), (11, 0, [39, 67, 73, 79, 0, 0, 8, 0, 0, 0, 2, 0, 0, 0]), (7, 0, [41, 43, 45, 47, 49, 51, 53, 55, 57, 59, 61, 63, 65]), (0, 5, []), (0, 5, []), (0, 24, []), (0, 256, []), (0, 12, []), (0, 20, []), (0, 24, []), (0, 24, []), (0, 20, []), (0, 20, []), (0, 20, []), (0, 6, []), (0, 6, []), (10, 0, [69, 71, 0]), (0, 20, []), (0, 20, []), (10, 0, [75, 77, 0]), (0, 20, []), (0, 20, []), (10, 0, [81, 83, 0]), (0, 20, []), (0, 20, []), (1, 0, []), (12, 0, [9, 89, 91, 93, 95, 97]), (0, 24, []), (0, 24, []), (0, 24, []), (0, 24, []), (0, 24, []), (4, 4, [77, 83, 89, 95]), (2, 4, []), (13, 0, [9, 105, 107, 109, 111, 113, 115, 0, 0, 0]), (0, 4, []), (5, 4, [21]), (5, 16, [21]), (5, 5, [4]), (0, 4, []), (0, 4, []), (8, 0, [119]), (1, 1920, []), (15, 0, [9, 123, 125, 127, 129, 131, 0]), (0, 40, []), (0, 40, []), (0, 40, []), (0, 20, []), (0, 24, []), (9, 0, [135, 137, 139, 141, 143, 145, 147, 149, 151, 153, 0, 0, 0, 0]), (0, 30, []), (0, 30, []), (0, 30, []), (0, 30, []), (0, 30, []), (0, 20, []), (0, 20, []), (0, 20, []), (0, 30, []), (0, 300, []), (12, 0, [9, 157, 159, 161, 163, 165]), (0, 24, []), (0, 24, []), (0, 24, []), (0, 24, []), (0, 24, []), (12, 0, [9, 169, 171, 173, 175, 177]), (0, 24, []), (0, 24, []), (0, 24, []), (0, 24, []), (0, 24, []), (12, 0, [9, 181, 183, 185, 187, 189]), (0, 24, []), (0, 24, []), (0, 24, []), (0, 24, []), (0, 24, []), (12, 0, [9, 193, 195, 197, 199, 201]), (0, 24, []), (0, 24, []), (0, 24, []), (0, 24, []), (0, 24, []), (17, 0, [205, 0, 0, 0, 0, 0, 0, 0, 0, 0, 1, 1, 0, 207, 209, 211, 213, 215, 217, 219, 221, 223, 225, 227, 229, 231, 0, 233, 235, 237, 239, 241, 243, 245, 247, 249, 251, 253, 255, 257, 259, 261, 263, 265, 0, 267, 269, 271, 0, 0, 0, 273, 275, 277, 279, 281, 283, 285, 287]), (1, 1200, []), (0, 20, []), (3, 64, []), (3, 64, []), (0, 24, []), (0, 40, []), (0, 48, []), (0, 48, []), (0, 40, []), (0, 40, []), (0, 40, []), (0, 12, []), (0, 12, []), (0, 48, []), (0, 24, []), (0, 24, []), (0, 24, []), (0, 24, []), (0, 24, []), (0, 4, []), (0, 4, []), (0, 4, []), (0, 4, []), (0, 4, []), (2, 4, []), (0, 120, []), (0, 120, []), (0, 120, []), (0, 120, []), (0, 120, []), (0, 1920, []), (0, 40, []), (0, 40, []), (0, 40, []), (0, 30, []), (0, 30, []), (0, 30, []), (0, 30, []), (0, 20, []), (0, 20, []), (0, 20, []), (2, 300, []), (6, 0, []), (6, 1, []), (6, 2, []), (6, 3, []), (6, 4, []), (6, 5, []), (6, 6, []), (6, 7, []), (6, 8, []), (6, 9, []), (6, 10, []), (6, 11, [])]
-- X0_clear
def k0 : pM := ([(0, .aload_n 0, 0, 0, 0, 0, 0, 0), (1, .getfield 11, 0, 0, 0, 0, 0, 0), (4, .iconst 0, 0, 0, 0, 0, 0, 0), (5, .invokestatic 57, 243, 2, 2, 0, 0, 0), (8, .aload_n 0, 0, 0, 0, 0, 0, 0), (9, .getfield 15, 0, 1, 0, 0, 0, 0), (12, .iconst 0, 0, 0, 0, 0, 0, 0), (13, .iconst 2, 0, 0, 0, 0, 0, 2), (14, .iastore, 0, 0, 0, 0, 0, 0), (15, .aload_n 0, 0, 0, 0, 0, 0, 0), (16, .getfield 15, 0, 1, 0, 0, 0, 0), (19, .iconst 1, 0, 0, 0, 0, 0, 1), (20, .iconst 1, 0, 0, 0, 0, 0, 1), (21, .iastore, 0, 0, 0, 0, 0, 0), (22, .aload_n 0, 0, 0, 0, 0, 0, 0), (23, .getfield 15, 0, 1, 0, 0, 0, 0), (26, .iconst 2, 0, 0, 0, 0, 0, 2), (27, .iconst 5, 0, 0, 0, 0, 0, 5), (28, .iastore, 0, 0, 0, 0, 0, 0), (29, .aload_n 0, 0, 0, 0, 0, 0, 0), (30, .getfield 15, 0, 1, 0, 0, 0, 0), (33, .iconst 3, 0, 0, 0, 0, 0, 3), (34, .iconst 1, 0, 0, 0, 0, 0, 1), (35, .iastore, 0, 0, 0, 0, 0, 0), (36, .aload_n 0, 0, 0, 0, 0, 0, 0), (37, .getfield 15, 0, 1, 0, 0, 0, 0), (40, .iconst 4, 0, 0, 0, 0, 0, 4), (41, .bipush 6, 0, 0, 0, 0, 0, 6), (43, .iastore, 0, 0, 0, 0, 0, 0), (44, .aload_n 0, 0, 0, 0, 0, 0, 0), (45, .getfield 18, 0, 2, 0, 0, 0, 0), (48, .iconst 1, 0, 0, 0, 0, 0, 1), (49, .invokestatic 57, 243, 2, 2, 0, 0, 0), (52, .return_, 0, 0, 0, 0, 0, 0)], [])
-- X0_copyFrom
def k1 : pM := ([(0, .aload_n 1, 1, 0, 0, 0, 0, 0), (1, .getfield 11, 0, 0, 0, 0, 0, 0), (4, .iconst 0, 0, 0, 0, 0, 0, 0), (5, .aload_n 0, 0, 0, 0, 0, 0, 0), (6, .getfield 11, 0, 0, 0, 0, 0, 0), (9, .iconst 0, 0, 0, 0, 0, 0, 0), (10, .aload_n 0, 0, 0, 0, 0, 0, 0), (11, .getfield 11, 0, 0, 0, 0, 0, 0), (14, .arraylength, 0, 0, 0, 0, 0, 0), (15, .invokestatic 63, 0, 0, 0, 0, 0, 0), (18, .aload_n 1, 1, 0, 0, 0, 0, 0), (19, .getfield 15, 0, 1, 0, 0, 0, 0), (22, .iconst 0, 0, 0, 0, 0, 0, 0), (23, .aload_n 0, 0, 0, 0, 0, 0, 0), (24, .getfield 15, 0, 1, 0, 0, 0, 0), (27, .iconst 0, 0, 0, 0, 0, 0, 0), (28, .aload_n 0, 0, 0, 0, 0, 0, 0), (29, .getfield 15, 0, 1, 0, 0, 0, 0), (32, .arraylength, 0, 0, 0, 0, 0, 0), (33, .invokestatic 63, 0, 0, 0, 0, 0, 0), (36, .aload_n 1, 1, 0, 0, 0, 0, 0), (37, .getfield 18, 0, 2, 0, 0, 0, 0), (40, .iconst 0, 0, 0, 0, 0, 0, 0), (41, .aload_n 0, 0, 0, 0, 0, 0, 0), (42, .getfield 18, 0, 2, 0, 0, 0, 0), (45, .iconst 0, 0, 0, 0, 0, 0, 0), (46, .bipush 24, 0, 0, 0, 0, 0, 24), (48, .invokestatic 63, 0, 0, 0, 0, 0, 0), (51, .aload_n 0, 0, 0, 0, 0, 0, 0), (52, .invokevirtual 54, 7, 1, 2, 1, 0, 0), (55, .aload_n 1, 1, 0, 0, 0, 0, 0), (56, .getfield 24, 0, 4, 0, 0, 0, 0), (59, .iconst 0, 0, 0, 0, 0, 0, 0), (60, .aload_n 0, 0, 0, 0, 0, 0, 0), (61, .getfield 24, 0, 4, 0, 0, 0, 0), (64, .iconst 0, 0, 0, 0, 0, 0, 0), (65, .bipush 12, 0, 0, 0, 0, 0, 12), (67, .invokestatic 63, 0, 0, 0, 0, 0, 0), (70, .aload_n 1, 1, 0, 0, 0, 0, 0), (71, .getfield 27, 0, 5, 0, 0, 0, 0), (74, .iconst 0, 0, 0, 0, 0, 0, 0), (75, .aload_n 0, 0, 0, 0, 0, 0, 0), (76, .getfield 27, 0, 5, 0, 0, 0, 0), (79, .iconst 0, 0, 0, 0, 0, 0, 0), (80, .bipush 20, 0, 0, 0, 0, 0, 20), (82, .invokestatic 63, 0, 0, 0, 0, 0, 0), (85, .aload_n 1, 1, 0, 0, 0, 0, 0), (86, .getfield 30, 0, 6, 0, 0, 0, 0), (89, .iconst 0, 0, 0, 0, 0, 0, 0), (90, .aload_n 0, 0, 0, 0, 0, 0, 0), (91, .getfield 30, 0, 6, 0, 0, 0, 0), (94, .iconst 0, 0, 0, 0, 0, 0, 0), (95, .bipush 24, 0, 0, 0, 0, 0, 24), (97, .invokestatic 63, 0, 0, 0, 0, 0, 0), (100, .aload_n 1, 1, 0, 0, 0, 0, 0), (101, .getfield 33, 0, 7, 0, 0, 0, 0), (104, .iconst 0, 0, 0, 0, 0, 0, 0), (105, .aload_n 0, 0, 0, 0, 0, 0, 0), (106, .getfield 33, 0, 7, 0, 0, 0, 0), (109, .iconst 0, 0, 0, 0, 0, 0, 0), (110, .bipush 24, 0, 0, 0, 0, 0, 24), (112, .invokestatic 63, 0, 0, 0, 0, 0, 0), (115, .aload_n 1, 1, 0, 0, 0, 0, 0), (116, .getfield 36, 0, 8, 0, 0, 0, 0), (119, .iconst 0, 0, 0, 0, 0, 0, 0), (120, .aload_n 0, 0, 0, 0, 0, 0, 0), (121, .getfield 36, 0, 8, 0, 0, 0, 0), (124, .iconst 0, 0, 0, 0, 0, 0, 0), (125, .bipush 20, 0, 0, 0, 0, 0, 20), (127, .invokestatic 63, 0, 0, 0, 0, 0, 0), (130, .aload_n 1, 1, 0, 0, 0, 0, 0), (131, .getfield 39, 0, 9, 0, 0, 0, 0), (134, .iconst 0, 0, 0, 0, 0, 0, 0), (135, .aload_n 0, 0, 0, 0, 0, 0, 0), (136, .getfield 39, 0, 9, 0, 0, 0, 0), (139, .iconst 0, 0, 0, 0, 0, 0, 0), (140, .bipush 20, 0, 0, 0, 0, 0, 20), (142, .invokestatic 63, 0, 0, 0, 0, 0, 0), (145, .aload_n 1, 1, 0, 0, 0, 0, 0), (146, .getfield 42, 0, 10, 0, 0, 0, 0), (149, .iconst 0, 0, 0, 0, 0, 0, 0), (150, .aload_n 0, 0, 0, 0, 0, 0, 0), (151, .getfield 42, 0, 10, 0, 0, 0, 0), (154, .iconst 0, 0, 0, 0, 0, 0, 0), (155, .bipush 20, 0, 0, 0, 0, 0, 20), (157, .invokestatic 63, 0, 0, 0, 0, 0, 0), (160, .aload_n 1, 1, 0, 0, 0, 0, 0), (161, .getfield 45, 0, 11, 0, 0, 0, 0), (164, .iconst 0, 0, 0, 0, 0, 0, 0), (165, .aload_n 0, 0, 0, 0, 0, 0, 0), (166, .getfield 45, 0, 11, 0, 0, 0, 0), (169, .iconst 0, 0, 0, 0, 0, 0, 0), (170, .bipush 6, 0, 0, 0, 0, 0, 6), (172, .invokestatic 63, 0, 0, 0, 0, 0, 0), (175, .aload_n 1, 1, 0, 0, 0, 0, 0), (176, .getfield 48, 0, 12, 0, 0, 0, 0), (179, .iconst 0, 0, 0, 0, 0, 0, 0), (180, .aload_n 0, 0, 0, 0, 0, 0, 0), (181, .getfield 48, 0, 12, 0, 0, 0, 0), (184, .iconst 0, 0, 0, 0, 0, 0, 0), (185, .bipush 6, 0, 0, 0, 0, 0, 6), (187, .invokestatic 63, 0, 0, 0, 0, 0, 0), (190, .return_, 0, 0, 0, 0, 0, 0)], [])
-- X0_roomFor
def k2 : pM := ([(0, .iload_n 0, 0, 0, 0, 0, 0, 0), (1, .tableswitch 50 0 4 #[35, 38, 41, 44, 47], 0, 35, 0, 0, 0, 0), (36, .bipush 12, 0, 0, 0, 0, 0, 12), (38, .ireturn, 0, 0, 0, 0, 0, 0), (39, .bipush 20, 0, 0, 0, 0, 0, 20), (41, .ireturn, 0, 0, 0, 0, 0, 0), (42, .bipush 24, 0, 0, 0, 0, 0, 24), (44, .ireturn, 0, 0, 0, 0, 0, 0), (45, .bipush 20, 0, 0, 0, 0, 0, 20), (47, .ireturn, 0, 0, 0, 0, 0, 0), (48, .bipush 6, 0, 0, 0, 0, 0, 6), (50, .ireturn, 0, 0, 0, 0, 0, 0), (51, .iconst 0, 0, 0, 0, 0, 0, 0), (52, .ireturn, 0, 0, 0, 0, 0, 0)], [])
-- X0_has
def k3 : pM := ([(0, .iload_n 2, 2, 0, 0, 0, 0, 0), (1, .ifCond .lt 17, 18, 0, 0, 0, 0, 0), (4, .iload_n 2, 2, 0, 0, 0, 0, 0), (5, .aload_n 0, 0, 0, 0, 0, 0, 0), (6, .getfield 11, 0, 0, 0, 0, 0, 0), (9, .iload_n 1, 1, 0, 0, 0, 0, 0), (10, .iaload, 0, 0, 0, 0, 0, 0), (11, .if_icmp .ge 7, 18, 0, 0, 0, 0, 0), (14, .iconst 1, 0, 0, 0, 0, 0, 1), (15, .goto 4, 19, 0, 0, 0, 0, 0), (18, .iconst 0, 0, 0, 0, 0, 0, 0), (19, .ireturn, 1, 0, 0, 0, 0, 0)], [])
-- X0_setting
def k4 : pM := ([(0, .aload_n 0, 0, 0, 0, 0, 0, 0), (1, .getfield 15, 0, 1, 0, 0, 0, 0), (4, .iload_n 1, 1, 0, 0, 0, 0, 0), (5, .iconst 5, 0, 0, 0, 0, 0, 5), (6, .isub, 0, 0, 0, 0, 0, 0), (7, .iaload, 0, 0, 0, 0, 0, 0), (8, .ireturn, 0, 0, 0, 0, 0, 0)], [])
-- X0_allPlaces
def k5 : pM := ([(0, .iconst 1, 0, 0, 0, 0, 0, 1), (1, .aload_n 0, 0, 0, 0, 0, 0, 0), (2, .getfield 11, 0, 0, 0, 0, 0, 0), (5, .iconst 2, 0, 0, 0, 0, 0, 2), (6, .iaload, 0, 0, 0, 0, 0, 0), (7, .ishl, 0, 0, 0, 0, 0, 0), (8, .iconst 1, 0, 0, 0, 0, 0, 1), (9, .isub, 0, 0, 0, 0, 0, 0), (10, .ireturn, 0, 0, 0, 0, 0, 0)], [])
-- X0_weigh
def k6 : pM := ([(0, .iconst 0, 0, 0, 0, 0, 0, 0), (1, .istore_n 3, 3, 0, 0, 0, 0, 0), (2, .iload_n 3, 3, 0, 0, 0, 0, 0), (3, .bipush 24, 0, 0, 0, 0, 0, 24), (5, .if_icmp .ge 24, 29, 0, 0, 0, 0, 0), (8, .iload_n 1, 1, 0, 0, 0, 0, 0), (9, .iload_n 3, 3, 0, 0, 0, 0, 0), (10, .ishr, 0, 0, 0, 0, 0, 0), (11, .iconst 1, 0, 0, 0, 0, 0, 1), (12, .iand, 0, 0, 0, 0, 0, 0), (13, .ifCond .eq 10, 23, 0, 0, 0, 0, 0), (16, .aload_n 0, 0, 0, 0, 0, 0, 0), (17, .getfield 18, 0, 2, 0, 0, 0, 0), (20, .iload_n 3, 3, 0, 0, 0, 0, 0), (21, .iload_n 2, 2, 0, 0, 0, 0, 0), (22, .iastore, 0, 0, 0, 0, 0, 0), (23, .iinc 3 1, 3, 0, 0, 0, 0, 1), (26, .goto (-24), 2, 0, 0, 0, 0, 0), (29, .return_, 0, 0, 0, 0, 0, 0)], [(2, [true, true, true, true])])
-- X0_sumGroups
def k7 : pM := ([(0, .iconst 0, 0, 0, 0, 0, 0, 0), (1, .istore_n 1, 1, 0, 0, 0, 0, 0), (2, .iload_n 1, 1, 0, 0, 0, 0, 0), (3, .bipush 24, 0, 0, 0, 0, 0, 24), (5, .if_icmp .ge 66, 71, 0, 0, 0, 0, 0), (8, .iload_n 1, 1, 0, 0, 0, 0, 0), (9, .bipush 6, 0, 0, 0, 0, 0, 6), (11, .idiv, 0, 0, 0, 0, 0, 0), (12, .bipush 64, 0, 0, 0, 0, 0, 64), (14, .imul, 0, 0, 0, 0, 0, 0), (15, .istore_n 2, 2, 0, 0, 0, 0, 0), (16, .iconst 1, 0, 0, 0, 0, 0, 1), (17, .iload_n 1, 1, 0, 0, 0, 0, 0), (18, .bipush 6, 0, 0, 0, 0, 0, 6), (20, .irem, 0, 0, 0, 0, 0, 0), (21, .ishl, 0, 0, 0, 0, 0, 0), (22, .istore_n 3, 3, 0, 0, 0, 0, 0), (23, .iconst 0, 0, 0, 0, 0, 0, 0), (24, .istore 4, 4, 0, 0, 0, 0, 0), (26, .iload 4, 4, 0, 0, 0, 0, 0), (28, .iload_n 3, 3, 0, 0, 0, 0, 0), (29, .if_icmp .ge 36, 65, 0, 0, 0, 0, 0), (32, .aload_n 0, 0, 0, 0, 0, 0, 0), (33, .getfield 21, 0, 3, 0, 0, 0, 0), (36, .iload_n 2, 2, 0, 0, 0, 0, 0), (37, .iload_n 3, 3, 0, 0, 0, 0, 0), (38, .iadd, 0, 0, 0, 0, 0, 0), (39, .iload 4, 4, 0, 0, 0, 0, 0), (41, .iadd, 0, 0, 0, 0, 0, 0), (42, .aload_n 0, 0, 0, 0, 0, 0, 0), (43, .getfield 21, 0, 3, 0, 0, 0, 0), (46, .iload_n 2, 2, 0, 0, 0, 0, 0), (47, .iload 4, 4, 0, 0, 0, 0, 0), (49, .iadd, 0, 0, 0, 0, 0, 0), (50, .iaload, 0, 0, 0, 0, 0, 0), (51, .aload_n 0, 0, 0, 0, 0, 0, 0), (52, .getfield 18, 0, 2, 0, 0, 0, 0), (55, .iload_n 1, 1, 0, 0, 0, 0, 0), (56, .iaload, 0, 0, 0, 0, 0, 0), (57, .iadd, 0, 0, 0, 0, 0, 0), (58, .iastore, 0, 0, 0, 0, 0, 0), (59, .iinc 4 1, 4, 0, 0, 0, 0, 1), (62, .goto (-36), 26, 0, 0, 0, 0, 0), (65, .iinc 1 1, 1, 0, 0, 0, 0, 1), (68, .goto (-66), 2, 0, 0, 0, 0, 0), (71, .return_, 0, 0, 0, 0, 0, 0)], [(2, [true, true, false, false, false]), (26, [true, true, true, true, true])])
-- X0_weightsOf
def k8 : pM := ([(0, .bipush 63, 0, 0, 0, 0, 0, 63), (2, .istore_n 2, 2, 0, 0, 0, 0, 0), (3, .aload_n 0, 0, 0, 0, 0, 0, 0), (4, .getfield 21, 0, 3, 0, 0, 0, 0), (7, .iload_n 1, 1, 0, 0, 0, 0, 0), (8, .iload_n 2, 2, 0, 0, 0, 0, 0), (9, .iand, 0, 0, 0, 0, 0, 0), (10, .iaload, 0, 0, 0, 0, 0, 0), (11, .aload_n 0, 0, 0, 0, 0, 0, 0), (12, .getfield 21, 0, 3, 0, 0, 0, 0), (15, .bipush 64, 0, 0, 0, 0, 0, 64), (17, .iload_n 1, 1, 0, 0, 0, 0, 0), (18, .bipush 6, 0, 0, 0, 0, 0, 6), (20, .ishr, 0, 0, 0, 0, 0, 0), (21, .iload_n 2, 2, 0, 0, 0, 0, 0), (22, .iand, 0, 0, 0, 0, 0, 0), (23, .iadd, 0, 0, 0, 0, 0, 0), (24, .iaload, 0, 0, 0, 0, 0, 0), (25, .iadd, 0, 0, 0, 0, 0, 0), (26, .aload_n 0, 0, 0, 0, 0, 0, 0), (27, .getfield 21, 0, 3, 0, 0, 0, 0), (30, .sipush 128, 0, 0, 0, 0, 0, 128), (33, .iload_n 1, 1, 0, 0, 0, 0, 0), (34, .bipush 12, 0, 0, 0, 0, 0, 12), (36, .ishr, 0, 0, 0, 0, 0, 0), (37, .iload_n 2, 2, 0, 0, 0, 0, 0), (38, .iand, 0, 0, 0, 0, 0, 0), (39, .iadd, 0, 0, 0, 0, 0, 0), (40, .iaload, 0, 0, 0, 0, 0, 0), (41, .iadd, 0, 0, 0, 0, 0, 0), (42, .aload_n 0, 0, 0, 0, 0, 0, 0), (43, .getfield 21, 0, 3, 0, 0, 0, 0), (46, .sipush 192, 0, 0, 0, 0, 0, 192), (49, .iload_n 1, 1, 0, 0, 0, 0, 0), (50, .bipush 18, 0, 0, 0, 0, 0, 18), (52, .ishr, 0, 0, 0, 0, 0, 0), (53, .iload_n 2, 2, 0, 0, 0, 0, 0), (54, .iand, 0, 0, 0, 0, 0, 0), (55, .iadd, 0, 0, 0, 0, 0, 0), (56, .iaload, 0, 0, 0, 0, 0, 0), (57, .iadd, 0, 0, 0, 0, 0, 0), (58, .ireturn, 0, 0, 0, 0, 0, 0)], [])
-- X0_traitsOfNotionAt
def k9 : pM := ([(0, .aload_n 0, 0, 0, 0, 0, 0, 0), (1, .getfield 24, 0, 4, 0, 0, 0, 0), (4, .aload_n 0, 0, 0, 0, 0, 0, 0), (5, .getfield 30, 0, 6, 0, 0, 0, 0), (8, .iload_n 1, 1, 0, 0, 0, 0, 0), (9, .iaload, 0, 0, 0, 0, 0, 0), (10, .iaload, 0, 0, 0, 0, 0, 0), (11, .ireturn, 0, 0, 0, 0, 0, 0)], [])
-- X0_lacksOf
def k10 : pM := ([(0, .aload_n 0, 0, 0, 0, 0, 0, 0), (1, .getfield 33, 0, 7, 0, 0, 0, 0), (4, .iload_n 1, 1, 0, 0, 0, 0, 0), (5, .iaload, 0, 0, 0, 0, 0, 0), (6, .iload_n 2, 2, 0, 0, 0, 0, 0), (7, .iconst (-1), 0, 0, 0, 0, 0, (-1)), (8, .ixor, 0, 0, 0, 0, 0, 0), (9, .iand, 0, 0, 0, 0, 0, 0), (10, .ireturn, 0, 0, 0, 0, 0, 0)], [])
-- X0_addsOf
def k11 : pM := ([(0, .iload_n 2, 2, 0, 0, 0, 0, 0), (1, .aload_n 0, 0, 0, 0, 0, 0, 0), (2, .iload_n 1, 1, 0, 0, 0, 0, 0), (3, .invokevirtual 69, 9, 2, 2, 1, 1, 0), (6, .iconst (-1), 0, 0, 0, 0, 0, (-1)), (7, .ixor, 0, 0, 0, 0, 0, 0), (8, .iand, 0, 0, 0, 0, 0, 0), (9, .ireturn, 0, 0, 0, 0, 0, 0)], [])
-- X0_lostByTraits
def k12 : pM := ([(0, .aload_n 0, 0, 0, 0, 0, 0, 0), (1, .iconst 5, 0, 0, 0, 0, 0, 5), (2, .invokevirtual 73, 4, 2, 2, 1, 1, 0), (5, .aload_n 0, 0, 0, 0, 0, 0, 0), (6, .aload_n 0, 0, 0, 0, 0, 0, 0), (7, .iload_n 1, 1, 0, 0, 0, 0, 0), (8, .iload_n 2, 2, 0, 0, 0, 0, 0), (9, .invokevirtual 76, 10, 3, 2, 1, 1, 0), (12, .iload_n 3, 3, 0, 0, 0, 0, 0), (13, .iconst (-1), 0, 0, 0, 0, 0, (-1)), (14, .ixor, 0, 0, 0, 0, 0, 0), (15, .iand, 0, 0, 0, 0, 0, 0), (16, .invokevirtual 80, 8, 2, 2, 1, 1, 0), (19, .imul, 0, 0, 0, 0, 0, 0), (20, .aload_n 0, 0, 0, 0, 0, 0, 0), (21, .bipush 6, 0, 0, 0, 0, 0, 6), (23, .invokevirtual 73, 4, 2, 2, 1, 1, 0), (26, .aload_n 0, 0, 0, 0, 0, 0, 0), (27, .aload_n 0, 0, 0, 0, 0, 0, 0), (28, .iload_n 1, 1, 0, 0, 0, 0, 0), (29, .iload_n 2, 2, 0, 0, 0, 0, 0), (30, .invokevirtual 83, 11, 3, 3, 1, 1, 0), (33, .invokevirtual 80, 8, 2, 2, 1, 1, 0), (36, .imul, 0, 0, 0, 0, 0, 0), (37, .iadd, 0, 0, 0, 0, 0, 0), (38, .ireturn, 0, 0, 0, 0, 0, 0)], [])
-- X0_wouldClash
def k13 : pM := ([(0, .iload_n 2, 2, 0, 0, 0, 0, 0), (1, .iload_n 3, 3, 0, 0, 0, 0, 0), (2, .iand, 0, 0, 0, 0, 0, 0), (3, .aload_n 0, 0, 0, 0, 0, 0, 0), (4, .getfield 42, 0, 10, 0, 0, 0, 0), (7, .iload_n 1, 1, 0, 0, 0, 0, 0), (8, .iaload, 0, 0, 0, 0, 0, 0), (9, .iand, 0, 0, 0, 0, 0, 0), (10, .ifCond .ne 37, 47, 0, 0, 0, 0, 0), (13, .iload 4, 4, 0, 0, 0, 0, 0), (15, .ifCond .eq 28, 43, 0, 0, 0, 0, 0), (18, .aload_n 0, 0, 0, 0, 0, 0, 0), (19, .getfield 30, 0, 6, 0, 0, 0, 0), (22, .aload_n 0, 0, 0, 0, 0, 0, 0), (23, .getfield 36, 0, 8, 0, 0, 0, 0), (26, .iload_n 1, 1, 0, 0, 0, 0, 0), (27, .iaload, 0, 0, 0, 0, 0, 0), (28, .iaload, 0, 0, 0, 0, 0, 0), (29, .aload_n 0, 0, 0, 0, 0, 0, 0), (30, .getfield 30, 0, 6, 0, 0, 0, 0), (33, .aload_n 0, 0, 0, 0, 0, 0, 0), (34, .getfield 39, 0, 9, 0, 0, 0, 0), (37, .iload_n 1, 1, 0, 0, 0, 0, 0), (38, .iaload, 0, 0, 0, 0, 0, 0), (39, .iaload, 0, 0, 0, 0, 0, 0), (40, .if_icmp .eq 7, 47, 0, 0, 0, 0, 0), (43, .iconst 1, 0, 0, 0, 0, 0, 1), (44, .goto 4, 48, 0, 0, 0, 0, 0), (47, .iconst 0, 0, 0, 0, 0, 0, 0), (48, .ireturn, 1, 0, 0, 0, 0, 0)], [])
-- X0_otherPlace
def k14 : pM := ([(0, .aload_n 0, 0, 0, 0, 0, 0, 0), (1, .getfield 36, 0, 8, 0, 0, 0, 0), (4, .iload_n 1, 1, 0, 0, 0, 0, 0), (5, .iaload, 0, 0, 0, 0, 0, 0), (6, .iload_n 2, 2, 0, 0, 0, 0, 0), (7, .if_icmp .ne 10, 17, 0, 0, 0, 0, 0), (10, .aload_n 0, 0, 0, 0, 0, 0, 0), (11, .getfield 39, 0, 9, 0, 0, 0, 0), (14, .iload_n 1, 1, 0, 0, 0, 0, 0), (15, .iaload, 0, 0, 0, 0, 0, 0), (16, .ireturn, 0, 0, 0, 0, 0, 0), (17, .aload_n 0, 0, 0, 0, 0, 0, 0), (18, .getfield 39, 0, 9, 0, 0, 0, 0), (21, .iload_n 1, 1, 0, 0, 0, 0, 0), (22, .iaload, 0, 0, 0, 0, 0, 0), (23, .iload_n 2, 2, 0, 0, 0, 0, 0), (24, .if_icmp .ne 12, 36, 0, 0, 0, 0, 0), (27, .aload_n 0, 0, 0, 0, 0, 0, 0), (28, .getfield 36, 0, 8, 0, 0, 0, 0), (31, .iload_n 1, 1, 0, 0, 0, 0, 0), (32, .iaload, 0, 0, 0, 0, 0, 0), (33, .goto 4, 37, 0, 0, 0, 0, 0), (36, .iconst (-1), 0, 0, 0, 0, 0, (-1)), (37, .ireturn, 0, 0, 0, 0, 0, 0)], [])
-- X0_boundBy
def k15 : pM := ([(0, .iconst 1, 0, 0, 0, 0, 0, 1), (1, .iload_n 1, 1, 0, 0, 0, 0, 0), (2, .ishl, 0, 0, 0, 0, 0, 0), (3, .istore_n 2, 2, 0, 0, 0, 0, 0), (4, .iconst 0, 0, 0, 0, 0, 0, 0), (5, .istore_n 3, 3, 0, 0, 0, 0, 0), (6, .iconst 0, 0, 0, 0, 0, 0, 0), (7, .istore 4, 4, 0, 0, 0, 0, 0), (9, .iload 4, 4, 0, 0, 0, 0, 0), (11, .bipush 24, 0, 0, 0, 0, 0, 24), (13, .if_icmp .ge 69, 82, 0, 0, 0, 0, 0), (16, .iload_n 2, 2, 0, 0, 0, 0, 0), (17, .iload_n 3, 3, 0, 0, 0, 0, 0), (18, .if_icmp .eq 64, 82, 0, 0, 0, 0, 0), (21, .iload_n 2, 2, 0, 0, 0, 0, 0), (22, .istore_n 3, 3, 0, 0, 0, 0, 0), (23, .iconst 0, 0, 0, 0, 0, 0, 0), (24, .istore 5, 5, 0, 0, 0, 0, 0), (26, .iload 5, 5, 0, 0, 0, 0, 0), (28, .aload_n 0, 0, 0, 0, 0, 0, 0), (29, .getfield 11, 0, 0, 0, 0, 0, 0), (32, .iconst 3, 0, 0, 0, 0, 0, 3), (33, .iaload, 0, 0, 0, 0, 0, 0), (34, .if_icmp .ge 42, 76, 0, 0, 0, 0, 0), (37, .iconst 1, 0, 0, 0, 0, 0, 1), (38, .aload_n 0, 0, 0, 0, 0, 0, 0), (39, .getfield 36, 0, 8, 0, 0, 0, 0), (42, .iload 5, 5, 0, 0, 0, 0, 0), (44, .iaload, 0, 0, 0, 0, 0, 0), (45, .ishl, 0, 0, 0, 0, 0, 0), (46, .iconst 1, 0, 0, 0, 0, 0, 1), (47, .aload_n 0, 0, 0, 0, 0, 0, 0), (48, .getfield 39, 0, 9, 0, 0, 0, 0), (51, .iload 5, 5, 0, 0, 0, 0, 0), (53, .iaload, 0, 0, 0, 0, 0, 0), (54, .ishl, 0, 0, 0, 0, 0, 0), (55, .ior, 0, 0, 0, 0, 0, 0), (56, .istore 6, 6, 0, 0, 0, 0, 0), (58, .iload_n 2, 2, 0, 0, 0, 0, 0), (59, .iload 6, 6, 0, 0, 0, 0, 0), (61, .iand, 0, 0, 0, 0, 0, 0), (62, .ifCond .eq 8, 70, 0, 0, 0, 0, 0), (65, .iload_n 2, 2, 0, 0, 0, 0, 0), (66, .iload 6, 6, 0, 0, 0, 0, 0), (68, .ior, 0, 0, 0, 0, 0, 0), (69, .istore_n 2, 2, 0, 0, 0, 0, 0), (70, .iinc 5 1, 5, 0, 0, 0, 0, 1), (73, .goto (-47), 26, 0, 0, 0, 0, 0), (76, .iinc 4 1, 4, 0, 0, 0, 0, 1), (79, .goto (-70), 9, 0, 0, 0, 0, 0), (82, .iload_n 2, 2, 0, 0, 0, 0, 0), (83, .ireturn, 0, 0, 0, 0, 0, 0)], [(9, [true, false, true, true, true, false, false]), (26, [true, false, true, true, true, true, false])])
-- X0_wordForAll
def k16 : pM := ([(0, .iconst 0, 0, 0, 0, 0, 0, 0), (1, .istore_n 2, 2, 0, 0, 0, 0, 0), (2, .iconst 0, 0, 0, 0, 0, 0, 0), (3, .istore_n 3, 3, 0, 0, 0, 0, 0), (4, .iload_n 3, 3, 0, 0, 0, 0, 0), (5, .aload_n 0, 0, 0, 0, 0, 0, 0), (6, .getfield 11, 0, 0, 0, 0, 0, 0), (9, .iconst 2, 0, 0, 0, 0, 0, 2), (10, .iaload, 0, 0, 0, 0, 0, 0), (11, .if_icmp .ge 28, 39, 0, 0, 0, 0, 0), (14, .aload_n 0, 0, 0, 0, 0, 0, 0), (15, .getfield 30, 0, 6, 0, 0, 0, 0), (18, .iload_n 3, 3, 0, 0, 0, 0, 0), (19, .iaload, 0, 0, 0, 0, 0, 0), (20, .iload_n 1, 1, 0, 0, 0, 0, 0), (21, .if_icmp .ne 12, 33, 0, 0, 0, 0, 0), (24, .iload_n 2, 2, 0, 0, 0, 0, 0), (25, .aload_n 0, 0, 0, 0, 0, 0, 0), (26, .getfield 33, 0, 7, 0, 0, 0, 0), (29, .iload_n 3, 3, 0, 0, 0, 0, 0), (30, .iaload, 0, 0, 0, 0, 0, 0), (31, .ior, 0, 0, 0, 0, 0, 0), (32, .istore_n 2, 2, 0, 0, 0, 0, 0), (33, .iinc 3 1, 3, 0, 0, 0, 0, 1), (36, .goto (-32), 4, 0, 0, 0, 0, 0), (39, .iconst 0, 0, 0, 0, 0, 0, 0), (40, .istore_n 3, 3, 0, 0, 0, 0, 0), (41, .iload_n 3, 3, 0, 0, 0, 0, 0), (42, .aload_n 0, 0, 0, 0, 0, 0, 0), (43, .getfield 11, 0, 0, 0, 0, 0, 0), (46, .iconst 1, 0, 0, 0, 0, 0, 1), (47, .iaload, 0, 0, 0, 0, 0, 0), (48, .if_icmp .ge 24, 72, 0, 0, 0, 0, 0), (51, .iload_n 2, 2, 0, 0, 0, 0, 0), (52, .aload_n 0, 0, 0, 0, 0, 0, 0), (53, .getfield 27, 0, 5, 0, 0, 0, 0), (56, .iload_n 3, 3, 0, 0, 0, 0, 0), (57, .iaload, 0, 0, 0, 0, 0, 0), (58, .iconst (-1), 0, 0, 0, 0, 0, (-1)), (59, .ixor, 0, 0, 0, 0, 0, 0), (60, .iand, 0, 0, 0, 0, 0, 0), (61, .ifCond .ne 5, 66, 0, 0, 0, 0, 0), (64, .iload_n 3, 3, 0, 0, 0, 0, 0), (65, .ireturn, 0, 0, 0, 0, 0, 0), (66, .iinc 3 1, 3, 0, 0, 0, 0, 1), (69, .goto (-28), 41, 0, 0, 0, 0, 0), (72, .iconst (-1), 0, 0, 0, 0, 0, (-1)), (73, .ireturn, 0, 0, 0, 0, 0, 0)], [(4, [true, true, true, true]), (41, [true, false, true, true])])
-- X0_toldBack
def k17 : pM := ([(0, .iconst (-1), 0, 0, 0, 0, 0, (-1)), (1, .istore_n 2, 2, 0, 0, 0, 0, 0), (2, .iconst 0, 0, 0, 0, 0, 0, 0), (3, .istore_n 3, 3, 0, 0, 0, 0, 0), (4, .iconst 0, 0, 0, 0, 0, 0, 0), (5, .istore 4, 4, 0, 0, 0, 0, 0), (7, .iload 4, 4, 0, 0, 0, 0, 0), (9, .aload_n 0, 0, 0, 0, 0, 0, 0), (10, .getfield 11, 0, 0, 0, 0, 0, 0), (13, .iconst 0, 0, 0, 0, 0, 0, 0), (14, .iaload, 0, 0, 0, 0, 0, 0), (15, .if_icmp .ge 56, 71, 0, 0, 0, 0, 0), (18, .aload_n 0, 0, 0, 0, 0, 0, 0), (19, .getfield 24, 0, 4, 0, 0, 0, 0), (22, .iload 4, 4, 0, 0, 0, 0, 0), (24, .iaload, 0, 0, 0, 0, 0, 0), (25, .istore 5, 5, 0, 0, 0, 0, 0), (27, .iconst 2, 0, 0, 0, 0, 0, 2), (28, .aload_n 0, 0, 0, 0, 0, 0, 0), (29, .iload 5, 5, 0, 0, 0, 0, 0), (31, .iload_n 1, 1, 0, 0, 0, 0, 0), (32, .iand, 0, 0, 0, 0, 0, 0), (33, .invokevirtual 80, 8, 2, 2, 1, 1, 0), (36, .imul, 0, 0, 0, 0, 0, 0), (37, .aload_n 0, 0, 0, 0, 0, 0, 0), (38, .iload 5, 5, 0, 0, 0, 0, 0), (40, .iload_n 1, 1, 0, 0, 0, 0, 0), (41, .ixor, 0, 0, 0, 0, 0, 0), (42, .invokevirtual 80, 8, 2, 2, 1, 1, 0), (45, .isub, 0, 0, 0, 0, 0, 0), (46, .istore 6, 6, 0, 0, 0, 0, 0), (48, .iload_n 2, 2, 0, 0, 0, 0, 0), (49, .iconst (-1), 0, 0, 0, 0, 0, (-1)), (50, .if_icmp .eq 9, 59, 0, 0, 0, 0, 0), (53, .iload 6, 6, 0, 0, 0, 0, 0), (55, .iload_n 3, 3, 0, 0, 0, 0, 0), (56, .if_icmp .le 9, 65, 0, 0, 0, 0, 0), (59, .iload 4, 4, 0, 0, 0, 0, 0), (61, .istore_n 2, 2, 0, 0, 0, 0, 0), (62, .iload 6, 6, 0, 0, 0, 0, 0), (64, .istore_n 3, 3, 0, 0, 0, 0, 0), (65, .iinc 4 1, 4, 0, 0, 0, 0, 1), (68, .goto (-61), 7, 0, 0, 0, 0, 0), (71, .iload_n 2, 2, 0, 0, 0, 0, 0), (72, .ireturn, 0, 0, 0, 0, 0, 0)], [(7, [true, true, true, true, true, false, false])])
-- X0_traitsSaidFor
def k18 : pM := ([(0, .iconst 0, 0, 0, 0, 0, 0, 0), (1, .istore_n 2, 2, 0, 0, 0, 0, 0), (2, .iconst (-1), 0, 0, 0, 0, 0, (-1)), (3, .istore_n 3, 3, 0, 0, 0, 0, 0), (4, .iconst 0, 0, 0, 0, 0, 0, 0), (5, .istore 4, 4, 0, 0, 0, 0, 0), (7, .iload 4, 4, 0, 0, 0, 0, 0), (9, .aload_n 0, 0, 0, 0, 0, 0, 0), (10, .getfield 11, 0, 0, 0, 0, 0, 0), (13, .iconst 1, 0, 0, 0, 0, 0, 1), (14, .iaload, 0, 0, 0, 0, 0, 0), (15, .if_icmp .ge 95, 110, 0, 0, 0, 0, 0), (18, .aload_n 0, 0, 0, 0, 0, 0, 0), (19, .iconst 0, 0, 0, 0, 0, 0, 0), (20, .iload_n 1, 1, 0, 0, 0, 0, 0), (21, .invokevirtual 86, 3, 3, 2, 1, 1, 0), (24, .ifCond .eq 86, 110, 0, 0, 0, 0, 0), (27, .aload_n 0, 0, 0, 0, 0, 0, 0), (28, .iconst 5, 0, 0, 0, 0, 0, 5), (29, .invokevirtual 73, 4, 2, 2, 1, 1, 0), (32, .aload_n 0, 0, 0, 0, 0, 0, 0), (33, .aload_n 0, 0, 0, 0, 0, 0, 0), (34, .getfield 24, 0, 4, 0, 0, 0, 0), (37, .iload_n 1, 1, 0, 0, 0, 0, 0), (38, .iaload, 0, 0, 0, 0, 0, 0), (39, .aload_n 0, 0, 0, 0, 0, 0, 0), (40, .getfield 27, 0, 5, 0, 0, 0, 0), (43, .iload 4, 4, 0, 0, 0, 0, 0), (45, .iaload, 0, 0, 0, 0, 0, 0), (46, .iconst (-1), 0, 0, 0, 0, 0, (-1)), (47, .ixor, 0, 0, 0, 0, 0, 0), (48, .iand, 0, 0, 0, 0, 0, 0), (49, .invokevirtual 80, 8, 2, 2, 1, 1, 0), (52, .imul, 0, 0, 0, 0, 0, 0), (53, .aload_n 0, 0, 0, 0, 0, 0, 0), (54, .bipush 6, 0, 0, 0, 0, 0, 6), (56, .invokevirtual 73, 4, 2, 2, 1, 1, 0), (59, .aload_n 0, 0, 0, 0, 0, 0, 0), (60, .aload_n 0, 0, 0, 0, 0, 0, 0), (61, .getfield 27, 0, 5, 0, 0, 0, 0), (64, .iload 4, 4, 0, 0, 0, 0, 0), (66, .iaload, 0, 0, 0, 0, 0, 0), (67, .aload_n 0, 0, 0, 0, 0, 0, 0), (68, .getfield 24, 0, 4, 0, 0, 0, 0), (71, .iload_n 1, 1, 0, 0, 0, 0, 0), (72, .iaload, 0, 0, 0, 0, 0, 0), (73, .iconst (-1), 0, 0, 0, 0, 0, (-1)), (74, .ixor, 0, 0, 0, 0, 0, 0), (75, .iand, 0, 0, 0, 0, 0, 0), (76, .invokevirtual 80, 8, 2, 2, 1, 1, 0), (79, .imul, 0, 0, 0, 0, 0, 0), (80, .iadd, 0, 0, 0, 0, 0, 0), (81, .istore 5, 5, 0, 0, 0, 0, 0), (83, .iload_n 3, 3, 0, 0, 0, 0, 0), (84, .ifCond .lt 9, 93, 0, 0, 0, 0, 0), (87, .iload 5, 5, 0, 0, 0, 0, 0), (89, .iload_n 3, 3, 0, 0, 0, 0, 0), (90, .if_icmp .ge 14, 104, 0, 0, 0, 0, 0), (93, .iload 5, 5, 0, 0, 0, 0, 0), (95, .istore_n 3, 3, 0, 0, 0, 0, 0), (96, .aload_n 0, 0, 0, 0, 0, 0, 0), (97, .getfield 27, 0, 5, 0, 0, 0, 0), (100, .iload 4, 4, 0, 0, 0, 0, 0), (102, .iaload, 0, 0, 0, 0, 0, 0), (103, .istore_n 2, 2, 0, 0, 0, 0, 0), (104, .iinc 4 1, 4, 0, 0, 0, 0, 1), (107, .goto (-100), 7, 0, 0, 0, 0, 0), (110, .iload_n 2, 2, 0, 0, 0, 0, 0), (111, .ireturn, 0, 0, 0, 0, 0, 0)], [(7, [true, true, true, true, true, false])])
-- X1_clear
def k19 : pM := ([(0, .aload_n 0, 0, 0, 0, 0, 0, 0), (1, .getfield 11, 1, 0, 0, 0, 0, 0), (4, .iconst 0, 0, 0, 0, 0, 0, 0), (5, .invokestatic 15, 244, 2, 2, 0, 0, 0), (8, .return_, 0, 0, 0, 0, 0, 0)], [])
-- X1_indexOf
def k20 : pM := ([(0, .iload_n 1, 1, 0, 0, 0, 0, 0), (1, .bipush 20, 0, 0, 0, 0, 0, 20), (3, .imul, 0, 0, 0, 0, 0, 0), (4, .iload_n 2, 2, 0, 0, 0, 0, 0), (5, .iadd, 0, 0, 0, 0, 0, 0), (6, .iconst 4, 0, 0, 0, 0, 0, 4), (7, .imul, 0, 0, 0, 0, 0, 0), (8, .iload_n 0, 0, 0, 0, 0, 0, 0), (9, .iadd, 0, 0, 0, 0, 0, 0), (10, .ireturn, 0, 0, 0, 0, 0, 0)], [])
-- X1_put
def k21 : pM := ([(0, .iload_n 1, 1, 0, 0, 0, 0, 0), (1, .iload_n 2, 2, 0, 0, 0, 0, 0), (2, .iload_n 3, 3, 0, 0, 0, 0, 0), (3, .invokestatic 21, 20, 3, 2, 0, 1, 0), (6, .istore 5, 5, 0, 0, 0, 0, 0), (8, .aload_n 0, 0, 0, 0, 0, 0, 0), (9, .getfield 11, 1, 0, 0, 0, 0, 0), (12, .iload 5, 5, 0, 0, 0, 0, 0), (14, .baload, 0, 0, 0, 0, 0, 0), (15, .istore 6, 6, 0, 0, 0, 0, 0), (17, .aload_n 0, 0, 0, 0, 0, 0, 0), (18, .getfield 11, 1, 0, 0, 0, 0, 0), (21, .iload 5, 5, 0, 0, 0, 0, 0), (23, .iload 4, 4, 0, 0, 0, 0, 0), (25, .i2b, 0, 0, 0, 0, 0, 0), (26, .bastore, 0, 0, 0, 0, 0, 0), (27, .iload 6, 6, 0, 0, 0, 0, 0), (29, .ireturn, 0, 0, 0, 0, 0, 0)], [])
-- X1_agreed
def k22 : pM := ([(0, .iconst (-1), 0, 0, 0, 0, 0, (-1)), (1, .istore_n 3, 3, 0, 0, 0, 0, 0), (2, .iconst 0, 0, 0, 0, 0, 0, 0), (3, .istore 4, 4, 0, 0, 0, 0, 0), (5, .iconst 0, 0, 0, 0, 0, 0, 0), (6, .istore 5, 5, 0, 0, 0, 0, 0), (8, .iload 5, 5, 0, 0, 0, 0, 0), (10, .iload_n 2, 2, 0, 0, 0, 0, 0), (11, .if_icmp .ge 37, 48, 0, 0, 0, 0, 0), (14, .aload_n 0, 0, 0, 0, 0, 0, 0), (15, .iload_n 1, 1, 0, 0, 0, 0, 0), (16, .iload 5, 5, 0, 0, 0, 0, 0), (18, .invokevirtual 25, 23, 3, 3, 2, 1, 0), (21, .istore 6, 6, 0, 0, 0, 0, 0), (23, .iload_n 3, 3, 0, 0, 0, 0, 0), (24, .iconst (-1), 0, 0, 0, 0, 0, (-1)), (25, .if_icmp .eq 10, 35, 0, 0, 0, 0, 0), (28, .iload 6, 6, 0, 0, 0, 0, 0), (30, .iload 4, 4, 0, 0, 0, 0, 0), (32, .if_icmp .ge 10, 42, 0, 0, 0, 0, 0), (35, .iload 5, 5, 0, 0, 0, 0, 0), (37, .istore_n 3, 3, 0, 0, 0, 0, 0), (38, .iload 6, 6, 0, 0, 0, 0, 0), (40, .istore 4, 4, 0, 0, 0, 0, 0), (42, .iinc 5 1, 5, 0, 0, 0, 0, 1), (45, .goto (-37), 8, 0, 0, 0, 0, 0), (48, .iload_n 3, 3, 0, 0, 0, 0, 0), (49, .ireturn, 0, 0, 0, 0, 0, 0)], [(8, [true, true, true, true, true, true, false])])
-- X1_costOf
def k23 : pM := ([(0, .iconst 0, 0, 0, 0, 0, 0, 0), (1, .istore_n 3, 3, 0, 0, 0, 0, 0), (2, .iconst 0, 0, 0, 0, 0, 0, 0), (3, .istore 4, 4, 0, 0, 0, 0, 0), (5, .iconst 0, 0, 0, 0, 0, 0, 0), (6, .istore 5, 5, 0, 0, 0, 0, 0), (8, .iload 5, 5, 0, 0, 0, 0, 0), (10, .iconst 4, 0, 0, 0, 0, 0, 4), (11, .if_icmp .ge 37, 48, 0, 0, 0, 0, 0), (14, .aload_n 0, 0, 0, 0, 0, 0, 0), (15, .getfield 11, 1, 0, 0, 0, 0, 0), (18, .iload 5, 5, 0, 0, 0, 0, 0), (20, .iload_n 1, 1, 0, 0, 0, 0, 0), (21, .iload_n 2, 2, 0, 0, 0, 0, 0), (22, .invokestatic 21, 20, 3, 2, 0, 1, 0), (25, .baload, 0, 0, 0, 0, 0, 0), (26, .istore 6, 6, 0, 0, 0, 0, 0), (28, .iload_n 3, 3, 0, 0, 0, 0, 0), (29, .iload 6, 6, 0, 0, 0, 0, 0), (31, .invokestatic 29, 0, 1, 0, 0, 0, 0), (34, .istore_n 3, 3, 0, 0, 0, 0, 0), (35, .iload 4, 4, 0, 0, 0, 0, 0), (37, .iload 6, 6, 0, 0, 0, 0, 0), (39, .iadd, 0, 0, 0, 0, 0, 0), (40, .istore 4, 4, 0, 0, 0, 0, 0), (42, .iinc 5 1, 5, 0, 0, 0, 0, 1), (45, .goto (-37), 8, 0, 0, 0, 0, 0), (48, .iload_n 3, 3, 0, 0, 0, 0, 0), (49, .sipush 1000, 0, 0, 0, 0, 0, 1000), (52, .imul, 0, 0, 0, 0, 0, 0), (53, .iload 4, 4, 0, 0, 0, 0, 0), (55, .iadd, 0, 0, 0, 0, 0, 0), (56, .ireturn, 0, 0, 0, 0, 0, 0)], [(8, [true, true, true, true, true, true, false])])
-- X2_clear
def k24 : pM := ([(0, .aload_n 0, 0, 0, 0, 0, 0, 0), (1, .iconst 0, 0, 0, 0, 0, 0, 0), (2, .putfield 42, 2, 12, 0, 0, 0, 0), (5, .aload_n 0, 0, 0, 0, 0, 0, 0), (6, .iconst 0, 0, 0, 0, 0, 0, 0), (7, .putfield 46, 2, 13, 0, 0, 0, 0), (10, .aload_n 0, 0, 0, 0, 0, 0, 0), (11, .iconst 0, 0, 0, 0, 0, 0, 0), (12, .putfield 49, 2, 11, 0, 0, 0, 0), (15, .return_, 0, 0, 0, 0, 0, 0)], [])
-- X2_mayTell
def k25 : pM := ([(0, .iload_n 1, 1, 0, 0, 0, 0, 0), (1, .aload_n 0, 0, 0, 0, 0, 0, 0), (2, .getfield 49, 2, 11, 0, 0, 0, 0), (5, .if_icmp .lt 23, 28, 0, 0, 0, 0, 0), (8, .iload_n 1, 1, 0, 0, 0, 0, 0), (9, .sipush 999, 0, 0, 0, 0, 0, 999), (12, .if_icmp .gt 16, 28, 0, 0, 0, 0, 0), (15, .iload_n 2, 2, 0, 0, 0, 0, 0), (16, .ifCond .lt 12, 28, 0, 0, 0, 0, 0), (19, .iload_n 2, 2, 0, 0, 0, 0, 0), (20, .iconst 1, 0, 0, 0, 0, 0, 1), (21, .if_icmp .gt 7, 28, 0, 0, 0, 0, 0), (24, .iconst 1, 0, 0, 0, 0, 0, 1), (25, .goto 4, 29, 0, 0, 0, 0, 0), (28, .iconst 0, 0, 0, 0, 0, 0, 0), (29, .ireturn, 1, 0, 0, 0, 0, 0)], [])
-- X2_isFull
def k26 : pM := ([(0, .aload_n 0, 0, 0, 0, 0, 0, 0), (1, .getfield 42, 2, 12, 0, 0, 0, 0), (4, .bipush 30, 0, 0, 0, 0, 0, 30), (6, .if_icmp .lt 7, 13, 0, 0, 0, 0, 0), (9, .iconst 1, 0, 0, 0, 0, 0, 1), (10, .goto 4, 14, 0, 0, 0, 0, 0), (13, .iconst 0, 0, 0, 0, 0, 0, 0), (14, .ireturn, 1, 0, 0, 0, 0, 0)], [])
-- X2_isFullOfRights
def k27 : pM := ([(0, .aload_n 0, 0, 0, 0, 0, 0, 0), (1, .getfield 46, 2, 13, 0, 0, 0, 0), (4, .bipush 20, 0, 0, 0, 0, 0, 20), (6, .if_icmp .lt 7, 13, 0, 0, 0, 0, 0), (9, .iconst 1, 0, 0, 0, 0, 0, 1), (10, .goto 4, 14, 0, 0, 0, 0, 0), (13, .iconst 0, 0, 0, 0, 0, 0, 0), (14, .ireturn, 1, 0, 0, 0, 0, 0)], [])
-- X2_append
def k28 : pM := ([(0, .aload_n 0, 0, 0, 0, 0, 0, 0), (1, .getfield 42, 2, 12, 0, 0, 0, 0), (4, .istore 5, 5, 0, 0, 0, 0, 0), (6, .iload 5, 5, 0, 0, 0, 0, 0), (8, .bipush 30, 0, 0, 0, 0, 0, 30), (10, .if_icmp .ge 59, 69, 0, 0, 0, 0, 0), (13, .aload_n 0, 0, 0, 0, 0, 0, 0), (14, .getfield 11, 2, 0, 0, 0, 0, 0), (17, .iload 5, 5, 0, 0, 0, 0, 0), (19, .iload_n 2, 2, 0, 0, 0, 0, 0), (20, .iastore, 0, 0, 0, 0, 0, 0), (21, .aload_n 0, 0, 0, 0, 0, 0, 0), (22, .getfield 15, 2, 1, 0, 0, 0, 0), (25, .iload 5, 5, 0, 0, 0, 0, 0), (27, .iload_n 3, 3, 0, 0, 0, 0, 0), (28, .iastore, 0, 0, 0, 0, 0, 0), (29, .aload_n 0, 0, 0, 0, 0, 0, 0), (30, .getfield 18, 2, 2, 0, 0, 0, 0), (33, .iload 5, 5, 0, 0, 0, 0, 0), (35, .iload 4, 4, 0, 0, 0, 0, 0), (37, .iastore, 0, 0, 0, 0, 0, 0), (38, .aload_n 0, 0, 0, 0, 0, 0, 0), (39, .getfield 21, 2, 3, 0, 0, 0, 0), (42, .iload 5, 5, 0, 0, 0, 0, 0), (44, .iload_n 1, 1, 0, 0, 0, 0, 0), (45, .iastore, 0, 0, 0, 0, 0, 0), (46, .aload_n 0, 0, 0, 0, 0, 0, 0), (47, .getfield 24, 2, 4, 0, 0, 0, 0), (50, .iload 5, 5, 0, 0, 0, 0, 0), (52, .iconst 0, 0, 0, 0, 0, 0, 0), (53, .iastore, 0, 0, 0, 0, 0, 0), (54, .aload_n 0, 0, 0, 0, 0, 0, 0), (55, .iload_n 1, 1, 0, 0, 0, 0, 0), (56, .putfield 49, 2, 11, 0, 0, 0, 0), (59, .aload_n 0, 0, 0, 0, 0, 0, 0), (60, .dup, 0, 0, 0, 0, 0, 0), (61, .getfield 42, 2, 12, 0, 0, 0, 0), (64, .iconst 1, 0, 0, 0, 0, 0, 1), (65, .iadd, 0, 0, 0, 0, 0, 0), (66, .putfield 42, 2, 12, 0, 0, 0, 0), (69, .iload 5, 5, 0, 0, 0, 0, 0), (71, .ireturn, 0, 0, 0, 0, 0, 0)], [])
-- X2_putRight
def k29 : pM := ([(0, .aload_n 0, 0, 0, 0, 0, 0, 0), (1, .getfield 46, 2, 13, 0, 0, 0, 0), (4, .bipush 20, 0, 0, 0, 0, 0, 20), (6, .if_icmp .ge 58, 64, 0, 0, 0, 0, 0), (9, .aload_n 0, 0, 0, 0, 0, 0, 0), (10, .getfield 27, 2, 5, 0, 0, 0, 0), (13, .aload_n 0, 0, 0, 0, 0, 0, 0), (14, .getfield 46, 2, 13, 0, 0, 0, 0), (17, .iload_n 2, 2, 0, 0, 0, 0, 0), (18, .iastore, 0, 0, 0, 0, 0, 0), (19, .aload_n 0, 0, 0, 0, 0, 0, 0), (20, .getfield 30, 2, 6, 0, 0, 0, 0), (23, .aload_n 0, 0, 0, 0, 0, 0, 0), (24, .getfield 46, 2, 13, 0, 0, 0, 0), (27, .iload_n 3, 3, 0, 0, 0, 0, 0), (28, .iastore, 0, 0, 0, 0, 0, 0), (29, .aload_n 0, 0, 0, 0, 0, 0, 0), (30, .getfield 33, 2, 7, 0, 0, 0, 0), (33, .aload_n 0, 0, 0, 0, 0, 0, 0), (34, .getfield 46, 2, 13, 0, 0, 0, 0), (37, .iload_n 1, 1, 0, 0, 0, 0, 0), (38, .iastore, 0, 0, 0, 0, 0, 0), (39, .aload_n 0, 0, 0, 0, 0, 0, 0), (40, .iload_n 1, 1, 0, 0, 0, 0, 0), (41, .putfield 49, 2, 11, 0, 0, 0, 0), (44, .aload_n 0, 0, 0, 0, 0, 0, 0), (45, .getfield 24, 2, 4, 0, 0, 0, 0), (48, .iload_n 2, 2, 0, 0, 0, 0, 0), (49, .dup2, 0, 0, 0, 0, 0, 0), (50, .iaload, 0, 0, 0, 0, 0, 0), (51, .iconst 1, 0, 0, 0, 0, 0, 1), (52, .iadd, 0, 0, 0, 0, 0, 0), (53, .iastore, 0, 0, 0, 0, 0, 0), (54, .aload_n 0, 0, 0, 0, 0, 0, 0), (55, .dup, 0, 0, 0, 0, 0, 0), (56, .getfield 46, 2, 13, 0, 0, 0, 0), (59, .iconst 1, 0, 0, 0, 0, 0, 1), (60, .iadd, 0, 0, 0, 0, 0, 0), (61, .putfield 46, 2, 13, 0, 0, 0, 0), (64, .aload_n 0, 0, 0, 0, 0, 0, 0), (65, .getfield 24, 2, 4, 0, 0, 0, 0), (68, .iload_n 2, 2, 0, 0, 0, 0, 0), (69, .iaload, 0, 0, 0, 0, 0, 0), (70, .ireturn, 0, 0, 0, 0, 0, 0)], [])
-- X2_gather
def k30 : pM := ([(0, .aload_n 0, 0, 0, 0, 0, 0, 0), (1, .getfield 18, 2, 2, 0, 0, 0, 0), (4, .iconst 0, 0, 0, 0, 0, 0, 0), (5, .aload_n 0, 0, 0, 0, 0, 0, 0), (6, .getfield 36, 2, 8, 0, 0, 0, 0), (9, .iconst 0, 0, 0, 0, 0, 0, 0), (10, .bipush 30, 0, 0, 0, 0, 0, 30), (12, .invokestatic 52, 0, 0, 0, 0, 0, 0), (15, .iconst 0, 0, 0, 0, 0, 0, 0), (16, .istore_n 3, 3, 0, 0, 0, 0, 0), (17, .iload_n 3, 3, 0, 0, 0, 0, 0), (18, .aload_n 0, 0, 0, 0, 0, 0, 0), (19, .getfield 46, 2, 13, 0, 0, 0, 0), (22, .if_icmp .ge 36, 58, 0, 0, 0, 0, 0), (25, .aload_n 0, 0, 0, 0, 0, 0, 0), (26, .getfield 33, 2, 7, 0, 0, 0, 0), (29, .iload_n 3, 3, 0, 0, 0, 0, 0), (30, .iaload, 0, 0, 0, 0, 0, 0), (31, .iload_n 2, 2, 0, 0, 0, 0, 0), (32, .if_icmp .gt 20, 52, 0, 0, 0, 0, 0), (35, .aload_n 0, 0, 0, 0, 0, 0, 0), (36, .getfield 36, 2, 8, 0, 0, 0, 0), (39, .aload_n 0, 0, 0, 0, 0, 0, 0), (40, .getfield 27, 2, 5, 0, 0, 0, 0), (43, .iload_n 3, 3, 0, 0, 0, 0, 0), (44, .iaload, 0, 0, 0, 0, 0, 0), (45, .aload_n 0, 0, 0, 0, 0, 0, 0), (46, .getfield 30, 2, 6, 0, 0, 0, 0), (49, .iload_n 3, 3, 0, 0, 0, 0, 0), (50, .iaload, 0, 0, 0, 0, 0, 0), (51, .iastore, 0, 0, 0, 0, 0, 0), (52, .iinc 3 1, 3, 0, 0, 0, 0, 1), (55, .goto (-38), 17, 0, 0, 0, 0, 0), (58, .aload_n 0, 0, 0, 0, 0, 0, 0), (59, .iconst 0, 0, 0, 0, 0, 0, 0), (60, .putfield 58, 2, 10, 0, 0, 0, 0), (63, .iconst 0, 0, 0, 0, 0, 0, 0), (64, .istore_n 3, 3, 0, 0, 0, 0, 0), (65, .iload_n 3, 3, 0, 0, 0, 0, 0), (66, .bipush 24, 0, 0, 0, 0, 0, 24), (68, .if_icmp .ge 77, 145, 0, 0, 0, 0, 0), (71, .iload_n 3, 3, 0, 0, 0, 0, 0), (72, .istore 4, 4, 0, 0, 0, 0, 0), (74, .iload 4, 4, 0, 0, 0, 0, 0), (76, .bipush 24, 0, 0, 0, 0, 0, 24), (78, .if_icmp .ge 61, 139, 0, 0, 0, 0, 0), (81, .iconst 1, 0, 0, 0, 0, 0, 1), (82, .iload_n 3, 3, 0, 0, 0, 0, 0), (83, .ishl, 0, 0, 0, 0, 0, 0), (84, .iconst 1, 0, 0, 0, 0, 0, 1), (85, .iload 4, 4, 0, 0, 0, 0, 0), (87, .ishl, 0, 0, 0, 0, 0, 0), (88, .ior, 0, 0, 0, 0, 0, 0), (89, .istore 5, 5, 0, 0, 0, 0, 0), (91, .aload_n 0, 0, 0, 0, 0, 0, 0), (92, .iload 5, 5, 0, 0, 0, 0, 0), (94, .iload_n 1, 1, 0, 0, 0, 0, 0), (95, .iload_n 2, 2, 0, 0, 0, 0, 0), (96, .invokevirtual 61, 31, 4, 2, 3, 1, 0), (99, .ifCond .eq 34, 133, 0, 0, 0, 0, 0), (102, .aload_n 0, 0, 0, 0, 0, 0, 0), (103, .getfield 58, 2, 10, 0, 0, 0, 0), (106, .sipush 300, 0, 0, 0, 0, 0, 300), (109, .if_icmp .ge 24, 133, 0, 0, 0, 0, 0), (112, .aload_n 0, 0, 0, 0, 0, 0, 0), (113, .getfield 39, 2, 9, 0, 0, 0, 0), (116, .aload_n 0, 0, 0, 0, 0, 0, 0), (117, .getfield 58, 2, 10, 0, 0, 0, 0), (120, .iload 5, 5, 0, 0, 0, 0, 0), (122, .iastore, 0, 0, 0, 0, 0, 0), (123, .aload_n 0, 0, 0, 0, 0, 0, 0), (124, .dup, 0, 0, 0, 0, 0, 0), (125, .getfield 58, 2, 10, 0, 0, 0, 0), (128, .iconst 1, 0, 0, 0, 0, 0, 1), (129, .iadd, 0, 0, 0, 0, 0, 0), (130, .putfield 58, 2, 10, 0, 0, 0, 0), (133, .iinc 4 1, 4, 0, 0, 0, 0, 1), (136, .goto (-62), 74, 0, 0, 0, 0, 0), (139, .iinc 3 1, 3, 0, 0, 0, 0, 1), (142, .goto (-77), 65, 0, 0, 0, 0, 0), (145, .aload_n 0, 0, 0, 0, 0, 0, 0), (146, .getfield 58, 2, 10, 0, 0, 0, 0), (149, .ireturn, 0, 0, 0, 0, 0, 0)], [(17, [true, true, true, true, false, false]), (65, [true, true, true, true, false, false]), (74, [true, true, true, true, true, false])])
-- X2_fitsAll
def k31 : pM := ([(0, .iconst 0, 0, 0, 0, 0, 0, 0), (1, .istore 4, 4, 0, 0, 0, 0, 0), (3, .iload 4, 4, 0, 0, 0, 0, 0), (5, .aload_n 0, 0, 0, 0, 0, 0, 0), (6, .getfield 42, 2, 12, 0, 0, 0, 0), (9, .if_icmp .ge 66, 75, 0, 0, 0, 0, 0), (12, .aload_n 0, 0, 0, 0, 0, 0, 0), (13, .getfield 11, 2, 0, 0, 0, 0, 0), (16, .iload 4, 4, 0, 0, 0, 0, 0), (18, .iaload, 0, 0, 0, 0, 0, 0), (19, .iload_n 2, 2, 0, 0, 0, 0, 0), (20, .if_icmp .ne 49, 69, 0, 0, 0, 0, 0), (23, .aload_n 0, 0, 0, 0, 0, 0, 0), (24, .getfield 21, 2, 3, 0, 0, 0, 0), (27, .iload 4, 4, 0, 0, 0, 0, 0), (29, .iaload, 0, 0, 0, 0, 0, 0), (30, .iload_n 3, 3, 0, 0, 0, 0, 0), (31, .if_icmp .gt 38, 69, 0, 0, 0, 0, 0), (34, .iload_n 1, 1, 0, 0, 0, 0, 0), (35, .aload_n 0, 0, 0, 0, 0, 0, 0), (36, .getfield 15, 2, 1, 0, 0, 0, 0), (39, .iload 4, 4, 0, 0, 0, 0, 0), (41, .iaload, 0, 0, 0, 0, 0, 0), (42, .iconst (-1), 0, 0, 0, 0, 0, (-1)), (43, .ixor, 0, 0, 0, 0, 0, 0), (44, .iand, 0, 0, 0, 0, 0, 0), (45, .ifCond .ne 7, 52, 0, 0, 0, 0, 0), (48, .iconst 1, 0, 0, 0, 0, 0, 1), (49, .goto 4, 53, 0, 0, 0, 0, 0), (52, .iconst 0, 0, 0, 0, 0, 0, 0), (53, .istore 5, 5, 0, 0, 0, 0, 0), (55, .iload 5, 5, 0, 0, 0, 0, 0), (57, .aload_n 0, 0, 0, 0, 0, 0, 0), (58, .getfield 36, 2, 8, 0, 0, 0, 0), (61, .iload 4, 4, 0, 0, 0, 0, 0), (63, .iaload, 0, 0, 0, 0, 0, 0), (64, .if_icmp .eq 5, 69, 0, 0, 0, 0, 0), (67, .iconst 0, 0, 0, 0, 0, 0, 0), (68, .ireturn, 1, 0, 0, 0, 0, 0), (69, .iinc 4 1, 4, 0, 0, 0, 0, 1), (72, .goto (-69), 3, 0, 0, 0, 0, 0), (75, .iconst 1, 0, 0, 0, 0, 0, 1), (76, .ireturn, 1, 0, 0, 0, 0, 0)], [(3, [true, true, true, true, true, false])])
-- X2_setsWith
def k32 : pM := ([(0, .iconst 0, 0, 0, 0, 0, 0, 0), (1, .istore_n 2, 2, 0, 0, 0, 0, 0), (2, .iconst 0, 0, 0, 0, 0, 0, 0), (3, .istore_n 3, 3, 0, 0, 0, 0, 0), (4, .iload_n 3, 3, 0, 0, 0, 0, 0), (5, .aload_n 0, 0, 0, 0, 0, 0, 0), (6, .getfield 58, 2, 10, 0, 0, 0, 0), (9, .if_icmp .ge 28, 37, 0, 0, 0, 0, 0), (12, .iload_n 2, 2, 0, 0, 0, 0, 0), (13, .aload_n 0, 0, 0, 0, 0, 0, 0), (14, .getfield 39, 2, 9, 0, 0, 0, 0), (17, .iload_n 3, 3, 0, 0, 0, 0, 0), (18, .iaload, 0, 0, 0, 0, 0, 0), (19, .iload_n 1, 1, 0, 0, 0, 0, 0), (20, .iand, 0, 0, 0, 0, 0, 0), (21, .ifCond .eq 7, 28, 0, 0, 0, 0, 0), (24, .iconst 1, 0, 0, 0, 0, 0, 1), (25, .goto 4, 29, 0, 0, 0, 0, 0), (28, .iconst 0, 0, 0, 0, 0, 0, 0), (29, .iadd, 0, 0, 0, 0, 0, 0), (30, .istore_n 2, 2, 0, 0, 0, 0, 0), (31, .iinc 3 1, 3, 0, 0, 0, 0, 1), (34, .goto (-30), 4, 0, 0, 0, 0, 0), (37, .iload_n 2, 2, 0, 0, 0, 0, 0), (38, .ireturn, 0, 0, 0, 0, 0, 0)], [(4, [true, true, true, true])])
-- X2_setsWithin
def k33 : pM := ([(0, .iconst 0, 0, 0, 0, 0, 0, 0), (1, .istore_n 2, 2, 0, 0, 0, 0, 0), (2, .iconst 0, 0, 0, 0, 0, 0, 0), (3, .istore_n 3, 3, 0, 0, 0, 0, 0), (4, .iload_n 3, 3, 0, 0, 0, 0, 0), (5, .aload_n 0, 0, 0, 0, 0, 0, 0), (6, .getfield 58, 2, 10, 0, 0, 0, 0), (9, .if_icmp .ge 30, 39, 0, 0, 0, 0, 0), (12, .iload_n 2, 2, 0, 0, 0, 0, 0), (13, .aload_n 0, 0, 0, 0, 0, 0, 0), (14, .getfield 39, 2, 9, 0, 0, 0, 0), (17, .iload_n 3, 3, 0, 0, 0, 0, 0), (18, .iaload, 0, 0, 0, 0, 0, 0), (19, .iload_n 1, 1, 0, 0, 0, 0, 0), (20, .iconst (-1), 0, 0, 0, 0, 0, (-1)), (21, .ixor, 0, 0, 0, 0, 0, 0), (22, .iand, 0, 0, 0, 0, 0, 0), (23, .ifCond .ne 7, 30, 0, 0, 0, 0, 0), (26, .iconst 1, 0, 0, 0, 0, 0, 1), (27, .goto 4, 31, 0, 0, 0, 0, 0), (30, .iconst 0, 0, 0, 0, 0, 0, 0), (31, .iadd, 0, 0, 0, 0, 0, 0), (32, .istore_n 2, 2, 0, 0, 0, 0, 0), (33, .iinc 3 1, 3, 0, 0, 0, 0, 1), (36, .goto (-32), 4, 0, 0, 0, 0, 0), (39, .iload_n 2, 2, 0, 0, 0, 0, 0), (40, .ireturn, 0, 0, 0, 0, 0, 0)], [(4, [true, true, true, true])])
-- X3_append
def k34 : pM := ([(0, .aload_n 0, 0, 0, 0, 0, 0, 0), (1, .getfield 18, 3, 2, 0, 0, 0, 0), (4, .bipush 20, 0, 0, 0, 0, 0, 20), (6, .if_icmp .ge 33, 39, 0, 0, 0, 0, 0), (9, .aload_n 0, 0, 0, 0, 0, 0, 0), (10, .getfield 9, 3, 0, 0, 0, 0, 0), (13, .aload_n 0, 0, 0, 0, 0, 0, 0), (14, .getfield 18, 3, 2, 0, 0, 0, 0), (17, .iload_n 1, 1, 0, 0, 0, 0, 0), (18, .iastore, 0, 0, 0, 0, 0, 0), (19, .aload_n 0, 0, 0, 0, 0, 0, 0), (20, .getfield 15, 3, 1, 0, 0, 0, 0), (23, .aload_n 0, 0, 0, 0, 0, 0, 0), (24, .getfield 18, 3, 2, 0, 0, 0, 0), (27, .iload_n 2, 2, 0, 0, 0, 0, 0), (28, .iastore, 0, 0, 0, 0, 0, 0), (29, .aload_n 0, 0, 0, 0, 0, 0, 0), (30, .dup, 0, 0, 0, 0, 0, 0), (31, .getfield 18, 3, 2, 0, 0, 0, 0), (34, .iconst 1, 0, 0, 0, 0, 0, 1), (35, .iadd, 0, 0, 0, 0, 0, 0), (36, .putfield 18, 3, 2, 0, 0, 0, 0), (39, .return_, 0, 0, 0, 0, 0, 0)], [])
-- X3_find
def k35 : pM := ([(0, .iconst 0, 0, 0, 0, 0, 0, 0), (1, .istore 4, 4, 0, 0, 0, 0, 0), (3, .iload 4, 4, 0, 0, 0, 0, 0), (5, .aload_n 0, 0, 0, 0, 0, 0, 0), (6, .getfield 18, 3, 2, 0, 0, 0, 0), (9, .if_icmp .ge 51, 60, 0, 0, 0, 0, 0), (12, .aload_n 0, 0, 0, 0, 0, 0, 0), (13, .getfield 15, 3, 1, 0, 0, 0, 0), (16, .iload 4, 4, 0, 0, 0, 0, 0), (18, .iaload, 0, 0, 0, 0, 0, 0), (19, .aload_n 0, 0, 0, 0, 0, 0, 0), (20, .getfield 9, 3, 0, 0, 0, 0, 0), (23, .iload 4, 4, 0, 0, 0, 0, 0), (25, .iaload, 0, 0, 0, 0, 0, 0), (26, .isub, 0, 0, 0, 0, 0, 0), (27, .iload_n 3, 3, 0, 0, 0, 0, 0), (28, .iload_n 2, 2, 0, 0, 0, 0, 0), (29, .isub, 0, 0, 0, 0, 0, 0), (30, .if_icmp .ne 24, 54, 0, 0, 0, 0, 0), (33, .aload_n 1, 1, 0, 0, 0, 0, 0), (34, .aload_n 0, 0, 0, 0, 0, 0, 0), (35, .getfield 9, 3, 0, 0, 0, 0, 0), (38, .iload 4, 4, 0, 0, 0, 0, 0), (40, .iaload, 0, 0, 0, 0, 0, 0), (41, .iload_n 2, 2, 0, 0, 0, 0, 0), (42, .iload_n 3, 3, 0, 0, 0, 0, 0), (43, .iload_n 2, 2, 0, 0, 0, 0, 0), (44, .isub, 0, 0, 0, 0, 0, 0), (45, .invokestatic 22, 36, 4, 2, 0, 1, 0), (48, .ifCond .eq 6, 54, 0, 0, 0, 0, 0), (51, .iload 4, 4, 0, 0, 0, 0, 0), (53, .ireturn, 0, 0, 0, 0, 0, 0), (54, .iinc 4 1, 4, 0, 0, 0, 0, 1), (57, .goto (-54), 3, 0, 0, 0, 0, 0), (60, .iconst (-1), 0, 0, 0, 0, 0, (-1)), (61, .ireturn, 0, 0, 0, 0, 0, 0)], [(3, [true, true, true, true, true])])
-- X3_isSame
def k36 : pM := ([(0, .iconst 0, 0, 0, 0, 0, 0, 0), (1, .istore 4, 4, 0, 0, 0, 0, 0), (3, .iload 4, 4, 0, 0, 0, 0, 0), (5, .iload_n 3, 3, 0, 0, 0, 0, 0), (6, .if_icmp .ge 26, 32, 0, 0, 0, 0, 0), (9, .aload_n 0, 0, 0, 0, 0, 0, 0), (10, .iload_n 1, 1, 0, 0, 0, 0, 0), (11, .iload 4, 4, 0, 0, 0, 0, 0), (13, .iadd, 0, 0, 0, 0, 0, 0), (14, .baload, 0, 0, 0, 0, 0, 0), (15, .aload_n 0, 0, 0, 0, 0, 0, 0), (16, .iload_n 2, 2, 0, 0, 0, 0, 0), (17, .iload 4, 4, 0, 0, 0, 0, 0), (19, .iadd, 0, 0, 0, 0, 0, 0), (20, .baload, 0, 0, 0, 0, 0, 0), (21, .if_icmp .eq 5, 26, 0, 0, 0, 0, 0), (24, .iconst 0, 0, 0, 0, 0, 0, 0), (25, .ireturn, 1, 0, 0, 0, 0, 0), (26, .iinc 4 1, 4, 0, 0, 0, 0, 1), (29, .goto (-26), 3, 0, 0, 0, 0, 0), (32, .iconst 1, 0, 0, 0, 0, 0, 1), (33, .ireturn, 1, 0, 0, 0, 0, 0)], [(3, [true, true, true, true, true])])
-- X4_read
def k37 : pM := ([(0, .aload_n 0, 0, 0, 0, 0, 0, 0), (1, .aload_n 1, 1, 0, 0, 0, 0, 0), (2, .invokevirtual 42, 38, 2, 4, 5, 0, 0), (5, .iconst 0, 0, 0, 0, 0, 0, 0), (6, .istore_n 2, 2, 0, 0, 0, 0, 0), (7, .iload_n 2, 2, 0, 0, 0, 0, 0), (8, .sipush 1200, 0, 0, 0, 0, 0, 1200), (11, .if_icmp .gt 54, 65, 0, 0, 0, 0, 0), (14, .aload_n 0, 0, 0, 0, 0, 0, 0), (15, .invokevirtual 48, 39, 1, 3, 5, 0, 0), (18, .aload_n 0, 0, 0, 0, 0, 0, 0), (19, .getfield 51, 4, 10, 0, 0, 0, 0), (22, .bipush 69, 0, 0, 0, 0, 0, 69), (24, .if_icmp .ne 5, 29, 0, 0, 0, 0, 0), (27, .iload_n 2, 2, 0, 0, 0, 0, 0), (28, .ireturn, 0, 0, 0, 0, 0, 0), (29, .aload_n 0, 0, 0, 0, 0, 0, 0), (30, .invokevirtual 55, 44, 1, 3, 5, 1, 0), (33, .istore_n 3, 3, 0, 0, 0, 0, 0), (34, .aload_n 0, 0, 0, 0, 0, 0, 0), (35, .iload_n 3, 3, 0, 0, 0, 0, 0), (36, .invokevirtual 59, 42, 2, 3, 5, 1, 0), (39, .ifCond .eq 18, 57, 0, 0, 0, 0, 0), (42, .aload_n 0, 0, 0, 0, 0, 0, 0), (43, .iload_n 3, 3, 0, 0, 0, 0, 0), (44, .invokevirtual 63, 43, 2, 6, 5, 1, 0), (47, .ifCond .eq 10, 57, 0, 0, 0, 0, 0), (50, .aload_n 0, 0, 0, 0, 0, 0, 0), (51, .invokevirtual 66, 46, 1, 4, 5, 1, 0), (54, .ifCond .ne 5, 59, 0, 0, 0, 0, 0), (57, .iconst (-1), 0, 0, 0, 0, 0, (-1)), (58, .ireturn, 0, 0, 0, 0, 0, 0), (59, .iinc 2 1, 2, 0, 0, 0, 0, 1), (62, .goto (-55), 7, 0, 0, 0, 0, 0), (65, .iconst (-1), 0, 0, 0, 0, 0, (-1)), (66, .ireturn, 0, 0, 0, 0, 0, 0)], [(7, [true, false, true, false])])
-- X4_begin
def k38 : pM := ([(0, .aload_n 0, 0, 0, 0, 0, 0, 0), (1, .getfield 12, 4, 0, 0, 0, 0, 0), (4, .invokevirtual 70, 0, 1, 3, 1, 0, 0), (7, .aload_n 0, 0, 0, 0, 0, 0, 0), (8, .getfield 21, 4, 1, 0, 0, 0, 0), (11, .iconst 0, 0, 0, 0, 0, 0, 0), (12, .putfield 73, 3, 2, 0, 0, 0, 0), (15, .aload_n 0, 0, 0, 0, 0, 0, 0), (16, .getfield 25, 4, 2, 0, 0, 0, 0), (19, .iconst 0, 0, 0, 0, 0, 0, 0), (20, .putfield 73, 3, 2, 0, 0, 0, 0), (23, .aload_n 0, 0, 0, 0, 0, 0, 0), (24, .getfield 28, 4, 3, 0, 0, 0, 0), (27, .iconst 0, 0, 0, 0, 0, 0, 0), (28, .putfield 73, 3, 2, 0, 0, 0, 0), (31, .aload_n 0, 0, 0, 0, 0, 0, 0), (32, .iconst 0, 0, 0, 0, 0, 0, 0), (33, .putfield 31, 4, 4, 0, 0, 0, 0), (36, .aload_n 0, 0, 0, 0, 0, 0, 0), (37, .iconst (-1), 0, 0, 0, 0, 0, (-1)), (38, .putfield 35, 4, 5, 0, 0, 0, 0), (41, .aload_n 0, 0, 0, 0, 0, 0, 0), (42, .aload_n 1, 1, 0, 0, 0, 0, 0), (43, .getfield 76, 7, 0, 0, 0, 0, 0), (46, .putfield 38, 4, 6, 0, 0, 0, 0), (49, .aload_n 0, 0, 0, 0, 0, 0, 0), (50, .aload_n 1, 1, 0, 0, 0, 0, 0), (51, .getfield 79, 7, 1, 0, 0, 0, 0), (54, .putfield 82, 4, 7, 0, 0, 0, 0), (57, .aload_n 0, 0, 0, 0, 0, 0, 0), (58, .iconst 0, 0, 0, 0, 0, 0, 0), (59, .putfield 83, 4, 9, 0, 0, 0, 0), (62, .aload_n 0, 0, 0, 0, 0, 0, 0), (63, .iconst 0, 0, 0, 0, 0, 0, 0), (64, .putfield 86, 4, 13, 0, 0, 0, 0), (67, .return_, 0, 0, 0, 0, 0, 0)], [])
-- X4_advance
def k39 : pM := ([(0, .aload_n 0, 0, 0, 0, 0, 0, 0), (1, .aload_n 0, 0, 0, 0, 0, 0, 0), (2, .getfield 83, 4, 9, 0, 0, 0, 0), (5, .putfield 89, 4, 8, 0, 0, 0, 0), (8, .aload_n 0, 0, 0, 0, 0, 0, 0), (9, .getfield 89, 4, 8, 0, 0, 0, 0), (12, .aload_n 0, 0, 0, 0, 0, 0, 0), (13, .getfield 82, 4, 7, 0, 0, 0, 0), (16, .if_icmp .ge 44, 60, 0, 0, 0, 0, 0), (19, .aload_n 0, 0, 0, 0, 0, 0, 0), (20, .getfield 38, 4, 6, 0, 0, 0, 0), (23, .aload_n 0, 0, 0, 0, 0, 0, 0), (24, .getfield 89, 4, 8, 0, 0, 0, 0), (27, .baload, 0, 0, 0, 0, 0, 0), (28, .bipush 32, 0, 0, 0, 0, 0, 32), (30, .if_icmp .eq 17, 47, 0, 0, 0, 0, 0), (33, .aload_n 0, 0, 0, 0, 0, 0, 0), (34, .getfield 38, 4, 6, 0, 0, 0, 0), (37, .aload_n 0, 0, 0, 0, 0, 0, 0), (38, .getfield 89, 4, 8, 0, 0, 0, 0), (41, .baload, 0, 0, 0, 0, 0, 0), (42, .bipush 10, 0, 0, 0, 0, 0, 10), (44, .if_icmp .ne 16, 60, 0, 0, 0, 0, 0), (47, .aload_n 0, 0, 0, 0, 0, 0, 0), (48, .dup, 0, 0, 0, 0, 0, 0), (49, .getfield 89, 4, 8, 0, 0, 0, 0), (52, .iconst 1, 0, 0, 0, 0, 0, 1), (53, .iadd, 0, 0, 0, 0, 0, 0), (54, .putfield 89, 4, 8, 0, 0, 0, 0), (57, .goto (-49), 8, 0, 0, 0, 0, 0), (60, .aload_n 0, 0, 0, 0, 0, 0, 0), (61, .getfield 89, 4, 8, 0, 0, 0, 0), (64, .aload_n 0, 0, 0, 0, 0, 0, 0), (65, .getfield 82, 4, 7, 0, 0, 0, 0), (68, .if_icmp .lt 18, 86, 0, 0, 0, 0, 0), (71, .aload_n 0, 0, 0, 0, 0, 0, 0), (72, .aload_n 0, 0, 0, 0, 0, 0, 0), (73, .getfield 89, 4, 8, 0, 0, 0, 0), (76, .putfield 83, 4, 9, 0, 0, 0, 0), (79, .aload_n 0, 0, 0, 0, 0, 0, 0), (80, .bipush 69, 0, 0, 0, 0, 0, 69), (82, .putfield 51, 4, 10, 0, 0, 0, 0), (85, .return_, 0, 0, 0, 0, 0, 0), (86, .aload_n 0, 0, 0, 0, 0, 0, 0), (87, .aload_n 0, 0, 0, 0, 0, 0, 0), (88, .getfield 38, 4, 6, 0, 0, 0, 0), (91, .aload_n 0, 0, 0, 0, 0, 0, 0), (92, .getfield 89, 4, 8, 0, 0, 0, 0), (95, .baload, 0, 0, 0, 0, 0, 0), (96, .invokestatic 92, 40, 1, 2, 0, 1, 0), (99, .putfield 51, 4, 10, 0, 0, 0, 0), (102, .aload_n 0, 0, 0, 0, 0, 0, 0), (103, .aload_n 0, 0, 0, 0, 0, 0, 0), (104, .getfield 89, 4, 8, 0, 0, 0, 0), (107, .iconst 1, 0, 0, 0, 0, 0, 1), (108, .iadd, 0, 0, 0, 0, 0, 0), (109, .putfield 83, 4, 9, 0, 0, 0, 0), (112, .aload_n 0, 0, 0, 0, 0, 0, 0), (113, .getfield 51, 4, 10, 0, 0, 0, 0), (116, .bipush 97, 0, 0, 0, 0, 0, 97), (118, .if_icmp .eq 12, 130, 0, 0, 0, 0, 0), (121, .aload_n 0, 0, 0, 0, 0, 0, 0), (122, .getfield 51, 4, 10, 0, 0, 0, 0), (125, .bipush 48, 0, 0, 0, 0, 0, 48), (127, .if_icmp .ne 79, 206, 0, 0, 0, 0, 0), (130, .aload_n 0, 0, 0, 0, 0, 0, 0), (131, .getfield 83, 4, 9, 0, 0, 0, 0), (134, .aload_n 0, 0, 0, 0, 0, 0, 0), (135, .getfield 82, 4, 7, 0, 0, 0, 0), (138, .if_icmp .ge 35, 173, 0, 0, 0, 0, 0), (141, .aload_n 0, 0, 0, 0, 0, 0, 0), (142, .getfield 38, 4, 6, 0, 0, 0, 0), (145, .aload_n 0, 0, 0, 0, 0, 0, 0), (146, .getfield 83, 4, 9, 0, 0, 0, 0), (149, .baload, 0, 0, 0, 0, 0, 0), (150, .invokestatic 92, 40, 1, 2, 0, 1, 0), (153, .aload_n 0, 0, 0, 0, 0, 0, 0), (154, .getfield 51, 4, 10, 0, 0, 0, 0), (157, .if_icmp .ne 16, 173, 0, 0, 0, 0, 0), (160, .aload_n 0, 0, 0, 0, 0, 0, 0), (161, .dup, 0, 0, 0, 0, 0, 0), (162, .getfield 83, 4, 9, 0, 0, 0, 0), (165, .iconst 1, 0, 0, 0, 0, 0, 1), (166, .iadd, 0, 0, 0, 0, 0, 0), (167, .putfield 83, 4, 9, 0, 0, 0, 0), (170, .goto (-40), 130, 0, 0, 0, 0, 0), (173, .aload_n 0, 0, 0, 0, 0, 0, 0), (174, .getfield 83, 4, 9, 0, 0, 0, 0), (177, .aload_n 0, 0, 0, 0, 0, 0, 0), (178, .getfield 89, 4, 8, 0, 0, 0, 0), (181, .isub, 0, 0, 0, 0, 0, 0), (182, .aload_n 0, 0, 0, 0, 0, 0, 0), (183, .getfield 51, 4, 10, 0, 0, 0, 0), (186, .bipush 97, 0, 0, 0, 0, 0, 97), (188, .if_icmp .ne 8, 196, 0, 0, 0, 0, 0), (191, .bipush 24, 0, 0, 0, 0, 0, 24), (193, .goto 4, 197, 0, 0, 0, 0, 0), (196, .iconst 3, 0, 0, 0, 0, 0, 3), (197, .if_icmp .le 9, 206, 0, 0, 0, 0, 0), (200, .aload_n 0, 0, 0, 0, 0, 0, 0), (201, .bipush 63, 0, 0, 0, 0, 0, 63), (203, .putfield 51, 4, 10, 0, 0, 0, 0), (206, .return_, 0, 0, 0, 0, 0, 0)], [(8, [true]), (60, [true]), (130, [true]), (173, [true])])
-- X4_signOf
def k40 : pM := ([(0, .iload_n 0, 0, 0, 0, 0, 0, 0), (1, .bipush 97, 0, 0, 0, 0, 0, 97), (3, .if_icmp .lt 12, 15, 0, 0, 0, 0, 0), (6, .iload_n 0, 0, 0, 0, 0, 0, 0), (7, .bipush 122, 0, 0, 0, 0, 0, 122), (9, .if_icmp .gt 6, 15, 0, 0, 0, 0, 0), (12, .bipush 97, 0, 0, 0, 0, 0, 97), (14, .ireturn, 2, 0, 0, 0, 0, 0), (15, .iload_n 0, 0, 0, 0, 0, 0, 0), (16, .bipush 48, 0, 0, 0, 0, 0, 48), (18, .if_icmp .lt 12, 30, 0, 0, 0, 0, 0), (21, .iload_n 0, 0, 0, 0, 0, 0, 0), (22, .bipush 57, 0, 0, 0, 0, 0, 57), (24, .if_icmp .gt 6, 30, 0, 0, 0, 0, 0), (27, .bipush 48, 0, 0, 0, 0, 0, 48), (29, .ireturn, 2, 0, 0, 0, 0, 0), (30, .iload_n 0, 0, 0, 0, 0, 0, 0), (31, .bipush 59, 0, 0, 0, 0, 0, 59), (33, .if_icmp .eq 9, 42, 0, 0, 0, 0, 0), (36, .iload_n 0, 0, 0, 0, 0, 0, 0), (37, .bipush 45, 0, 0, 0, 0, 0, 45), (39, .if_icmp .ne 8, 47, 0, 0, 0, 0, 0), (42, .iload_n 0, 0, 0, 0, 0, 0, 0), (43, .i2c, 0, 0, 0, 0, 0, 0), (44, .goto 5, 49, 0, 0, 0, 0, 0), (47, .bipush 63, 0, 0, 0, 0, 0, 63), (49, .ireturn, 2, 0, 0, 0, 0, 0)], [(15, [true])])
-- X4_refuse
def k41 : pM := ([(0, .aload_n 0, 0, 0, 0, 0, 0, 0), (1, .iload_n 1, 1, 0, 0, 0, 0, 0), (2, .putfield 31, 4, 4, 0, 0, 0, 0), (5, .aload_n 0, 0, 0, 0, 0, 0, 0), (6, .aload_n 0, 0, 0, 0, 0, 0, 0), (7, .getfield 89, 4, 8, 0, 0, 0, 0), (10, .putfield 35, 4, 5, 0, 0, 0, 0), (13, .iconst 0, 0, 0, 0, 0, 0, 0), (14, .ireturn, 1, 0, 0, 0, 0, 0)], [])
-- X4_mayBegin
def k42 : pM := ([(0, .iload_n 1, 1, 0, 0, 0, 0, 0), (1, .iconst (-1), 0, 0, 0, 0, 0, (-1)), (2, .if_icmp .ne 9, 11, 0, 0, 0, 0, 0), (5, .aload_n 0, 0, 0, 0, 0, 0, 0), (6, .iconst 1, 0, 0, 0, 0, 0, 1), (7, .invokevirtual 96, 41, 2, 2, 5, 1, 0), (10, .ireturn, 1, 0, 0, 0, 0, 0), (11, .iload_n 1, 1, 0, 0, 0, 0, 0), (12, .iconst 5, 0, 0, 0, 0, 0, 5), (13, .if_icmp .lt 26, 39, 0, 0, 0, 0, 0), (16, .iload_n 1, 1, 0, 0, 0, 0, 0), (17, .bipush 9, 0, 0, 0, 0, 0, 9), (19, .if_icmp .gt 20, 39, 0, 0, 0, 0, 0), (22, .aload_n 0, 0, 0, 0, 0, 0, 0), (23, .getfield 86, 4, 13, 0, 0, 0, 0), (26, .iload_n 1, 1, 0, 0, 0, 0, 0), (27, .ishr, 0, 0, 0, 0, 0, 0), (28, .iconst 1, 0, 0, 0, 0, 0, 1), (29, .iand, 0, 0, 0, 0, 0, 0), (30, .ifCond .eq 9, 39, 0, 0, 0, 0, 0), (33, .aload_n 0, 0, 0, 0, 0, 0, 0), (34, .iconst 3, 0, 0, 0, 0, 0, 3), (35, .invokevirtual 96, 41, 2, 2, 5, 1, 0), (38, .ireturn, 1, 0, 0, 0, 0, 0), (39, .iload_n 1, 1, 0, 0, 0, 0, 0), (40, .iconst 4, 0, 0, 0, 0, 0, 4), (41, .if_icmp .gt 27, 68, 0, 0, 0, 0, 0), (44, .aload_n 0, 0, 0, 0, 0, 0, 0), (45, .getfield 12, 4, 0, 0, 0, 0, 0), (48, .getfield 99, 0, 0, 0, 0, 0, 0), (51, .iload_n 1, 1, 0, 0, 0, 0, 0), (52, .iaload, 0, 0, 0, 0, 0, 0), (53, .iload_n 1, 1, 0, 0, 0, 0, 0), (54, .invokestatic 103, 2, 1, 2, 0, 1, 0), (57, .if_icmp .lt 11, 68, 0, 0, 0, 0, 0), (60, .aload_n 0, 0, 0, 0, 0, 0, 0), (61, .iconst 4, 0, 0, 0, 0, 0, 4), (62, .invokevirtual 96, 41, 2, 2, 5, 1, 0), (65, .ifCond .eq 7, 72, 0, 0, 0, 0, 0), (68, .iconst 1, 0, 0, 0, 0, 0, 1), (69, .goto 4, 73, 0, 0, 0, 0, 0), (72, .iconst 0, 0, 0, 0, 0, 0, 0), (73, .ireturn, 1, 0, 0, 0, 0, 0)], [(39, [true, true])])
-- X4_readBody
def k43 : pM := ([(0, .iload_n 1, 1, 0, 0, 0, 0, 0), (1, .tableswitch 113 0 10 #[59, 76, 93, 98, 103, 113, 113, 113, 113, 113, 108], 0, 59, 0, 0, 0, 0), (60, .aload_n 0, 0, 0, 0, 0, 0, 0), (61, .aload_n 0, 0, 0, 0, 0, 0, 0), (62, .getfield 21, 4, 1, 0, 0, 0, 0), (65, .iload_n 1, 1, 0, 0, 0, 0, 0), (66, .aload_n 0, 0, 0, 0, 0, 0, 0), (67, .getfield 12, 4, 0, 0, 0, 0, 0), (70, .getfield 107, 0, 4, 0, 0, 0, 0), (73, .invokevirtual 110, 47, 4, 5, 5, 1, 0), (76, .ireturn, 1, 0, 0, 0, 0, 0), (77, .aload_n 0, 0, 0, 0, 0, 0, 0), (78, .aload_n 0, 0, 0, 0, 0, 0, 0), (79, .getfield 25, 4, 2, 0, 0, 0, 0), (82, .iload_n 1, 1, 0, 0, 0, 0, 0), (83, .aload_n 0, 0, 0, 0, 0, 0, 0), (84, .getfield 12, 4, 0, 0, 0, 0, 0), (87, .getfield 114, 0, 5, 0, 0, 0, 0), (90, .invokevirtual 110, 47, 4, 5, 5, 1, 0), (93, .ireturn, 1, 0, 0, 0, 0, 0), (94, .aload_n 0, 0, 0, 0, 0, 0, 0), (95, .invokevirtual 117, 48, 1, 5, 5, 1, 0), (98, .ireturn, 1, 0, 0, 0, 0, 0), (99, .aload_n 0, 0, 0, 0, 0, 0, 0), (100, .invokevirtual 120, 49, 1, 5, 5, 1, 0), (103, .ireturn, 1, 0, 0, 0, 0, 0), (104, .aload_n 0, 0, 0, 0, 0, 0, 0), (105, .invokevirtual 123, 50, 1, 5, 5, 1, 0), (108, .ireturn, 1, 0, 0, 0, 0, 0), (109, .aload_n 0, 0, 0, 0, 0, 0, 0), (110, .invokevirtual 126, 51, 1, 5, 5, 1, 0), (113, .ireturn, 1, 0, 0, 0, 0, 0), (114, .aload_n 0, 0, 0, 0, 0, 0, 0), (115, .iload_n 1, 1, 0, 0, 0, 0, 0), (116, .invokevirtual 129, 52, 2, 5, 5, 1, 0), (119, .ireturn, 1, 0, 0, 0, 0, 0)], [])
-- X4_keyword
def k44 : pM := ([(0, .aload_n 0, 0, 0, 0, 0, 0, 0), (1, .getfield 51, 4, 10, 0, 0, 0, 0), (4, .bipush 97, 0, 0, 0, 0, 0, 97), (6, .if_icmp .eq 5, 11, 0, 0, 0, 0, 0), (9, .iconst (-1), 0, 0, 0, 0, 0, (-1)), (10, .ireturn, 0, 0, 0, 0, 0, 0), (11, .aload_n 0, 0, 0, 0, 0, 0, 0), (12, .ldc 132, 143, 1, 0, 0, 0, 0), (14, .invokevirtual 134, 45, 2, 2, 5, 1, 0), (17, .ifCond .eq 5, 22, 0, 0, 0, 0, 0), (20, .iconst 0, 0, 0, 0, 0, 0, 0), (21, .ireturn, 0, 0, 0, 0, 0, 0), (22, .aload_n 0, 0, 0, 0, 0, 0, 0), (23, .ldc 138, 144, 1, 0, 0, 0, 0), (25, .invokevirtual 134, 45, 2, 2, 5, 1, 0), (28, .ifCond .eq 5, 33, 0, 0, 0, 0, 0), (31, .iconst 1, 0, 0, 0, 0, 0, 1), (32, .ireturn, 0, 0, 0, 0, 0, 0), (33, .aload_n 0, 0, 0, 0, 0, 0, 0), (34, .ldc 140, 145, 1, 0, 0, 0, 0), (36, .invokevirtual 134, 45, 2, 2, 5, 1, 0), (39, .ifCond .eq 5, 44, 0, 0, 0, 0, 0), (42, .iconst 2, 0, 0, 0, 0, 0, 2), (43, .ireturn, 0, 0, 0, 0, 0, 0), (44, .aload_n 0, 0, 0, 0, 0, 0, 0), (45, .ldc 142, 146, 1, 0, 0, 0, 0), (47, .invokevirtual 134, 45, 2, 2, 5, 1, 0), (50, .ifCond .eq 5, 55, 0, 0, 0, 0, 0), (53, .iconst 3, 0, 0, 0, 0, 0, 3), (54, .ireturn, 0, 0, 0, 0, 0, 0), (55, .aload_n 0, 0, 0, 0, 0, 0, 0), (56, .ldc 144, 147, 1, 0, 0, 0, 0), (58, .invokevirtual 134, 45, 2, 2, 5, 1, 0), (61, .ifCond .eq 5, 66, 0, 0, 0, 0, 0), (64, .iconst 4, 0, 0, 0, 0, 0, 4), (65, .ireturn, 0, 0, 0, 0, 0, 0), (66, .aload_n 0, 0, 0, 0, 0, 0, 0), (67, .ldc 146, 148, 1, 0, 0, 0, 0), (69, .invokevirtual 134, 45, 2, 2, 5, 1, 0), (72, .ifCond .eq 5, 77, 0, 0, 0, 0, 0), (75, .iconst 5, 0, 0, 0, 0, 0, 5), (76, .ireturn, 0, 0, 0, 0, 0, 0), (77, .aload_n 0, 0, 0, 0, 0, 0, 0), (78, .ldc 148, 149, 1, 0, 0, 0, 0), (80, .invokevirtual 134, 45, 2, 2, 5, 1, 0), (83, .ifCond .eq 6, 89, 0, 0, 0, 0, 0), (86, .bipush 6, 0, 0, 0, 0, 0, 6), (88, .ireturn, 0, 0, 0, 0, 0, 0), (89, .aload_n 0, 0, 0, 0, 0, 0, 0), (90, .ldc 150, 150, 1, 0, 0, 0, 0), (92, .invokevirtual 134, 45, 2, 2, 5, 1, 0), (95, .ifCond .eq 6, 101, 0, 0, 0, 0, 0), (98, .bipush 7, 0, 0, 0, 0, 0, 7), (100, .ireturn, 0, 0, 0, 0, 0, 0), (101, .aload_n 0, 0, 0, 0, 0, 0, 0), (102, .ldc 152, 151, 1, 0, 0, 0, 0), (104, .invokevirtual 134, 45, 2, 2, 5, 1, 0), (107, .ifCond .eq 6, 113, 0, 0, 0, 0, 0), (110, .bipush 8, 0, 0, 0, 0, 0, 8), (112, .ireturn, 0, 0, 0, 0, 0, 0), (113, .aload_n 0, 0, 0, 0, 0, 0, 0), (114, .ldc 154, 152, 1, 0, 0, 0, 0), (116, .invokevirtual 134, 45, 2, 2, 5, 1, 0), (119, .ifCond .eq 6, 125, 0, 0, 0, 0, 0), (122, .bipush 9, 0, 0, 0, 0, 0, 9), (124, .ireturn, 0, 0, 0, 0, 0, 0), (125, .aload_n 0, 0, 0, 0, 0, 0, 0), (126, .ldc 156, 153, 1, 0, 0, 0, 0), (128, .invokevirtual 134, 45, 2, 2, 5, 1, 0), (131, .ifCond .eq 8, 139, 0, 0, 0, 0, 0), (134, .bipush 10, 0, 0, 0, 0, 0, 10), (136, .goto 4, 140, 0, 0, 0, 0, 0), (139, .iconst (-1), 0, 0, 0, 0, 0, (-1)), (140, .ireturn, 0, 0, 0, 0, 0, 0)], [])
-- X4_isWord
def k45 : pM := ([(0, .aload_n 1, 1, 0, 0, 0, 0, 0), (1, .invokevirtual 158, 0, 0, 0, 0, 0, 0), (4, .aload_n 0, 0, 0, 0, 0, 0, 0), (5, .getfield 83, 4, 9, 0, 0, 0, 0), (8, .aload_n 0, 0, 0, 0, 0, 0, 0), (9, .getfield 89, 4, 8, 0, 0, 0, 0), (12, .isub, 0, 0, 0, 0, 0, 0), (13, .if_icmp .eq 5, 18, 0, 0, 0, 0, 0), (16, .iconst 0, 0, 0, 0, 0, 0, 0), (17, .ireturn, 1, 0, 0, 0, 0, 0), (18, .iconst 0, 0, 0, 0, 0, 0, 0), (19, .istore_n 2, 2, 0, 0, 0, 0, 0), (20, .iload_n 2, 2, 0, 0, 0, 0, 0), (21, .aload_n 1, 1, 0, 0, 0, 0, 0), (22, .invokevirtual 158, 0, 0, 0, 0, 0, 0), (25, .if_icmp .ge 30, 55, 0, 0, 0, 0, 0), (28, .aload_n 1, 1, 0, 0, 0, 0, 0), (29, .iload_n 2, 2, 0, 0, 0, 0, 0), (30, .invokevirtual 162, 0, 1, 0, 0, 0, 0), (33, .aload_n 0, 0, 0, 0, 0, 0, 0), (34, .getfield 38, 4, 6, 0, 0, 0, 0), (37, .aload_n 0, 0, 0, 0, 0, 0, 0), (38, .getfield 89, 4, 8, 0, 0, 0, 0), (41, .iload_n 2, 2, 0, 0, 0, 0, 0), (42, .iadd, 0, 0, 0, 0, 0, 0), (43, .baload, 0, 0, 0, 0, 0, 0), (44, .if_icmp .eq 5, 49, 0, 0, 0, 0, 0), (47, .iconst 0, 0, 0, 0, 0, 0, 0), (48, .ireturn, 1, 0, 0, 0, 0, 0), (49, .iinc 2 1, 2, 0, 0, 0, 0, 1), (52, .goto (-32), 20, 0, 0, 0, 0, 0), (55, .iconst 1, 0, 0, 0, 0, 0, 1), (56, .ireturn, 1, 0, 0, 0, 0, 0)], [(20, [true, true, true])])
-- X4_readSemicolon
def k46 : pM := ([(0, .aload_n 0, 0, 0, 0, 0, 0, 0), (1, .invokevirtual 48, 39, 1, 3, 5, 0, 0), (4, .aload_n 0, 0, 0, 0, 0, 0, 0), (5, .getfield 51, 4, 10, 0, 0, 0, 0), (8, .bipush 59, 0, 0, 0, 0, 0, 59), (10, .if_icmp .eq 11, 21, 0, 0, 0, 0, 0), (13, .aload_n 0, 0, 0, 0, 0, 0, 0), (14, .iconst 1, 0, 0, 0, 0, 0, 1), (15, .invokevirtual 96, 41, 2, 2, 5, 1, 0), (18, .ifCond .eq 7, 25, 0, 0, 0, 0, 0), (21, .iconst 1, 0, 0, 0, 0, 0, 1), (22, .goto 4, 26, 0, 0, 0, 0, 0), (25, .iconst 0, 0, 0, 0, 0, 0, 0), (26, .ireturn, 1, 0, 0, 0, 0, 0)], [])
-- X4_readTraits
def k47 : pM := ([(0, .aload_n 0, 0, 0, 0, 0, 0, 0), (1, .aload_n 1, 1, 0, 0, 0, 0, 0), (2, .invokevirtual 166, 53, 2, 4, 5, 1, 0), (5, .ifCond .eq 10, 15, 0, 0, 0, 0, 0), (8, .aload_n 0, 0, 0, 0, 0, 0, 0), (9, .invokevirtual 170, 54, 1, 4, 5, 1, 0), (12, .ifCond .ne 5, 17, 0, 0, 0, 0, 0), (15, .iconst 0, 0, 0, 0, 0, 0, 0), (16, .ireturn, 1, 0, 0, 0, 0, 0), (17, .aload_n 3, 3, 0, 0, 0, 0, 0), (18, .aload_n 0, 0, 0, 0, 0, 0, 0), (19, .getfield 12, 4, 0, 0, 0, 0, 0), (22, .getfield 99, 0, 0, 0, 0, 0, 0), (25, .iload_n 2, 2, 0, 0, 0, 0, 0), (26, .iaload, 0, 0, 0, 0, 0, 0), (27, .aload_n 0, 0, 0, 0, 0, 0, 0), (28, .getfield 173, 4, 11, 0, 0, 0, 0), (31, .iastore, 0, 0, 0, 0, 0, 0), (32, .aload_n 0, 0, 0, 0, 0, 0, 0), (33, .getfield 12, 4, 0, 0, 0, 0, 0), (36, .getfield 99, 0, 0, 0, 0, 0, 0), (39, .iload_n 2, 2, 0, 0, 0, 0, 0), (40, .dup2, 0, 0, 0, 0, 0, 0), (41, .iaload, 0, 0, 0, 0, 0, 0), (42, .iconst 1, 0, 0, 0, 0, 0, 1), (43, .iadd, 0, 0, 0, 0, 0, 0), (44, .iastore, 0, 0, 0, 0, 0, 0), (45, .iconst 1, 0, 0, 0, 0, 0, 1), (46, .ireturn, 1, 0, 0, 0, 0, 0)], [])
-- X4_readPlace
def k48 : pM := ([(0, .aload_n 0, 0, 0, 0, 0, 0, 0), (1, .invokevirtual 48, 39, 1, 3, 5, 0, 0), (4, .aload_n 0, 0, 0, 0, 0, 0, 0), (5, .getfield 51, 4, 10, 0, 0, 0, 0), (8, .bipush 97, 0, 0, 0, 0, 0, 97), (10, .if_icmp .eq 9, 19, 0, 0, 0, 0, 0), (13, .aload_n 0, 0, 0, 0, 0, 0, 0), (14, .iconst 1, 0, 0, 0, 0, 0, 1), (15, .invokevirtual 96, 41, 2, 2, 5, 1, 0), (18, .ireturn, 1, 0, 0, 0, 0, 0), (19, .aload_n 0, 0, 0, 0, 0, 0, 0), (20, .getfield 21, 4, 1, 0, 0, 0, 0), (23, .aload_n 0, 0, 0, 0, 0, 0, 0), (24, .getfield 38, 4, 6, 0, 0, 0, 0), (27, .aload_n 0, 0, 0, 0, 0, 0, 0), (28, .getfield 89, 4, 8, 0, 0, 0, 0), (31, .aload_n 0, 0, 0, 0, 0, 0, 0), (32, .getfield 83, 4, 9, 0, 0, 0, 0), (35, .invokevirtual 176, 35, 4, 3, 4, 1, 0), (38, .istore_n 1, 1, 0, 0, 0, 0, 0), (39, .iload_n 1, 1, 0, 0, 0, 0, 0), (40, .iconst (-1), 0, 0, 0, 0, 0, (-1)), (41, .if_icmp .ne 9, 50, 0, 0, 0, 0, 0), (44, .aload_n 0, 0, 0, 0, 0, 0, 0), (45, .iconst 5, 0, 0, 0, 0, 0, 5), (46, .invokevirtual 96, 41, 2, 2, 5, 1, 0), (49, .ireturn, 1, 0, 0, 0, 0, 0), (50, .aload_n 0, 0, 0, 0, 0, 0, 0), (51, .invokevirtual 170, 54, 1, 4, 5, 1, 0), (54, .ifCond .ne 5, 59, 0, 0, 0, 0, 0), (57, .iconst 0, 0, 0, 0, 0, 0, 0), (58, .ireturn, 1, 0, 0, 0, 0, 0), (59, .aload_n 0, 0, 0, 0, 0, 0, 0), (60, .getfield 173, 4, 11, 0, 0, 0, 0), (63, .aload_n 0, 0, 0, 0, 0, 0, 0), (64, .getfield 12, 4, 0, 0, 0, 0, 0), (67, .getfield 107, 0, 4, 0, 0, 0, 0), (70, .iload_n 1, 1, 0, 0, 0, 0, 0), (71, .iaload, 0, 0, 0, 0, 0, 0), (72, .iconst (-1), 0, 0, 0, 0, 0, (-1)), (73, .ixor, 0, 0, 0, 0, 0, 0), (74, .iand, 0, 0, 0, 0, 0, 0), (75, .ifCond .eq 10, 85, 0, 0, 0, 0, 0), (78, .aload_n 0, 0, 0, 0, 0, 0, 0), (79, .bipush 6, 0, 0, 0, 0, 0, 6), (81, .invokevirtual 96, 41, 2, 2, 5, 1, 0), (84, .ireturn, 1, 0, 0, 0, 0, 0), (85, .aload_n 0, 0, 0, 0, 0, 0, 0), (86, .getfield 12, 4, 0, 0, 0, 0, 0), (89, .getfield 99, 0, 0, 0, 0, 0, 0), (92, .iconst 2, 0, 0, 0, 0, 0, 2), (93, .iaload, 0, 0, 0, 0, 0, 0), (94, .istore_n 2, 2, 0, 0, 0, 0, 0), (95, .aload_n 0, 0, 0, 0, 0, 0, 0), (96, .getfield 12, 4, 0, 0, 0, 0, 0), (99, .getfield 180, 0, 6, 0, 0, 0, 0), (102, .iload_n 2, 2, 0, 0, 0, 0, 0), (103, .iload_n 1, 1, 0, 0, 0, 0, 0), (104, .iastore, 0, 0, 0, 0, 0, 0), (105, .aload_n 0, 0, 0, 0, 0, 0, 0), (106, .getfield 12, 4, 0, 0, 0, 0, 0), (109, .getfield 183, 0, 7, 0, 0, 0, 0), (112, .iload_n 2, 2, 0, 0, 0, 0, 0), (113, .aload_n 0, 0, 0, 0, 0, 0, 0), (114, .getfield 173, 4, 11, 0, 0, 0, 0), (117, .iastore, 0, 0, 0, 0, 0, 0), (118, .aload_n 0, 0, 0, 0, 0, 0, 0), (119, .getfield 12, 4, 0, 0, 0, 0, 0), (122, .getfield 99, 0, 0, 0, 0, 0, 0), (125, .iconst 2, 0, 0, 0, 0, 0, 2), (126, .dup2, 0, 0, 0, 0, 0, 0), (127, .iaload, 0, 0, 0, 0, 0, 0), (128, .iconst 1, 0, 0, 0, 0, 0, 1), (129, .iadd, 0, 0, 0, 0, 0, 0), (130, .iastore, 0, 0, 0, 0, 0, 0), (131, .iconst 1, 0, 0, 0, 0, 0, 1), (132, .ireturn, 1, 0, 0, 0, 0, 0)], [])
-- X4_readTie
def k49 : pM := ([(0, .aload_n 0, 0, 0, 0, 0, 0, 0), (1, .getfield 12, 4, 0, 0, 0, 0, 0), (4, .getfield 99, 0, 0, 0, 0, 0, 0), (7, .iconst 2, 0, 0, 0, 0, 0, 2), (8, .iaload, 0, 0, 0, 0, 0, 0), (9, .iconst 1, 0, 0, 0, 0, 0, 1), (10, .isub, 0, 0, 0, 0, 0, 0), (11, .istore_n 1, 1, 0, 0, 0, 0, 0), (12, .aload_n 0, 0, 0, 0, 0, 0, 0), (13, .iconst 0, 0, 0, 0, 0, 0, 0), (14, .iload_n 1, 1, 0, 0, 0, 0, 0), (15, .invokevirtual 186, 55, 3, 4, 5, 1, 0), (18, .ifCond .ne 5, 23, 0, 0, 0, 0, 0), (21, .iconst 0, 0, 0, 0, 0, 0, 0), (22, .ireturn, 1, 0, 0, 0, 0, 0), (23, .aload_n 0, 0, 0, 0, 0, 0, 0), (24, .getfield 190, 4, 12, 0, 0, 0, 0), (27, .istore_n 2, 2, 0, 0, 0, 0, 0), (28, .aload_n 0, 0, 0, 0, 0, 0, 0), (29, .iconst 0, 0, 0, 0, 0, 0, 0), (30, .iload_n 1, 1, 0, 0, 0, 0, 0), (31, .invokevirtual 186, 55, 3, 4, 5, 1, 0), (34, .ifCond .ne 5, 39, 0, 0, 0, 0, 0), (37, .iconst 0, 0, 0, 0, 0, 0, 0), (38, .ireturn, 1, 0, 0, 0, 0, 0), (39, .aload_n 0, 0, 0, 0, 0, 0, 0), (40, .getfield 190, 4, 12, 0, 0, 0, 0), (43, .iload_n 2, 2, 0, 0, 0, 0, 0), (44, .if_icmp .ne 9, 53, 0, 0, 0, 0, 0), (47, .aload_n 0, 0, 0, 0, 0, 0, 0), (48, .iconst 3, 0, 0, 0, 0, 0, 3), (49, .invokevirtual 96, 41, 2, 2, 5, 1, 0), (52, .ireturn, 1, 0, 0, 0, 0, 0), (53, .aload_n 0, 0, 0, 0, 0, 0, 0), (54, .getfield 190, 4, 12, 0, 0, 0, 0), (57, .istore_n 3, 3, 0, 0, 0, 0, 0), (58, .aload_n 0, 0, 0, 0, 0, 0, 0), (59, .invokevirtual 170, 54, 1, 4, 5, 1, 0), (62, .ifCond .ne 5, 67, 0, 0, 0, 0, 0), (65, .iconst 0, 0, 0, 0, 0, 0, 0), (66, .ireturn, 1, 0, 0, 0, 0, 0), (67, .aload_n 0, 0, 0, 0, 0, 0, 0), (68, .getfield 12, 4, 0, 0, 0, 0, 0), (71, .getfield 99, 0, 0, 0, 0, 0, 0), (74, .iconst 3, 0, 0, 0, 0, 0, 3), (75, .iaload, 0, 0, 0, 0, 0, 0), (76, .istore 4, 4, 0, 0, 0, 0, 0), (78, .aload_n 0, 0, 0, 0, 0, 0, 0), (79, .getfield 12, 4, 0, 0, 0, 0, 0), (82, .getfield 193, 0, 8, 0, 0, 0, 0), (85, .iload 4, 4, 0, 0, 0, 0, 0), (87, .iload_n 2, 2, 0, 0, 0, 0, 0), (88, .iastore, 0, 0, 0, 0, 0, 0), (89, .aload_n 0, 0, 0, 0, 0, 0, 0), (90, .getfield 12, 4, 0, 0, 0, 0, 0), (93, .getfield 196, 0, 9, 0, 0, 0, 0), (96, .iload 4, 4, 0, 0, 0, 0, 0), (98, .iload_n 3, 3, 0, 0, 0, 0, 0), (99, .iastore, 0, 0, 0, 0, 0, 0), (100, .aload_n 0, 0, 0, 0, 0, 0, 0), (101, .getfield 12, 4, 0, 0, 0, 0, 0), (104, .getfield 199, 0, 10, 0, 0, 0, 0), (107, .iload 4, 4, 0, 0, 0, 0, 0), (109, .aload_n 0, 0, 0, 0, 0, 0, 0), (110, .getfield 173, 4, 11, 0, 0, 0, 0), (113, .iastore, 0, 0, 0, 0, 0, 0), (114, .aload_n 0, 0, 0, 0, 0, 0, 0), (115, .getfield 12, 4, 0, 0, 0, 0, 0), (118, .getfield 99, 0, 0, 0, 0, 0, 0), (121, .iconst 3, 0, 0, 0, 0, 0, 3), (122, .dup2, 0, 0, 0, 0, 0, 0), (123, .iaload, 0, 0, 0, 0, 0, 0), (124, .iconst 1, 0, 0, 0, 0, 0, 1), (125, .iadd, 0, 0, 0, 0, 0, 0), (126, .iastore, 0, 0, 0, 0, 0, 0), (127, .iconst 1, 0, 0, 0, 0, 0, 1), (128, .ireturn, 1, 0, 0, 0, 0, 0)], [])
-- X4_readHearer
def k50 : pM := ([(0, .aload_n 0, 0, 0, 0, 0, 0, 0), (1, .aload_n 0, 0, 0, 0, 0, 0, 0), (2, .getfield 28, 4, 3, 0, 0, 0, 0), (5, .invokevirtual 166, 53, 2, 4, 5, 1, 0), (8, .ifCond .eq 10, 18, 0, 0, 0, 0, 0), (11, .aload_n 0, 0, 0, 0, 0, 0, 0), (12, .invokevirtual 170, 54, 1, 4, 5, 1, 0), (15, .ifCond .ne 5, 20, 0, 0, 0, 0, 0), (18, .iconst 0, 0, 0, 0, 0, 0, 0), (19, .ireturn, 1, 0, 0, 0, 0, 0), (20, .aload_n 0, 0, 0, 0, 0, 0, 0), (21, .getfield 173, 4, 11, 0, 0, 0, 0), (24, .istore_n 1, 1, 0, 0, 0, 0, 0), (25, .aload_n 0, 0, 0, 0, 0, 0, 0), (26, .invokevirtual 170, 54, 1, 4, 5, 1, 0), (29, .ifCond .ne 5, 34, 0, 0, 0, 0, 0), (32, .iconst 0, 0, 0, 0, 0, 0, 0), (33, .ireturn, 1, 0, 0, 0, 0, 0), (34, .aload_n 0, 0, 0, 0, 0, 0, 0), (35, .getfield 12, 4, 0, 0, 0, 0, 0), (38, .getfield 99, 0, 0, 0, 0, 0, 0), (41, .iconst 4, 0, 0, 0, 0, 0, 4), (42, .iaload, 0, 0, 0, 0, 0, 0), (43, .istore_n 2, 2, 0, 0, 0, 0, 0), (44, .aload_n 0, 0, 0, 0, 0, 0, 0), (45, .getfield 12, 4, 0, 0, 0, 0, 0), (48, .getfield 202, 0, 11, 0, 0, 0, 0), (51, .iload_n 2, 2, 0, 0, 0, 0, 0), (52, .iload_n 1, 1, 0, 0, 0, 0, 0), (53, .iastore, 0, 0, 0, 0, 0, 0), (54, .aload_n 0, 0, 0, 0, 0, 0, 0), (55, .getfield 12, 4, 0, 0, 0, 0, 0), (58, .getfield 205, 0, 12, 0, 0, 0, 0), (61, .iload_n 2, 2, 0, 0, 0, 0, 0), (62, .aload_n 0, 0, 0, 0, 0, 0, 0), (63, .getfield 173, 4, 11, 0, 0, 0, 0), (66, .iastore, 0, 0, 0, 0, 0, 0), (67, .aload_n 0, 0, 0, 0, 0, 0, 0), (68, .getfield 12, 4, 0, 0, 0, 0, 0), (71, .getfield 99, 0, 0, 0, 0, 0, 0), (74, .iconst 4, 0, 0, 0, 0, 0, 4), (75, .dup2, 0, 0, 0, 0, 0, 0), (76, .iaload, 0, 0, 0, 0, 0, 0), (77, .iconst 1, 0, 0, 0, 0, 0, 1), (78, .iadd, 0, 0, 0, 0, 0, 0), (79, .iastore, 0, 0, 0, 0, 0, 0), (80, .iconst 1, 0, 0, 0, 0, 0, 1), (81, .ireturn, 1, 0, 0, 0, 0, 0)], [])
-- X4_readWeight
def k51 : pM := ([(0, .aload_n 0, 0, 0, 0, 0, 0, 0), (1, .invokevirtual 170, 54, 1, 4, 5, 1, 0), (4, .ifCond .eq 13, 17, 0, 0, 0, 0, 0), (7, .aload_n 0, 0, 0, 0, 0, 0, 0), (8, .iconst 0, 0, 0, 0, 0, 0, 0), (9, .bipush 9, 0, 0, 0, 0, 0, 9), (11, .invokevirtual 186, 55, 3, 4, 5, 1, 0), (14, .ifCond .ne 5, 19, 0, 0, 0, 0, 0), (17, .iconst 0, 0, 0, 0, 0, 0, 0), (18, .ireturn, 1, 0, 0, 0, 0, 0), (19, .aload_n 0, 0, 0, 0, 0, 0, 0), (20, .getfield 12, 4, 0, 0, 0, 0, 0), (23, .aload_n 0, 0, 0, 0, 0, 0, 0), (24, .getfield 173, 4, 11, 0, 0, 0, 0), (27, .aload_n 0, 0, 0, 0, 0, 0, 0), (28, .getfield 190, 4, 12, 0, 0, 0, 0), (31, .invokevirtual 208, 6, 3, 2, 1, 0, 0), (34, .iconst 1, 0, 0, 0, 0, 0, 1), (35, .ireturn, 1, 0, 0, 0, 0, 0)], [])
-- X4_readSetting
def k52 : pM := ([(0, .aload_n 0, 0, 0, 0, 0, 0, 0), (1, .dup, 0, 0, 0, 0, 0, 0), (2, .getfield 86, 4, 13, 0, 0, 0, 0), (5, .iconst 1, 0, 0, 0, 0, 0, 1), (6, .iload_n 1, 1, 0, 0, 0, 0, 0), (7, .ishl, 0, 0, 0, 0, 0, 0), (8, .ior, 0, 0, 0, 0, 0, 0), (9, .putfield 86, 4, 13, 0, 0, 0, 0), (12, .aload_n 0, 0, 0, 0, 0, 0, 0), (13, .iload_n 1, 1, 0, 0, 0, 0, 0), (14, .iconst 5, 0, 0, 0, 0, 0, 5), (15, .if_icmp .ne 7, 22, 0, 0, 0, 0, 0), (18, .iconst 1, 0, 0, 0, 0, 0, 1), (19, .goto 4, 23, 0, 0, 0, 0, 0), (22, .iconst 0, 0, 0, 0, 0, 0, 0), (23, .iload_n 1, 1, 0, 0, 0, 0, 0), (24, .bipush 7, 0, 0, 0, 0, 0, 7), (26, .if_icmp .eq 9, 35, 0, 0, 0, 0, 0), (29, .iload_n 1, 1, 0, 0, 0, 0, 0), (30, .bipush 9, 0, 0, 0, 0, 0, 9), (32, .if_icmp .ne 8, 40, 0, 0, 0, 0, 0), (35, .bipush 99, 0, 0, 0, 0, 0, 99), (37, .goto 5, 42, 0, 0, 0, 0, 0), (40, .bipush 9, 0, 0, 0, 0, 0, 9), (42, .invokevirtual 186, 55, 3, 4, 5, 1, 0), (45, .ifCond .ne 5, 50, 0, 0, 0, 0, 0), (48, .iconst 0, 0, 0, 0, 0, 0, 0), (49, .ireturn, 1, 0, 0, 0, 0, 0), (50, .aload_n 0, 0, 0, 0, 0, 0, 0), (51, .getfield 12, 4, 0, 0, 0, 0, 0), (54, .getfield 212, 0, 1, 0, 0, 0, 0), (57, .iload_n 1, 1, 0, 0, 0, 0, 0), (58, .iconst 5, 0, 0, 0, 0, 0, 5), (59, .isub, 0, 0, 0, 0, 0, 0), (60, .aload_n 0, 0, 0, 0, 0, 0, 0), (61, .getfield 190, 4, 12, 0, 0, 0, 0), (64, .iastore, 0, 0, 0, 0, 0, 0), (65, .iconst 1, 0, 0, 0, 0, 0, 1), (66, .ireturn, 1, 0, 0, 0, 0, 0)], [(42, [true, true])])
-- X4_readNewName
def k53 : pM := ([(0, .aload_n 0, 0, 0, 0, 0, 0, 0), (1, .invokevirtual 48, 39, 1, 3, 5, 0, 0), (4, .aload_n 0, 0, 0, 0, 0, 0, 0), (5, .getfield 51, 4, 10, 0, 0, 0, 0), (8, .bipush 97, 0, 0, 0, 0, 0, 97), (10, .if_icmp .eq 9, 19, 0, 0, 0, 0, 0), (13, .aload_n 0, 0, 0, 0, 0, 0, 0), (14, .iconst 1, 0, 0, 0, 0, 0, 1), (15, .invokevirtual 96, 41, 2, 2, 5, 1, 0), (18, .ireturn, 1, 0, 0, 0, 0, 0), (19, .aload_n 1, 1, 0, 0, 0, 0, 0), (20, .aload_n 0, 0, 0, 0, 0, 0, 0), (21, .getfield 38, 4, 6, 0, 0, 0, 0), (24, .aload_n 0, 0, 0, 0, 0, 0, 0), (25, .getfield 89, 4, 8, 0, 0, 0, 0), (28, .aload_n 0, 0, 0, 0, 0, 0, 0), (29, .getfield 83, 4, 9, 0, 0, 0, 0), (32, .invokevirtual 176, 35, 4, 3, 4, 1, 0), (35, .iconst (-1), 0, 0, 0, 0, 0, (-1)), (36, .if_icmp .eq 9, 45, 0, 0, 0, 0, 0), (39, .aload_n 0, 0, 0, 0, 0, 0, 0), (40, .iconst 3, 0, 0, 0, 0, 0, 3), (41, .invokevirtual 96, 41, 2, 2, 5, 1, 0), (44, .ireturn, 1, 0, 0, 0, 0, 0), (45, .aload_n 1, 1, 0, 0, 0, 0, 0), (46, .aload_n 0, 0, 0, 0, 0, 0, 0), (47, .getfield 89, 4, 8, 0, 0, 0, 0), (50, .aload_n 0, 0, 0, 0, 0, 0, 0), (51, .getfield 83, 4, 9, 0, 0, 0, 0), (54, .invokevirtual 215, 34, 3, 2, 4, 0, 0), (57, .iconst 1, 0, 0, 0, 0, 0, 1), (58, .ireturn, 1, 0, 0, 0, 0, 0)], [])
-- X4_readSet
def k54 : pM := ([(0, .aload_n 0, 0, 0, 0, 0, 0, 0), (1, .invokevirtual 48, 39, 1, 3, 5, 0, 0), (4, .aload_n 0, 0, 0, 0, 0, 0, 0), (5, .iconst 0, 0, 0, 0, 0, 0, 0), (6, .putfield 173, 4, 11, 0, 0, 0, 0), (9, .aload_n 0, 0, 0, 0, 0, 0, 0), (10, .getfield 51, 4, 10, 0, 0, 0, 0), (13, .bipush 45, 0, 0, 0, 0, 0, 45), (15, .if_icmp .ne 5, 20, 0, 0, 0, 0, 0), (18, .iconst 1, 0, 0, 0, 0, 0, 1), (19, .ireturn, 1, 0, 0, 0, 0, 0), (20, .aload_n 0, 0, 0, 0, 0, 0, 0), (21, .getfield 51, 4, 10, 0, 0, 0, 0), (24, .bipush 97, 0, 0, 0, 0, 0, 97), (26, .if_icmp .eq 9, 35, 0, 0, 0, 0, 0), (29, .aload_n 0, 0, 0, 0, 0, 0, 0), (30, .iconst 1, 0, 0, 0, 0, 0, 1), (31, .invokevirtual 96, 41, 2, 2, 5, 1, 0), (34, .ireturn, 1, 0, 0, 0, 0, 0), (35, .aload_n 0, 0, 0, 0, 0, 0, 0), (36, .getfield 89, 4, 8, 0, 0, 0, 0), (39, .istore_n 1, 1, 0, 0, 0, 0, 0), (40, .iload_n 1, 1, 0, 0, 0, 0, 0), (41, .aload_n 0, 0, 0, 0, 0, 0, 0), (42, .getfield 83, 4, 9, 0, 0, 0, 0), (45, .if_icmp .ge 43, 88, 0, 0, 0, 0, 0), (48, .aload_n 0, 0, 0, 0, 0, 0, 0), (49, .getfield 38, 4, 6, 0, 0, 0, 0), (52, .iload_n 1, 1, 0, 0, 0, 0, 0), (53, .baload, 0, 0, 0, 0, 0, 0), (54, .bipush 97, 0, 0, 0, 0, 0, 97), (56, .isub, 0, 0, 0, 0, 0, 0), (57, .istore_n 2, 2, 0, 0, 0, 0, 0), (58, .iload_n 2, 2, 0, 0, 0, 0, 0), (59, .bipush 24, 0, 0, 0, 0, 0, 24), (61, .if_icmp .lt 9, 70, 0, 0, 0, 0, 0), (64, .aload_n 0, 0, 0, 0, 0, 0, 0), (65, .iconst 2, 0, 0, 0, 0, 0, 2), (66, .invokevirtual 96, 41, 2, 2, 5, 1, 0), (69, .ireturn, 1, 0, 0, 0, 0, 0), (70, .aload_n 0, 0, 0, 0, 0, 0, 0), (71, .dup, 0, 0, 0, 0, 0, 0), (72, .getfield 173, 4, 11, 0, 0, 0, 0), (75, .iconst 1, 0, 0, 0, 0, 0, 1), (76, .iload_n 2, 2, 0, 0, 0, 0, 0), (77, .ishl, 0, 0, 0, 0, 0, 0), (78, .ior, 0, 0, 0, 0, 0, 0), (79, .putfield 173, 4, 11, 0, 0, 0, 0), (82, .iinc 1 1, 1, 0, 0, 0, 0, 1), (85, .goto (-45), 40, 0, 0, 0, 0, 0), (88, .iconst 1, 0, 0, 0, 0, 0, 1), (89, .ireturn, 1, 0, 0, 0, 0, 0)], [(40, [true, true, false])])
-- X4_readNumber
def k55 : pM := ([(0, .aload_n 0, 0, 0, 0, 0, 0, 0), (1, .invokevirtual 48, 39, 1, 3, 5, 0, 0), (4, .aload_n 0, 0, 0, 0, 0, 0, 0), (5, .iconst 0, 0, 0, 0, 0, 0, 0), (6, .putfield 190, 4, 12, 0, 0, 0, 0), (9, .aload_n 0, 0, 0, 0, 0, 0, 0), (10, .getfield 51, 4, 10, 0, 0, 0, 0), (13, .bipush 48, 0, 0, 0, 0, 0, 48), (15, .if_icmp .eq 9, 24, 0, 0, 0, 0, 0), (18, .aload_n 0, 0, 0, 0, 0, 0, 0), (19, .iconst 1, 0, 0, 0, 0, 0, 1), (20, .invokevirtual 96, 41, 2, 2, 5, 1, 0), (23, .ireturn, 1, 0, 0, 0, 0, 0), (24, .aload_n 0, 0, 0, 0, 0, 0, 0), (25, .getfield 89, 4, 8, 0, 0, 0, 0), (28, .istore_n 3, 3, 0, 0, 0, 0, 0), (29, .iload_n 3, 3, 0, 0, 0, 0, 0), (30, .aload_n 0, 0, 0, 0, 0, 0, 0), (31, .getfield 83, 4, 9, 0, 0, 0, 0), (34, .if_icmp .ge 30, 64, 0, 0, 0, 0, 0), (37, .aload_n 0, 0, 0, 0, 0, 0, 0), (38, .aload_n 0, 0, 0, 0, 0, 0, 0), (39, .getfield 190, 4, 12, 0, 0, 0, 0), (42, .bipush 10, 0, 0, 0, 0, 0, 10), (44, .imul, 0, 0, 0, 0, 0, 0), (45, .aload_n 0, 0, 0, 0, 0, 0, 0), (46, .getfield 38, 4, 6, 0, 0, 0, 0), (49, .iload_n 3, 3, 0, 0, 0, 0, 0), (50, .baload, 0, 0, 0, 0, 0, 0), (51, .iadd, 0, 0, 0, 0, 0, 0), (52, .bipush 48, 0, 0, 0, 0, 0, 48), (54, .isub, 0, 0, 0, 0, 0, 0), (55, .putfield 190, 4, 12, 0, 0, 0, 0), (58, .iinc 3 1, 3, 0, 0, 0, 0, 1), (61, .goto (-32), 29, 0, 0, 0, 0, 0), (64, .aload_n 0, 0, 0, 0, 0, 0, 0), (65, .getfield 190, 4, 12, 0, 0, 0, 0), (68, .iload_n 1, 1, 0, 0, 0, 0, 0), (69, .if_icmp .lt 11, 80, 0, 0, 0, 0, 0), (72, .aload_n 0, 0, 0, 0, 0, 0, 0), (73, .getfield 190, 4, 12, 0, 0, 0, 0), (76, .iload_n 2, 2, 0, 0, 0, 0, 0), (77, .if_icmp .le 11, 88, 0, 0, 0, 0, 0), (80, .aload_n 0, 0, 0, 0, 0, 0, 0), (81, .iconst 2, 0, 0, 0, 0, 0, 2), (82, .invokevirtual 96, 41, 2, 2, 5, 1, 0), (85, .ifCond .eq 7, 92, 0, 0, 0, 0, 0), (88, .iconst 1, 0, 0, 0, 0, 0, 1), (89, .goto 4, 93, 0, 0, 0, 0, 0), (92, .iconst 0, 0, 0, 0, 0, 0, 0), (93, .ireturn, 1, 0, 0, 0, 0, 0)], [(29, [true, true, true, true])])
-- X5_clear
def k56 : pM := ([(0, .aload_n 0, 0, 0, 0, 0, 0, 0), (1, .getfield 9, 5, 1, 0, 0, 0, 0), (4, .iconst (-1), 0, 0, 0, 0, 0, (-1)), (5, .invokestatic 34, 243, 2, 2, 0, 0, 0), (8, .aload_n 0, 0, 0, 0, 0, 0, 0), (9, .getfield 15, 5, 2, 0, 0, 0, 0), (12, .iconst (-1), 0, 0, 0, 0, 0, (-1)), (13, .invokestatic 34, 243, 2, 2, 0, 0, 0), (16, .aload_n 0, 0, 0, 0, 0, 0, 0), (17, .getfield 18, 5, 3, 0, 0, 0, 0), (20, .iconst (-1), 0, 0, 0, 0, 0, (-1)), (21, .invokestatic 34, 243, 2, 2, 0, 0, 0), (24, .aload_n 0, 0, 0, 0, 0, 0, 0), (25, .getfield 21, 5, 4, 0, 0, 0, 0), (28, .iconst (-1), 0, 0, 0, 0, 0, (-1)), (29, .invokestatic 34, 243, 2, 2, 0, 0, 0), (32, .aload_n 0, 0, 0, 0, 0, 0, 0), (33, .getfield 24, 5, 5, 0, 0, 0, 0), (36, .iconst 0, 0, 0, 0, 0, 0, 0), (37, .invokestatic 34, 243, 2, 2, 0, 0, 0), (40, .return_, 0, 0, 0, 0, 0, 0)], [])
-- X5_copyFrom
def k57 : pM := ([(0, .aload_n 1, 1, 0, 0, 0, 0, 0), (1, .getfield 9, 5, 1, 0, 0, 0, 0), (4, .iconst 0, 0, 0, 0, 0, 0, 0), (5, .aload_n 0, 0, 0, 0, 0, 0, 0), (6, .getfield 9, 5, 1, 0, 0, 0, 0), (9, .iconst 0, 0, 0, 0, 0, 0, 0), (10, .bipush 24, 0, 0, 0, 0, 0, 24), (12, .invokestatic 40, 0, 0, 0, 0, 0, 0), (15, .aload_n 1, 1, 0, 0, 0, 0, 0), (16, .getfield 15, 5, 2, 0, 0, 0, 0), (19, .iconst 0, 0, 0, 0, 0, 0, 0), (20, .aload_n 0, 0, 0, 0, 0, 0, 0), (21, .getfield 15, 5, 2, 0, 0, 0, 0), (24, .iconst 0, 0, 0, 0, 0, 0, 0), (25, .bipush 24, 0, 0, 0, 0, 0, 24), (27, .invokestatic 40, 0, 0, 0, 0, 0, 0), (30, .aload_n 1, 1, 0, 0, 0, 0, 0), (31, .getfield 18, 5, 3, 0, 0, 0, 0), (34, .iconst 0, 0, 0, 0, 0, 0, 0), (35, .aload_n 0, 0, 0, 0, 0, 0, 0), (36, .getfield 18, 5, 3, 0, 0, 0, 0), (39, .iconst 0, 0, 0, 0, 0, 0, 0), (40, .bipush 24, 0, 0, 0, 0, 0, 24), (42, .invokestatic 40, 0, 0, 0, 0, 0, 0), (45, .aload_n 1, 1, 0, 0, 0, 0, 0), (46, .getfield 21, 5, 4, 0, 0, 0, 0), (49, .iconst 0, 0, 0, 0, 0, 0, 0), (50, .aload_n 0, 0, 0, 0, 0, 0, 0), (51, .getfield 21, 5, 4, 0, 0, 0, 0), (54, .iconst 0, 0, 0, 0, 0, 0, 0), (55, .bipush 24, 0, 0, 0, 0, 0, 24), (57, .invokestatic 40, 0, 0, 0, 0, 0, 0), (60, .aload_n 1, 1, 0, 0, 0, 0, 0), (61, .getfield 24, 5, 5, 0, 0, 0, 0), (64, .iconst 0, 0, 0, 0, 0, 0, 0), (65, .aload_n 0, 0, 0, 0, 0, 0, 0), (66, .getfield 24, 5, 5, 0, 0, 0, 0), (69, .iconst 0, 0, 0, 0, 0, 0, 0), (70, .bipush 24, 0, 0, 0, 0, 0, 24), (72, .invokestatic 40, 0, 0, 0, 0, 0, 0), (75, .return_, 0, 0, 0, 0, 0, 0)], [])
-- X5_put
def k58 : pM := ([(0, .aload_n 0, 0, 0, 0, 0, 0, 0), (1, .getfield 9, 5, 1, 0, 0, 0, 0), (4, .iload_n 1, 1, 0, 0, 0, 0, 0), (5, .iload_n 2, 2, 0, 0, 0, 0, 0), (6, .iastore, 0, 0, 0, 0, 0, 0), (7, .aload_n 0, 0, 0, 0, 0, 0, 0), (8, .getfield 15, 5, 2, 0, 0, 0, 0), (11, .iload_n 1, 1, 0, 0, 0, 0, 0), (12, .iload_n 3, 3, 0, 0, 0, 0, 0), (13, .iastore, 0, 0, 0, 0, 0, 0), (14, .aload_n 0, 0, 0, 0, 0, 0, 0), (15, .getfield 18, 5, 3, 0, 0, 0, 0), (18, .iload_n 1, 1, 0, 0, 0, 0, 0), (19, .iload 4, 4, 0, 0, 0, 0, 0), (21, .iastore, 0, 0, 0, 0, 0, 0), (22, .aload_n 0, 0, 0, 0, 0, 0, 0), (23, .getfield 21, 5, 4, 0, 0, 0, 0), (26, .iload_n 1, 1, 0, 0, 0, 0, 0), (27, .iload 5, 5, 0, 0, 0, 0, 0), (29, .iastore, 0, 0, 0, 0, 0, 0), (30, .return_, 0, 0, 0, 0, 0, 0)], [])
-- X5_isChosen
def k59 : pM := ([(0, .aload_n 0, 0, 0, 0, 0, 0, 0), (1, .getfield 9, 5, 1, 0, 0, 0, 0), (4, .iload_n 1, 1, 0, 0, 0, 0, 0), (5, .iaload, 0, 0, 0, 0, 0, 0), (6, .iconst (-1), 0, 0, 0, 0, 0, (-1)), (7, .if_icmp .eq 7, 14, 0, 0, 0, 0, 0), (10, .iconst 1, 0, 0, 0, 0, 0, 1), (11, .goto 4, 15, 0, 0, 0, 0, 0), (14, .iconst 0, 0, 0, 0, 0, 0, 0), (15, .ireturn, 1, 0, 0, 0, 0, 0)], [])
-- X5_isBorrowed
def k60 : pM := ([(0, .aload_n 0, 0, 0, 0, 0, 0, 0), (1, .getfield 9, 5, 1, 0, 0, 0, 0), (4, .iload_n 1, 1, 0, 0, 0, 0, 0), (5, .iaload, 0, 0, 0, 0, 0, 0), (6, .iconst 3, 0, 0, 0, 0, 0, 3), (7, .if_icmp .ne 7, 14, 0, 0, 0, 0, 0), (10, .iconst 1, 0, 0, 0, 0, 0, 1), (11, .goto 4, 15, 0, 0, 0, 0, 0), (14, .iconst 0, 0, 0, 0, 0, 0, 0), (15, .ireturn, 1, 0, 0, 0, 0, 0)], [])
-- X5_chosen
def k61 : pM := ([(0, .iconst 0, 0, 0, 0, 0, 0, 0), (1, .istore_n 1, 1, 0, 0, 0, 0, 0), (2, .iconst 0, 0, 0, 0, 0, 0, 0), (3, .istore_n 2, 2, 0, 0, 0, 0, 0), (4, .iload_n 2, 2, 0, 0, 0, 0, 0), (5, .bipush 24, 0, 0, 0, 0, 0, 24), (7, .if_icmp .ge 25, 32, 0, 0, 0, 0, 0), (10, .iload_n 1, 1, 0, 0, 0, 0, 0), (11, .aload_n 0, 0, 0, 0, 0, 0, 0), (12, .iload_n 2, 2, 0, 0, 0, 0, 0), (13, .invokevirtual 46, 59, 2, 2, 6, 1, 0), (16, .ifCond .eq 7, 23, 0, 0, 0, 0, 0), (19, .iconst 1, 0, 0, 0, 0, 0, 1), (20, .goto 4, 24, 0, 0, 0, 0, 0), (23, .iconst 0, 0, 0, 0, 0, 0, 0), (24, .iadd, 0, 0, 0, 0, 0, 0), (25, .istore_n 1, 1, 0, 0, 0, 0, 0), (26, .iinc 2 1, 2, 0, 0, 0, 0, 1), (29, .goto (-25), 4, 0, 0, 0, 0, 0), (32, .iload_n 1, 1, 0, 0, 0, 0, 0), (33, .ireturn, 0, 0, 0, 0, 0, 0)], [(4, [true, true, true])])
-- X5_noted
def k62 : pM := ([(0, .iconst 0, 0, 0, 0, 0, 0, 0), (1, .istore_n 1, 1, 0, 0, 0, 0, 0), (2, .iconst 0, 0, 0, 0, 0, 0, 0), (3, .istore_n 2, 2, 0, 0, 0, 0, 0), (4, .iload_n 2, 2, 0, 0, 0, 0, 0), (5, .bipush 24, 0, 0, 0, 0, 0, 24), (7, .if_icmp .ge 21, 28, 0, 0, 0, 0, 0), (10, .iload_n 1, 1, 0, 0, 0, 0, 0), (11, .aload_n 0, 0, 0, 0, 0, 0, 0), (12, .getfield 24, 5, 5, 0, 0, 0, 0), (15, .iload_n 2, 2, 0, 0, 0, 0, 0), (16, .iaload, 0, 0, 0, 0, 0, 0), (17, .invokestatic 50, 242, 1, 2, 0, 1, 0), (20, .iadd, 0, 0, 0, 0, 0, 0), (21, .istore_n 1, 1, 0, 0, 0, 0, 0), (22, .iinc 2 1, 2, 0, 0, 0, 0, 1), (25, .goto (-21), 4, 0, 0, 0, 0, 0), (28, .iload_n 1, 1, 0, 0, 0, 0, 0), (29, .ireturn, 0, 0, 0, 0, 0, 0)], [(4, [true, true, true])])
-- X5_traitsAt
def k63 : pM := ([(0, .aload_n 0, 0, 0, 0, 0, 0, 0), (1, .getfield 15, 5, 2, 0, 0, 0, 0), (4, .iload_n 1, 1, 0, 0, 0, 0, 0), (5, .iaload, 0, 0, 0, 0, 0, 0), (6, .aload_n 2, 2, 0, 0, 0, 0, 0), (7, .invokestatic 56, 64, 2, 2, 0, 1, 0), (10, .aload_n 0, 0, 0, 0, 0, 0, 0), (11, .getfield 18, 5, 3, 0, 0, 0, 0), (14, .iload_n 1, 1, 0, 0, 0, 0, 0), (15, .iaload, 0, 0, 0, 0, 0, 0), (16, .aload_n 2, 2, 0, 0, 0, 0, 0), (17, .invokestatic 56, 64, 2, 2, 0, 1, 0), (20, .ior, 0, 0, 0, 0, 0, 0), (21, .aload_n 0, 0, 0, 0, 0, 0, 0), (22, .getfield 21, 5, 4, 0, 0, 0, 0), (25, .iload_n 1, 1, 0, 0, 0, 0, 0), (26, .iaload, 0, 0, 0, 0, 0, 0), (27, .aload_n 2, 2, 0, 0, 0, 0, 0), (28, .invokestatic 56, 64, 2, 2, 0, 1, 0), (31, .ior, 0, 0, 0, 0, 0, 0), (32, .ireturn, 0, 0, 0, 0, 0, 0)], [])
-- X5_traitsOf
def k64 : pM := ([(0, .iload_n 0, 0, 0, 0, 0, 0, 0), (1, .ifCond .lt 15, 16, 0, 0, 0, 0, 0), (4, .iload_n 0, 0, 0, 0, 0, 0, 0), (5, .aload_n 1, 1, 0, 0, 0, 0, 0), (6, .arraylength, 0, 0, 0, 0, 0, 0), (7, .if_icmp .ge 9, 16, 0, 0, 0, 0, 0), (10, .aload_n 1, 1, 0, 0, 0, 0, 0), (11, .iload_n 0, 0, 0, 0, 0, 0, 0), (12, .iaload, 0, 0, 0, 0, 0, 0), (13, .goto 4, 17, 0, 0, 0, 0, 0), (16, .iconst 0, 0, 0, 0, 0, 0, 0), (17, .ireturn, 0, 0, 0, 0, 0, 0)], [])
-- X5_lostAt
def k65 : pM := ([(0, .aload_n 0, 0, 0, 0, 0, 0, 0), (1, .iload_n 1, 1, 0, 0, 0, 0, 0), (2, .invokevirtual 46, 59, 2, 2, 6, 1, 0), (5, .ifCond .ne 5, 10, 0, 0, 0, 0, 0), (8, .iconst 0, 0, 0, 0, 0, 0, 0), (9, .ireturn, 0, 0, 0, 0, 0, 0), (10, .aload_n 0, 0, 0, 0, 0, 0, 0), (11, .getfield 18, 5, 3, 0, 0, 0, 0), (14, .iload_n 1, 1, 0, 0, 0, 0, 0), (15, .iaload, 0, 0, 0, 0, 0, 0), (16, .iconst (-1), 0, 0, 0, 0, 0, (-1)), (17, .if_icmp .ne 7, 24, 0, 0, 0, 0, 0), (20, .iconst 0, 0, 0, 0, 0, 0, 0), (21, .goto 4, 25, 0, 0, 0, 0, 0), (24, .iconst 1, 0, 0, 0, 0, 0, 1), (25, .aload_n 0, 0, 0, 0, 0, 0, 0), (26, .getfield 21, 5, 4, 0, 0, 0, 0), (29, .iload_n 1, 1, 0, 0, 0, 0, 0), (30, .iaload, 0, 0, 0, 0, 0, 0), (31, .iconst (-1), 0, 0, 0, 0, 0, (-1)), (32, .if_icmp .ne 7, 39, 0, 0, 0, 0, 0), (35, .iconst 0, 0, 0, 0, 0, 0, 0), (36, .goto 4, 40, 0, 0, 0, 0, 0), (39, .iconst 1, 0, 0, 0, 0, 0, 1), (40, .iadd, 0, 0, 0, 0, 0, 0), (41, .istore_n 3, 3, 0, 0, 0, 0, 0), (42, .aload_n 0, 0, 0, 0, 0, 0, 0), (43, .getfield 27, 5, 0, 0, 0, 0, 0), (46, .iload_n 1, 1, 0, 0, 0, 0, 0), (47, .aload_n 0, 0, 0, 0, 0, 0, 0), (48, .iload_n 1, 1, 0, 0, 0, 0, 0), (49, .aload_n 2, 2, 0, 0, 0, 0, 0), (50, .invokevirtual 60, 63, 3, 3, 6, 1, 0), (53, .aload_n 0, 0, 0, 0, 0, 0, 0), (54, .getfield 24, 5, 5, 0, 0, 0, 0), (57, .iload_n 1, 1, 0, 0, 0, 0, 0), (58, .iaload, 0, 0, 0, 0, 0, 0), (59, .invokevirtual 63, 12, 4, 4, 1, 1, 0), (62, .iload_n 3, 3, 0, 0, 0, 0, 0), (63, .aload_n 0, 0, 0, 0, 0, 0, 0), (64, .getfield 27, 5, 0, 0, 0, 0, 0), (67, .bipush 8, 0, 0, 0, 0, 0, 8), (69, .invokevirtual 69, 4, 2, 2, 1, 1, 0), (72, .imul, 0, 0, 0, 0, 0, 0), (73, .iadd, 0, 0, 0, 0, 0, 0), (74, .aload_n 0, 0, 0, 0, 0, 0, 0), (75, .iload_n 1, 1, 0, 0, 0, 0, 0), (76, .invokevirtual 72, 60, 2, 2, 6, 1, 0), (79, .ifCond .eq 15, 94, 0, 0, 0, 0, 0), (82, .aload_n 0, 0, 0, 0, 0, 0, 0), (83, .getfield 27, 5, 0, 0, 0, 0, 0), (86, .bipush 7, 0, 0, 0, 0, 0, 7), (88, .invokevirtual 69, 4, 2, 2, 1, 1, 0), (91, .goto 4, 95, 0, 0, 0, 0, 0), (94, .iconst 0, 0, 0, 0, 0, 0, 0), (95, .iadd, 0, 0, 0, 0, 0, 0), (96, .ireturn, 0, 0, 0, 0, 0, 0)], [(40, [true, true, true, false])])
-- X5_lostOfAll
def k66 : pM := ([(0, .iconst 0, 0, 0, 0, 0, 0, 0), (1, .istore_n 2, 2, 0, 0, 0, 0, 0), (2, .iconst 0, 0, 0, 0, 0, 0, 0), (3, .istore_n 3, 3, 0, 0, 0, 0, 0), (4, .iload_n 3, 3, 0, 0, 0, 0, 0), (5, .aload_n 0, 0, 0, 0, 0, 0, 0), (6, .getfield 27, 5, 0, 0, 0, 0, 0), (9, .getfield 75, 0, 0, 0, 0, 0, 0), (12, .iconst 2, 0, 0, 0, 0, 0, 2), (13, .iaload, 0, 0, 0, 0, 0, 0), (14, .if_icmp .ge 18, 32, 0, 0, 0, 0, 0), (17, .iload_n 2, 2, 0, 0, 0, 0, 0), (18, .aload_n 0, 0, 0, 0, 0, 0, 0), (19, .iload_n 3, 3, 0, 0, 0, 0, 0), (20, .aload_n 1, 1, 0, 0, 0, 0, 0), (21, .invokevirtual 78, 65, 3, 5, 6, 1, 0), (24, .iadd, 0, 0, 0, 0, 0, 0), (25, .istore_n 2, 2, 0, 0, 0, 0, 0), (26, .iinc 3 1, 3, 0, 0, 0, 0, 1), (29, .goto (-25), 4, 0, 0, 0, 0, 0), (32, .iload_n 2, 2, 0, 0, 0, 0, 0), (33, .ireturn, 0, 0, 0, 0, 0, 0)], [(4, [true, true, true, true])])
-- X5_clashBits
def k67 : pM := ([(0, .iconst 0, 0, 0, 0, 0, 0, 0), (1, .istore_n 1, 1, 0, 0, 0, 0, 0), (2, .iconst 0, 0, 0, 0, 0, 0, 0), (3, .istore_n 2, 2, 0, 0, 0, 0, 0), (4, .iload_n 2, 2, 0, 0, 0, 0, 0), (5, .aload_n 0, 0, 0, 0, 0, 0, 0), (6, .getfield 27, 5, 0, 0, 0, 0, 0), (9, .getfield 75, 0, 0, 0, 0, 0, 0), (12, .iconst 3, 0, 0, 0, 0, 0, 3), (13, .iaload, 0, 0, 0, 0, 0, 0), (14, .if_icmp .ge 59, 73, 0, 0, 0, 0, 0), (17, .aload_n 0, 0, 0, 0, 0, 0, 0), (18, .getfield 27, 5, 0, 0, 0, 0, 0), (21, .getfield 81, 0, 8, 0, 0, 0, 0), (24, .iload_n 2, 2, 0, 0, 0, 0, 0), (25, .iaload, 0, 0, 0, 0, 0, 0), (26, .istore_n 3, 3, 0, 0, 0, 0, 0), (27, .aload_n 0, 0, 0, 0, 0, 0, 0), (28, .iload_n 3, 3, 0, 0, 0, 0, 0), (29, .invokevirtual 46, 59, 2, 2, 6, 1, 0), (32, .ifCond .eq 35, 67, 0, 0, 0, 0, 0), (35, .aload_n 0, 0, 0, 0, 0, 0, 0), (36, .iload_n 2, 2, 0, 0, 0, 0, 0), (37, .iload_n 3, 3, 0, 0, 0, 0, 0), (38, .aload_n 0, 0, 0, 0, 0, 0, 0), (39, .iload_n 3, 3, 0, 0, 0, 0, 0), (40, .aload_n 0, 0, 0, 0, 0, 0, 0), (41, .getfield 27, 5, 0, 0, 0, 0, 0), (44, .getfield 84, 0, 5, 0, 0, 0, 0), (47, .invokevirtual 60, 63, 3, 3, 6, 1, 0), (50, .aload_n 0, 0, 0, 0, 0, 0, 0), (51, .iload_n 3, 3, 0, 0, 0, 0, 0), (52, .invokevirtual 72, 60, 2, 2, 6, 1, 0), (55, .invokevirtual 87, 68, 5, 4, 6, 1, 0), (58, .ifCond .eq 9, 67, 0, 0, 0, 0, 0), (61, .iload_n 1, 1, 0, 0, 0, 0, 0), (62, .iconst 1, 0, 0, 0, 0, 0, 1), (63, .iload_n 2, 2, 0, 0, 0, 0, 0), (64, .ishl, 0, 0, 0, 0, 0, 0), (65, .ior, 0, 0, 0, 0, 0, 0), (66, .istore_n 1, 1, 0, 0, 0, 0, 0), (67, .iinc 2 1, 2, 0, 0, 0, 0, 1), (70, .goto (-66), 4, 0, 0, 0, 0, 0), (73, .iload_n 1, 1, 0, 0, 0, 0, 0), (74, .ireturn, 0, 0, 0, 0, 0, 0)], [(4, [true, true, true, false])])
-- X5_isClashing
def k68 : pM := ([(0, .aload_n 0, 0, 0, 0, 0, 0, 0), (1, .getfield 27, 5, 0, 0, 0, 0, 0), (4, .iload_n 1, 1, 0, 0, 0, 0, 0), (5, .iload_n 2, 2, 0, 0, 0, 0, 0), (6, .invokevirtual 91, 14, 3, 2, 1, 1, 0), (9, .istore 5, 5, 0, 0, 0, 0, 0), (11, .iload 5, 5, 0, 0, 0, 0, 0), (13, .iconst (-1), 0, 0, 0, 0, 0, (-1)), (14, .if_icmp .eq 60, 74, 0, 0, 0, 0, 0), (17, .aload_n 0, 0, 0, 0, 0, 0, 0), (18, .iload 5, 5, 0, 0, 0, 0, 0), (20, .invokevirtual 46, 59, 2, 2, 6, 1, 0), (23, .ifCond .eq 51, 74, 0, 0, 0, 0, 0), (26, .aload_n 0, 0, 0, 0, 0, 0, 0), (27, .getfield 27, 5, 0, 0, 0, 0, 0), (30, .iload_n 1, 1, 0, 0, 0, 0, 0), (31, .iload_n 3, 3, 0, 0, 0, 0, 0), (32, .aload_n 0, 0, 0, 0, 0, 0, 0), (33, .iload 5, 5, 0, 0, 0, 0, 0), (35, .aload_n 0, 0, 0, 0, 0, 0, 0), (36, .getfield 27, 5, 0, 0, 0, 0, 0), (39, .getfield 84, 0, 5, 0, 0, 0, 0), (42, .invokevirtual 60, 63, 3, 3, 6, 1, 0), (45, .iload 4, 4, 0, 0, 0, 0, 0), (47, .ifCond .eq 16, 63, 0, 0, 0, 0, 0), (50, .aload_n 0, 0, 0, 0, 0, 0, 0), (51, .iload 5, 5, 0, 0, 0, 0, 0), (53, .invokevirtual 72, 60, 2, 2, 6, 1, 0), (56, .ifCond .eq 7, 63, 0, 0, 0, 0, 0), (59, .iconst 1, 0, 0, 0, 0, 0, 1), (60, .goto 4, 64, 0, 0, 0, 0, 0), (63, .iconst 0, 0, 0, 0, 0, 0, 0), (64, .invokevirtual 95, 13, 5, 2, 1, 1, 0), (67, .ifCond .eq 7, 74, 0, 0, 0, 0, 0), (70, .iconst 1, 0, 0, 0, 0, 0, 1), (71, .goto 4, 75, 0, 0, 0, 0, 0), (74, .iconst 0, 0, 0, 0, 0, 0, 0), (75, .ireturn, 1, 0, 0, 0, 0, 0)], [])
-- X5_clashesAt
def k69 : pM := ([(0, .iconst 0, 0, 0, 0, 0, 0, 0), (1, .istore 4, 4, 0, 0, 0, 0, 0), (3, .iconst 0, 0, 0, 0, 0, 0, 0), (4, .istore 5, 5, 0, 0, 0, 0, 0), (6, .iload 5, 5, 0, 0, 0, 0, 0), (8, .aload_n 0, 0, 0, 0, 0, 0, 0), (9, .getfield 27, 5, 0, 0, 0, 0, 0), (12, .getfield 75, 0, 0, 0, 0, 0, 0), (15, .iconst 3, 0, 0, 0, 0, 0, 3), (16, .iaload, 0, 0, 0, 0, 0, 0), (17, .if_icmp .ge 31, 48, 0, 0, 0, 0, 0), (20, .iload 4, 4, 0, 0, 0, 0, 0), (22, .aload_n 0, 0, 0, 0, 0, 0, 0), (23, .iload 5, 5, 0, 0, 0, 0, 0), (25, .iload_n 1, 1, 0, 0, 0, 0, 0), (26, .iload_n 2, 2, 0, 0, 0, 0, 0), (27, .iload_n 3, 3, 0, 0, 0, 0, 0), (28, .invokevirtual 87, 68, 5, 4, 6, 1, 0), (31, .ifCond .eq 7, 38, 0, 0, 0, 0, 0), (34, .iconst 1, 0, 0, 0, 0, 0, 1), (35, .goto 4, 39, 0, 0, 0, 0, 0), (38, .iconst 0, 0, 0, 0, 0, 0, 0), (39, .iadd, 0, 0, 0, 0, 0, 0), (40, .istore 4, 4, 0, 0, 0, 0, 0), (42, .iinc 5 1, 5, 0, 0, 0, 0, 1), (45, .goto (-39), 6, 0, 0, 0, 0, 0), (48, .iload 4, 4, 0, 0, 0, 0, 0), (50, .ireturn, 0, 0, 0, 0, 0, 0)], [(6, [true, true, true, true, true, true])])
-- X5_isBorrowedOption
def k70 : pM := ([(0, .iload_n 1, 1, 0, 0, 0, 0, 0), (1, .aload_n 0, 0, 0, 0, 0, 0, 0), (2, .getfield 27, 5, 0, 0, 0, 0, 0), (5, .getfield 75, 0, 0, 0, 0, 0, 0), (8, .iconst 1, 0, 0, 0, 0, 0, 1), (9, .iaload, 0, 0, 0, 0, 0, 0), (10, .if_icmp .ne 7, 17, 0, 0, 0, 0, 0), (13, .iconst 1, 0, 0, 0, 0, 0, 1), (14, .goto 4, 18, 0, 0, 0, 0, 0), (17, .iconst 0, 0, 0, 0, 0, 0, 0), (18, .ireturn, 1, 0, 0, 0, 0, 0)], [])
-- X5_traitsOfOption
def k71 : pM := ([(0, .aload_n 0, 0, 0, 0, 0, 0, 0), (1, .iload_n 1, 1, 0, 0, 0, 0, 0), (2, .invokevirtual 98, 70, 2, 2, 6, 1, 0), (5, .ifCond .eq 7, 12, 0, 0, 0, 0, 0), (8, .iconst 0, 0, 0, 0, 0, 0, 0), (9, .goto 14, 23, 0, 0, 0, 0, 0), (12, .iload_n 1, 1, 0, 0, 0, 0, 0), (13, .aload_n 0, 0, 0, 0, 0, 0, 0), (14, .getfield 27, 5, 0, 0, 0, 0, 0), (17, .getfield 84, 0, 5, 0, 0, 0, 0), (20, .invokestatic 56, 64, 2, 2, 0, 1, 0), (23, .ireturn, 0, 0, 0, 0, 0, 0)], [])
-- X5_lostWithOption
def k72 : pM := ([(0, .aload_n 0, 0, 0, 0, 0, 0, 0), (1, .getfield 27, 5, 0, 0, 0, 0, 0), (4, .iload_n 1, 1, 0, 0, 0, 0, 0), (5, .aload_n 0, 0, 0, 0, 0, 0, 0), (6, .iload_n 2, 2, 0, 0, 0, 0, 0), (7, .invokevirtual 101, 71, 2, 3, 6, 1, 0), (10, .aload_n 0, 0, 0, 0, 0, 0, 0), (11, .getfield 24, 5, 5, 0, 0, 0, 0), (14, .iload_n 1, 1, 0, 0, 0, 0, 0), (15, .iaload, 0, 0, 0, 0, 0, 0), (16, .invokevirtual 63, 12, 4, 4, 1, 1, 0), (19, .aload_n 0, 0, 0, 0, 0, 0, 0), (20, .iload_n 2, 2, 0, 0, 0, 0, 0), (21, .invokevirtual 98, 70, 2, 2, 6, 1, 0), (24, .ifCond .eq 15, 39, 0, 0, 0, 0, 0), (27, .aload_n 0, 0, 0, 0, 0, 0, 0), (28, .getfield 27, 5, 0, 0, 0, 0, 0), (31, .bipush 7, 0, 0, 0, 0, 0, 7), (33, .invokevirtual 69, 4, 2, 2, 1, 1, 0), (36, .goto 4, 40, 0, 0, 0, 0, 0), (39, .iconst 0, 0, 0, 0, 0, 0, 0), (40, .iadd, 0, 0, 0, 0, 0, 0), (41, .ireturn, 0, 0, 0, 0, 0, 0)], [])
-- X5_putOption
def k73 : pM := ([(0, .aload_n 0, 0, 0, 0, 0, 0, 0), (1, .iload_n 2, 2, 0, 0, 0, 0, 0), (2, .invokevirtual 98, 70, 2, 2, 6, 1, 0), (5, .ifCond .eq 15, 20, 0, 0, 0, 0, 0), (8, .aload_n 0, 0, 0, 0, 0, 0, 0), (9, .iload_n 1, 1, 0, 0, 0, 0, 0), (10, .iconst 3, 0, 0, 0, 0, 0, 3), (11, .iconst (-1), 0, 0, 0, 0, 0, (-1)), (12, .iconst (-1), 0, 0, 0, 0, 0, (-1)), (13, .iconst (-1), 0, 0, 0, 0, 0, (-1)), (14, .invokevirtual 104, 58, 6, 2, 6, 0, 0), (17, .goto 12, 29, 0, 0, 0, 0, 0), (20, .aload_n 0, 0, 0, 0, 0, 0, 0), (21, .iload_n 1, 1, 0, 0, 0, 0, 0), (22, .iconst 0, 0, 0, 0, 0, 0, 0), (23, .iload_n 2, 2, 0, 0, 0, 0, 0), (24, .iconst (-1), 0, 0, 0, 0, 0, (-1)), (25, .iconst (-1), 0, 0, 0, 0, 0, (-1)), (26, .invokevirtual 104, 58, 6, 2, 6, 0, 0), (29, .return_, 0, 0, 0, 0, 0, 0)], [])
-- X5_exchangeRound
def k74 : pM := ([(0, .iconst 0, 0, 0, 0, 0, 0, 0), (1, .istore_n 1, 1, 0, 0, 0, 0, 0), (2, .iconst 0, 0, 0, 0, 0, 0, 0), (3, .istore_n 2, 2, 0, 0, 0, 0, 0), (4, .iload_n 2, 2, 0, 0, 0, 0, 0), (5, .aload_n 0, 0, 0, 0, 0, 0, 0), (6, .getfield 27, 5, 0, 0, 0, 0, 0), (9, .getfield 75, 0, 0, 0, 0, 0, 0), (12, .iconst 2, 0, 0, 0, 0, 0, 2), (13, .iaload, 0, 0, 0, 0, 0, 0), (14, .if_icmp .ge 27, 41, 0, 0, 0, 0, 0), (17, .aload_n 0, 0, 0, 0, 0, 0, 0), (18, .iload_n 2, 2, 0, 0, 0, 0, 0), (19, .invokevirtual 46, 59, 2, 2, 6, 1, 0), (22, .ifCond .eq 13, 35, 0, 0, 0, 0, 0), (25, .aload_n 0, 0, 0, 0, 0, 0, 0), (26, .iload_n 2, 2, 0, 0, 0, 0, 0), (27, .invokevirtual 108, 75, 2, 6, 6, 1, 0), (30, .ifCond .eq 5, 35, 0, 0, 0, 0, 0), (33, .iconst 1, 0, 0, 0, 0, 0, 1), (34, .istore_n 1, 1, 0, 0, 0, 0, 0), (35, .iinc 2 1, 2, 0, 0, 0, 0, 1), (38, .goto (-34), 4, 0, 0, 0, 0, 0), (41, .iload_n 1, 1, 0, 0, 0, 0, 0), (42, .ireturn, 1, 0, 0, 0, 0, 0)], [(4, [true, true, true])])
-- X5_exchangeAt
def k75 : pM := ([(0, .aload_n 0, 0, 0, 0, 0, 0, 0), (1, .iload_n 1, 1, 0, 0, 0, 0, 0), (2, .aload_n 0, 0, 0, 0, 0, 0, 0), (3, .getfield 27, 5, 0, 0, 0, 0, 0), (6, .getfield 84, 0, 5, 0, 0, 0, 0), (9, .invokevirtual 78, 65, 3, 5, 6, 1, 0), (12, .bipush 100, 0, 0, 0, 0, 0, 100), (14, .aload_n 0, 0, 0, 0, 0, 0, 0), (15, .iload_n 1, 1, 0, 0, 0, 0, 0), (16, .aload_n 0, 0, 0, 0, 0, 0, 0), (17, .iload_n 1, 1, 0, 0, 0, 0, 0), (18, .aload_n 0, 0, 0, 0, 0, 0, 0), (19, .getfield 27, 5, 0, 0, 0, 0, 0), (22, .getfield 84, 0, 5, 0, 0, 0, 0), (25, .invokevirtual 60, 63, 3, 3, 6, 1, 0), (28, .aload_n 0, 0, 0, 0, 0, 0, 0), (29, .iload_n 1, 1, 0, 0, 0, 0, 0), (30, .invokevirtual 72, 60, 2, 2, 6, 1, 0), (33, .invokevirtual 111, 69, 4, 5, 6, 1, 0), (36, .imul, 0, 0, 0, 0, 0, 0), (37, .iadd, 0, 0, 0, 0, 0, 0), (38, .istore_n 2, 2, 0, 0, 0, 0, 0), (39, .iconst (-1), 0, 0, 0, 0, 0, (-1)), (40, .istore_n 3, 3, 0, 0, 0, 0, 0), (41, .iconst 0, 0, 0, 0, 0, 0, 0), (42, .istore 4, 4, 0, 0, 0, 0, 0), (44, .iload 4, 4, 0, 0, 0, 0, 0), (46, .aload_n 0, 0, 0, 0, 0, 0, 0), (47, .getfield 27, 5, 0, 0, 0, 0, 0), (50, .getfield 75, 0, 0, 0, 0, 0, 0), (53, .iconst 1, 0, 0, 0, 0, 0, 1), (54, .iaload, 0, 0, 0, 0, 0, 0), (55, .if_icmp .gt 51, 106, 0, 0, 0, 0, 0), (58, .aload_n 0, 0, 0, 0, 0, 0, 0), (59, .iload_n 1, 1, 0, 0, 0, 0, 0), (60, .iload 4, 4, 0, 0, 0, 0, 0), (62, .invokevirtual 115, 72, 3, 5, 6, 1, 0), (65, .bipush 100, 0, 0, 0, 0, 0, 100), (67, .aload_n 0, 0, 0, 0, 0, 0, 0), (68, .iload_n 1, 1, 0, 0, 0, 0, 0), (69, .aload_n 0, 0, 0, 0, 0, 0, 0), (70, .iload 4, 4, 0, 0, 0, 0, 0), (72, .invokevirtual 101, 71, 2, 3, 6, 1, 0), (75, .aload_n 0, 0, 0, 0, 0, 0, 0), (76, .iload 4, 4, 0, 0, 0, 0, 0), (78, .invokevirtual 98, 70, 2, 2, 6, 1, 0), (81, .invokevirtual 111, 69, 4, 5, 6, 1, 0), (84, .imul, 0, 0, 0, 0, 0, 0), (85, .iadd, 0, 0, 0, 0, 0, 0), (86, .istore 5, 5, 0, 0, 0, 0, 0), (88, .iload 5, 5, 0, 0, 0, 0, 0), (90, .iload_n 2, 2, 0, 0, 0, 0, 0), (91, .if_icmp .ge 9, 100, 0, 0, 0, 0, 0), (94, .iload 5, 5, 0, 0, 0, 0, 0), (96, .istore_n 2, 2, 0, 0, 0, 0, 0), (97, .iload 4, 4, 0, 0, 0, 0, 0), (99, .istore_n 3, 3, 0, 0, 0, 0, 0), (100, .iinc 4 1, 4, 0, 0, 0, 0, 1), (103, .goto (-59), 44, 0, 0, 0, 0, 0), (106, .iload_n 3, 3, 0, 0, 0, 0, 0), (107, .iconst (-1), 0, 0, 0, 0, 0, (-1)), (108, .if_icmp .ne 5, 113, 0, 0, 0, 0, 0), (111, .iconst 0, 0, 0, 0, 0, 0, 0), (112, .ireturn, 1, 0, 0, 0, 0, 0), (113, .aload_n 0, 0, 0, 0, 0, 0, 0), (114, .iload_n 1, 1, 0, 0, 0, 0, 0), (115, .iload_n 3, 3, 0, 0, 0, 0, 0), (116, .invokevirtual 118, 73, 3, 3, 6, 0, 0), (119, .iconst 1, 0, 0, 0, 0, 0, 1), (120, .ireturn, 1, 0, 0, 0, 0, 0)], [(44, [true, true, true, true, true, false])])
-- X5_lostWithWord
def k76 : pM := ([(0, .iconst 0, 0, 0, 0, 0, 0, 0), (1, .istore_n 3, 3, 0, 0, 0, 0, 0), (2, .iconst 0, 0, 0, 0, 0, 0, 0), (3, .istore 4, 4, 0, 0, 0, 0, 0), (5, .iload 4, 4, 0, 0, 0, 0, 0), (7, .aload_n 0, 0, 0, 0, 0, 0, 0), (8, .getfield 27, 5, 0, 0, 0, 0, 0), (11, .getfield 75, 0, 0, 0, 0, 0, 0), (14, .iconst 2, 0, 0, 0, 0, 0, 2), (15, .iaload, 0, 0, 0, 0, 0, 0), (16, .if_icmp .ge 33, 49, 0, 0, 0, 0, 0), (19, .aload_n 0, 0, 0, 0, 0, 0, 0), (20, .getfield 27, 5, 0, 0, 0, 0, 0), (23, .getfield 122, 0, 6, 0, 0, 0, 0), (26, .iload 4, 4, 0, 0, 0, 0, 0), (28, .iaload, 0, 0, 0, 0, 0, 0), (29, .iload_n 1, 1, 0, 0, 0, 0, 0), (30, .if_icmp .ne 13, 43, 0, 0, 0, 0, 0), (33, .iload_n 3, 3, 0, 0, 0, 0, 0), (34, .aload_n 0, 0, 0, 0, 0, 0, 0), (35, .iload 4, 4, 0, 0, 0, 0, 0), (37, .iload_n 2, 2, 0, 0, 0, 0, 0), (38, .invokevirtual 115, 72, 3, 5, 6, 1, 0), (41, .iadd, 0, 0, 0, 0, 0, 0), (42, .istore_n 3, 3, 0, 0, 0, 0, 0), (43, .iinc 4 1, 4, 0, 0, 0, 0, 1), (46, .goto (-41), 5, 0, 0, 0, 0, 0), (49, .iload_n 3, 3, 0, 0, 0, 0, 0), (50, .ireturn, 0, 0, 0, 0, 0, 0)], [(5, [true, true, true, true, true])])
-- X5_lostWithLeast
def k77 : pM := ([(0, .iconst 0, 0, 0, 0, 0, 0, 0), (1, .istore_n 2, 2, 0, 0, 0, 0, 0), (2, .iconst 0, 0, 0, 0, 0, 0, 0), (3, .istore_n 3, 3, 0, 0, 0, 0, 0), (4, .iload_n 3, 3, 0, 0, 0, 0, 0), (5, .aload_n 0, 0, 0, 0, 0, 0, 0), (6, .getfield 27, 5, 0, 0, 0, 0, 0), (9, .getfield 75, 0, 0, 0, 0, 0, 0), (12, .iconst 2, 0, 0, 0, 0, 0, 2), (13, .iaload, 0, 0, 0, 0, 0, 0), (14, .if_icmp .ge 84, 98, 0, 0, 0, 0, 0), (17, .aload_n 0, 0, 0, 0, 0, 0, 0), (18, .getfield 27, 5, 0, 0, 0, 0, 0), (21, .getfield 122, 0, 6, 0, 0, 0, 0), (24, .iload_n 3, 3, 0, 0, 0, 0, 0), (25, .iaload, 0, 0, 0, 0, 0, 0), (26, .iload_n 1, 1, 0, 0, 0, 0, 0), (27, .if_icmp .ne 65, 92, 0, 0, 0, 0, 0), (30, .aload_n 0, 0, 0, 0, 0, 0, 0), (31, .getfield 27, 5, 0, 0, 0, 0, 0), (34, .getfield 75, 0, 0, 0, 0, 0, 0), (37, .iconst 1, 0, 0, 0, 0, 0, 1), (38, .iaload, 0, 0, 0, 0, 0, 0), (39, .ifCond .le 53, 92, 0, 0, 0, 0, 0), (42, .aload_n 0, 0, 0, 0, 0, 0, 0), (43, .iload_n 3, 3, 0, 0, 0, 0, 0), (44, .iconst 0, 0, 0, 0, 0, 0, 0), (45, .invokevirtual 115, 72, 3, 5, 6, 1, 0), (48, .istore 4, 4, 0, 0, 0, 0, 0), (50, .iconst 1, 0, 0, 0, 0, 0, 1), (51, .istore 5, 5, 0, 0, 0, 0, 0), (53, .iload 5, 5, 0, 0, 0, 0, 0), (55, .aload_n 0, 0, 0, 0, 0, 0, 0), (56, .getfield 27, 5, 0, 0, 0, 0, 0), (59, .getfield 75, 0, 0, 0, 0, 0, 0), (62, .iconst 1, 0, 0, 0, 0, 0, 1), (63, .iaload, 0, 0, 0, 0, 0, 0), (64, .if_icmp .ge 23, 87, 0, 0, 0, 0, 0), (67, .iload 4, 4, 0, 0, 0, 0, 0), (69, .aload_n 0, 0, 0, 0, 0, 0, 0), (70, .iload_n 3, 3, 0, 0, 0, 0, 0), (71, .iload 5, 5, 0, 0, 0, 0, 0), (73, .invokevirtual 115, 72, 3, 5, 6, 1, 0), (76, .invokestatic 125, 0, 2, 0, 0, 0, 0), (79, .istore 4, 4, 0, 0, 0, 0, 0), (81, .iinc 5 1, 5, 0, 0, 0, 0, 1), (84, .goto (-31), 53, 0, 0, 0, 0, 0), (87, .iload_n 2, 2, 0, 0, 0, 0, 0), (88, .iload 4, 4, 0, 0, 0, 0, 0), (90, .iadd, 0, 0, 0, 0, 0, 0), (91, .istore_n 2, 2, 0, 0, 0, 0, 0), (92, .iinc 3 1, 3, 0, 0, 0, 0, 1), (95, .goto (-91), 4, 0, 0, 0, 0, 0), (98, .iload_n 2, 2, 0, 0, 0, 0, 0), (99, .ireturn, 0, 0, 0, 0, 0, 0)], [(4, [true, true, true, true, false, false]), (53, [true, true, true, true, true, true])])
-- X5_oneWord
def k78 : pM := ([(0, .iconst (-1), 0, 0, 0, 0, 0, (-1)), (1, .istore_n 2, 2, 0, 0, 0, 0, 0), (2, .iconst 0, 0, 0, 0, 0, 0, 0), (3, .istore_n 3, 3, 0, 0, 0, 0, 0), (4, .iconst 0, 0, 0, 0, 0, 0, 0), (5, .istore 4, 4, 0, 0, 0, 0, 0), (7, .iload 4, 4, 0, 0, 0, 0, 0), (9, .aload_n 0, 0, 0, 0, 0, 0, 0), (10, .getfield 27, 5, 0, 0, 0, 0, 0), (13, .getfield 75, 0, 0, 0, 0, 0, 0), (16, .iconst 1, 0, 0, 0, 0, 0, 1), (17, .iaload, 0, 0, 0, 0, 0, 0), (18, .if_icmp .ge 35, 53, 0, 0, 0, 0, 0), (21, .aload_n 0, 0, 0, 0, 0, 0, 0), (22, .iload_n 1, 1, 0, 0, 0, 0, 0), (23, .iload 4, 4, 0, 0, 0, 0, 0), (25, .invokevirtual 130, 76, 3, 6, 6, 1, 0), (28, .istore 5, 5, 0, 0, 0, 0, 0), (30, .iload_n 2, 2, 0, 0, 0, 0, 0), (31, .iconst (-1), 0, 0, 0, 0, 0, (-1)), (32, .if_icmp .eq 9, 41, 0, 0, 0, 0, 0), (35, .iload 5, 5, 0, 0, 0, 0, 0), (37, .iload_n 3, 3, 0, 0, 0, 0, 0), (38, .if_icmp .ge 9, 47, 0, 0, 0, 0, 0), (41, .iload 4, 4, 0, 0, 0, 0, 0), (43, .istore_n 2, 2, 0, 0, 0, 0, 0), (44, .iload 5, 5, 0, 0, 0, 0, 0), (46, .istore_n 3, 3, 0, 0, 0, 0, 0), (47, .iinc 4 1, 4, 0, 0, 0, 0, 1), (50, .goto (-43), 7, 0, 0, 0, 0, 0), (53, .iload_n 2, 2, 0, 0, 0, 0, 0), (54, .ireturn, 0, 0, 0, 0, 0, 0)], [(7, [true, true, true, true, true, false])])
-- X5_mendOnce
def k79 : pM := ([(0, .iconst 0, 0, 0, 0, 0, 0, 0), (1, .istore_n 1, 1, 0, 0, 0, 0, 0), (2, .iconst 0, 0, 0, 0, 0, 0, 0), (3, .istore_n 2, 2, 0, 0, 0, 0, 0), (4, .iconst 0, 0, 0, 0, 0, 0, 0), (5, .istore_n 3, 3, 0, 0, 0, 0, 0), (6, .iconst 0, 0, 0, 0, 0, 0, 0), (7, .istore 4, 4, 0, 0, 0, 0, 0), (9, .iload 4, 4, 0, 0, 0, 0, 0), (11, .aload_n 0, 0, 0, 0, 0, 0, 0), (12, .getfield 27, 5, 0, 0, 0, 0, 0), (15, .getfield 75, 0, 0, 0, 0, 0, 0), (18, .iconst 2, 0, 0, 0, 0, 0, 2), (19, .iaload, 0, 0, 0, 0, 0, 0), (20, .if_icmp .ge 79, 99, 0, 0, 0, 0, 0), (23, .aload_n 0, 0, 0, 0, 0, 0, 0), (24, .iload 4, 4, 0, 0, 0, 0, 0), (26, .invokevirtual 133, 80, 2, 4, 6, 1, 0), (29, .istore 5, 5, 0, 0, 0, 0, 0), (31, .iconst 0, 0, 0, 0, 0, 0, 0), (32, .istore 6, 6, 0, 0, 0, 0, 0), (34, .iload 6, 6, 0, 0, 0, 0, 0), (36, .bipush 24, 0, 0, 0, 0, 0, 24), (38, .if_icmp .ge 55, 93, 0, 0, 0, 0, 0), (41, .iload 5, 5, 0, 0, 0, 0, 0), (43, .ifCond .eq 50, 93, 0, 0, 0, 0, 0), (46, .iload 5, 5, 0, 0, 0, 0, 0), (48, .iload 6, 6, 0, 0, 0, 0, 0), (50, .ishr, 0, 0, 0, 0, 0, 0), (51, .iconst 1, 0, 0, 0, 0, 0, 1), (52, .iand, 0, 0, 0, 0, 0, 0), (53, .ifCond .eq 34, 87, 0, 0, 0, 0, 0), (56, .aload_n 0, 0, 0, 0, 0, 0, 0), (57, .getfield 27, 5, 0, 0, 0, 0, 0), (60, .getfield 136, 0, 2, 0, 0, 0, 0), (63, .iload 6, 6, 0, 0, 0, 0, 0), (65, .iaload, 0, 0, 0, 0, 0, 0), (66, .iload_n 1, 1, 0, 0, 0, 0, 0), (67, .if_icmp .le 20, 87, 0, 0, 0, 0, 0), (70, .aload_n 0, 0, 0, 0, 0, 0, 0), (71, .getfield 27, 5, 0, 0, 0, 0, 0), (74, .getfield 136, 0, 2, 0, 0, 0, 0), (77, .iload 6, 6, 0, 0, 0, 0, 0), (79, .iaload, 0, 0, 0, 0, 0, 0), (80, .istore_n 1, 1, 0, 0, 0, 0, 0), (81, .iload 4, 4, 0, 0, 0, 0, 0), (83, .istore_n 2, 2, 0, 0, 0, 0, 0), (84, .iload 6, 6, 0, 0, 0, 0, 0), (86, .istore_n 3, 3, 0, 0, 0, 0, 0), (87, .iinc 6 1, 6, 0, 0, 0, 0, 1), (90, .goto (-56), 34, 0, 0, 0, 0, 0), (93, .iinc 4 1, 4, 0, 0, 0, 0, 1), (96, .goto (-87), 9, 0, 0, 0, 0, 0), (99, .iload_n 1, 1, 0, 0, 0, 0, 0), (100, .ifCond .ne 5, 105, 0, 0, 0, 0, 0), (103, .iconst 0, 0, 0, 0, 0, 0, 0), (104, .ireturn, 1, 0, 0, 0, 0, 0), (105, .aload_n 0, 0, 0, 0, 0, 0, 0), (106, .getfield 24, 5, 5, 0, 0, 0, 0), (109, .iload_n 2, 2, 0, 0, 0, 0, 0), (110, .dup2, 0, 0, 0, 0, 0, 0), (111, .iaload, 0, 0, 0, 0, 0, 0), (112, .iconst 1, 0, 0, 0, 0, 0, 1), (113, .iload_n 3, 3, 0, 0, 0, 0, 0), (114, .ishl, 0, 0, 0, 0, 0, 0), (115, .ior, 0, 0, 0, 0, 0, 0), (116, .iastore, 0, 0, 0, 0, 0, 0), (117, .iconst 1, 0, 0, 0, 0, 0, 1), (118, .ireturn, 1, 0, 0, 0, 0, 0)], [(9, [true, true, true, true, true, false, false]), (34, [true, true, true, true, true, true, true])])
-- X5_untoldLacks
def k80 : pM := ([(0, .aload_n 0, 0, 0, 0, 0, 0, 0), (1, .iload_n 1, 1, 0, 0, 0, 0, 0), (2, .invokevirtual 46, 59, 2, 2, 6, 1, 0), (5, .ifCond .eq 35, 40, 0, 0, 0, 0, 0), (8, .aload_n 0, 0, 0, 0, 0, 0, 0), (9, .getfield 27, 5, 0, 0, 0, 0, 0), (12, .iload_n 1, 1, 0, 0, 0, 0, 0), (13, .aload_n 0, 0, 0, 0, 0, 0, 0), (14, .iload_n 1, 1, 0, 0, 0, 0, 0), (15, .aload_n 0, 0, 0, 0, 0, 0, 0), (16, .getfield 27, 5, 0, 0, 0, 0, 0), (19, .getfield 84, 0, 5, 0, 0, 0, 0), (22, .invokevirtual 60, 63, 3, 3, 6, 1, 0), (25, .invokevirtual 139, 10, 3, 2, 1, 1, 0), (28, .aload_n 0, 0, 0, 0, 0, 0, 0), (29, .getfield 24, 5, 5, 0, 0, 0, 0), (32, .iload_n 1, 1, 0, 0, 0, 0, 0), (33, .iaload, 0, 0, 0, 0, 0, 0), (34, .iconst (-1), 0, 0, 0, 0, 0, (-1)), (35, .ixor, 0, 0, 0, 0, 0, 0), (36, .iand, 0, 0, 0, 0, 0, 0), (37, .goto 4, 41, 0, 0, 0, 0, 0), (40, .iconst 0, 0, 0, 0, 0, 0, 0), (41, .ireturn, 0, 0, 0, 0, 0, 0)], [])
-- X5_heardAt
def k81 : pM := ([(0, .aload_n 0, 0, 0, 0, 0, 0, 0), (1, .iload_n 2, 2, 0, 0, 0, 0, 0), (2, .aload_n 0, 0, 0, 0, 0, 0, 0), (3, .getfield 27, 5, 0, 0, 0, 0, 0), (6, .getfield 84, 0, 5, 0, 0, 0, 0), (9, .invokevirtual 60, 63, 3, 3, 6, 1, 0), (12, .aload_n 0, 0, 0, 0, 0, 0, 0), (13, .getfield 24, 5, 5, 0, 0, 0, 0), (16, .iload_n 2, 2, 0, 0, 0, 0, 0), (17, .iaload, 0, 0, 0, 0, 0, 0), (18, .ior, 0, 0, 0, 0, 0, 0), (19, .aload_n 0, 0, 0, 0, 0, 0, 0), (20, .getfield 27, 5, 0, 0, 0, 0, 0), (23, .getfield 142, 0, 11, 0, 0, 0, 0), (26, .iload_n 1, 1, 0, 0, 0, 0, 0), (27, .iaload, 0, 0, 0, 0, 0, 0), (28, .iand, 0, 0, 0, 0, 0, 0), (29, .ireturn, 0, 0, 0, 0, 0, 0)], [])
-- X5_rightOf
def k82 : pM := ([(0, .iconst 0, 0, 0, 0, 0, 0, 0), (1, .istore_n 2, 2, 0, 0, 0, 0, 0), (2, .iconst 0, 0, 0, 0, 0, 0, 0), (3, .istore_n 3, 3, 0, 0, 0, 0, 0), (4, .iload_n 3, 3, 0, 0, 0, 0, 0), (5, .aload_n 0, 0, 0, 0, 0, 0, 0), (6, .getfield 27, 5, 0, 0, 0, 0, 0), (9, .getfield 75, 0, 0, 0, 0, 0, 0), (12, .iconst 2, 0, 0, 0, 0, 0, 2), (13, .iaload, 0, 0, 0, 0, 0, 0), (14, .if_icmp .ge 45, 59, 0, 0, 0, 0, 0), (17, .aload_n 0, 0, 0, 0, 0, 0, 0), (18, .iload_n 3, 3, 0, 0, 0, 0, 0), (19, .invokevirtual 46, 59, 2, 2, 6, 1, 0), (22, .ifCond .eq 31, 53, 0, 0, 0, 0, 0), (25, .aload_n 0, 0, 0, 0, 0, 0, 0), (26, .getfield 27, 5, 0, 0, 0, 0, 0), (29, .aload_n 0, 0, 0, 0, 0, 0, 0), (30, .iload_n 1, 1, 0, 0, 0, 0, 0), (31, .iload_n 3, 3, 0, 0, 0, 0, 0), (32, .invokevirtual 145, 81, 3, 4, 6, 1, 0), (35, .invokevirtual 148, 17, 2, 3, 1, 1, 0), (38, .aload_n 0, 0, 0, 0, 0, 0, 0), (39, .getfield 27, 5, 0, 0, 0, 0, 0), (42, .getfield 122, 0, 6, 0, 0, 0, 0), (45, .iload_n 3, 3, 0, 0, 0, 0, 0), (46, .iaload, 0, 0, 0, 0, 0, 0), (47, .if_icmp .ne 6, 53, 0, 0, 0, 0, 0), (50, .iinc 2 1, 2, 0, 0, 0, 0, 1), (53, .iinc 3 1, 3, 0, 0, 0, 0, 1), (56, .goto (-52), 4, 0, 0, 0, 0, 0), (59, .iload_n 2, 2, 0, 0, 0, 0, 0), (60, .ireturn, 0, 0, 0, 0, 0, 0)], [(4, [true, true, true, true])])
-- X6_putBest
def k83 : pM := ([(0, .aload_n 0, 0, 0, 0, 0, 0, 0), (1, .aload_n 1, 1, 0, 0, 0, 0, 0), (2, .iload_n 2, 2, 0, 0, 0, 0, 0), (3, .invokevirtual 36, 84, 3, 6, 7, 0, 0), (6, .iconst 0, 0, 0, 0, 0, 0, 0), (7, .istore_n 3, 3, 0, 0, 0, 0, 0), (8, .iload_n 3, 3, 0, 0, 0, 0, 0), (9, .aload_n 0, 0, 0, 0, 0, 0, 0), (10, .getfield 32, 6, 0, 0, 0, 0, 0), (13, .getfield 40, 0, 0, 0, 0, 0, 0), (16, .iconst 3, 0, 0, 0, 0, 0, 3), (17, .iaload, 0, 0, 0, 0, 0, 0), (18, .if_icmp .ge 15, 33, 0, 0, 0, 0, 0), (21, .aload_n 0, 0, 0, 0, 0, 0, 0), (22, .aload_n 1, 1, 0, 0, 0, 0, 0), (23, .iload_n 3, 3, 0, 0, 0, 0, 0), (24, .invokevirtual 45, 86, 3, 6, 7, 0, 0), (27, .iinc 3 1, 3, 0, 0, 0, 0, 1), (30, .goto (-22), 8, 0, 0, 0, 0, 0), (33, .aload_n 0, 0, 0, 0, 0, 0, 0), (34, .iconst 0, 0, 0, 0, 0, 0, 0), (35, .iconst 0, 0, 0, 0, 0, 0, 0), (36, .invokevirtual 48, 89, 3, 10, 7, 0, 0), (39, .aload_n 0, 0, 0, 0, 0, 0, 0), (40, .getfield 52, 6, 9, 0, 0, 0, 0), (43, .ldc 56, 0, 0, 0, 0, 0, 16777216), (45, .if_icmp .ne 5, 50, 0, 0, 0, 0, 0), (48, .iconst 0, 0, 0, 0, 0, 0, 0), (49, .ireturn, 1, 0, 0, 0, 0, 0), (50, .iconst 0, 0, 0, 0, 0, 0, 0), (51, .istore_n 3, 3, 0, 0, 0, 0, 0), (52, .iload_n 3, 3, 0, 0, 0, 0, 0), (53, .aload_n 0, 0, 0, 0, 0, 0, 0), (54, .getfield 57, 6, 7, 0, 0, 0, 0), (57, .if_icmp .ge 25, 82, 0, 0, 0, 0, 0), (60, .aload_n 1, 1, 0, 0, 0, 0, 0), (61, .aload_n 0, 0, 0, 0, 0, 0, 0), (62, .getfield 9, 6, 1, 0, 0, 0, 0), (65, .iload_n 3, 3, 0, 0, 0, 0, 0), (66, .iaload, 0, 0, 0, 0, 0, 0), (67, .aload_n 0, 0, 0, 0, 0, 0, 0), (68, .getfield 29, 6, 6, 0, 0, 0, 0), (71, .iload_n 3, 3, 0, 0, 0, 0, 0), (72, .iaload, 0, 0, 0, 0, 0, 0), (73, .invokevirtual 60, 73, 3, 3, 6, 0, 0), (76, .iinc 3 1, 3, 0, 0, 0, 0, 1), (79, .goto (-27), 52, 0, 0, 0, 0, 0), (82, .iconst 1, 0, 0, 0, 0, 0, 1), (83, .ireturn, 1, 0, 0, 0, 0, 0)], [(8, [true, true, false, true]), (52, [true, true, false, true])])
-- X6_begin
def k84 : pM := ([(0, .aload_n 0, 0, 0, 0, 0, 0, 0), (1, .ldc 56, 0, 0, 0, 0, 0, 16777216), (3, .putfield 52, 6, 9, 0, 0, 0, 0), (6, .aload_n 0, 0, 0, 0, 0, 0, 0), (7, .aload_n 0, 0, 0, 0, 0, 0, 0), (8, .getfield 32, 6, 0, 0, 0, 0, 0), (11, .getfield 40, 0, 0, 0, 0, 0, 0), (14, .iconst 1, 0, 0, 0, 0, 0, 1), (15, .iaload, 0, 0, 0, 0, 0, 0), (16, .iconst 1, 0, 0, 0, 0, 0, 1), (17, .iadd, 0, 0, 0, 0, 0, 0), (18, .putfield 65, 6, 8, 0, 0, 0, 0), (21, .aload_n 0, 0, 0, 0, 0, 0, 0), (22, .iconst 0, 0, 0, 0, 0, 0, 0), (23, .putfield 57, 6, 7, 0, 0, 0, 0), (26, .iconst 0, 0, 0, 0, 0, 0, 0), (27, .istore_n 3, 3, 0, 0, 0, 0, 0), (28, .iload_n 3, 3, 0, 0, 0, 0, 0), (29, .aload_n 0, 0, 0, 0, 0, 0, 0), (30, .getfield 32, 6, 0, 0, 0, 0, 0), (33, .getfield 40, 0, 0, 0, 0, 0, 0), (36, .iconst 2, 0, 0, 0, 0, 0, 2), (37, .iaload, 0, 0, 0, 0, 0, 0), (38, .if_icmp .ge 101, 139, 0, 0, 0, 0, 0), (41, .iload_n 2, 2, 0, 0, 0, 0, 0), (42, .iload_n 3, 3, 0, 0, 0, 0, 0), (43, .ishr, 0, 0, 0, 0, 0, 0), (44, .iconst 1, 0, 0, 0, 0, 0, 1), (45, .iand, 0, 0, 0, 0, 0, 0), (46, .ifCond .eq 87, 133, 0, 0, 0, 0, 0), (49, .aload_n 0, 0, 0, 0, 0, 0, 0), (50, .getfield 57, 6, 7, 0, 0, 0, 0), (53, .iconst 4, 0, 0, 0, 0, 0, 4), (54, .if_icmp .ge 79, 133, 0, 0, 0, 0, 0), (57, .aload_n 0, 0, 0, 0, 0, 0, 0), (58, .getfield 9, 6, 1, 0, 0, 0, 0), (61, .aload_n 0, 0, 0, 0, 0, 0, 0), (62, .getfield 57, 6, 7, 0, 0, 0, 0), (65, .iload_n 3, 3, 0, 0, 0, 0, 0), (66, .iastore, 0, 0, 0, 0, 0, 0), (67, .iconst 0, 0, 0, 0, 0, 0, 0), (68, .istore 4, 4, 0, 0, 0, 0, 0), (70, .iload 4, 4, 0, 0, 0, 0, 0), (72, .aload_n 0, 0, 0, 0, 0, 0, 0), (73, .getfield 65, 6, 8, 0, 0, 0, 0), (76, .if_icmp .ge 28, 104, 0, 0, 0, 0, 0), (79, .aload_n 0, 0, 0, 0, 0, 0, 0), (80, .getfield 17, 6, 2, 0, 0, 0, 0), (83, .aload_n 0, 0, 0, 0, 0, 0, 0), (84, .getfield 57, 6, 7, 0, 0, 0, 0), (87, .aaload, 0, 0, 0, 0, 0, 0), (88, .iload 4, 4, 0, 0, 0, 0, 0), (90, .aload_n 1, 1, 0, 0, 0, 0, 0), (91, .iload_n 3, 3, 0, 0, 0, 0, 0), (92, .iload 4, 4, 0, 0, 0, 0, 0), (94, .invokevirtual 68, 72, 3, 5, 6, 1, 0), (97, .iastore, 0, 0, 0, 0, 0, 0), (98, .iinc 4 1, 4, 0, 0, 0, 0, 1), (101, .goto (-31), 70, 0, 0, 0, 0, 0), (104, .aload_n 0, 0, 0, 0, 0, 0, 0), (105, .getfield 23, 6, 4, 0, 0, 0, 0), (108, .iconst 0, 0, 0, 0, 0, 0, 0), (109, .aaload, 0, 0, 0, 0, 0, 0), (110, .aload_n 0, 0, 0, 0, 0, 0, 0), (111, .getfield 57, 6, 7, 0, 0, 0, 0), (114, .iconst 1, 0, 0, 0, 0, 0, 1), (115, .aload_n 0, 0, 0, 0, 0, 0, 0), (116, .getfield 65, 6, 8, 0, 0, 0, 0), (119, .ishl, 0, 0, 0, 0, 0, 0), (120, .iconst 1, 0, 0, 0, 0, 0, 1), (121, .isub, 0, 0, 0, 0, 0, 0), (122, .iastore, 0, 0, 0, 0, 0, 0), (123, .aload_n 0, 0, 0, 0, 0, 0, 0), (124, .dup, 0, 0, 0, 0, 0, 0), (125, .getfield 57, 6, 7, 0, 0, 0, 0), (128, .iconst 1, 0, 0, 0, 0, 0, 1), (129, .iadd, 0, 0, 0, 0, 0, 0), (130, .putfield 57, 6, 7, 0, 0, 0, 0), (133, .iinc 3 1, 3, 0, 0, 0, 0, 1), (136, .goto (-108), 28, 0, 0, 0, 0, 0), (139, .iconst 0, 0, 0, 0, 0, 0, 0), (140, .istore_n 3, 3, 0, 0, 0, 0, 0), (141, .iload_n 3, 3, 0, 0, 0, 0, 0), (142, .bipush 16, 0, 0, 0, 0, 0, 16), (144, .if_icmp .ge 26, 170, 0, 0, 0, 0, 0), (147, .aload_n 0, 0, 0, 0, 0, 0, 0), (148, .getfield 20, 6, 3, 0, 0, 0, 0), (151, .iload_n 3, 3, 0, 0, 0, 0, 0), (152, .aaload, 0, 0, 0, 0, 0, 0), (153, .iconst 1, 0, 0, 0, 0, 0, 1), (154, .aload_n 0, 0, 0, 0, 0, 0, 0), (155, .getfield 65, 6, 8, 0, 0, 0, 0), (158, .ishl, 0, 0, 0, 0, 0, 0), (159, .iconst 1, 0, 0, 0, 0, 0, 1), (160, .isub, 0, 0, 0, 0, 0, 0), (161, .invokestatic 72, 243, 2, 2, 0, 0, 0), (164, .iinc 3 1, 3, 0, 0, 0, 0, 1), (167, .goto (-26), 141, 0, 0, 0, 0, 0), (170, .return_, 0, 0, 0, 0, 0, 0)], [(28, [true, true, true, true, false]), (70, [true, true, true, true, true]), (141, [true, false, false, true, false])])
-- X6_levelOf
def k85 : pM := ([(0, .iconst 0, 0, 0, 0, 0, 0, 0), (1, .istore_n 2, 2, 0, 0, 0, 0, 0), (2, .iload_n 2, 2, 0, 0, 0, 0, 0), (3, .aload_n 0, 0, 0, 0, 0, 0, 0), (4, .getfield 57, 6, 7, 0, 0, 0, 0), (7, .if_icmp .ge 21, 28, 0, 0, 0, 0, 0), (10, .aload_n 0, 0, 0, 0, 0, 0, 0), (11, .getfield 9, 6, 1, 0, 0, 0, 0), (14, .iload_n 2, 2, 0, 0, 0, 0, 0), (15, .iaload, 0, 0, 0, 0, 0, 0), (16, .iload_n 1, 1, 0, 0, 0, 0, 0), (17, .if_icmp .ne 5, 22, 0, 0, 0, 0, 0), (20, .iload_n 2, 2, 0, 0, 0, 0, 0), (21, .ireturn, 0, 0, 0, 0, 0, 0), (22, .iinc 2 1, 2, 0, 0, 0, 0, 1), (25, .goto (-23), 2, 0, 0, 0, 0, 0), (28, .iconst (-1), 0, 0, 0, 0, 0, (-1)), (29, .ireturn, 0, 0, 0, 0, 0, 0)], [(2, [true, true, true])])
-- X6_obeyTie
def k86 : pM := ([(0, .aload_n 0, 0, 0, 0, 0, 0, 0), (1, .aload_n 0, 0, 0, 0, 0, 0, 0), (2, .getfield 32, 6, 0, 0, 0, 0, 0), (5, .getfield 78, 0, 8, 0, 0, 0, 0), (8, .iload_n 2, 2, 0, 0, 0, 0, 0), (9, .iaload, 0, 0, 0, 0, 0, 0), (10, .invokevirtual 81, 85, 2, 2, 7, 1, 0), (13, .istore_n 3, 3, 0, 0, 0, 0, 0), (14, .aload_n 0, 0, 0, 0, 0, 0, 0), (15, .aload_n 0, 0, 0, 0, 0, 0, 0), (16, .getfield 32, 6, 0, 0, 0, 0, 0), (19, .getfield 85, 0, 9, 0, 0, 0, 0), (22, .iload_n 2, 2, 0, 0, 0, 0, 0), (23, .iaload, 0, 0, 0, 0, 0, 0), (24, .invokevirtual 81, 85, 2, 2, 7, 1, 0), (27, .istore 4, 4, 0, 0, 0, 0, 0), (29, .iload_n 3, 3, 0, 0, 0, 0, 0), (30, .iconst (-1), 0, 0, 0, 0, 0, (-1)), (31, .if_icmp .eq 30, 61, 0, 0, 0, 0, 0), (34, .iload 4, 4, 0, 0, 0, 0, 0), (36, .iconst (-1), 0, 0, 0, 0, 0, (-1)), (37, .if_icmp .eq 24, 61, 0, 0, 0, 0, 0), (40, .aload_n 0, 0, 0, 0, 0, 0, 0), (41, .aload_n 1, 1, 0, 0, 0, 0, 0), (42, .iload_n 2, 2, 0, 0, 0, 0, 0), (43, .iload_n 3, 3, 0, 0, 0, 0, 0), (44, .iload 4, 4, 0, 0, 0, 0, 0), (46, .invokestatic 88, 0, 2, 0, 0, 0, 0), (49, .iload_n 3, 3, 0, 0, 0, 0, 0), (50, .iload 4, 4, 0, 0, 0, 0, 0), (52, .invokestatic 93, 0, 1, 0, 0, 0, 0), (55, .invokevirtual 96, 87, 5, 4, 7, 0, 0), (58, .goto 32, 90, 0, 0, 0, 0, 0), (61, .iload_n 3, 3, 0, 0, 0, 0, 0), (62, .iconst (-1), 0, 0, 0, 0, 0, (-1)), (63, .if_icmp .eq 13, 76, 0, 0, 0, 0, 0), (66, .aload_n 0, 0, 0, 0, 0, 0, 0), (67, .aload_n 1, 1, 0, 0, 0, 0, 0), (68, .iload_n 2, 2, 0, 0, 0, 0, 0), (69, .iload_n 3, 3, 0, 0, 0, 0, 0), (70, .invokevirtual 100, 88, 4, 5, 7, 0, 0), (73, .goto 17, 90, 0, 0, 0, 0, 0), (76, .iload 4, 4, 0, 0, 0, 0, 0), (78, .iconst (-1), 0, 0, 0, 0, 0, (-1)), (79, .if_icmp .eq 11, 90, 0, 0, 0, 0, 0), (82, .aload_n 0, 0, 0, 0, 0, 0, 0), (83, .aload_n 1, 1, 0, 0, 0, 0, 0), (84, .iload_n 2, 2, 0, 0, 0, 0, 0), (85, .iload 4, 4, 0, 0, 0, 0, 0), (87, .invokevirtual 100, 88, 4, 5, 7, 0, 0), (90, .return_, 0, 0, 0, 0, 0, 0)], [(61, [true, true, true, true, true])])
-- X6_obeyInside
def k87 : pM := ([(0, .aload_n 0, 0, 0, 0, 0, 0, 0), (1, .getfield 20, 6, 3, 0, 0, 0, 0), (4, .iload_n 3, 3, 0, 0, 0, 0, 0), (5, .iconst 4, 0, 0, 0, 0, 0, 4), (6, .imul, 0, 0, 0, 0, 0, 0), (7, .iload 4, 4, 0, 0, 0, 0, 0), (9, .iadd, 0, 0, 0, 0, 0, 0), (10, .aaload, 0, 0, 0, 0, 0, 0), (11, .astore 5, 5, 0, 0, 0, 0, 0), (13, .iconst 0, 0, 0, 0, 0, 0, 0), (14, .istore 6, 6, 0, 0, 0, 0, 0), (16, .iload 6, 6, 0, 0, 0, 0, 0), (18, .aload_n 0, 0, 0, 0, 0, 0, 0), (19, .getfield 65, 6, 8, 0, 0, 0, 0), (22, .if_icmp .ge 95, 117, 0, 0, 0, 0, 0), (25, .aload_n 1, 1, 0, 0, 0, 0, 0), (26, .iload 6, 6, 0, 0, 0, 0, 0), (28, .invokevirtual 104, 71, 2, 3, 6, 1, 0), (31, .istore 7, 7, 0, 0, 0, 0, 0), (33, .aload_n 1, 1, 0, 0, 0, 0, 0), (34, .iload 6, 6, 0, 0, 0, 0, 0), (36, .invokevirtual 107, 70, 2, 2, 6, 1, 0), (39, .istore 8, 8, 0, 0, 0, 0, 0), (41, .iconst 0, 0, 0, 0, 0, 0, 0), (42, .istore 9, 9, 0, 0, 0, 0, 0), (44, .iload 9, 9, 0, 0, 0, 0, 0), (46, .aload_n 0, 0, 0, 0, 0, 0, 0), (47, .getfield 65, 6, 8, 0, 0, 0, 0), (50, .if_icmp .ge 61, 111, 0, 0, 0, 0, 0), (53, .aload_n 0, 0, 0, 0, 0, 0, 0), (54, .getfield 32, 6, 0, 0, 0, 0, 0), (57, .iload_n 2, 2, 0, 0, 0, 0, 0), (58, .iload 7, 7, 0, 0, 0, 0, 0), (60, .aload_n 1, 1, 0, 0, 0, 0, 0), (61, .iload 9, 9, 0, 0, 0, 0, 0), (63, .invokevirtual 104, 71, 2, 3, 6, 1, 0), (66, .iload 8, 8, 0, 0, 0, 0, 0), (68, .ifCond .eq 16, 84, 0, 0, 0, 0, 0), (71, .aload_n 1, 1, 0, 0, 0, 0, 0), (72, .iload 9, 9, 0, 0, 0, 0, 0), (74, .invokevirtual 107, 70, 2, 2, 6, 1, 0), (77, .ifCond .eq 7, 84, 0, 0, 0, 0, 0), (80, .iconst 1, 0, 0, 0, 0, 0, 1), (81, .goto 4, 85, 0, 0, 0, 0, 0), (84, .iconst 0, 0, 0, 0, 0, 0, 0), (85, .invokevirtual 111, 13, 5, 2, 1, 1, 0), (88, .ifCond .eq 17, 105, 0, 0, 0, 0, 0), (91, .aload 5, 5, 0, 0, 0, 0, 0), (93, .iload 6, 6, 0, 0, 0, 0, 0), (95, .dup2, 0, 0, 0, 0, 0, 0), (96, .iaload, 0, 0, 0, 0, 0, 0), (97, .iconst 1, 0, 0, 0, 0, 0, 1), (98, .iload 9, 9, 0, 0, 0, 0, 0), (100, .ishl, 0, 0, 0, 0, 0, 0), (101, .iconst (-1), 0, 0, 0, 0, 0, (-1)), (102, .ixor, 0, 0, 0, 0, 0, 0), (103, .iand, 0, 0, 0, 0, 0, 0), (104, .iastore, 0, 0, 0, 0, 0, 0), (105, .iinc 9 1, 9, 0, 0, 0, 0, 1), (108, .goto (-64), 44, 0, 0, 0, 0, 0), (111, .iinc 6 1, 6, 0, 0, 0, 0, 1), (114, .goto (-98), 16, 0, 0, 0, 0, 0), (117, .return_, 0, 0, 0, 0, 0, 0)], [(16, [true, true, true, false, false, true, true, false, false, false]), (44, [true, true, true, false, false, true, true, true, true, true]), (85, [true, true, true, false, false, true, true, true, true, true])])
-- X6_obeyOutside
def k88 : pM := ([(0, .iconst 0, 0, 0, 0, 0, 0, 0), (1, .istore 4, 4, 0, 0, 0, 0, 0), (3, .iload 4, 4, 0, 0, 0, 0, 0), (5, .aload_n 0, 0, 0, 0, 0, 0, 0), (6, .getfield 65, 6, 8, 0, 0, 0, 0), (9, .if_icmp .ge 52, 61, 0, 0, 0, 0, 0), (12, .aload_n 1, 1, 0, 0, 0, 0, 0), (13, .iload_n 2, 2, 0, 0, 0, 0, 0), (14, .aload_n 0, 0, 0, 0, 0, 0, 0), (15, .getfield 9, 6, 1, 0, 0, 0, 0), (18, .iload_n 3, 3, 0, 0, 0, 0, 0), (19, .iaload, 0, 0, 0, 0, 0, 0), (20, .aload_n 1, 1, 0, 0, 0, 0, 0), (21, .iload 4, 4, 0, 0, 0, 0, 0), (23, .invokevirtual 104, 71, 2, 3, 6, 1, 0), (26, .aload_n 1, 1, 0, 0, 0, 0, 0), (27, .iload 4, 4, 0, 0, 0, 0, 0), (29, .invokevirtual 107, 70, 2, 2, 6, 1, 0), (32, .invokevirtual 115, 68, 5, 4, 6, 1, 0), (35, .ifCond .eq 20, 55, 0, 0, 0, 0, 0), (38, .aload_n 0, 0, 0, 0, 0, 0, 0), (39, .getfield 23, 6, 4, 0, 0, 0, 0), (42, .iconst 0, 0, 0, 0, 0, 0, 0), (43, .aaload, 0, 0, 0, 0, 0, 0), (44, .iload_n 3, 3, 0, 0, 0, 0, 0), (45, .dup2, 0, 0, 0, 0, 0, 0), (46, .iaload, 0, 0, 0, 0, 0, 0), (47, .iconst 1, 0, 0, 0, 0, 0, 1), (48, .iload 4, 4, 0, 0, 0, 0, 0), (50, .ishl, 0, 0, 0, 0, 0, 0), (51, .iconst (-1), 0, 0, 0, 0, 0, (-1)), (52, .ixor, 0, 0, 0, 0, 0, 0), (53, .iand, 0, 0, 0, 0, 0, 0), (54, .iastore, 0, 0, 0, 0, 0, 0), (55, .iinc 4 1, 4, 0, 0, 0, 0, 1), (58, .goto (-55), 3, 0, 0, 0, 0, 0), (61, .return_, 0, 0, 0, 0, 0, 0)], [(3, [true, true, true, true, true])])
-- X6_settle
def k89 : pM := ([(0, .iload_n 1, 1, 0, 0, 0, 0, 0), (1, .aload_n 0, 0, 0, 0, 0, 0, 0), (2, .getfield 57, 6, 7, 0, 0, 0, 0), (5, .if_icmp .lt 23, 28, 0, 0, 0, 0, 0), (8, .aload_n 0, 0, 0, 0, 0, 0, 0), (9, .iload_n 2, 2, 0, 0, 0, 0, 0), (10, .putfield 52, 6, 9, 0, 0, 0, 0), (13, .aload_n 0, 0, 0, 0, 0, 0, 0), (14, .getfield 26, 6, 5, 0, 0, 0, 0), (17, .iconst 0, 0, 0, 0, 0, 0, 0), (18, .aload_n 0, 0, 0, 0, 0, 0, 0), (19, .getfield 29, 6, 6, 0, 0, 0, 0), (22, .iconst 0, 0, 0, 0, 0, 0, 0), (23, .iconst 4, 0, 0, 0, 0, 0, 4), (24, .invokestatic 118, 0, 0, 0, 0, 0, 0), (27, .return_, 0, 0, 0, 0, 0, 0), (28, .iconst 0, 0, 0, 0, 0, 0, 0), (29, .istore_n 3, 3, 0, 0, 0, 0, 0), (30, .iload_n 3, 3, 0, 0, 0, 0, 0), (31, .aload_n 0, 0, 0, 0, 0, 0, 0), (32, .getfield 65, 6, 8, 0, 0, 0, 0), (35, .if_icmp .ge 68, 103, 0, 0, 0, 0, 0), (38, .aload_n 0, 0, 0, 0, 0, 0, 0), (39, .getfield 23, 6, 4, 0, 0, 0, 0), (42, .iload_n 1, 1, 0, 0, 0, 0, 0), (43, .aaload, 0, 0, 0, 0, 0, 0), (44, .iload_n 1, 1, 0, 0, 0, 0, 0), (45, .iaload, 0, 0, 0, 0, 0, 0), (46, .iload_n 3, 3, 0, 0, 0, 0, 0), (47, .ishr, 0, 0, 0, 0, 0, 0), (48, .iconst 1, 0, 0, 0, 0, 0, 1), (49, .iand, 0, 0, 0, 0, 0, 0), (50, .ifCond .eq 47, 97, 0, 0, 0, 0, 0), (53, .iload_n 2, 2, 0, 0, 0, 0, 0), (54, .aload_n 0, 0, 0, 0, 0, 0, 0), (55, .getfield 17, 6, 2, 0, 0, 0, 0), (58, .iload_n 1, 1, 0, 0, 0, 0, 0), (59, .aaload, 0, 0, 0, 0, 0, 0), (60, .iload_n 3, 3, 0, 0, 0, 0, 0), (61, .iaload, 0, 0, 0, 0, 0, 0), (62, .iadd, 0, 0, 0, 0, 0, 0), (63, .istore 4, 4, 0, 0, 0, 0, 0), (65, .aload_n 0, 0, 0, 0, 0, 0, 0), (66, .getfield 26, 6, 5, 0, 0, 0, 0), (69, .iload_n 1, 1, 0, 0, 0, 0, 0), (70, .iload_n 3, 3, 0, 0, 0, 0, 0), (71, .iastore, 0, 0, 0, 0, 0, 0), (72, .iload 4, 4, 0, 0, 0, 0, 0), (74, .aload_n 0, 0, 0, 0, 0, 0, 0), (75, .iload_n 1, 1, 0, 0, 0, 0, 0), (76, .iload_n 3, 3, 0, 0, 0, 0, 0), (77, .invokevirtual 124, 90, 3, 3, 7, 1, 0), (80, .iadd, 0, 0, 0, 0, 0, 0), (81, .aload_n 0, 0, 0, 0, 0, 0, 0), (82, .getfield 52, 6, 9, 0, 0, 0, 0), (85, .if_icmp .ge 12, 97, 0, 0, 0, 0, 0), (88, .aload_n 0, 0, 0, 0, 0, 0, 0), (89, .iload_n 1, 1, 0, 0, 0, 0, 0), (90, .iconst 1, 0, 0, 0, 0, 0, 1), (91, .iadd, 0, 0, 0, 0, 0, 0), (92, .iload 4, 4, 0, 0, 0, 0, 0), (94, .invokevirtual 48, 89, 3, 1, 7, 0, 0), (97, .iinc 3 1, 3, 0, 0, 0, 0, 1), (100, .goto (-70), 30, 0, 0, 0, 0, 0), (103, .return_, 0, 0, 0, 0, 0, 0)], [(30, [true, true, true, true, false])])
-- X6_narrow
def k90 : pM := ([(0, .iconst 0, 0, 0, 0, 0, 0, 0), (1, .istore_n 3, 3, 0, 0, 0, 0, 0), (2, .iload_n 1, 1, 0, 0, 0, 0, 0), (3, .iconst 1, 0, 0, 0, 0, 0, 1), (4, .iadd, 0, 0, 0, 0, 0, 0), (5, .istore 4, 4, 0, 0, 0, 0, 0), (7, .iload 4, 4, 0, 0, 0, 0, 0), (9, .aload_n 0, 0, 0, 0, 0, 0, 0), (10, .getfield 57, 6, 7, 0, 0, 0, 0), (13, .if_icmp .ge 58, 71, 0, 0, 0, 0, 0), (16, .aload_n 0, 0, 0, 0, 0, 0, 0), (17, .getfield 23, 6, 4, 0, 0, 0, 0), (20, .iload_n 1, 1, 0, 0, 0, 0, 0), (21, .aaload, 0, 0, 0, 0, 0, 0), (22, .iload 4, 4, 0, 0, 0, 0, 0), (24, .iaload, 0, 0, 0, 0, 0, 0), (25, .aload_n 0, 0, 0, 0, 0, 0, 0), (26, .getfield 20, 6, 3, 0, 0, 0, 0), (29, .iload_n 1, 1, 0, 0, 0, 0, 0), (30, .iconst 4, 0, 0, 0, 0, 0, 4), (31, .imul, 0, 0, 0, 0, 0, 0), (32, .iload 4, 4, 0, 0, 0, 0, 0), (34, .iadd, 0, 0, 0, 0, 0, 0), (35, .aaload, 0, 0, 0, 0, 0, 0), (36, .iload_n 2, 2, 0, 0, 0, 0, 0), (37, .iaload, 0, 0, 0, 0, 0, 0), (38, .iand, 0, 0, 0, 0, 0, 0), (39, .istore 5, 5, 0, 0, 0, 0, 0), (41, .aload_n 0, 0, 0, 0, 0, 0, 0), (42, .getfield 23, 6, 4, 0, 0, 0, 0), (45, .iload_n 1, 1, 0, 0, 0, 0, 0), (46, .iconst 1, 0, 0, 0, 0, 0, 1), (47, .iadd, 0, 0, 0, 0, 0, 0), (48, .aaload, 0, 0, 0, 0, 0, 0), (49, .iload 4, 4, 0, 0, 0, 0, 0), (51, .iload 5, 5, 0, 0, 0, 0, 0), (53, .iastore, 0, 0, 0, 0, 0, 0), (54, .iload_n 3, 3, 0, 0, 0, 0, 0), (55, .aload_n 0, 0, 0, 0, 0, 0, 0), (56, .iload 4, 4, 0, 0, 0, 0, 0), (58, .iload 5, 5, 0, 0, 0, 0, 0), (60, .invokevirtual 127, 91, 3, 2, 7, 1, 0), (63, .iadd, 0, 0, 0, 0, 0, 0), (64, .istore_n 3, 3, 0, 0, 0, 0, 0), (65, .iinc 4 1, 4, 0, 0, 0, 0, 1), (68, .goto (-61), 7, 0, 0, 0, 0, 0), (71, .iload_n 3, 3, 0, 0, 0, 0, 0), (72, .ireturn, 0, 0, 0, 0, 0, 0)], [(7, [true, true, true, true, true, false])])
-- X6_leastOf
def k91 : pM := ([(0, .ldc 56, 0, 0, 0, 0, 0, 16777216), (2, .istore_n 3, 3, 0, 0, 0, 0, 0), (3, .iconst 0, 0, 0, 0, 0, 0, 0), (4, .istore 4, 4, 0, 0, 0, 0, 0), (6, .iload 4, 4, 0, 0, 0, 0, 0), (8, .aload_n 0, 0, 0, 0, 0, 0, 0), (9, .getfield 65, 6, 8, 0, 0, 0, 0), (12, .if_icmp .ge 32, 44, 0, 0, 0, 0, 0), (15, .iload_n 2, 2, 0, 0, 0, 0, 0), (16, .iload 4, 4, 0, 0, 0, 0, 0), (18, .ishr, 0, 0, 0, 0, 0, 0), (19, .iconst 1, 0, 0, 0, 0, 0, 1), (20, .iand, 0, 0, 0, 0, 0, 0), (21, .ifCond .eq 17, 38, 0, 0, 0, 0, 0), (24, .iload_n 3, 3, 0, 0, 0, 0, 0), (25, .aload_n 0, 0, 0, 0, 0, 0, 0), (26, .getfield 17, 6, 2, 0, 0, 0, 0), (29, .iload_n 1, 1, 0, 0, 0, 0, 0), (30, .aaload, 0, 0, 0, 0, 0, 0), (31, .iload 4, 4, 0, 0, 0, 0, 0), (33, .iaload, 0, 0, 0, 0, 0, 0), (34, .invokestatic 88, 0, 2, 0, 0, 0, 0), (37, .istore_n 3, 3, 0, 0, 0, 0, 0), (38, .iinc 4 1, 4, 0, 0, 0, 0, 1), (41, .goto (-35), 6, 0, 0, 0, 0, 0), (44, .iload_n 3, 3, 0, 0, 0, 0, 0), (45, .ireturn, 0, 0, 0, 0, 0, 0)], [(6, [true, true, true, true, true])])
-- X7_hasRoom
def k92 : pM := ([(0, .aload_n 0, 0, 0, 0, 0, 0, 0), (1, .getfield 13, 7, 1, 0, 0, 0, 0), (4, .sipush 1180, 0, 0, 0, 0, 0, 1180), (7, .if_icmp .gt 7, 14, 0, 0, 0, 0, 0), (10, .iconst 1, 0, 0, 0, 0, 0, 1), (11, .goto 4, 15, 0, 0, 0, 0, 0), (14, .iconst 0, 0, 0, 0, 0, 0, 0), (15, .ireturn, 1, 0, 0, 0, 0, 0)], [])
-- X7_append
def k93 : pM := ([(0, .bipush 24, 0, 0, 0, 0, 0, 24), (2, .istore_n 2, 2, 0, 0, 0, 0, 0), (3, .iload_n 2, 2, 0, 0, 0, 0, 0), (4, .ifCond .lt 42, 46, 0, 0, 0, 0, 0), (7, .aload_n 0, 0, 0, 0, 0, 0, 0), (8, .getfield 13, 7, 1, 0, 0, 0, 0), (11, .sipush 1200, 0, 0, 0, 0, 0, 1200), (14, .if_icmp .ge 26, 40, 0, 0, 0, 0, 0), (17, .aload_n 0, 0, 0, 0, 0, 0, 0), (18, .getfield 9, 7, 0, 0, 0, 0, 0), (21, .aload_n 0, 0, 0, 0, 0, 0, 0), (22, .getfield 13, 7, 1, 0, 0, 0, 0), (25, .iload_n 1, 1, 0, 0, 0, 0, 0), (26, .iload_n 2, 2, 0, 0, 0, 0, 0), (27, .ishr, 0, 0, 0, 0, 0, 0), (28, .i2b, 0, 0, 0, 0, 0, 0), (29, .bastore, 0, 0, 0, 0, 0, 0), (30, .aload_n 0, 0, 0, 0, 0, 0, 0), (31, .dup, 0, 0, 0, 0, 0, 0), (32, .getfield 13, 7, 1, 0, 0, 0, 0), (35, .iconst 1, 0, 0, 0, 0, 0, 1), (36, .iadd, 0, 0, 0, 0, 0, 0), (37, .putfield 13, 7, 1, 0, 0, 0, 0), (40, .iinc 2 (-8), 2, 0, 0, 0, 0, (-8)), (43, .goto (-40), 3, 0, 0, 0, 0, 0), (46, .return_, 0, 0, 0, 0, 0, 0)], [(3, [true, true, true])])
-- X8_clear
def k94 : pM := ([(0, .aload_n 0, 0, 0, 0, 0, 0, 0), (1, .iconst 0, 0, 0, 0, 0, 0, 0), (2, .putfield 31, 8, 6, 0, 0, 0, 0), (5, .return_, 0, 0, 0, 0, 0, 0)], [])
-- X8_isFull
def k95 : pM := ([(0, .aload_n 0, 0, 0, 0, 0, 0, 0), (1, .getfield 31, 8, 6, 0, 0, 0, 0), (4, .bipush 40, 0, 0, 0, 0, 0, 40), (6, .if_icmp .lt 7, 13, 0, 0, 0, 0, 0), (9, .iconst 1, 0, 0, 0, 0, 0, 1), (10, .goto 4, 14, 0, 0, 0, 0, 0), (13, .iconst 0, 0, 0, 0, 0, 0, 0), (14, .ireturn, 1, 0, 0, 0, 0, 0)], [])
-- X8_latestOf
def k96 : pM := ([(0, .iconst 0, 0, 0, 0, 0, 0, 0), (1, .istore_n 2, 2, 0, 0, 0, 0, 0), (2, .iconst 0, 0, 0, 0, 0, 0, 0), (3, .istore_n 3, 3, 0, 0, 0, 0, 0), (4, .iload_n 3, 3, 0, 0, 0, 0, 0), (5, .aload_n 0, 0, 0, 0, 0, 0, 0), (6, .getfield 31, 8, 6, 0, 0, 0, 0), (9, .if_icmp .ge 26, 35, 0, 0, 0, 0, 0), (12, .aload_n 0, 0, 0, 0, 0, 0, 0), (13, .getfield 11, 8, 1, 0, 0, 0, 0), (16, .iload_n 3, 3, 0, 0, 0, 0, 0), (17, .iaload, 0, 0, 0, 0, 0, 0), (18, .iload_n 1, 1, 0, 0, 0, 0, 0), (19, .if_icmp .ne 10, 29, 0, 0, 0, 0, 0), (22, .aload_n 0, 0, 0, 0, 0, 0, 0), (23, .getfield 15, 8, 2, 0, 0, 0, 0), (26, .iload_n 3, 3, 0, 0, 0, 0, 0), (27, .iaload, 0, 0, 0, 0, 0, 0), (28, .istore_n 2, 2, 0, 0, 0, 0, 0), (29, .iinc 3 1, 3, 0, 0, 0, 0, 1), (32, .goto (-28), 4, 0, 0, 0, 0, 0), (35, .iload_n 2, 2, 0, 0, 0, 0, 0), (36, .ireturn, 0, 0, 0, 0, 0, 0)], [(4, [true, true, true, true])])
-- X8_append
def k97 : pM := ([(0, .aload_n 0, 0, 0, 0, 0, 0, 0), (1, .getfield 31, 8, 6, 0, 0, 0, 0), (4, .bipush 40, 0, 0, 0, 0, 0, 40), (6, .if_icmp .ge 43, 49, 0, 0, 0, 0, 0), (9, .aload_n 0, 0, 0, 0, 0, 0, 0), (10, .getfield 11, 8, 1, 0, 0, 0, 0), (13, .aload_n 0, 0, 0, 0, 0, 0, 0), (14, .getfield 31, 8, 6, 0, 0, 0, 0), (17, .iload_n 1, 1, 0, 0, 0, 0, 0), (18, .iastore, 0, 0, 0, 0, 0, 0), (19, .aload_n 0, 0, 0, 0, 0, 0, 0), (20, .getfield 15, 8, 2, 0, 0, 0, 0), (23, .aload_n 0, 0, 0, 0, 0, 0, 0), (24, .getfield 31, 8, 6, 0, 0, 0, 0), (27, .iload_n 2, 2, 0, 0, 0, 0, 0), (28, .iastore, 0, 0, 0, 0, 0, 0), (29, .aload_n 0, 0, 0, 0, 0, 0, 0), (30, .getfield 18, 8, 3, 0, 0, 0, 0), (33, .aload_n 0, 0, 0, 0, 0, 0, 0), (34, .getfield 31, 8, 6, 0, 0, 0, 0), (37, .iload_n 3, 3, 0, 0, 0, 0, 0), (38, .iastore, 0, 0, 0, 0, 0, 0), (39, .aload_n 0, 0, 0, 0, 0, 0, 0), (40, .dup, 0, 0, 0, 0, 0, 0), (41, .getfield 31, 8, 6, 0, 0, 0, 0), (44, .iconst 1, 0, 0, 0, 0, 0, 1), (45, .iadd, 0, 0, 0, 0, 0, 0), (46, .putfield 31, 8, 6, 0, 0, 0, 0), (49, .aload_n 0, 0, 0, 0, 0, 0, 0), (50, .getfield 31, 8, 6, 0, 0, 0, 0), (53, .ireturn, 0, 0, 0, 0, 0, 0)], [])
-- X8_wordsIn
def k98 : pM := ([(0, .aload_n 0, 0, 0, 0, 0, 0, 0), (1, .getfield 27, 8, 0, 0, 0, 0, 0), (4, .getfield 35, 0, 5, 0, 0, 0, 0), (7, .iconst 0, 0, 0, 0, 0, 0, 0), (8, .aload_n 0, 0, 0, 0, 0, 0, 0), (9, .getfield 21, 8, 4, 0, 0, 0, 0), (12, .iconst 0, 0, 0, 0, 0, 0, 0), (13, .bipush 20, 0, 0, 0, 0, 0, 20), (15, .invokestatic 40, 0, 0, 0, 0, 0, 0), (18, .iconst 0, 0, 0, 0, 0, 0, 0), (19, .istore_n 2, 2, 0, 0, 0, 0, 0), (20, .iload_n 2, 2, 0, 0, 0, 0, 0), (21, .aload_n 0, 0, 0, 0, 0, 0, 0), (22, .getfield 31, 8, 6, 0, 0, 0, 0), (25, .if_icmp .ge 36, 61, 0, 0, 0, 0, 0), (28, .aload_n 0, 0, 0, 0, 0, 0, 0), (29, .getfield 15, 8, 2, 0, 0, 0, 0), (32, .iload_n 2, 2, 0, 0, 0, 0, 0), (33, .iaload, 0, 0, 0, 0, 0, 0), (34, .iload_n 1, 1, 0, 0, 0, 0, 0), (35, .if_icmp .gt 20, 55, 0, 0, 0, 0, 0), (38, .aload_n 0, 0, 0, 0, 0, 0, 0), (39, .getfield 21, 8, 4, 0, 0, 0, 0), (42, .aload_n 0, 0, 0, 0, 0, 0, 0), (43, .getfield 11, 8, 1, 0, 0, 0, 0), (46, .iload_n 2, 2, 0, 0, 0, 0, 0), (47, .iaload, 0, 0, 0, 0, 0, 0), (48, .aload_n 0, 0, 0, 0, 0, 0, 0), (49, .getfield 18, 8, 3, 0, 0, 0, 0), (52, .iload_n 2, 2, 0, 0, 0, 0, 0), (53, .iaload, 0, 0, 0, 0, 0, 0), (54, .iastore, 0, 0, 0, 0, 0, 0), (55, .iinc 2 1, 2, 0, 0, 0, 0, 1), (58, .goto (-38), 20, 0, 0, 0, 0, 0), (61, .aload_n 0, 0, 0, 0, 0, 0, 0), (62, .getfield 21, 8, 4, 0, 0, 0, 0), (65, .areturn, 0, 0, 0, 0, 0, 0)], [(20, [true, true, true])])
-- X8_turns
def k99 : pM := ([(0, .aload_n 0, 0, 0, 0, 0, 0, 0), (1, .iload_n 2, 2, 0, 0, 0, 0, 0), (2, .iconst 1, 0, 0, 0, 0, 0, 1), (3, .isub, 0, 0, 0, 0, 0, 0), (4, .invokevirtual 46, 98, 2, 2, 9, 65, 0), (7, .astore_n 3, 3, 0, 0, 0, 0, 0), (8, .iconst 0, 0, 0, 0, 0, 0, 0), (9, .istore 4, 4, 0, 0, 0, 0, 0), (11, .iload 4, 4, 0, 0, 0, 0, 0), (13, .aload_n 0, 0, 0, 0, 0, 0, 0), (14, .getfield 27, 8, 0, 0, 0, 0, 0), (17, .getfield 50, 0, 0, 0, 0, 0, 0), (20, .iconst 2, 0, 0, 0, 0, 0, 2), (21, .iaload, 0, 0, 0, 0, 0, 0), (22, .if_icmp .ge 23, 45, 0, 0, 0, 0, 0), (25, .aload_n 0, 0, 0, 0, 0, 0, 0), (26, .getfield 24, 8, 5, 0, 0, 0, 0), (29, .iload 4, 4, 0, 0, 0, 0, 0), (31, .aload_n 1, 1, 0, 0, 0, 0, 0), (32, .iload 4, 4, 0, 0, 0, 0, 0), (34, .aload_n 3, 3, 0, 0, 0, 0, 0), (35, .invokevirtual 53, 65, 3, 5, 6, 1, 0), (38, .iastore, 0, 0, 0, 0, 0, 0), (39, .iinc 4 1, 4, 0, 0, 0, 0, 1), (42, .goto (-31), 11, 0, 0, 0, 0, 0), (45, .aload_n 0, 0, 0, 0, 0, 0, 0), (46, .iload_n 2, 2, 0, 0, 0, 0, 0), (47, .invokevirtual 46, 98, 2, 2, 9, 65, 0), (50, .astore 4, 4, 0, 0, 0, 0, 0), (52, .iconst 0, 0, 0, 0, 0, 0, 0), (53, .istore 5, 5, 0, 0, 0, 0, 0), (55, .iconst 0, 0, 0, 0, 0, 0, 0), (56, .istore 6, 6, 0, 0, 0, 0, 0), (58, .iload 6, 6, 0, 0, 0, 0, 0), (60, .aload_n 0, 0, 0, 0, 0, 0, 0), (61, .getfield 27, 8, 0, 0, 0, 0, 0), (64, .getfield 50, 0, 0, 0, 0, 0, 0), (67, .iconst 2, 0, 0, 0, 0, 0, 2), (68, .iaload, 0, 0, 0, 0, 0, 0), (69, .if_icmp .ge 37, 106, 0, 0, 0, 0, 0), (72, .iload 5, 5, 0, 0, 0, 0, 0), (74, .aload_n 1, 1, 0, 0, 0, 0, 0), (75, .iload 6, 6, 0, 0, 0, 0, 0), (77, .aload 4, 4, 0, 0, 0, 0, 0), (79, .invokevirtual 53, 65, 3, 5, 6, 1, 0), (82, .aload_n 0, 0, 0, 0, 0, 0, 0), (83, .getfield 24, 8, 5, 0, 0, 0, 0), (86, .iload 6, 6, 0, 0, 0, 0, 0), (88, .iaload, 0, 0, 0, 0, 0, 0), (89, .if_icmp .eq 7, 96, 0, 0, 0, 0, 0), (92, .iconst 1, 0, 0, 0, 0, 0, 1), (93, .goto 4, 97, 0, 0, 0, 0, 0), (96, .iconst 0, 0, 0, 0, 0, 0, 0), (97, .iadd, 0, 0, 0, 0, 0, 0), (98, .istore 5, 5, 0, 0, 0, 0, 0), (100, .iinc 6 1, 6, 0, 0, 0, 0, 1), (103, .goto (-45), 58, 0, 0, 0, 0, 0), (106, .iload 5, 5, 0, 0, 0, 0, 0), (108, .ireturn, 0, 0, 0, 0, 0, 0)], [(11, [true, true, true, true, true, false, false]), (58, [true, true, false, false, true, true, true])])
-- X8_firstAbove
def k100 : pM := ([(0, .aload_n 1, 1, 0, 0, 0, 0, 0), (1, .aload_n 0, 0, 0, 0, 0, 0, 0), (2, .iconst 0, 0, 0, 0, 0, 0, 0), (3, .invokevirtual 46, 98, 2, 2, 9, 65, 0), (6, .invokevirtual 59, 66, 2, 6, 6, 1, 0), (9, .iload_n 2, 2, 0, 0, 0, 0, 0), (10, .if_icmp .le 5, 15, 0, 0, 0, 0, 0), (13, .iconst 0, 0, 0, 0, 0, 0, 0), (14, .ireturn, 0, 0, 0, 0, 0, 0), (15, .iconst (-1), 0, 0, 0, 0, 0, (-1)), (16, .istore_n 3, 3, 0, 0, 0, 0, 0), (17, .iconst 0, 0, 0, 0, 0, 0, 0), (18, .istore 4, 4, 0, 0, 0, 0, 0), (20, .iload 4, 4, 0, 0, 0, 0, 0), (22, .aload_n 0, 0, 0, 0, 0, 0, 0), (23, .getfield 31, 8, 6, 0, 0, 0, 0), (26, .if_icmp .ge 46, 72, 0, 0, 0, 0, 0), (29, .aload_n 0, 0, 0, 0, 0, 0, 0), (30, .getfield 15, 8, 2, 0, 0, 0, 0), (33, .iload 4, 4, 0, 0, 0, 0, 0), (35, .iaload, 0, 0, 0, 0, 0, 0), (36, .istore 5, 5, 0, 0, 0, 0, 0), (38, .iload_n 3, 3, 0, 0, 0, 0, 0), (39, .iconst (-1), 0, 0, 0, 0, 0, (-1)), (40, .if_icmp .eq 9, 49, 0, 0, 0, 0, 0), (43, .iload 5, 5, 0, 0, 0, 0, 0), (45, .iload_n 3, 3, 0, 0, 0, 0, 0), (46, .if_icmp .ge 20, 66, 0, 0, 0, 0, 0), (49, .aload_n 1, 1, 0, 0, 0, 0, 0), (50, .aload_n 0, 0, 0, 0, 0, 0, 0), (51, .iload 5, 5, 0, 0, 0, 0, 0), (53, .invokevirtual 46, 98, 2, 2, 9, 65, 0), (56, .invokevirtual 59, 66, 2, 6, 6, 1, 0), (59, .iload_n 2, 2, 0, 0, 0, 0, 0), (60, .if_icmp .le 6, 66, 0, 0, 0, 0, 0), (63, .iload 5, 5, 0, 0, 0, 0, 0), (65, .istore_n 3, 3, 0, 0, 0, 0, 0), (66, .iinc 4 1, 4, 0, 0, 0, 0, 1), (69, .goto (-49), 20, 0, 0, 0, 0, 0), (72, .iload_n 3, 3, 0, 0, 0, 0, 0), (73, .ireturn, 0, 0, 0, 0, 0, 0)], [(20, [true, true, true, true, true, false])])
-- X9_feed
def k101 : pM := ([(0, .aload_n 0, 0, 0, 0, 0, 0, 0), (1, .getfield 12, 9, 0, 0, 0, 0, 0), (4, .invokevirtual 75, 92, 1, 2, 8, 1, 0), (7, .ifCond .ne 6, 13, 0, 0, 0, 0, 0), (10, .bipush (-3), 0, 0, 0, 0, 0, (-3)), (12, .ireturn, 0, 0, 0, 0, 0, 0), (13, .aload_n 0, 0, 0, 0, 0, 0, 0), (14, .getfield 12, 9, 0, 0, 0, 0, 0), (17, .iload_n 1, 1, 0, 0, 0, 0, 0), (18, .invokevirtual 79, 93, 2, 2, 8, 0, 0), (21, .aload_n 0, 0, 0, 0, 0, 0, 0), (22, .getfield 12, 9, 0, 0, 0, 0, 0), (25, .iload_n 2, 2, 0, 0, 0, 0, 0), (26, .invokevirtual 79, 93, 2, 2, 8, 0, 0), (29, .aload_n 0, 0, 0, 0, 0, 0, 0), (30, .getfield 12, 9, 0, 0, 0, 0, 0), (33, .iload_n 3, 3, 0, 0, 0, 0, 0), (34, .invokevirtual 79, 93, 2, 2, 8, 0, 0), (37, .aload_n 0, 0, 0, 0, 0, 0, 0), (38, .getfield 12, 9, 0, 0, 0, 0, 0), (41, .iload 4, 4, 0, 0, 0, 0, 0), (43, .invokevirtual 79, 93, 2, 2, 8, 0, 0), (46, .aload_n 0, 0, 0, 0, 0, 0, 0), (47, .getfield 12, 9, 0, 0, 0, 0, 0), (50, .iload 5, 5, 0, 0, 0, 0, 0), (52, .invokevirtual 79, 93, 2, 2, 8, 0, 0), (55, .aload_n 0, 0, 0, 0, 0, 0, 0), (56, .getfield 12, 9, 0, 0, 0, 0, 0), (59, .getfield 83, 7, 1, 0, 0, 0, 0), (62, .ireturn, 0, 0, 0, 0, 0, 0)], [])
-- X9_end
def k102 : pM := ([(0, .iload_n 1, 1, 0, 0, 0, 0, 0), (1, .ifCond .lt 14, 15, 0, 0, 0, 0, 0), (4, .iload_n 1, 1, 0, 0, 0, 0, 0), (5, .aload_n 0, 0, 0, 0, 0, 0, 0), (6, .getfield 12, 9, 0, 0, 0, 0, 0), (9, .getfield 83, 7, 1, 0, 0, 0, 0), (12, .if_icmp .le 5, 17, 0, 0, 0, 0, 0), (15, .iconst (-1), 0, 0, 0, 0, 0, (-1)), (16, .ireturn, 0, 0, 0, 0, 0, 0), (17, .aload_n 0, 0, 0, 0, 0, 0, 0), (18, .getfield 12, 9, 0, 0, 0, 0, 0), (21, .iload_n 1, 1, 0, 0, 0, 0, 0), (22, .putfield 83, 7, 1, 0, 0, 0, 0), (25, .iload_n 1, 1, 0, 0, 0, 0, 0), (26, .ireturn, 0, 0, 0, 0, 0, 0)], [])
-- X9_book
def k103 : pM := ([(0, .aload_n 0, 0, 0, 0, 0, 0, 0), (1, .getfield 26, 9, 2, 0, 0, 0, 0), (4, .aload_n 0, 0, 0, 0, 0, 0, 0), (5, .getfield 12, 9, 0, 0, 0, 0, 0), (8, .invokevirtual 87, 37, 2, 7, 5, 1, 0), (11, .istore_n 1, 1, 0, 0, 0, 0, 0), (12, .aload_n 0, 0, 0, 0, 0, 0, 0), (13, .getfield 12, 9, 0, 0, 0, 0, 0), (16, .iconst 0, 0, 0, 0, 0, 0, 0), (17, .putfield 83, 7, 1, 0, 0, 0, 0), (20, .iload_n 1, 1, 0, 0, 0, 0, 0), (21, .iconst (-1), 0, 0, 0, 0, 0, (-1)), (22, .if_icmp .ne 5, 27, 0, 0, 0, 0, 0), (25, .iconst (-1), 0, 0, 0, 0, 0, (-1)), (26, .ireturn, 0, 0, 0, 0, 0, 0), (27, .aload_n 0, 0, 0, 0, 0, 0, 0), (28, .getfield 19, 9, 1, 0, 0, 0, 0), (31, .aload_n 0, 0, 0, 0, 0, 0, 0), (32, .getfield 26, 9, 2, 0, 0, 0, 0), (35, .getfield 91, 4, 0, 0, 0, 0, 0), (38, .invokevirtual 94, 1, 2, 3, 1, 0, 0), (41, .aload_n 0, 0, 0, 0, 0, 0, 0), (42, .getfield 35, 9, 3, 0, 0, 0, 0), (45, .invokevirtual 97, 56, 1, 3, 6, 0, 0), (48, .iconst 0, 0, 0, 0, 0, 0, 0), (49, .istore_n 2, 2, 0, 0, 0, 0, 0), (50, .iload_n 2, 2, 0, 0, 0, 0, 0), (51, .iconst 4, 0, 0, 0, 0, 0, 4), (52, .if_icmp .ge 16, 68, 0, 0, 0, 0, 0), (55, .aload_n 0, 0, 0, 0, 0, 0, 0), (56, .getfield 43, 9, 5, 0, 0, 0, 0), (59, .iload_n 2, 2, 0, 0, 0, 0, 0), (60, .iconst 0, 0, 0, 0, 0, 0, 0), (61, .bastore, 0, 0, 0, 0, 0, 0), (62, .iinc 2 1, 2, 0, 0, 0, 0, 1), (65, .goto (-15), 50, 0, 0, 0, 0, 0), (68, .aload_n 0, 0, 0, 0, 0, 0, 0), (69, .getfield 57, 9, 7, 0, 0, 0, 0), (72, .invokevirtual 100, 19, 1, 3, 2, 0, 0), (75, .aload_n 0, 0, 0, 0, 0, 0, 0), (76, .getfield 64, 9, 8, 0, 0, 0, 0), (79, .invokevirtual 101, 94, 1, 2, 9, 0, 0), (82, .aload_n 0, 0, 0, 0, 0, 0, 0), (83, .getfield 71, 9, 9, 0, 0, 0, 0), (86, .invokevirtual 102, 24, 1, 2, 3, 0, 0), (89, .iload_n 1, 1, 0, 0, 0, 0, 0), (90, .ireturn, 0, 0, 0, 0, 0, 0)], [(50, [true, true, true])])
-- X9_fault
def k104 : pM := ([(0, .iload_n 1, 1, 0, 0, 0, 0, 0), (1, .lookupswitch 43 #[(0, 27), (1, 35)], 0, 27, 0, 0, 0, 0), (28, .aload_n 0, 0, 0, 0, 0, 0, 0), (29, .getfield 26, 9, 2, 0, 0, 0, 0), (32, .getfield 103, 4, 4, 0, 0, 0, 0), (35, .ireturn, 0, 0, 0, 0, 0, 0), (36, .aload_n 0, 0, 0, 0, 0, 0, 0), (37, .getfield 26, 9, 2, 0, 0, 0, 0), (40, .getfield 106, 4, 5, 0, 0, 0, 0), (43, .ireturn, 0, 0, 0, 0, 0, 0), (44, .iconst (-1), 0, 0, 0, 0, 0, (-1)), (45, .ireturn, 0, 0, 0, 0, 0, 0)], [])
-- X9_told
def k105 : pM := ([(0, .iload_n 1, 1, 0, 0, 0, 0, 0), (1, .ifCond .lt 18, 19, 0, 0, 0, 0, 0), (4, .iload_n 1, 1, 0, 0, 0, 0, 0), (5, .iconst 4, 0, 0, 0, 0, 0, 4), (6, .if_icmp .gt 13, 19, 0, 0, 0, 0, 0), (9, .aload_n 0, 0, 0, 0, 0, 0, 0), (10, .getfield 19, 9, 1, 0, 0, 0, 0), (13, .getfield 109, 0, 0, 0, 0, 0, 0), (16, .iload_n 1, 1, 0, 0, 0, 0, 0), (17, .iaload, 0, 0, 0, 0, 0, 0), (18, .ireturn, 0, 0, 0, 0, 0, 0), (19, .iload_n 1, 1, 0, 0, 0, 0, 0), (20, .iconst 5, 0, 0, 0, 0, 0, 5), (21, .if_icmp .lt 21, 42, 0, 0, 0, 0, 0), (24, .iload_n 1, 1, 0, 0, 0, 0, 0), (25, .bipush 9, 0, 0, 0, 0, 0, 9), (27, .if_icmp .gt 15, 42, 0, 0, 0, 0, 0), (30, .aload_n 0, 0, 0, 0, 0, 0, 0), (31, .getfield 19, 9, 1, 0, 0, 0, 0), (34, .getfield 113, 0, 1, 0, 0, 0, 0), (37, .iload_n 1, 1, 0, 0, 0, 0, 0), (38, .iconst 5, 0, 0, 0, 0, 0, 5), (39, .isub, 0, 0, 0, 0, 0, 0), (40, .iaload, 0, 0, 0, 0, 0, 0), (41, .ireturn, 0, 0, 0, 0, 0, 0), (42, .iload_n 1, 1, 0, 0, 0, 0, 0), (43, .bipush 20, 0, 0, 0, 0, 0, 20), (45, .if_icmp .lt 22, 67, 0, 0, 0, 0, 0), (48, .iload_n 1, 1, 0, 0, 0, 0, 0), (49, .bipush 44, 0, 0, 0, 0, 0, 44), (51, .if_icmp .ge 16, 67, 0, 0, 0, 0, 0), (54, .aload_n 0, 0, 0, 0, 0, 0, 0), (55, .getfield 19, 9, 1, 0, 0, 0, 0), (58, .getfield 116, 0, 2, 0, 0, 0, 0), (61, .iload_n 1, 1, 0, 0, 0, 0, 0), (62, .bipush 20, 0, 0, 0, 0, 0, 20), (64, .isub, 0, 0, 0, 0, 0, 0), (65, .iaload, 0, 0, 0, 0, 0, 0), (66, .ireturn, 0, 0, 0, 0, 0, 0), (67, .iconst (-1), 0, 0, 0, 0, 0, (-1)), (68, .ireturn, 0, 0, 0, 0, 0, 0)], [(42, [true, true])])
-- X9_traits
def k106 : pM := ([(0, .iload_n 1, 1, 0, 0, 0, 0, 0), (1, .tableswitch 201 0 5 #[39, 66, 93, 120, 147, 174], 0, 39, 0, 0, 0, 0), (40, .aload_n 0, 0, 0, 0, 0, 0, 0), (41, .getfield 19, 9, 1, 0, 0, 0, 0), (44, .iconst 0, 0, 0, 0, 0, 0, 0), (45, .iload_n 2, 2, 0, 0, 0, 0, 0), (46, .invokevirtual 119, 3, 3, 2, 1, 1, 0), (49, .ifCond .eq 15, 64, 0, 0, 0, 0, 0), (52, .aload_n 0, 0, 0, 0, 0, 0, 0), (53, .getfield 19, 9, 1, 0, 0, 0, 0), (56, .getfield 123, 0, 4, 0, 0, 0, 0), (59, .iload_n 2, 2, 0, 0, 0, 0, 0), (60, .iaload, 0, 0, 0, 0, 0, 0), (61, .goto 5, 66, 0, 0, 0, 0, 0), (64, .bipush (-2), 0, 0, 0, 0, 0, (-2)), (66, .ireturn, 0, 0, 0, 0, 0, 0), (67, .aload_n 0, 0, 0, 0, 0, 0, 0), (68, .getfield 19, 9, 1, 0, 0, 0, 0), (71, .iconst 1, 0, 0, 0, 0, 0, 1), (72, .iload_n 2, 2, 0, 0, 0, 0, 0), (73, .invokevirtual 119, 3, 3, 2, 1, 1, 0), (76, .ifCond .eq 15, 91, 0, 0, 0, 0, 0), (79, .aload_n 0, 0, 0, 0, 0, 0, 0), (80, .getfield 19, 9, 1, 0, 0, 0, 0), (83, .getfield 126, 0, 5, 0, 0, 0, 0), (86, .iload_n 2, 2, 0, 0, 0, 0, 0), (87, .iaload, 0, 0, 0, 0, 0, 0), (88, .goto 5, 93, 0, 0, 0, 0, 0), (91, .bipush (-2), 0, 0, 0, 0, 0, (-2)), (93, .ireturn, 0, 0, 0, 0, 0, 0), (94, .aload_n 0, 0, 0, 0, 0, 0, 0), (95, .getfield 19, 9, 1, 0, 0, 0, 0), (98, .iconst 2, 0, 0, 0, 0, 0, 2), (99, .iload_n 2, 2, 0, 0, 0, 0, 0), (100, .invokevirtual 119, 3, 3, 2, 1, 1, 0), (103, .ifCond .eq 15, 118, 0, 0, 0, 0, 0), (106, .aload_n 0, 0, 0, 0, 0, 0, 0), (107, .getfield 19, 9, 1, 0, 0, 0, 0), (110, .getfield 129, 0, 7, 0, 0, 0, 0), (113, .iload_n 2, 2, 0, 0, 0, 0, 0), (114, .iaload, 0, 0, 0, 0, 0, 0), (115, .goto 5, 120, 0, 0, 0, 0, 0), (118, .bipush (-2), 0, 0, 0, 0, 0, (-2)), (120, .ireturn, 0, 0, 0, 0, 0, 0), (121, .aload_n 0, 0, 0, 0, 0, 0, 0), (122, .getfield 19, 9, 1, 0, 0, 0, 0), (125, .iconst 3, 0, 0, 0, 0, 0, 3), (126, .iload_n 2, 2, 0, 0, 0, 0, 0), (127, .invokevirtual 119, 3, 3, 2, 1, 1, 0), (130, .ifCond .eq 15, 145, 0, 0, 0, 0, 0), (133, .aload_n 0, 0, 0, 0, 0, 0, 0), (134, .getfield 19, 9, 1, 0, 0, 0, 0), (137, .getfield 132, 0, 10, 0, 0, 0, 0), (140, .iload_n 2, 2, 0, 0, 0, 0, 0), (141, .iaload, 0, 0, 0, 0, 0, 0), (142, .goto 5, 147, 0, 0, 0, 0, 0), (145, .bipush (-2), 0, 0, 0, 0, 0, (-2)), (147, .ireturn, 0, 0, 0, 0, 0, 0), (148, .aload_n 0, 0, 0, 0, 0, 0, 0), (149, .getfield 19, 9, 1, 0, 0, 0, 0), (152, .iconst 4, 0, 0, 0, 0, 0, 4), (153, .iload_n 2, 2, 0, 0, 0, 0, 0), (154, .invokevirtual 119, 3, 3, 2, 1, 1, 0), (157, .ifCond .eq 15, 172, 0, 0, 0, 0, 0), (160, .aload_n 0, 0, 0, 0, 0, 0, 0), (161, .getfield 19, 9, 1, 0, 0, 0, 0), (164, .getfield 135, 0, 11, 0, 0, 0, 0), (167, .iload_n 2, 2, 0, 0, 0, 0, 0), (168, .iaload, 0, 0, 0, 0, 0, 0), (169, .goto 5, 174, 0, 0, 0, 0, 0), (172, .bipush (-2), 0, 0, 0, 0, 0, (-2)), (174, .ireturn, 0, 0, 0, 0, 0, 0), (175, .aload_n 0, 0, 0, 0, 0, 0, 0), (176, .getfield 19, 9, 1, 0, 0, 0, 0), (179, .iconst 4, 0, 0, 0, 0, 0, 4), (180, .iload_n 2, 2, 0, 0, 0, 0, 0), (181, .invokevirtual 119, 3, 3, 2, 1, 1, 0), (184, .ifCond .eq 15, 199, 0, 0, 0, 0, 0), (187, .aload_n 0, 0, 0, 0, 0, 0, 0), (188, .getfield 19, 9, 1, 0, 0, 0, 0), (191, .getfield 138, 0, 12, 0, 0, 0, 0), (194, .iload_n 2, 2, 0, 0, 0, 0, 0), (195, .iaload, 0, 0, 0, 0, 0, 0), (196, .goto 5, 201, 0, 0, 0, 0, 0), (199, .bipush (-2), 0, 0, 0, 0, 0, (-2)), (201, .ireturn, 0, 0, 0, 0, 0, 0), (202, .bipush (-2), 0, 0, 0, 0, 0, (-2)), (204, .ireturn, 0, 0, 0, 0, 0, 0)], [])
-- X9_notion
def k107 : pM := ([(0, .aload_n 0, 0, 0, 0, 0, 0, 0), (1, .getfield 19, 9, 1, 0, 0, 0, 0), (4, .iconst 2, 0, 0, 0, 0, 0, 2), (5, .iload_n 1, 1, 0, 0, 0, 0, 0), (6, .invokevirtual 119, 3, 3, 2, 1, 1, 0), (9, .ifCond .eq 15, 24, 0, 0, 0, 0, 0), (12, .aload_n 0, 0, 0, 0, 0, 0, 0), (13, .getfield 19, 9, 1, 0, 0, 0, 0), (16, .getfield 141, 0, 6, 0, 0, 0, 0), (19, .iload_n 1, 1, 0, 0, 0, 0, 0), (20, .iaload, 0, 0, 0, 0, 0, 0), (21, .goto 5, 26, 0, 0, 0, 0, 0), (24, .bipush (-2), 0, 0, 0, 0, 0, (-2)), (26, .ireturn, 0, 0, 0, 0, 0, 0)], [])
-- X9_choose
def k108 : pM := ([(0, .aload_n 0, 0, 0, 0, 0, 0, 0), (1, .getfield 19, 9, 1, 0, 0, 0, 0), (4, .iconst 2, 0, 0, 0, 0, 0, 2), (5, .iload_n 1, 1, 0, 0, 0, 0, 0), (6, .invokevirtual 119, 3, 3, 2, 1, 1, 0), (9, .ifCond .eq 16, 25, 0, 0, 0, 0, 0), (12, .aload_n 0, 0, 0, 0, 0, 0, 0), (13, .iload_n 2, 2, 0, 0, 0, 0, 0), (14, .iload_n 3, 3, 0, 0, 0, 0, 0), (15, .iload 4, 4, 0, 0, 0, 0, 0), (17, .iload 5, 5, 0, 0, 0, 0, 0), (19, .invokevirtual 144, 109, 5, 3, 10, 1, 0), (22, .ifCond .ne 6, 28, 0, 0, 0, 0, 0), (25, .bipush (-2), 0, 0, 0, 0, 0, (-2)), (27, .ireturn, 0, 0, 0, 0, 0, 0), (28, .aload_n 0, 0, 0, 0, 0, 0, 0), (29, .getfield 35, 9, 3, 0, 0, 0, 0), (32, .iload_n 1, 1, 0, 0, 0, 0, 0), (33, .iload_n 2, 2, 0, 0, 0, 0, 0), (34, .iload_n 2, 2, 0, 0, 0, 0, 0), (35, .iconst 3, 0, 0, 0, 0, 0, 3), (36, .if_icmp .ne 7, 43, 0, 0, 0, 0, 0), (39, .iconst (-1), 0, 0, 0, 0, 0, (-1)), (40, .goto 4, 44, 0, 0, 0, 0, 0), (43, .iload_n 3, 3, 0, 0, 0, 0, 0), (44, .iload_n 2, 2, 0, 0, 0, 0, 0), (45, .iconst 1, 0, 0, 0, 0, 0, 1), (46, .if_icmp .eq 8, 54, 0, 0, 0, 0, 0), (49, .iload_n 2, 2, 0, 0, 0, 0, 0), (50, .iconst 2, 0, 0, 0, 0, 0, 2), (51, .if_icmp .ne 8, 59, 0, 0, 0, 0, 0), (54, .iload 4, 4, 0, 0, 0, 0, 0), (56, .goto 4, 60, 0, 0, 0, 0, 0), (59, .iconst (-1), 0, 0, 0, 0, 0, (-1)), (60, .iload_n 2, 2, 0, 0, 0, 0, 0), (61, .iconst 2, 0, 0, 0, 0, 0, 2), (62, .if_icmp .ne 8, 70, 0, 0, 0, 0, 0), (65, .iload 5, 5, 0, 0, 0, 0, 0), (67, .goto 4, 71, 0, 0, 0, 0, 0), (70, .iconst (-1), 0, 0, 0, 0, 0, (-1)), (71, .invokevirtual 148, 58, 6, 2, 6, 0, 0), (74, .aload_n 0, 0, 0, 0, 0, 0, 0), (75, .getfield 35, 9, 3, 0, 0, 0, 0), (78, .iload_n 1, 1, 0, 0, 0, 0, 0), (79, .aload_n 0, 0, 0, 0, 0, 0, 0), (80, .getfield 19, 9, 1, 0, 0, 0, 0), (83, .getfield 126, 0, 5, 0, 0, 0, 0), (86, .invokevirtual 152, 65, 3, 5, 6, 1, 0), (89, .ireturn, 0, 0, 0, 0, 0, 0)], [(60, [true, true, true, false, false, true])])
-- X9_wordsAreFit
def k109 : pM := ([(0, .iload_n 1, 1, 0, 0, 0, 0, 0), (1, .tableswitch 127 0 3 #[31, 41, 76, 125], 0, 31, 0, 0, 0, 0), (32, .aload_n 0, 0, 0, 0, 0, 0, 0), (33, .getfield 19, 9, 1, 0, 0, 0, 0), (36, .iconst 1, 0, 0, 0, 0, 0, 1), (37, .iload_n 2, 2, 0, 0, 0, 0, 0), (38, .invokevirtual 119, 3, 3, 2, 1, 1, 0), (41, .ireturn, 1, 0, 0, 0, 0, 0), (42, .aload_n 0, 0, 0, 0, 0, 0, 0), (43, .getfield 19, 9, 1, 0, 0, 0, 0), (46, .iconst 1, 0, 0, 0, 0, 0, 1), (47, .iload_n 2, 2, 0, 0, 0, 0, 0), (48, .invokevirtual 119, 3, 3, 2, 1, 1, 0), (51, .ifCond .eq 24, 75, 0, 0, 0, 0, 0), (54, .aload_n 0, 0, 0, 0, 0, 0, 0), (55, .getfield 19, 9, 1, 0, 0, 0, 0), (58, .iconst 1, 0, 0, 0, 0, 0, 1), (59, .iload_n 3, 3, 0, 0, 0, 0, 0), (60, .invokevirtual 119, 3, 3, 2, 1, 1, 0), (63, .ifCond .eq 12, 75, 0, 0, 0, 0, 0), (66, .iload_n 2, 2, 0, 0, 0, 0, 0), (67, .iload_n 3, 3, 0, 0, 0, 0, 0), (68, .if_icmp .eq 7, 75, 0, 0, 0, 0, 0), (71, .iconst 1, 0, 0, 0, 0, 0, 1), (72, .goto 4, 76, 0, 0, 0, 0, 0), (75, .iconst 0, 0, 0, 0, 0, 0, 0), (76, .ireturn, 1, 0, 0, 0, 0, 0), (77, .aload_n 0, 0, 0, 0, 0, 0, 0), (78, .getfield 19, 9, 1, 0, 0, 0, 0), (81, .iconst 1, 0, 0, 0, 0, 0, 1), (82, .iload_n 2, 2, 0, 0, 0, 0, 0), (83, .invokevirtual 119, 3, 3, 2, 1, 1, 0), (86, .ifCond .eq 38, 124, 0, 0, 0, 0, 0), (89, .aload_n 0, 0, 0, 0, 0, 0, 0), (90, .getfield 19, 9, 1, 0, 0, 0, 0), (93, .iconst 1, 0, 0, 0, 0, 0, 1), (94, .iload_n 3, 3, 0, 0, 0, 0, 0), (95, .invokevirtual 119, 3, 3, 2, 1, 1, 0), (98, .ifCond .eq 26, 124, 0, 0, 0, 0, 0), (101, .iload 4, 4, 0, 0, 0, 0, 0), (103, .iconst (-1), 0, 0, 0, 0, 0, (-1)), (104, .if_icmp .eq 16, 120, 0, 0, 0, 0, 0), (107, .aload_n 0, 0, 0, 0, 0, 0, 0), (108, .getfield 19, 9, 1, 0, 0, 0, 0), (111, .iconst 1, 0, 0, 0, 0, 0, 1), (112, .iload 4, 4, 0, 0, 0, 0, 0), (114, .invokevirtual 119, 3, 3, 2, 1, 1, 0), (117, .ifCond .eq 7, 124, 0, 0, 0, 0, 0), (120, .iconst 1, 0, 0, 0, 0, 0, 1), (121, .goto 4, 125, 0, 0, 0, 0, 0), (124, .iconst 0, 0, 0, 0, 0, 0, 0), (125, .ireturn, 1, 0, 0, 0, 0, 0), (126, .iconst 1, 0, 0, 0, 0, 0, 1), (127, .ireturn, 1, 0, 0, 0, 0, 0), (128, .iconst 0, 0, 0, 0, 0, 0, 0), (129, .ireturn, 1, 0, 0, 0, 0, 0)], [])
-- X9_leave
def k110 : pM := ([(0, .aload_n 0, 0, 0, 0, 0, 0, 0), (1, .getfield 19, 9, 1, 0, 0, 0, 0), (4, .iconst 2, 0, 0, 0, 0, 0, 2), (5, .iload_n 1, 1, 0, 0, 0, 0, 0), (6, .invokevirtual 119, 3, 3, 2, 1, 1, 0), (9, .ifCond .ne 6, 15, 0, 0, 0, 0, 0), (12, .bipush (-2), 0, 0, 0, 0, 0, (-2)), (14, .ireturn, 0, 0, 0, 0, 0, 0), (15, .aload_n 0, 0, 0, 0, 0, 0, 0), (16, .getfield 35, 9, 3, 0, 0, 0, 0), (19, .iload_n 1, 1, 0, 0, 0, 0, 0), (20, .invokevirtual 156, 59, 2, 2, 6, 1, 0), (23, .ifCond .ne 5, 28, 0, 0, 0, 0, 0), (26, .iconst 0, 0, 0, 0, 0, 0, 0), (27, .ireturn, 0, 0, 0, 0, 0, 0), (28, .aload_n 0, 0, 0, 0, 0, 0, 0), (29, .getfield 35, 9, 3, 0, 0, 0, 0), (32, .iload_n 1, 1, 0, 0, 0, 0, 0), (33, .iconst (-1), 0, 0, 0, 0, 0, (-1)), (34, .iconst (-1), 0, 0, 0, 0, 0, (-1)), (35, .iconst (-1), 0, 0, 0, 0, 0, (-1)), (36, .iconst (-1), 0, 0, 0, 0, 0, (-1)), (37, .invokevirtual 148, 58, 6, 2, 6, 0, 0), (40, .iconst 1, 0, 0, 0, 0, 0, 1), (41, .ireturn, 0, 0, 0, 0, 0, 0)], [])
-- X9_choice
def k111 : pM := ([(0, .aload_n 0, 0, 0, 0, 0, 0, 0), (1, .getfield 19, 9, 1, 0, 0, 0, 0), (4, .iconst 2, 0, 0, 0, 0, 0, 2), (5, .iload_n 1, 1, 0, 0, 0, 0, 0), (6, .invokevirtual 119, 3, 3, 2, 1, 1, 0), (9, .ifCond .ne 6, 15, 0, 0, 0, 0, 0), (12, .bipush (-2), 0, 0, 0, 0, 0, (-2)), (14, .ireturn, 0, 0, 0, 0, 0, 0), (15, .iload_n 2, 2, 0, 0, 0, 0, 0), (16, .tableswitch 72 0 3 #[32, 42, 52, 62], 0, 32, 0, 0, 0, 0), (48, .aload_n 0, 0, 0, 0, 0, 0, 0), (49, .getfield 35, 9, 3, 0, 0, 0, 0), (52, .getfield 160, 5, 1, 0, 0, 0, 0), (55, .iload_n 1, 1, 0, 0, 0, 0, 0), (56, .iaload, 0, 0, 0, 0, 0, 0), (57, .ireturn, 0, 0, 0, 0, 0, 0), (58, .aload_n 0, 0, 0, 0, 0, 0, 0), (59, .getfield 35, 9, 3, 0, 0, 0, 0), (62, .getfield 163, 5, 2, 0, 0, 0, 0), (65, .iload_n 1, 1, 0, 0, 0, 0, 0), (66, .iaload, 0, 0, 0, 0, 0, 0), (67, .ireturn, 0, 0, 0, 0, 0, 0), (68, .aload_n 0, 0, 0, 0, 0, 0, 0), (69, .getfield 35, 9, 3, 0, 0, 0, 0), (72, .getfield 166, 5, 3, 0, 0, 0, 0), (75, .iload_n 1, 1, 0, 0, 0, 0, 0), (76, .iaload, 0, 0, 0, 0, 0, 0), (77, .ireturn, 0, 0, 0, 0, 0, 0), (78, .aload_n 0, 0, 0, 0, 0, 0, 0), (79, .getfield 35, 9, 3, 0, 0, 0, 0), (82, .getfield 169, 5, 4, 0, 0, 0, 0), (85, .iload_n 1, 1, 0, 0, 0, 0, 0), (86, .iaload, 0, 0, 0, 0, 0, 0), (87, .ireturn, 0, 0, 0, 0, 0, 0), (88, .bipush (-2), 0, 0, 0, 0, 0, (-2)), (90, .ireturn, 0, 0, 0, 0, 0, 0)], [])
-- X9_bears
def k112 : pM := ([(0, .aload_n 0, 0, 0, 0, 0, 0, 0), (1, .getfield 19, 9, 1, 0, 0, 0, 0), (4, .iconst 2, 0, 0, 0, 0, 0, 2), (5, .iload_n 1, 1, 0, 0, 0, 0, 0), (6, .invokevirtual 119, 3, 3, 2, 1, 1, 0), (9, .ifCond .eq 12, 21, 0, 0, 0, 0, 0), (12, .iload_n 2, 2, 0, 0, 0, 0, 0), (13, .ifCond .lt 8, 21, 0, 0, 0, 0, 0), (16, .iload_n 2, 2, 0, 0, 0, 0, 0), (17, .iconst 4, 0, 0, 0, 0, 0, 4), (18, .if_icmp .le 6, 24, 0, 0, 0, 0, 0), (21, .bipush (-2), 0, 0, 0, 0, 0, (-2)), (23, .ireturn, 0, 0, 0, 0, 0, 0), (24, .iload_n 2, 2, 0, 0, 0, 0, 0), (25, .iconst 4, 0, 0, 0, 0, 0, 4), (26, .if_icmp .ne 13, 39, 0, 0, 0, 0, 0), (29, .aload_n 0, 0, 0, 0, 0, 0, 0), (30, .getfield 35, 9, 3, 0, 0, 0, 0), (33, .getfield 172, 5, 5, 0, 0, 0, 0), (36, .iload_n 1, 1, 0, 0, 0, 0, 0), (37, .iaload, 0, 0, 0, 0, 0, 0), (38, .ireturn, 0, 0, 0, 0, 0, 0), (39, .aload_n 0, 0, 0, 0, 0, 0, 0), (40, .getfield 35, 9, 3, 0, 0, 0, 0), (43, .iload_n 1, 1, 0, 0, 0, 0, 0), (44, .invokevirtual 156, 59, 2, 2, 6, 1, 0), (47, .ifCond .ne 5, 52, 0, 0, 0, 0, 0), (50, .iconst (-1), 0, 0, 0, 0, 0, (-1)), (51, .ireturn, 0, 0, 0, 0, 0, 0), (52, .aload_n 0, 0, 0, 0, 0, 0, 0), (53, .getfield 35, 9, 3, 0, 0, 0, 0), (56, .iload_n 1, 1, 0, 0, 0, 0, 0), (57, .aload_n 0, 0, 0, 0, 0, 0, 0), (58, .getfield 19, 9, 1, 0, 0, 0, 0), (61, .getfield 126, 0, 5, 0, 0, 0, 0), (64, .invokevirtual 175, 63, 3, 3, 6, 1, 0), (67, .istore_n 3, 3, 0, 0, 0, 0, 0), (68, .iload_n 2, 2, 0, 0, 0, 0, 0), (69, .tableswitch 49 0 2 #[27, 29, 39], 0, 27, 0, 0, 0, 0), (96, .iload_n 3, 3, 0, 0, 0, 0, 0), (97, .ireturn, 0, 0, 0, 0, 0, 0), (98, .aload_n 0, 0, 0, 0, 0, 0, 0), (99, .getfield 19, 9, 1, 0, 0, 0, 0), (102, .iload_n 1, 1, 0, 0, 0, 0, 0), (103, .iload_n 3, 3, 0, 0, 0, 0, 0), (104, .invokevirtual 178, 10, 3, 2, 1, 1, 0), (107, .ireturn, 0, 0, 0, 0, 0, 0), (108, .aload_n 0, 0, 0, 0, 0, 0, 0), (109, .getfield 19, 9, 1, 0, 0, 0, 0), (112, .iload_n 1, 1, 0, 0, 0, 0, 0), (113, .iload_n 3, 3, 0, 0, 0, 0, 0), (114, .invokevirtual 182, 11, 3, 3, 1, 1, 0), (117, .ireturn, 0, 0, 0, 0, 0, 0), (118, .aload_n 0, 0, 0, 0, 0, 0, 0), (119, .getfield 35, 9, 3, 0, 0, 0, 0), (122, .iload_n 1, 1, 0, 0, 0, 0, 0), (123, .aload_n 0, 0, 0, 0, 0, 0, 0), (124, .getfield 19, 9, 1, 0, 0, 0, 0), (127, .getfield 126, 0, 5, 0, 0, 0, 0), (130, .invokevirtual 152, 65, 3, 5, 6, 1, 0), (133, .ireturn, 0, 0, 0, 0, 0, 0)], [])
-- X9_note
def k113 : pM := ([(0, .aload_n 0, 0, 0, 0, 0, 0, 0), (1, .getfield 19, 9, 1, 0, 0, 0, 0), (4, .iconst 2, 0, 0, 0, 0, 0, 2), (5, .iload_n 1, 1, 0, 0, 0, 0, 0), (6, .invokevirtual 119, 3, 3, 2, 1, 1, 0), (9, .ifCond .eq 18, 27, 0, 0, 0, 0, 0), (12, .iload_n 2, 2, 0, 0, 0, 0, 0), (13, .aload_n 0, 0, 0, 0, 0, 0, 0), (14, .getfield 19, 9, 1, 0, 0, 0, 0), (17, .iload_n 1, 1, 0, 0, 0, 0, 0), (18, .invokevirtual 185, 9, 2, 2, 1, 1, 0), (21, .iconst (-1), 0, 0, 0, 0, 0, (-1)), (22, .ixor, 0, 0, 0, 0, 0, 0), (23, .iand, 0, 0, 0, 0, 0, 0), (24, .ifCond .eq 6, 30, 0, 0, 0, 0, 0), (27, .bipush (-2), 0, 0, 0, 0, 0, (-2)), (29, .ireturn, 0, 0, 0, 0, 0, 0), (30, .aload_n 0, 0, 0, 0, 0, 0, 0), (31, .getfield 35, 9, 3, 0, 0, 0, 0), (34, .invokevirtual 189, 62, 1, 3, 6, 1, 0), (37, .aload_n 0, 0, 0, 0, 0, 0, 0), (38, .getfield 35, 9, 3, 0, 0, 0, 0), (41, .getfield 172, 5, 5, 0, 0, 0, 0), (44, .iload_n 1, 1, 0, 0, 0, 0, 0), (45, .iaload, 0, 0, 0, 0, 0, 0), (46, .invokestatic 193, 242, 1, 2, 0, 1, 0), (49, .isub, 0, 0, 0, 0, 0, 0), (50, .iload_n 2, 2, 0, 0, 0, 0, 0), (51, .invokestatic 193, 242, 1, 2, 0, 1, 0), (54, .iadd, 0, 0, 0, 0, 0, 0), (55, .istore_n 3, 3, 0, 0, 0, 0, 0), (56, .iload_n 3, 3, 0, 0, 0, 0, 0), (57, .aload_n 0, 0, 0, 0, 0, 0, 0), (58, .getfield 19, 9, 1, 0, 0, 0, 0), (61, .bipush 9, 0, 0, 0, 0, 0, 9), (63, .invokevirtual 198, 4, 2, 2, 1, 1, 0), (66, .if_icmp .le 6, 72, 0, 0, 0, 0, 0), (69, .bipush (-3), 0, 0, 0, 0, 0, (-3)), (71, .ireturn, 0, 0, 0, 0, 0, 0), (72, .aload_n 0, 0, 0, 0, 0, 0, 0), (73, .getfield 35, 9, 3, 0, 0, 0, 0), (76, .getfield 172, 5, 5, 0, 0, 0, 0), (79, .iload_n 1, 1, 0, 0, 0, 0, 0), (80, .iload_n 2, 2, 0, 0, 0, 0, 0), (81, .iastore, 0, 0, 0, 0, 0, 0), (82, .iload_n 3, 3, 0, 0, 0, 0, 0), (83, .ireturn, 0, 0, 0, 0, 0, 0)], [])
-- X9_lost
def k114 : pM := ([(0, .aload_n 0, 0, 0, 0, 0, 0, 0), (1, .getfield 35, 9, 3, 0, 0, 0, 0), (4, .aload_n 0, 0, 0, 0, 0, 0, 0), (5, .getfield 19, 9, 1, 0, 0, 0, 0), (8, .getfield 126, 0, 5, 0, 0, 0, 0), (11, .invokevirtual 201, 66, 2, 6, 6, 1, 0), (14, .ireturn, 0, 0, 0, 0, 0, 0)], [])
-- X9_clashes
def k115 : pM := ([(0, .aload_n 0, 0, 0, 0, 0, 0, 0), (1, .getfield 35, 9, 3, 0, 0, 0, 0), (4, .invokevirtual 205, 67, 1, 5, 6, 1, 0), (7, .ireturn, 0, 0, 0, 0, 0, 0)], [])
-- X9_bound
def k116 : pM := ([(0, .aload_n 0, 0, 0, 0, 0, 0, 0), (1, .getfield 19, 9, 1, 0, 0, 0, 0), (4, .iconst 2, 0, 0, 0, 0, 0, 2), (5, .iload_n 1, 1, 0, 0, 0, 0, 0), (6, .invokevirtual 119, 3, 3, 2, 1, 1, 0), (9, .ifCond .eq 14, 23, 0, 0, 0, 0, 0), (12, .aload_n 0, 0, 0, 0, 0, 0, 0), (13, .getfield 19, 9, 1, 0, 0, 0, 0), (16, .iload_n 1, 1, 0, 0, 0, 0, 0), (17, .invokevirtual 208, 15, 2, 2, 1, 1, 0), (20, .goto 5, 25, 0, 0, 0, 0, 0), (23, .bipush (-2), 0, 0, 0, 0, 0, (-2)), (25, .ireturn, 0, 0, 0, 0, 0, 0)], [])
-- X9_best
def k117 : pM := ([(0, .iload_n 1, 1, 0, 0, 0, 0, 0), (1, .invokestatic 193, 242, 1, 2, 0, 1, 0), (4, .istore_n 2, 2, 0, 0, 0, 0, 0), (5, .iload_n 2, 2, 0, 0, 0, 0, 0), (6, .iconst 1, 0, 0, 0, 0, 0, 1), (7, .if_icmp .lt 22, 29, 0, 0, 0, 0, 0), (10, .iload_n 2, 2, 0, 0, 0, 0, 0), (11, .iconst 4, 0, 0, 0, 0, 0, 4), (12, .if_icmp .gt 17, 29, 0, 0, 0, 0, 0), (15, .iload_n 1, 1, 0, 0, 0, 0, 0), (16, .aload_n 0, 0, 0, 0, 0, 0, 0), (17, .getfield 19, 9, 1, 0, 0, 0, 0), (20, .invokevirtual 211, 5, 1, 2, 1, 1, 0), (23, .iconst (-1), 0, 0, 0, 0, 0, (-1)), (24, .ixor, 0, 0, 0, 0, 0, 0), (25, .iand, 0, 0, 0, 0, 0, 0), (26, .ifCond .eq 6, 32, 0, 0, 0, 0, 0), (29, .bipush (-2), 0, 0, 0, 0, 0, (-2)), (31, .ireturn, 0, 0, 0, 0, 0, 0), (32, .aload_n 0, 0, 0, 0, 0, 0, 0), (33, .getfield 50, 9, 6, 0, 0, 0, 0), (36, .aload_n 0, 0, 0, 0, 0, 0, 0), (37, .getfield 35, 9, 3, 0, 0, 0, 0), (40, .iload_n 1, 1, 0, 0, 0, 0, 0), (41, .invokevirtual 214, 83, 3, 11, 7, 1, 0), (44, .ifCond .eq 20, 64, 0, 0, 0, 0, 0), (47, .aload_n 0, 0, 0, 0, 0, 0, 0), (48, .getfield 35, 9, 3, 0, 0, 0, 0), (51, .aload_n 0, 0, 0, 0, 0, 0, 0), (52, .getfield 19, 9, 1, 0, 0, 0, 0), (55, .getfield 126, 0, 5, 0, 0, 0, 0), (58, .invokevirtual 201, 66, 2, 6, 6, 1, 0), (61, .goto 4, 65, 0, 0, 0, 0, 0), (64, .iconst (-1), 0, 0, 0, 0, 0, (-1)), (65, .ireturn, 0, 0, 0, 0, 0, 0)], [])
-- X9_exchange
def k118 : pM := ([(0, .iconst 1, 0, 0, 0, 0, 0, 1), (1, .istore_n 1, 1, 0, 0, 0, 0, 0), (2, .iconst 0, 0, 0, 0, 0, 0, 0), (3, .istore_n 2, 2, 0, 0, 0, 0, 0), (4, .iload_n 2, 2, 0, 0, 0, 0, 0), (5, .bipush 10, 0, 0, 0, 0, 0, 10), (7, .if_icmp .ge 21, 28, 0, 0, 0, 0, 0), (10, .iload_n 1, 1, 0, 0, 0, 0, 0), (11, .ifCond .eq 17, 28, 0, 0, 0, 0, 0), (14, .aload_n 0, 0, 0, 0, 0, 0, 0), (15, .getfield 35, 9, 3, 0, 0, 0, 0), (18, .invokevirtual 218, 74, 1, 7, 6, 1, 0), (21, .istore_n 1, 1, 0, 0, 0, 0, 0), (22, .iinc 2 1, 2, 0, 0, 0, 0, 1), (25, .goto (-21), 4, 0, 0, 0, 0, 0), (28, .aload_n 0, 0, 0, 0, 0, 0, 0), (29, .getfield 35, 9, 3, 0, 0, 0, 0), (32, .aload_n 0, 0, 0, 0, 0, 0, 0), (33, .getfield 19, 9, 1, 0, 0, 0, 0), (36, .getfield 126, 0, 5, 0, 0, 0, 0), (39, .invokevirtual 201, 66, 2, 6, 6, 1, 0), (42, .ireturn, 0, 0, 0, 0, 0, 0)], [(4, [true, true, true])])
-- X9_one
def k119 : pM := ([(0, .aload_n 0, 0, 0, 0, 0, 0, 0), (1, .getfield 19, 9, 1, 0, 0, 0, 0), (4, .iconst 0, 0, 0, 0, 0, 0, 0), (5, .iload_n 1, 1, 0, 0, 0, 0, 0), (6, .invokevirtual 119, 3, 3, 2, 1, 1, 0), (9, .ifCond .ne 6, 15, 0, 0, 0, 0, 0), (12, .bipush (-2), 0, 0, 0, 0, 0, (-2)), (14, .ireturn, 0, 0, 0, 0, 0, 0), (15, .aload_n 0, 0, 0, 0, 0, 0, 0), (16, .getfield 35, 9, 3, 0, 0, 0, 0), (19, .iload_n 1, 1, 0, 0, 0, 0, 0), (20, .invokevirtual 221, 78, 2, 7, 6, 1, 0), (23, .ireturn, 0, 0, 0, 0, 0, 0)], [])
-- X9_price
def k120 : pM := ([(0, .aload_n 0, 0, 0, 0, 0, 0, 0), (1, .getfield 19, 9, 1, 0, 0, 0, 0), (4, .iconst 0, 0, 0, 0, 0, 0, 0), (5, .iload_n 1, 1, 0, 0, 0, 0, 0), (6, .invokevirtual 119, 3, 3, 2, 1, 1, 0), (9, .ifCond .ne 6, 15, 0, 0, 0, 0, 0), (12, .bipush (-2), 0, 0, 0, 0, 0, (-2)), (14, .ireturn, 0, 0, 0, 0, 0, 0), (15, .aload_n 0, 0, 0, 0, 0, 0, 0), (16, .getfield 35, 9, 3, 0, 0, 0, 0), (19, .iload_n 1, 1, 0, 0, 0, 0, 0), (20, .invokevirtual 221, 78, 2, 7, 6, 1, 0), (23, .istore_n 2, 2, 0, 0, 0, 0, 0), (24, .iload_n 2, 2, 0, 0, 0, 0, 0), (25, .iconst (-1), 0, 0, 0, 0, 0, (-1)), (26, .if_icmp .ne 7, 33, 0, 0, 0, 0, 0), (29, .iconst (-1), 0, 0, 0, 0, 0, (-1)), (30, .goto 21, 51, 0, 0, 0, 0, 0), (33, .aload_n 0, 0, 0, 0, 0, 0, 0), (34, .getfield 35, 9, 3, 0, 0, 0, 0), (37, .iload_n 1, 1, 0, 0, 0, 0, 0), (38, .iload_n 2, 2, 0, 0, 0, 0, 0), (39, .invokevirtual 224, 76, 3, 6, 6, 1, 0), (42, .aload_n 0, 0, 0, 0, 0, 0, 0), (43, .getfield 35, 9, 3, 0, 0, 0, 0), (46, .iload_n 1, 1, 0, 0, 0, 0, 0), (47, .invokevirtual 227, 77, 2, 6, 6, 1, 0), (50, .isub, 0, 0, 0, 0, 0, 0), (51, .ireturn, 0, 0, 0, 0, 0, 0)], [])
-- X9_swap
def k121 : pM := ([(0, .aload_n 0, 0, 0, 0, 0, 0, 0), (1, .getfield 19, 9, 1, 0, 0, 0, 0), (4, .iconst 0, 0, 0, 0, 0, 0, 0), (5, .iload_n 1, 1, 0, 0, 0, 0, 0), (6, .invokevirtual 119, 3, 3, 2, 1, 1, 0), (9, .ifCond .eq 14, 23, 0, 0, 0, 0, 0), (12, .aload_n 0, 0, 0, 0, 0, 0, 0), (13, .getfield 19, 9, 1, 0, 0, 0, 0), (16, .iload_n 1, 1, 0, 0, 0, 0, 0), (17, .invokevirtual 230, 16, 2, 2, 1, 1, 0), (20, .goto 5, 25, 0, 0, 0, 0, 0), (23, .bipush (-2), 0, 0, 0, 0, 0, (-2)), (25, .ireturn, 0, 0, 0, 0, 0, 0)], [])
-- X9_mend
def k122 : pM := ([(0, .iload_n 1, 1, 0, 0, 0, 0, 0), (1, .ifCond .lt 9, 10, 0, 0, 0, 0, 0), (4, .iload_n 1, 1, 0, 0, 0, 0, 0), (5, .bipush 99, 0, 0, 0, 0, 0, 99), (7, .if_icmp .le 6, 13, 0, 0, 0, 0, 0), (10, .bipush (-2), 0, 0, 0, 0, 0, (-2)), (12, .ireturn, 0, 0, 0, 0, 0, 0), (13, .iload_n 1, 1, 0, 0, 0, 0, 0), (14, .aload_n 0, 0, 0, 0, 0, 0, 0), (15, .getfield 19, 9, 1, 0, 0, 0, 0), (18, .bipush 9, 0, 0, 0, 0, 0, 9), (20, .invokevirtual 198, 4, 2, 2, 1, 1, 0), (23, .aload_n 0, 0, 0, 0, 0, 0, 0), (24, .getfield 35, 9, 3, 0, 0, 0, 0), (27, .invokevirtual 189, 62, 1, 3, 6, 1, 0), (30, .isub, 0, 0, 0, 0, 0, 0), (31, .invokestatic 233, 0, 2, 0, 0, 0, 0), (34, .istore_n 2, 2, 0, 0, 0, 0, 0), (35, .iconst 0, 0, 0, 0, 0, 0, 0), (36, .istore_n 3, 3, 0, 0, 0, 0, 0), (37, .iload_n 3, 3, 0, 0, 0, 0, 0), (38, .iload_n 2, 2, 0, 0, 0, 0, 0), (39, .if_icmp .ge 19, 58, 0, 0, 0, 0, 0), (42, .aload_n 0, 0, 0, 0, 0, 0, 0), (43, .getfield 35, 9, 3, 0, 0, 0, 0), (46, .invokevirtual 238, 79, 1, 5, 6, 1, 0), (49, .ifCond .eq 9, 58, 0, 0, 0, 0, 0), (52, .iinc 3 1, 3, 0, 0, 0, 0, 1), (55, .goto (-18), 37, 0, 0, 0, 0, 0), (58, .iload_n 3, 3, 0, 0, 0, 0, 0), (59, .ireturn, 0, 0, 0, 0, 0, 0)], [(37, [true, false, true, true])])
-- X9_whyNotHeard
def k123 : pM := ([(0, .aload_n 0, 0, 0, 0, 0, 0, 0), (1, .getfield 19, 9, 1, 0, 0, 0, 0), (4, .iconst 4, 0, 0, 0, 0, 0, 4), (5, .iload_n 1, 1, 0, 0, 0, 0, 0), (6, .invokevirtual 119, 3, 3, 2, 1, 1, 0), (9, .ifCond .eq 15, 24, 0, 0, 0, 0, 0), (12, .aload_n 0, 0, 0, 0, 0, 0, 0), (13, .getfield 19, 9, 1, 0, 0, 0, 0), (16, .iconst 2, 0, 0, 0, 0, 0, 2), (17, .iload_n 2, 2, 0, 0, 0, 0, 0), (18, .invokevirtual 119, 3, 3, 2, 1, 1, 0), (21, .ifCond .ne 6, 27, 0, 0, 0, 0, 0), (24, .bipush (-2), 0, 0, 0, 0, 0, (-2)), (26, .ireturn, 0, 0, 0, 0, 0, 0), (27, .aload_n 0, 0, 0, 0, 0, 0, 0), (28, .getfield 35, 9, 3, 0, 0, 0, 0), (31, .iload_n 2, 2, 0, 0, 0, 0, 0), (32, .invokevirtual 156, 59, 2, 2, 6, 1, 0), (35, .ifCond .eq 7, 42, 0, 0, 0, 0, 0), (38, .iconst 0, 0, 0, 0, 0, 0, 0), (39, .goto 4, 43, 0, 0, 0, 0, 0), (42, .iconst (-1), 0, 0, 0, 0, 0, (-1)), (43, .ireturn, 0, 0, 0, 0, 0, 0)], [])
-- X9_hears
def k124 : pM := ([(0, .aload_n 0, 0, 0, 0, 0, 0, 0), (1, .iload_n 1, 1, 0, 0, 0, 0, 0), (2, .iload_n 2, 2, 0, 0, 0, 0, 0), (3, .invokevirtual 241, 123, 3, 3, 10, 1, 0), (6, .istore_n 3, 3, 0, 0, 0, 0, 0), (7, .iload_n 3, 3, 0, 0, 0, 0, 0), (8, .ifCond .eq 7, 15, 0, 0, 0, 0, 0), (11, .iload_n 3, 3, 0, 0, 0, 0, 0), (12, .goto 12, 24, 0, 0, 0, 0, 0), (15, .aload_n 0, 0, 0, 0, 0, 0, 0), (16, .getfield 35, 9, 3, 0, 0, 0, 0), (19, .iload_n 1, 1, 0, 0, 0, 0, 0), (20, .iload_n 2, 2, 0, 0, 0, 0, 0), (21, .invokevirtual 244, 81, 3, 4, 6, 1, 0), (24, .ireturn, 0, 0, 0, 0, 0, 0)], [])
-- X9_back
def k125 : pM := ([(0, .aload_n 0, 0, 0, 0, 0, 0, 0), (1, .iload_n 1, 1, 0, 0, 0, 0, 0), (2, .iload_n 2, 2, 0, 0, 0, 0, 0), (3, .invokevirtual 241, 123, 3, 3, 10, 1, 0), (6, .istore_n 3, 3, 0, 0, 0, 0, 0), (7, .iload_n 3, 3, 0, 0, 0, 0, 0), (8, .ifCond .eq 7, 15, 0, 0, 0, 0, 0), (11, .iload_n 3, 3, 0, 0, 0, 0, 0), (12, .goto 19, 31, 0, 0, 0, 0, 0), (15, .aload_n 0, 0, 0, 0, 0, 0, 0), (16, .getfield 19, 9, 1, 0, 0, 0, 0), (19, .aload_n 0, 0, 0, 0, 0, 0, 0), (20, .getfield 35, 9, 3, 0, 0, 0, 0), (23, .iload_n 1, 1, 0, 0, 0, 0, 0), (24, .iload_n 2, 2, 0, 0, 0, 0, 0), (25, .invokevirtual 244, 81, 3, 4, 6, 1, 0), (28, .invokevirtual 247, 17, 2, 3, 1, 1, 0), (31, .ireturn, 0, 0, 0, 0, 0, 0)], [])
-- X9_laughs
def k126 : pM := ([(0, .aload_n 0, 0, 0, 0, 0, 0, 0), (1, .iload_n 1, 1, 0, 0, 0, 0, 0), (2, .iload_n 2, 2, 0, 0, 0, 0, 0), (3, .invokevirtual 241, 123, 3, 3, 10, 1, 0), (6, .istore_n 3, 3, 0, 0, 0, 0, 0), (7, .iload_n 3, 3, 0, 0, 0, 0, 0), (8, .ifCond .eq 5, 13, 0, 0, 0, 0, 0), (11, .iload_n 3, 3, 0, 0, 0, 0, 0), (12, .ireturn, 0, 0, 0, 0, 0, 0), (13, .aload_n 0, 0, 0, 0, 0, 0, 0), (14, .getfield 19, 9, 1, 0, 0, 0, 0), (17, .getfield 138, 0, 12, 0, 0, 0, 0), (20, .iload_n 1, 1, 0, 0, 0, 0, 0), (21, .iaload, 0, 0, 0, 0, 0, 0), (22, .istore 4, 4, 0, 0, 0, 0, 0), (24, .iload 4, 4, 0, 0, 0, 0, 0), (26, .ifCond .eq 30, 56, 0, 0, 0, 0, 0), (29, .iload 4, 4, 0, 0, 0, 0, 0), (31, .aload_n 0, 0, 0, 0, 0, 0, 0), (32, .getfield 35, 9, 3, 0, 0, 0, 0), (35, .iload_n 2, 2, 0, 0, 0, 0, 0), (36, .aload_n 0, 0, 0, 0, 0, 0, 0), (37, .getfield 19, 9, 1, 0, 0, 0, 0), (40, .getfield 126, 0, 5, 0, 0, 0, 0), (43, .invokevirtual 175, 63, 3, 3, 6, 1, 0), (46, .iconst (-1), 0, 0, 0, 0, 0, (-1)), (47, .ixor, 0, 0, 0, 0, 0, 0), (48, .iand, 0, 0, 0, 0, 0, 0), (49, .ifCond .ne 7, 56, 0, 0, 0, 0, 0), (52, .iconst 1, 0, 0, 0, 0, 0, 1), (53, .goto 4, 57, 0, 0, 0, 0, 0), (56, .iconst 0, 0, 0, 0, 0, 0, 0), (57, .ireturn, 0, 0, 0, 0, 0, 0)], [])
-- X9_hits
def k127 : pM := ([(0, .aload_n 0, 0, 0, 0, 0, 0, 0), (1, .getfield 19, 9, 1, 0, 0, 0, 0), (4, .iconst 4, 0, 0, 0, 0, 0, 4), (5, .iload_n 1, 1, 0, 0, 0, 0, 0), (6, .invokevirtual 119, 3, 3, 2, 1, 1, 0), (9, .ifCond .eq 14, 23, 0, 0, 0, 0, 0), (12, .aload_n 0, 0, 0, 0, 0, 0, 0), (13, .getfield 35, 9, 3, 0, 0, 0, 0), (16, .iload_n 1, 1, 0, 0, 0, 0, 0), (17, .invokevirtual 250, 82, 2, 5, 6, 1, 0), (20, .goto 5, 25, 0, 0, 0, 0, 0), (23, .bipush (-2), 0, 0, 0, 0, 0, (-2)), (25, .ireturn, 0, 0, 0, 0, 0, 0)], [])
-- X9_on
def k128 : pM := ([(0, .aload_n 0, 0, 0, 0, 0, 0, 0), (1, .getfield 19, 9, 1, 0, 0, 0, 0), (4, .iconst 4, 0, 0, 0, 0, 0, 4), (5, .iload_n 2, 2, 0, 0, 0, 0, 0), (6, .invokevirtual 119, 3, 3, 2, 1, 1, 0), (9, .ifCond .ne 6, 15, 0, 0, 0, 0, 0), (12, .bipush (-2), 0, 0, 0, 0, 0, (-2)), (14, .ireturn, 0, 0, 0, 0, 0, 0), (15, .aload_n 0, 0, 0, 0, 0, 0, 0), (16, .iload_n 1, 1, 0, 0, 0, 0, 0), (17, .iload_n 3, 3, 0, 0, 0, 0, 0), (18, .invokevirtual 241, 123, 3, 3, 10, 1, 0), (21, .istore 4, 4, 0, 0, 0, 0, 0), (23, .iload 4, 4, 0, 0, 0, 0, 0), (25, .ifCond .eq 6, 31, 0, 0, 0, 0, 0), (28, .iload 4, 4, 0, 0, 0, 0, 0), (30, .ireturn, 0, 0, 0, 0, 0, 0), (31, .aload_n 0, 0, 0, 0, 0, 0, 0), (32, .getfield 19, 9, 1, 0, 0, 0, 0), (35, .aload_n 0, 0, 0, 0, 0, 0, 0), (36, .getfield 35, 9, 3, 0, 0, 0, 0), (39, .iload_n 1, 1, 0, 0, 0, 0, 0), (40, .iload_n 3, 3, 0, 0, 0, 0, 0), (41, .invokevirtual 244, 81, 3, 4, 6, 1, 0), (44, .invokevirtual 247, 17, 2, 3, 1, 1, 0), (47, .istore 5, 5, 0, 0, 0, 0, 0), (49, .aload_n 0, 0, 0, 0, 0, 0, 0), (50, .getfield 19, 9, 1, 0, 0, 0, 0), (53, .aload_n 0, 0, 0, 0, 0, 0, 0), (54, .getfield 19, 9, 1, 0, 0, 0, 0), (57, .iload 5, 5, 0, 0, 0, 0, 0), (59, .invokevirtual 253, 18, 2, 3, 1, 1, 0), (62, .aload_n 0, 0, 0, 0, 0, 0, 0), (63, .getfield 19, 9, 1, 0, 0, 0, 0), (66, .getfield 135, 0, 11, 0, 0, 0, 0), (69, .iload_n 2, 2, 0, 0, 0, 0, 0), (70, .iaload, 0, 0, 0, 0, 0, 0), (71, .iand, 0, 0, 0, 0, 0, 0), (72, .invokevirtual 247, 17, 2, 3, 1, 1, 0), (75, .ireturn, 0, 0, 0, 0, 0, 0)], [])
-- X9_keep
def k129 : pM := ([(0, .iload_n 1, 1, 0, 0, 0, 0, 0), (1, .ifCond .lt 8, 9, 0, 0, 0, 0, 0), (4, .iload_n 1, 1, 0, 0, 0, 0, 0), (5, .iconst 4, 0, 0, 0, 0, 0, 4), (6, .if_icmp .lt 6, 12, 0, 0, 0, 0, 0), (9, .bipush (-2), 0, 0, 0, 0, 0, (-2)), (11, .ireturn, 0, 0, 0, 0, 0, 0), (12, .aload_n 0, 0, 0, 0, 0, 0, 0), (13, .getfield 39, 9, 4, 0, 0, 0, 0), (16, .iload_n 1, 1, 0, 0, 0, 0, 0), (17, .aaload, 0, 0, 0, 0, 0, 0), (18, .aload_n 0, 0, 0, 0, 0, 0, 0), (19, .getfield 35, 9, 3, 0, 0, 0, 0), (22, .invokevirtual 256, 57, 2, 2, 6, 0, 0), (25, .aload_n 0, 0, 0, 0, 0, 0, 0), (26, .getfield 43, 9, 5, 0, 0, 0, 0), (29, .iload_n 1, 1, 0, 0, 0, 0, 0), (30, .iconst 1, 0, 0, 0, 0, 0, 1), (31, .bastore, 0, 0, 0, 0, 0, 0), (32, .aload_n 0, 0, 0, 0, 0, 0, 0), (33, .getfield 35, 9, 3, 0, 0, 0, 0), (36, .aload_n 0, 0, 0, 0, 0, 0, 0), (37, .getfield 19, 9, 1, 0, 0, 0, 0), (40, .getfield 126, 0, 5, 0, 0, 0, 0), (43, .invokevirtual 201, 66, 2, 6, 6, 1, 0), (46, .ireturn, 0, 0, 0, 0, 0, 0)], [])
-- X9_take
def k130 : pM := ([(0, .iload_n 1, 1, 0, 0, 0, 0, 0), (1, .ifCond .lt 8, 9, 0, 0, 0, 0, 0), (4, .iload_n 1, 1, 0, 0, 0, 0, 0), (5, .iconst 4, 0, 0, 0, 0, 0, 4), (6, .if_icmp .lt 6, 12, 0, 0, 0, 0, 0), (9, .bipush (-2), 0, 0, 0, 0, 0, (-2)), (11, .ireturn, 0, 0, 0, 0, 0, 0), (12, .aload_n 0, 0, 0, 0, 0, 0, 0), (13, .getfield 43, 9, 5, 0, 0, 0, 0), (16, .iload_n 1, 1, 0, 0, 0, 0, 0), (17, .baload, 0, 0, 0, 0, 0, 0), (18, .ifCond .ne 6, 24, 0, 0, 0, 0, 0), (21, .bipush (-4), 0, 0, 0, 0, 0, (-4)), (23, .ireturn, 0, 0, 0, 0, 0, 0), (24, .aload_n 0, 0, 0, 0, 0, 0, 0), (25, .getfield 35, 9, 3, 0, 0, 0, 0), (28, .aload_n 0, 0, 0, 0, 0, 0, 0), (29, .getfield 39, 9, 4, 0, 0, 0, 0), (32, .iload_n 1, 1, 0, 0, 0, 0, 0), (33, .aaload, 0, 0, 0, 0, 0, 0), (34, .invokevirtual 256, 57, 2, 2, 6, 0, 0), (37, .aload_n 0, 0, 0, 0, 0, 0, 0), (38, .getfield 35, 9, 3, 0, 0, 0, 0), (41, .aload_n 0, 0, 0, 0, 0, 0, 0), (42, .getfield 19, 9, 1, 0, 0, 0, 0), (45, .getfield 126, 0, 5, 0, 0, 0, 0), (48, .invokevirtual 201, 66, 2, 6, 6, 1, 0), (51, .ireturn, 0, 0, 0, 0, 0, 0)], [])
-- X9_nearer
def k131 : pM := ([(0, .iload_n 1, 1, 0, 0, 0, 0, 0), (1, .ifCond .lt 29, 30, 0, 0, 0, 0, 0), (4, .iload_n 1, 1, 0, 0, 0, 0, 0), (5, .iconst 4, 0, 0, 0, 0, 0, 4), (6, .if_icmp .ge 24, 30, 0, 0, 0, 0, 0), (9, .iload_n 2, 2, 0, 0, 0, 0, 0), (10, .ifCond .lt 20, 30, 0, 0, 0, 0, 0), (13, .iload_n 2, 2, 0, 0, 0, 0, 0), (14, .iconst 4, 0, 0, 0, 0, 0, 4), (15, .if_icmp .ge 15, 30, 0, 0, 0, 0, 0), (18, .aload_n 0, 0, 0, 0, 0, 0, 0), (19, .getfield 19, 9, 1, 0, 0, 0, 0), (22, .iconst 4, 0, 0, 0, 0, 0, 4), (23, .iload_n 3, 3, 0, 0, 0, 0, 0), (24, .invokevirtual 119, 3, 3, 2, 1, 1, 0), (27, .ifCond .ne 6, 33, 0, 0, 0, 0, 0), (30, .bipush (-2), 0, 0, 0, 0, 0, (-2)), (32, .ireturn, 0, 0, 0, 0, 0, 0), (33, .aload_n 0, 0, 0, 0, 0, 0, 0), (34, .getfield 43, 9, 5, 0, 0, 0, 0), (37, .iload_n 1, 1, 0, 0, 0, 0, 0), (38, .baload, 0, 0, 0, 0, 0, 0), (39, .ifCond .eq 12, 51, 0, 0, 0, 0, 0), (42, .aload_n 0, 0, 0, 0, 0, 0, 0), (43, .getfield 43, 9, 5, 0, 0, 0, 0), (46, .iload_n 2, 2, 0, 0, 0, 0, 0), (47, .baload, 0, 0, 0, 0, 0, 0), (48, .ifCond .ne 6, 54, 0, 0, 0, 0, 0), (51, .bipush (-4), 0, 0, 0, 0, 0, (-4)), (53, .ireturn, 0, 0, 0, 0, 0, 0), (54, .aload_n 0, 0, 0, 0, 0, 0, 0), (55, .getfield 39, 9, 4, 0, 0, 0, 0), (58, .iload_n 1, 1, 0, 0, 0, 0, 0), (59, .aaload, 0, 0, 0, 0, 0, 0), (60, .iload_n 3, 3, 0, 0, 0, 0, 0), (61, .invokevirtual 250, 82, 2, 5, 6, 1, 0), (64, .aload_n 0, 0, 0, 0, 0, 0, 0), (65, .getfield 39, 9, 4, 0, 0, 0, 0), (68, .iload_n 2, 2, 0, 0, 0, 0, 0), (69, .aaload, 0, 0, 0, 0, 0, 0), (70, .iload_n 3, 3, 0, 0, 0, 0, 0), (71, .invokevirtual 250, 82, 2, 5, 6, 1, 0), (74, .isub, 0, 0, 0, 0, 0, 0), (75, .istore 4, 4, 0, 0, 0, 0, 0), (77, .iload 4, 4, 0, 0, 0, 0, 0), (79, .ifCond .ne 38, 117, 0, 0, 0, 0, 0), (82, .aload_n 0, 0, 0, 0, 0, 0, 0), (83, .getfield 39, 9, 4, 0, 0, 0, 0), (86, .iload_n 2, 2, 0, 0, 0, 0, 0), (87, .aaload, 0, 0, 0, 0, 0, 0), (88, .aload_n 0, 0, 0, 0, 0, 0, 0), (89, .getfield 19, 9, 1, 0, 0, 0, 0), (92, .getfield 126, 0, 5, 0, 0, 0, 0), (95, .invokevirtual 201, 66, 2, 6, 6, 1, 0), (98, .aload_n 0, 0, 0, 0, 0, 0, 0), (99, .getfield 39, 9, 4, 0, 0, 0, 0), (102, .iload_n 1, 1, 0, 0, 0, 0, 0), (103, .aaload, 0, 0, 0, 0, 0, 0), (104, .aload_n 0, 0, 0, 0, 0, 0, 0), (105, .getfield 19, 9, 1, 0, 0, 0, 0), (108, .getfield 126, 0, 5, 0, 0, 0, 0), (111, .invokevirtual 201, 66, 2, 6, 6, 1, 0), (114, .isub, 0, 0, 0, 0, 0, 0), (115, .istore 4, 4, 0, 0, 0, 0, 0), (117, .iload 4, 4, 0, 0, 0, 0, 0), (119, .ifCond .ne 5, 124, 0, 0, 0, 0, 0), (122, .iconst (-1), 0, 0, 0, 0, 0, (-1)), (123, .ireturn, 0, 0, 0, 0, 0, 0), (124, .iload 4, 4, 0, 0, 0, 0, 0), (126, .ifCond .le 7, 133, 0, 0, 0, 0, 0), (129, .iload_n 1, 1, 0, 0, 0, 0, 0), (130, .goto 4, 134, 0, 0, 0, 0, 0), (133, .iload_n 2, 2, 0, 0, 0, 0, 0), (134, .ireturn, 0, 0, 0, 0, 0, 0)], [(64, [true, true, true, true, false]), (77, [true, true, true, false, true]), (98, [true, true, true, false, false]), (117, [false, true, true, false, true])])
-- X9_gives
def k132 : pM := ([(0, .iload_n 1, 1, 0, 0, 0, 0, 0), (1, .ifCond .lt 44, 45, 0, 0, 0, 0, 0), (4, .iload_n 1, 1, 0, 0, 0, 0, 0), (5, .iconst 4, 0, 0, 0, 0, 0, 4), (6, .if_icmp .ge 39, 45, 0, 0, 0, 0, 0), (9, .aload_n 0, 0, 0, 0, 0, 0, 0), (10, .getfield 19, 9, 1, 0, 0, 0, 0), (13, .iconst 2, 0, 0, 0, 0, 0, 2), (14, .iload_n 2, 2, 0, 0, 0, 0, 0), (15, .invokevirtual 119, 3, 3, 2, 1, 1, 0), (18, .ifCond .eq 27, 45, 0, 0, 0, 0, 0), (21, .aload_n 0, 0, 0, 0, 0, 0, 0), (22, .getfield 19, 9, 1, 0, 0, 0, 0), (25, .iconst 1, 0, 0, 0, 0, 0, 1), (26, .iload_n 3, 3, 0, 0, 0, 0, 0), (27, .invokevirtual 119, 3, 3, 2, 1, 1, 0), (30, .ifCond .eq 15, 45, 0, 0, 0, 0, 0), (33, .iload 4, 4, 0, 0, 0, 0, 0), (35, .ifCond .lt 10, 45, 0, 0, 0, 0, 0), (38, .iload 4, 4, 0, 0, 0, 0, 0), (40, .bipush 99, 0, 0, 0, 0, 0, 99), (42, .if_icmp .le 6, 48, 0, 0, 0, 0, 0), (45, .bipush (-2), 0, 0, 0, 0, 0, (-2)), (47, .ireturn, 0, 0, 0, 0, 0, 0), (48, .aload_n 0, 0, 0, 0, 0, 0, 0), (49, .getfield 57, 9, 7, 0, 0, 0, 0), (52, .iload_n 1, 1, 0, 0, 0, 0, 0), (53, .iload_n 2, 2, 0, 0, 0, 0, 0), (54, .iload_n 3, 3, 0, 0, 0, 0, 0), (55, .iload 4, 4, 0, 0, 0, 0, 0), (57, .invokevirtual 259, 21, 5, 3, 2, 1, 0), (60, .ireturn, 0, 0, 0, 0, 0, 0)], [])
-- X9_agree
def k133 : pM := ([(0, .aload_n 0, 0, 0, 0, 0, 0, 0), (1, .getfield 19, 9, 1, 0, 0, 0, 0), (4, .iconst 2, 0, 0, 0, 0, 0, 2), (5, .iload_n 1, 1, 0, 0, 0, 0, 0), (6, .invokevirtual 119, 3, 3, 2, 1, 1, 0), (9, .ifCond .eq 23, 32, 0, 0, 0, 0, 0), (12, .aload_n 0, 0, 0, 0, 0, 0, 0), (13, .getfield 57, 9, 7, 0, 0, 0, 0), (16, .iload_n 1, 1, 0, 0, 0, 0, 0), (17, .aload_n 0, 0, 0, 0, 0, 0, 0), (18, .getfield 19, 9, 1, 0, 0, 0, 0), (21, .getfield 109, 0, 0, 0, 0, 0, 0), (24, .iconst 1, 0, 0, 0, 0, 0, 1), (25, .iaload, 0, 0, 0, 0, 0, 0), (26, .invokevirtual 262, 22, 3, 4, 2, 1, 0), (29, .goto 5, 34, 0, 0, 0, 0, 0), (32, .bipush (-2), 0, 0, 0, 0, 0, (-2)), (34, .ireturn, 0, 0, 0, 0, 0, 0)], [])
-- X9_moves
def k134 : pM := ([(0, .aload_n 0, 0, 0, 0, 0, 0, 0), (1, .getfield 19, 9, 1, 0, 0, 0, 0), (4, .iconst 1, 0, 0, 0, 0, 0, 1), (5, .iload_n 1, 1, 0, 0, 0, 0, 0), (6, .invokevirtual 119, 3, 3, 2, 1, 1, 0), (9, .ifCond .eq 30, 39, 0, 0, 0, 0, 0), (12, .iload_n 2, 2, 0, 0, 0, 0, 0), (13, .aload_n 0, 0, 0, 0, 0, 0, 0), (14, .getfield 64, 9, 8, 0, 0, 0, 0), (17, .iload_n 1, 1, 0, 0, 0, 0, 0), (18, .invokevirtual 265, 96, 2, 2, 9, 1, 0), (21, .if_icmp .lt 18, 39, 0, 0, 0, 0, 0), (24, .iload_n 2, 2, 0, 0, 0, 0, 0), (25, .sipush 2000, 0, 0, 0, 0, 0, 2000), (28, .if_icmp .gt 11, 39, 0, 0, 0, 0, 0), (31, .iload_n 3, 3, 0, 0, 0, 0, 0), (32, .ldc_w 268, 0, 0, 0, 0, 0, (-16777216)), (35, .iand, 0, 0, 0, 0, 0, 0), (36, .ifCond .eq 6, 42, 0, 0, 0, 0, 0), (39, .bipush (-2), 0, 0, 0, 0, 0, (-2)), (41, .ireturn, 0, 0, 0, 0, 0, 0), (42, .aload_n 0, 0, 0, 0, 0, 0, 0), (43, .getfield 64, 9, 8, 0, 0, 0, 0), (46, .invokevirtual 269, 95, 1, 2, 9, 1, 0), (49, .ifCond .eq 8, 57, 0, 0, 0, 0, 0), (52, .bipush (-3), 0, 0, 0, 0, 0, (-3)), (54, .goto 13, 67, 0, 0, 0, 0, 0), (57, .aload_n 0, 0, 0, 0, 0, 0, 0), (58, .getfield 64, 9, 8, 0, 0, 0, 0), (61, .iload_n 1, 1, 0, 0, 0, 0, 0), (62, .iload_n 2, 2, 0, 0, 0, 0, 0), (63, .iload_n 3, 3, 0, 0, 0, 0, 0), (64, .invokevirtual 272, 97, 4, 2, 9, 1, 0), (67, .ireturn, 0, 0, 0, 0, 0, 0)], [])
-- X9_lostIn
def k135 : pM := ([(0, .iload_n 1, 1, 0, 0, 0, 0, 0), (1, .invokestatic 275, 138, 1, 2, 0, 1, 0), (4, .ifCond .eq 21, 25, 0, 0, 0, 0, 0), (7, .aload_n 0, 0, 0, 0, 0, 0, 0), (8, .getfield 35, 9, 3, 0, 0, 0, 0), (11, .aload_n 0, 0, 0, 0, 0, 0, 0), (12, .getfield 64, 9, 8, 0, 0, 0, 0), (15, .iload_n 1, 1, 0, 0, 0, 0, 0), (16, .invokevirtual 278, 98, 2, 2, 9, 65, 0), (19, .invokevirtual 201, 66, 2, 6, 6, 1, 0), (22, .goto 5, 27, 0, 0, 0, 0, 0), (25, .bipush (-2), 0, 0, 0, 0, 0, (-2)), (27, .ireturn, 0, 0, 0, 0, 0, 0)], [])
-- X9_turned
def k136 : pM := ([(0, .iload_n 1, 1, 0, 0, 0, 0, 0), (1, .invokestatic 275, 138, 1, 2, 0, 1, 0), (4, .ifCond .ne 6, 10, 0, 0, 0, 0, 0), (7, .bipush (-2), 0, 0, 0, 0, 0, (-2)), (9, .ireturn, 0, 0, 0, 0, 0, 0), (10, .iload_n 1, 1, 0, 0, 0, 0, 0), (11, .ifCond .ne 7, 18, 0, 0, 0, 0, 0), (14, .iconst 0, 0, 0, 0, 0, 0, 0), (15, .goto 15, 30, 0, 0, 0, 0, 0), (18, .aload_n 0, 0, 0, 0, 0, 0, 0), (19, .getfield 64, 9, 8, 0, 0, 0, 0), (22, .aload_n 0, 0, 0, 0, 0, 0, 0), (23, .getfield 35, 9, 3, 0, 0, 0, 0), (26, .iload_n 1, 1, 0, 0, 0, 0, 0), (27, .invokevirtual 282, 99, 3, 6, 9, 1, 0), (30, .ireturn, 0, 0, 0, 0, 0, 0)], [])
-- X9_until
def k137 : pM := ([(0, .iload_n 1, 1, 0, 0, 0, 0, 0), (1, .ifCond .ge 8, 9, 0, 0, 0, 0, 0), (4, .bipush (-2), 0, 0, 0, 0, 0, (-2)), (6, .goto 15, 21, 0, 0, 0, 0, 0), (9, .aload_n 0, 0, 0, 0, 0, 0, 0), (10, .getfield 64, 9, 8, 0, 0, 0, 0), (13, .aload_n 0, 0, 0, 0, 0, 0, 0), (14, .getfield 35, 9, 3, 0, 0, 0, 0), (17, .iload_n 1, 1, 0, 0, 0, 0, 0), (18, .invokevirtual 286, 100, 3, 7, 9, 1, 0), (21, .ireturn, 0, 0, 0, 0, 0, 0)], [])
-- X9_isYear
def k138 : pM := ([(0, .iload_n 0, 0, 0, 0, 0, 0, 0), (1, .ifCond .lt 14, 15, 0, 0, 0, 0, 0), (4, .iload_n 0, 0, 0, 0, 0, 0, 0), (5, .sipush 2000, 0, 0, 0, 0, 0, 2000), (8, .if_icmp .gt 7, 15, 0, 0, 0, 0, 0), (11, .iconst 1, 0, 0, 0, 0, 0, 1), (12, .goto 4, 16, 0, 0, 0, 0, 0), (15, .iconst 0, 0, 0, 0, 0, 0, 0), (16, .ireturn, 1, 0, 0, 0, 0, 0)], [])
-- X9_heard
def k139 : pM := ([(0, .aload_n 0, 0, 0, 0, 0, 0, 0), (1, .getfield 71, 9, 9, 0, 0, 0, 0), (4, .iload_n 1, 1, 0, 0, 0, 0, 0), (5, .iload 4, 4, 0, 0, 0, 0, 0), (7, .invokevirtual 289, 25, 3, 2, 3, 1, 0), (10, .ifCond .eq 27, 37, 0, 0, 0, 0, 0), (13, .aload_n 0, 0, 0, 0, 0, 0, 0), (14, .getfield 19, 9, 1, 0, 0, 0, 0), (17, .iconst 4, 0, 0, 0, 0, 0, 4), (18, .iload_n 2, 2, 0, 0, 0, 0, 0), (19, .invokevirtual 119, 3, 3, 2, 1, 1, 0), (22, .ifCond .eq 15, 37, 0, 0, 0, 0, 0), (25, .aload_n 0, 0, 0, 0, 0, 0, 0), (26, .getfield 19, 9, 1, 0, 0, 0, 0), (29, .iconst 2, 0, 0, 0, 0, 0, 2), (30, .iload_n 3, 3, 0, 0, 0, 0, 0), (31, .invokevirtual 119, 3, 3, 2, 1, 1, 0), (34, .ifCond .ne 6, 40, 0, 0, 0, 0, 0), (37, .bipush (-2), 0, 0, 0, 0, 0, (-2)), (39, .ireturn, 0, 0, 0, 0, 0, 0), (40, .aload_n 0, 0, 0, 0, 0, 0, 0), (41, .getfield 35, 9, 3, 0, 0, 0, 0), (44, .iload_n 3, 3, 0, 0, 0, 0, 0), (45, .invokevirtual 156, 59, 2, 2, 6, 1, 0), (48, .ifCond .ne 6, 54, 0, 0, 0, 0, 0), (51, .bipush (-4), 0, 0, 0, 0, 0, (-4)), (53, .ireturn, 0, 0, 0, 0, 0, 0), (54, .aload_n 0, 0, 0, 0, 0, 0, 0), (55, .getfield 71, 9, 9, 0, 0, 0, 0), (58, .invokevirtual 292, 26, 1, 2, 3, 1, 0), (61, .ifCond .eq 8, 69, 0, 0, 0, 0, 0), (64, .bipush (-3), 0, 0, 0, 0, 0, (-3)), (66, .goto 29, 95, 0, 0, 0, 0, 0), (69, .aload_n 0, 0, 0, 0, 0, 0, 0), (70, .getfield 71, 9, 9, 0, 0, 0, 0), (73, .iload_n 1, 1, 0, 0, 0, 0, 0), (74, .iload_n 2, 2, 0, 0, 0, 0, 0), (75, .aload_n 0, 0, 0, 0, 0, 0, 0), (76, .getfield 35, 9, 3, 0, 0, 0, 0), (79, .iload_n 3, 3, 0, 0, 0, 0, 0), (80, .aload_n 0, 0, 0, 0, 0, 0, 0), (81, .getfield 19, 9, 1, 0, 0, 0, 0), (84, .getfield 126, 0, 5, 0, 0, 0, 0), (87, .invokevirtual 175, 63, 3, 3, 6, 1, 0), (90, .iload 4, 4, 0, 0, 0, 0, 0), (92, .invokevirtual 293, 28, 5, 2, 3, 1, 0), (95, .ireturn, 0, 0, 0, 0, 0, 0)], [])
-- X9_right
def k140 : pM := ([(0, .aload_n 0, 0, 0, 0, 0, 0, 0), (1, .getfield 71, 9, 9, 0, 0, 0, 0), (4, .iload_n 1, 1, 0, 0, 0, 0, 0), (5, .iload_n 3, 3, 0, 0, 0, 0, 0), (6, .invokevirtual 289, 25, 3, 2, 3, 1, 0), (9, .ifCond .eq 18, 27, 0, 0, 0, 0, 0), (12, .iload_n 2, 2, 0, 0, 0, 0, 0), (13, .ifCond .lt 14, 27, 0, 0, 0, 0, 0), (16, .iload_n 2, 2, 0, 0, 0, 0, 0), (17, .aload_n 0, 0, 0, 0, 0, 0, 0), (18, .getfield 71, 9, 9, 0, 0, 0, 0), (21, .getfield 295, 2, 12, 0, 0, 0, 0), (24, .if_icmp .lt 6, 30, 0, 0, 0, 0, 0), (27, .bipush (-2), 0, 0, 0, 0, 0, (-2)), (29, .ireturn, 0, 0, 0, 0, 0, 0), (30, .aload_n 0, 0, 0, 0, 0, 0, 0), (31, .getfield 71, 9, 9, 0, 0, 0, 0), (34, .invokevirtual 298, 27, 1, 2, 3, 1, 0), (37, .ifCond .eq 8, 45, 0, 0, 0, 0, 0), (40, .bipush (-3), 0, 0, 0, 0, 0, (-3)), (42, .goto 13, 55, 0, 0, 0, 0, 0), (45, .aload_n 0, 0, 0, 0, 0, 0, 0), (46, .getfield 71, 9, 9, 0, 0, 0, 0), (49, .iload_n 1, 1, 0, 0, 0, 0, 0), (50, .iload_n 2, 2, 0, 0, 0, 0, 0), (51, .iload_n 3, 3, 0, 0, 0, 0, 0), (52, .invokevirtual 301, 29, 4, 2, 3, 1, 0), (55, .ireturn, 0, 0, 0, 0, 0, 0)], [])
-- X9_fit
def k141 : pM := ([(0, .aload_n 0, 0, 0, 0, 0, 0, 0), (1, .getfield 19, 9, 1, 0, 0, 0, 0), (4, .iconst 4, 0, 0, 0, 0, 0, 4), (5, .iload_n 1, 1, 0, 0, 0, 0, 0), (6, .invokevirtual 119, 3, 3, 2, 1, 1, 0), (9, .ifCond .eq 22, 31, 0, 0, 0, 0, 0), (12, .iload_n 2, 2, 0, 0, 0, 0, 0), (13, .invokestatic 304, 144, 1, 2, 0, 1, 0), (16, .ifCond .eq 15, 31, 0, 0, 0, 0, 0), (19, .aload_n 0, 0, 0, 0, 0, 0, 0), (20, .getfield 71, 9, 9, 0, 0, 0, 0), (23, .iload_n 1, 1, 0, 0, 0, 0, 0), (24, .iload_n 2, 2, 0, 0, 0, 0, 0), (25, .invokevirtual 307, 30, 3, 3, 3, 1, 0), (28, .goto 5, 33, 0, 0, 0, 0, 0), (31, .bipush (-2), 0, 0, 0, 0, 0, (-2)), (33, .ireturn, 0, 0, 0, 0, 0, 0)], [])
-- X9_surely
def k142 : pM := ([(0, .aload_n 0, 0, 0, 0, 0, 0, 0), (1, .getfield 19, 9, 1, 0, 0, 0, 0), (4, .iconst 4, 0, 0, 0, 0, 0, 4), (5, .iload_n 1, 1, 0, 0, 0, 0, 0), (6, .invokevirtual 119, 3, 3, 2, 1, 1, 0), (9, .ifCond .eq 20, 29, 0, 0, 0, 0, 0), (12, .iload_n 2, 2, 0, 0, 0, 0, 0), (13, .ifCond .lt 16, 29, 0, 0, 0, 0, 0), (16, .iload_n 2, 2, 0, 0, 0, 0, 0), (17, .bipush 24, 0, 0, 0, 0, 0, 24), (19, .if_icmp .ge 10, 29, 0, 0, 0, 0, 0), (22, .iload_n 3, 3, 0, 0, 0, 0, 0), (23, .invokestatic 304, 144, 1, 2, 0, 1, 0), (26, .ifCond .ne 6, 32, 0, 0, 0, 0, 0), (29, .bipush (-2), 0, 0, 0, 0, 0, (-2)), (31, .ireturn, 0, 0, 0, 0, 0, 0), (32, .aload_n 0, 0, 0, 0, 0, 0, 0), (33, .getfield 71, 9, 9, 0, 0, 0, 0), (36, .iload_n 1, 1, 0, 0, 0, 0, 0), (37, .iload_n 3, 3, 0, 0, 0, 0, 0), (38, .invokevirtual 307, 30, 3, 3, 3, 1, 0), (41, .istore 4, 4, 0, 0, 0, 0, 0), (43, .iload 4, 4, 0, 0, 0, 0, 0), (45, .ifCond .ne 5, 50, 0, 0, 0, 0, 0), (48, .iconst (-1), 0, 0, 0, 0, 0, (-1)), (49, .ireturn, 0, 0, 0, 0, 0, 0), (50, .aload_n 0, 0, 0, 0, 0, 0, 0), (51, .getfield 71, 9, 9, 0, 0, 0, 0), (54, .iconst 1, 0, 0, 0, 0, 0, 1), (55, .iload_n 2, 2, 0, 0, 0, 0, 0), (56, .ishl, 0, 0, 0, 0, 0, 0), (57, .invokevirtual 310, 32, 2, 2, 3, 1, 0), (60, .istore 5, 5, 0, 0, 0, 0, 0), (62, .iload 5, 5, 0, 0, 0, 0, 0), (64, .iload 4, 4, 0, 0, 0, 0, 0), (66, .if_icmp .ne 5, 71, 0, 0, 0, 0, 0), (69, .iconst 1, 0, 0, 0, 0, 0, 1), (70, .ireturn, 0, 0, 0, 0, 0, 0), (71, .iload 5, 5, 0, 0, 0, 0, 0), (73, .ifCond .ne 7, 80, 0, 0, 0, 0, 0), (76, .iconst 0, 0, 0, 0, 0, 0, 0), (77, .goto 4, 81, 0, 0, 0, 0, 0), (80, .iconst 2, 0, 0, 0, 0, 0, 2), (81, .ireturn, 0, 0, 0, 0, 0, 0)], [])
-- X9_next
def k143 : pM := ([(0, .aload_n 0, 0, 0, 0, 0, 0, 0), (1, .getfield 19, 9, 1, 0, 0, 0, 0), (4, .iconst 4, 0, 0, 0, 0, 0, 4), (5, .iload_n 1, 1, 0, 0, 0, 0, 0), (6, .invokevirtual 119, 3, 3, 2, 1, 1, 0), (9, .ifCond .ne 6, 15, 0, 0, 0, 0, 0), (12, .bipush (-2), 0, 0, 0, 0, 0, (-2)), (14, .ireturn, 0, 0, 0, 0, 0, 0), (15, .aload_n 0, 0, 0, 0, 0, 0, 0), (16, .getfield 71, 9, 9, 0, 0, 0, 0), (19, .iload_n 1, 1, 0, 0, 0, 0, 0), (20, .sipush 999, 0, 0, 0, 0, 0, 999), (23, .invokevirtual 307, 30, 3, 3, 3, 1, 0), (26, .istore_n 2, 2, 0, 0, 0, 0, 0), (27, .iload_n 2, 2, 0, 0, 0, 0, 0), (28, .istore_n 3, 3, 0, 0, 0, 0, 0), (29, .iconst (-1), 0, 0, 0, 0, 0, (-1)), (30, .istore 4, 4, 0, 0, 0, 0, 0), (32, .iconst 0, 0, 0, 0, 0, 0, 0), (33, .istore 5, 5, 0, 0, 0, 0, 0), (35, .iload 5, 5, 0, 0, 0, 0, 0), (37, .aload_n 0, 0, 0, 0, 0, 0, 0), (38, .getfield 19, 9, 1, 0, 0, 0, 0), (41, .getfield 109, 0, 0, 0, 0, 0, 0), (44, .iconst 2, 0, 0, 0, 0, 0, 2), (45, .iaload, 0, 0, 0, 0, 0, 0), (46, .if_icmp .ge 70, 116, 0, 0, 0, 0, 0), (49, .aload_n 0, 0, 0, 0, 0, 0, 0), (50, .getfield 35, 9, 3, 0, 0, 0, 0), (53, .iload 5, 5, 0, 0, 0, 0, 0), (55, .invokevirtual 156, 59, 2, 2, 6, 1, 0), (58, .ifCond .eq 52, 110, 0, 0, 0, 0, 0), (61, .aload_n 0, 0, 0, 0, 0, 0, 0), (62, .getfield 71, 9, 9, 0, 0, 0, 0), (65, .aload_n 0, 0, 0, 0, 0, 0, 0), (66, .getfield 35, 9, 3, 0, 0, 0, 0), (69, .iload 5, 5, 0, 0, 0, 0, 0), (71, .aload_n 0, 0, 0, 0, 0, 0, 0), (72, .getfield 19, 9, 1, 0, 0, 0, 0), (75, .getfield 126, 0, 5, 0, 0, 0, 0), (78, .invokevirtual 175, 63, 3, 3, 6, 1, 0), (81, .invokevirtual 313, 33, 2, 2, 3, 1, 0), (84, .istore 6, 6, 0, 0, 0, 0, 0), (86, .iload 6, 6, 0, 0, 0, 0, 0), (88, .iload_n 2, 2, 0, 0, 0, 0, 0), (89, .iload 6, 6, 0, 0, 0, 0, 0), (91, .isub, 0, 0, 0, 0, 0, 0), (92, .invokestatic 316, 0, 1, 0, 0, 0, 0), (95, .istore 7, 7, 0, 0, 0, 0, 0), (97, .iload 7, 7, 0, 0, 0, 0, 0), (99, .iload_n 3, 3, 0, 0, 0, 0, 0), (100, .if_icmp .ge 10, 110, 0, 0, 0, 0, 0), (103, .iload 7, 7, 0, 0, 0, 0, 0), (105, .istore_n 3, 3, 0, 0, 0, 0, 0), (106, .iload 5, 5, 0, 0, 0, 0, 0), (108, .istore 4, 4, 0, 0, 0, 0, 0), (110, .iinc 5 1, 5, 0, 0, 0, 0, 1), (113, .goto (-78), 35, 0, 0, 0, 0, 0), (116, .iload 4, 4, 0, 0, 0, 0, 0), (118, .ireturn, 0, 0, 0, 0, 0, 0)], [(35, [true, false, true, true, true, true, false, false])])
-- X9_isStep
def k144 : pM := ([(0, .iload_n 0, 0, 0, 0, 0, 0, 0), (1, .ifCond .lt 14, 15, 0, 0, 0, 0, 0), (4, .iload_n 0, 0, 0, 0, 0, 0, 0), (5, .sipush 999, 0, 0, 0, 0, 0, 999), (8, .if_icmp .gt 7, 15, 0, 0, 0, 0, 0), (11, .iconst 1, 0, 0, 0, 0, 0, 1), (12, .goto 4, 16, 0, 0, 0, 0, 0), (15, .iconst 0, 0, 0, 0, 0, 0, 0), (16, .ireturn, 1, 0, 0, 0, 0, 0)], [])
-- X9_count
def k145 : pM := ([(0, .iload_n 1, 1, 0, 0, 0, 0, 0), (1, .tableswitch 87 0 5 #[39, 47, 55, 63, 71, 79], 0, 39, 0, 0, 0, 0), (40, .aload_n 0, 0, 0, 0, 0, 0, 0), (41, .getfield 35, 9, 3, 0, 0, 0, 0), (44, .invokevirtual 319, 61, 1, 3, 6, 1, 0), (47, .ireturn, 0, 0, 0, 0, 0, 0), (48, .aload_n 0, 0, 0, 0, 0, 0, 0), (49, .getfield 35, 9, 3, 0, 0, 0, 0), (52, .invokevirtual 189, 62, 1, 3, 6, 1, 0), (55, .ireturn, 0, 0, 0, 0, 0, 0), (56, .aload_n 0, 0, 0, 0, 0, 0, 0), (57, .getfield 64, 9, 8, 0, 0, 0, 0), (60, .getfield 322, 8, 6, 0, 0, 0, 0), (63, .ireturn, 0, 0, 0, 0, 0, 0), (64, .aload_n 0, 0, 0, 0, 0, 0, 0), (65, .getfield 71, 9, 9, 0, 0, 0, 0), (68, .getfield 295, 2, 12, 0, 0, 0, 0), (71, .ireturn, 0, 0, 0, 0, 0, 0), (72, .aload_n 0, 0, 0, 0, 0, 0, 0), (73, .getfield 71, 9, 9, 0, 0, 0, 0), (76, .getfield 323, 2, 13, 0, 0, 0, 0), (79, .ireturn, 0, 0, 0, 0, 0, 0), (80, .aload_n 0, 0, 0, 0, 0, 0, 0), (81, .getfield 12, 9, 0, 0, 0, 0, 0), (84, .getfield 83, 7, 1, 0, 0, 0, 0), (87, .ireturn, 0, 0, 0, 0, 0, 0), (88, .iconst (-1), 0, 0, 0, 0, 0, (-1)), (89, .ireturn, 0, 0, 0, 0, 0, 0)], [])
-- X10_in
def k146 : pM := ([(0, .iload_n 0, 0, 0, 0, 0, 0, 0), (1, .iload_n 1, 1, 0, 0, 0, 0, 0), (2, .if_icmp .lt 12, 14, 0, 0, 0, 0, 0), (5, .iload_n 0, 0, 0, 0, 0, 0, 0), (6, .iload_n 2, 2, 0, 0, 0, 0, 0), (7, .if_icmp .gt 7, 14, 0, 0, 0, 0, 0), (10, .iconst 1, 0, 0, 0, 0, 0, 1), (11, .goto 4, 15, 0, 0, 0, 0, 0), (14, .iconst 0, 0, 0, 0, 0, 0, 0), (15, .ireturn, 1, 0, 0, 0, 0, 0)], [])
-- X10_feed
def k147 : pM := ([(0, .aload_n 0, 0, 0, 0, 0, 0, 0), (1, .getfield 149, 10, 1, 0, 0, 0, 0), (4, .bipush 20, 0, 0, 0, 0, 0, 20), (6, .iadd, 0, 0, 0, 0, 0, 0), (7, .sipush 1200, 0, 0, 0, 0, 0, 1200), (10, .if_icmp .le 6, 16, 0, 0, 0, 0, 0), (13, .bipush (-3), 0, 0, 0, 0, 0, (-3)), (15, .ireturn, 0, 0, 0, 0, 0, 0), (16, .iconst 0, 0, 0, 0, 0, 0, 0), (17, .istore 6, 6, 0, 0, 0, 0, 0), (19, .iload 6, 6, 0, 0, 0, 0, 0), (21, .iconst 5, 0, 0, 0, 0, 0, 5), (22, .if_icmp .ge 93, 115, 0, 0, 0, 0, 0), (25, .iload 6, 6, 0, 0, 0, 0, 0), (27, .ifCond .ne 7, 34, 0, 0, 0, 0, 0), (30, .iload_n 1, 1, 0, 0, 0, 0, 0), (31, .goto 36, 67, 0, 0, 0, 0, 0), (34, .iload 6, 6, 0, 0, 0, 0, 0), (36, .iconst 1, 0, 0, 0, 0, 0, 1), (37, .if_icmp .ne 7, 44, 0, 0, 0, 0, 0), (40, .iload_n 2, 2, 0, 0, 0, 0, 0), (41, .goto 26, 67, 0, 0, 0, 0, 0), (44, .iload 6, 6, 0, 0, 0, 0, 0), (46, .iconst 2, 0, 0, 0, 0, 0, 2), (47, .if_icmp .ne 7, 54, 0, 0, 0, 0, 0), (50, .iload_n 3, 3, 0, 0, 0, 0, 0), (51, .goto 16, 67, 0, 0, 0, 0, 0), (54, .iload 6, 6, 0, 0, 0, 0, 0), (56, .iconst 3, 0, 0, 0, 0, 0, 3), (57, .if_icmp .ne 8, 65, 0, 0, 0, 0, 0), (60, .iload 4, 4, 0, 0, 0, 0, 0), (62, .goto 5, 67, 0, 0, 0, 0, 0), (65, .iload 5, 5, 0, 0, 0, 0, 0), (67, .istore 7, 7, 0, 0, 0, 0, 0), (69, .bipush 24, 0, 0, 0, 0, 0, 24), (71, .istore 8, 8, 0, 0, 0, 0, 0), (73, .iload 8, 8, 0, 0, 0, 0, 0), (75, .ifCond .lt 34, 109, 0, 0, 0, 0, 0), (78, .aload_n 0, 0, 0, 0, 0, 0, 0), (79, .getfield 7, 10, 0, 0, 0, 0, 0), (82, .aload_n 0, 0, 0, 0, 0, 0, 0), (83, .getfield 149, 10, 1, 0, 0, 0, 0), (86, .iload 7, 7, 0, 0, 0, 0, 0), (88, .iload 8, 8, 0, 0, 0, 0, 0), (90, .ishr, 0, 0, 0, 0, 0, 0), (91, .i2b, 0, 0, 0, 0, 0, 0), (92, .bastore, 0, 0, 0, 0, 0, 0), (93, .aload_n 0, 0, 0, 0, 0, 0, 0), (94, .dup, 0, 0, 0, 0, 0, 0), (95, .getfield 149, 10, 1, 0, 0, 0, 0), (98, .iconst 1, 0, 0, 0, 0, 0, 1), (99, .iadd, 0, 0, 0, 0, 0, 0), (100, .putfield 149, 10, 1, 0, 0, 0, 0), (103, .iinc 8 (-8), 8, 0, 0, 0, 0, (-8)), (106, .goto (-33), 73, 0, 0, 0, 0, 0), (109, .iinc 6 1, 6, 0, 0, 0, 0, 1), (112, .goto (-93), 19, 0, 0, 0, 0, 0), (115, .aload_n 0, 0, 0, 0, 0, 0, 0), (116, .getfield 149, 10, 1, 0, 0, 0, 0), (119, .ireturn, 0, 0, 0, 0, 0, 0)], [(19, [true, true, true, true, true, true, true, false, false]), (73, [true, true, true, true, true, true, true, true, true])])
-- X10_end
def k148 : pM := ([(0, .iload_n 1, 1, 0, 0, 0, 0, 0), (1, .ifCond .lt 11, 12, 0, 0, 0, 0, 0), (4, .iload_n 1, 1, 0, 0, 0, 0, 0), (5, .aload_n 0, 0, 0, 0, 0, 0, 0), (6, .getfield 149, 10, 1, 0, 0, 0, 0), (9, .if_icmp .le 5, 14, 0, 0, 0, 0, 0), (12, .iconst (-1), 0, 0, 0, 0, 0, (-1)), (13, .ireturn, 0, 0, 0, 0, 0, 0), (14, .aload_n 0, 0, 0, 0, 0, 0, 0), (15, .iload_n 1, 1, 0, 0, 0, 0, 0), (16, .putfield 149, 10, 1, 0, 0, 0, 0), (19, .iload_n 1, 1, 0, 0, 0, 0, 0), (20, .ireturn, 0, 0, 0, 0, 0, 0)], [])
-- X10_see
def k149 : pM := ([(0, .iload_n 1, 1, 0, 0, 0, 0, 0), (1, .aload_n 0, 0, 0, 0, 0, 0, 0), (2, .getfield 152, 10, 2, 0, 0, 0, 0), (5, .if_icmp .ge 16, 21, 0, 0, 0, 0, 0), (8, .aload_n 0, 0, 0, 0, 0, 0, 0), (9, .getfield 7, 10, 0, 0, 0, 0, 0), (12, .iload_n 1, 1, 0, 0, 0, 0, 0), (13, .baload, 0, 0, 0, 0, 0, 0), (14, .sipush 255, 0, 0, 0, 0, 0, 255), (17, .iand, 0, 0, 0, 0, 0, 0), (18, .goto 4, 22, 0, 0, 0, 0, 0), (21, .iconst (-1), 0, 0, 0, 0, 0, (-1)), (22, .ireturn, 0, 0, 0, 0, 0, 0)], [])
-- X10_isSmall
def k150 : pM := ([(0, .iload_n 0, 0, 0, 0, 0, 0, 0), (1, .bipush 97, 0, 0, 0, 0, 0, 97), (3, .if_icmp .lt 13, 16, 0, 0, 0, 0, 0), (6, .iload_n 0, 0, 0, 0, 0, 0, 0), (7, .bipush 122, 0, 0, 0, 0, 0, 122), (9, .if_icmp .gt 7, 16, 0, 0, 0, 0, 0), (12, .iconst 1, 0, 0, 0, 0, 0, 1), (13, .goto 4, 17, 0, 0, 0, 0, 0), (16, .iconst 0, 0, 0, 0, 0, 0, 0), (17, .ireturn, 1, 0, 0, 0, 0, 0)], [])
-- X10_isDigit
def k151 : pM := ([(0, .iload_n 0, 0, 0, 0, 0, 0, 0), (1, .bipush 48, 0, 0, 0, 0, 0, 48), (3, .if_icmp .lt 13, 16, 0, 0, 0, 0, 0), (6, .iload_n 0, 0, 0, 0, 0, 0, 0), (7, .bipush 57, 0, 0, 0, 0, 0, 57), (9, .if_icmp .gt 7, 16, 0, 0, 0, 0, 0), (12, .iconst 1, 0, 0, 0, 0, 0, 1), (13, .goto 4, 17, 0, 0, 0, 0, 0), (16, .iconst 0, 0, 0, 0, 0, 0, 0), (17, .ireturn, 1, 0, 0, 0, 0, 0)], [])
-- X10_keyAt
def k152 : pM := ([(0, .iconst 0, 0, 0, 0, 0, 0, 0), (1, .istore_n 3, 3, 0, 0, 0, 0, 0), (2, .iconst 0, 0, 0, 0, 0, 0, 0), (3, .istore 4, 4, 0, 0, 0, 0, 0), (5, .iconst 0, 0, 0, 0, 0, 0, 0), (6, .istore 5, 5, 0, 0, 0, 0, 0), (8, .iload 5, 5, 0, 0, 0, 0, 0), (10, .ldc 155, 154, 1, 0, 0, 0, 0), (12, .invokevirtual 157, 0, 0, 0, 0, 0, 0), (15, .if_icmp .ge 104, 119, 0, 0, 0, 0, 0), (18, .ldc 155, 154, 1, 0, 0, 0, 0), (20, .iload 5, 5, 0, 0, 0, 0, 0), (22, .invokevirtual 163, 0, 1, 0, 0, 0, 0), (25, .bipush 32, 0, 0, 0, 0, 0, 32), (27, .if_icmp .eq 6, 33, 0, 0, 0, 0, 0), (30, .goto 83, 113, 0, 0, 0, 0, 0), (33, .iload 5, 5, 0, 0, 0, 0, 0), (35, .iload 4, 4, 0, 0, 0, 0, 0), (37, .isub, 0, 0, 0, 0, 0, 0), (38, .iload_n 2, 2, 0, 0, 0, 0, 0), (39, .if_icmp .ne 7, 46, 0, 0, 0, 0, 0), (42, .iconst 1, 0, 0, 0, 0, 0, 1), (43, .goto 4, 47, 0, 0, 0, 0, 0), (46, .iconst 0, 0, 0, 0, 0, 0, 0), (47, .istore 6, 6, 0, 0, 0, 0, 0), (49, .iconst 0, 0, 0, 0, 0, 0, 0), (50, .istore 7, 7, 0, 0, 0, 0, 0), (52, .iload 7, 7, 0, 0, 0, 0, 0), (54, .iload_n 2, 2, 0, 0, 0, 0, 0), (55, .if_icmp .ge 42, 97, 0, 0, 0, 0, 0), (58, .iload 6, 6, 0, 0, 0, 0, 0), (60, .ifCond .eq 37, 97, 0, 0, 0, 0, 0), (63, .ldc 155, 154, 1, 0, 0, 0, 0), (65, .iload 4, 4, 0, 0, 0, 0, 0), (67, .iload 7, 7, 0, 0, 0, 0, 0), (69, .iadd, 0, 0, 0, 0, 0, 0), (70, .invokevirtual 163, 0, 1, 0, 0, 0, 0), (73, .aload_n 0, 0, 0, 0, 0, 0, 0), (74, .iload_n 1, 1, 0, 0, 0, 0, 0), (75, .iload 7, 7, 0, 0, 0, 0, 0), (77, .iadd, 0, 0, 0, 0, 0, 0), (78, .invokevirtual 167, 149, 2, 2, 11, 1, 0), (81, .if_icmp .ne 7, 88, 0, 0, 0, 0, 0), (84, .iconst 1, 0, 0, 0, 0, 0, 1), (85, .goto 4, 89, 0, 0, 0, 0, 0), (88, .iconst 0, 0, 0, 0, 0, 0, 0), (89, .istore 6, 6, 0, 0, 0, 0, 0), (91, .iinc 7 1, 7, 0, 0, 0, 0, 1), (94, .goto (-42), 52, 0, 0, 0, 0, 0), (97, .iload 6, 6, 0, 0, 0, 0, 0), (99, .ifCond .eq 5, 104, 0, 0, 0, 0, 0), (102, .iload_n 3, 3, 0, 0, 0, 0, 0), (103, .ireturn, 0, 0, 0, 0, 0, 0), (104, .iinc 3 1, 3, 0, 0, 0, 0, 1), (107, .iload 5, 5, 0, 0, 0, 0, 0), (109, .iconst 1, 0, 0, 0, 0, 0, 1), (110, .iadd, 0, 0, 0, 0, 0, 0), (111, .istore 4, 4, 0, 0, 0, 0, 0), (113, .iinc 5 1, 5, 0, 0, 0, 0, 1), (116, .goto (-108), 8, 0, 0, 0, 0, 0), (119, .iconst (-1), 0, 0, 0, 0, 0, (-1)), (120, .ireturn, 0, 0, 0, 0, 0, 0)], [(8, [true, true, true, true, true, true, false, false]), (52, [true, true, true, true, true, true, true, true])])
-- X10_scan
def k153 : pM := ([(0, .aload_n 0, 0, 0, 0, 0, 0, 0), (1, .getfield 171, 10, 6, 0, 0, 0, 0), (4, .istore_n 1, 1, 0, 0, 0, 0, 0), (5, .aload_n 0, 0, 0, 0, 0, 0, 0), (6, .iload_n 1, 1, 0, 0, 0, 0, 0), (7, .invokevirtual 167, 149, 2, 2, 11, 1, 0), (10, .bipush 32, 0, 0, 0, 0, 0, 32), (12, .if_icmp .eq 13, 25, 0, 0, 0, 0, 0), (15, .aload_n 0, 0, 0, 0, 0, 0, 0), (16, .iload_n 1, 1, 0, 0, 0, 0, 0), (17, .invokevirtual 167, 149, 2, 2, 11, 1, 0), (20, .bipush 10, 0, 0, 0, 0, 0, 10), (22, .if_icmp .ne 9, 31, 0, 0, 0, 0, 0), (25, .iinc 1 1, 1, 0, 0, 0, 0, 1), (28, .goto (-23), 5, 0, 0, 0, 0, 0), (31, .aload_n 0, 0, 0, 0, 0, 0, 0), (32, .iload_n 1, 1, 0, 0, 0, 0, 0), (33, .putfield 174, 10, 5, 0, 0, 0, 0), (36, .aload_n 0, 0, 0, 0, 0, 0, 0), (37, .iload_n 1, 1, 0, 0, 0, 0, 0), (38, .invokevirtual 167, 149, 2, 2, 11, 1, 0), (41, .istore_n 2, 2, 0, 0, 0, 0, 0), (42, .iload_n 1, 1, 0, 0, 0, 0, 0), (43, .iconst 1, 0, 0, 0, 0, 0, 1), (44, .iadd, 0, 0, 0, 0, 0, 0), (45, .istore_n 3, 3, 0, 0, 0, 0, 0), (46, .aload_n 0, 0, 0, 0, 0, 0, 0), (47, .iconst (-1), 0, 0, 0, 0, 0, (-1)), (48, .putfield 177, 10, 4, 0, 0, 0, 0), (51, .iload_n 2, 2, 0, 0, 0, 0, 0), (52, .iconst (-1), 0, 0, 0, 0, 0, (-1)), (53, .if_icmp .ne 13, 66, 0, 0, 0, 0, 0), (56, .aload_n 0, 0, 0, 0, 0, 0, 0), (57, .iconst 5, 0, 0, 0, 0, 0, 5), (58, .putfield 180, 10, 3, 0, 0, 0, 0), (61, .iload_n 1, 1, 0, 0, 0, 0, 0), (62, .istore_n 3, 3, 0, 0, 0, 0, 0), (63, .goto 258, 321, 0, 0, 0, 0, 0), (66, .iload_n 2, 2, 0, 0, 0, 0, 0), (67, .invokestatic 183, 150, 1, 2, 0, 1, 0), (70, .ifCond .eq 141, 211, 0, 0, 0, 0, 0), (73, .aload_n 0, 0, 0, 0, 0, 0, 0), (74, .lconst 0, 0, 0, 0, 0, 0, 0), (75, .putfield 187, 10, 10, 0, 0, 0, 0), (78, .aload_n 0, 0, 0, 0, 0, 0, 0), (79, .lconst 0, 0, 0, 0, 0, 0, 0), (80, .putfield 191, 10, 11, 0, 0, 0, 0), (83, .iload_n 1, 1, 0, 0, 0, 0, 0), (84, .istore_n 3, 3, 0, 0, 0, 0, 0), (85, .aload_n 0, 0, 0, 0, 0, 0, 0), (86, .iload_n 3, 3, 0, 0, 0, 0, 0), (87, .invokevirtual 167, 149, 2, 2, 11, 1, 0), (90, .invokestatic 183, 150, 1, 2, 0, 1, 0), (93, .ifCond .eq 78, 171, 0, 0, 0, 0, 0), (96, .iload_n 3, 3, 0, 0, 0, 0, 0), (97, .iload_n 1, 1, 0, 0, 0, 0, 0), (98, .isub, 0, 0, 0, 0, 0, 0), (99, .bipush 12, 0, 0, 0, 0, 0, 12), (101, .if_icmp .ge 31, 132, 0, 0, 0, 0, 0), (104, .aload_n 0, 0, 0, 0, 0, 0, 0), (105, .ldc2_w 194, 32, 0, 0, 0, 0, 0), (108, .aload_n 0, 0, 0, 0, 0, 0, 0), (109, .getfield 187, 10, 10, 0, 0, 0, 0), (112, .lmul, 0, 0, 0, 0, 0, 0), (113, .aload_n 0, 0, 0, 0, 0, 0, 0), (114, .iload_n 3, 3, 0, 0, 0, 0, 0), (115, .invokevirtual 167, 149, 2, 2, 11, 1, 0), (118, .i2l, 0, 0, 0, 0, 0, 0), (119, .ladd, 0, 0, 0, 0, 0, 0), (120, .ldc2_w 196, 97, 0, 0, 0, 0, 0), (123, .lsub, 0, 0, 0, 0, 0, 0), (124, .lconst 1, 1, 0, 0, 0, 0, 0), (125, .ladd, 0, 0, 0, 0, 0, 0), (126, .putfield 187, 10, 10, 0, 0, 0, 0), (129, .goto 36, 165, 0, 0, 0, 0, 0), (132, .iload_n 3, 3, 0, 0, 0, 0, 0), (133, .iload_n 1, 1, 0, 0, 0, 0, 0), (134, .isub, 0, 0, 0, 0, 0, 0), (135, .bipush 24, 0, 0, 0, 0, 0, 24), (137, .if_icmp .ge 28, 165, 0, 0, 0, 0, 0), (140, .aload_n 0, 0, 0, 0, 0, 0, 0), (141, .ldc2_w 194, 32, 0, 0, 0, 0, 0), (144, .aload_n 0, 0, 0, 0, 0, 0, 0), (145, .getfield 191, 10, 11, 0, 0, 0, 0), (148, .lmul, 0, 0, 0, 0, 0, 0), (149, .aload_n 0, 0, 0, 0, 0, 0, 0), (150, .iload_n 3, 3, 0, 0, 0, 0, 0), (151, .invokevirtual 167, 149, 2, 2, 11, 1, 0), (154, .i2l, 0, 0, 0, 0, 0, 0), (155, .ladd, 0, 0, 0, 0, 0, 0), (156, .ldc2_w 196, 97, 0, 0, 0, 0, 0), (159, .lsub, 0, 0, 0, 0, 0, 0), (160, .lconst 1, 1, 0, 0, 0, 0, 0), (161, .ladd, 0, 0, 0, 0, 0, 0), (162, .putfield 191, 10, 11, 0, 0, 0, 0), (165, .iinc 3 1, 3, 0, 0, 0, 0, 1), (168, .goto (-83), 85, 0, 0, 0, 0, 0), (171, .aload_n 0, 0, 0, 0, 0, 0, 0), (172, .iload_n 3, 3, 0, 0, 0, 0, 0), (173, .iload_n 1, 1, 0, 0, 0, 0, 0), (174, .isub, 0, 0, 0, 0, 0, 0), (175, .bipush 24, 0, 0, 0, 0, 0, 24), (177, .if_icmp .le 7, 184, 0, 0, 0, 0, 0), (180, .iconst 0, 0, 0, 0, 0, 0, 0), (181, .goto 4, 185, 0, 0, 0, 0, 0), (184, .iconst 1, 0, 0, 0, 0, 0, 1), (185, .putfield 180, 10, 3, 0, 0, 0, 0), (188, .aload_n 0, 0, 0, 0, 0, 0, 0), (189, .getfield 180, 10, 3, 0, 0, 0, 0), (192, .iconst 1, 0, 0, 0, 0, 0, 1), (193, .if_icmp .ne 128, 321, 0, 0, 0, 0, 0), (196, .aload_n 0, 0, 0, 0, 0, 0, 0), (197, .aload_n 0, 0, 0, 0, 0, 0, 0), (198, .iload_n 1, 1, 0, 0, 0, 0, 0), (199, .iload_n 3, 3, 0, 0, 0, 0, 0), (200, .iload_n 1, 1, 0, 0, 0, 0, 0), (201, .isub, 0, 0, 0, 0, 0, 0), (202, .invokevirtual 198, 152, 3, 3, 11, 1, 0), (205, .putfield 177, 10, 4, 0, 0, 0, 0), (208, .goto 113, 321, 0, 0, 0, 0, 0), (211, .iload_n 2, 2, 0, 0, 0, 0, 0), (212, .invokestatic 202, 151, 1, 2, 0, 1, 0), (215, .ifCond .eq 81, 296, 0, 0, 0, 0, 0), (218, .aload_n 0, 0, 0, 0, 0, 0, 0), (219, .iload_n 2, 2, 0, 0, 0, 0, 0), (220, .bipush 48, 0, 0, 0, 0, 0, 48), (222, .isub, 0, 0, 0, 0, 0, 0), (223, .putfield 205, 10, 7, 0, 0, 0, 0), (226, .aload_n 0, 0, 0, 0, 0, 0, 0), (227, .iload_n 3, 3, 0, 0, 0, 0, 0), (228, .invokevirtual 167, 149, 2, 2, 11, 1, 0), (231, .invokestatic 202, 151, 1, 2, 0, 1, 0), (234, .ifCond .eq 43, 277, 0, 0, 0, 0, 0), (237, .aload_n 0, 0, 0, 0, 0, 0, 0), (238, .iload_n 3, 3, 0, 0, 0, 0, 0), (239, .iload_n 1, 1, 0, 0, 0, 0, 0), (240, .isub, 0, 0, 0, 0, 0, 0), (241, .iconst 3, 0, 0, 0, 0, 0, 3), (242, .if_icmp .ge 22, 264, 0, 0, 0, 0, 0), (245, .bipush 10, 0, 0, 0, 0, 0, 10), (247, .aload_n 0, 0, 0, 0, 0, 0, 0), (248, .getfield 205, 10, 7, 0, 0, 0, 0), (251, .imul, 0, 0, 0, 0, 0, 0), (252, .aload_n 0, 0, 0, 0, 0, 0, 0), (253, .iload_n 3, 3, 0, 0, 0, 0, 0), (254, .invokevirtual 167, 149, 2, 2, 11, 1, 0), (257, .iadd, 0, 0, 0, 0, 0, 0), (258, .bipush 48, 0, 0, 0, 0, 0, 48), (260, .isub, 0, 0, 0, 0, 0, 0), (261, .goto 7, 268, 0, 0, 0, 0, 0), (264, .aload_n 0, 0, 0, 0, 0, 0, 0), (265, .getfield 205, 10, 7, 0, 0, 0, 0), (268, .putfield 205, 10, 7, 0, 0, 0, 0), (271, .iinc 3 1, 3, 0, 0, 0, 0, 1), (274, .goto (-48), 226, 0, 0, 0, 0, 0), (277, .aload_n 0, 0, 0, 0, 0, 0, 0), (278, .iload_n 3, 3, 0, 0, 0, 0, 0), (279, .iload_n 1, 1, 0, 0, 0, 0, 0), (280, .isub, 0, 0, 0, 0, 0, 0), (281, .iconst 3, 0, 0, 0, 0, 0, 3), (282, .if_icmp .le 7, 289, 0, 0, 0, 0, 0), (285, .iconst 0, 0, 0, 0, 0, 0, 0), (286, .goto 4, 290, 0, 0, 0, 0, 0), (289, .iconst 2, 0, 0, 0, 0, 0, 2), (290, .putfield 180, 10, 3, 0, 0, 0, 0), (293, .goto 28, 321, 0, 0, 0, 0, 0), (296, .aload_n 0, 0, 0, 0, 0, 0, 0), (297, .iload_n 2, 2, 0, 0, 0, 0, 0), (298, .bipush 59, 0, 0, 0, 0, 0, 59), (300, .if_icmp .ne 7, 307, 0, 0, 0, 0, 0), (303, .iconst 3, 0, 0, 0, 0, 0, 3), (304, .goto 14, 318, 0, 0, 0, 0, 0), (307, .iload_n 2, 2, 0, 0, 0, 0, 0), (308, .bipush 45, 0, 0, 0, 0, 0, 45), (310, .if_icmp .ne 7, 317, 0, 0, 0, 0, 0), (313, .iconst 4, 0, 0, 0, 0, 0, 4), (314, .goto 4, 318, 0, 0, 0, 0, 0), (317, .iconst 0, 0, 0, 0, 0, 0, 0), (318, .putfield 180, 10, 3, 0, 0, 0, 0), (321, .aload_n 0, 0, 0, 0, 0, 0, 0), (322, .iload_n 3, 3, 0, 0, 0, 0, 0), (323, .putfield 171, 10, 6, 0, 0, 0, 0), (326, .return_, 0, 0, 0, 0, 0, 0)], [(5, [true, true, false, false]), (85, [true, true, false, true]), (185, [true, true, false, true]), (226, [true, true, false, true])])
-- X10_fails
def k154 : pM := ([(0, .aload_n 0, 0, 0, 0, 0, 0, 0), (1, .iload_n 1, 1, 0, 0, 0, 0, 0), (2, .putfield 208, 10, 8, 0, 0, 0, 0), (5, .aload_n 0, 0, 0, 0, 0, 0, 0), (6, .aload_n 0, 0, 0, 0, 0, 0, 0), (7, .getfield 174, 10, 5, 0, 0, 0, 0), (10, .putfield 13, 10, 9, 0, 0, 0, 0), (13, .iconst 0, 0, 0, 0, 0, 0, 0), (14, .ireturn, 1, 0, 0, 0, 0, 0)], [])
-- X10_readNumber
def k155 : pM := ([(0, .aload_n 0, 0, 0, 0, 0, 0, 0), (1, .getfield 180, 10, 3, 0, 0, 0, 0), (4, .iconst 2, 0, 0, 0, 0, 0, 2), (5, .if_icmp .eq 9, 14, 0, 0, 0, 0, 0), (8, .aload_n 0, 0, 0, 0, 0, 0, 0), (9, .iconst 1, 0, 0, 0, 0, 0, 1), (10, .invokevirtual 211, 154, 2, 2, 11, 1, 0), (13, .ireturn, 1, 0, 0, 0, 0, 0), (14, .aload_n 0, 0, 0, 0, 0, 0, 0), (15, .getfield 205, 10, 7, 0, 0, 0, 0), (18, .iload_n 1, 1, 0, 0, 0, 0, 0), (19, .iload_n 2, 2, 0, 0, 0, 0, 0), (20, .invokestatic 214, 146, 3, 2, 0, 1, 0), (23, .ifCond .ne 9, 32, 0, 0, 0, 0, 0), (26, .aload_n 0, 0, 0, 0, 0, 0, 0), (27, .iconst 2, 0, 0, 0, 0, 0, 2), (28, .invokevirtual 211, 154, 2, 2, 11, 1, 0), (31, .ireturn, 1, 0, 0, 0, 0, 0), (32, .aload_n 0, 0, 0, 0, 0, 0, 0), (33, .aload_n 0, 0, 0, 0, 0, 0, 0), (34, .getfield 205, 10, 7, 0, 0, 0, 0), (37, .putfield 218, 10, 12, 0, 0, 0, 0), (40, .aload_n 0, 0, 0, 0, 0, 0, 0), (41, .invokevirtual 221, 153, 1, 4, 11, 0, 0), (44, .iconst 1, 0, 0, 0, 0, 0, 1), (45, .ireturn, 1, 0, 0, 0, 0, 0)], [])
-- X10_setHere
def k156 : pM := ([(0, .aload_n 0, 0, 0, 0, 0, 0, 0), (1, .getfield 180, 10, 3, 0, 0, 0, 0), (4, .iconst 4, 0, 0, 0, 0, 0, 4), (5, .if_icmp .ne 5, 10, 0, 0, 0, 0, 0), (8, .iconst 0, 0, 0, 0, 0, 0, 0), (9, .ireturn, 0, 0, 0, 0, 0, 0), (10, .aload_n 0, 0, 0, 0, 0, 0, 0), (11, .getfield 180, 10, 3, 0, 0, 0, 0), (14, .iconst 1, 0, 0, 0, 0, 0, 1), (15, .if_icmp .eq 17, 32, 0, 0, 0, 0, 0), (18, .aload_n 0, 0, 0, 0, 0, 0, 0), (19, .iconst 1, 0, 0, 0, 0, 0, 1), (20, .invokevirtual 211, 154, 2, 2, 11, 1, 0), (23, .ifCond .eq 7, 30, 0, 0, 0, 0, 0), (26, .iconst 0, 0, 0, 0, 0, 0, 0), (27, .goto 4, 31, 0, 0, 0, 0, 0), (30, .iconst (-1), 0, 0, 0, 0, 0, (-1)), (31, .ireturn, 0, 0, 0, 0, 0, 0), (32, .iconst 0, 0, 0, 0, 0, 0, 0), (33, .istore_n 1, 1, 0, 0, 0, 0, 0), (34, .aload_n 0, 0, 0, 0, 0, 0, 0), (35, .getfield 174, 10, 5, 0, 0, 0, 0), (38, .istore_n 2, 2, 0, 0, 0, 0, 0), (39, .iload_n 2, 2, 0, 0, 0, 0, 0), (40, .aload_n 0, 0, 0, 0, 0, 0, 0), (41, .getfield 171, 10, 6, 0, 0, 0, 0), (44, .if_icmp .ge 46, 90, 0, 0, 0, 0, 0), (47, .aload_n 0, 0, 0, 0, 0, 0, 0), (48, .iload_n 2, 2, 0, 0, 0, 0, 0), (49, .invokevirtual 167, 149, 2, 2, 11, 1, 0), (52, .bipush 120, 0, 0, 0, 0, 0, 120), (54, .if_icmp .le 17, 71, 0, 0, 0, 0, 0), (57, .aload_n 0, 0, 0, 0, 0, 0, 0), (58, .iconst 2, 0, 0, 0, 0, 0, 2), (59, .invokevirtual 211, 154, 2, 2, 11, 1, 0), (62, .ifCond .eq 7, 69, 0, 0, 0, 0, 0), (65, .iconst 0, 0, 0, 0, 0, 0, 0), (66, .goto 4, 70, 0, 0, 0, 0, 0), (69, .iconst (-1), 0, 0, 0, 0, 0, (-1)), (70, .ireturn, 0, 0, 0, 0, 0, 0), (71, .iload_n 1, 1, 0, 0, 0, 0, 0), (72, .iconst 1, 0, 0, 0, 0, 0, 1), (73, .aload_n 0, 0, 0, 0, 0, 0, 0), (74, .iload_n 2, 2, 0, 0, 0, 0, 0), (75, .invokevirtual 167, 149, 2, 2, 11, 1, 0), (78, .bipush 97, 0, 0, 0, 0, 0, 97), (80, .isub, 0, 0, 0, 0, 0, 0), (81, .ishl, 0, 0, 0, 0, 0, 0), (82, .ior, 0, 0, 0, 0, 0, 0), (83, .istore_n 1, 1, 0, 0, 0, 0, 0), (84, .iinc 2 1, 2, 0, 0, 0, 0, 1), (87, .goto (-48), 39, 0, 0, 0, 0, 0), (90, .iload_n 1, 1, 0, 0, 0, 0, 0), (91, .ireturn, 0, 0, 0, 0, 0, 0)], [(39, [true, true, true])])
-- X10_readSet
def k157 : pM := ([(0, .aload_n 0, 0, 0, 0, 0, 0, 0), (1, .invokevirtual 224, 156, 1, 3, 11, 1, 0), (4, .istore_n 1, 1, 0, 0, 0, 0, 0), (5, .iload_n 1, 1, 0, 0, 0, 0, 0), (6, .ifCond .ge 5, 11, 0, 0, 0, 0, 0), (9, .iconst 0, 0, 0, 0, 0, 0, 0), (10, .ireturn, 1, 0, 0, 0, 0, 0), (11, .aload_n 0, 0, 0, 0, 0, 0, 0), (12, .iload_n 1, 1, 0, 0, 0, 0, 0), (13, .putfield 218, 10, 12, 0, 0, 0, 0), (16, .aload_n 0, 0, 0, 0, 0, 0, 0), (17, .invokevirtual 221, 153, 1, 4, 11, 0, 0), (20, .iconst 1, 0, 0, 0, 0, 0, 1), (21, .ireturn, 1, 0, 0, 0, 0, 0)], [])
-- X10_fault
def k158 : pM := ([(0, .iload_n 1, 1, 0, 0, 0, 0, 0), (1, .ifCond .ne 10, 11, 0, 0, 0, 0, 0), (4, .aload_n 0, 0, 0, 0, 0, 0, 0), (5, .getfield 208, 10, 8, 0, 0, 0, 0), (8, .goto 16, 24, 0, 0, 0, 0, 0), (11, .iload_n 1, 1, 0, 0, 0, 0, 0), (12, .iconst 1, 0, 0, 0, 0, 0, 1), (13, .if_icmp .ne 10, 23, 0, 0, 0, 0, 0), (16, .aload_n 0, 0, 0, 0, 0, 0, 0), (17, .getfield 13, 10, 9, 0, 0, 0, 0), (20, .goto 4, 24, 0, 0, 0, 0, 0), (23, .iconst (-1), 0, 0, 0, 0, 0, (-1)), (24, .ireturn, 0, 0, 0, 0, 0, 0)], [])
-- X10_begin
def k159 : pM := ([(0, .iconst 0, 0, 0, 0, 0, 0, 0), (1, .istore_n 1, 1, 0, 0, 0, 0, 0), (2, .iload_n 1, 1, 0, 0, 0, 0, 0), (3, .iconst 5, 0, 0, 0, 0, 0, 5), (4, .if_icmp .ge 19, 23, 0, 0, 0, 0, 0), (7, .aload_n 0, 0, 0, 0, 0, 0, 0), (8, .getfield 17, 10, 13, 0, 0, 0, 0), (11, .bipush 10, 0, 0, 0, 0, 0, 10), (13, .iload_n 1, 1, 0, 0, 0, 0, 0), (14, .iadd, 0, 0, 0, 0, 0, 0), (15, .iconst 0, 0, 0, 0, 0, 0, 0), (16, .iastore, 0, 0, 0, 0, 0, 0), (17, .iinc 1 1, 1, 0, 0, 0, 0, 1), (20, .goto (-18), 2, 0, 0, 0, 0, 0), (23, .aload_n 0, 0, 0, 0, 0, 0, 0), (24, .getfield 17, 10, 13, 0, 0, 0, 0), (27, .bipush 15, 0, 0, 0, 0, 0, 15), (29, .iconst 2, 0, 0, 0, 0, 0, 2), (30, .iastore, 0, 0, 0, 0, 0, 0), (31, .aload_n 0, 0, 0, 0, 0, 0, 0), (32, .getfield 17, 10, 13, 0, 0, 0, 0), (35, .bipush 16, 0, 0, 0, 0, 0, 16), (37, .iconst 1, 0, 0, 0, 0, 0, 1), (38, .iastore, 0, 0, 0, 0, 0, 0), (39, .aload_n 0, 0, 0, 0, 0, 0, 0), (40, .getfield 17, 10, 13, 0, 0, 0, 0), (43, .bipush 17, 0, 0, 0, 0, 0, 17), (45, .iconst 5, 0, 0, 0, 0, 0, 5), (46, .iastore, 0, 0, 0, 0, 0, 0), (47, .aload_n 0, 0, 0, 0, 0, 0, 0), (48, .getfield 17, 10, 13, 0, 0, 0, 0), (51, .bipush 18, 0, 0, 0, 0, 0, 18), (53, .iconst 1, 0, 0, 0, 0, 0, 1), (54, .iastore, 0, 0, 0, 0, 0, 0), (55, .aload_n 0, 0, 0, 0, 0, 0, 0), (56, .getfield 17, 10, 13, 0, 0, 0, 0), (59, .bipush 19, 0, 0, 0, 0, 0, 19), (61, .bipush 6, 0, 0, 0, 0, 0, 6), (63, .iastore, 0, 0, 0, 0, 0, 0), (64, .iconst 0, 0, 0, 0, 0, 0, 0), (65, .istore_n 1, 1, 0, 0, 0, 0, 0), (66, .iload_n 1, 1, 0, 0, 0, 0, 0), (67, .bipush 24, 0, 0, 0, 0, 0, 24), (69, .if_icmp .ge 19, 88, 0, 0, 0, 0, 0), (72, .aload_n 0, 0, 0, 0, 0, 0, 0), (73, .getfield 55, 10, 25, 0, 0, 0, 0), (76, .bipush 24, 0, 0, 0, 0, 0, 24), (78, .iload_n 1, 1, 0, 0, 0, 0, 0), (79, .iadd, 0, 0, 0, 0, 0, 0), (80, .iconst 1, 0, 0, 0, 0, 0, 1), (81, .iastore, 0, 0, 0, 0, 0, 0), (82, .iinc 1 1, 1, 0, 0, 0, 0, 1), (85, .goto (-19), 66, 0, 0, 0, 0, 0), (88, .aload_n 0, 0, 0, 0, 0, 0, 0), (89, .iconst 0, 0, 0, 0, 0, 0, 0), (90, .putfield 227, 10, 26, 0, 0, 0, 0), (93, .return_, 0, 0, 0, 0, 0, 0)], [(2, [true, true]), (66, [true, true])])
-- X10_comes
def k160 : pM := ([(0, .iconst 0, 0, 0, 0, 0, 0, 0), (1, .istore_n 2, 2, 0, 0, 0, 0, 0), (2, .iload_n 2, 2, 0, 0, 0, 0, 0), (3, .iload_n 1, 1, 0, 0, 0, 0, 0), (4, .if_icmp .ge 17, 21, 0, 0, 0, 0, 0), (7, .aload_n 0, 0, 0, 0, 0, 0, 0), (8, .iload_n 2, 2, 0, 0, 0, 0, 0), (9, .aload_n 0, 0, 0, 0, 0, 0, 0), (10, .iload_n 1, 1, 0, 0, 0, 0, 0), (11, .iload_n 2, 2, 0, 0, 0, 0, 0), (12, .iadd, 0, 0, 0, 0, 0, 0), (13, .iaload, 0, 0, 0, 0, 0, 0), (14, .iastore, 0, 0, 0, 0, 0, 0), (15, .iinc 2 1, 2, 0, 0, 0, 0, 1), (18, .goto (-16), 2, 0, 0, 0, 0, 0), (21, .return_, 0, 0, 0, 0, 0, 0)], [(2, [true, true, true])])
-- X10_settle
def k161 : pM := ([(0, .aload_n 0, 0, 0, 0, 0, 0, 0), (1, .getfield 17, 10, 13, 0, 0, 0, 0), (4, .bipush 10, 0, 0, 0, 0, 0, 10), (6, .invokestatic 230, 160, 2, 2, 0, 0, 0), (9, .aload_n 0, 0, 0, 0, 0, 0, 0), (10, .getfield 28, 10, 16, 0, 0, 0, 0), (13, .bipush 12, 0, 0, 0, 0, 0, 12), (15, .invokestatic 230, 160, 2, 2, 0, 0, 0), (18, .aload_n 0, 0, 0, 0, 0, 0, 0), (19, .getfield 31, 10, 17, 0, 0, 0, 0), (22, .bipush 20, 0, 0, 0, 0, 0, 20), (24, .invokestatic 230, 160, 2, 2, 0, 0, 0), (27, .aload_n 0, 0, 0, 0, 0, 0, 0), (28, .getfield 34, 10, 18, 0, 0, 0, 0), (31, .bipush 24, 0, 0, 0, 0, 0, 24), (33, .invokestatic 230, 160, 2, 2, 0, 0, 0), (36, .aload_n 0, 0, 0, 0, 0, 0, 0), (37, .getfield 37, 10, 19, 0, 0, 0, 0), (40, .bipush 24, 0, 0, 0, 0, 0, 24), (42, .invokestatic 230, 160, 2, 2, 0, 0, 0), (45, .aload_n 0, 0, 0, 0, 0, 0, 0), (46, .getfield 40, 10, 20, 0, 0, 0, 0), (49, .bipush 20, 0, 0, 0, 0, 0, 20), (51, .invokestatic 230, 160, 2, 2, 0, 0, 0), (54, .aload_n 0, 0, 0, 0, 0, 0, 0), (55, .getfield 43, 10, 21, 0, 0, 0, 0), (58, .bipush 20, 0, 0, 0, 0, 0, 20), (60, .invokestatic 230, 160, 2, 2, 0, 0, 0), (63, .aload_n 0, 0, 0, 0, 0, 0, 0), (64, .getfield 46, 10, 22, 0, 0, 0, 0), (67, .bipush 20, 0, 0, 0, 0, 0, 20), (69, .invokestatic 230, 160, 2, 2, 0, 0, 0), (72, .aload_n 0, 0, 0, 0, 0, 0, 0), (73, .getfield 49, 10, 23, 0, 0, 0, 0), (76, .bipush 6, 0, 0, 0, 0, 0, 6), (78, .invokestatic 230, 160, 2, 2, 0, 0, 0), (81, .aload_n 0, 0, 0, 0, 0, 0, 0), (82, .getfield 52, 10, 24, 0, 0, 0, 0), (85, .bipush 6, 0, 0, 0, 0, 0, 6), (87, .invokestatic 230, 160, 2, 2, 0, 0, 0), (90, .aload_n 0, 0, 0, 0, 0, 0, 0), (91, .getfield 55, 10, 25, 0, 0, 0, 0), (94, .bipush 24, 0, 0, 0, 0, 0, 24), (96, .invokestatic 230, 160, 2, 2, 0, 0, 0), (99, .iconst 0, 0, 0, 0, 0, 0, 0), (100, .istore_n 1, 1, 0, 0, 0, 0, 0), (101, .iload_n 1, 1, 0, 0, 0, 0, 0), (102, .bipush 24, 0, 0, 0, 0, 0, 24), (104, .if_icmp .ge 23, 127, 0, 0, 0, 0, 0), (107, .aload_n 0, 0, 0, 0, 0, 0, 0), (108, .getfield 58, 10, 27, 0, 0, 0, 0), (111, .iload_n 1, 1, 0, 0, 0, 0, 0), (112, .iconst (-1), 0, 0, 0, 0, 0, (-1)), (113, .iastore, 0, 0, 0, 0, 0, 0), (114, .aload_n 0, 0, 0, 0, 0, 0, 0), (115, .getfield 70, 10, 31, 0, 0, 0, 0), (118, .iload_n 1, 1, 0, 0, 0, 0, 0), (119, .iconst 0, 0, 0, 0, 0, 0, 0), (120, .iastore, 0, 0, 0, 0, 0, 0), (121, .iinc 1 1, 1, 0, 0, 0, 0, 1), (124, .goto (-23), 101, 0, 0, 0, 0, 0), (127, .iconst 0, 0, 0, 0, 0, 0, 0), (128, .istore_n 1, 1, 0, 0, 0, 0, 0), (129, .iload_n 1, 1, 0, 0, 0, 0, 0), (130, .iconst 4, 0, 0, 0, 0, 0, 4), (131, .if_icmp .ge 16, 147, 0, 0, 0, 0, 0), (134, .aload_n 0, 0, 0, 0, 0, 0, 0), (135, .getfield 88, 10, 37, 0, 0, 0, 0), (138, .iload_n 1, 1, 0, 0, 0, 0, 0), (139, .iconst 0, 0, 0, 0, 0, 0, 0), (140, .bastore, 0, 0, 0, 0, 0, 0), (141, .iinc 1 1, 1, 0, 0, 0, 0, 1), (144, .goto (-15), 129, 0, 0, 0, 0, 0), (147, .iconst 0, 0, 0, 0, 0, 0, 0), (148, .istore_n 1, 1, 0, 0, 0, 0, 0), (149, .iload_n 1, 1, 0, 0, 0, 0, 0), (150, .sipush 1920, 0, 0, 0, 0, 0, 1920), (153, .if_icmp .ge 16, 169, 0, 0, 0, 0, 0), (156, .aload_n 0, 0, 0, 0, 0, 0, 0), (157, .getfield 107, 10, 43, 0, 0, 0, 0), (160, .iload_n 1, 1, 0, 0, 0, 0, 0), (161, .iconst 0, 0, 0, 0, 0, 0, 0), (162, .iastore, 0, 0, 0, 0, 0, 0), (163, .iinc 1 1, 1, 0, 0, 0, 0, 1), (166, .goto (-17), 149, 0, 0, 0, 0, 0), (169, .aload_n 0, 0, 0, 0, 0, 0, 0), (170, .iconst 0, 0, 0, 0, 0, 0, 0), (171, .putfield 234, 10, 44, 0, 0, 0, 0), (174, .aload_n 0, 0, 0, 0, 0, 0, 0), (175, .iconst 0, 0, 0, 0, 0, 0, 0), (176, .putfield 237, 10, 48, 0, 0, 0, 0), (179, .aload_n 0, 0, 0, 0, 0, 0, 0), (180, .iconst 0, 0, 0, 0, 0, 0, 0), (181, .putfield 240, 10, 49, 0, 0, 0, 0), (184, .aload_n 0, 0, 0, 0, 0, 0, 0), (185, .iconst 0, 0, 0, 0, 0, 0, 0), (186, .putfield 243, 10, 50, 0, 0, 0, 0), (189, .return_, 0, 0, 0, 0, 0, 0)], [(101, [true, true]), (129, [true, true]), (149, [true, true])])
-- X10_named
def k162 : pM := ([(0, .iconst 0, 0, 0, 0, 0, 0, 0), (1, .istore_n 3, 3, 0, 0, 0, 0, 0), (2, .iload_n 3, 3, 0, 0, 0, 0, 0), (3, .iload_n 2, 2, 0, 0, 0, 0, 0), (4, .if_icmp .ge 43, 47, 0, 0, 0, 0, 0), (7, .aload_n 0, 0, 0, 0, 0, 0, 0), (8, .getfield 21, 10, 14, 0, 0, 0, 0), (11, .iload_n 1, 1, 0, 0, 0, 0, 0), (12, .iload_n 3, 3, 0, 0, 0, 0, 0), (13, .iadd, 0, 0, 0, 0, 0, 0), (14, .laload, 0, 0, 0, 0, 0, 0), (15, .aload_n 0, 0, 0, 0, 0, 0, 0), (16, .getfield 187, 10, 10, 0, 0, 0, 0), (19, .lcmp, 0, 0, 0, 0, 0, 0), (20, .ifCond .ne 21, 41, 0, 0, 0, 0, 0), (23, .aload_n 0, 0, 0, 0, 0, 0, 0), (24, .getfield 25, 10, 15, 0, 0, 0, 0), (27, .iload_n 1, 1, 0, 0, 0, 0, 0), (28, .iload_n 3, 3, 0, 0, 0, 0, 0), (29, .iadd, 0, 0, 0, 0, 0, 0), (30, .laload, 0, 0, 0, 0, 0, 0), (31, .aload_n 0, 0, 0, 0, 0, 0, 0), (32, .getfield 191, 10, 11, 0, 0, 0, 0), (35, .lcmp, 0, 0, 0, 0, 0, 0), (36, .ifCond .ne 5, 41, 0, 0, 0, 0, 0), (39, .iload_n 3, 3, 0, 0, 0, 0, 0), (40, .ireturn, 0, 0, 0, 0, 0, 0), (41, .iinc 3 1, 3, 0, 0, 0, 0, 1), (44, .goto (-42), 2, 0, 0, 0, 0, 0), (47, .iconst (-1), 0, 0, 0, 0, 0, (-1)), (48, .ireturn, 0, 0, 0, 0, 0, 0)], [(2, [true, true, true, true])])
-- X10_readName
def k163 : pM := ([(0, .aload_n 0, 0, 0, 0, 0, 0, 0), (1, .getfield 17, 10, 13, 0, 0, 0, 0), (4, .bipush 10, 0, 0, 0, 0, 0, 10), (6, .iload_n 1, 1, 0, 0, 0, 0, 0), (7, .iadd, 0, 0, 0, 0, 0, 0), (8, .iaload, 0, 0, 0, 0, 0, 0), (9, .istore 4, 4, 0, 0, 0, 0, 0), (11, .iload 4, 4, 0, 0, 0, 0, 0), (13, .iload_n 3, 3, 0, 0, 0, 0, 0), (14, .if_icmp .ne 9, 23, 0, 0, 0, 0, 0), (17, .aload_n 0, 0, 0, 0, 0, 0, 0), (18, .iconst 4, 0, 0, 0, 0, 0, 4), (19, .invokevirtual 211, 154, 2, 2, 11, 1, 0), (22, .ireturn, 1, 0, 0, 0, 0, 0), (23, .aload_n 0, 0, 0, 0, 0, 0, 0), (24, .invokevirtual 221, 153, 1, 4, 11, 0, 0), (27, .aload_n 0, 0, 0, 0, 0, 0, 0), (28, .getfield 180, 10, 3, 0, 0, 0, 0), (31, .iconst 1, 0, 0, 0, 0, 0, 1), (32, .if_icmp .eq 9, 41, 0, 0, 0, 0, 0), (35, .aload_n 0, 0, 0, 0, 0, 0, 0), (36, .iconst 1, 0, 0, 0, 0, 0, 1), (37, .invokevirtual 211, 154, 2, 2, 11, 1, 0), (40, .ireturn, 1, 0, 0, 0, 0, 0), (41, .aload_n 0, 0, 0, 0, 0, 0, 0), (42, .iload_n 2, 2, 0, 0, 0, 0, 0), (43, .iload 4, 4, 0, 0, 0, 0, 0), (45, .invokevirtual 246, 162, 3, 2, 11, 1, 0), (48, .iconst (-1), 0, 0, 0, 0, 0, (-1)), (49, .if_icmp .eq 9, 58, 0, 0, 0, 0, 0), (52, .aload_n 0, 0, 0, 0, 0, 0, 0), (53, .iconst 3, 0, 0, 0, 0, 0, 3), (54, .invokevirtual 211, 154, 2, 2, 11, 1, 0), (57, .ireturn, 1, 0, 0, 0, 0, 0), (58, .aload_n 0, 0, 0, 0, 0, 0, 0), (59, .getfield 21, 10, 14, 0, 0, 0, 0), (62, .iload_n 2, 2, 0, 0, 0, 0, 0), (63, .iload 4, 4, 0, 0, 0, 0, 0), (65, .iadd, 0, 0, 0, 0, 0, 0), (66, .aload_n 0, 0, 0, 0, 0, 0, 0), (67, .getfield 187, 10, 10, 0, 0, 0, 0), (70, .lastore, 0, 0, 0, 0, 0, 0), (71, .aload_n 0, 0, 0, 0, 0, 0, 0), (72, .getfield 25, 10, 15, 0, 0, 0, 0), (75, .iload_n 2, 2, 0, 0, 0, 0, 0), (76, .iload 4, 4, 0, 0, 0, 0, 0), (78, .iadd, 0, 0, 0, 0, 0, 0), (79, .aload_n 0, 0, 0, 0, 0, 0, 0), (80, .getfield 191, 10, 11, 0, 0, 0, 0), (83, .lastore, 0, 0, 0, 0, 0, 0), (84, .aload_n 0, 0, 0, 0, 0, 0, 0), (85, .invokevirtual 221, 153, 1, 4, 11, 0, 0), (88, .iconst 1, 0, 0, 0, 0, 0, 1), (89, .ireturn, 1, 0, 0, 0, 0, 0)], [])
-- X10_readPlace
def k164 : pM := ([(0, .aload_n 0, 0, 0, 0, 0, 0, 0), (1, .getfield 17, 10, 13, 0, 0, 0, 0), (4, .bipush 12, 0, 0, 0, 0, 0, 12), (6, .iaload, 0, 0, 0, 0, 0, 0), (7, .istore_n 1, 1, 0, 0, 0, 0, 0), (8, .iload_n 1, 1, 0, 0, 0, 0, 0), (9, .bipush 24, 0, 0, 0, 0, 0, 24), (11, .if_icmp .ne 9, 20, 0, 0, 0, 0, 0), (14, .aload_n 0, 0, 0, 0, 0, 0, 0), (15, .iconst 4, 0, 0, 0, 0, 0, 4), (16, .invokevirtual 211, 154, 2, 2, 11, 1, 0), (19, .ireturn, 1, 0, 0, 0, 0, 0), (20, .aload_n 0, 0, 0, 0, 0, 0, 0), (21, .invokevirtual 221, 153, 1, 4, 11, 0, 0), (24, .aload_n 0, 0, 0, 0, 0, 0, 0), (25, .getfield 180, 10, 3, 0, 0, 0, 0), (28, .iconst 1, 0, 0, 0, 0, 0, 1), (29, .if_icmp .eq 9, 38, 0, 0, 0, 0, 0), (32, .aload_n 0, 0, 0, 0, 0, 0, 0), (33, .iconst 1, 0, 0, 0, 0, 0, 1), (34, .invokevirtual 211, 154, 2, 2, 11, 1, 0), (37, .ireturn, 1, 0, 0, 0, 0, 0), (38, .aload_n 0, 0, 0, 0, 0, 0, 0), (39, .iconst 0, 0, 0, 0, 0, 0, 0), (40, .aload_n 0, 0, 0, 0, 0, 0, 0), (41, .getfield 17, 10, 13, 0, 0, 0, 0), (44, .bipush 10, 0, 0, 0, 0, 0, 10), (46, .iaload, 0, 0, 0, 0, 0, 0), (47, .invokevirtual 246, 162, 3, 2, 11, 1, 0), (50, .istore_n 2, 2, 0, 0, 0, 0, 0), (51, .iload_n 2, 2, 0, 0, 0, 0, 0), (52, .iconst (-1), 0, 0, 0, 0, 0, (-1)), (53, .if_icmp .ne 9, 62, 0, 0, 0, 0, 0), (56, .aload_n 0, 0, 0, 0, 0, 0, 0), (57, .iconst 5, 0, 0, 0, 0, 0, 5), (58, .invokevirtual 211, 154, 2, 2, 11, 1, 0), (61, .ireturn, 1, 0, 0, 0, 0, 0), (62, .aload_n 0, 0, 0, 0, 0, 0, 0), (63, .invokevirtual 221, 153, 1, 4, 11, 0, 0), (66, .aload_n 0, 0, 0, 0, 0, 0, 0), (67, .invokevirtual 224, 156, 1, 3, 11, 1, 0), (70, .istore_n 3, 3, 0, 0, 0, 0, 0), (71, .iload_n 3, 3, 0, 0, 0, 0, 0), (72, .ifCond .ge 5, 77, 0, 0, 0, 0, 0), (75, .iconst 0, 0, 0, 0, 0, 0, 0), (76, .ireturn, 1, 0, 0, 0, 0, 0), (77, .iload_n 3, 3, 0, 0, 0, 0, 0), (78, .aload_n 0, 0, 0, 0, 0, 0, 0), (79, .getfield 28, 10, 16, 0, 0, 0, 0), (82, .bipush 12, 0, 0, 0, 0, 0, 12), (84, .iload_n 2, 2, 0, 0, 0, 0, 0), (85, .iadd, 0, 0, 0, 0, 0, 0), (86, .iaload, 0, 0, 0, 0, 0, 0), (87, .iconst (-1), 0, 0, 0, 0, 0, (-1)), (88, .ixor, 0, 0, 0, 0, 0, 0), (89, .iand, 0, 0, 0, 0, 0, 0), (90, .ifCond .eq 10, 100, 0, 0, 0, 0, 0), (93, .aload_n 0, 0, 0, 0, 0, 0, 0), (94, .bipush 6, 0, 0, 0, 0, 0, 6), (96, .invokevirtual 211, 154, 2, 2, 11, 1, 0), (99, .ireturn, 1, 0, 0, 0, 0, 0), (100, .aload_n 0, 0, 0, 0, 0, 0, 0), (101, .getfield 34, 10, 18, 0, 0, 0, 0), (104, .bipush 24, 0, 0, 0, 0, 0, 24), (106, .iload_n 1, 1, 0, 0, 0, 0, 0), (107, .iadd, 0, 0, 0, 0, 0, 0), (108, .iload_n 2, 2, 0, 0, 0, 0, 0), (109, .iastore, 0, 0, 0, 0, 0, 0), (110, .aload_n 0, 0, 0, 0, 0, 0, 0), (111, .getfield 37, 10, 19, 0, 0, 0, 0), (114, .bipush 24, 0, 0, 0, 0, 0, 24), (116, .iload_n 1, 1, 0, 0, 0, 0, 0), (117, .iadd, 0, 0, 0, 0, 0, 0), (118, .iload_n 3, 3, 0, 0, 0, 0, 0), (119, .iastore, 0, 0, 0, 0, 0, 0), (120, .aload_n 0, 0, 0, 0, 0, 0, 0), (121, .getfield 17, 10, 13, 0, 0, 0, 0), (124, .bipush 12, 0, 0, 0, 0, 0, 12), (126, .dup2, 0, 0, 0, 0, 0, 0), (127, .iaload, 0, 0, 0, 0, 0, 0), (128, .iconst 1, 0, 0, 0, 0, 0, 1), (129, .iadd, 0, 0, 0, 0, 0, 0), (130, .iastore, 0, 0, 0, 0, 0, 0), (131, .aload_n 0, 0, 0, 0, 0, 0, 0), (132, .invokevirtual 221, 153, 1, 4, 11, 0, 0), (135, .iconst 1, 0, 0, 0, 0, 0, 1), (136, .ireturn, 1, 0, 0, 0, 0, 0)], [])
-- X10_readTie
def k165 : pM := ([(0, .aload_n 0, 0, 0, 0, 0, 0, 0), (1, .getfield 17, 10, 13, 0, 0, 0, 0), (4, .bipush 13, 0, 0, 0, 0, 0, 13), (6, .iaload, 0, 0, 0, 0, 0, 0), (7, .istore_n 1, 1, 0, 0, 0, 0, 0), (8, .iload_n 1, 1, 0, 0, 0, 0, 0), (9, .bipush 20, 0, 0, 0, 0, 0, 20), (11, .if_icmp .ne 9, 20, 0, 0, 0, 0, 0), (14, .aload_n 0, 0, 0, 0, 0, 0, 0), (15, .iconst 4, 0, 0, 0, 0, 0, 4), (16, .invokevirtual 211, 154, 2, 2, 11, 1, 0), (19, .ireturn, 1, 0, 0, 0, 0, 0), (20, .aload_n 0, 0, 0, 0, 0, 0, 0), (21, .invokevirtual 221, 153, 1, 4, 11, 0, 0), (24, .aload_n 0, 0, 0, 0, 0, 0, 0), (25, .getfield 17, 10, 13, 0, 0, 0, 0), (28, .bipush 12, 0, 0, 0, 0, 0, 12), (30, .iaload, 0, 0, 0, 0, 0, 0), (31, .iconst 1, 0, 0, 0, 0, 0, 1), (32, .isub, 0, 0, 0, 0, 0, 0), (33, .istore_n 2, 2, 0, 0, 0, 0, 0), (34, .aload_n 0, 0, 0, 0, 0, 0, 0), (35, .iconst 0, 0, 0, 0, 0, 0, 0), (36, .iload_n 2, 2, 0, 0, 0, 0, 0), (37, .invokevirtual 249, 155, 3, 5, 11, 1, 0), (40, .ifCond .ne 5, 45, 0, 0, 0, 0, 0), (43, .iconst 0, 0, 0, 0, 0, 0, 0), (44, .ireturn, 1, 0, 0, 0, 0, 0), (45, .aload_n 0, 0, 0, 0, 0, 0, 0), (46, .getfield 40, 10, 20, 0, 0, 0, 0), (49, .bipush 20, 0, 0, 0, 0, 0, 20), (51, .iload_n 1, 1, 0, 0, 0, 0, 0), (52, .iadd, 0, 0, 0, 0, 0, 0), (53, .aload_n 0, 0, 0, 0, 0, 0, 0), (54, .getfield 218, 10, 12, 0, 0, 0, 0), (57, .iastore, 0, 0, 0, 0, 0, 0), (58, .aload_n 0, 0, 0, 0, 0, 0, 0), (59, .getfield 180, 10, 3, 0, 0, 0, 0), (62, .iconst 2, 0, 0, 0, 0, 0, 2), (63, .if_icmp .eq 9, 72, 0, 0, 0, 0, 0), (66, .aload_n 0, 0, 0, 0, 0, 0, 0), (67, .iconst 1, 0, 0, 0, 0, 0, 1), (68, .invokevirtual 211, 154, 2, 2, 11, 1, 0), (71, .ireturn, 1, 0, 0, 0, 0, 0), (72, .aload_n 0, 0, 0, 0, 0, 0, 0), (73, .getfield 205, 10, 7, 0, 0, 0, 0), (76, .iconst 0, 0, 0, 0, 0, 0, 0), (77, .iload_n 2, 2, 0, 0, 0, 0, 0), (78, .invokestatic 214, 146, 3, 2, 0, 1, 0), (81, .ifCond .ne 9, 90, 0, 0, 0, 0, 0), (84, .aload_n 0, 0, 0, 0, 0, 0, 0), (85, .iconst 2, 0, 0, 0, 0, 0, 2), (86, .invokevirtual 211, 154, 2, 2, 11, 1, 0), (89, .ireturn, 1, 0, 0, 0, 0, 0), (90, .aload_n 0, 0, 0, 0, 0, 0, 0), (91, .getfield 205, 10, 7, 0, 0, 0, 0), (94, .aload_n 0, 0, 0, 0, 0, 0, 0), (95, .getfield 40, 10, 20, 0, 0, 0, 0), (98, .bipush 20, 0, 0, 0, 0, 0, 20), (100, .iload_n 1, 1, 0, 0, 0, 0, 0), (101, .iadd, 0, 0, 0, 0, 0, 0), (102, .iaload, 0, 0, 0, 0, 0, 0), (103, .if_icmp .ne 9, 112, 0, 0, 0, 0, 0), (106, .aload_n 0, 0, 0, 0, 0, 0, 0), (107, .iconst 3, 0, 0, 0, 0, 0, 3), (108, .invokevirtual 211, 154, 2, 2, 11, 1, 0), (111, .ireturn, 1, 0, 0, 0, 0, 0), (112, .aload_n 0, 0, 0, 0, 0, 0, 0), (113, .getfield 43, 10, 21, 0, 0, 0, 0), (116, .bipush 20, 0, 0, 0, 0, 0, 20), (118, .iload_n 1, 1, 0, 0, 0, 0, 0), (119, .iadd, 0, 0, 0, 0, 0, 0), (120, .aload_n 0, 0, 0, 0, 0, 0, 0), (121, .getfield 205, 10, 7, 0, 0, 0, 0), (124, .iastore, 0, 0, 0, 0, 0, 0), (125, .aload_n 0, 0, 0, 0, 0, 0, 0), (126, .invokevirtual 221, 153, 1, 4, 11, 0, 0), (129, .aload_n 0, 0, 0, 0, 0, 0, 0), (130, .invokevirtual 253, 157, 1, 5, 11, 1, 0), (133, .ifCond .ne 5, 138, 0, 0, 0, 0, 0), (136, .iconst 0, 0, 0, 0, 0, 0, 0), (137, .ireturn, 1, 0, 0, 0, 0, 0), (138, .aload_n 0, 0, 0, 0, 0, 0, 0), (139, .getfield 46, 10, 22, 0, 0, 0, 0), (142, .bipush 20, 0, 0, 0, 0, 0, 20), (144, .iload_n 1, 1, 0, 0, 0, 0, 0), (145, .iadd, 0, 0, 0, 0, 0, 0), (146, .aload_n 0, 0, 0, 0, 0, 0, 0), (147, .getfield 218, 10, 12, 0, 0, 0, 0), (150, .iastore, 0, 0, 0, 0, 0, 0), (151, .aload_n 0, 0, 0, 0, 0, 0, 0), (152, .getfield 17, 10, 13, 0, 0, 0, 0), (155, .bipush 13, 0, 0, 0, 0, 0, 13), (157, .dup2, 0, 0, 0, 0, 0, 0), (158, .iaload, 0, 0, 0, 0, 0, 0), (159, .iconst 1, 0, 0, 0, 0, 0, 1), (160, .iadd, 0, 0, 0, 0, 0, 0), (161, .iastore, 0, 0, 0, 0, 0, 0), (162, .iconst 1, 0, 0, 0, 0, 0, 1), (163, .ireturn, 1, 0, 0, 0, 0, 0)], [])
-- X10_readHearer
def k166 : pM := ([(0, .bipush 6, 0, 0, 0, 0, 0, 6), (2, .aload_n 0, 0, 0, 0, 0, 0, 0), (3, .getfield 17, 10, 13, 0, 0, 0, 0), (6, .bipush 14, 0, 0, 0, 0, 0, 14), (8, .iaload, 0, 0, 0, 0, 0, 0), (9, .iadd, 0, 0, 0, 0, 0, 0), (10, .istore_n 1, 1, 0, 0, 0, 0, 0), (11, .aload_n 0, 0, 0, 0, 0, 0, 0), (12, .iconst 4, 0, 0, 0, 0, 0, 4), (13, .bipush 40, 0, 0, 0, 0, 0, 40), (15, .bipush 6, 0, 0, 0, 0, 0, 6), (17, .invokevirtual 257, 163, 4, 5, 11, 1, 0), (20, .ifCond .eq 10, 30, 0, 0, 0, 0, 0), (23, .aload_n 0, 0, 0, 0, 0, 0, 0), (24, .invokevirtual 253, 157, 1, 5, 11, 1, 0), (27, .ifCond .ne 5, 32, 0, 0, 0, 0, 0), (30, .iconst 0, 0, 0, 0, 0, 0, 0), (31, .ireturn, 1, 0, 0, 0, 0, 0), (32, .aload_n 0, 0, 0, 0, 0, 0, 0), (33, .getfield 49, 10, 23, 0, 0, 0, 0), (36, .iload_n 1, 1, 0, 0, 0, 0, 0), (37, .aload_n 0, 0, 0, 0, 0, 0, 0), (38, .getfield 218, 10, 12, 0, 0, 0, 0), (41, .iastore, 0, 0, 0, 0, 0, 0), (42, .aload_n 0, 0, 0, 0, 0, 0, 0), (43, .invokevirtual 253, 157, 1, 5, 11, 1, 0), (46, .ifCond .ne 5, 51, 0, 0, 0, 0, 0), (49, .iconst 0, 0, 0, 0, 0, 0, 0), (50, .ireturn, 1, 0, 0, 0, 0, 0), (51, .aload_n 0, 0, 0, 0, 0, 0, 0), (52, .getfield 52, 10, 24, 0, 0, 0, 0), (55, .iload_n 1, 1, 0, 0, 0, 0, 0), (56, .aload_n 0, 0, 0, 0, 0, 0, 0), (57, .getfield 218, 10, 12, 0, 0, 0, 0), (60, .iastore, 0, 0, 0, 0, 0, 0), (61, .aload_n 0, 0, 0, 0, 0, 0, 0), (62, .getfield 17, 10, 13, 0, 0, 0, 0), (65, .bipush 14, 0, 0, 0, 0, 0, 14), (67, .dup2, 0, 0, 0, 0, 0, 0), (68, .iaload, 0, 0, 0, 0, 0, 0), (69, .iconst 1, 0, 0, 0, 0, 0, 1), (70, .iadd, 0, 0, 0, 0, 0, 0), (71, .iastore, 0, 0, 0, 0, 0, 0), (72, .iconst 1, 0, 0, 0, 0, 0, 1), (73, .ireturn, 1, 0, 0, 0, 0, 0)], [])
-- X10_readWeight
def k167 : pM := ([(0, .aload_n 0, 0, 0, 0, 0, 0, 0), (1, .invokevirtual 221, 153, 1, 4, 11, 0, 0), (4, .aload_n 0, 0, 0, 0, 0, 0, 0), (5, .invokevirtual 253, 157, 1, 5, 11, 1, 0), (8, .ifCond .ne 5, 13, 0, 0, 0, 0, 0), (11, .iconst 0, 0, 0, 0, 0, 0, 0), (12, .ireturn, 1, 0, 0, 0, 0, 0), (13, .aload_n 0, 0, 0, 0, 0, 0, 0), (14, .getfield 218, 10, 12, 0, 0, 0, 0), (17, .istore_n 1, 1, 0, 0, 0, 0, 0), (18, .aload_n 0, 0, 0, 0, 0, 0, 0), (19, .iconst 0, 0, 0, 0, 0, 0, 0), (20, .bipush 9, 0, 0, 0, 0, 0, 9), (22, .invokevirtual 249, 155, 3, 5, 11, 1, 0), (25, .ifCond .ne 5, 30, 0, 0, 0, 0, 0), (28, .iconst 0, 0, 0, 0, 0, 0, 0), (29, .ireturn, 1, 0, 0, 0, 0, 0), (30, .iconst 0, 0, 0, 0, 0, 0, 0), (31, .istore_n 2, 2, 0, 0, 0, 0, 0), (32, .iload_n 2, 2, 0, 0, 0, 0, 0), (33, .bipush 24, 0, 0, 0, 0, 0, 24), (35, .if_icmp .ge 31, 66, 0, 0, 0, 0, 0), (38, .iload_n 1, 1, 0, 0, 0, 0, 0), (39, .iload_n 2, 2, 0, 0, 0, 0, 0), (40, .ishr, 0, 0, 0, 0, 0, 0), (41, .iconst 1, 0, 0, 0, 0, 0, 1), (42, .iand, 0, 0, 0, 0, 0, 0), (43, .iconst 1, 0, 0, 0, 0, 0, 1), (44, .if_icmp .ne 16, 60, 0, 0, 0, 0, 0), (47, .aload_n 0, 0, 0, 0, 0, 0, 0), (48, .getfield 55, 10, 25, 0, 0, 0, 0), (51, .bipush 24, 0, 0, 0, 0, 0, 24), (53, .iload_n 2, 2, 0, 0, 0, 0, 0), (54, .iadd, 0, 0, 0, 0, 0, 0), (55, .aload_n 0, 0, 0, 0, 0, 0, 0), (56, .getfield 218, 10, 12, 0, 0, 0, 0), (59, .iastore, 0, 0, 0, 0, 0, 0), (60, .iinc 2 1, 2, 0, 0, 0, 0, 1), (63, .goto (-31), 32, 0, 0, 0, 0, 0), (66, .iconst 1, 0, 0, 0, 0, 0, 1), (67, .ireturn, 1, 0, 0, 0, 0, 0)], [(32, [true, true, true])])
-- X10_readTold
def k168 : pM := ([(0, .aload_n 0, 0, 0, 0, 0, 0, 0), (1, .getfield 227, 10, 26, 0, 0, 0, 0), (4, .iload_n 1, 1, 0, 0, 0, 0, 0), (5, .ishr, 0, 0, 0, 0, 0, 0), (6, .iconst 1, 0, 0, 0, 0, 0, 1), (7, .iand, 0, 0, 0, 0, 0, 0), (8, .iconst 1, 0, 0, 0, 0, 0, 1), (9, .if_icmp .ne 9, 18, 0, 0, 0, 0, 0), (12, .aload_n 0, 0, 0, 0, 0, 0, 0), (13, .iconst 3, 0, 0, 0, 0, 0, 3), (14, .invokevirtual 211, 154, 2, 2, 11, 1, 0), (17, .ireturn, 1, 0, 0, 0, 0, 0), (18, .aload_n 0, 0, 0, 0, 0, 0, 0), (19, .dup, 0, 0, 0, 0, 0, 0), (20, .getfield 227, 10, 26, 0, 0, 0, 0), (23, .iconst 1, 0, 0, 0, 0, 0, 1), (24, .iload_n 1, 1, 0, 0, 0, 0, 0), (25, .ishl, 0, 0, 0, 0, 0, 0), (26, .ior, 0, 0, 0, 0, 0, 0), (27, .putfield 227, 10, 26, 0, 0, 0, 0), (30, .aload_n 0, 0, 0, 0, 0, 0, 0), (31, .invokevirtual 221, 153, 1, 4, 11, 0, 0), (34, .iconst 5, 0, 0, 0, 0, 0, 5), (35, .iload_n 1, 1, 0, 0, 0, 0, 0), (36, .iadd, 0, 0, 0, 0, 0, 0), (37, .bipush 6, 0, 0, 0, 0, 0, 6), (39, .isub, 0, 0, 0, 0, 0, 0), (40, .istore_n 2, 2, 0, 0, 0, 0, 0), (41, .aload_n 0, 0, 0, 0, 0, 0, 0), (42, .iload_n 2, 2, 0, 0, 0, 0, 0), (43, .iconst 5, 0, 0, 0, 0, 0, 5), (44, .if_icmp .ne 7, 51, 0, 0, 0, 0, 0), (47, .iconst 1, 0, 0, 0, 0, 0, 1), (48, .goto 4, 52, 0, 0, 0, 0, 0), (51, .iconst 0, 0, 0, 0, 0, 0, 0), (52, .iload_n 2, 2, 0, 0, 0, 0, 0), (53, .bipush 7, 0, 0, 0, 0, 0, 7), (55, .if_icmp .eq 9, 64, 0, 0, 0, 0, 0), (58, .iload_n 2, 2, 0, 0, 0, 0, 0), (59, .bipush 9, 0, 0, 0, 0, 0, 9), (61, .if_icmp .ne 8, 69, 0, 0, 0, 0, 0), (64, .bipush 99, 0, 0, 0, 0, 0, 99), (66, .goto 5, 71, 0, 0, 0, 0, 0), (69, .bipush 9, 0, 0, 0, 0, 0, 9), (71, .invokevirtual 249, 155, 3, 5, 11, 1, 0), (74, .ifCond .ne 5, 79, 0, 0, 0, 0, 0), (77, .iconst 0, 0, 0, 0, 0, 0, 0), (78, .ireturn, 1, 0, 0, 0, 0, 0), (79, .aload_n 0, 0, 0, 0, 0, 0, 0), (80, .getfield 17, 10, 13, 0, 0, 0, 0), (83, .bipush 10, 0, 0, 0, 0, 0, 10), (85, .iload_n 2, 2, 0, 0, 0, 0, 0), (86, .iadd, 0, 0, 0, 0, 0, 0), (87, .aload_n 0, 0, 0, 0, 0, 0, 0), (88, .getfield 218, 10, 12, 0, 0, 0, 0), (91, .iastore, 0, 0, 0, 0, 0, 0), (92, .iconst 1, 0, 0, 0, 0, 0, 1), (93, .ireturn, 1, 0, 0, 0, 0, 0)], [(52, [true, false, true]), (64, [true, false, true])])
-- X10_readClause
def k169 : pM := ([(0, .aload_n 0, 0, 0, 0, 0, 0, 0), (1, .getfield 180, 10, 3, 0, 0, 0, 0), (4, .iconst 1, 0, 0, 0, 0, 0, 1), (5, .if_icmp .ne 10, 15, 0, 0, 0, 0, 0), (8, .aload_n 0, 0, 0, 0, 0, 0, 0), (9, .getfield 177, 10, 4, 0, 0, 0, 0), (12, .goto 4, 16, 0, 0, 0, 0, 0), (15, .iconst (-1), 0, 0, 0, 0, 0, (-1)), (16, .istore_n 1, 1, 0, 0, 0, 0, 0), (17, .iload_n 1, 1, 0, 0, 0, 0, 0), (18, .tableswitch 167 0 5 #[38, 92, 147, 152, 157, 162], 0, 38, 0, 0, 0, 0), (56, .bipush 12, 0, 0, 0, 0, 0, 12), (58, .aload_n 0, 0, 0, 0, 0, 0, 0), (59, .getfield 17, 10, 13, 0, 0, 0, 0), (62, .bipush 10, 0, 0, 0, 0, 0, 10), (64, .iaload, 0, 0, 0, 0, 0, 0), (65, .iadd, 0, 0, 0, 0, 0, 0), (66, .istore_n 2, 2, 0, 0, 0, 0, 0), (67, .aload_n 0, 0, 0, 0, 0, 0, 0), (68, .iconst 0, 0, 0, 0, 0, 0, 0), (69, .iconst 0, 0, 0, 0, 0, 0, 0), (70, .bipush 12, 0, 0, 0, 0, 0, 12), (72, .invokevirtual 257, 163, 4, 5, 11, 1, 0), (75, .ifCond .eq 10, 85, 0, 0, 0, 0, 0), (78, .aload_n 0, 0, 0, 0, 0, 0, 0), (79, .invokevirtual 253, 157, 1, 5, 11, 1, 0), (82, .ifCond .ne 5, 87, 0, 0, 0, 0, 0), (85, .iconst 0, 0, 0, 0, 0, 0, 0), (86, .ireturn, 1, 0, 0, 0, 0, 0), (87, .aload_n 0, 0, 0, 0, 0, 0, 0), (88, .getfield 28, 10, 16, 0, 0, 0, 0), (91, .iload_n 2, 2, 0, 0, 0, 0, 0), (92, .aload_n 0, 0, 0, 0, 0, 0, 0), (93, .getfield 218, 10, 12, 0, 0, 0, 0), (96, .iastore, 0, 0, 0, 0, 0, 0), (97, .aload_n 0, 0, 0, 0, 0, 0, 0), (98, .getfield 17, 10, 13, 0, 0, 0, 0), (101, .bipush 10, 0, 0, 0, 0, 0, 10), (103, .dup2, 0, 0, 0, 0, 0, 0), (104, .iaload, 0, 0, 0, 0, 0, 0), (105, .iconst 1, 0, 0, 0, 0, 0, 1), (106, .iadd, 0, 0, 0, 0, 0, 0), (107, .iastore, 0, 0, 0, 0, 0, 0), (108, .iconst 1, 0, 0, 0, 0, 0, 1), (109, .ireturn, 1, 0, 0, 0, 0, 0), (110, .bipush 20, 0, 0, 0, 0, 0, 20), (112, .aload_n 0, 0, 0, 0, 0, 0, 0), (113, .getfield 17, 10, 13, 0, 0, 0, 0), (116, .bipush 11, 0, 0, 0, 0, 0, 11), (118, .iaload, 0, 0, 0, 0, 0, 0), (119, .iadd, 0, 0, 0, 0, 0, 0), (120, .istore_n 2, 2, 0, 0, 0, 0, 0), (121, .aload_n 0, 0, 0, 0, 0, 0, 0), (122, .iconst 1, 0, 0, 0, 0, 0, 1), (123, .bipush 20, 0, 0, 0, 0, 0, 20), (125, .bipush 20, 0, 0, 0, 0, 0, 20), (127, .invokevirtual 257, 163, 4, 5, 11, 1, 0), (130, .ifCond .eq 10, 140, 0, 0, 0, 0, 0), (133, .aload_n 0, 0, 0, 0, 0, 0, 0), (134, .invokevirtual 253, 157, 1, 5, 11, 1, 0), (137, .ifCond .ne 5, 142, 0, 0, 0, 0, 0), (140, .iconst 0, 0, 0, 0, 0, 0, 0), (141, .ireturn, 1, 0, 0, 0, 0, 0), (142, .aload_n 0, 0, 0, 0, 0, 0, 0), (143, .getfield 31, 10, 17, 0, 0, 0, 0), (146, .iload_n 2, 2, 0, 0, 0, 0, 0), (147, .aload_n 0, 0, 0, 0, 0, 0, 0), (148, .getfield 218, 10, 12, 0, 0, 0, 0), (151, .iastore, 0, 0, 0, 0, 0, 0), (152, .aload_n 0, 0, 0, 0, 0, 0, 0), (153, .getfield 17, 10, 13, 0, 0, 0, 0), (156, .bipush 11, 0, 0, 0, 0, 0, 11), (158, .dup2, 0, 0, 0, 0, 0, 0), (159, .iaload, 0, 0, 0, 0, 0, 0), (160, .iconst 1, 0, 0, 0, 0, 0, 1), (161, .iadd, 0, 0, 0, 0, 0, 0), (162, .iastore, 0, 0, 0, 0, 0, 0), (163, .iconst 1, 0, 0, 0, 0, 0, 1), (164, .ireturn, 1, 0, 0, 0, 0, 0), (165, .aload_n 0, 0, 0, 0, 0, 0, 0), (166, .invokevirtual 260, 164, 1, 5, 11, 1, 0), (169, .ireturn, 1, 0, 0, 0, 0, 0), (170, .aload_n 0, 0, 0, 0, 0, 0, 0), (171, .invokevirtual 263, 165, 1, 6, 11, 1, 0), (174, .ireturn, 1, 0, 0, 0, 0, 0), (175, .aload_n 0, 0, 0, 0, 0, 0, 0), (176, .invokevirtual 266, 166, 1, 6, 11, 1, 0), (179, .ireturn, 1, 0, 0, 0, 0, 0), (180, .aload_n 0, 0, 0, 0, 0, 0, 0), (181, .invokevirtual 269, 167, 1, 6, 11, 1, 0), (184, .ireturn, 1, 0, 0, 0, 0, 0), (185, .iload_n 1, 1, 0, 0, 0, 0, 0), (186, .bipush 6, 0, 0, 0, 0, 0, 6), (188, .bipush 10, 0, 0, 0, 0, 0, 10), (190, .invokestatic 214, 146, 3, 2, 0, 1, 0), (193, .ifCond .eq 11, 204, 0, 0, 0, 0, 0), (196, .aload_n 0, 0, 0, 0, 0, 0, 0), (197, .iload_n 1, 1, 0, 0, 0, 0, 0), (198, .invokevirtual 272, 168, 2, 6, 11, 1, 0), (201, .goto 8, 209, 0, 0, 0, 0, 0), (204, .aload_n 0, 0, 0, 0, 0, 0, 0), (205, .iconst 1, 0, 0, 0, 0, 0, 1), (206, .invokevirtual 211, 154, 2, 2, 11, 1, 0), (209, .ireturn, 1, 0, 0, 0, 0, 0)], [(16, [true, false, false])])
-- X10_book
def k170 : pM := ([(0, .aload_n 0, 0, 0, 0, 0, 0, 0), (1, .aload_n 0, 0, 0, 0, 0, 0, 0), (2, .getfield 149, 10, 1, 0, 0, 0, 0), (5, .putfield 152, 10, 2, 0, 0, 0, 0), (8, .aload_n 0, 0, 0, 0, 0, 0, 0), (9, .iconst 0, 0, 0, 0, 0, 0, 0), (10, .putfield 149, 10, 1, 0, 0, 0, 0), (13, .aload_n 0, 0, 0, 0, 0, 0, 0), (14, .iconst 0, 0, 0, 0, 0, 0, 0), (15, .putfield 171, 10, 6, 0, 0, 0, 0), (18, .aload_n 0, 0, 0, 0, 0, 0, 0), (19, .invokevirtual 221, 153, 1, 4, 11, 0, 0), (22, .aload_n 0, 0, 0, 0, 0, 0, 0), (23, .iconst 0, 0, 0, 0, 0, 0, 0), (24, .putfield 208, 10, 8, 0, 0, 0, 0), (27, .aload_n 0, 0, 0, 0, 0, 0, 0), (28, .iconst (-1), 0, 0, 0, 0, 0, (-1)), (29, .putfield 13, 10, 9, 0, 0, 0, 0), (32, .aload_n 0, 0, 0, 0, 0, 0, 0), (33, .invokevirtual 143, 159, 1, 2, 11, 0, 0), (36, .iconst 0, 0, 0, 0, 0, 0, 0), (37, .istore_n 1, 1, 0, 0, 0, 0, 0), (38, .aload_n 0, 0, 0, 0, 0, 0, 0), (39, .getfield 180, 10, 3, 0, 0, 0, 0), (42, .iconst 5, 0, 0, 0, 0, 0, 5), (43, .if_icmp .eq 38, 81, 0, 0, 0, 0, 0), (46, .aload_n 0, 0, 0, 0, 0, 0, 0), (47, .invokevirtual 275, 169, 1, 7, 11, 1, 0), (50, .ifCond .ne 5, 55, 0, 0, 0, 0, 0), (53, .iconst (-1), 0, 0, 0, 0, 0, (-1)), (54, .ireturn, 0, 0, 0, 0, 0, 0), (55, .aload_n 0, 0, 0, 0, 0, 0, 0), (56, .getfield 180, 10, 3, 0, 0, 0, 0), (59, .iconst 3, 0, 0, 0, 0, 0, 3), (60, .if_icmp .eq 11, 71, 0, 0, 0, 0, 0), (63, .aload_n 0, 0, 0, 0, 0, 0, 0), (64, .iconst 1, 0, 0, 0, 0, 0, 1), (65, .invokevirtual 211, 154, 2, 2, 11, 1, 0), (68, .pop, 0, 0, 0, 0, 0, 0), (69, .iconst (-1), 0, 0, 0, 0, 0, (-1)), (70, .ireturn, 0, 0, 0, 0, 0, 0), (71, .aload_n 0, 0, 0, 0, 0, 0, 0), (72, .invokevirtual 221, 153, 1, 4, 11, 0, 0), (75, .iinc 1 1, 1, 0, 0, 0, 0, 1), (78, .goto (-40), 38, 0, 0, 0, 0, 0), (81, .aload_n 0, 0, 0, 0, 0, 0, 0), (82, .invokevirtual 146, 161, 1, 3, 11, 0, 0), (85, .iload_n 1, 1, 0, 0, 0, 0, 0), (86, .ireturn, 0, 0, 0, 0, 0, 0)], [(38, [true, true])])
-- X10_told
def k171 : pM := ([(0, .iload_n 1, 1, 0, 0, 0, 0, 0), (1, .iconst 0, 0, 0, 0, 0, 0, 0), (2, .bipush 9, 0, 0, 0, 0, 0, 9), (4, .invokestatic 214, 146, 3, 2, 0, 1, 0), (7, .ifCond .eq 12, 19, 0, 0, 0, 0, 0), (10, .aload_n 0, 0, 0, 0, 0, 0, 0), (11, .getfield 17, 10, 13, 0, 0, 0, 0), (14, .iload_n 1, 1, 0, 0, 0, 0, 0), (15, .iaload, 0, 0, 0, 0, 0, 0), (16, .goto 27, 43, 0, 0, 0, 0, 0), (19, .iload_n 1, 1, 0, 0, 0, 0, 0), (20, .bipush 20, 0, 0, 0, 0, 0, 20), (22, .bipush 43, 0, 0, 0, 0, 0, 43), (24, .invokestatic 214, 146, 3, 2, 0, 1, 0), (27, .ifCond .eq 15, 42, 0, 0, 0, 0, 0), (30, .aload_n 0, 0, 0, 0, 0, 0, 0), (31, .getfield 55, 10, 25, 0, 0, 0, 0), (34, .iload_n 1, 1, 0, 0, 0, 0, 0), (35, .bipush 20, 0, 0, 0, 0, 0, 20), (37, .isub, 0, 0, 0, 0, 0, 0), (38, .iaload, 0, 0, 0, 0, 0, 0), (39, .goto 4, 43, 0, 0, 0, 0, 0), (42, .iconst (-1), 0, 0, 0, 0, 0, (-1)), (43, .ireturn, 0, 0, 0, 0, 0, 0)], [])
-- X10_isNotion
def k172 : pM := ([(0, .iload_n 1, 1, 0, 0, 0, 0, 0), (1, .iconst 0, 0, 0, 0, 0, 0, 0), (2, .aload_n 0, 0, 0, 0, 0, 0, 0), (3, .getfield 17, 10, 13, 0, 0, 0, 0), (6, .iconst 0, 0, 0, 0, 0, 0, 0), (7, .iaload, 0, 0, 0, 0, 0, 0), (8, .iconst 1, 0, 0, 0, 0, 0, 1), (9, .isub, 0, 0, 0, 0, 0, 0), (10, .invokestatic 214, 146, 3, 2, 0, 1, 0), (13, .ireturn, 1, 0, 0, 0, 0, 0)], [])
-- X10_isWord
def k173 : pM := ([(0, .iload_n 1, 1, 0, 0, 0, 0, 0), (1, .iconst 0, 0, 0, 0, 0, 0, 0), (2, .aload_n 0, 0, 0, 0, 0, 0, 0), (3, .getfield 17, 10, 13, 0, 0, 0, 0), (6, .iconst 1, 0, 0, 0, 0, 0, 1), (7, .iaload, 0, 0, 0, 0, 0, 0), (8, .iconst 1, 0, 0, 0, 0, 0, 1), (9, .isub, 0, 0, 0, 0, 0, 0), (10, .invokestatic 214, 146, 3, 2, 0, 1, 0), (13, .ireturn, 1, 0, 0, 0, 0, 0)], [])
-- X10_isPlace
def k174 : pM := ([(0, .iload_n 1, 1, 0, 0, 0, 0, 0), (1, .iconst 0, 0, 0, 0, 0, 0, 0), (2, .aload_n 0, 0, 0, 0, 0, 0, 0), (3, .getfield 17, 10, 13, 0, 0, 0, 0), (6, .iconst 2, 0, 0, 0, 0, 0, 2), (7, .iaload, 0, 0, 0, 0, 0, 0), (8, .iconst 1, 0, 0, 0, 0, 0, 1), (9, .isub, 0, 0, 0, 0, 0, 0), (10, .invokestatic 214, 146, 3, 2, 0, 1, 0), (13, .ireturn, 1, 0, 0, 0, 0, 0)], [])
-- X10_isTie
def k175 : pM := ([(0, .iload_n 1, 1, 0, 0, 0, 0, 0), (1, .iconst 0, 0, 0, 0, 0, 0, 0), (2, .aload_n 0, 0, 0, 0, 0, 0, 0), (3, .getfield 17, 10, 13, 0, 0, 0, 0), (6, .iconst 3, 0, 0, 0, 0, 0, 3), (7, .iaload, 0, 0, 0, 0, 0, 0), (8, .iconst 1, 0, 0, 0, 0, 0, 1), (9, .isub, 0, 0, 0, 0, 0, 0), (10, .invokestatic 214, 146, 3, 2, 0, 1, 0), (13, .ireturn, 1, 0, 0, 0, 0, 0)], [])
-- X10_isHearer
def k176 : pM := ([(0, .iload_n 1, 1, 0, 0, 0, 0, 0), (1, .iconst 0, 0, 0, 0, 0, 0, 0), (2, .aload_n 0, 0, 0, 0, 0, 0, 0), (3, .getfield 17, 10, 13, 0, 0, 0, 0), (6, .iconst 4, 0, 0, 0, 0, 0, 4), (7, .iaload, 0, 0, 0, 0, 0, 0), (8, .iconst 1, 0, 0, 0, 0, 0, 1), (9, .isub, 0, 0, 0, 0, 0, 0), (10, .invokestatic 214, 146, 3, 2, 0, 1, 0), (13, .ireturn, 1, 0, 0, 0, 0, 0)], [])
-- X10_traits
def k177 : pM := ([(0, .iload_n 1, 1, 0, 0, 0, 0, 0), (1, .tableswitch 159 0 5 #[39, 59, 79, 99, 119, 139], 0, 39, 0, 0, 0, 0), (40, .aload_n 0, 0, 0, 0, 0, 0, 0), (41, .iload_n 2, 2, 0, 0, 0, 0, 0), (42, .invokevirtual 278, 172, 2, 3, 11, 1, 0), (45, .ifCond .eq 12, 57, 0, 0, 0, 0, 0), (48, .aload_n 0, 0, 0, 0, 0, 0, 0), (49, .getfield 28, 10, 16, 0, 0, 0, 0), (52, .iload_n 2, 2, 0, 0, 0, 0, 0), (53, .iaload, 0, 0, 0, 0, 0, 0), (54, .goto 5, 59, 0, 0, 0, 0, 0), (57, .bipush (-2), 0, 0, 0, 0, 0, (-2)), (59, .ireturn, 0, 0, 0, 0, 0, 0), (60, .aload_n 0, 0, 0, 0, 0, 0, 0), (61, .iload_n 2, 2, 0, 0, 0, 0, 0), (62, .invokevirtual 281, 173, 2, 3, 11, 1, 0), (65, .ifCond .eq 12, 77, 0, 0, 0, 0, 0), (68, .aload_n 0, 0, 0, 0, 0, 0, 0), (69, .getfield 31, 10, 17, 0, 0, 0, 0), (72, .iload_n 2, 2, 0, 0, 0, 0, 0), (73, .iaload, 0, 0, 0, 0, 0, 0), (74, .goto 5, 79, 0, 0, 0, 0, 0), (77, .bipush (-2), 0, 0, 0, 0, 0, (-2)), (79, .ireturn, 0, 0, 0, 0, 0, 0), (80, .aload_n 0, 0, 0, 0, 0, 0, 0), (81, .iload_n 2, 2, 0, 0, 0, 0, 0), (82, .invokevirtual 284, 174, 2, 3, 11, 1, 0), (85, .ifCond .eq 12, 97, 0, 0, 0, 0, 0), (88, .aload_n 0, 0, 0, 0, 0, 0, 0), (89, .getfield 37, 10, 19, 0, 0, 0, 0), (92, .iload_n 2, 2, 0, 0, 0, 0, 0), (93, .iaload, 0, 0, 0, 0, 0, 0), (94, .goto 5, 99, 0, 0, 0, 0, 0), (97, .bipush (-2), 0, 0, 0, 0, 0, (-2)), (99, .ireturn, 0, 0, 0, 0, 0, 0), (100, .aload_n 0, 0, 0, 0, 0, 0, 0), (101, .iload_n 2, 2, 0, 0, 0, 0, 0), (102, .invokevirtual 287, 175, 2, 3, 11, 1, 0), (105, .ifCond .eq 12, 117, 0, 0, 0, 0, 0), (108, .aload_n 0, 0, 0, 0, 0, 0, 0), (109, .getfield 46, 10, 22, 0, 0, 0, 0), (112, .iload_n 2, 2, 0, 0, 0, 0, 0), (113, .iaload, 0, 0, 0, 0, 0, 0), (114, .goto 5, 119, 0, 0, 0, 0, 0), (117, .bipush (-2), 0, 0, 0, 0, 0, (-2)), (119, .ireturn, 0, 0, 0, 0, 0, 0), (120, .aload_n 0, 0, 0, 0, 0, 0, 0), (121, .iload_n 2, 2, 0, 0, 0, 0, 0), (122, .invokevirtual 290, 176, 2, 3, 11, 1, 0), (125, .ifCond .eq 12, 137, 0, 0, 0, 0, 0), (128, .aload_n 0, 0, 0, 0, 0, 0, 0), (129, .getfield 49, 10, 23, 0, 0, 0, 0), (132, .iload_n 2, 2, 0, 0, 0, 0, 0), (133, .iaload, 0, 0, 0, 0, 0, 0), (134, .goto 5, 139, 0, 0, 0, 0, 0), (137, .bipush (-2), 0, 0, 0, 0, 0, (-2)), (139, .ireturn, 0, 0, 0, 0, 0, 0), (140, .aload_n 0, 0, 0, 0, 0, 0, 0), (141, .iload_n 2, 2, 0, 0, 0, 0, 0), (142, .invokevirtual 290, 176, 2, 3, 11, 1, 0), (145, .ifCond .eq 12, 157, 0, 0, 0, 0, 0), (148, .aload_n 0, 0, 0, 0, 0, 0, 0), (149, .getfield 52, 10, 24, 0, 0, 0, 0), (152, .iload_n 2, 2, 0, 0, 0, 0, 0), (153, .iaload, 0, 0, 0, 0, 0, 0), (154, .goto 5, 159, 0, 0, 0, 0, 0), (157, .bipush (-2), 0, 0, 0, 0, 0, (-2)), (159, .ireturn, 0, 0, 0, 0, 0, 0), (160, .bipush (-2), 0, 0, 0, 0, 0, (-2)), (162, .ireturn, 0, 0, 0, 0, 0, 0)], [])
-- X10_notion
def k178 : pM := ([(0, .aload_n 0, 0, 0, 0, 0, 0, 0), (1, .iload_n 1, 1, 0, 0, 0, 0, 0), (2, .invokevirtual 284, 174, 2, 3, 11, 1, 0), (5, .ifCond .eq 12, 17, 0, 0, 0, 0, 0), (8, .aload_n 0, 0, 0, 0, 0, 0, 0), (9, .getfield 34, 10, 18, 0, 0, 0, 0), (12, .iload_n 1, 1, 0, 0, 0, 0, 0), (13, .iaload, 0, 0, 0, 0, 0, 0), (14, .goto 5, 19, 0, 0, 0, 0, 0), (17, .bipush (-2), 0, 0, 0, 0, 0, (-2)), (19, .ireturn, 0, 0, 0, 0, 0, 0)], [])
-- X10_weigh
def k179 : pM := ([(0, .iconst 0, 0, 0, 0, 0, 0, 0), (1, .istore_n 2, 2, 0, 0, 0, 0, 0), (2, .iconst 0, 0, 0, 0, 0, 0, 0), (3, .istore_n 3, 3, 0, 0, 0, 0, 0), (4, .iload_n 3, 3, 0, 0, 0, 0, 0), (5, .bipush 24, 0, 0, 0, 0, 0, 24), (7, .if_icmp .ge 31, 38, 0, 0, 0, 0, 0), (10, .iload_n 2, 2, 0, 0, 0, 0, 0), (11, .iload_n 1, 1, 0, 0, 0, 0, 0), (12, .iload_n 3, 3, 0, 0, 0, 0, 0), (13, .ishr, 0, 0, 0, 0, 0, 0), (14, .iconst 1, 0, 0, 0, 0, 0, 1), (15, .iand, 0, 0, 0, 0, 0, 0), (16, .iconst 1, 0, 0, 0, 0, 0, 1), (17, .if_icmp .ne 12, 29, 0, 0, 0, 0, 0), (20, .aload_n 0, 0, 0, 0, 0, 0, 0), (21, .getfield 55, 10, 25, 0, 0, 0, 0), (24, .iload_n 3, 3, 0, 0, 0, 0, 0), (25, .iaload, 0, 0, 0, 0, 0, 0), (26, .goto 4, 30, 0, 0, 0, 0, 0), (29, .iconst 0, 0, 0, 0, 0, 0, 0), (30, .iadd, 0, 0, 0, 0, 0, 0), (31, .istore_n 2, 2, 0, 0, 0, 0, 0), (32, .iinc 3 1, 3, 0, 0, 0, 0, 1), (35, .goto (-31), 4, 0, 0, 0, 0, 0), (38, .iload_n 2, 2, 0, 0, 0, 0, 0), (39, .ireturn, 0, 0, 0, 0, 0, 0)], [(4, [true, true, true, true])])
-- X10_traitsOf
def k180 : pM := ([(0, .aload_n 0, 0, 0, 0, 0, 0, 0), (1, .getfield 31, 10, 17, 0, 0, 0, 0), (4, .iload_n 1, 1, 0, 0, 0, 0, 0), (5, .iaload, 0, 0, 0, 0, 0, 0), (6, .istore_n 3, 3, 0, 0, 0, 0, 0), (7, .iconst 0, 0, 0, 0, 0, 0, 0), (8, .istore 4, 4, 0, 0, 0, 0, 0), (10, .iload 4, 4, 0, 0, 0, 0, 0), (12, .aload_n 0, 0, 0, 0, 0, 0, 0), (13, .getfield 234, 10, 44, 0, 0, 0, 0), (16, .if_icmp .ge 43, 59, 0, 0, 0, 0, 0), (19, .iload_n 2, 2, 0, 0, 0, 0, 0), (20, .ifCond .lt 33, 53, 0, 0, 0, 0, 0), (23, .aload_n 0, 0, 0, 0, 0, 0, 0), (24, .getfield 110, 10, 45, 0, 0, 0, 0), (27, .iload 4, 4, 0, 0, 0, 0, 0), (29, .iaload, 0, 0, 0, 0, 0, 0), (30, .iload_n 1, 1, 0, 0, 0, 0, 0), (31, .if_icmp .ne 22, 53, 0, 0, 0, 0, 0), (34, .aload_n 0, 0, 0, 0, 0, 0, 0), (35, .getfield 113, 10, 46, 0, 0, 0, 0), (38, .iload 4, 4, 0, 0, 0, 0, 0), (40, .iaload, 0, 0, 0, 0, 0, 0), (41, .iload_n 2, 2, 0, 0, 0, 0, 0), (42, .if_icmp .gt 11, 53, 0, 0, 0, 0, 0), (45, .aload_n 0, 0, 0, 0, 0, 0, 0), (46, .getfield 116, 10, 47, 0, 0, 0, 0), (49, .iload 4, 4, 0, 0, 0, 0, 0), (51, .iaload, 0, 0, 0, 0, 0, 0), (52, .istore_n 3, 3, 0, 0, 0, 0, 0), (53, .iinc 4 1, 4, 0, 0, 0, 0, 1), (56, .goto (-46), 10, 0, 0, 0, 0, 0), (59, .iload_n 3, 3, 0, 0, 0, 0, 0), (60, .ireturn, 0, 0, 0, 0, 0, 0)], [(10, [true, true, true, true, true])])
-- X10_had
def k181 : pM := ([(0, .aload_n 0, 0, 0, 0, 0, 0, 0), (1, .getfield 58, 10, 27, 0, 0, 0, 0), (4, .iload_n 1, 1, 0, 0, 0, 0, 0), (5, .iaload, 0, 0, 0, 0, 0, 0), (6, .iconst (-1), 0, 0, 0, 0, 0, (-1)), (7, .if_icmp .eq 13, 20, 0, 0, 0, 0, 0), (10, .aload_n 0, 0, 0, 0, 0, 0, 0), (11, .getfield 58, 10, 27, 0, 0, 0, 0), (14, .iload_n 1, 1, 0, 0, 0, 0, 0), (15, .iaload, 0, 0, 0, 0, 0, 0), (16, .iconst 3, 0, 0, 0, 0, 0, 3), (17, .if_icmp .ne 5, 22, 0, 0, 0, 0, 0), (20, .iconst 0, 0, 0, 0, 0, 0, 0), (21, .ireturn, 0, 0, 0, 0, 0, 0), (22, .aload_n 0, 0, 0, 0, 0, 0, 0), (23, .aload_n 0, 0, 0, 0, 0, 0, 0), (24, .getfield 61, 10, 28, 0, 0, 0, 0), (27, .iload_n 1, 1, 0, 0, 0, 0, 0), (28, .iaload, 0, 0, 0, 0, 0, 0), (29, .iload_n 2, 2, 0, 0, 0, 0, 0), (30, .invokevirtual 293, 180, 3, 2, 11, 1, 0), (33, .istore_n 3, 3, 0, 0, 0, 0, 0), (34, .aload_n 0, 0, 0, 0, 0, 0, 0), (35, .getfield 58, 10, 27, 0, 0, 0, 0), (38, .iload_n 1, 1, 0, 0, 0, 0, 0), (39, .iaload, 0, 0, 0, 0, 0, 0), (40, .ifCond .ne 5, 45, 0, 0, 0, 0, 0), (43, .iload_n 3, 3, 0, 0, 0, 0, 0), (44, .ireturn, 0, 0, 0, 0, 0, 0), (45, .iload_n 3, 3, 0, 0, 0, 0, 0), (46, .aload_n 0, 0, 0, 0, 0, 0, 0), (47, .aload_n 0, 0, 0, 0, 0, 0, 0), (48, .getfield 64, 10, 29, 0, 0, 0, 0), (51, .iload_n 1, 1, 0, 0, 0, 0, 0), (52, .iaload, 0, 0, 0, 0, 0, 0), (53, .iload_n 2, 2, 0, 0, 0, 0, 0), (54, .invokevirtual 293, 180, 3, 2, 11, 1, 0), (57, .ior, 0, 0, 0, 0, 0, 0), (58, .istore_n 3, 3, 0, 0, 0, 0, 0), (59, .aload_n 0, 0, 0, 0, 0, 0, 0), (60, .getfield 58, 10, 27, 0, 0, 0, 0), (63, .iload_n 1, 1, 0, 0, 0, 0, 0), (64, .iaload, 0, 0, 0, 0, 0, 0), (65, .iconst 2, 0, 0, 0, 0, 0, 2), (66, .if_icmp .ne 29, 95, 0, 0, 0, 0, 0), (69, .aload_n 0, 0, 0, 0, 0, 0, 0), (70, .getfield 67, 10, 30, 0, 0, 0, 0), (73, .iload_n 1, 1, 0, 0, 0, 0, 0), (74, .iaload, 0, 0, 0, 0, 0, 0), (75, .iconst (-1), 0, 0, 0, 0, 0, (-1)), (76, .if_icmp .eq 19, 95, 0, 0, 0, 0, 0), (79, .iload_n 3, 3, 0, 0, 0, 0, 0), (80, .aload_n 0, 0, 0, 0, 0, 0, 0), (81, .aload_n 0, 0, 0, 0, 0, 0, 0), (82, .getfield 67, 10, 30, 0, 0, 0, 0), (85, .iload_n 1, 1, 0, 0, 0, 0, 0), (86, .iaload, 0, 0, 0, 0, 0, 0), (87, .iload_n 2, 2, 0, 0, 0, 0, 0), (88, .invokevirtual 293, 180, 3, 2, 11, 1, 0), (91, .ior, 0, 0, 0, 0, 0, 0), (92, .goto 4, 96, 0, 0, 0, 0, 0), (95, .iload_n 3, 3, 0, 0, 0, 0, 0), (96, .ireturn, 0, 0, 0, 0, 0, 0)], [])
-- X10_lackAt
def k182 : pM := ([(0, .aload_n 0, 0, 0, 0, 0, 0, 0), (1, .getfield 37, 10, 19, 0, 0, 0, 0), (4, .iload_n 1, 1, 0, 0, 0, 0, 0), (5, .iaload, 0, 0, 0, 0, 0, 0), (6, .aload_n 0, 0, 0, 0, 0, 0, 0), (7, .iload_n 1, 1, 0, 0, 0, 0, 0), (8, .iload_n 2, 2, 0, 0, 0, 0, 0), (9, .invokevirtual 296, 181, 3, 3, 11, 1, 0), (12, .iconst (-1), 0, 0, 0, 0, 0, (-1)), (13, .ixor, 0, 0, 0, 0, 0, 0), (14, .iand, 0, 0, 0, 0, 0, 0), (15, .ireturn, 0, 0, 0, 0, 0, 0)], [])
-- X10_addAt
def k183 : pM := ([(0, .aload_n 0, 0, 0, 0, 0, 0, 0), (1, .iload_n 1, 1, 0, 0, 0, 0, 0), (2, .iload_n 2, 2, 0, 0, 0, 0, 0), (3, .invokevirtual 296, 181, 3, 3, 11, 1, 0), (6, .aload_n 0, 0, 0, 0, 0, 0, 0), (7, .getfield 28, 10, 16, 0, 0, 0, 0), (10, .aload_n 0, 0, 0, 0, 0, 0, 0), (11, .getfield 34, 10, 18, 0, 0, 0, 0), (14, .iload_n 1, 1, 0, 0, 0, 0, 0), (15, .iaload, 0, 0, 0, 0, 0, 0), (16, .iaload, 0, 0, 0, 0, 0, 0), (17, .iconst (-1), 0, 0, 0, 0, 0, (-1)), (18, .ixor, 0, 0, 0, 0, 0, 0), (19, .iand, 0, 0, 0, 0, 0, 0), (20, .ireturn, 0, 0, 0, 0, 0, 0)], [])
-- X10_lostAt
def k184 : pM := ([(0, .aload_n 0, 0, 0, 0, 0, 0, 0), (1, .getfield 58, 10, 27, 0, 0, 0, 0), (4, .iload_n 1, 1, 0, 0, 0, 0, 0), (5, .iaload, 0, 0, 0, 0, 0, 0), (6, .iconst (-1), 0, 0, 0, 0, 0, (-1)), (7, .if_icmp .ne 5, 12, 0, 0, 0, 0, 0), (10, .iconst 0, 0, 0, 0, 0, 0, 0), (11, .ireturn, 0, 0, 0, 0, 0, 0), (12, .aload_n 0, 0, 0, 0, 0, 0, 0), (13, .getfield 58, 10, 27, 0, 0, 0, 0), (16, .iload_n 1, 1, 0, 0, 0, 0, 0), (17, .iaload, 0, 0, 0, 0, 0, 0), (18, .iconst 1, 0, 0, 0, 0, 0, 1), (19, .if_icmp .ne 7, 26, 0, 0, 0, 0, 0), (22, .iconst 1, 0, 0, 0, 0, 0, 1), (23, .goto 32, 55, 0, 0, 0, 0, 0), (26, .aload_n 0, 0, 0, 0, 0, 0, 0), (27, .getfield 58, 10, 27, 0, 0, 0, 0), (30, .iload_n 1, 1, 0, 0, 0, 0, 0), (31, .iaload, 0, 0, 0, 0, 0, 0), (32, .iconst 2, 0, 0, 0, 0, 0, 2), (33, .if_icmp .ne 21, 54, 0, 0, 0, 0, 0), (36, .aload_n 0, 0, 0, 0, 0, 0, 0), (37, .getfield 67, 10, 30, 0, 0, 0, 0), (40, .iload_n 1, 1, 0, 0, 0, 0, 0), (41, .iaload, 0, 0, 0, 0, 0, 0), (42, .iconst (-1), 0, 0, 0, 0, 0, (-1)), (43, .if_icmp .ne 7, 50, 0, 0, 0, 0, 0), (46, .iconst 1, 0, 0, 0, 0, 0, 1), (47, .goto 8, 55, 0, 0, 0, 0, 0), (50, .iconst 2, 0, 0, 0, 0, 0, 2), (51, .goto 4, 55, 0, 0, 0, 0, 0), (54, .iconst 0, 0, 0, 0, 0, 0, 0), (55, .istore_n 3, 3, 0, 0, 0, 0, 0), (56, .aload_n 0, 0, 0, 0, 0, 0, 0), (57, .getfield 17, 10, 13, 0, 0, 0, 0), (60, .iconst 5, 0, 0, 0, 0, 0, 5), (61, .iaload, 0, 0, 0, 0, 0, 0), (62, .aload_n 0, 0, 0, 0, 0, 0, 0), (63, .aload_n 0, 0, 0, 0, 0, 0, 0), (64, .iload_n 1, 1, 0, 0, 0, 0, 0), (65, .iload_n 2, 2, 0, 0, 0, 0, 0), (66, .invokevirtual 299, 182, 3, 4, 11, 1, 0), (69, .aload_n 0, 0, 0, 0, 0, 0, 0), (70, .getfield 70, 10, 31, 0, 0, 0, 0), (73, .iload_n 1, 1, 0, 0, 0, 0, 0), (74, .iaload, 0, 0, 0, 0, 0, 0), (75, .iconst (-1), 0, 0, 0, 0, 0, (-1)), (76, .ixor, 0, 0, 0, 0, 0, 0), (77, .iand, 0, 0, 0, 0, 0, 0), (78, .invokevirtual 302, 179, 2, 2, 11, 1, 0), (81, .imul, 0, 0, 0, 0, 0, 0), (82, .aload_n 0, 0, 0, 0, 0, 0, 0), (83, .getfield 17, 10, 13, 0, 0, 0, 0), (86, .bipush 6, 0, 0, 0, 0, 0, 6), (88, .iaload, 0, 0, 0, 0, 0, 0), (89, .aload_n 0, 0, 0, 0, 0, 0, 0), (90, .aload_n 0, 0, 0, 0, 0, 0, 0), (91, .iload_n 1, 1, 0, 0, 0, 0, 0), (92, .iload_n 2, 2, 0, 0, 0, 0, 0), (93, .invokevirtual 305, 183, 3, 4, 11, 1, 0), (96, .invokevirtual 302, 179, 2, 2, 11, 1, 0), (99, .imul, 0, 0, 0, 0, 0, 0), (100, .iadd, 0, 0, 0, 0, 0, 0), (101, .aload_n 0, 0, 0, 0, 0, 0, 0), (102, .getfield 17, 10, 13, 0, 0, 0, 0), (105, .bipush 8, 0, 0, 0, 0, 0, 8), (107, .iaload, 0, 0, 0, 0, 0, 0), (108, .iload_n 3, 3, 0, 0, 0, 0, 0), (109, .imul, 0, 0, 0, 0, 0, 0), (110, .iadd, 0, 0, 0, 0, 0, 0), (111, .aload_n 0, 0, 0, 0, 0, 0, 0), (112, .getfield 58, 10, 27, 0, 0, 0, 0), (115, .iload_n 1, 1, 0, 0, 0, 0, 0), (116, .iaload, 0, 0, 0, 0, 0, 0), (117, .iconst 3, 0, 0, 0, 0, 0, 3), (118, .if_icmp .ne 13, 131, 0, 0, 0, 0, 0), (121, .aload_n 0, 0, 0, 0, 0, 0, 0), (122, .getfield 17, 10, 13, 0, 0, 0, 0), (125, .bipush 7, 0, 0, 0, 0, 0, 7), (127, .iaload, 0, 0, 0, 0, 0, 0), (128, .goto 4, 132, 0, 0, 0, 0, 0), (131, .iconst 0, 0, 0, 0, 0, 0, 0), (132, .iadd, 0, 0, 0, 0, 0, 0), (133, .ireturn, 0, 0, 0, 0, 0, 0)], [(55, [true, true, true, false])])
-- X10_lostAll
def k185 : pM := ([(0, .iconst 0, 0, 0, 0, 0, 0, 0), (1, .istore_n 2, 2, 0, 0, 0, 0, 0), (2, .iconst 0, 0, 0, 0, 0, 0, 0), (3, .istore_n 3, 3, 0, 0, 0, 0, 0), (4, .iload_n 3, 3, 0, 0, 0, 0, 0), (5, .aload_n 0, 0, 0, 0, 0, 0, 0), (6, .getfield 17, 10, 13, 0, 0, 0, 0), (9, .iconst 2, 0, 0, 0, 0, 0, 2), (10, .iaload, 0, 0, 0, 0, 0, 0), (11, .if_icmp .ge 18, 29, 0, 0, 0, 0, 0), (14, .iload_n 2, 2, 0, 0, 0, 0, 0), (15, .aload_n 0, 0, 0, 0, 0, 0, 0), (16, .iload_n 3, 3, 0, 0, 0, 0, 0), (17, .iload_n 1, 1, 0, 0, 0, 0, 0), (18, .invokevirtual 308, 184, 3, 5, 11, 1, 0), (21, .iadd, 0, 0, 0, 0, 0, 0), (22, .istore_n 2, 2, 0, 0, 0, 0, 0), (23, .iinc 3 1, 3, 0, 0, 0, 0, 1), (26, .goto (-22), 4, 0, 0, 0, 0, 0), (29, .iload_n 2, 2, 0, 0, 0, 0, 0), (30, .ireturn, 0, 0, 0, 0, 0, 0)], [(4, [true, true, true, true])])
-- X10_put
def k186 : pM := ([(0, .aload_n 0, 0, 0, 0, 0, 0, 0), (1, .getfield 58, 10, 27, 0, 0, 0, 0), (4, .iload_n 1, 1, 0, 0, 0, 0, 0), (5, .iload_n 2, 2, 0, 0, 0, 0, 0), (6, .iastore, 0, 0, 0, 0, 0, 0), (7, .aload_n 0, 0, 0, 0, 0, 0, 0), (8, .getfield 61, 10, 28, 0, 0, 0, 0), (11, .iload_n 1, 1, 0, 0, 0, 0, 0), (12, .iload_n 2, 2, 0, 0, 0, 0, 0), (13, .iconst 3, 0, 0, 0, 0, 0, 3), (14, .if_icmp .ne 7, 21, 0, 0, 0, 0, 0), (17, .iconst (-1), 0, 0, 0, 0, 0, (-1)), (18, .goto 4, 22, 0, 0, 0, 0, 0), (21, .iload_n 3, 3, 0, 0, 0, 0, 0), (22, .iastore, 0, 0, 0, 0, 0, 0), (23, .aload_n 0, 0, 0, 0, 0, 0, 0), (24, .getfield 64, 10, 29, 0, 0, 0, 0), (27, .iload_n 1, 1, 0, 0, 0, 0, 0), (28, .iload_n 2, 2, 0, 0, 0, 0, 0), (29, .iconst 1, 0, 0, 0, 0, 0, 1), (30, .if_icmp .eq 8, 38, 0, 0, 0, 0, 0), (33, .iload_n 2, 2, 0, 0, 0, 0, 0), (34, .iconst 2, 0, 0, 0, 0, 0, 2), (35, .if_icmp .ne 8, 43, 0, 0, 0, 0, 0), (38, .iload 4, 4, 0, 0, 0, 0, 0), (40, .goto 4, 44, 0, 0, 0, 0, 0), (43, .iconst (-1), 0, 0, 0, 0, 0, (-1)), (44, .iastore, 0, 0, 0, 0, 0, 0), (45, .aload_n 0, 0, 0, 0, 0, 0, 0), (46, .getfield 67, 10, 30, 0, 0, 0, 0), (49, .iload_n 1, 1, 0, 0, 0, 0, 0), (50, .iload_n 2, 2, 0, 0, 0, 0, 0), (51, .iconst 2, 0, 0, 0, 0, 0, 2), (52, .if_icmp .ne 8, 60, 0, 0, 0, 0, 0), (55, .iload 5, 5, 0, 0, 0, 0, 0), (57, .goto 4, 61, 0, 0, 0, 0, 0), (60, .iconst (-1), 0, 0, 0, 0, 0, (-1)), (61, .iastore, 0, 0, 0, 0, 0, 0), (62, .return_, 0, 0, 0, 0, 0, 0)], [(22, [true, true, true, false, true, true])])
-- X10_choose
def k187 : pM := ([(0, .aload_n 0, 0, 0, 0, 0, 0, 0), (1, .iload_n 1, 1, 0, 0, 0, 0, 0), (2, .invokevirtual 284, 174, 2, 3, 11, 1, 0), (5, .ifCond .eq 12, 17, 0, 0, 0, 0, 0), (8, .iload_n 2, 2, 0, 0, 0, 0, 0), (9, .iconst 0, 0, 0, 0, 0, 0, 0), (10, .iconst 3, 0, 0, 0, 0, 0, 3), (11, .invokestatic 214, 146, 3, 2, 0, 1, 0), (14, .ifCond .ne 6, 20, 0, 0, 0, 0, 0), (17, .bipush (-2), 0, 0, 0, 0, 0, (-2)), (19, .ireturn, 0, 0, 0, 0, 0, 0), (20, .iload_n 2, 2, 0, 0, 0, 0, 0), (21, .iconst 3, 0, 0, 0, 0, 0, 3), (22, .if_icmp .eq 14, 36, 0, 0, 0, 0, 0), (25, .aload_n 0, 0, 0, 0, 0, 0, 0), (26, .iload_n 3, 3, 0, 0, 0, 0, 0), (27, .invokevirtual 281, 173, 2, 3, 11, 1, 0), (30, .ifCond .ne 6, 36, 0, 0, 0, 0, 0), (33, .bipush (-2), 0, 0, 0, 0, 0, (-2)), (35, .ireturn, 0, 0, 0, 0, 0, 0), (36, .iload_n 2, 2, 0, 0, 0, 0, 0), (37, .iconst 1, 0, 0, 0, 0, 0, 1), (38, .if_icmp .eq 8, 46, 0, 0, 0, 0, 0), (41, .iload_n 2, 2, 0, 0, 0, 0, 0), (42, .iconst 2, 0, 0, 0, 0, 0, 2), (43, .if_icmp .ne 15, 58, 0, 0, 0, 0, 0), (46, .aload_n 0, 0, 0, 0, 0, 0, 0), (47, .iload 4, 4, 0, 0, 0, 0, 0), (49, .invokevirtual 281, 173, 2, 3, 11, 1, 0), (52, .ifCond .ne 6, 58, 0, 0, 0, 0, 0), (55, .bipush (-2), 0, 0, 0, 0, 0, (-2)), (57, .ireturn, 0, 0, 0, 0, 0, 0), (58, .iload_n 2, 2, 0, 0, 0, 0, 0), (59, .iconst 1, 0, 0, 0, 0, 0, 1), (60, .if_icmp .ne 9, 69, 0, 0, 0, 0, 0), (63, .iload_n 3, 3, 0, 0, 0, 0, 0), (64, .iload 4, 4, 0, 0, 0, 0, 0), (66, .if_icmp .eq 23, 89, 0, 0, 0, 0, 0), (69, .iload_n 2, 2, 0, 0, 0, 0, 0), (70, .iconst 2, 0, 0, 0, 0, 0, 2), (71, .if_icmp .ne 21, 92, 0, 0, 0, 0, 0), (74, .iload 5, 5, 0, 0, 0, 0, 0), (76, .iconst (-1), 0, 0, 0, 0, 0, (-1)), (77, .if_icmp .eq 15, 92, 0, 0, 0, 0, 0), (80, .aload_n 0, 0, 0, 0, 0, 0, 0), (81, .iload 5, 5, 0, 0, 0, 0, 0), (83, .invokevirtual 281, 173, 2, 3, 11, 1, 0), (86, .ifCond .ne 6, 92, 0, 0, 0, 0, 0), (89, .bipush (-2), 0, 0, 0, 0, 0, (-2)), (91, .ireturn, 0, 0, 0, 0, 0, 0), (92, .aload_n 0, 0, 0, 0, 0, 0, 0), (93, .iload_n 1, 1, 0, 0, 0, 0, 0), (94, .iload_n 2, 2, 0, 0, 0, 0, 0), (95, .iload_n 3, 3, 0, 0, 0, 0, 0), (96, .iload 4, 4, 0, 0, 0, 0, 0), (98, .iload 5, 5, 0, 0, 0, 0, 0), (100, .invokevirtual 311, 186, 6, 2, 11, 0, 0), (103, .aload_n 0, 0, 0, 0, 0, 0, 0), (104, .iload_n 1, 1, 0, 0, 0, 0, 0), (105, .iconst (-1), 0, 0, 0, 0, 0, (-1)), (106, .invokevirtual 308, 184, 3, 5, 11, 1, 0), (109, .ireturn, 0, 0, 0, 0, 0, 0)], [(36, [true, true, true, true, true, true]), (69, [true, true, true, true, true, true])])
-- X10_leave
def k188 : pM := ([(0, .aload_n 0, 0, 0, 0, 0, 0, 0), (1, .iload_n 1, 1, 0, 0, 0, 0, 0), (2, .invokevirtual 284, 174, 2, 3, 11, 1, 0), (5, .ifCond .ne 6, 11, 0, 0, 0, 0, 0), (8, .bipush (-2), 0, 0, 0, 0, 0, (-2)), (10, .ireturn, 0, 0, 0, 0, 0, 0), (11, .aload_n 0, 0, 0, 0, 0, 0, 0), (12, .getfield 58, 10, 27, 0, 0, 0, 0), (15, .iload_n 1, 1, 0, 0, 0, 0, 0), (16, .iaload, 0, 0, 0, 0, 0, 0), (17, .iconst (-1), 0, 0, 0, 0, 0, (-1)), (18, .if_icmp .ne 7, 25, 0, 0, 0, 0, 0), (21, .iconst 0, 0, 0, 0, 0, 0, 0), (22, .goto 4, 26, 0, 0, 0, 0, 0), (25, .iconst 1, 0, 0, 0, 0, 0, 1), (26, .istore_n 2, 2, 0, 0, 0, 0, 0), (27, .aload_n 0, 0, 0, 0, 0, 0, 0), (28, .getfield 58, 10, 27, 0, 0, 0, 0), (31, .iload_n 1, 1, 0, 0, 0, 0, 0), (32, .iconst (-1), 0, 0, 0, 0, 0, (-1)), (33, .iastore, 0, 0, 0, 0, 0, 0), (34, .iload_n 2, 2, 0, 0, 0, 0, 0), (35, .ireturn, 0, 0, 0, 0, 0, 0)], [])
-- X10_choice
def k189 : pM := ([(0, .aload_n 0, 0, 0, 0, 0, 0, 0), (1, .iload_n 1, 1, 0, 0, 0, 0, 0), (2, .invokevirtual 284, 174, 2, 3, 11, 1, 0), (5, .ifCond .eq 12, 17, 0, 0, 0, 0, 0), (8, .iload_n 2, 2, 0, 0, 0, 0, 0), (9, .iconst 0, 0, 0, 0, 0, 0, 0), (10, .iconst 3, 0, 0, 0, 0, 0, 3), (11, .invokestatic 214, 146, 3, 2, 0, 1, 0), (14, .ifCond .ne 6, 20, 0, 0, 0, 0, 0), (17, .bipush (-2), 0, 0, 0, 0, 0, (-2)), (19, .ireturn, 0, 0, 0, 0, 0, 0), (20, .aload_n 0, 0, 0, 0, 0, 0, 0), (21, .getfield 58, 10, 27, 0, 0, 0, 0), (24, .iload_n 1, 1, 0, 0, 0, 0, 0), (25, .iaload, 0, 0, 0, 0, 0, 0), (26, .iconst (-1), 0, 0, 0, 0, 0, (-1)), (27, .if_icmp .ne 7, 34, 0, 0, 0, 0, 0), (30, .iconst (-1), 0, 0, 0, 0, 0, (-1)), (31, .goto 50, 81, 0, 0, 0, 0, 0), (34, .iload_n 2, 2, 0, 0, 0, 0, 0), (35, .ifCond .ne 12, 47, 0, 0, 0, 0, 0), (38, .aload_n 0, 0, 0, 0, 0, 0, 0), (39, .getfield 58, 10, 27, 0, 0, 0, 0), (42, .iload_n 1, 1, 0, 0, 0, 0, 0), (43, .iaload, 0, 0, 0, 0, 0, 0), (44, .goto 37, 81, 0, 0, 0, 0, 0), (47, .iload_n 2, 2, 0, 0, 0, 0, 0), (48, .iconst 1, 0, 0, 0, 0, 0, 1), (49, .if_icmp .ne 12, 61, 0, 0, 0, 0, 0), (52, .aload_n 0, 0, 0, 0, 0, 0, 0), (53, .getfield 61, 10, 28, 0, 0, 0, 0), (56, .iload_n 1, 1, 0, 0, 0, 0, 0), (57, .iaload, 0, 0, 0, 0, 0, 0), (58, .goto 23, 81, 0, 0, 0, 0, 0), (61, .iload_n 2, 2, 0, 0, 0, 0, 0), (62, .iconst 2, 0, 0, 0, 0, 0, 2), (63, .if_icmp .ne 12, 75, 0, 0, 0, 0, 0), (66, .aload_n 0, 0, 0, 0, 0, 0, 0), (67, .getfield 64, 10, 29, 0, 0, 0, 0), (70, .iload_n 1, 1, 0, 0, 0, 0, 0), (71, .iaload, 0, 0, 0, 0, 0, 0), (72, .goto 9, 81, 0, 0, 0, 0, 0), (75, .aload_n 0, 0, 0, 0, 0, 0, 0), (76, .getfield 67, 10, 30, 0, 0, 0, 0), (79, .iload_n 1, 1, 0, 0, 0, 0, 0), (80, .iaload, 0, 0, 0, 0, 0, 0), (81, .ireturn, 0, 0, 0, 0, 0, 0)], [])
-- X10_bears
def k190 : pM := ([(0, .aload_n 0, 0, 0, 0, 0, 0, 0), (1, .iload_n 1, 1, 0, 0, 0, 0, 0), (2, .invokevirtual 284, 174, 2, 3, 11, 1, 0), (5, .ifCond .eq 12, 17, 0, 0, 0, 0, 0), (8, .iload_n 2, 2, 0, 0, 0, 0, 0), (9, .iconst 0, 0, 0, 0, 0, 0, 0), (10, .iconst 4, 0, 0, 0, 0, 0, 4), (11, .invokestatic 214, 146, 3, 2, 0, 1, 0), (14, .ifCond .ne 6, 20, 0, 0, 0, 0, 0), (17, .bipush (-2), 0, 0, 0, 0, 0, (-2)), (19, .ireturn, 0, 0, 0, 0, 0, 0), (20, .iload_n 2, 2, 0, 0, 0, 0, 0), (21, .iconst 4, 0, 0, 0, 0, 0, 4), (22, .if_icmp .ne 10, 32, 0, 0, 0, 0, 0), (25, .aload_n 0, 0, 0, 0, 0, 0, 0), (26, .getfield 70, 10, 31, 0, 0, 0, 0), (29, .iload_n 1, 1, 0, 0, 0, 0, 0), (30, .iaload, 0, 0, 0, 0, 0, 0), (31, .ireturn, 0, 0, 0, 0, 0, 0), (32, .aload_n 0, 0, 0, 0, 0, 0, 0), (33, .getfield 58, 10, 27, 0, 0, 0, 0), (36, .iload_n 1, 1, 0, 0, 0, 0, 0), (37, .iaload, 0, 0, 0, 0, 0, 0), (38, .iconst (-1), 0, 0, 0, 0, 0, (-1)), (39, .if_icmp .ne 5, 44, 0, 0, 0, 0, 0), (42, .iconst (-1), 0, 0, 0, 0, 0, (-1)), (43, .ireturn, 0, 0, 0, 0, 0, 0), (44, .iload_n 2, 2, 0, 0, 0, 0, 0), (45, .ifCond .ne 12, 57, 0, 0, 0, 0, 0), (48, .aload_n 0, 0, 0, 0, 0, 0, 0), (49, .iload_n 1, 1, 0, 0, 0, 0, 0), (50, .iconst (-1), 0, 0, 0, 0, 0, (-1)), (51, .invokevirtual 296, 181, 3, 3, 11, 1, 0), (54, .goto 37, 91, 0, 0, 0, 0, 0), (57, .iload_n 2, 2, 0, 0, 0, 0, 0), (58, .iconst 1, 0, 0, 0, 0, 0, 1), (59, .if_icmp .ne 12, 71, 0, 0, 0, 0, 0), (62, .aload_n 0, 0, 0, 0, 0, 0, 0), (63, .iload_n 1, 1, 0, 0, 0, 0, 0), (64, .iconst (-1), 0, 0, 0, 0, 0, (-1)), (65, .invokevirtual 299, 182, 3, 4, 11, 1, 0), (68, .goto 23, 91, 0, 0, 0, 0, 0), (71, .iload_n 2, 2, 0, 0, 0, 0, 0), (72, .iconst 2, 0, 0, 0, 0, 0, 2), (73, .if_icmp .ne 12, 85, 0, 0, 0, 0, 0), (76, .aload_n 0, 0, 0, 0, 0, 0, 0), (77, .iload_n 1, 1, 0, 0, 0, 0, 0), (78, .iconst (-1), 0, 0, 0, 0, 0, (-1)), (79, .invokevirtual 305, 183, 3, 4, 11, 1, 0), (82, .goto 9, 91, 0, 0, 0, 0, 0), (85, .aload_n 0, 0, 0, 0, 0, 0, 0), (86, .iload_n 1, 1, 0, 0, 0, 0, 0), (87, .iconst (-1), 0, 0, 0, 0, 0, (-1)), (88, .invokevirtual 308, 184, 3, 5, 11, 1, 0), (91, .ireturn, 0, 0, 0, 0, 0, 0)], [])
-- X10_bits
def k191 : pM := ([(0, .iconst 0, 0, 0, 0, 0, 0, 0), (1, .istore_n 1, 1, 0, 0, 0, 0, 0), (2, .iload_n 0, 0, 0, 0, 0, 0, 0), (3, .istore_n 2, 2, 0, 0, 0, 0, 0), (4, .iload_n 2, 2, 0, 0, 0, 0, 0), (5, .ifCond .eq 15, 20, 0, 0, 0, 0, 0), (8, .iinc 1 1, 1, 0, 0, 0, 0, 1), (11, .iload_n 2, 2, 0, 0, 0, 0, 0), (12, .iload_n 2, 2, 0, 0, 0, 0, 0), (13, .iconst 1, 0, 0, 0, 0, 0, 1), (14, .isub, 0, 0, 0, 0, 0, 0), (15, .iand, 0, 0, 0, 0, 0, 0), (16, .istore_n 2, 2, 0, 0, 0, 0, 0), (17, .goto (-13), 4, 0, 0, 0, 0, 0), (20, .iload_n 1, 1, 0, 0, 0, 0, 0), (21, .ireturn, 0, 0, 0, 0, 0, 0)], [(4, [false, true, true])])
-- X10_notedAll
def k192 : pM := ([(0, .iconst 0, 0, 0, 0, 0, 0, 0), (1, .istore_n 1, 1, 0, 0, 0, 0, 0), (2, .iconst 0, 0, 0, 0, 0, 0, 0), (3, .istore_n 2, 2, 0, 0, 0, 0, 0), (4, .iload_n 2, 2, 0, 0, 0, 0, 0), (5, .aload_n 0, 0, 0, 0, 0, 0, 0), (6, .getfield 17, 10, 13, 0, 0, 0, 0), (9, .iconst 2, 0, 0, 0, 0, 0, 2), (10, .iaload, 0, 0, 0, 0, 0, 0), (11, .if_icmp .ge 21, 32, 0, 0, 0, 0, 0), (14, .iload_n 1, 1, 0, 0, 0, 0, 0), (15, .aload_n 0, 0, 0, 0, 0, 0, 0), (16, .getfield 70, 10, 31, 0, 0, 0, 0), (19, .iload_n 2, 2, 0, 0, 0, 0, 0), (20, .iaload, 0, 0, 0, 0, 0, 0), (21, .invokestatic 315, 191, 1, 2, 0, 1, 0), (24, .iadd, 0, 0, 0, 0, 0, 0), (25, .istore_n 1, 1, 0, 0, 0, 0, 0), (26, .iinc 2 1, 2, 0, 0, 0, 0, 1), (29, .goto (-25), 4, 0, 0, 0, 0, 0), (32, .iload_n 1, 1, 0, 0, 0, 0, 0), (33, .ireturn, 0, 0, 0, 0, 0, 0)], [(4, [true, true, true])])
-- X10_note
def k193 : pM := ([(0, .aload_n 0, 0, 0, 0, 0, 0, 0), (1, .iload_n 1, 1, 0, 0, 0, 0, 0), (2, .invokevirtual 284, 174, 2, 3, 11, 1, 0), (5, .ifCond .eq 21, 26, 0, 0, 0, 0, 0), (8, .iload_n 2, 2, 0, 0, 0, 0, 0), (9, .aload_n 0, 0, 0, 0, 0, 0, 0), (10, .getfield 28, 10, 16, 0, 0, 0, 0), (13, .aload_n 0, 0, 0, 0, 0, 0, 0), (14, .getfield 34, 10, 18, 0, 0, 0, 0), (17, .iload_n 1, 1, 0, 0, 0, 0, 0), (18, .iaload, 0, 0, 0, 0, 0, 0), (19, .iaload, 0, 0, 0, 0, 0, 0), (20, .iconst (-1), 0, 0, 0, 0, 0, (-1)), (21, .ixor, 0, 0, 0, 0, 0, 0), (22, .iand, 0, 0, 0, 0, 0, 0), (23, .ifCond .eq 6, 29, 0, 0, 0, 0, 0), (26, .bipush (-2), 0, 0, 0, 0, 0, (-2)), (28, .ireturn, 0, 0, 0, 0, 0, 0), (29, .aload_n 0, 0, 0, 0, 0, 0, 0), (30, .invokevirtual 318, 192, 1, 3, 11, 1, 0), (33, .aload_n 0, 0, 0, 0, 0, 0, 0), (34, .getfield 70, 10, 31, 0, 0, 0, 0), (37, .iload_n 1, 1, 0, 0, 0, 0, 0), (38, .iaload, 0, 0, 0, 0, 0, 0), (39, .invokestatic 315, 191, 1, 2, 0, 1, 0), (42, .isub, 0, 0, 0, 0, 0, 0), (43, .iload_n 2, 2, 0, 0, 0, 0, 0), (44, .invokestatic 315, 191, 1, 2, 0, 1, 0), (47, .iadd, 0, 0, 0, 0, 0, 0), (48, .istore_n 3, 3, 0, 0, 0, 0, 0), (49, .iload_n 3, 3, 0, 0, 0, 0, 0), (50, .aload_n 0, 0, 0, 0, 0, 0, 0), (51, .getfield 17, 10, 13, 0, 0, 0, 0), (54, .bipush 9, 0, 0, 0, 0, 0, 9), (56, .iaload, 0, 0, 0, 0, 0, 0), (57, .if_icmp .le 6, 63, 0, 0, 0, 0, 0), (60, .bipush (-3), 0, 0, 0, 0, 0, (-3)), (62, .ireturn, 0, 0, 0, 0, 0, 0), (63, .aload_n 0, 0, 0, 0, 0, 0, 0), (64, .getfield 70, 10, 31, 0, 0, 0, 0), (67, .iload_n 1, 1, 0, 0, 0, 0, 0), (68, .iload_n 2, 2, 0, 0, 0, 0, 0), (69, .iastore, 0, 0, 0, 0, 0, 0), (70, .iload_n 3, 3, 0, 0, 0, 0, 0), (71, .ireturn, 0, 0, 0, 0, 0, 0)], [])
-- X10_lost
def k194 : pM := ([(0, .aload_n 0, 0, 0, 0, 0, 0, 0), (1, .iconst (-1), 0, 0, 0, 0, 0, (-1)), (2, .invokevirtual 321, 185, 2, 6, 11, 1, 0), (5, .ireturn, 0, 0, 0, 0, 0, 0)], [])
-- X10_isClash
def k195 : pM := ([(0, .aload_n 0, 0, 0, 0, 0, 0, 0), (1, .getfield 40, 10, 20, 0, 0, 0, 0), (4, .iload_n 1, 1, 0, 0, 0, 0, 0), (5, .iaload, 0, 0, 0, 0, 0, 0), (6, .istore_n 2, 2, 0, 0, 0, 0, 0), (7, .aload_n 0, 0, 0, 0, 0, 0, 0), (8, .getfield 43, 10, 21, 0, 0, 0, 0), (11, .iload_n 1, 1, 0, 0, 0, 0, 0), (12, .iaload, 0, 0, 0, 0, 0, 0), (13, .istore_n 3, 3, 0, 0, 0, 0, 0), (14, .aload_n 0, 0, 0, 0, 0, 0, 0), (15, .getfield 58, 10, 27, 0, 0, 0, 0), (18, .iload_n 2, 2, 0, 0, 0, 0, 0), (19, .iaload, 0, 0, 0, 0, 0, 0), (20, .iconst (-1), 0, 0, 0, 0, 0, (-1)), (21, .if_icmp .eq 36, 57, 0, 0, 0, 0, 0), (24, .aload_n 0, 0, 0, 0, 0, 0, 0), (25, .getfield 58, 10, 27, 0, 0, 0, 0), (28, .iload_n 3, 3, 0, 0, 0, 0, 0), (29, .iaload, 0, 0, 0, 0, 0, 0), (30, .iconst (-1), 0, 0, 0, 0, 0, (-1)), (31, .if_icmp .eq 26, 57, 0, 0, 0, 0, 0), (34, .aload_n 0, 0, 0, 0, 0, 0, 0), (35, .iload_n 2, 2, 0, 0, 0, 0, 0), (36, .iconst (-1), 0, 0, 0, 0, 0, (-1)), (37, .invokevirtual 296, 181, 3, 3, 11, 1, 0), (40, .aload_n 0, 0, 0, 0, 0, 0, 0), (41, .iload_n 3, 3, 0, 0, 0, 0, 0), (42, .iconst (-1), 0, 0, 0, 0, 0, (-1)), (43, .invokevirtual 296, 181, 3, 3, 11, 1, 0), (46, .iand, 0, 0, 0, 0, 0, 0), (47, .aload_n 0, 0, 0, 0, 0, 0, 0), (48, .getfield 46, 10, 22, 0, 0, 0, 0), (51, .iload_n 1, 1, 0, 0, 0, 0, 0), (52, .iaload, 0, 0, 0, 0, 0, 0), (53, .iand, 0, 0, 0, 0, 0, 0), (54, .ifCond .eq 5, 59, 0, 0, 0, 0, 0), (57, .iconst 0, 0, 0, 0, 0, 0, 0), (58, .ireturn, 1, 0, 0, 0, 0, 0), (59, .aload_n 0, 0, 0, 0, 0, 0, 0), (60, .getfield 58, 10, 27, 0, 0, 0, 0), (63, .iload_n 2, 2, 0, 0, 0, 0, 0), (64, .iaload, 0, 0, 0, 0, 0, 0), (65, .iconst 3, 0, 0, 0, 0, 0, 3), (66, .if_icmp .ne 28, 94, 0, 0, 0, 0, 0), (69, .aload_n 0, 0, 0, 0, 0, 0, 0), (70, .getfield 58, 10, 27, 0, 0, 0, 0), (73, .iload_n 3, 3, 0, 0, 0, 0, 0), (74, .iaload, 0, 0, 0, 0, 0, 0), (75, .iconst 3, 0, 0, 0, 0, 0, 3), (76, .if_icmp .ne 18, 94, 0, 0, 0, 0, 0), (79, .aload_n 0, 0, 0, 0, 0, 0, 0), (80, .getfield 34, 10, 18, 0, 0, 0, 0), (83, .iload_n 2, 2, 0, 0, 0, 0, 0), (84, .iaload, 0, 0, 0, 0, 0, 0), (85, .aload_n 0, 0, 0, 0, 0, 0, 0), (86, .getfield 34, 10, 18, 0, 0, 0, 0), (89, .iload_n 3, 3, 0, 0, 0, 0, 0), (90, .iaload, 0, 0, 0, 0, 0, 0), (91, .if_icmp .eq 7, 98, 0, 0, 0, 0, 0), (94, .iconst 1, 0, 0, 0, 0, 0, 1), (95, .goto 4, 99, 0, 0, 0, 0, 0), (98, .iconst 0, 0, 0, 0, 0, 0, 0), (99, .ireturn, 1, 0, 0, 0, 0, 0)], [])
-- X10_clashes
def k196 : pM := ([(0, .iconst 0, 0, 0, 0, 0, 0, 0), (1, .istore_n 1, 1, 0, 0, 0, 0, 0), (2, .iconst 0, 0, 0, 0, 0, 0, 0), (3, .istore_n 2, 2, 0, 0, 0, 0, 0), (4, .iload_n 2, 2, 0, 0, 0, 0, 0), (5, .aload_n 0, 0, 0, 0, 0, 0, 0), (6, .getfield 17, 10, 13, 0, 0, 0, 0), (9, .iconst 3, 0, 0, 0, 0, 0, 3), (10, .iaload, 0, 0, 0, 0, 0, 0), (11, .if_icmp .ge 27, 38, 0, 0, 0, 0, 0), (14, .iload_n 1, 1, 0, 0, 0, 0, 0), (15, .aload_n 0, 0, 0, 0, 0, 0, 0), (16, .iload_n 2, 2, 0, 0, 0, 0, 0), (17, .invokevirtual 324, 195, 2, 4, 11, 1, 0), (20, .ifCond .eq 9, 29, 0, 0, 0, 0, 0), (23, .iconst 1, 0, 0, 0, 0, 0, 1), (24, .iload_n 2, 2, 0, 0, 0, 0, 0), (25, .ishl, 0, 0, 0, 0, 0, 0), (26, .goto 4, 30, 0, 0, 0, 0, 0), (29, .iconst 0, 0, 0, 0, 0, 0, 0), (30, .ior, 0, 0, 0, 0, 0, 0), (31, .istore_n 1, 1, 0, 0, 0, 0, 0), (32, .iinc 2 1, 2, 0, 0, 0, 0, 1), (35, .goto (-31), 4, 0, 0, 0, 0, 0), (38, .iload_n 1, 1, 0, 0, 0, 0, 0), (39, .ireturn, 0, 0, 0, 0, 0, 0)], [(4, [true, true, true])])
-- X10_bound
def k197 : pM := ([(0, .aload_n 0, 0, 0, 0, 0, 0, 0), (1, .iload_n 1, 1, 0, 0, 0, 0, 0), (2, .invokevirtual 284, 174, 2, 3, 11, 1, 0), (5, .ifCond .ne 6, 11, 0, 0, 0, 0, 0), (8, .bipush (-2), 0, 0, 0, 0, 0, (-2)), (10, .ireturn, 0, 0, 0, 0, 0, 0), (11, .iconst 1, 0, 0, 0, 0, 0, 1), (12, .iload_n 1, 1, 0, 0, 0, 0, 0), (13, .ishl, 0, 0, 0, 0, 0, 0), (14, .istore_n 2, 2, 0, 0, 0, 0, 0), (15, .iconst 0, 0, 0, 0, 0, 0, 0), (16, .istore_n 3, 3, 0, 0, 0, 0, 0), (17, .iload_n 3, 3, 0, 0, 0, 0, 0), (18, .iload_n 2, 2, 0, 0, 0, 0, 0), (19, .if_icmp .eq 75, 94, 0, 0, 0, 0, 0), (22, .iload_n 2, 2, 0, 0, 0, 0, 0), (23, .istore_n 3, 3, 0, 0, 0, 0, 0), (24, .iconst 0, 0, 0, 0, 0, 0, 0), (25, .istore 4, 4, 0, 0, 0, 0, 0), (27, .iload 4, 4, 0, 0, 0, 0, 0), (29, .aload_n 0, 0, 0, 0, 0, 0, 0), (30, .getfield 17, 10, 13, 0, 0, 0, 0), (33, .iconst 3, 0, 0, 0, 0, 0, 3), (34, .iaload, 0, 0, 0, 0, 0, 0), (35, .if_icmp .ge 56, 91, 0, 0, 0, 0, 0), (38, .iload_n 2, 2, 0, 0, 0, 0, 0), (39, .aload_n 0, 0, 0, 0, 0, 0, 0), (40, .getfield 40, 10, 20, 0, 0, 0, 0), (43, .iload 4, 4, 0, 0, 0, 0, 0), (45, .iaload, 0, 0, 0, 0, 0, 0), (46, .ishr, 0, 0, 0, 0, 0, 0), (47, .iload_n 2, 2, 0, 0, 0, 0, 0), (48, .aload_n 0, 0, 0, 0, 0, 0, 0), (49, .getfield 43, 10, 21, 0, 0, 0, 0), (52, .iload 4, 4, 0, 0, 0, 0, 0), (54, .iaload, 0, 0, 0, 0, 0, 0), (55, .ishr, 0, 0, 0, 0, 0, 0), (56, .ior, 0, 0, 0, 0, 0, 0), (57, .iconst 1, 0, 0, 0, 0, 0, 1), (58, .iand, 0, 0, 0, 0, 0, 0), (59, .iconst 1, 0, 0, 0, 0, 0, 1), (60, .if_icmp .ne 25, 85, 0, 0, 0, 0, 0), (63, .iload_n 2, 2, 0, 0, 0, 0, 0), (64, .iconst 1, 0, 0, 0, 0, 0, 1), (65, .aload_n 0, 0, 0, 0, 0, 0, 0), (66, .getfield 40, 10, 20, 0, 0, 0, 0), (69, .iload 4, 4, 0, 0, 0, 0, 0), (71, .iaload, 0, 0, 0, 0, 0, 0), (72, .ishl, 0, 0, 0, 0, 0, 0), (73, .iconst 1, 0, 0, 0, 0, 0, 1), (74, .aload_n 0, 0, 0, 0, 0, 0, 0), (75, .getfield 43, 10, 21, 0, 0, 0, 0), (78, .iload 4, 4, 0, 0, 0, 0, 0), (80, .iaload, 0, 0, 0, 0, 0, 0), (81, .ishl, 0, 0, 0, 0, 0, 0), (82, .ior, 0, 0, 0, 0, 0, 0), (83, .ior, 0, 0, 0, 0, 0, 0), (84, .istore_n 2, 2, 0, 0, 0, 0, 0), (85, .iinc 4 1, 4, 0, 0, 0, 0, 1), (88, .goto (-61), 27, 0, 0, 0, 0, 0), (91, .goto (-74), 17, 0, 0, 0, 0, 0), (94, .iload_n 2, 2, 0, 0, 0, 0, 0), (95, .ireturn, 0, 0, 0, 0, 0, 0)], [(17, [true, false, true, true, false]), (27, [true, false, true, true, true])])
-- X10_putBy
def k198 : pM := ([(0, .aload_n 0, 0, 0, 0, 0, 0, 0), (1, .iload_n 1, 1, 0, 0, 0, 0, 0), (2, .iload_n 2, 2, 0, 0, 0, 0, 0), (3, .aload_n 0, 0, 0, 0, 0, 0, 0), (4, .getfield 17, 10, 13, 0, 0, 0, 0), (7, .iconst 1, 0, 0, 0, 0, 0, 1), (8, .iaload, 0, 0, 0, 0, 0, 0), (9, .if_icmp .ne 7, 16, 0, 0, 0, 0, 0), (12, .iconst 3, 0, 0, 0, 0, 0, 3), (13, .goto 4, 17, 0, 0, 0, 0, 0), (16, .iconst 0, 0, 0, 0, 0, 0, 0), (17, .iload_n 2, 2, 0, 0, 0, 0, 0), (18, .iconst (-1), 0, 0, 0, 0, 0, (-1)), (19, .iconst (-1), 0, 0, 0, 0, 0, (-1)), (20, .invokevirtual 311, 186, 6, 2, 11, 0, 0), (23, .return_, 0, 0, 0, 0, 0, 0)], [])
-- X10_isFree
def k199 : pM := ([(0, .iconst 0, 0, 0, 0, 0, 0, 0), (1, .istore_n 2, 2, 0, 0, 0, 0, 0), (2, .iload_n 2, 2, 0, 0, 0, 0, 0), (3, .aload_n 0, 0, 0, 0, 0, 0, 0), (4, .getfield 17, 10, 13, 0, 0, 0, 0), (7, .iconst 3, 0, 0, 0, 0, 0, 3), (8, .iaload, 0, 0, 0, 0, 0, 0), (9, .if_icmp .ge 42, 51, 0, 0, 0, 0, 0), (12, .iload_n 1, 1, 0, 0, 0, 0, 0), (13, .aload_n 0, 0, 0, 0, 0, 0, 0), (14, .getfield 40, 10, 20, 0, 0, 0, 0), (17, .iload_n 2, 2, 0, 0, 0, 0, 0), (18, .iaload, 0, 0, 0, 0, 0, 0), (19, .ishr, 0, 0, 0, 0, 0, 0), (20, .iload_n 1, 1, 0, 0, 0, 0, 0), (21, .aload_n 0, 0, 0, 0, 0, 0, 0), (22, .getfield 43, 10, 21, 0, 0, 0, 0), (25, .iload_n 2, 2, 0, 0, 0, 0, 0), (26, .iaload, 0, 0, 0, 0, 0, 0), (27, .ishr, 0, 0, 0, 0, 0, 0), (28, .ior, 0, 0, 0, 0, 0, 0), (29, .iconst 1, 0, 0, 0, 0, 0, 1), (30, .iand, 0, 0, 0, 0, 0, 0), (31, .iconst 1, 0, 0, 0, 0, 0, 1), (32, .if_icmp .ne 13, 45, 0, 0, 0, 0, 0), (35, .aload_n 0, 0, 0, 0, 0, 0, 0), (36, .iload_n 2, 2, 0, 0, 0, 0, 0), (37, .invokevirtual 324, 195, 2, 4, 11, 1, 0), (40, .ifCond .eq 5, 45, 0, 0, 0, 0, 0), (43, .iconst 0, 0, 0, 0, 0, 0, 0), (44, .ireturn, 1, 0, 0, 0, 0, 0), (45, .iinc 2 1, 2, 0, 0, 0, 0, 1), (48, .goto (-46), 2, 0, 0, 0, 0, 0), (51, .iconst 1, 0, 0, 0, 0, 0, 1), (52, .ireturn, 1, 0, 0, 0, 0, 0)], [(2, [true, true, true])])
-- X10_best
def k200 : pM := ([(0, .iconst 0, 0, 0, 0, 0, 0, 0), (1, .istore_n 2, 2, 0, 0, 0, 0, 0), (2, .iconst 0, 0, 0, 0, 0, 0, 0), (3, .istore_n 3, 3, 0, 0, 0, 0, 0), (4, .iload_n 3, 3, 0, 0, 0, 0, 0), (5, .bipush 32, 0, 0, 0, 0, 0, 32), (7, .if_icmp .ge 46, 53, 0, 0, 0, 0, 0), (10, .iload_n 1, 1, 0, 0, 0, 0, 0), (11, .iload_n 3, 3, 0, 0, 0, 0, 0), (12, .ishr, 0, 0, 0, 0, 0, 0), (13, .iconst 1, 0, 0, 0, 0, 0, 1), (14, .iand, 0, 0, 0, 0, 0, 0), (15, .ifCond .ne 6, 21, 0, 0, 0, 0, 0), (18, .goto 29, 47, 0, 0, 0, 0, 0), (21, .aload_n 0, 0, 0, 0, 0, 0, 0), (22, .iload_n 3, 3, 0, 0, 0, 0, 0), (23, .invokevirtual 284, 174, 2, 3, 11, 1, 0), (26, .ifCond .eq 8, 34, 0, 0, 0, 0, 0), (29, .iload_n 2, 2, 0, 0, 0, 0, 0), (30, .iconst 4, 0, 0, 0, 0, 0, 4), (31, .if_icmp .ne 6, 37, 0, 0, 0, 0, 0), (34, .bipush (-2), 0, 0, 0, 0, 0, (-2)), (36, .ireturn, 0, 0, 0, 0, 0, 0), (37, .aload_n 0, 0, 0, 0, 0, 0, 0), (38, .getfield 73, 10, 32, 0, 0, 0, 0), (41, .iload_n 2, 2, 0, 0, 0, 0, 0), (42, .iload_n 3, 3, 0, 0, 0, 0, 0), (43, .iastore, 0, 0, 0, 0, 0, 0), (44, .iinc 2 1, 2, 0, 0, 0, 0, 1), (47, .iinc 3 1, 3, 0, 0, 0, 0, 1), (50, .goto (-46), 4, 0, 0, 0, 0, 0), (53, .iload_n 2, 2, 0, 0, 0, 0, 0), (54, .ifCond .ne 6, 60, 0, 0, 0, 0, 0), (57, .bipush (-2), 0, 0, 0, 0, 0, (-2)), (59, .ireturn, 0, 0, 0, 0, 0, 0), (60, .iconst 1, 0, 0, 0, 0, 0, 1), (61, .istore_n 3, 3, 0, 0, 0, 0, 0), (62, .iconst 0, 0, 0, 0, 0, 0, 0), (63, .istore 4, 4, 0, 0, 0, 0, 0), (65, .iload 4, 4, 0, 0, 0, 0, 0), (67, .iload_n 2, 2, 0, 0, 0, 0, 0), (68, .if_icmp .ge 85, 153, 0, 0, 0, 0, 0), (71, .aload_n 0, 0, 0, 0, 0, 0, 0), (72, .getfield 73, 10, 32, 0, 0, 0, 0), (75, .iload 4, 4, 0, 0, 0, 0, 0), (77, .iaload, 0, 0, 0, 0, 0, 0), (78, .istore 5, 5, 0, 0, 0, 0, 0), (80, .aload_n 0, 0, 0, 0, 0, 0, 0), (81, .getfield 76, 10, 33, 0, 0, 0, 0), (84, .iload 4, 4, 0, 0, 0, 0, 0), (86, .aload_n 0, 0, 0, 0, 0, 0, 0), (87, .getfield 58, 10, 27, 0, 0, 0, 0), (90, .iload 5, 5, 0, 0, 0, 0, 0), (92, .iaload, 0, 0, 0, 0, 0, 0), (93, .iastore, 0, 0, 0, 0, 0, 0), (94, .aload_n 0, 0, 0, 0, 0, 0, 0), (95, .getfield 79, 10, 34, 0, 0, 0, 0), (98, .iload 4, 4, 0, 0, 0, 0, 0), (100, .aload_n 0, 0, 0, 0, 0, 0, 0), (101, .getfield 61, 10, 28, 0, 0, 0, 0), (104, .iload 5, 5, 0, 0, 0, 0, 0), (106, .iaload, 0, 0, 0, 0, 0, 0), (107, .iastore, 0, 0, 0, 0, 0, 0), (108, .aload_n 0, 0, 0, 0, 0, 0, 0), (109, .getfield 82, 10, 35, 0, 0, 0, 0), (112, .iload 4, 4, 0, 0, 0, 0, 0), (114, .aload_n 0, 0, 0, 0, 0, 0, 0), (115, .getfield 64, 10, 29, 0, 0, 0, 0), (118, .iload 5, 5, 0, 0, 0, 0, 0), (120, .iaload, 0, 0, 0, 0, 0, 0), (121, .iastore, 0, 0, 0, 0, 0, 0), (122, .aload_n 0, 0, 0, 0, 0, 0, 0), (123, .getfield 85, 10, 36, 0, 0, 0, 0), (126, .iload 4, 4, 0, 0, 0, 0, 0), (128, .aload_n 0, 0, 0, 0, 0, 0, 0), (129, .getfield 67, 10, 30, 0, 0, 0, 0), (132, .iload 5, 5, 0, 0, 0, 0, 0), (134, .iaload, 0, 0, 0, 0, 0, 0), (135, .iastore, 0, 0, 0, 0, 0, 0), (136, .iload_n 3, 3, 0, 0, 0, 0, 0), (137, .aload_n 0, 0, 0, 0, 0, 0, 0), (138, .getfield 17, 10, 13, 0, 0, 0, 0), (141, .iconst 1, 0, 0, 0, 0, 0, 1), (142, .iaload, 0, 0, 0, 0, 0, 0), (143, .iconst 1, 0, 0, 0, 0, 0, 1), (144, .iadd, 0, 0, 0, 0, 0, 0), (145, .imul, 0, 0, 0, 0, 0, 0), (146, .istore_n 3, 3, 0, 0, 0, 0, 0), (147, .iinc 4 1, 4, 0, 0, 0, 0, 1), (150, .goto (-85), 65, 0, 0, 0, 0, 0), (153, .iconst (-1), 0, 0, 0, 0, 0, (-1)), (154, .istore 4, 4, 0, 0, 0, 0, 0), (156, .iconst 0, 0, 0, 0, 0, 0, 0), (157, .istore 5, 5, 0, 0, 0, 0, 0), (159, .iconst 0, 0, 0, 0, 0, 0, 0), (160, .istore 6, 6, 0, 0, 0, 0, 0), (162, .iload 6, 6, 0, 0, 0, 0, 0), (164, .iload_n 3, 3, 0, 0, 0, 0, 0), (165, .if_icmp .ge 50, 215, 0, 0, 0, 0, 0), (168, .aload_n 0, 0, 0, 0, 0, 0, 0), (169, .iload 6, 6, 0, 0, 0, 0, 0), (171, .iload_n 2, 2, 0, 0, 0, 0, 0), (172, .invokevirtual 327, 201, 3, 6, 11, 1, 0), (175, .istore 7, 7, 0, 0, 0, 0, 0), (177, .iload 4, 4, 0, 0, 0, 0, 0), (179, .iconst (-1), 0, 0, 0, 0, 0, (-1)), (180, .if_icmp .eq 10, 190, 0, 0, 0, 0, 0), (183, .iload 7, 7, 0, 0, 0, 0, 0), (185, .iload 5, 5, 0, 0, 0, 0, 0), (187, .if_icmp .ge 22, 209, 0, 0, 0, 0, 0), (190, .aload_n 0, 0, 0, 0, 0, 0, 0), (191, .iload_n 1, 1, 0, 0, 0, 0, 0), (192, .invokevirtual 330, 199, 2, 5, 11, 1, 0), (195, .ifCond .ne 6, 201, 0, 0, 0, 0, 0), (198, .goto 11, 209, 0, 0, 0, 0, 0), (201, .iload 6, 6, 0, 0, 0, 0, 0), (203, .istore 4, 4, 0, 0, 0, 0, 0), (205, .iload 7, 7, 0, 0, 0, 0, 0), (207, .istore 5, 5, 0, 0, 0, 0, 0), (209, .iinc 6 1, 6, 0, 0, 0, 0, 1), (212, .goto (-50), 162, 0, 0, 0, 0, 0), (215, .iload 4, 4, 0, 0, 0, 0, 0), (217, .iconst (-1), 0, 0, 0, 0, 0, (-1)), (218, .if_icmp .eq 17, 235, 0, 0, 0, 0, 0), (221, .aload_n 0, 0, 0, 0, 0, 0, 0), (222, .iload 4, 4, 0, 0, 0, 0, 0), (224, .iload_n 2, 2, 0, 0, 0, 0, 0), (225, .invokevirtual 327, 201, 3, 6, 11, 1, 0), (228, .pop, 0, 0, 0, 0, 0, 0), (229, .aload_n 0, 0, 0, 0, 0, 0, 0), (230, .iconst (-1), 0, 0, 0, 0, 0, (-1)), (231, .invokevirtual 321, 185, 2, 6, 11, 1, 0), (234, .ireturn, 0, 0, 0, 0, 0, 0), (235, .iconst 0, 0, 0, 0, 0, 0, 0), (236, .istore 6, 6, 0, 0, 0, 0, 0), (238, .iload 6, 6, 0, 0, 0, 0, 0), (240, .iload_n 2, 2, 0, 0, 0, 0, 0), (241, .if_icmp .ge 74, 315, 0, 0, 0, 0, 0), (244, .aload_n 0, 0, 0, 0, 0, 0, 0), (245, .getfield 73, 10, 32, 0, 0, 0, 0), (248, .iload 6, 6, 0, 0, 0, 0, 0), (250, .iaload, 0, 0, 0, 0, 0, 0), (251, .istore 7, 7, 0, 0, 0, 0, 0), (253, .aload_n 0, 0, 0, 0, 0, 0, 0), (254, .getfield 58, 10, 27, 0, 0, 0, 0), (257, .iload 7, 7, 0, 0, 0, 0, 0), (259, .aload_n 0, 0, 0, 0, 0, 0, 0), (260, .getfield 76, 10, 33, 0, 0, 0, 0), (263, .iload 6, 6, 0, 0, 0, 0, 0), (265, .iaload, 0, 0, 0, 0, 0, 0), (266, .iastore, 0, 0, 0, 0, 0, 0), (267, .aload_n 0, 0, 0, 0, 0, 0, 0), (268, .getfield 61, 10, 28, 0, 0, 0, 0), (271, .iload 7, 7, 0, 0, 0, 0, 0), (273, .aload_n 0, 0, 0, 0, 0, 0, 0), (274, .getfield 79, 10, 34, 0, 0, 0, 0), (277, .iload 6, 6, 0, 0, 0, 0, 0), (279, .iaload, 0, 0, 0, 0, 0, 0), (280, .iastore, 0, 0, 0, 0, 0, 0), (281, .aload_n 0, 0, 0, 0, 0, 0, 0), (282, .getfield 64, 10, 29, 0, 0, 0, 0), (285, .iload 7, 7, 0, 0, 0, 0, 0), (287, .aload_n 0, 0, 0, 0, 0, 0, 0), (288, .getfield 82, 10, 35, 0, 0, 0, 0), (291, .iload 6, 6, 0, 0, 0, 0, 0), (293, .iaload, 0, 0, 0, 0, 0, 0), (294, .iastore, 0, 0, 0, 0, 0, 0), (295, .aload_n 0, 0, 0, 0, 0, 0, 0), (296, .getfield 67, 10, 30, 0, 0, 0, 0), (299, .iload 7, 7, 0, 0, 0, 0, 0), (301, .aload_n 0, 0, 0, 0, 0, 0, 0), (302, .getfield 85, 10, 36, 0, 0, 0, 0), (305, .iload 6, 6, 0, 0, 0, 0, 0), (307, .iaload, 0, 0, 0, 0, 0, 0), (308, .iastore, 0, 0, 0, 0, 0, 0), (309, .iinc 6 1, 6, 0, 0, 0, 0, 1), (312, .goto (-74), 238, 0, 0, 0, 0, 0), (315, .iconst (-1), 0, 0, 0, 0, 0, (-1)), (316, .ireturn, 0, 0, 0, 0, 0, 0)], [(4, [true, true, true, true, false, false, false, false]), (65, [true, true, true, true, true, false, false, false]), (162, [true, true, true, true, true, true, true, false]), (238, [true, false, true, false, false, false, true, false])])
-- X10_layRow
def k201 : pM := ([(0, .iload_n 1, 1, 0, 0, 0, 0, 0), (1, .istore_n 3, 3, 0, 0, 0, 0, 0), (2, .iconst 0, 0, 0, 0, 0, 0, 0), (3, .istore 4, 4, 0, 0, 0, 0, 0), (5, .iload_n 2, 2, 0, 0, 0, 0, 0), (6, .iconst 1, 0, 0, 0, 0, 0, 1), (7, .isub, 0, 0, 0, 0, 0, 0), (8, .istore 5, 5, 0, 0, 0, 0, 0), (10, .iload 5, 5, 0, 0, 0, 0, 0), (12, .ifCond .lt 58, 70, 0, 0, 0, 0, 0), (15, .aload_n 0, 0, 0, 0, 0, 0, 0), (16, .aload_n 0, 0, 0, 0, 0, 0, 0), (17, .getfield 73, 10, 32, 0, 0, 0, 0), (20, .iload 5, 5, 0, 0, 0, 0, 0), (22, .iaload, 0, 0, 0, 0, 0, 0), (23, .iload_n 3, 3, 0, 0, 0, 0, 0), (24, .aload_n 0, 0, 0, 0, 0, 0, 0), (25, .getfield 17, 10, 13, 0, 0, 0, 0), (28, .iconst 1, 0, 0, 0, 0, 0, 1), (29, .iaload, 0, 0, 0, 0, 0, 0), (30, .iconst 1, 0, 0, 0, 0, 0, 1), (31, .iadd, 0, 0, 0, 0, 0, 0), (32, .irem, 0, 0, 0, 0, 0, 0), (33, .invokevirtual 333, 198, 3, 3, 11, 0, 0), (36, .iload_n 3, 3, 0, 0, 0, 0, 0), (37, .aload_n 0, 0, 0, 0, 0, 0, 0), (38, .getfield 17, 10, 13, 0, 0, 0, 0), (41, .iconst 1, 0, 0, 0, 0, 0, 1), (42, .iaload, 0, 0, 0, 0, 0, 0), (43, .iconst 1, 0, 0, 0, 0, 0, 1), (44, .iadd, 0, 0, 0, 0, 0, 0), (45, .idiv, 0, 0, 0, 0, 0, 0), (46, .istore_n 3, 3, 0, 0, 0, 0, 0), (47, .iload 4, 4, 0, 0, 0, 0, 0), (49, .aload_n 0, 0, 0, 0, 0, 0, 0), (50, .aload_n 0, 0, 0, 0, 0, 0, 0), (51, .getfield 73, 10, 32, 0, 0, 0, 0), (54, .iload 5, 5, 0, 0, 0, 0, 0), (56, .iaload, 0, 0, 0, 0, 0, 0), (57, .iconst (-1), 0, 0, 0, 0, 0, (-1)), (58, .invokevirtual 308, 184, 3, 5, 11, 1, 0), (61, .iadd, 0, 0, 0, 0, 0, 0), (62, .istore 4, 4, 0, 0, 0, 0, 0), (64, .iinc 5 (-1), 5, 0, 0, 0, 0, (-1)), (67, .goto (-57), 10, 0, 0, 0, 0, 0), (70, .iload 4, 4, 0, 0, 0, 0, 0), (72, .ireturn, 0, 0, 0, 0, 0, 0)], [(10, [true, false, false, true, true, true])])
-- X10_costs
def k202 : pM := ([(0, .aload_n 0, 0, 0, 0, 0, 0, 0), (1, .iconst (-1), 0, 0, 0, 0, 0, (-1)), (2, .invokevirtual 321, 185, 2, 6, 11, 1, 0), (5, .bipush 100, 0, 0, 0, 0, 0, 100), (7, .aload_n 0, 0, 0, 0, 0, 0, 0), (8, .invokevirtual 337, 196, 1, 5, 11, 1, 0), (11, .invokestatic 315, 191, 1, 2, 0, 1, 0), (14, .imul, 0, 0, 0, 0, 0, 0), (15, .iadd, 0, 0, 0, 0, 0, 0), (16, .ireturn, 0, 0, 0, 0, 0, 0)], [])
-- X10_exchange
def k203 : pM := ([(0, .iconst 1, 0, 0, 0, 0, 0, 1), (1, .istore_n 1, 1, 0, 0, 0, 0, 0), (2, .iconst 0, 0, 0, 0, 0, 0, 0), (3, .istore_n 2, 2, 0, 0, 0, 0, 0), (4, .iload_n 2, 2, 0, 0, 0, 0, 0), (5, .bipush 10, 0, 0, 0, 0, 0, 10), (7, .if_icmp .ge 188, 195, 0, 0, 0, 0, 0), (10, .iload_n 1, 1, 0, 0, 0, 0, 0), (11, .ifCond .eq 184, 195, 0, 0, 0, 0, 0), (14, .iconst 0, 0, 0, 0, 0, 0, 0), (15, .istore_n 1, 1, 0, 0, 0, 0, 0), (16, .iconst 0, 0, 0, 0, 0, 0, 0), (17, .istore_n 3, 3, 0, 0, 0, 0, 0), (18, .iload_n 3, 3, 0, 0, 0, 0, 0), (19, .aload_n 0, 0, 0, 0, 0, 0, 0), (20, .getfield 17, 10, 13, 0, 0, 0, 0), (23, .iconst 2, 0, 0, 0, 0, 0, 2), (24, .iaload, 0, 0, 0, 0, 0, 0), (25, .if_icmp .ge 164, 189, 0, 0, 0, 0, 0), (28, .aload_n 0, 0, 0, 0, 0, 0, 0), (29, .getfield 58, 10, 27, 0, 0, 0, 0), (32, .iload_n 3, 3, 0, 0, 0, 0, 0), (33, .iaload, 0, 0, 0, 0, 0, 0), (34, .iconst (-1), 0, 0, 0, 0, 0, (-1)), (35, .if_icmp .ne 6, 41, 0, 0, 0, 0, 0), (38, .goto 145, 183, 0, 0, 0, 0, 0), (41, .aload_n 0, 0, 0, 0, 0, 0, 0), (42, .invokevirtual 340, 202, 1, 7, 11, 1, 0), (45, .istore 4, 4, 0, 0, 0, 0, 0), (47, .aload_n 0, 0, 0, 0, 0, 0, 0), (48, .getfield 58, 10, 27, 0, 0, 0, 0), (51, .iload_n 3, 3, 0, 0, 0, 0, 0), (52, .iaload, 0, 0, 0, 0, 0, 0), (53, .istore 5, 5, 0, 0, 0, 0, 0), (55, .aload_n 0, 0, 0, 0, 0, 0, 0), (56, .getfield 61, 10, 28, 0, 0, 0, 0), (59, .iload_n 3, 3, 0, 0, 0, 0, 0), (60, .iaload, 0, 0, 0, 0, 0, 0), (61, .istore 6, 6, 0, 0, 0, 0, 0), (63, .aload_n 0, 0, 0, 0, 0, 0, 0), (64, .getfield 64, 10, 29, 0, 0, 0, 0), (67, .iload_n 3, 3, 0, 0, 0, 0, 0), (68, .iaload, 0, 0, 0, 0, 0, 0), (69, .istore 7, 7, 0, 0, 0, 0, 0), (71, .aload_n 0, 0, 0, 0, 0, 0, 0), (72, .getfield 67, 10, 30, 0, 0, 0, 0), (75, .iload_n 3, 3, 0, 0, 0, 0, 0), (76, .iaload, 0, 0, 0, 0, 0, 0), (77, .istore 8, 8, 0, 0, 0, 0, 0), (79, .iconst (-1), 0, 0, 0, 0, 0, (-1)), (80, .istore 9, 9, 0, 0, 0, 0, 0), (82, .iconst 0, 0, 0, 0, 0, 0, 0), (83, .istore 10, 10, 0, 0, 0, 0, 0), (85, .iload 10, 10, 0, 0, 0, 0, 0), (87, .aload_n 0, 0, 0, 0, 0, 0, 0), (88, .getfield 17, 10, 13, 0, 0, 0, 0), (91, .iconst 1, 0, 0, 0, 0, 0, 1), (92, .iaload, 0, 0, 0, 0, 0, 0), (93, .if_icmp .gt 40, 133, 0, 0, 0, 0, 0), (96, .aload_n 0, 0, 0, 0, 0, 0, 0), (97, .iload_n 3, 3, 0, 0, 0, 0, 0), (98, .iload 10, 10, 0, 0, 0, 0, 0), (100, .invokevirtual 333, 198, 3, 3, 11, 0, 0), (103, .aload_n 0, 0, 0, 0, 0, 0, 0), (104, .invokevirtual 340, 202, 1, 7, 11, 1, 0), (107, .istore 11, 11, 0, 0, 0, 0, 0), (109, .iload 11, 11, 0, 0, 0, 0, 0), (111, .iload 4, 4, 0, 0, 0, 0, 0), (113, .if_icmp .lt 6, 119, 0, 0, 0, 0, 0), (116, .goto 11, 127, 0, 0, 0, 0, 0), (119, .iload 11, 11, 0, 0, 0, 0, 0), (121, .istore 4, 4, 0, 0, 0, 0, 0), (123, .iload 10, 10, 0, 0, 0, 0, 0), (125, .istore 9, 9, 0, 0, 0, 0, 0), (127, .iinc 10 1, 10, 0, 0, 0, 0, 1), (130, .goto (-45), 85, 0, 0, 0, 0, 0), (133, .iload 9, 9, 0, 0, 0, 0, 0), (135, .iconst (-1), 0, 0, 0, 0, 0, (-1)), (136, .if_icmp .ne 38, 174, 0, 0, 0, 0, 0), (139, .aload_n 0, 0, 0, 0, 0, 0, 0), (140, .getfield 58, 10, 27, 0, 0, 0, 0), (143, .iload_n 3, 3, 0, 0, 0, 0, 0), (144, .iload 5, 5, 0, 0, 0, 0, 0), (146, .iastore, 0, 0, 0, 0, 0, 0), (147, .aload_n 0, 0, 0, 0, 0, 0, 0), (148, .getfield 61, 10, 28, 0, 0, 0, 0), (151, .iload_n 3, 3, 0, 0, 0, 0, 0), (152, .iload 6, 6, 0, 0, 0, 0, 0), (154, .iastore, 0, 0, 0, 0, 0, 0), (155, .aload_n 0, 0, 0, 0, 0, 0, 0), (156, .getfield 64, 10, 29, 0, 0, 0, 0), (159, .iload_n 3, 3, 0, 0, 0, 0, 0), (160, .iload 7, 7, 0, 0, 0, 0, 0), (162, .iastore, 0, 0, 0, 0, 0, 0), (163, .aload_n 0, 0, 0, 0, 0, 0, 0), (164, .getfield 67, 10, 30, 0, 0, 0, 0), (167, .iload_n 3, 3, 0, 0, 0, 0, 0), (168, .iload 8, 8, 0, 0, 0, 0, 0), (170, .iastore, 0, 0, 0, 0, 0, 0), (171, .goto 12, 183, 0, 0, 0, 0, 0), (174, .aload_n 0, 0, 0, 0, 0, 0, 0), (175, .iload_n 3, 3, 0, 0, 0, 0, 0), (176, .iload 9, 9, 0, 0, 0, 0, 0), (178, .invokevirtual 333, 198, 3, 3, 11, 0, 0), (181, .iconst 1, 0, 0, 0, 0, 0, 1), (182, .istore_n 1, 1, 0, 0, 0, 0, 0), (183, .iinc 3 1, 3, 0, 0, 0, 0, 1), (186, .goto (-168), 18, 0, 0, 0, 0, 0), (189, .iinc 2 1, 2, 0, 0, 0, 0, 1), (192, .goto (-188), 4, 0, 0, 0, 0, 0), (195, .aload_n 0, 0, 0, 0, 0, 0, 0), (196, .iconst (-1), 0, 0, 0, 0, 0, (-1)), (197, .invokevirtual 321, 185, 2, 6, 11, 1, 0), (200, .ireturn, 0, 0, 0, 0, 0, 0)], [(4, [true, true, true, false, false, false, false, false, false, false, false, false]), (18, [true, true, true, true, false, false, false, false, false, false, false, false]), (85, [true, true, true, true, true, true, true, true, true, true, true, false])])
-- X10_plainAt
def k204 : pM := ([(0, .aload_n 0, 0, 0, 0, 0, 0, 0), (1, .getfield 17, 10, 13, 0, 0, 0, 0), (4, .iconst 5, 0, 0, 0, 0, 0, 5), (5, .iaload, 0, 0, 0, 0, 0, 0), (6, .aload_n 0, 0, 0, 0, 0, 0, 0), (7, .aload_n 0, 0, 0, 0, 0, 0, 0), (8, .getfield 37, 10, 19, 0, 0, 0, 0), (11, .iload_n 1, 1, 0, 0, 0, 0, 0), (12, .iaload, 0, 0, 0, 0, 0, 0), (13, .aload_n 0, 0, 0, 0, 0, 0, 0), (14, .getfield 31, 10, 17, 0, 0, 0, 0), (17, .iload_n 2, 2, 0, 0, 0, 0, 0), (18, .iaload, 0, 0, 0, 0, 0, 0), (19, .iconst (-1), 0, 0, 0, 0, 0, (-1)), (20, .ixor, 0, 0, 0, 0, 0, 0), (21, .iand, 0, 0, 0, 0, 0, 0), (22, .aload_n 0, 0, 0, 0, 0, 0, 0), (23, .getfield 70, 10, 31, 0, 0, 0, 0), (26, .iload_n 1, 1, 0, 0, 0, 0, 0), (27, .iaload, 0, 0, 0, 0, 0, 0), (28, .iconst (-1), 0, 0, 0, 0, 0, (-1)), (29, .ixor, 0, 0, 0, 0, 0, 0), (30, .iand, 0, 0, 0, 0, 0, 0), (31, .invokevirtual 302, 179, 2, 2, 11, 1, 0), (34, .imul, 0, 0, 0, 0, 0, 0), (35, .aload_n 0, 0, 0, 0, 0, 0, 0), (36, .getfield 17, 10, 13, 0, 0, 0, 0), (39, .bipush 6, 0, 0, 0, 0, 0, 6), (41, .iaload, 0, 0, 0, 0, 0, 0), (42, .aload_n 0, 0, 0, 0, 0, 0, 0), (43, .aload_n 0, 0, 0, 0, 0, 0, 0), (44, .getfield 31, 10, 17, 0, 0, 0, 0), (47, .iload_n 2, 2, 0, 0, 0, 0, 0), (48, .iaload, 0, 0, 0, 0, 0, 0), (49, .aload_n 0, 0, 0, 0, 0, 0, 0), (50, .getfield 28, 10, 16, 0, 0, 0, 0), (53, .aload_n 0, 0, 0, 0, 0, 0, 0), (54, .getfield 34, 10, 18, 0, 0, 0, 0), (57, .iload_n 1, 1, 0, 0, 0, 0, 0), (58, .iaload, 0, 0, 0, 0, 0, 0), (59, .iaload, 0, 0, 0, 0, 0, 0), (60, .iconst (-1), 0, 0, 0, 0, 0, (-1)), (61, .ixor, 0, 0, 0, 0, 0, 0), (62, .iand, 0, 0, 0, 0, 0, 0), (63, .invokevirtual 302, 179, 2, 2, 11, 1, 0), (66, .imul, 0, 0, 0, 0, 0, 0), (67, .iadd, 0, 0, 0, 0, 0, 0), (68, .ireturn, 0, 0, 0, 0, 0, 0)], [])
-- X10_plainSum
def k205 : pM := ([(0, .iconst 0, 0, 0, 0, 0, 0, 0), (1, .istore_n 3, 3, 0, 0, 0, 0, 0), (2, .iconst 0, 0, 0, 0, 0, 0, 0), (3, .istore 4, 4, 0, 0, 0, 0, 0), (5, .iload 4, 4, 0, 0, 0, 0, 0), (7, .aload_n 0, 0, 0, 0, 0, 0, 0), (8, .getfield 17, 10, 13, 0, 0, 0, 0), (11, .iconst 2, 0, 0, 0, 0, 0, 2), (12, .iaload, 0, 0, 0, 0, 0, 0), (13, .if_icmp .ge 34, 47, 0, 0, 0, 0, 0), (16, .iload_n 3, 3, 0, 0, 0, 0, 0), (17, .aload_n 0, 0, 0, 0, 0, 0, 0), (18, .getfield 34, 10, 18, 0, 0, 0, 0), (21, .iload 4, 4, 0, 0, 0, 0, 0), (23, .iaload, 0, 0, 0, 0, 0, 0), (24, .iload_n 1, 1, 0, 0, 0, 0, 0), (25, .if_icmp .ne 13, 38, 0, 0, 0, 0, 0), (28, .aload_n 0, 0, 0, 0, 0, 0, 0), (29, .iload 4, 4, 0, 0, 0, 0, 0), (31, .iload_n 2, 2, 0, 0, 0, 0, 0), (32, .invokevirtual 343, 204, 3, 3, 11, 1, 0), (35, .goto 4, 39, 0, 0, 0, 0, 0), (38, .iconst 0, 0, 0, 0, 0, 0, 0), (39, .iadd, 0, 0, 0, 0, 0, 0), (40, .istore_n 3, 3, 0, 0, 0, 0, 0), (41, .iinc 4 1, 4, 0, 0, 0, 0, 1), (44, .goto (-39), 5, 0, 0, 0, 0, 0), (47, .iload_n 3, 3, 0, 0, 0, 0, 0), (48, .ireturn, 0, 0, 0, 0, 0, 0)], [(5, [true, true, true, true, true])])
-- X10_oneOf
def k206 : pM := ([(0, .iconst (-1), 0, 0, 0, 0, 0, (-1)), (1, .istore_n 2, 2, 0, 0, 0, 0, 0), (2, .iconst 0, 0, 0, 0, 0, 0, 0), (3, .istore_n 3, 3, 0, 0, 0, 0, 0), (4, .iload_n 3, 3, 0, 0, 0, 0, 0), (5, .aload_n 0, 0, 0, 0, 0, 0, 0), (6, .getfield 17, 10, 13, 0, 0, 0, 0), (9, .iconst 1, 0, 0, 0, 0, 0, 1), (10, .iaload, 0, 0, 0, 0, 0, 0), (11, .if_icmp .ge 31, 42, 0, 0, 0, 0, 0), (14, .iload_n 2, 2, 0, 0, 0, 0, 0), (15, .iconst (-1), 0, 0, 0, 0, 0, (-1)), (16, .if_icmp .eq 18, 34, 0, 0, 0, 0, 0), (19, .aload_n 0, 0, 0, 0, 0, 0, 0), (20, .iload_n 1, 1, 0, 0, 0, 0, 0), (21, .iload_n 3, 3, 0, 0, 0, 0, 0), (22, .invokevirtual 346, 205, 3, 4, 11, 1, 0), (25, .aload_n 0, 0, 0, 0, 0, 0, 0), (26, .iload_n 1, 1, 0, 0, 0, 0, 0), (27, .iload_n 2, 2, 0, 0, 0, 0, 0), (28, .invokevirtual 346, 205, 3, 4, 11, 1, 0), (31, .if_icmp .ge 5, 36, 0, 0, 0, 0, 0), (34, .iload_n 3, 3, 0, 0, 0, 0, 0), (35, .istore_n 2, 2, 0, 0, 0, 0, 0), (36, .iinc 3 1, 3, 0, 0, 0, 0, 1), (39, .goto (-35), 4, 0, 0, 0, 0, 0), (42, .iload_n 2, 2, 0, 0, 0, 0, 0), (43, .ireturn, 0, 0, 0, 0, 0, 0)], [(4, [true, true, true, true])])
-- X10_one
def k207 : pM := ([(0, .aload_n 0, 0, 0, 0, 0, 0, 0), (1, .iload_n 1, 1, 0, 0, 0, 0, 0), (2, .invokevirtual 278, 172, 2, 3, 11, 1, 0), (5, .ifCond .eq 11, 16, 0, 0, 0, 0, 0), (8, .aload_n 0, 0, 0, 0, 0, 0, 0), (9, .iload_n 1, 1, 0, 0, 0, 0, 0), (10, .invokevirtual 349, 206, 2, 5, 11, 1, 0), (13, .goto 5, 18, 0, 0, 0, 0, 0), (16, .bipush (-2), 0, 0, 0, 0, 0, (-2)), (18, .ireturn, 0, 0, 0, 0, 0, 0)], [])
-- X10_price
def k208 : pM := ([(0, .aload_n 0, 0, 0, 0, 0, 0, 0), (1, .iload_n 1, 1, 0, 0, 0, 0, 0), (2, .invokevirtual 278, 172, 2, 3, 11, 1, 0), (5, .ifCond .ne 6, 11, 0, 0, 0, 0, 0), (8, .bipush (-2), 0, 0, 0, 0, 0, (-2)), (10, .ireturn, 0, 0, 0, 0, 0, 0), (11, .aload_n 0, 0, 0, 0, 0, 0, 0), (12, .iload_n 1, 1, 0, 0, 0, 0, 0), (13, .invokevirtual 349, 206, 2, 5, 11, 1, 0), (16, .istore_n 2, 2, 0, 0, 0, 0, 0), (17, .iload_n 2, 2, 0, 0, 0, 0, 0), (18, .iconst (-1), 0, 0, 0, 0, 0, (-1)), (19, .if_icmp .ne 5, 24, 0, 0, 0, 0, 0), (22, .iconst (-1), 0, 0, 0, 0, 0, (-1)), (23, .ireturn, 0, 0, 0, 0, 0, 0), (24, .aload_n 0, 0, 0, 0, 0, 0, 0), (25, .iload_n 1, 1, 0, 0, 0, 0, 0), (26, .iload_n 2, 2, 0, 0, 0, 0, 0), (27, .invokevirtual 346, 205, 3, 4, 11, 1, 0), (30, .istore_n 3, 3, 0, 0, 0, 0, 0), (31, .iconst 0, 0, 0, 0, 0, 0, 0), (32, .istore 4, 4, 0, 0, 0, 0, 0), (34, .iload 4, 4, 0, 0, 0, 0, 0), (36, .aload_n 0, 0, 0, 0, 0, 0, 0), (37, .getfield 17, 10, 13, 0, 0, 0, 0), (40, .iconst 2, 0, 0, 0, 0, 0, 2), (41, .iaload, 0, 0, 0, 0, 0, 0), (42, .if_icmp .ge 85, 127, 0, 0, 0, 0, 0), (45, .aload_n 0, 0, 0, 0, 0, 0, 0), (46, .getfield 34, 10, 18, 0, 0, 0, 0), (49, .iload 4, 4, 0, 0, 0, 0, 0), (51, .iaload, 0, 0, 0, 0, 0, 0), (52, .iload_n 1, 1, 0, 0, 0, 0, 0), (53, .if_icmp .eq 6, 59, 0, 0, 0, 0, 0), (56, .goto 65, 121, 0, 0, 0, 0, 0), (59, .aload_n 0, 0, 0, 0, 0, 0, 0), (60, .iload 4, 4, 0, 0, 0, 0, 0), (62, .iconst 0, 0, 0, 0, 0, 0, 0), (63, .invokevirtual 343, 204, 3, 3, 11, 1, 0), (66, .istore 5, 5, 0, 0, 0, 0, 0), (68, .iconst 1, 0, 0, 0, 0, 0, 1), (69, .istore 6, 6, 0, 0, 0, 0, 0), (71, .iload 6, 6, 0, 0, 0, 0, 0), (73, .aload_n 0, 0, 0, 0, 0, 0, 0), (74, .getfield 17, 10, 13, 0, 0, 0, 0), (77, .iconst 1, 0, 0, 0, 0, 0, 1), (78, .iaload, 0, 0, 0, 0, 0, 0), (79, .if_icmp .ge 37, 116, 0, 0, 0, 0, 0), (82, .aload_n 0, 0, 0, 0, 0, 0, 0), (83, .iload 4, 4, 0, 0, 0, 0, 0), (85, .iload 6, 6, 0, 0, 0, 0, 0), (87, .invokevirtual 343, 204, 3, 3, 11, 1, 0), (90, .iload 5, 5, 0, 0, 0, 0, 0), (92, .if_icmp .ge 14, 106, 0, 0, 0, 0, 0), (95, .aload_n 0, 0, 0, 0, 0, 0, 0), (96, .iload 4, 4, 0, 0, 0, 0, 0), (98, .iload 6, 6, 0, 0, 0, 0, 0), (100, .invokevirtual 343, 204, 3, 3, 11, 1, 0), (103, .goto 5, 108, 0, 0, 0, 0, 0), (106, .iload 5, 5, 0, 0, 0, 0, 0), (108, .istore 5, 5, 0, 0, 0, 0, 0), (110, .iinc 6 1, 6, 0, 0, 0, 0, 1), (113, .goto (-42), 71, 0, 0, 0, 0, 0), (116, .iload_n 3, 3, 0, 0, 0, 0, 0), (117, .iload 5, 5, 0, 0, 0, 0, 0), (119, .isub, 0, 0, 0, 0, 0, 0), (120, .istore_n 3, 3, 0, 0, 0, 0, 0), (121, .iinc 4 1, 4, 0, 0, 0, 0, 1), (124, .goto (-90), 34, 0, 0, 0, 0, 0), (127, .iload_n 3, 3, 0, 0, 0, 0, 0), (128, .ireturn, 0, 0, 0, 0, 0, 0)], [(34, [true, true, false, true, true, false, false]), (71, [true, true, false, true, true, true, true])])
-- X10_swap
def k209 : pM := ([(0, .aload_n 0, 0, 0, 0, 0, 0, 0), (1, .iload_n 1, 1, 0, 0, 0, 0, 0), (2, .invokevirtual 278, 172, 2, 3, 11, 1, 0), (5, .ifCond .ne 6, 11, 0, 0, 0, 0, 0), (8, .bipush (-2), 0, 0, 0, 0, 0, (-2)), (10, .ireturn, 0, 0, 0, 0, 0, 0), (11, .iconst 0, 0, 0, 0, 0, 0, 0), (12, .istore_n 2, 2, 0, 0, 0, 0, 0), (13, .iconst 0, 0, 0, 0, 0, 0, 0), (14, .istore_n 3, 3, 0, 0, 0, 0, 0), (15, .iload_n 3, 3, 0, 0, 0, 0, 0), (16, .aload_n 0, 0, 0, 0, 0, 0, 0), (17, .getfield 17, 10, 13, 0, 0, 0, 0), (20, .iconst 2, 0, 0, 0, 0, 0, 2), (21, .iaload, 0, 0, 0, 0, 0, 0), (22, .if_icmp .ge 32, 54, 0, 0, 0, 0, 0), (25, .iload_n 2, 2, 0, 0, 0, 0, 0), (26, .aload_n 0, 0, 0, 0, 0, 0, 0), (27, .getfield 34, 10, 18, 0, 0, 0, 0), (30, .iload_n 3, 3, 0, 0, 0, 0, 0), (31, .iaload, 0, 0, 0, 0, 0, 0), (32, .iload_n 1, 1, 0, 0, 0, 0, 0), (33, .if_icmp .ne 12, 45, 0, 0, 0, 0, 0), (36, .aload_n 0, 0, 0, 0, 0, 0, 0), (37, .getfield 37, 10, 19, 0, 0, 0, 0), (40, .iload_n 3, 3, 0, 0, 0, 0, 0), (41, .iaload, 0, 0, 0, 0, 0, 0), (42, .goto 4, 46, 0, 0, 0, 0, 0), (45, .iconst 0, 0, 0, 0, 0, 0, 0), (46, .ior, 0, 0, 0, 0, 0, 0), (47, .istore_n 2, 2, 0, 0, 0, 0, 0), (48, .iinc 3 1, 3, 0, 0, 0, 0, 1), (51, .goto (-36), 15, 0, 0, 0, 0, 0), (54, .iconst 0, 0, 0, 0, 0, 0, 0), (55, .istore_n 3, 3, 0, 0, 0, 0, 0), (56, .iload_n 3, 3, 0, 0, 0, 0, 0), (57, .aload_n 0, 0, 0, 0, 0, 0, 0), (58, .getfield 17, 10, 13, 0, 0, 0, 0), (61, .iconst 1, 0, 0, 0, 0, 0, 1), (62, .iaload, 0, 0, 0, 0, 0, 0), (63, .if_icmp .ge 24, 87, 0, 0, 0, 0, 0), (66, .iload_n 2, 2, 0, 0, 0, 0, 0), (67, .aload_n 0, 0, 0, 0, 0, 0, 0), (68, .getfield 31, 10, 17, 0, 0, 0, 0), (71, .iload_n 3, 3, 0, 0, 0, 0, 0), (72, .iaload, 0, 0, 0, 0, 0, 0), (73, .iconst (-1), 0, 0, 0, 0, 0, (-1)), (74, .ixor, 0, 0, 0, 0, 0, 0), (75, .iand, 0, 0, 0, 0, 0, 0), (76, .ifCond .ne 5, 81, 0, 0, 0, 0, 0), (79, .iload_n 3, 3, 0, 0, 0, 0, 0), (80, .ireturn, 0, 0, 0, 0, 0, 0), (81, .iinc 3 1, 3, 0, 0, 0, 0, 1), (84, .goto (-28), 56, 0, 0, 0, 0, 0), (87, .iconst (-1), 0, 0, 0, 0, 0, (-1)), (88, .ireturn, 0, 0, 0, 0, 0, 0)], [(15, [true, true, true, true]), (56, [true, false, true, true])])
-- X10_mend
def k210 : pM := ([(0, .iload_n 1, 1, 0, 0, 0, 0, 0), (1, .iconst 0, 0, 0, 0, 0, 0, 0), (2, .bipush 99, 0, 0, 0, 0, 0, 99), (4, .invokestatic 214, 146, 3, 2, 0, 1, 0), (7, .ifCond .ne 6, 13, 0, 0, 0, 0, 0), (10, .bipush (-2), 0, 0, 0, 0, 0, (-2)), (12, .ireturn, 0, 0, 0, 0, 0, 0), (13, .iconst 0, 0, 0, 0, 0, 0, 0), (14, .istore_n 2, 2, 0, 0, 0, 0, 0), (15, .iload_n 2, 2, 0, 0, 0, 0, 0), (16, .iload_n 1, 1, 0, 0, 0, 0, 0), (17, .if_icmp .ge 153, 170, 0, 0, 0, 0, 0), (20, .aload_n 0, 0, 0, 0, 0, 0, 0), (21, .invokevirtual 318, 192, 1, 3, 11, 1, 0), (24, .aload_n 0, 0, 0, 0, 0, 0, 0), (25, .getfield 17, 10, 13, 0, 0, 0, 0), (28, .bipush 9, 0, 0, 0, 0, 0, 9), (30, .iaload, 0, 0, 0, 0, 0, 0), (31, .if_icmp .ge 139, 170, 0, 0, 0, 0, 0), (34, .iconst (-1), 0, 0, 0, 0, 0, (-1)), (35, .istore_n 3, 3, 0, 0, 0, 0, 0), (36, .iconst 0, 0, 0, 0, 0, 0, 0), (37, .istore 4, 4, 0, 0, 0, 0, 0), (39, .iconst 0, 0, 0, 0, 0, 0, 0), (40, .istore 5, 5, 0, 0, 0, 0, 0), (42, .iload 5, 5, 0, 0, 0, 0, 0), (44, .aload_n 0, 0, 0, 0, 0, 0, 0), (45, .getfield 17, 10, 13, 0, 0, 0, 0), (48, .iconst 2, 0, 0, 0, 0, 0, 2), (49, .iaload, 0, 0, 0, 0, 0, 0), (50, .bipush 24, 0, 0, 0, 0, 0, 24), (52, .imul, 0, 0, 0, 0, 0, 0), (53, .if_icmp .ge 86, 139, 0, 0, 0, 0, 0), (56, .iload 5, 5, 0, 0, 0, 0, 0), (58, .bipush 24, 0, 0, 0, 0, 0, 24), (60, .idiv, 0, 0, 0, 0, 0, 0), (61, .istore 6, 6, 0, 0, 0, 0, 0), (63, .iload 5, 5, 0, 0, 0, 0, 0), (65, .bipush 24, 0, 0, 0, 0, 0, 24), (67, .irem, 0, 0, 0, 0, 0, 0), (68, .istore 7, 7, 0, 0, 0, 0, 0), (70, .aload_n 0, 0, 0, 0, 0, 0, 0), (71, .getfield 58, 10, 27, 0, 0, 0, 0), (74, .iload 6, 6, 0, 0, 0, 0, 0), (76, .iaload, 0, 0, 0, 0, 0, 0), (77, .iconst (-1), 0, 0, 0, 0, 0, (-1)), (78, .if_icmp .eq 55, 133, 0, 0, 0, 0, 0), (81, .aload_n 0, 0, 0, 0, 0, 0, 0), (82, .iload 6, 6, 0, 0, 0, 0, 0), (84, .iconst (-1), 0, 0, 0, 0, 0, (-1)), (85, .invokevirtual 299, 182, 3, 4, 11, 1, 0), (88, .aload_n 0, 0, 0, 0, 0, 0, 0), (89, .getfield 70, 10, 31, 0, 0, 0, 0), (92, .iload 6, 6, 0, 0, 0, 0, 0), (94, .iaload, 0, 0, 0, 0, 0, 0), (95, .iconst (-1), 0, 0, 0, 0, 0, (-1)), (96, .ixor, 0, 0, 0, 0, 0, 0), (97, .iand, 0, 0, 0, 0, 0, 0), (98, .iconst 1, 0, 0, 0, 0, 0, 1), (99, .iload 7, 7, 0, 0, 0, 0, 0), (101, .ishl, 0, 0, 0, 0, 0, 0), (102, .iand, 0, 0, 0, 0, 0, 0), (103, .ifCond .eq 30, 133, 0, 0, 0, 0, 0), (106, .aload_n 0, 0, 0, 0, 0, 0, 0), (107, .getfield 55, 10, 25, 0, 0, 0, 0), (110, .iload 7, 7, 0, 0, 0, 0, 0), (112, .iaload, 0, 0, 0, 0, 0, 0), (113, .iload 4, 4, 0, 0, 0, 0, 0), (115, .if_icmp .gt 6, 121, 0, 0, 0, 0, 0), (118, .goto 15, 133, 0, 0, 0, 0, 0), (121, .iload 5, 5, 0, 0, 0, 0, 0), (123, .istore_n 3, 3, 0, 0, 0, 0, 0), (124, .aload_n 0, 0, 0, 0, 0, 0, 0), (125, .getfield 55, 10, 25, 0, 0, 0, 0), (128, .iload 7, 7, 0, 0, 0, 0, 0), (130, .iaload, 0, 0, 0, 0, 0, 0), (131, .istore 4, 4, 0, 0, 0, 0, 0), (133, .iinc 5 1, 5, 0, 0, 0, 0, 1), (136, .goto (-94), 42, 0, 0, 0, 0, 0), (139, .iload_n 3, 3, 0, 0, 0, 0, 0), (140, .iconst (-1), 0, 0, 0, 0, 0, (-1)), (141, .if_icmp .ne 5, 146, 0, 0, 0, 0, 0), (144, .iload_n 2, 2, 0, 0, 0, 0, 0), (145, .ireturn, 0, 0, 0, 0, 0, 0), (146, .aload_n 0, 0, 0, 0, 0, 0, 0), (147, .getfield 70, 10, 31, 0, 0, 0, 0), (150, .iload_n 3, 3, 0, 0, 0, 0, 0), (151, .bipush 24, 0, 0, 0, 0, 0, 24), (153, .idiv, 0, 0, 0, 0, 0, 0), (154, .dup2, 0, 0, 0, 0, 0, 0), (155, .iaload, 0, 0, 0, 0, 0, 0), (156, .iconst 1, 0, 0, 0, 0, 0, 1), (157, .iload_n 3, 3, 0, 0, 0, 0, 0), (158, .bipush 24, 0, 0, 0, 0, 0, 24), (160, .irem, 0, 0, 0, 0, 0, 0), (161, .ishl, 0, 0, 0, 0, 0, 0), (162, .ior, 0, 0, 0, 0, 0, 0), (163, .iastore, 0, 0, 0, 0, 0, 0), (164, .iinc 2 1, 2, 0, 0, 0, 0, 1), (167, .goto (-152), 15, 0, 0, 0, 0, 0), (170, .iload_n 2, 2, 0, 0, 0, 0, 0), (171, .ireturn, 0, 0, 0, 0, 0, 0)], [(15, [true, true, true, false, false, false, false, false]), (42, [true, true, true, true, true, true, false, false])])
-- X10_heardBy
def k211 : pM := ([(0, .aload_n 0, 0, 0, 0, 0, 0, 0), (1, .iload_n 2, 2, 0, 0, 0, 0, 0), (2, .iconst (-1), 0, 0, 0, 0, 0, (-1)), (3, .invokevirtual 296, 181, 3, 3, 11, 1, 0), (6, .aload_n 0, 0, 0, 0, 0, 0, 0), (7, .getfield 70, 10, 31, 0, 0, 0, 0), (10, .iload_n 2, 2, 0, 0, 0, 0, 0), (11, .iaload, 0, 0, 0, 0, 0, 0), (12, .ior, 0, 0, 0, 0, 0, 0), (13, .aload_n 0, 0, 0, 0, 0, 0, 0), (14, .getfield 49, 10, 23, 0, 0, 0, 0), (17, .iload_n 1, 1, 0, 0, 0, 0, 0), (18, .iaload, 0, 0, 0, 0, 0, 0), (19, .iand, 0, 0, 0, 0, 0, 0), (20, .ireturn, 0, 0, 0, 0, 0, 0)], [])
-- X10_backOf
def k212 : pM := ([(0, .iconst (-1), 0, 0, 0, 0, 0, (-1)), (1, .istore_n 2, 2, 0, 0, 0, 0, 0), (2, .iconst 0, 0, 0, 0, 0, 0, 0), (3, .istore_n 3, 3, 0, 0, 0, 0, 0), (4, .iconst 0, 0, 0, 0, 0, 0, 0), (5, .istore 4, 4, 0, 0, 0, 0, 0), (7, .iload 4, 4, 0, 0, 0, 0, 0), (9, .aload_n 0, 0, 0, 0, 0, 0, 0), (10, .getfield 17, 10, 13, 0, 0, 0, 0), (13, .iconst 0, 0, 0, 0, 0, 0, 0), (14, .iaload, 0, 0, 0, 0, 0, 0), (15, .if_icmp .ge 78, 93, 0, 0, 0, 0, 0), (18, .iconst 2, 0, 0, 0, 0, 0, 2), (19, .aload_n 0, 0, 0, 0, 0, 0, 0), (20, .aload_n 0, 0, 0, 0, 0, 0, 0), (21, .getfield 28, 10, 16, 0, 0, 0, 0), (24, .iload 4, 4, 0, 0, 0, 0, 0), (26, .iaload, 0, 0, 0, 0, 0, 0), (27, .iload_n 1, 1, 0, 0, 0, 0, 0), (28, .iand, 0, 0, 0, 0, 0, 0), (29, .invokevirtual 302, 179, 2, 2, 11, 1, 0), (32, .imul, 0, 0, 0, 0, 0, 0), (33, .aload_n 0, 0, 0, 0, 0, 0, 0), (34, .aload_n 0, 0, 0, 0, 0, 0, 0), (35, .getfield 28, 10, 16, 0, 0, 0, 0), (38, .iload 4, 4, 0, 0, 0, 0, 0), (40, .iaload, 0, 0, 0, 0, 0, 0), (41, .iload_n 1, 1, 0, 0, 0, 0, 0), (42, .iconst (-1), 0, 0, 0, 0, 0, (-1)), (43, .ixor, 0, 0, 0, 0, 0, 0), (44, .iand, 0, 0, 0, 0, 0, 0), (45, .invokevirtual 302, 179, 2, 2, 11, 1, 0), (48, .isub, 0, 0, 0, 0, 0, 0), (49, .aload_n 0, 0, 0, 0, 0, 0, 0), (50, .iload_n 1, 1, 0, 0, 0, 0, 0), (51, .aload_n 0, 0, 0, 0, 0, 0, 0), (52, .getfield 28, 10, 16, 0, 0, 0, 0), (55, .iload 4, 4, 0, 0, 0, 0, 0), (57, .iaload, 0, 0, 0, 0, 0, 0), (58, .iconst (-1), 0, 0, 0, 0, 0, (-1)), (59, .ixor, 0, 0, 0, 0, 0, 0), (60, .iand, 0, 0, 0, 0, 0, 0), (61, .invokevirtual 302, 179, 2, 2, 11, 1, 0), (64, .isub, 0, 0, 0, 0, 0, 0), (65, .istore 5, 5, 0, 0, 0, 0, 0), (67, .iload_n 2, 2, 0, 0, 0, 0, 0), (68, .iconst (-1), 0, 0, 0, 0, 0, (-1)), (69, .if_icmp .eq 12, 81, 0, 0, 0, 0, 0), (72, .iload 5, 5, 0, 0, 0, 0, 0), (74, .iload_n 3, 3, 0, 0, 0, 0, 0), (75, .if_icmp .gt 6, 81, 0, 0, 0, 0, 0), (78, .goto 9, 87, 0, 0, 0, 0, 0), (81, .iload 4, 4, 0, 0, 0, 0, 0), (83, .istore_n 2, 2, 0, 0, 0, 0, 0), (84, .iload 5, 5, 0, 0, 0, 0, 0), (86, .istore_n 3, 3, 0, 0, 0, 0, 0), (87, .iinc 4 1, 4, 0, 0, 0, 0, 1), (90, .goto (-83), 7, 0, 0, 0, 0, 0), (93, .iload_n 2, 2, 0, 0, 0, 0, 0), (94, .ireturn, 0, 0, 0, 0, 0, 0)], [(7, [true, true, true, true, true, false])])
-- X10_isLaugh
def k213 : pM := ([(0, .aload_n 0, 0, 0, 0, 0, 0, 0), (1, .getfield 52, 10, 24, 0, 0, 0, 0), (4, .iload_n 1, 1, 0, 0, 0, 0, 0), (5, .iaload, 0, 0, 0, 0, 0, 0), (6, .ifCond .eq 20, 26, 0, 0, 0, 0, 0), (9, .aload_n 0, 0, 0, 0, 0, 0, 0), (10, .getfield 52, 10, 24, 0, 0, 0, 0), (13, .iload_n 1, 1, 0, 0, 0, 0, 0), (14, .iaload, 0, 0, 0, 0, 0, 0), (15, .iload_n 2, 2, 0, 0, 0, 0, 0), (16, .iconst (-1), 0, 0, 0, 0, 0, (-1)), (17, .ixor, 0, 0, 0, 0, 0, 0), (18, .iand, 0, 0, 0, 0, 0, 0), (19, .ifCond .ne 7, 26, 0, 0, 0, 0, 0), (22, .iconst 1, 0, 0, 0, 0, 0, 1), (23, .goto 4, 27, 0, 0, 0, 0, 0), (26, .iconst 0, 0, 0, 0, 0, 0, 0), (27, .ireturn, 1, 0, 0, 0, 0, 0)], [])
-- X10_isAsked
def k214 : pM := ([(0, .aload_n 0, 0, 0, 0, 0, 0, 0), (1, .iload_n 1, 1, 0, 0, 0, 0, 0), (2, .invokevirtual 290, 176, 2, 3, 11, 1, 0), (5, .ifCond .eq 15, 20, 0, 0, 0, 0, 0), (8, .aload_n 0, 0, 0, 0, 0, 0, 0), (9, .iload_n 2, 2, 0, 0, 0, 0, 0), (10, .invokevirtual 284, 174, 2, 3, 11, 1, 0), (13, .ifCond .eq 7, 20, 0, 0, 0, 0, 0), (16, .iconst 1, 0, 0, 0, 0, 0, 1), (17, .goto 4, 21, 0, 0, 0, 0, 0), (20, .iconst 0, 0, 0, 0, 0, 0, 0), (21, .ireturn, 1, 0, 0, 0, 0, 0)], [])
-- X10_hears
def k215 : pM := ([(0, .aload_n 0, 0, 0, 0, 0, 0, 0), (1, .iload_n 1, 1, 0, 0, 0, 0, 0), (2, .iload_n 2, 2, 0, 0, 0, 0, 0), (3, .invokevirtual 352, 214, 3, 4, 11, 1, 0), (6, .ifCond .ne 8, 14, 0, 0, 0, 0, 0), (9, .bipush (-2), 0, 0, 0, 0, 0, (-2)), (11, .goto 23, 34, 0, 0, 0, 0, 0), (14, .aload_n 0, 0, 0, 0, 0, 0, 0), (15, .getfield 58, 10, 27, 0, 0, 0, 0), (18, .iload_n 2, 2, 0, 0, 0, 0, 0), (19, .iaload, 0, 0, 0, 0, 0, 0), (20, .iconst (-1), 0, 0, 0, 0, 0, (-1)), (21, .if_icmp .ne 7, 28, 0, 0, 0, 0, 0), (24, .iconst (-1), 0, 0, 0, 0, 0, (-1)), (25, .goto 9, 34, 0, 0, 0, 0, 0), (28, .aload_n 0, 0, 0, 0, 0, 0, 0), (29, .iload_n 1, 1, 0, 0, 0, 0, 0), (30, .iload_n 2, 2, 0, 0, 0, 0, 0), (31, .invokevirtual 355, 211, 3, 4, 11, 1, 0), (34, .ireturn, 0, 0, 0, 0, 0, 0)], [])
-- X10_back
def k216 : pM := ([(0, .aload_n 0, 0, 0, 0, 0, 0, 0), (1, .iload_n 1, 1, 0, 0, 0, 0, 0), (2, .iload_n 2, 2, 0, 0, 0, 0, 0), (3, .invokevirtual 352, 214, 3, 4, 11, 1, 0), (6, .ifCond .ne 8, 14, 0, 0, 0, 0, 0), (9, .bipush (-2), 0, 0, 0, 0, 0, (-2)), (11, .goto 27, 38, 0, 0, 0, 0, 0), (14, .aload_n 0, 0, 0, 0, 0, 0, 0), (15, .getfield 58, 10, 27, 0, 0, 0, 0), (18, .iload_n 2, 2, 0, 0, 0, 0, 0), (19, .iaload, 0, 0, 0, 0, 0, 0), (20, .iconst (-1), 0, 0, 0, 0, 0, (-1)), (21, .if_icmp .ne 7, 28, 0, 0, 0, 0, 0), (24, .iconst (-1), 0, 0, 0, 0, 0, (-1)), (25, .goto 13, 38, 0, 0, 0, 0, 0), (28, .aload_n 0, 0, 0, 0, 0, 0, 0), (29, .aload_n 0, 0, 0, 0, 0, 0, 0), (30, .iload_n 1, 1, 0, 0, 0, 0, 0), (31, .iload_n 2, 2, 0, 0, 0, 0, 0), (32, .invokevirtual 355, 211, 3, 4, 11, 1, 0), (35, .invokevirtual 358, 212, 2, 3, 11, 1, 0), (38, .ireturn, 0, 0, 0, 0, 0, 0)], [])
-- X10_laughs
def k217 : pM := ([(0, .aload_n 0, 0, 0, 0, 0, 0, 0), (1, .iload_n 1, 1, 0, 0, 0, 0, 0), (2, .iload_n 2, 2, 0, 0, 0, 0, 0), (3, .invokevirtual 352, 214, 3, 4, 11, 1, 0), (6, .ifCond .ne 8, 14, 0, 0, 0, 0, 0), (9, .bipush (-2), 0, 0, 0, 0, 0, (-2)), (11, .goto 36, 47, 0, 0, 0, 0, 0), (14, .aload_n 0, 0, 0, 0, 0, 0, 0), (15, .getfield 58, 10, 27, 0, 0, 0, 0), (18, .iload_n 2, 2, 0, 0, 0, 0, 0), (19, .iaload, 0, 0, 0, 0, 0, 0), (20, .iconst (-1), 0, 0, 0, 0, 0, (-1)), (21, .if_icmp .ne 7, 28, 0, 0, 0, 0, 0), (24, .iconst (-1), 0, 0, 0, 0, 0, (-1)), (25, .goto 22, 47, 0, 0, 0, 0, 0), (28, .aload_n 0, 0, 0, 0, 0, 0, 0), (29, .iload_n 1, 1, 0, 0, 0, 0, 0), (30, .aload_n 0, 0, 0, 0, 0, 0, 0), (31, .iload_n 2, 2, 0, 0, 0, 0, 0), (32, .iconst (-1), 0, 0, 0, 0, 0, (-1)), (33, .invokevirtual 296, 181, 3, 3, 11, 1, 0), (36, .invokevirtual 361, 213, 3, 2, 11, 1, 0), (39, .ifCond .eq 7, 46, 0, 0, 0, 0, 0), (42, .iconst 1, 0, 0, 0, 0, 0, 1), (43, .goto 4, 47, 0, 0, 0, 0, 0), (46, .iconst 0, 0, 0, 0, 0, 0, 0), (47, .ireturn, 0, 0, 0, 0, 0, 0)], [])
-- X10_hitsOf
def k218 : pM := ([(0, .iconst 0, 0, 0, 0, 0, 0, 0), (1, .istore_n 2, 2, 0, 0, 0, 0, 0), (2, .iconst 0, 0, 0, 0, 0, 0, 0), (3, .istore_n 3, 3, 0, 0, 0, 0, 0), (4, .iload_n 3, 3, 0, 0, 0, 0, 0), (5, .aload_n 0, 0, 0, 0, 0, 0, 0), (6, .getfield 17, 10, 13, 0, 0, 0, 0), (9, .iconst 2, 0, 0, 0, 0, 0, 2), (10, .iaload, 0, 0, 0, 0, 0, 0), (11, .if_icmp .ge 46, 57, 0, 0, 0, 0, 0), (14, .iload_n 2, 2, 0, 0, 0, 0, 0), (15, .aload_n 0, 0, 0, 0, 0, 0, 0), (16, .getfield 58, 10, 27, 0, 0, 0, 0), (19, .iload_n 3, 3, 0, 0, 0, 0, 0), (20, .iaload, 0, 0, 0, 0, 0, 0), (21, .iconst (-1), 0, 0, 0, 0, 0, (-1)), (22, .if_icmp .eq 26, 48, 0, 0, 0, 0, 0), (25, .aload_n 0, 0, 0, 0, 0, 0, 0), (26, .aload_n 0, 0, 0, 0, 0, 0, 0), (27, .iload_n 1, 1, 0, 0, 0, 0, 0), (28, .iload_n 3, 3, 0, 0, 0, 0, 0), (29, .invokevirtual 355, 211, 3, 4, 11, 1, 0), (32, .invokevirtual 358, 212, 2, 3, 11, 1, 0), (35, .aload_n 0, 0, 0, 0, 0, 0, 0), (36, .getfield 34, 10, 18, 0, 0, 0, 0), (39, .iload_n 3, 3, 0, 0, 0, 0, 0), (40, .iaload, 0, 0, 0, 0, 0, 0), (41, .if_icmp .ne 7, 48, 0, 0, 0, 0, 0), (44, .iconst 1, 0, 0, 0, 0, 0, 1), (45, .goto 4, 49, 0, 0, 0, 0, 0), (48, .iconst 0, 0, 0, 0, 0, 0, 0), (49, .iadd, 0, 0, 0, 0, 0, 0), (50, .istore_n 2, 2, 0, 0, 0, 0, 0), (51, .iinc 3 1, 3, 0, 0, 0, 0, 1), (54, .goto (-50), 4, 0, 0, 0, 0, 0), (57, .iload_n 2, 2, 0, 0, 0, 0, 0), (58, .ireturn, 0, 0, 0, 0, 0, 0)], [(4, [true, true, true, true])])
-- X10_hits
def k219 : pM := ([(0, .aload_n 0, 0, 0, 0, 0, 0, 0), (1, .iload_n 1, 1, 0, 0, 0, 0, 0), (2, .invokevirtual 290, 176, 2, 3, 11, 1, 0), (5, .ifCond .eq 11, 16, 0, 0, 0, 0, 0), (8, .aload_n 0, 0, 0, 0, 0, 0, 0), (9, .iload_n 1, 1, 0, 0, 0, 0, 0), (10, .invokevirtual 364, 218, 2, 5, 11, 1, 0), (13, .goto 5, 18, 0, 0, 0, 0, 0), (16, .bipush (-2), 0, 0, 0, 0, 0, (-2)), (18, .ireturn, 0, 0, 0, 0, 0, 0)], [])
-- X10_on
def k220 : pM := ([(0, .aload_n 0, 0, 0, 0, 0, 0, 0), (1, .iload_n 1, 1, 0, 0, 0, 0, 0), (2, .iload_n 3, 3, 0, 0, 0, 0, 0), (3, .invokevirtual 352, 214, 3, 4, 11, 1, 0), (6, .ifCond .eq 11, 17, 0, 0, 0, 0, 0), (9, .aload_n 0, 0, 0, 0, 0, 0, 0), (10, .iload_n 2, 2, 0, 0, 0, 0, 0), (11, .invokevirtual 290, 176, 2, 3, 11, 1, 0), (14, .ifCond .ne 6, 20, 0, 0, 0, 0, 0), (17, .bipush (-2), 0, 0, 0, 0, 0, (-2)), (19, .ireturn, 0, 0, 0, 0, 0, 0), (20, .aload_n 0, 0, 0, 0, 0, 0, 0), (21, .getfield 58, 10, 27, 0, 0, 0, 0), (24, .iload_n 3, 3, 0, 0, 0, 0, 0), (25, .iaload, 0, 0, 0, 0, 0, 0), (26, .iconst (-1), 0, 0, 0, 0, 0, (-1)), (27, .if_icmp .ne 5, 32, 0, 0, 0, 0, 0), (30, .iconst (-1), 0, 0, 0, 0, 0, (-1)), (31, .ireturn, 0, 0, 0, 0, 0, 0), (32, .aload_n 0, 0, 0, 0, 0, 0, 0), (33, .getfield 28, 10, 16, 0, 0, 0, 0), (36, .aload_n 0, 0, 0, 0, 0, 0, 0), (37, .aload_n 0, 0, 0, 0, 0, 0, 0), (38, .iload_n 1, 1, 0, 0, 0, 0, 0), (39, .iload_n 3, 3, 0, 0, 0, 0, 0), (40, .invokevirtual 355, 211, 3, 4, 11, 1, 0), (43, .invokevirtual 358, 212, 2, 3, 11, 1, 0), (46, .iaload, 0, 0, 0, 0, 0, 0), (47, .istore 4, 4, 0, 0, 0, 0, 0), (49, .iconst (-1), 0, 0, 0, 0, 0, (-1)), (50, .istore 5, 5, 0, 0, 0, 0, 0), (52, .iconst 0, 0, 0, 0, 0, 0, 0), (53, .istore 6, 6, 0, 0, 0, 0, 0), (55, .iconst 0, 0, 0, 0, 0, 0, 0), (56, .istore 7, 7, 0, 0, 0, 0, 0), (58, .iload 7, 7, 0, 0, 0, 0, 0), (60, .aload_n 0, 0, 0, 0, 0, 0, 0), (61, .getfield 17, 10, 13, 0, 0, 0, 0), (64, .iconst 1, 0, 0, 0, 0, 0, 1), (65, .iaload, 0, 0, 0, 0, 0, 0), (66, .if_icmp .ge 83, 149, 0, 0, 0, 0, 0), (69, .aload_n 0, 0, 0, 0, 0, 0, 0), (70, .getfield 17, 10, 13, 0, 0, 0, 0), (73, .iconst 5, 0, 0, 0, 0, 0, 5), (74, .iaload, 0, 0, 0, 0, 0, 0), (75, .aload_n 0, 0, 0, 0, 0, 0, 0), (76, .iload 4, 4, 0, 0, 0, 0, 0), (78, .aload_n 0, 0, 0, 0, 0, 0, 0), (79, .getfield 31, 10, 17, 0, 0, 0, 0), (82, .iload 7, 7, 0, 0, 0, 0, 0), (84, .iaload, 0, 0, 0, 0, 0, 0), (85, .iconst (-1), 0, 0, 0, 0, 0, (-1)), (86, .ixor, 0, 0, 0, 0, 0, 0), (87, .iand, 0, 0, 0, 0, 0, 0), (88, .invokevirtual 302, 179, 2, 2, 11, 1, 0), (91, .imul, 0, 0, 0, 0, 0, 0), (92, .aload_n 0, 0, 0, 0, 0, 0, 0), (93, .getfield 17, 10, 13, 0, 0, 0, 0), (96, .bipush 6, 0, 0, 0, 0, 0, 6), (98, .iaload, 0, 0, 0, 0, 0, 0), (99, .aload_n 0, 0, 0, 0, 0, 0, 0), (100, .aload_n 0, 0, 0, 0, 0, 0, 0), (101, .getfield 31, 10, 17, 0, 0, 0, 0), (104, .iload 7, 7, 0, 0, 0, 0, 0), (106, .iaload, 0, 0, 0, 0, 0, 0), (107, .iload 4, 4, 0, 0, 0, 0, 0), (109, .iconst (-1), 0, 0, 0, 0, 0, (-1)), (110, .ixor, 0, 0, 0, 0, 0, 0), (111, .iand, 0, 0, 0, 0, 0, 0), (112, .invokevirtual 302, 179, 2, 2, 11, 1, 0), (115, .imul, 0, 0, 0, 0, 0, 0), (116, .iadd, 0, 0, 0, 0, 0, 0), (117, .istore 8, 8, 0, 0, 0, 0, 0), (119, .iload 5, 5, 0, 0, 0, 0, 0), (121, .iconst (-1), 0, 0, 0, 0, 0, (-1)), (122, .if_icmp .eq 13, 135, 0, 0, 0, 0, 0), (125, .iload 8, 8, 0, 0, 0, 0, 0), (127, .iload 6, 6, 0, 0, 0, 0, 0), (129, .if_icmp .lt 6, 135, 0, 0, 0, 0, 0), (132, .goto 11, 143, 0, 0, 0, 0, 0), (135, .iload 7, 7, 0, 0, 0, 0, 0), (137, .istore 5, 5, 0, 0, 0, 0, 0), (139, .iload 8, 8, 0, 0, 0, 0, 0), (141, .istore 6, 6, 0, 0, 0, 0, 0), (143, .iinc 7 1, 7, 0, 0, 0, 0, 1), (146, .goto (-88), 58, 0, 0, 0, 0, 0), (149, .aload_n 0, 0, 0, 0, 0, 0, 0), (150, .iload 5, 5, 0, 0, 0, 0, 0), (152, .iconst (-1), 0, 0, 0, 0, 0, (-1)), (153, .if_icmp .ne 7, 160, 0, 0, 0, 0, 0), (156, .iconst 0, 0, 0, 0, 0, 0, 0), (157, .goto 17, 174, 0, 0, 0, 0, 0), (160, .aload_n 0, 0, 0, 0, 0, 0, 0), (161, .getfield 31, 10, 17, 0, 0, 0, 0), (164, .iload 5, 5, 0, 0, 0, 0, 0), (166, .iaload, 0, 0, 0, 0, 0, 0), (167, .aload_n 0, 0, 0, 0, 0, 0, 0), (168, .getfield 49, 10, 23, 0, 0, 0, 0), (171, .iload_n 2, 2, 0, 0, 0, 0, 0), (172, .iaload, 0, 0, 0, 0, 0, 0), (173, .iand, 0, 0, 0, 0, 0, 0), (174, .invokevirtual 358, 212, 2, 3, 11, 1, 0), (177, .ireturn, 0, 0, 0, 0, 0, 0)], [(58, [true, false, true, false, true, true, true, true, false])])
-- X10_store
def k221 : pM := ([(0, .iconst 0, 0, 0, 0, 0, 0, 0), (1, .istore_n 2, 2, 0, 0, 0, 0, 0), (2, .iload_n 2, 2, 0, 0, 0, 0, 0), (3, .bipush 24, 0, 0, 0, 0, 0, 24), (5, .if_icmp .ge 76, 81, 0, 0, 0, 0, 0), (8, .bipush 24, 0, 0, 0, 0, 0, 24), (10, .iload_n 1, 1, 0, 0, 0, 0, 0), (11, .imul, 0, 0, 0, 0, 0, 0), (12, .iload_n 2, 2, 0, 0, 0, 0, 0), (13, .iadd, 0, 0, 0, 0, 0, 0), (14, .istore_n 3, 3, 0, 0, 0, 0, 0), (15, .aload_n 0, 0, 0, 0, 0, 0, 0), (16, .getfield 92, 10, 38, 0, 0, 0, 0), (19, .iload_n 3, 3, 0, 0, 0, 0, 0), (20, .aload_n 0, 0, 0, 0, 0, 0, 0), (21, .getfield 58, 10, 27, 0, 0, 0, 0), (24, .iload_n 2, 2, 0, 0, 0, 0, 0), (25, .iaload, 0, 0, 0, 0, 0, 0), (26, .iastore, 0, 0, 0, 0, 0, 0), (27, .aload_n 0, 0, 0, 0, 0, 0, 0), (28, .getfield 95, 10, 39, 0, 0, 0, 0), (31, .iload_n 3, 3, 0, 0, 0, 0, 0), (32, .aload_n 0, 0, 0, 0, 0, 0, 0), (33, .getfield 61, 10, 28, 0, 0, 0, 0), (36, .iload_n 2, 2, 0, 0, 0, 0, 0), (37, .iaload, 0, 0, 0, 0, 0, 0), (38, .iastore, 0, 0, 0, 0, 0, 0), (39, .aload_n 0, 0, 0, 0, 0, 0, 0), (40, .getfield 98, 10, 40, 0, 0, 0, 0), (43, .iload_n 3, 3, 0, 0, 0, 0, 0), (44, .aload_n 0, 0, 0, 0, 0, 0, 0), (45, .getfield 64, 10, 29, 0, 0, 0, 0), (48, .iload_n 2, 2, 0, 0, 0, 0, 0), (49, .iaload, 0, 0, 0, 0, 0, 0), (50, .iastore, 0, 0, 0, 0, 0, 0), (51, .aload_n 0, 0, 0, 0, 0, 0, 0), (52, .getfield 101, 10, 41, 0, 0, 0, 0), (55, .iload_n 3, 3, 0, 0, 0, 0, 0), (56, .aload_n 0, 0, 0, 0, 0, 0, 0), (57, .getfield 67, 10, 30, 0, 0, 0, 0), (60, .iload_n 2, 2, 0, 0, 0, 0, 0), (61, .iaload, 0, 0, 0, 0, 0, 0), (62, .iastore, 0, 0, 0, 0, 0, 0), (63, .aload_n 0, 0, 0, 0, 0, 0, 0), (64, .getfield 104, 10, 42, 0, 0, 0, 0), (67, .iload_n 3, 3, 0, 0, 0, 0, 0), (68, .aload_n 0, 0, 0, 0, 0, 0, 0), (69, .getfield 70, 10, 31, 0, 0, 0, 0), (72, .iload_n 2, 2, 0, 0, 0, 0, 0), (73, .iaload, 0, 0, 0, 0, 0, 0), (74, .iastore, 0, 0, 0, 0, 0, 0), (75, .iinc 2 1, 2, 0, 0, 0, 0, 1), (78, .goto (-76), 2, 0, 0, 0, 0, 0), (81, .return_, 0, 0, 0, 0, 0, 0)], [(2, [true, true, true, false])])
-- X10_load
def k222 : pM := ([(0, .iconst 0, 0, 0, 0, 0, 0, 0), (1, .istore_n 2, 2, 0, 0, 0, 0, 0), (2, .iload_n 2, 2, 0, 0, 0, 0, 0), (3, .bipush 24, 0, 0, 0, 0, 0, 24), (5, .if_icmp .ge 76, 81, 0, 0, 0, 0, 0), (8, .bipush 24, 0, 0, 0, 0, 0, 24), (10, .iload_n 1, 1, 0, 0, 0, 0, 0), (11, .imul, 0, 0, 0, 0, 0, 0), (12, .iload_n 2, 2, 0, 0, 0, 0, 0), (13, .iadd, 0, 0, 0, 0, 0, 0), (14, .istore_n 3, 3, 0, 0, 0, 0, 0), (15, .aload_n 0, 0, 0, 0, 0, 0, 0), (16, .getfield 58, 10, 27, 0, 0, 0, 0), (19, .iload_n 2, 2, 0, 0, 0, 0, 0), (20, .aload_n 0, 0, 0, 0, 0, 0, 0), (21, .getfield 92, 10, 38, 0, 0, 0, 0), (24, .iload_n 3, 3, 0, 0, 0, 0, 0), (25, .iaload, 0, 0, 0, 0, 0, 0), (26, .iastore, 0, 0, 0, 0, 0, 0), (27, .aload_n 0, 0, 0, 0, 0, 0, 0), (28, .getfield 61, 10, 28, 0, 0, 0, 0), (31, .iload_n 2, 2, 0, 0, 0, 0, 0), (32, .aload_n 0, 0, 0, 0, 0, 0, 0), (33, .getfield 95, 10, 39, 0, 0, 0, 0), (36, .iload_n 3, 3, 0, 0, 0, 0, 0), (37, .iaload, 0, 0, 0, 0, 0, 0), (38, .iastore, 0, 0, 0, 0, 0, 0), (39, .aload_n 0, 0, 0, 0, 0, 0, 0), (40, .getfield 64, 10, 29, 0, 0, 0, 0), (43, .iload_n 2, 2, 0, 0, 0, 0, 0), (44, .aload_n 0, 0, 0, 0, 0, 0, 0), (45, .getfield 98, 10, 40, 0, 0, 0, 0), (48, .iload_n 3, 3, 0, 0, 0, 0, 0), (49, .iaload, 0, 0, 0, 0, 0, 0), (50, .iastore, 0, 0, 0, 0, 0, 0), (51, .aload_n 0, 0, 0, 0, 0, 0, 0), (52, .getfield 67, 10, 30, 0, 0, 0, 0), (55, .iload_n 2, 2, 0, 0, 0, 0, 0), (56, .aload_n 0, 0, 0, 0, 0, 0, 0), (57, .getfield 101, 10, 41, 0, 0, 0, 0), (60, .iload_n 3, 3, 0, 0, 0, 0, 0), (61, .iaload, 0, 0, 0, 0, 0, 0), (62, .iastore, 0, 0, 0, 0, 0, 0), (63, .aload_n 0, 0, 0, 0, 0, 0, 0), (64, .getfield 70, 10, 31, 0, 0, 0, 0), (67, .iload_n 2, 2, 0, 0, 0, 0, 0), (68, .aload_n 0, 0, 0, 0, 0, 0, 0), (69, .getfield 104, 10, 42, 0, 0, 0, 0), (72, .iload_n 3, 3, 0, 0, 0, 0, 0), (73, .iaload, 0, 0, 0, 0, 0, 0), (74, .iastore, 0, 0, 0, 0, 0, 0), (75, .iinc 2 1, 2, 0, 0, 0, 0, 1), (78, .goto (-76), 2, 0, 0, 0, 0, 0), (81, .return_, 0, 0, 0, 0, 0, 0)], [(2, [true, true, true, false])])
-- X10_isSlot
def k223 : pM := ([(0, .iload_n 0, 0, 0, 0, 0, 0, 0), (1, .iconst 0, 0, 0, 0, 0, 0, 0), (2, .iconst 3, 0, 0, 0, 0, 0, 3), (3, .invokestatic 214, 146, 3, 2, 0, 1, 0), (6, .ireturn, 1, 0, 0, 0, 0, 0)], [])
-- X10_keep
def k224 : pM := ([(0, .iload_n 1, 1, 0, 0, 0, 0, 0), (1, .invokestatic 367, 223, 1, 3, 0, 1, 0), (4, .ifCond .ne 6, 10, 0, 0, 0, 0, 0), (7, .bipush (-2), 0, 0, 0, 0, 0, (-2)), (9, .ireturn, 0, 0, 0, 0, 0, 0), (10, .aload_n 0, 0, 0, 0, 0, 0, 0), (11, .iload_n 1, 1, 0, 0, 0, 0, 0), (12, .invokevirtual 370, 221, 2, 2, 11, 0, 0), (15, .aload_n 0, 0, 0, 0, 0, 0, 0), (16, .getfield 88, 10, 37, 0, 0, 0, 0), (19, .iload_n 1, 1, 0, 0, 0, 0, 0), (20, .iconst 1, 0, 0, 0, 0, 0, 1), (21, .bastore, 0, 0, 0, 0, 0, 0), (22, .aload_n 0, 0, 0, 0, 0, 0, 0), (23, .iconst (-1), 0, 0, 0, 0, 0, (-1)), (24, .invokevirtual 321, 185, 2, 6, 11, 1, 0), (27, .ireturn, 0, 0, 0, 0, 0, 0)], [])
-- X10_take
def k225 : pM := ([(0, .iload_n 1, 1, 0, 0, 0, 0, 0), (1, .invokestatic 367, 223, 1, 3, 0, 1, 0), (4, .ifCond .ne 6, 10, 0, 0, 0, 0, 0), (7, .bipush (-2), 0, 0, 0, 0, 0, (-2)), (9, .ireturn, 0, 0, 0, 0, 0, 0), (10, .aload_n 0, 0, 0, 0, 0, 0, 0), (11, .getfield 88, 10, 37, 0, 0, 0, 0), (14, .iload_n 1, 1, 0, 0, 0, 0, 0), (15, .baload, 0, 0, 0, 0, 0, 0), (16, .ifCond .ne 6, 22, 0, 0, 0, 0, 0), (19, .bipush (-4), 0, 0, 0, 0, 0, (-4)), (21, .ireturn, 0, 0, 0, 0, 0, 0), (22, .aload_n 0, 0, 0, 0, 0, 0, 0), (23, .iload_n 1, 1, 0, 0, 0, 0, 0), (24, .invokevirtual 374, 222, 2, 2, 11, 0, 0), (27, .aload_n 0, 0, 0, 0, 0, 0, 0), (28, .iconst (-1), 0, 0, 0, 0, 0, (-1)), (29, .invokevirtual 321, 185, 2, 6, 11, 1, 0), (32, .ireturn, 0, 0, 0, 0, 0, 0)], [])
-- X10_nearer
def k226 : pM := ([(0, .iload_n 1, 1, 0, 0, 0, 0, 0), (1, .invokestatic 367, 223, 1, 3, 0, 1, 0), (4, .ifCond .eq 18, 22, 0, 0, 0, 0, 0), (7, .iload_n 2, 2, 0, 0, 0, 0, 0), (8, .invokestatic 367, 223, 1, 3, 0, 1, 0), (11, .ifCond .eq 11, 22, 0, 0, 0, 0, 0), (14, .aload_n 0, 0, 0, 0, 0, 0, 0), (15, .iload_n 3, 3, 0, 0, 0, 0, 0), (16, .invokevirtual 290, 176, 2, 3, 11, 1, 0), (19, .ifCond .ne 6, 25, 0, 0, 0, 0, 0), (22, .bipush (-2), 0, 0, 0, 0, 0, (-2)), (24, .ireturn, 0, 0, 0, 0, 0, 0), (25, .aload_n 0, 0, 0, 0, 0, 0, 0), (26, .getfield 88, 10, 37, 0, 0, 0, 0), (29, .iload_n 1, 1, 0, 0, 0, 0, 0), (30, .baload, 0, 0, 0, 0, 0, 0), (31, .ifCond .eq 12, 43, 0, 0, 0, 0, 0), (34, .aload_n 0, 0, 0, 0, 0, 0, 0), (35, .getfield 88, 10, 37, 0, 0, 0, 0), (38, .iload_n 2, 2, 0, 0, 0, 0, 0), (39, .baload, 0, 0, 0, 0, 0, 0), (40, .ifCond .ne 6, 46, 0, 0, 0, 0, 0), (43, .bipush (-4), 0, 0, 0, 0, 0, (-4)), (45, .ireturn, 0, 0, 0, 0, 0, 0), (46, .aload_n 0, 0, 0, 0, 0, 0, 0), (47, .iconst 4, 0, 0, 0, 0, 0, 4), (48, .invokevirtual 370, 221, 2, 2, 11, 0, 0), (51, .aload_n 0, 0, 0, 0, 0, 0, 0), (52, .iload_n 1, 1, 0, 0, 0, 0, 0), (53, .invokevirtual 374, 222, 2, 2, 11, 0, 0), (56, .aload_n 0, 0, 0, 0, 0, 0, 0), (57, .iload_n 3, 3, 0, 0, 0, 0, 0), (58, .invokevirtual 364, 218, 2, 5, 11, 1, 0), (61, .istore 4, 4, 0, 0, 0, 0, 0), (63, .aload_n 0, 0, 0, 0, 0, 0, 0), (64, .iconst (-1), 0, 0, 0, 0, 0, (-1)), (65, .invokevirtual 321, 185, 2, 6, 11, 1, 0), (68, .istore 5, 5, 0, 0, 0, 0, 0), (70, .aload_n 0, 0, 0, 0, 0, 0, 0), (71, .iload_n 2, 2, 0, 0, 0, 0, 0), (72, .invokevirtual 374, 222, 2, 2, 11, 0, 0), (75, .aload_n 0, 0, 0, 0, 0, 0, 0), (76, .iload_n 3, 3, 0, 0, 0, 0, 0), (77, .invokevirtual 364, 218, 2, 5, 11, 1, 0), (80, .istore 6, 6, 0, 0, 0, 0, 0), (82, .aload_n 0, 0, 0, 0, 0, 0, 0), (83, .iconst (-1), 0, 0, 0, 0, 0, (-1)), (84, .invokevirtual 321, 185, 2, 6, 11, 1, 0), (87, .istore 7, 7, 0, 0, 0, 0, 0), (89, .aload_n 0, 0, 0, 0, 0, 0, 0), (90, .iconst 4, 0, 0, 0, 0, 0, 4), (91, .invokevirtual 374, 222, 2, 2, 11, 0, 0), (94, .iload 4, 4, 0, 0, 0, 0, 0), (96, .iload 6, 6, 0, 0, 0, 0, 0), (98, .if_icmp .eq 16, 114, 0, 0, 0, 0, 0), (101, .iload 4, 4, 0, 0, 0, 0, 0), (103, .iload 6, 6, 0, 0, 0, 0, 0), (105, .if_icmp .le 7, 112, 0, 0, 0, 0, 0), (108, .iload_n 1, 1, 0, 0, 0, 0, 0), (109, .goto 4, 113, 0, 0, 0, 0, 0), (112, .iload_n 2, 2, 0, 0, 0, 0, 0), (113, .ireturn, 0, 0, 0, 0, 0, 0), (114, .iload 5, 5, 0, 0, 0, 0, 0), (116, .iload 7, 7, 0, 0, 0, 0, 0), (118, .if_icmp .ge 7, 125, 0, 0, 0, 0, 0), (121, .iload_n 1, 1, 0, 0, 0, 0, 0), (122, .goto 15, 137, 0, 0, 0, 0, 0), (125, .iload 7, 7, 0, 0, 0, 0, 0), (127, .iload 5, 5, 0, 0, 0, 0, 0), (129, .if_icmp .ge 7, 136, 0, 0, 0, 0, 0), (132, .iload_n 2, 2, 0, 0, 0, 0, 0), (133, .goto 4, 137, 0, 0, 0, 0, 0), (136, .iconst (-1), 0, 0, 0, 0, 0, (-1)), (137, .ireturn, 0, 0, 0, 0, 0, 0)], [])
-- X10_cellOf
def k227 : pM := ([(0, .iload_n 0, 0, 0, 0, 0, 0, 0), (1, .bipush 24, 0, 0, 0, 0, 0, 24), (3, .imul, 0, 0, 0, 0, 0, 0), (4, .iload_n 1, 1, 0, 0, 0, 0, 0), (5, .iadd, 0, 0, 0, 0, 0, 0), (6, .bipush 20, 0, 0, 0, 0, 0, 20), (8, .imul, 0, 0, 0, 0, 0, 0), (9, .iload_n 2, 2, 0, 0, 0, 0, 0), (10, .iadd, 0, 0, 0, 0, 0, 0), (11, .ireturn, 0, 0, 0, 0, 0, 0)], [])
-- X10_gives
def k228 : pM := ([(0, .iload_n 1, 1, 0, 0, 0, 0, 0), (1, .iconst 0, 0, 0, 0, 0, 0, 0), (2, .iconst 3, 0, 0, 0, 0, 0, 3), (3, .invokestatic 214, 146, 3, 2, 0, 1, 0), (6, .ifCond .eq 30, 36, 0, 0, 0, 0, 0), (9, .aload_n 0, 0, 0, 0, 0, 0, 0), (10, .iload_n 2, 2, 0, 0, 0, 0, 0), (11, .invokevirtual 284, 174, 2, 3, 11, 1, 0), (14, .ifCond .eq 22, 36, 0, 0, 0, 0, 0), (17, .aload_n 0, 0, 0, 0, 0, 0, 0), (18, .iload_n 3, 3, 0, 0, 0, 0, 0), (19, .invokevirtual 281, 173, 2, 3, 11, 1, 0), (22, .ifCond .eq 14, 36, 0, 0, 0, 0, 0), (25, .iload 4, 4, 0, 0, 0, 0, 0), (27, .iconst 0, 0, 0, 0, 0, 0, 0), (28, .bipush 99, 0, 0, 0, 0, 0, 99), (30, .invokestatic 214, 146, 3, 2, 0, 1, 0), (33, .ifCond .ne 6, 39, 0, 0, 0, 0, 0), (36, .bipush (-2), 0, 0, 0, 0, 0, (-2)), (38, .ireturn, 0, 0, 0, 0, 0, 0), (39, .aload_n 0, 0, 0, 0, 0, 0, 0), (40, .getfield 107, 10, 43, 0, 0, 0, 0), (43, .iload_n 1, 1, 0, 0, 0, 0, 0), (44, .iload_n 2, 2, 0, 0, 0, 0, 0), (45, .iload_n 3, 3, 0, 0, 0, 0, 0), (46, .invokestatic 377, 227, 3, 2, 0, 1, 0), (49, .iaload, 0, 0, 0, 0, 0, 0), (50, .istore 5, 5, 0, 0, 0, 0, 0), (52, .aload_n 0, 0, 0, 0, 0, 0, 0), (53, .getfield 107, 10, 43, 0, 0, 0, 0), (56, .iload_n 1, 1, 0, 0, 0, 0, 0), (57, .iload_n 2, 2, 0, 0, 0, 0, 0), (58, .iload_n 3, 3, 0, 0, 0, 0, 0), (59, .invokestatic 377, 227, 3, 2, 0, 1, 0), (62, .iload 4, 4, 0, 0, 0, 0, 0), (64, .iastore, 0, 0, 0, 0, 0, 0), (65, .iload 5, 5, 0, 0, 0, 0, 0), (67, .ireturn, 0, 0, 0, 0, 0, 0)], [])
-- X10_agree
def k229 : pM := ([(0, .aload_n 0, 0, 0, 0, 0, 0, 0), (1, .iload_n 1, 1, 0, 0, 0, 0, 0), (2, .invokevirtual 284, 174, 2, 3, 11, 1, 0), (5, .ifCond .ne 6, 11, 0, 0, 0, 0, 0), (8, .bipush (-2), 0, 0, 0, 0, 0, (-2)), (10, .ireturn, 0, 0, 0, 0, 0, 0), (11, .iconst (-1), 0, 0, 0, 0, 0, (-1)), (12, .istore_n 2, 2, 0, 0, 0, 0, 0), (13, .iconst 0, 0, 0, 0, 0, 0, 0), (14, .istore_n 3, 3, 0, 0, 0, 0, 0), (15, .iconst 0, 0, 0, 0, 0, 0, 0), (16, .istore 4, 4, 0, 0, 0, 0, 0), (18, .iload 4, 4, 0, 0, 0, 0, 0), (20, .aload_n 0, 0, 0, 0, 0, 0, 0), (21, .getfield 17, 10, 13, 0, 0, 0, 0), (24, .iconst 1, 0, 0, 0, 0, 0, 1), (25, .iaload, 0, 0, 0, 0, 0, 0), (26, .if_icmp .ge 102, 128, 0, 0, 0, 0, 0), (29, .iconst 0, 0, 0, 0, 0, 0, 0), (30, .istore 5, 5, 0, 0, 0, 0, 0), (32, .iconst 0, 0, 0, 0, 0, 0, 0), (33, .istore 6, 6, 0, 0, 0, 0, 0), (35, .iconst 0, 0, 0, 0, 0, 0, 0), (36, .istore 7, 7, 0, 0, 0, 0, 0), (38, .iload 7, 7, 0, 0, 0, 0, 0), (40, .iconst 4, 0, 0, 0, 0, 0, 4), (41, .if_icmp .ge 47, 88, 0, 0, 0, 0, 0), (44, .aload_n 0, 0, 0, 0, 0, 0, 0), (45, .getfield 107, 10, 43, 0, 0, 0, 0), (48, .iload 7, 7, 0, 0, 0, 0, 0), (50, .iload_n 1, 1, 0, 0, 0, 0, 0), (51, .iload 4, 4, 0, 0, 0, 0, 0), (53, .invokestatic 377, 227, 3, 2, 0, 1, 0), (56, .iaload, 0, 0, 0, 0, 0, 0), (57, .istore 8, 8, 0, 0, 0, 0, 0), (59, .iload 8, 8, 0, 0, 0, 0, 0), (61, .iload 5, 5, 0, 0, 0, 0, 0), (63, .if_icmp .le 8, 71, 0, 0, 0, 0, 0), (66, .iload 8, 8, 0, 0, 0, 0, 0), (68, .goto 5, 73, 0, 0, 0, 0, 0), (71, .iload 5, 5, 0, 0, 0, 0, 0), (73, .istore 5, 5, 0, 0, 0, 0, 0), (75, .iload 6, 6, 0, 0, 0, 0, 0), (77, .iload 8, 8, 0, 0, 0, 0, 0), (79, .iadd, 0, 0, 0, 0, 0, 0), (80, .istore 6, 6, 0, 0, 0, 0, 0), (82, .iinc 7 1, 7, 0, 0, 0, 0, 1), (85, .goto (-47), 38, 0, 0, 0, 0, 0), (88, .iload_n 2, 2, 0, 0, 0, 0, 0), (89, .iconst (-1), 0, 0, 0, 0, 0, (-1)), (90, .if_icmp .eq 19, 109, 0, 0, 0, 0, 0), (93, .sipush 1000, 0, 0, 0, 0, 0, 1000), (96, .iload 5, 5, 0, 0, 0, 0, 0), (98, .imul, 0, 0, 0, 0, 0, 0), (99, .iload 6, 6, 0, 0, 0, 0, 0), (101, .iadd, 0, 0, 0, 0, 0, 0), (102, .iload_n 3, 3, 0, 0, 0, 0, 0), (103, .if_icmp .lt 6, 109, 0, 0, 0, 0, 0), (106, .goto 16, 122, 0, 0, 0, 0, 0), (109, .iload 4, 4, 0, 0, 0, 0, 0), (111, .istore_n 2, 2, 0, 0, 0, 0, 0), (112, .sipush 1000, 0, 0, 0, 0, 0, 1000), (115, .iload 5, 5, 0, 0, 0, 0, 0), (117, .imul, 0, 0, 0, 0, 0, 0), (118, .iload 6, 6, 0, 0, 0, 0, 0), (120, .iadd, 0, 0, 0, 0, 0, 0), (121, .istore_n 3, 3, 0, 0, 0, 0, 0), (122, .iinc 4 1, 4, 0, 0, 0, 0, 1), (125, .goto (-107), 18, 0, 0, 0, 0, 0), (128, .iload_n 2, 2, 0, 0, 0, 0, 0), (129, .ireturn, 0, 0, 0, 0, 0, 0)], [(18, [true, true, true, true, true, false, false, false, false]), (38, [true, true, true, true, true, true, true, true, false])])
-- X10_moves
def k230 : pM := ([(0, .aload_n 0, 0, 0, 0, 0, 0, 0), (1, .iload_n 1, 1, 0, 0, 0, 0, 0), (2, .invokevirtual 281, 173, 2, 3, 11, 1, 0), (5, .ifCond .eq 25, 30, 0, 0, 0, 0, 0), (8, .iload_n 2, 2, 0, 0, 0, 0, 0), (9, .iconst 0, 0, 0, 0, 0, 0, 0), (10, .sipush 2000, 0, 0, 0, 0, 0, 2000), (13, .invokestatic 214, 146, 3, 2, 0, 1, 0), (16, .ifCond .eq 14, 30, 0, 0, 0, 0, 0), (19, .iload_n 3, 3, 0, 0, 0, 0, 0), (20, .iconst 0, 0, 0, 0, 0, 0, 0), (21, .ldc_w 381, 0, 0, 0, 0, 0, 16777215), (24, .invokestatic 214, 146, 3, 2, 0, 1, 0), (27, .ifCond .ne 6, 33, 0, 0, 0, 0, 0), (30, .bipush (-2), 0, 0, 0, 0, 0, (-2)), (32, .ireturn, 0, 0, 0, 0, 0, 0), (33, .iconst 0, 0, 0, 0, 0, 0, 0), (34, .istore 4, 4, 0, 0, 0, 0, 0), (36, .iload 4, 4, 0, 0, 0, 0, 0), (38, .aload_n 0, 0, 0, 0, 0, 0, 0), (39, .getfield 234, 10, 44, 0, 0, 0, 0), (42, .if_icmp .ge 34, 76, 0, 0, 0, 0, 0), (45, .aload_n 0, 0, 0, 0, 0, 0, 0), (46, .getfield 110, 10, 45, 0, 0, 0, 0), (49, .iload 4, 4, 0, 0, 0, 0, 0), (51, .iaload, 0, 0, 0, 0, 0, 0), (52, .iload_n 1, 1, 0, 0, 0, 0, 0), (53, .if_icmp .ne 17, 70, 0, 0, 0, 0, 0), (56, .aload_n 0, 0, 0, 0, 0, 0, 0), (57, .getfield 113, 10, 46, 0, 0, 0, 0), (60, .iload 4, 4, 0, 0, 0, 0, 0), (62, .iaload, 0, 0, 0, 0, 0, 0), (63, .iload_n 2, 2, 0, 0, 0, 0, 0), (64, .if_icmp .le 6, 70, 0, 0, 0, 0, 0), (67, .bipush (-2), 0, 0, 0, 0, 0, (-2)), (69, .ireturn, 0, 0, 0, 0, 0, 0), (70, .iinc 4 1, 4, 0, 0, 0, 0, 1), (73, .goto (-37), 36, 0, 0, 0, 0, 0), (76, .aload_n 0, 0, 0, 0, 0, 0, 0), (77, .getfield 234, 10, 44, 0, 0, 0, 0), (80, .bipush 40, 0, 0, 0, 0, 0, 40), (82, .if_icmp .ne 6, 88, 0, 0, 0, 0, 0), (85, .bipush (-3), 0, 0, 0, 0, 0, (-3)), (87, .ireturn, 0, 0, 0, 0, 0, 0), (88, .aload_n 0, 0, 0, 0, 0, 0, 0), (89, .getfield 110, 10, 45, 0, 0, 0, 0), (92, .aload_n 0, 0, 0, 0, 0, 0, 0), (93, .getfield 234, 10, 44, 0, 0, 0, 0), (96, .iload_n 1, 1, 0, 0, 0, 0, 0), (97, .iastore, 0, 0, 0, 0, 0, 0), (98, .aload_n 0, 0, 0, 0, 0, 0, 0), (99, .getfield 113, 10, 46, 0, 0, 0, 0), (102, .aload_n 0, 0, 0, 0, 0, 0, 0), (103, .getfield 234, 10, 44, 0, 0, 0, 0), (106, .iload_n 2, 2, 0, 0, 0, 0, 0), (107, .iastore, 0, 0, 0, 0, 0, 0), (108, .aload_n 0, 0, 0, 0, 0, 0, 0), (109, .getfield 116, 10, 47, 0, 0, 0, 0), (112, .aload_n 0, 0, 0, 0, 0, 0, 0), (113, .getfield 234, 10, 44, 0, 0, 0, 0), (116, .iload_n 3, 3, 0, 0, 0, 0, 0), (117, .iastore, 0, 0, 0, 0, 0, 0), (118, .aload_n 0, 0, 0, 0, 0, 0, 0), (119, .dup, 0, 0, 0, 0, 0, 0), (120, .getfield 234, 10, 44, 0, 0, 0, 0), (123, .iconst 1, 0, 0, 0, 0, 0, 1), (124, .iadd, 0, 0, 0, 0, 0, 0), (125, .putfield 234, 10, 44, 0, 0, 0, 0), (128, .aload_n 0, 0, 0, 0, 0, 0, 0), (129, .getfield 234, 10, 44, 0, 0, 0, 0), (132, .ireturn, 0, 0, 0, 0, 0, 0)], [(36, [true, true, true, true, true])])
-- X10_lostIn
def k231 : pM := ([(0, .iload_n 1, 1, 0, 0, 0, 0, 0), (1, .iconst 0, 0, 0, 0, 0, 0, 0), (2, .sipush 2000, 0, 0, 0, 0, 0, 2000), (5, .invokestatic 214, 146, 3, 2, 0, 1, 0), (8, .ifCond .eq 11, 19, 0, 0, 0, 0, 0), (11, .aload_n 0, 0, 0, 0, 0, 0, 0), (12, .iload_n 1, 1, 0, 0, 0, 0, 0), (13, .invokevirtual 321, 185, 2, 6, 11, 1, 0), (16, .goto 5, 21, 0, 0, 0, 0, 0), (19, .bipush (-2), 0, 0, 0, 0, 0, (-2)), (21, .ireturn, 0, 0, 0, 0, 0, 0)], [])
-- X10_turned
def k232 : pM := ([(0, .iload_n 1, 1, 0, 0, 0, 0, 0), (1, .iconst 0, 0, 0, 0, 0, 0, 0), (2, .sipush 2000, 0, 0, 0, 0, 0, 2000), (5, .invokestatic 214, 146, 3, 2, 0, 1, 0), (8, .ifCond .ne 6, 14, 0, 0, 0, 0, 0), (11, .bipush (-2), 0, 0, 0, 0, 0, (-2)), (13, .ireturn, 0, 0, 0, 0, 0, 0), (14, .iconst 0, 0, 0, 0, 0, 0, 0), (15, .istore_n 2, 2, 0, 0, 0, 0, 0), (16, .iconst 0, 0, 0, 0, 0, 0, 0), (17, .istore_n 3, 3, 0, 0, 0, 0, 0), (18, .iload_n 3, 3, 0, 0, 0, 0, 0), (19, .aload_n 0, 0, 0, 0, 0, 0, 0), (20, .getfield 17, 10, 13, 0, 0, 0, 0), (23, .iconst 2, 0, 0, 0, 0, 0, 2), (24, .iaload, 0, 0, 0, 0, 0, 0), (25, .if_icmp .ge 38, 63, 0, 0, 0, 0, 0), (28, .iload_n 1, 1, 0, 0, 0, 0, 0), (29, .ifCond .le 34, 63, 0, 0, 0, 0, 0), (32, .iload_n 2, 2, 0, 0, 0, 0, 0), (33, .aload_n 0, 0, 0, 0, 0, 0, 0), (34, .iload_n 3, 3, 0, 0, 0, 0, 0), (35, .iload_n 1, 1, 0, 0, 0, 0, 0), (36, .invokevirtual 308, 184, 3, 5, 11, 1, 0), (39, .aload_n 0, 0, 0, 0, 0, 0, 0), (40, .iload_n 3, 3, 0, 0, 0, 0, 0), (41, .iload_n 1, 1, 0, 0, 0, 0, 0), (42, .iconst 1, 0, 0, 0, 0, 0, 1), (43, .isub, 0, 0, 0, 0, 0, 0), (44, .invokevirtual 308, 184, 3, 5, 11, 1, 0), (47, .if_icmp .eq 7, 54, 0, 0, 0, 0, 0), (50, .iconst 1, 0, 0, 0, 0, 0, 1), (51, .goto 4, 55, 0, 0, 0, 0, 0), (54, .iconst 0, 0, 0, 0, 0, 0, 0), (55, .iadd, 0, 0, 0, 0, 0, 0), (56, .istore_n 2, 2, 0, 0, 0, 0, 0), (57, .iinc 3 1, 3, 0, 0, 0, 0, 1), (60, .goto (-42), 18, 0, 0, 0, 0, 0), (63, .iload_n 2, 2, 0, 0, 0, 0, 0), (64, .ireturn, 0, 0, 0, 0, 0, 0)], [(18, [true, true, true, true])])
-- X10_until
def k233 : pM := ([(0, .iload_n 1, 1, 0, 0, 0, 0, 0), (1, .ifCond .ge 6, 7, 0, 0, 0, 0, 0), (4, .bipush (-2), 0, 0, 0, 0, 0, (-2)), (6, .ireturn, 0, 0, 0, 0, 0, 0), (7, .aload_n 0, 0, 0, 0, 0, 0, 0), (8, .iconst 0, 0, 0, 0, 0, 0, 0), (9, .invokevirtual 321, 185, 2, 6, 11, 1, 0), (12, .iload_n 1, 1, 0, 0, 0, 0, 0), (13, .if_icmp .le 5, 18, 0, 0, 0, 0, 0), (16, .iconst 0, 0, 0, 0, 0, 0, 0), (17, .ireturn, 0, 0, 0, 0, 0, 0), (18, .iconst (-1), 0, 0, 0, 0, 0, (-1)), (19, .istore_n 2, 2, 0, 0, 0, 0, 0), (20, .iconst 0, 0, 0, 0, 0, 0, 0), (21, .istore_n 3, 3, 0, 0, 0, 0, 0), (22, .iload_n 3, 3, 0, 0, 0, 0, 0), (23, .aload_n 0, 0, 0, 0, 0, 0, 0), (24, .getfield 234, 10, 44, 0, 0, 0, 0), (27, .if_icmp .ge 45, 72, 0, 0, 0, 0, 0), (30, .iload_n 2, 2, 0, 0, 0, 0, 0), (31, .iconst (-1), 0, 0, 0, 0, 0, (-1)), (32, .if_icmp .eq 13, 45, 0, 0, 0, 0, 0), (35, .aload_n 0, 0, 0, 0, 0, 0, 0), (36, .getfield 113, 10, 46, 0, 0, 0, 0), (39, .iload_n 3, 3, 0, 0, 0, 0, 0), (40, .iaload, 0, 0, 0, 0, 0, 0), (41, .iload_n 2, 2, 0, 0, 0, 0, 0), (42, .if_icmp .ge 24, 66, 0, 0, 0, 0, 0), (45, .aload_n 0, 0, 0, 0, 0, 0, 0), (46, .aload_n 0, 0, 0, 0, 0, 0, 0), (47, .getfield 113, 10, 46, 0, 0, 0, 0), (50, .iload_n 3, 3, 0, 0, 0, 0, 0), (51, .iaload, 0, 0, 0, 0, 0, 0), (52, .invokevirtual 321, 185, 2, 6, 11, 1, 0), (55, .iload_n 1, 1, 0, 0, 0, 0, 0), (56, .if_icmp .le 10, 66, 0, 0, 0, 0, 0), (59, .aload_n 0, 0, 0, 0, 0, 0, 0), (60, .getfield 113, 10, 46, 0, 0, 0, 0), (63, .iload_n 3, 3, 0, 0, 0, 0, 0), (64, .iaload, 0, 0, 0, 0, 0, 0), (65, .istore_n 2, 2, 0, 0, 0, 0, 0), (66, .iinc 3 1, 3, 0, 0, 0, 0, 1), (69, .goto (-47), 22, 0, 0, 0, 0, 0), (72, .iload_n 2, 2, 0, 0, 0, 0, 0), (73, .ireturn, 0, 0, 0, 0, 0, 0)], [(22, [true, true, true, true]), (45, [true, true, true, true])])
-- X10_heard
def k234 : pM := ([(0, .iload_n 1, 1, 0, 0, 0, 0, 0), (1, .aload_n 0, 0, 0, 0, 0, 0, 0), (2, .getfield 243, 10, 50, 0, 0, 0, 0), (5, .sipush 999, 0, 0, 0, 0, 0, 999), (8, .invokestatic 214, 146, 3, 2, 0, 1, 0), (11, .ifCond .eq 22, 33, 0, 0, 0, 0, 0), (14, .aload_n 0, 0, 0, 0, 0, 0, 0), (15, .iload_n 2, 2, 0, 0, 0, 0, 0), (16, .iload_n 3, 3, 0, 0, 0, 0, 0), (17, .invokevirtual 352, 214, 3, 4, 11, 1, 0), (20, .ifCond .eq 13, 33, 0, 0, 0, 0, 0), (23, .iload 4, 4, 0, 0, 0, 0, 0), (25, .iconst 0, 0, 0, 0, 0, 0, 0), (26, .iconst 1, 0, 0, 0, 0, 0, 1), (27, .invokestatic 214, 146, 3, 2, 0, 1, 0), (30, .ifCond .ne 6, 36, 0, 0, 0, 0, 0), (33, .bipush (-2), 0, 0, 0, 0, 0, (-2)), (35, .ireturn, 0, 0, 0, 0, 0, 0), (36, .aload_n 0, 0, 0, 0, 0, 0, 0), (37, .getfield 58, 10, 27, 0, 0, 0, 0), (40, .iload_n 3, 3, 0, 0, 0, 0, 0), (41, .iaload, 0, 0, 0, 0, 0, 0), (42, .iconst (-1), 0, 0, 0, 0, 0, (-1)), (43, .if_icmp .ne 6, 49, 0, 0, 0, 0, 0), (46, .bipush (-4), 0, 0, 0, 0, 0, (-4)), (48, .ireturn, 0, 0, 0, 0, 0, 0), (49, .aload_n 0, 0, 0, 0, 0, 0, 0), (50, .getfield 237, 10, 48, 0, 0, 0, 0), (53, .bipush 30, 0, 0, 0, 0, 0, 30), (55, .if_icmp .ne 6, 61, 0, 0, 0, 0, 0), (58, .bipush (-3), 0, 0, 0, 0, 0, (-3)), (60, .ireturn, 0, 0, 0, 0, 0, 0), (61, .aload_n 0, 0, 0, 0, 0, 0, 0), (62, .iload_n 1, 1, 0, 0, 0, 0, 0), (63, .putfield 243, 10, 50, 0, 0, 0, 0), (66, .aload_n 0, 0, 0, 0, 0, 0, 0), (67, .getfield 119, 10, 51, 0, 0, 0, 0), (70, .aload_n 0, 0, 0, 0, 0, 0, 0), (71, .getfield 237, 10, 48, 0, 0, 0, 0), (74, .iload_n 1, 1, 0, 0, 0, 0, 0), (75, .iastore, 0, 0, 0, 0, 0, 0), (76, .aload_n 0, 0, 0, 0, 0, 0, 0), (77, .getfield 122, 10, 52, 0, 0, 0, 0), (80, .aload_n 0, 0, 0, 0, 0, 0, 0), (81, .getfield 237, 10, 48, 0, 0, 0, 0), (84, .iload_n 2, 2, 0, 0, 0, 0, 0), (85, .iastore, 0, 0, 0, 0, 0, 0), (86, .aload_n 0, 0, 0, 0, 0, 0, 0), (87, .getfield 125, 10, 53, 0, 0, 0, 0), (90, .aload_n 0, 0, 0, 0, 0, 0, 0), (91, .getfield 237, 10, 48, 0, 0, 0, 0), (94, .aload_n 0, 0, 0, 0, 0, 0, 0), (95, .iload_n 3, 3, 0, 0, 0, 0, 0), (96, .iconst (-1), 0, 0, 0, 0, 0, (-1)), (97, .invokevirtual 296, 181, 3, 3, 11, 1, 0), (100, .iastore, 0, 0, 0, 0, 0, 0), (101, .aload_n 0, 0, 0, 0, 0, 0, 0), (102, .getfield 128, 10, 54, 0, 0, 0, 0), (105, .aload_n 0, 0, 0, 0, 0, 0, 0), (106, .getfield 237, 10, 48, 0, 0, 0, 0), (109, .iload 4, 4, 0, 0, 0, 0, 0), (111, .iastore, 0, 0, 0, 0, 0, 0), (112, .aload_n 0, 0, 0, 0, 0, 0, 0), (113, .dup, 0, 0, 0, 0, 0, 0), (114, .getfield 237, 10, 48, 0, 0, 0, 0), (117, .iconst 1, 0, 0, 0, 0, 0, 1), (118, .iadd, 0, 0, 0, 0, 0, 0), (119, .putfield 237, 10, 48, 0, 0, 0, 0), (122, .aload_n 0, 0, 0, 0, 0, 0, 0), (123, .getfield 237, 10, 48, 0, 0, 0, 0), (126, .iconst 1, 0, 0, 0, 0, 0, 1), (127, .isub, 0, 0, 0, 0, 0, 0), (128, .ireturn, 0, 0, 0, 0, 0, 0)], [])
-- X10_right
def k235 : pM := ([(0, .iload_n 1, 1, 0, 0, 0, 0, 0), (1, .aload_n 0, 0, 0, 0, 0, 0, 0), (2, .getfield 243, 10, 50, 0, 0, 0, 0), (5, .sipush 999, 0, 0, 0, 0, 0, 999), (8, .invokestatic 214, 146, 3, 2, 0, 1, 0), (11, .ifCond .eq 26, 37, 0, 0, 0, 0, 0), (14, .iload_n 2, 2, 0, 0, 0, 0, 0), (15, .iconst 0, 0, 0, 0, 0, 0, 0), (16, .aload_n 0, 0, 0, 0, 0, 0, 0), (17, .getfield 237, 10, 48, 0, 0, 0, 0), (20, .iconst 1, 0, 0, 0, 0, 0, 1), (21, .isub, 0, 0, 0, 0, 0, 0), (22, .invokestatic 214, 146, 3, 2, 0, 1, 0), (25, .ifCond .eq 12, 37, 0, 0, 0, 0, 0), (28, .iload_n 3, 3, 0, 0, 0, 0, 0), (29, .iconst 0, 0, 0, 0, 0, 0, 0), (30, .iconst 1, 0, 0, 0, 0, 0, 1), (31, .invokestatic 214, 146, 3, 2, 0, 1, 0), (34, .ifCond .ne 6, 40, 0, 0, 0, 0, 0), (37, .bipush (-2), 0, 0, 0, 0, 0, (-2)), (39, .ireturn, 0, 0, 0, 0, 0, 0), (40, .aload_n 0, 0, 0, 0, 0, 0, 0), (41, .getfield 240, 10, 49, 0, 0, 0, 0), (44, .bipush 20, 0, 0, 0, 0, 0, 20), (46, .if_icmp .ne 6, 52, 0, 0, 0, 0, 0), (49, .bipush (-3), 0, 0, 0, 0, 0, (-3)), (51, .ireturn, 0, 0, 0, 0, 0, 0), (52, .aload_n 0, 0, 0, 0, 0, 0, 0), (53, .iload_n 1, 1, 0, 0, 0, 0, 0), (54, .putfield 243, 10, 50, 0, 0, 0, 0), (57, .aload_n 0, 0, 0, 0, 0, 0, 0), (58, .getfield 131, 10, 55, 0, 0, 0, 0), (61, .aload_n 0, 0, 0, 0, 0, 0, 0), (62, .getfield 240, 10, 49, 0, 0, 0, 0), (65, .iload_n 1, 1, 0, 0, 0, 0, 0), (66, .iastore, 0, 0, 0, 0, 0, 0), (67, .aload_n 0, 0, 0, 0, 0, 0, 0), (68, .getfield 134, 10, 56, 0, 0, 0, 0), (71, .aload_n 0, 0, 0, 0, 0, 0, 0), (72, .getfield 240, 10, 49, 0, 0, 0, 0), (75, .iload_n 2, 2, 0, 0, 0, 0, 0), (76, .iastore, 0, 0, 0, 0, 0, 0), (77, .aload_n 0, 0, 0, 0, 0, 0, 0), (78, .getfield 137, 10, 57, 0, 0, 0, 0), (81, .aload_n 0, 0, 0, 0, 0, 0, 0), (82, .getfield 240, 10, 49, 0, 0, 0, 0), (85, .iload_n 3, 3, 0, 0, 0, 0, 0), (86, .iastore, 0, 0, 0, 0, 0, 0), (87, .aload_n 0, 0, 0, 0, 0, 0, 0), (88, .dup, 0, 0, 0, 0, 0, 0), (89, .getfield 240, 10, 49, 0, 0, 0, 0), (92, .iconst 1, 0, 0, 0, 0, 0, 1), (93, .iadd, 0, 0, 0, 0, 0, 0), (94, .putfield 240, 10, 49, 0, 0, 0, 0), (97, .iconst 0, 0, 0, 0, 0, 0, 0), (98, .istore 4, 4, 0, 0, 0, 0, 0), (100, .iconst 0, 0, 0, 0, 0, 0, 0), (101, .istore 5, 5, 0, 0, 0, 0, 0), (103, .iload 5, 5, 0, 0, 0, 0, 0), (105, .aload_n 0, 0, 0, 0, 0, 0, 0), (106, .getfield 240, 10, 49, 0, 0, 0, 0), (109, .if_icmp .ge 30, 139, 0, 0, 0, 0, 0), (112, .iload 4, 4, 0, 0, 0, 0, 0), (114, .aload_n 0, 0, 0, 0, 0, 0, 0), (115, .getfield 134, 10, 56, 0, 0, 0, 0), (118, .iload 5, 5, 0, 0, 0, 0, 0), (120, .iaload, 0, 0, 0, 0, 0, 0), (121, .iload_n 2, 2, 0, 0, 0, 0, 0), (122, .if_icmp .ne 7, 129, 0, 0, 0, 0, 0), (125, .iconst 1, 0, 0, 0, 0, 0, 1), (126, .goto 4, 130, 0, 0, 0, 0, 0), (129, .iconst 0, 0, 0, 0, 0, 0, 0), (130, .iadd, 0, 0, 0, 0, 0, 0), (131, .istore 4, 4, 0, 0, 0, 0, 0), (133, .iinc 5 1, 5, 0, 0, 0, 0, 1), (136, .goto (-33), 103, 0, 0, 0, 0, 0), (139, .iload 4, 4, 0, 0, 0, 0, 0), (141, .ireturn, 0, 0, 0, 0, 0, 0)], [(103, [true, false, true, false, true, true])])
-- X10_setOf
def k236 : pM := ([(0, .iload_n 0, 0, 0, 0, 0, 0, 0), (1, .bipush 24, 0, 0, 0, 0, 0, 24), (3, .if_icmp .ge 7, 10, 0, 0, 0, 0, 0), (6, .iconst 1, 0, 0, 0, 0, 0, 1), (7, .iload_n 0, 0, 0, 0, 0, 0, 0), (8, .ishl, 0, 0, 0, 0, 0, 0), (9, .ireturn, 0, 0, 0, 0, 0, 0), (10, .iload_n 0, 0, 0, 0, 0, 0, 0), (11, .bipush 24, 0, 0, 0, 0, 0, 24), (13, .isub, 0, 0, 0, 0, 0, 0), (14, .istore_n 1, 1, 0, 0, 0, 0, 0), (15, .iconst 0, 0, 0, 0, 0, 0, 0), (16, .istore_n 2, 2, 0, 0, 0, 0, 0), (17, .iload_n 1, 1, 0, 0, 0, 0, 0), (18, .bipush 23, 0, 0, 0, 0, 0, 23), (20, .iload_n 2, 2, 0, 0, 0, 0, 0), (21, .isub, 0, 0, 0, 0, 0, 0), (22, .if_icmp .lt 16, 38, 0, 0, 0, 0, 0), (25, .iload_n 1, 1, 0, 0, 0, 0, 0), (26, .bipush 23, 0, 0, 0, 0, 0, 23), (28, .iload_n 2, 2, 0, 0, 0, 0, 0), (29, .isub, 0, 0, 0, 0, 0, 0), (30, .isub, 0, 0, 0, 0, 0, 0), (31, .istore_n 1, 1, 0, 0, 0, 0, 0), (32, .iinc 2 1, 2, 0, 0, 0, 0, 1), (35, .goto (-18), 17, 0, 0, 0, 0, 0), (38, .iconst 1, 0, 0, 0, 0, 0, 1), (39, .iload_n 2, 2, 0, 0, 0, 0, 0), (40, .ishl, 0, 0, 0, 0, 0, 0), (41, .iconst 1, 0, 0, 0, 0, 0, 1), (42, .iload_n 2, 2, 0, 0, 0, 0, 0), (43, .iconst 1, 0, 0, 0, 0, 0, 1), (44, .iadd, 0, 0, 0, 0, 0, 0), (45, .iload_n 1, 1, 0, 0, 0, 0, 0), (46, .iadd, 0, 0, 0, 0, 0, 0), (47, .ishl, 0, 0, 0, 0, 0, 0), (48, .ior, 0, 0, 0, 0, 0, 0), (49, .ireturn, 0, 0, 0, 0, 0, 0)], [(17, [false, true, true])])
-- X10_makeFits
def k237 : pM := ([(0, .iconst 0, 0, 0, 0, 0, 0, 0), (1, .istore_n 3, 3, 0, 0, 0, 0, 0), (2, .iconst 0, 0, 0, 0, 0, 0, 0), (3, .istore 4, 4, 0, 0, 0, 0, 0), (5, .iload 4, 4, 0, 0, 0, 0, 0), (7, .sipush 300, 0, 0, 0, 0, 0, 300), (10, .if_icmp .ge 200, 210, 0, 0, 0, 0, 0), (13, .aload_n 0, 0, 0, 0, 0, 0, 0), (14, .getfield 140, 10, 58, 0, 0, 0, 0), (17, .iload 4, 4, 0, 0, 0, 0, 0), (19, .iconst 1, 0, 0, 0, 0, 0, 1), (20, .bastore, 0, 0, 0, 0, 0, 0), (21, .iload 4, 4, 0, 0, 0, 0, 0), (23, .invokestatic 382, 236, 1, 2, 0, 1, 0), (26, .istore 5, 5, 0, 0, 0, 0, 0), (28, .iconst 0, 0, 0, 0, 0, 0, 0), (29, .istore 6, 6, 0, 0, 0, 0, 0), (31, .iload 6, 6, 0, 0, 0, 0, 0), (33, .aload_n 0, 0, 0, 0, 0, 0, 0), (34, .getfield 237, 10, 48, 0, 0, 0, 0), (37, .if_icmp .ge 149, 186, 0, 0, 0, 0, 0), (40, .aload_n 0, 0, 0, 0, 0, 0, 0), (41, .getfield 122, 10, 52, 0, 0, 0, 0), (44, .iload 6, 6, 0, 0, 0, 0, 0), (46, .iaload, 0, 0, 0, 0, 0, 0), (47, .iload_n 1, 1, 0, 0, 0, 0, 0), (48, .if_icmp .ne 132, 180, 0, 0, 0, 0, 0), (51, .aload_n 0, 0, 0, 0, 0, 0, 0), (52, .getfield 119, 10, 51, 0, 0, 0, 0), (55, .iload 6, 6, 0, 0, 0, 0, 0), (57, .iaload, 0, 0, 0, 0, 0, 0), (58, .iload_n 2, 2, 0, 0, 0, 0, 0), (59, .if_icmp .le 6, 65, 0, 0, 0, 0, 0), (62, .goto 118, 180, 0, 0, 0, 0, 0), (65, .aload_n 0, 0, 0, 0, 0, 0, 0), (66, .getfield 128, 10, 54, 0, 0, 0, 0), (69, .iload 6, 6, 0, 0, 0, 0, 0), (71, .iaload, 0, 0, 0, 0, 0, 0), (72, .istore 7, 7, 0, 0, 0, 0, 0), (74, .iconst 0, 0, 0, 0, 0, 0, 0), (75, .istore 8, 8, 0, 0, 0, 0, 0), (77, .iload 8, 8, 0, 0, 0, 0, 0), (79, .aload_n 0, 0, 0, 0, 0, 0, 0), (80, .getfield 240, 10, 49, 0, 0, 0, 0), (83, .if_icmp .ge 41, 124, 0, 0, 0, 0, 0), (86, .aload_n 0, 0, 0, 0, 0, 0, 0), (87, .getfield 134, 10, 56, 0, 0, 0, 0), (90, .iload 8, 8, 0, 0, 0, 0, 0), (92, .iaload, 0, 0, 0, 0, 0, 0), (93, .iload 6, 6, 0, 0, 0, 0, 0), (95, .if_icmp .ne 23, 118, 0, 0, 0, 0, 0), (98, .aload_n 0, 0, 0, 0, 0, 0, 0), (99, .getfield 131, 10, 55, 0, 0, 0, 0), (102, .iload 8, 8, 0, 0, 0, 0, 0), (104, .iaload, 0, 0, 0, 0, 0, 0), (105, .iload_n 2, 2, 0, 0, 0, 0, 0), (106, .if_icmp .gt 12, 118, 0, 0, 0, 0, 0), (109, .aload_n 0, 0, 0, 0, 0, 0, 0), (110, .getfield 137, 10, 57, 0, 0, 0, 0), (113, .iload 8, 8, 0, 0, 0, 0, 0), (115, .iaload, 0, 0, 0, 0, 0, 0), (116, .istore 7, 7, 0, 0, 0, 0, 0), (118, .iinc 8 1, 8, 0, 0, 0, 0, 1), (121, .goto (-44), 77, 0, 0, 0, 0, 0), (124, .aload_n 0, 0, 0, 0, 0, 0, 0), (125, .getfield 140, 10, 58, 0, 0, 0, 0), (128, .iload 4, 4, 0, 0, 0, 0, 0), (130, .aload_n 0, 0, 0, 0, 0, 0, 0), (131, .getfield 140, 10, 58, 0, 0, 0, 0), (134, .iload 4, 4, 0, 0, 0, 0, 0), (136, .baload, 0, 0, 0, 0, 0, 0), (137, .ifCond .eq 41, 178, 0, 0, 0, 0, 0), (140, .iload 5, 5, 0, 0, 0, 0, 0), (142, .aload_n 0, 0, 0, 0, 0, 0, 0), (143, .getfield 125, 10, 53, 0, 0, 0, 0), (146, .iload 6, 6, 0, 0, 0, 0, 0), (148, .iaload, 0, 0, 0, 0, 0, 0), (149, .iconst (-1), 0, 0, 0, 0, 0, (-1)), (150, .ixor, 0, 0, 0, 0, 0, 0), (151, .iand, 0, 0, 0, 0, 0, 0), (152, .ifCond .ne 7, 159, 0, 0, 0, 0, 0), (155, .iconst 1, 0, 0, 0, 0, 0, 1), (156, .goto 4, 160, 0, 0, 0, 0, 0), (159, .iconst 0, 0, 0, 0, 0, 0, 0), (160, .iload 7, 7, 0, 0, 0, 0, 0), (162, .iconst 1, 0, 0, 0, 0, 0, 1), (163, .if_icmp .ne 7, 170, 0, 0, 0, 0, 0), (166, .iconst 1, 0, 0, 0, 0, 0, 1), (167, .goto 4, 171, 0, 0, 0, 0, 0), (170, .iconst 0, 0, 0, 0, 0, 0, 0), (171, .if_icmp .ne 7, 178, 0, 0, 0, 0, 0), (174, .iconst 1, 0, 0, 0, 0, 0, 1), (175, .goto 4, 179, 0, 0, 0, 0, 0), (178, .iconst 0, 0, 0, 0, 0, 0, 0), (179, .bastore, 0, 0, 0, 0, 0, 0), (180, .iinc 6 1, 6, 0, 0, 0, 0, 1), (183, .goto (-152), 31, 0, 0, 0, 0, 0), (186, .iload_n 3, 3, 0, 0, 0, 0, 0), (187, .aload_n 0, 0, 0, 0, 0, 0, 0), (188, .getfield 140, 10, 58, 0, 0, 0, 0), (191, .iload 4, 4, 0, 0, 0, 0, 0), (193, .baload, 0, 0, 0, 0, 0, 0), (194, .ifCond .eq 7, 201, 0, 0, 0, 0, 0), (197, .iconst 1, 0, 0, 0, 0, 0, 1), (198, .goto 4, 202, 0, 0, 0, 0, 0), (201, .iconst 0, 0, 0, 0, 0, 0, 0), (202, .iadd, 0, 0, 0, 0, 0, 0), (203, .istore_n 3, 3, 0, 0, 0, 0, 0), (204, .iinc 4 1, 4, 0, 0, 0, 0, 1), (207, .goto (-202), 5, 0, 0, 0, 0, 0), (210, .iload_n 3, 3, 0, 0, 0, 0, 0), (211, .ireturn, 0, 0, 0, 0, 0, 0)], [(5, [true, true, true, true, true, false, false, false, false]), (31, [true, true, true, true, true, true, true, false, false]), (77, [true, true, true, true, true, true, true, true, true])])
-- X10_fit
def k238 : pM := ([(0, .aload_n 0, 0, 0, 0, 0, 0, 0), (1, .iload_n 1, 1, 0, 0, 0, 0, 0), (2, .invokevirtual 290, 176, 2, 3, 11, 1, 0), (5, .ifCond .eq 23, 28, 0, 0, 0, 0, 0), (8, .iload_n 2, 2, 0, 0, 0, 0, 0), (9, .iconst 0, 0, 0, 0, 0, 0, 0), (10, .sipush 999, 0, 0, 0, 0, 0, 999), (13, .invokestatic 214, 146, 3, 2, 0, 1, 0), (16, .ifCond .eq 12, 28, 0, 0, 0, 0, 0), (19, .aload_n 0, 0, 0, 0, 0, 0, 0), (20, .iload_n 1, 1, 0, 0, 0, 0, 0), (21, .iload_n 2, 2, 0, 0, 0, 0, 0), (22, .invokevirtual 385, 237, 3, 3, 11, 1, 0), (25, .goto 5, 30, 0, 0, 0, 0, 0), (28, .bipush (-2), 0, 0, 0, 0, 0, (-2)), (30, .ireturn, 0, 0, 0, 0, 0, 0)], [])
-- X10_surely
def k239 : pM := ([(0, .aload_n 0, 0, 0, 0, 0, 0, 0), (1, .iload_n 1, 1, 0, 0, 0, 0, 0), (2, .invokevirtual 290, 176, 2, 3, 11, 1, 0), (5, .ifCond .eq 24, 29, 0, 0, 0, 0, 0), (8, .iload_n 2, 2, 0, 0, 0, 0, 0), (9, .iconst 0, 0, 0, 0, 0, 0, 0), (10, .bipush 23, 0, 0, 0, 0, 0, 23), (12, .invokestatic 214, 146, 3, 2, 0, 1, 0), (15, .ifCond .eq 14, 29, 0, 0, 0, 0, 0), (18, .iload_n 3, 3, 0, 0, 0, 0, 0), (19, .iconst 0, 0, 0, 0, 0, 0, 0), (20, .sipush 999, 0, 0, 0, 0, 0, 999), (23, .invokestatic 214, 146, 3, 2, 0, 1, 0), (26, .ifCond .ne 6, 32, 0, 0, 0, 0, 0), (29, .bipush (-2), 0, 0, 0, 0, 0, (-2)), (31, .ireturn, 0, 0, 0, 0, 0, 0), (32, .aload_n 0, 0, 0, 0, 0, 0, 0), (33, .iload_n 1, 1, 0, 0, 0, 0, 0), (34, .iload_n 3, 3, 0, 0, 0, 0, 0), (35, .invokevirtual 385, 237, 3, 3, 11, 1, 0), (38, .istore 4, 4, 0, 0, 0, 0, 0), (40, .iconst 0, 0, 0, 0, 0, 0, 0), (41, .istore 5, 5, 0, 0, 0, 0, 0), (43, .iconst 0, 0, 0, 0, 0, 0, 0), (44, .istore 6, 6, 0, 0, 0, 0, 0), (46, .iload 6, 6, 0, 0, 0, 0, 0), (48, .sipush 300, 0, 0, 0, 0, 0, 300), (51, .if_icmp .ge 42, 93, 0, 0, 0, 0, 0), (54, .iload 5, 5, 0, 0, 0, 0, 0), (56, .aload_n 0, 0, 0, 0, 0, 0, 0), (57, .getfield 140, 10, 58, 0, 0, 0, 0), (60, .iload 6, 6, 0, 0, 0, 0, 0), (62, .baload, 0, 0, 0, 0, 0, 0), (63, .ifCond .eq 20, 83, 0, 0, 0, 0, 0), (66, .iload 6, 6, 0, 0, 0, 0, 0), (68, .invokestatic 382, 236, 1, 2, 0, 1, 0), (71, .iload_n 2, 2, 0, 0, 0, 0, 0), (72, .ishr, 0, 0, 0, 0, 0, 0), (73, .iconst 1, 0, 0, 0, 0, 0, 1), (74, .iand, 0, 0, 0, 0, 0, 0), (75, .iconst 1, 0, 0, 0, 0, 0, 1), (76, .if_icmp .ne 7, 83, 0, 0, 0, 0, 0), (79, .iconst 1, 0, 0, 0, 0, 0, 1), (80, .goto 4, 84, 0, 0, 0, 0, 0), (83, .iconst 0, 0, 0, 0, 0, 0, 0), (84, .iadd, 0, 0, 0, 0, 0, 0), (85, .istore 5, 5, 0, 0, 0, 0, 0), (87, .iinc 6 1, 6, 0, 0, 0, 0, 1), (90, .goto (-44), 46, 0, 0, 0, 0, 0), (93, .iload 4, 4, 0, 0, 0, 0, 0), (95, .ifCond .ne 7, 102, 0, 0, 0, 0, 0), (98, .iconst (-1), 0, 0, 0, 0, 0, (-1)), (99, .goto 24, 123, 0, 0, 0, 0, 0), (102, .iload 5, 5, 0, 0, 0, 0, 0), (104, .iload 4, 4, 0, 0, 0, 0, 0), (106, .if_icmp .ne 7, 113, 0, 0, 0, 0, 0), (109, .iconst 1, 0, 0, 0, 0, 0, 1), (110, .goto 13, 123, 0, 0, 0, 0, 0), (113, .iload 5, 5, 0, 0, 0, 0, 0), (115, .ifCond .ne 7, 122, 0, 0, 0, 0, 0), (118, .iconst 0, 0, 0, 0, 0, 0, 0), (119, .goto 4, 123, 0, 0, 0, 0, 0), (122, .iconst 2, 0, 0, 0, 0, 0, 2), (123, .ireturn, 0, 0, 0, 0, 0, 0)], [(46, [true, false, true, false, true, true, true])])
-- X10_next
def k240 : pM := ([(0, .aload_n 0, 0, 0, 0, 0, 0, 0), (1, .iload_n 1, 1, 0, 0, 0, 0, 0), (2, .invokevirtual 290, 176, 2, 3, 11, 1, 0), (5, .ifCond .ne 6, 11, 0, 0, 0, 0, 0), (8, .bipush (-2), 0, 0, 0, 0, 0, (-2)), (10, .ireturn, 0, 0, 0, 0, 0, 0), (11, .aload_n 0, 0, 0, 0, 0, 0, 0), (12, .iload_n 1, 1, 0, 0, 0, 0, 0), (13, .sipush 999, 0, 0, 0, 0, 0, 999), (16, .invokevirtual 385, 237, 3, 3, 11, 1, 0), (19, .istore_n 2, 2, 0, 0, 0, 0, 0), (20, .iconst (-1), 0, 0, 0, 0, 0, (-1)), (21, .istore_n 3, 3, 0, 0, 0, 0, 0), (22, .iload_n 2, 2, 0, 0, 0, 0, 0), (23, .istore 4, 4, 0, 0, 0, 0, 0), (25, .iconst 0, 0, 0, 0, 0, 0, 0), (26, .istore 5, 5, 0, 0, 0, 0, 0), (28, .iload 5, 5, 0, 0, 0, 0, 0), (30, .aload_n 0, 0, 0, 0, 0, 0, 0), (31, .getfield 17, 10, 13, 0, 0, 0, 0), (34, .iconst 2, 0, 0, 0, 0, 0, 2), (35, .iaload, 0, 0, 0, 0, 0, 0), (36, .if_icmp .ge 118, 154, 0, 0, 0, 0, 0), (39, .aload_n 0, 0, 0, 0, 0, 0, 0), (40, .getfield 58, 10, 27, 0, 0, 0, 0), (43, .iload 5, 5, 0, 0, 0, 0, 0), (45, .iaload, 0, 0, 0, 0, 0, 0), (46, .iconst (-1), 0, 0, 0, 0, 0, (-1)), (47, .if_icmp .ne 6, 53, 0, 0, 0, 0, 0), (50, .goto 98, 148, 0, 0, 0, 0, 0), (53, .iconst 0, 0, 0, 0, 0, 0, 0), (54, .istore 6, 6, 0, 0, 0, 0, 0), (56, .iconst 0, 0, 0, 0, 0, 0, 0), (57, .istore 7, 7, 0, 0, 0, 0, 0), (59, .iload 7, 7, 0, 0, 0, 0, 0), (61, .sipush 300, 0, 0, 0, 0, 0, 300), (64, .if_icmp .ge 47, 111, 0, 0, 0, 0, 0), (67, .iload 6, 6, 0, 0, 0, 0, 0), (69, .aload_n 0, 0, 0, 0, 0, 0, 0), (70, .getfield 140, 10, 58, 0, 0, 0, 0), (73, .iload 7, 7, 0, 0, 0, 0, 0), (75, .baload, 0, 0, 0, 0, 0, 0), (76, .ifCond .eq 25, 101, 0, 0, 0, 0, 0), (79, .iload 7, 7, 0, 0, 0, 0, 0), (81, .invokestatic 382, 236, 1, 2, 0, 1, 0), (84, .aload_n 0, 0, 0, 0, 0, 0, 0), (85, .iload 5, 5, 0, 0, 0, 0, 0), (87, .iconst (-1), 0, 0, 0, 0, 0, (-1)), (88, .invokevirtual 296, 181, 3, 3, 11, 1, 0), (91, .iconst (-1), 0, 0, 0, 0, 0, (-1)), (92, .ixor, 0, 0, 0, 0, 0, 0), (93, .iand, 0, 0, 0, 0, 0, 0), (94, .ifCond .ne 7, 101, 0, 0, 0, 0, 0), (97, .iconst 1, 0, 0, 0, 0, 0, 1), (98, .goto 4, 102, 0, 0, 0, 0, 0), (101, .iconst 0, 0, 0, 0, 0, 0, 0), (102, .iadd, 0, 0, 0, 0, 0, 0), (103, .istore 6, 6, 0, 0, 0, 0, 0), (105, .iinc 7 1, 7, 0, 0, 0, 0, 1), (108, .goto (-49), 59, 0, 0, 0, 0, 0), (111, .iload 6, 6, 0, 0, 0, 0, 0), (113, .iload_n 2, 2, 0, 0, 0, 0, 0), (114, .iload 6, 6, 0, 0, 0, 0, 0), (116, .isub, 0, 0, 0, 0, 0, 0), (117, .if_icmp .le 8, 125, 0, 0, 0, 0, 0), (120, .iload 6, 6, 0, 0, 0, 0, 0), (122, .goto 7, 129, 0, 0, 0, 0, 0), (125, .iload_n 2, 2, 0, 0, 0, 0, 0), (126, .iload 6, 6, 0, 0, 0, 0, 0), (128, .isub, 0, 0, 0, 0, 0, 0), (129, .istore 7, 7, 0, 0, 0, 0, 0), (131, .iload 7, 7, 0, 0, 0, 0, 0), (133, .iload 4, 4, 0, 0, 0, 0, 0), (135, .if_icmp .lt 6, 141, 0, 0, 0, 0, 0), (138, .goto 10, 148, 0, 0, 0, 0, 0), (141, .iload 7, 7, 0, 0, 0, 0, 0), (143, .istore 4, 4, 0, 0, 0, 0, 0), (145, .iload 5, 5, 0, 0, 0, 0, 0), (147, .istore_n 3, 3, 0, 0, 0, 0, 0), (148, .iinc 5 1, 5, 0, 0, 0, 0, 1), (151, .goto (-123), 28, 0, 0, 0, 0, 0), (154, .iload_n 3, 3, 0, 0, 0, 0, 0), (155, .ireturn, 0, 0, 0, 0, 0, 0)], [(28, [true, false, true, true, true, true, false, false]), (59, [true, false, true, true, true, true, true, true])])
-- X10_count
def k241 : pM := ([(0, .iconst 0, 0, 0, 0, 0, 0, 0), (1, .istore_n 2, 2, 0, 0, 0, 0, 0), (2, .iload_n 1, 1, 0, 0, 0, 0, 0), (3, .tableswitch 100 0 5 #[37, 75, 80, 85, 90, 95], 0, 37, 0, 0, 0, 0), (40, .iconst 0, 0, 0, 0, 0, 0, 0), (41, .istore_n 3, 3, 0, 0, 0, 0, 0), (42, .iload_n 3, 3, 0, 0, 0, 0, 0), (43, .aload_n 0, 0, 0, 0, 0, 0, 0), (44, .getfield 17, 10, 13, 0, 0, 0, 0), (47, .iconst 2, 0, 0, 0, 0, 0, 2), (48, .iaload, 0, 0, 0, 0, 0, 0), (49, .if_icmp .ge 27, 76, 0, 0, 0, 0, 0), (52, .iload_n 2, 2, 0, 0, 0, 0, 0), (53, .aload_n 0, 0, 0, 0, 0, 0, 0), (54, .getfield 58, 10, 27, 0, 0, 0, 0), (57, .iload_n 3, 3, 0, 0, 0, 0, 0), (58, .iaload, 0, 0, 0, 0, 0, 0), (59, .iconst (-1), 0, 0, 0, 0, 0, (-1)), (60, .if_icmp .ne 7, 67, 0, 0, 0, 0, 0), (63, .iconst 0, 0, 0, 0, 0, 0, 0), (64, .goto 4, 68, 0, 0, 0, 0, 0), (67, .iconst 1, 0, 0, 0, 0, 0, 1), (68, .iadd, 0, 0, 0, 0, 0, 0), (69, .istore_n 2, 2, 0, 0, 0, 0, 0), (70, .iinc 3 1, 3, 0, 0, 0, 0, 1), (73, .goto (-31), 42, 0, 0, 0, 0, 0), (76, .iload_n 2, 2, 0, 0, 0, 0, 0), (77, .ireturn, 0, 0, 0, 0, 0, 0), (78, .aload_n 0, 0, 0, 0, 0, 0, 0), (79, .invokevirtual 318, 192, 1, 3, 11, 1, 0), (82, .ireturn, 0, 0, 0, 0, 0, 0), (83, .aload_n 0, 0, 0, 0, 0, 0, 0), (84, .getfield 234, 10, 44, 0, 0, 0, 0), (87, .ireturn, 0, 0, 0, 0, 0, 0), (88, .aload_n 0, 0, 0, 0, 0, 0, 0), (89, .getfield 237, 10, 48, 0, 0, 0, 0), (92, .ireturn, 0, 0, 0, 0, 0, 0), (93, .aload_n 0, 0, 0, 0, 0, 0, 0), (94, .getfield 240, 10, 49, 0, 0, 0, 0), (97, .ireturn, 0, 0, 0, 0, 0, 0), (98, .aload_n 0, 0, 0, 0, 0, 0, 0), (99, .getfield 149, 10, 1, 0, 0, 0, 0), (102, .ireturn, 0, 0, 0, 0, 0, 0), (103, .iconst (-1), 0, 0, 0, 0, 0, (-1)), (104, .ireturn, 0, 0, 0, 0, 0, 0)], [(42, [true, false, true, true])])
-- J6_bitCount_0f7a4
def k242 : pM := ([(0, .iload_n 0, 0, 0, 0, 0, 0, 0), (1, .iload_n 0, 0, 0, 0, 0, 0, 0), (2, .iconst 1, 0, 0, 0, 0, 0, 1), (3, .iushr, 0, 0, 0, 0, 0, 0), (4, .ldc_w 265, 0, 0, 0, 0, 0, 1431655765), (7, .iand, 0, 0, 0, 0, 0, 0), (8, .isub, 0, 0, 0, 0, 0, 0), (9, .istore_n 0, 0, 0, 0, 0, 0, 0), (10, .iload_n 0, 0, 0, 0, 0, 0, 0), (11, .ldc_w 266, 0, 0, 0, 0, 0, 858993459), (14, .iand, 0, 0, 0, 0, 0, 0), (15, .iload_n 0, 0, 0, 0, 0, 0, 0), (16, .iconst 2, 0, 0, 0, 0, 0, 2), (17, .iushr, 0, 0, 0, 0, 0, 0), (18, .ldc_w 266, 0, 0, 0, 0, 0, 858993459), (21, .iand, 0, 0, 0, 0, 0, 0), (22, .iadd, 0, 0, 0, 0, 0, 0), (23, .istore_n 0, 0, 0, 0, 0, 0, 0), (24, .iload_n 0, 0, 0, 0, 0, 0, 0), (25, .iload_n 0, 0, 0, 0, 0, 0, 0), (26, .iconst 4, 0, 0, 0, 0, 0, 4), (27, .iushr, 0, 0, 0, 0, 0, 0), (28, .iadd, 0, 0, 0, 0, 0, 0), (29, .ldc_w 267, 0, 0, 0, 0, 0, 252645135), (32, .iand, 0, 0, 0, 0, 0, 0), (33, .istore_n 0, 0, 0, 0, 0, 0, 0), (34, .iload_n 0, 0, 0, 0, 0, 0, 0), (35, .iload_n 0, 0, 0, 0, 0, 0, 0), (36, .bipush 8, 0, 0, 0, 0, 0, 8), (38, .iushr, 0, 0, 0, 0, 0, 0), (39, .iadd, 0, 0, 0, 0, 0, 0), (40, .istore_n 0, 0, 0, 0, 0, 0, 0), (41, .iload_n 0, 0, 0, 0, 0, 0, 0), (42, .iload_n 0, 0, 0, 0, 0, 0, 0), (43, .bipush 16, 0, 0, 0, 0, 0, 16), (45, .iushr, 0, 0, 0, 0, 0, 0), (46, .iadd, 0, 0, 0, 0, 0, 0), (47, .istore_n 0, 0, 0, 0, 0, 0, 0), (48, .iload_n 0, 0, 0, 0, 0, 0, 0), (49, .bipush 63, 0, 0, 0, 0, 0, 63), (51, .iand, 0, 0, 0, 0, 0, 0), (52, .ireturn, 0, 0, 0, 0, 0, 0)], [])
-- J7_fill_53178
def k243 : pM := ([(0, .iconst 0, 0, 0, 0, 0, 0, 0), (1, .istore_n 2, 2, 0, 0, 0, 0, 0), (2, .aload_n 0, 0, 0, 0, 0, 0, 0), (3, .arraylength, 0, 0, 0, 0, 0, 0), (4, .istore_n 3, 3, 0, 0, 0, 0, 0), (5, .iload_n 2, 2, 0, 0, 0, 0, 0), (6, .iload_n 3, 3, 0, 0, 0, 0, 0), (7, .if_icmp .ge 13, 20, 0, 0, 0, 0, 0), (10, .aload_n 0, 0, 0, 0, 0, 0, 0), (11, .iload_n 2, 2, 0, 0, 0, 0, 0), (12, .iload_n 1, 1, 0, 0, 0, 0, 0), (13, .iastore, 0, 0, 0, 0, 0, 0), (14, .iinc 2 1, 2, 0, 0, 0, 0, 1), (17, .goto (-12), 5, 0, 0, 0, 0, 0), (20, .return_, 0, 0, 0, 0, 0, 0)], [(5, [true, true, true, true])])
-- J7_fill_031fb
def k244 : pM := ([(0, .iconst 0, 0, 0, 0, 0, 0, 0), (1, .istore_n 2, 2, 0, 0, 0, 0, 0), (2, .aload_n 0, 0, 0, 0, 0, 0, 0), (3, .arraylength, 0, 0, 0, 0, 0, 0), (4, .istore_n 3, 3, 0, 0, 0, 0, 0), (5, .iload_n 2, 2, 0, 0, 0, 0, 0), (6, .iload_n 3, 3, 0, 0, 0, 0, 0), (7, .if_icmp .ge 13, 20, 0, 0, 0, 0, 0), (10, .aload_n 0, 0, 0, 0, 0, 0, 0), (11, .iload_n 2, 2, 0, 0, 0, 0, 0), (12, .iload_n 1, 1, 0, 0, 0, 0, 0), (13, .bastore, 0, 0, 0, 0, 0, 0), (14, .iinc 2 1, 2, 0, 0, 0, 0, 1), (17, .goto (-12), 5, 0, 0, 0, 0, 0), (20, .return_, 0, 0, 0, 0, 0, 0)], [(5, [true, true, true, true])])
def Pr : List pM := [k0, k1, k2, k3, k4, k5, k6, k7, k8, k9, k10, k11, k12, k13, k14, k15, k16, k17, k18, k19, k20, k21, k22, k23, k24, k25, k26, k27, k28, k29, k30, k31, k32, k33, k34, k35, k36, k37, k38, k39, k40, k41, k42, k43, k44, k45, k46, k47, k48, k49, k50, k51, k52, k53, k54, k55, k56, k57, k58, k59, k60, k61, k62, k63, k64, k65, k66, k67, k68, k69, k70, k71, k72, k73, k74, k75, k76, k77, k78, k79, k80, k81, k82, k83, k84, k85, k86, k87, k88, k89, k90, k91, k92, k93, k94, k95, k96, k97, k98, k99, k100, k101, k102, k103, k104, k105, k106, k107, k108, k109, k110, k111, k112, k113, k114, k115, k116, k117, k118, k119, k120, k121, k122, k123, k124, k125, k126, k127, k128, k129, k130, k131, k132, k133, k134, k135, k136, k137, k138, k139, k140, k141, k142, k143, k144, k145, k146, k147, k148, k149, k150, k151, k152, k153, k154, k155, k156, k157, k158, k159, k160, k161, k162, k163, k164, k165, k166, k167, k168, k169, k170, k171, k172, k173, k174, k175, k176, k177, k178, k179, k180, k181, k182, k183, k184, k185, k186, k187, k188, k189, k190, k191, k192, k193, k194, k195, k196, k197, k198, k199, k200, k201, k202, k203, k204, k205, k206, k207, k208, k209, k210, k211, k212, k213, k214, k215, k216, k217, k218, k219, k220, k221, k222, k223, k224, k225, k226, k227, k228, k229, k230, k231, k232, k233, k234, k235, k236, k237, k238, k239, k240, k241, k242, k243, k244]
noncomputable def pEv : pK pRes := ev Sh Pr Tx
theorem pEg {M : pM} {me : Nat} (hM : Pr[me]? = some M) {d : Nat} (k pc : Nat) (L : pL) (st : List pV) (σ : pSt) : pEv me d pc L st σ = go Sh Tx pEv M me d k pc L st σ := ev_go Sh Pr Tx hM d k pc L st σ
theorem m0 : Pr[0]? = some k0 := rfl
theorem m1 : Pr[1]? = some k1 := rfl
theorem m2 : Pr[2]? = some k2 := rfl
theorem m3 : Pr[3]? = some k3 := rfl
theorem m4 : Pr[4]? = some k4 := rfl
theorem m5 : Pr[5]? = some k5 := rfl
theorem m6 : Pr[6]? = some k6 := rfl
theorem m7 : Pr[7]? = some k7 := rfl
theorem m8 : Pr[8]? = some k8 := rfl
theorem m9 : Pr[9]? = some k9 := rfl
theorem m10 : Pr[10]? = some k10 := rfl
theorem m11 : Pr[11]? = some k11 := rfl
theorem m12 : Pr[12]? = some k12 := rfl
theorem m13 : Pr[13]? = some k13 := rfl
theorem m14 : Pr[14]? = some k14 := rfl
theorem m15 : Pr[15]? = some k15 := rfl
theorem m16 : Pr[16]? = some k16 := rfl
theorem m17 : Pr[17]? = some k17 := rfl
theorem m18 : Pr[18]? = some k18 := rfl
theorem m19 : Pr[19]? = some k19 := rfl
theorem m20 : Pr[20]? = some k20 := rfl
theorem m21 : Pr[21]? = some k21 := rfl
theorem m22 : Pr[22]? = some k22 := rfl
theorem m23 : Pr[23]? = some k23 := rfl
theorem m24 : Pr[24]? = some k24 := rfl
theorem m25 : Pr[25]? = some k25 := rfl
theorem m26 : Pr[26]? = some k26 := rfl
theorem m27 : Pr[27]? = some k27 := rfl
theorem m28 : Pr[28]? = some k28 := rfl
theorem m29 : Pr[29]? = some k29 := rfl
theorem m30 : Pr[30]? = some k30 := rfl
theorem m31 : Pr[31]? = some k31 := rfl
theorem m32 : Pr[32]? = some k32 := rfl
theorem m33 : Pr[33]? = some k33 := rfl
theorem m34 : Pr[34]? = some k34 := rfl
theorem m35 : Pr[35]? = some k35 := rfl
theorem m36 : Pr[36]? = some k36 := rfl
theorem m37 : Pr[37]? = some k37 := rfl
theorem m38 : Pr[38]? = some k38 := rfl
theorem m39 : Pr[39]? = some k39 := rfl
theorem m40 : Pr[40]? = some k40 := rfl
theorem m41 : Pr[41]? = some k41 := rfl
theorem m42 : Pr[42]? = some k42 := rfl
theorem m43 : Pr[43]? = some k43 := rfl
theorem m44 : Pr[44]? = some k44 := rfl
theorem m45 : Pr[45]? = some k45 := rfl
theorem m46 : Pr[46]? = some k46 := rfl
theorem m47 : Pr[47]? = some k47 := rfl
theorem m48 : Pr[48]? = some k48 := rfl
theorem m49 : Pr[49]? = some k49 := rfl
theorem m50 : Pr[50]? = some k50 := rfl
theorem m51 : Pr[51]? = some k51 := rfl
theorem m52 : Pr[52]? = some k52 := rfl
theorem m53 : Pr[53]? = some k53 := rfl
theorem m54 : Pr[54]? = some k54 := rfl
theorem m55 : Pr[55]? = some k55 := rfl
theorem m56 : Pr[56]? = some k56 := rfl
theorem m57 : Pr[57]? = some k57 := rfl
theorem m58 : Pr[58]? = some k58 := rfl
theorem m59 : Pr[59]? = some k59 := rfl
theorem m60 : Pr[60]? = some k60 := rfl
theorem m61 : Pr[61]? = some k61 := rfl
theorem m62 : Pr[62]? = some k62 := rfl
theorem m63 : Pr[63]? = some k63 := rfl
theorem m64 : Pr[64]? = some k64 := rfl
theorem m65 : Pr[65]? = some k65 := rfl
theorem m66 : Pr[66]? = some k66 := rfl
theorem m67 : Pr[67]? = some k67 := rfl
theorem m68 : Pr[68]? = some k68 := rfl
theorem m69 : Pr[69]? = some k69 := rfl
theorem m70 : Pr[70]? = some k70 := rfl
theorem m71 : Pr[71]? = some k71 := rfl
theorem m72 : Pr[72]? = some k72 := rfl
theorem m73 : Pr[73]? = some k73 := rfl
theorem m74 : Pr[74]? = some k74 := rfl
theorem m75 : Pr[75]? = some k75 := rfl
theorem m76 : Pr[76]? = some k76 := rfl
theorem m77 : Pr[77]? = some k77 := rfl
theorem m78 : Pr[78]? = some k78 := rfl
theorem m79 : Pr[79]? = some k79 := rfl
theorem m80 : Pr[80]? = some k80 := rfl
theorem m81 : Pr[81]? = some k81 := rfl
theorem m82 : Pr[82]? = some k82 := rfl
theorem m83 : Pr[83]? = some k83 := rfl
theorem m84 : Pr[84]? = some k84 := rfl
theorem m85 : Pr[85]? = some k85 := rfl
theorem m86 : Pr[86]? = some k86 := rfl
theorem m87 : Pr[87]? = some k87 := rfl
theorem m88 : Pr[88]? = some k88 := rfl
theorem m89 : Pr[89]? = some k89 := rfl
theorem m90 : Pr[90]? = some k90 := rfl
theorem m91 : Pr[91]? = some k91 := rfl
theorem m92 : Pr[92]? = some k92 := rfl
theorem m93 : Pr[93]? = some k93 := rfl
theorem m94 : Pr[94]? = some k94 := rfl
theorem m95 : Pr[95]? = some k95 := rfl
theorem m96 : Pr[96]? = some k96 := rfl
theorem m97 : Pr[97]? = some k97 := rfl
theorem m98 : Pr[98]? = some k98 := rfl
theorem m99 : Pr[99]? = some k99 := rfl
theorem m100 : Pr[100]? = some k100 := rfl
theorem m101 : Pr[101]? = some k101 := rfl
theorem m102 : Pr[102]? = some k102 := rfl
theorem m103 : Pr[103]? = some k103 := rfl
theorem m104 : Pr[104]? = some k104 := rfl
theorem m105 : Pr[105]? = some k105 := rfl
theorem m106 : Pr[106]? = some k106 := rfl
theorem m107 : Pr[107]? = some k107 := rfl
theorem m108 : Pr[108]? = some k108 := rfl
theorem m109 : Pr[109]? = some k109 := rfl
theorem m110 : Pr[110]? = some k110 := rfl
theorem m111 : Pr[111]? = some k111 := rfl
theorem m112 : Pr[112]? = some k112 := rfl
theorem m113 : Pr[113]? = some k113 := rfl
theorem m114 : Pr[114]? = some k114 := rfl
theorem m115 : Pr[115]? = some k115 := rfl
theorem m116 : Pr[116]? = some k116 := rfl
theorem m117 : Pr[117]? = some k117 := rfl
theorem m118 : Pr[118]? = some k118 := rfl
theorem m119 : Pr[119]? = some k119 := rfl
theorem m120 : Pr[120]? = some k120 := rfl
theorem m121 : Pr[121]? = some k121 := rfl
theorem m122 : Pr[122]? = some k122 := rfl
theorem m123 : Pr[123]? = some k123 := rfl
theorem m124 : Pr[124]? = some k124 := rfl
theorem m125 : Pr[125]? = some k125 := rfl
theorem m126 : Pr[126]? = some k126 := rfl
theorem m127 : Pr[127]? = some k127 := rfl
theorem m128 : Pr[128]? = some k128 := rfl
theorem m129 : Pr[129]? = some k129 := rfl
theorem m130 : Pr[130]? = some k130 := rfl
theorem m131 : Pr[131]? = some k131 := rfl
theorem m132 : Pr[132]? = some k132 := rfl
theorem m133 : Pr[133]? = some k133 := rfl
theorem m134 : Pr[134]? = some k134 := rfl
theorem m135 : Pr[135]? = some k135 := rfl
theorem m136 : Pr[136]? = some k136 := rfl
theorem m137 : Pr[137]? = some k137 := rfl
theorem m138 : Pr[138]? = some k138 := rfl
theorem m139 : Pr[139]? = some k139 := rfl
theorem m140 : Pr[140]? = some k140 := rfl
theorem m141 : Pr[141]? = some k141 := rfl
theorem m142 : Pr[142]? = some k142 := rfl
theorem m143 : Pr[143]? = some k143 := rfl
theorem m144 : Pr[144]? = some k144 := rfl
theorem m145 : Pr[145]? = some k145 := rfl
theorem m146 : Pr[146]? = some k146 := rfl
theorem m147 : Pr[147]? = some k147 := rfl
theorem m148 : Pr[148]? = some k148 := rfl
theorem m149 : Pr[149]? = some k149 := rfl
theorem m150 : Pr[150]? = some k150 := rfl
theorem m151 : Pr[151]? = some k151 := rfl
theorem m152 : Pr[152]? = some k152 := rfl
theorem m153 : Pr[153]? = some k153 := rfl
theorem m154 : Pr[154]? = some k154 := rfl
theorem m155 : Pr[155]? = some k155 := rfl
theorem m156 : Pr[156]? = some k156 := rfl
theorem m157 : Pr[157]? = some k157 := rfl
theorem m158 : Pr[158]? = some k158 := rfl
theorem m159 : Pr[159]? = some k159 := rfl
theorem m160 : Pr[160]? = some k160 := rfl
theorem m161 : Pr[161]? = some k161 := rfl
theorem m162 : Pr[162]? = some k162 := rfl
theorem m163 : Pr[163]? = some k163 := rfl
theorem m164 : Pr[164]? = some k164 := rfl
theorem m165 : Pr[165]? = some k165 := rfl
theorem m166 : Pr[166]? = some k166 := rfl
theorem m167 : Pr[167]? = some k167 := rfl
theorem m168 : Pr[168]? = some k168 := rfl
theorem m169 : Pr[169]? = some k169 := rfl
theorem m170 : Pr[170]? = some k170 := rfl
theorem m171 : Pr[171]? = some k171 := rfl
theorem m172 : Pr[172]? = some k172 := rfl
theorem m173 : Pr[173]? = some k173 := rfl
theorem m174 : Pr[174]? = some k174 := rfl
theorem m175 : Pr[175]? = some k175 := rfl
theorem m176 : Pr[176]? = some k176 := rfl
theorem m177 : Pr[177]? = some k177 := rfl
theorem m178 : Pr[178]? = some k178 := rfl
theorem m179 : Pr[179]? = some k179 := rfl
theorem m180 : Pr[180]? = some k180 := rfl
theorem m181 : Pr[181]? = some k181 := rfl
theorem m182 : Pr[182]? = some k182 := rfl
theorem m183 : Pr[183]? = some k183 := rfl
theorem m184 : Pr[184]? = some k184 := rfl
theorem m185 : Pr[185]? = some k185 := rfl
theorem m186 : Pr[186]? = some k186 := rfl
theorem m187 : Pr[187]? = some k187 := rfl
theorem m188 : Pr[188]? = some k188 := rfl
theorem m189 : Pr[189]? = some k189 := rfl
theorem m190 : Pr[190]? = some k190 := rfl
theorem m191 : Pr[191]? = some k191 := rfl
theorem m192 : Pr[192]? = some k192 := rfl
theorem m193 : Pr[193]? = some k193 := rfl
theorem m194 : Pr[194]? = some k194 := rfl
theorem m195 : Pr[195]? = some k195 := rfl
theorem m196 : Pr[196]? = some k196 := rfl
theorem m197 : Pr[197]? = some k197 := rfl
theorem m198 : Pr[198]? = some k198 := rfl
theorem m199 : Pr[199]? = some k199 := rfl
theorem m200 : Pr[200]? = some k200 := rfl
theorem m201 : Pr[201]? = some k201 := rfl
theorem m202 : Pr[202]? = some k202 := rfl
theorem m203 : Pr[203]? = some k203 := rfl
theorem m204 : Pr[204]? = some k204 := rfl
theorem m205 : Pr[205]? = some k205 := rfl
theorem m206 : Pr[206]? = some k206 := rfl
theorem m207 : Pr[207]? = some k207 := rfl
theorem m208 : Pr[208]? = some k208 := rfl
theorem m209 : Pr[209]? = some k209 := rfl
theorem m210 : Pr[210]? = some k210 := rfl
theorem m211 : Pr[211]? = some k211 := rfl
theorem m212 : Pr[212]? = some k212 := rfl
theorem m213 : Pr[213]? = some k213 := rfl
theorem m214 : Pr[214]? = some k214 := rfl
theorem m215 : Pr[215]? = some k215 := rfl
theorem m216 : Pr[216]? = some k216 := rfl
theorem m217 : Pr[217]? = some k217 := rfl
theorem m218 : Pr[218]? = some k218 := rfl
theorem m219 : Pr[219]? = some k219 := rfl
theorem m220 : Pr[220]? = some k220 := rfl
theorem m221 : Pr[221]? = some k221 := rfl
theorem m222 : Pr[222]? = some k222 := rfl
theorem m223 : Pr[223]? = some k223 := rfl
theorem m224 : Pr[224]? = some k224 := rfl
theorem m225 : Pr[225]? = some k225 := rfl
theorem m226 : Pr[226]? = some k226 := rfl
theorem m227 : Pr[227]? = some k227 := rfl
theorem m228 : Pr[228]? = some k228 := rfl
theorem m229 : Pr[229]? = some k229 := rfl
theorem m230 : Pr[230]? = some k230 := rfl
theorem m231 : Pr[231]? = some k231 := rfl
theorem m232 : Pr[232]? = some k232 := rfl
theorem m233 : Pr[233]? = some k233 := rfl
theorem m234 : Pr[234]? = some k234 := rfl
theorem m235 : Pr[235]? = some k235 := rfl
theorem m236 : Pr[236]? = some k236 := rfl
theorem m237 : Pr[237]? = some k237 := rfl
theorem m238 : Pr[238]? = some k238 := rfl
theorem m239 : Pr[239]? = some k239 := rfl
theorem m240 : Pr[240]? = some k240 := rfl
theorem m241 : Pr[241]? = some k241 := rfl
theorem m242 : Pr[242]? = some k242 := rfl
theorem m243 : Pr[243]? = some k243 := rfl
theorem m244 : Pr[244]? = some k244 := rfl
end
section
/-! THE WORLD of a pure state, and what a pure step says of the machine's -/
def rv (ad : Nat → Nat → Nat) (v : pV) : Value := match v with
  | .inl x => .int x
  | .inr (.inl y) => .long y
  | .inr (.inr q) => .ref (ad q.1 q.2)
/-- what a field of references holds -/
def pFa (ad : Nat → Nat → Nat) (un : Nat) (c : Bool × Nat) (x : Int32) : Value := match c with
  | (true, r) => .ref (ad r 0)
  | (false, r) => if x = 1 then .ref (ad r 0) else if x = 2 then .ref un else .null
def pFv (ad : Nat → Nat → Nat) (un : Nat) (f : Nat → Int32) (g : Nat → Int64) (b c : Nat) : Value := match c with
  | 0 => .int (f b)
  | 1 => .long (g b)
  | 2 => .int (f b)
  | c + 3 => pFa ad un (pFr c) (f b)
def pRc (ad : Nat → Nat → Nat) (c : Nat) : Option Nat := match c with
  | 0 => none
  | r + 1 => some (ad r 0)
def pCell (ad : Nat → Nat → Nat) (un : Nat) (cA : Nat → ClassId) (q : pSh) (k j : Nat) (f : Nat → Int32) (g : Nat → Int64) : Option va_E := match q.1, j with
  | 0, 0 => some (.inl (cA 0, q.2.1, .inl f))
  | 1, 0 => some (.inl (cA 1, q.2.1, .inl f))
  | 2, 0 => some (.inl (cA 2, q.2.1, .inl f))
  | 3, 0 => some (.inl (cA 3, q.2.1, .inr (.inl g)))
  | 4, 0 => some (.inl (cA 4, q.2.1, .inr (.inr (.inr (.inr (fun i => pRc ad (q.2.2.getD i 0)))))))
  | 5, 0 => some (.inl (cA 5, q.2.1, .inr (.inr (.inr (.inr (fun i => some (ad k (i + 1))))))))
  | 5, i + 1 => if i < q.2.1 then (match q.2.2 with | w :: _ => some (.inl (cA 0, w, .inl f)) | [] => none) else none
  | ci + 7, 0 => some (.inr (ci, q.2.2.mapIdx fun b c => pFv ad un f g b c))
  | _, _ => none
section PWO
variable (S : List pSh) (ad : Nat → Nat → Nat) (un : Nat) (cA : Nat → ClassId) (dg : va_G) (A : Nat → Prop)
def pCe (σ : pSt) (k j : Nat) : Option va_E := match S[k]? with
  | none => none
  | some q => pCell ad un cA q k j (σ.1 k j) (σ.2 k)
/-- the heap holds the state -/
def pWo (σ : pSt) (H : Heap) : Prop := ∀ (k j : Nat) (e : va_E), pCe S ad un cA σ k j = some e → va_at dg vwCl (ad k j, e) H
/-- the cells are apart, and of a kind -/
def pAp : Prop := (∀ (σ σ' : pSt) (k j k' j' : Nat) (e e' : va_E), pCe S ad un cA σ k j = some e → pCe S ad un cA σ' k' j' = some e' → ad k j = ad k' j' → k' = k ∧ j' = j) ∧ ∀ (σ : pSt) (k j : Nat) (e : va_E), pCe S ad un cA σ k j = some e → A (ad k j)
def pTys : List (ClassId × FieldType) := [(cA 0, .int), (cA 1, .byte), (cA 2, .boolean), (cA 3, .long), (cA 4, .object RX5), (cA 5, .array .int)]
variable {S ad un cA dg A}
theorem pWo.sing {σ : pSt} {H : Heap} (h : pWo S ad un cA dg σ H) {k j : Nat} {e : va_E} (he : pCe S ad un cA σ k j = some e) : va_P dg vwCl [(ad k j, e)] H := by
  intro i q hq
  cases i with
  | zero => cases hq; exact h k j e he
  | succ i => cases hq
theorem dset_ne {D : pD} {k j i : Nat} {x : Int32} {k' j' : Nat} (h : ¬ (k' = k ∧ j' = j)) : dset D k j i x k' j' = D k' j' := if_neg h
theorem dset_eq {D : pD} {k j i : Nat} {x : Int32} : dset D k j i x k j = upd (D k j) i x := if_pos ⟨rfl, rfl⟩
theorem lset_ne {D : pDL} {k i : Nat} {x : Int64} {k' : Nat} (h : ¬ k' = k) : lset D k i x k' = D k' := if_neg h
theorem lset_eq {D : pDL} {k i : Nat} {x : Int64} : lset D k i x k = vp_updL (D k) i x := if_pos rfl
theorem dcpy_ne {D : pD} {s sp d dp n : Nat} {k' j' : Nat} (h : ¬ (k' = d ∧ j' = 0)) : dcpy D s sp d dp n k' j' = D k' j' := if_neg h
theorem dcpy_eq {D : pD} {s sp d dp n : Nat} : dcpy D s sp d dp n d 0 = va_cpy (D s 0) (D d 0) sp dp n := if_pos ⟨rfl, rfl⟩
/-- one cell was written -/
theorem pWo.put {σ σ' : pSt} {H H1 : Heap} {k j : Nat} {e0 : va_E} (hJ : pAp S ad un cA A) (h : pWo S ad un cA dg σ H) (he : pCe S ad un cA σ k j = some e0) (hn : ∀ e, pCe S ad un cA σ' k j = some e → va_at dg vwCl (ad k j, e) H1) (ho : ∀ k' j', ¬ (k' = k ∧ j' = j) → ∀ e, pCe S ad un cA σ' k' j' = some e → pCe S ad un cA σ k' j' = some e) (oq : ∀ q : Nat, q ≠ ad k j → H1[q]? = H[q]?) : pWo S ad un cA dg σ' H1 := by
  intro k' j' e h'
  by_cases hk : k' = k ∧ j' = j
  · obtain ⟨rfl, rfl⟩ := hk
    exact hn e h'
  · have h2 := ho k' j' hk e h'
    exact (h k' j' e h2).kept (oq _ fun q => hk (hJ.1 σ σ k j k' j' e0 e he h2 q.symm))
/-- what an array of numbers is -/
def pNi (S : List pSh) (ad : Nat → Nat → Nat) (un : Nat) (cA : Nat → ClassId) (k j t n : Nat) : Prop := ∃ q, S[k]? = some q ∧ ∀ f g, pCell ad un cA q k j f g = some (.inl (cA t, n, .inl f))
def pNl (S : List pSh) (ad : Nat → Nat → Nat) (un : Nat) (cA : Nat → ClassId) (k n : Nat) : Prop := ∃ q, S[k]? = some q ∧ ∀ f g, pCell ad un cA q k 0 f g = some (.inl (cA 3, n, .inr (.inl g)))
theorem pNi.ce {k j t n : Nat} (h : pNi S ad un cA k j t n) (σ : pSt) : pCe S ad un cA σ k j = some (.inl (cA t, n, .inl (σ.1 k j))) := by
  obtain ⟨q, h1, h2⟩ := h
  unfold pCe
  rw [h1]
  exact h2 _ _
theorem pNl.ce {k n : Nat} (h : pNl S ad un cA k n) (σ : pSt) : pCe S ad un cA σ k 0 = some (.inl (cA 3, n, .inr (.inl (σ.2 k)))) := by
  obtain ⟨q, h1, h2⟩ := h
  unfold pCe
  rw [h1]
  exact h2 _ _
theorem pArr_inv {ρ : Type} {k j : Nat} {F : Nat → Nat → Option ρ} {o : ρ} (h : pArr S k j F = some o) : ∃ t n, F t n = some o ∧ t < 4 ∧ (t ≠ 3 → pNi S ad un cA k j t n) ∧ (t = 3 → j = 0 ∧ pNl S ad un cA k n) := by
  unfold pArr at h
  cases hq : S[k]? with
  | none => rw [hq] at h; cases h
  | some q =>
    rw [hq] at h
    obtain ⟨kd, n, fs⟩ := q
    dsimp only at h
    split at h
    · exact ⟨0, _, h, by omega, fun _ => ⟨_, hq, fun f g => rfl⟩, fun z => by cases z⟩
    · exact ⟨1, _, h, by omega, fun _ => ⟨_, hq, fun f g => rfl⟩, fun z => by cases z⟩
    · exact ⟨2, _, h, by omega, fun _ => ⟨_, hq, fun f g => rfl⟩, fun z => by cases z⟩
    · exact ⟨3, _, h, by omega, fun z => absurd rfl z, fun _ => ⟨rfl, _, hq, fun f g => rfl⟩⟩
    · split at h
      · next hlt =>
        split at h
        · exact ⟨0, _, h, by omega, fun _ => ⟨_, hq, fun f g => if_pos hlt⟩, fun z => by cases z⟩
        · cases h
      · cases h
    · cases h
theorem pCell_g {q : pSh} {k j : Nat} {f : Nat → Int32} {g g' : Nat → Int64} (h : j ≠ 0) : pCell ad un cA q k j f g = pCell ad un cA q k j f g' := by
  cases j with
  | zero => exact absurd rfl h
  | succ j =>
    unfold pCell
    split <;> first | rfl | (rename_i z; cases z; done) | simp_all
theorem pCe_dset {σ : pSt} {k j i : Nat} {x : Int32} {k' j' : Nat} (h : ¬ (k' = k ∧ j' = j)) : pCe S ad un cA (dset σ.1 k j i x, σ.2) k' j' = pCe S ad un cA σ k' j' := by
  unfold pCe
  dsimp only
  rw [dset_ne h]
theorem pCe_dcpy {σ : pSt} {s sp d dp n : Nat} {k' j' : Nat} (h : ¬ (k' = d ∧ j' = 0)) : pCe S ad un cA (dcpy σ.1 s sp d dp n, σ.2) k' j' = pCe S ad un cA σ k' j' := by
  unfold pCe
  dsimp only
  rw [dcpy_ne h]
theorem pCe_lset {σ : pSt} {k i : Nat} {x : Int64} {k' j' : Nat} (h : ¬ (k' = k ∧ j' = 0)) : pCe S ad un cA (σ.1, lset σ.2 k i x) k' j' = pCe S ad un cA σ k' j' := by
  unfold pCe
  dsimp only
  split
  · rfl
  · by_cases e : k' = k
    · exact pCell_g fun z => h ⟨e, z⟩
    · rw [lset_ne e]
theorem mapIdx_upd {fs : List Nat} {F F' : Nat → Nat → Value} {b : Nat} {v : Value} (h1 : ∀ j c, j ≠ b → F' j c = F j c) (h2 : ∀ c, fs[b]? = some c → F' b c = v) : (fs.mapIdx F).set b v = fs.mapIdx F' := by
  apply List.ext_getElem?
  intro j
  rw [List.getElem?_set]
  by_cases e : b = j
  · subst e
    rw [if_pos rfl]
    by_cases hl : b < fs.length
    · rw [if_pos (by simpa using hl), List.getElem?_mapIdx, List.getElem?_eq_getElem hl]
      simp only [Option.map_some]
      rw [h2 _ (List.getElem?_eq_getElem hl)]
    · rw [if_neg (by simpa using hl), List.getElem?_eq_none (by simp; omega)]
  · rw [if_neg e, List.getElem?_mapIdx, List.getElem?_mapIdx]
    cases fs[j]? with
    | none => rfl
    | some c => simp only [Option.map_some]; rw [h1 j c (fun z => e z.symm)]
theorem pTys_at {t : Nat} (h : t < 4) : (pTys cA)[t]? = some (cA t, match t with | 0 => .int | 1 => .byte | 2 => .boolean | _ => .long) := by
  match t, h with
  | 0, _ => rfl
  | 1, _ => rfl
  | 2, _ => rfl
  | 3, _ => rfl
end PWO
/-! the locals -/
def pLv (ad : Nat → Nat → Nat) (ls : Array Slot) (nL : Nat) (L : pL) : Prop := ls.size = nL ∧ lv_wf ls ∧ ∀ (i : Nat) (v : pV), L[i]? = some (some v) → (rv ad v).category = 1 → ls[i]? = some (.val (rv ad v))
def pAs (ad : Nat → Nat → Nat) (L : pL) : List (Nat × Value) := (List.range L.length).filterMap fun i => match L[i]? with
  | some (some v) => if (rv ad v).category = 1 then some (i, rv ad v) else none
  | _ => none
theorem pLv.has {ad : Nat → Nat → Nat} {ls : Array Slot} {nL : Nat} {L : pL} (h : pLv ad ls nL L) : lv_has ls nL (pAs ad L) := by
  refine ⟨h.1, h.2.1, fun q hq => ?_⟩
  obtain ⟨i, -, hi⟩ := List.mem_filterMap.mp hq
  split at hi
  · next v hv =>
    split at hi
    · next hc =>
      cases hi
      exact h.2.2 i v hv hc
    · cases hi
  · cases hi
theorem pAs_mem {ad : Nat → Nat → Nat} {L : pL} {i : Nat} {v : pV} (h : L[i]? = some (some v)) (hc : (rv ad v).category = 1) : (i, rv ad v) ∈ pAs ad L := by
  refine List.mem_filterMap.mpr ⟨i, List.mem_range.mpr (List.getElem?_eq_some_iff.mp h).1, ?_⟩
  rw [h]
  dsimp only
  rw [if_pos hc]
/-- behind a store -/
theorem pLv.sto {ad : Nat → Nat → Nat} {ls' : Array Slot} {nL i : Nat} {L : pL} {v : pV} (h : lv_has ls' nL ((i, rv ad v) :: (pAs ad L).filter (fun q => !(q.1 == i) && !(q.1 + 1 == i && q.2.category == 2)))) : pLv ad ls' nL (L.set i (some v)) := by
  refine ⟨h.1, h.2.1, fun k w hk hc => ?_⟩
  by_cases e : k = i
  · subst e
    rw [List.getElem?_set] at hk
    split at hk
    · split at hk
      · cases hk
        exact h.2.2 (k, rv ad v) List.mem_cons_self
      · cases hk
    · next z => exact absurd rfl z
  · rw [List.getElem?_set_ne (Ne.symm e)] at hk
    refine h.2.2 (k, rv ad w) (List.mem_cons_of_mem _ (List.mem_filter.mpr ⟨pAs_mem hk hc, ?_⟩))
    simp [e, hc]
theorem pLv.mask {ad : Nat → Nat → Nat} {ls : Array Slot} {nL : Nat} {L L' : pL} (h : pLv ad ls nL L) (hm : ∀ (i : Nat) (v : pV), L'[i]? = some (some v) → L[i]? = some (some v)) : pLv ad ls nL L' := ⟨h.1, h.2.1, fun i v hi hc => h.2.2 i v (hm i v hi) hc⟩
theorem pMask_sub : ∀ (keep : List Bool) (L : pL) (i : Nat) (v : pV), (pMask keep L)[i]? = some (some v) → L[i]? = some (some v)
  | [], _, i, v, h => by simp [pMask] at h
  | true :: k, [], i, v, h => by simp [pMask] at h
  | false :: k, [], i, v, h => by simp [pMask] at h
  | true :: k, w :: l, 0, v, h => by simpa [pMask] using h
  | false :: k, w :: l, 0, v, h => by simp [pMask] at h
  | true :: k, w :: l, i + 1, v, h => by
    have := pMask_sub k l i v (by simpa [pMask] using h)
    simpa using this
  | false :: k, w :: l, i + 1, v, h => by
    have := pMask_sub k l i v (by simpa [pMask] using h)
    simpa using this
theorem pCut_sub (M : pM) (pc : Nat) (L : pL) (i : Nat) (v : pV) (h : (pCut M pc L)[i]? = some (some v)) : L[i]? = some (some v) := by
  unfold pCut at h
  split at h
  · exact h
  · exact pMask_sub _ _ _ _ h
theorem rv_cat1 {ad : Nat → Nat → Nat} {v : pV} (h : ∀ y, v ≠ .inr (.inl y)) : (rv ad v).category = 1 := by
  match v, h with
  | .inl x, _ => rfl
  | .inr (.inl y), h => exact absurd rfl (h y)
  | .inr (.inr q), _ => rfl
end
section
section PG
variable {ρ : Type} {o : ρ}
theorem I1_inv {st : List pV} {F : Int32 → List pV → Option ρ} (h : pI1 st F = some o) : ∃ x r, st = .inl x :: r ∧ F x r = some o := by
  unfold pI1 at h; split at h
  · exact ⟨_, _, rfl, h⟩
  · cases h
theorem I2_inv {st : List pV} {F : Int32 → Int32 → List pV → Option ρ} (h : pI2 st F = some o) : ∃ x y r, st = .inl y :: .inl x :: r ∧ F x y r = some o := by
  unfold pI2 at h; split at h
  · exact ⟨_, _, _, rfl, h⟩
  · cases h
theorem L2_inv {st : List pV} {F : Int64 → Int64 → List pV → Option ρ} (h : pL2 st F = some o) : ∃ x y r, st = .inr (.inl y) :: .inr (.inl x) :: r ∧ F x y r = some o := by
  unfold pL2 at h; split at h
  · exact ⟨_, _, _, rfl, h⟩
  · cases h
theorem R1_inv {st : List pV} {F : Nat → Nat → List pV → Option ρ} (h : pR1 st F = some o) : ∃ k j r, st = .inr (.inr (k, j)) :: r ∧ F k j r = some o := by
  unfold pR1 at h; split at h
  · exact ⟨_, _, _, rfl, h⟩
  · cases h
theorem RI_inv {st : List pV} {F : Nat → Nat → Int32 → List pV → Option ρ} (h : pRI st F = some o) : ∃ k j i r, st = .inl i :: .inr (.inr (k, j)) :: r ∧ F k j i r = some o := by
  unfold pRI at h; split at h
  · exact ⟨_, _, _, _, rfl, h⟩
  · cases h
theorem RII_inv {st : List pV} {F : Nat → Nat → Int32 → Int32 → List pV → Option ρ} (h : pRII st F = some o) : ∃ k j i x r, st = .inl x :: .inl i :: .inr (.inr (k, j)) :: r ∧ F k j i x r = some o := by
  unfold pRII at h; split at h
  · exact ⟨_, _, _, _, _, rfl, h⟩
  · cases h
theorem RIL_inv {st : List pV} {F : Nat → Nat → Int32 → Int64 → List pV → Option ρ} (h : pRIL st F = some o) : ∃ k j i x r, st = .inr (.inl x) :: .inl i :: .inr (.inr (k, j)) :: r ∧ F k j i x r = some o := by
  unfold pRIL at h; split at h
  · exact ⟨_, _, _, _, _, rfl, h⟩
  · cases h
theorem V1_inv {st : List pV} {F : pV → List pV → Option ρ} (h : pV1 st F = some o) : ∃ v r, st = v :: r ∧ F v r = some o := by
  unfold pV1 at h; split at h
  · exact ⟨_, _, rfl, h⟩
  · cases h
theorem V2_inv {st : List pV} {F : pV → pV → List pV → Option ρ} (h : pV2 st F = some o) : ∃ v u r, st = v :: u :: r ∧ F v u r = some o := by
  unfold pV2 at h; split at h
  · exact ⟨_, _, _, rfl, h⟩
  · cases h
theorem VR_inv {st : List pV} {F : pV → Nat → Nat → List pV → Option ρ} (h : pVR st F = some o) : ∃ v k j r, st = v :: .inr (.inr (k, j)) :: r ∧ F v k j r = some o := by
  unfold pVR at h; split at h
  · exact ⟨_, _, _, _, rfl, h⟩
  · cases h
theorem E0_inv {st : List pV} {F : Option ρ} (h : pE0 st F = some o) : st = [] ∧ F = some o := by
  unfold pE0 at h; split at h
  · exact ⟨rfl, h⟩
  · cases h
theorem E1_inv {st : List pV} {F : Int32 → Option ρ} (h : pE1 st F = some o) : ∃ x, st = [.inl x] ∧ F x = some o := by
  unfold pE1 at h; split at h
  · exact ⟨_, rfl, h⟩
  · cases h
theorem ER_inv {st : List pV} {F : Nat → Nat → Option ρ} (h : pER st F = some o) : ∃ k j, st = [.inr (.inr (k, j))] ∧ F k j = some o := by
  unfold pER at h; split at h
  · exact ⟨_, _, rfl, h⟩
  · cases h
theorem In_inv {i : Int32} {n : Nat} {F : Nat → Option ρ} (h : pIn i n F = some o) : vp_in i n ∧ F i.toNatClampNeg = some o := by
  unfold pIn at h; split at h
  · cases h
  · next q => exact ⟨q, h⟩
theorem LdI_inv {L : pL} {i : Nat} {F : Int32 → Option ρ} (h : pLdI L i F = some o) : ∃ x, L[i]? = some (some (.inl x)) ∧ F x = some o := by
  unfold pLdI at h; split at h
  · next q => exact ⟨_, q, h⟩
  · cases h
theorem LdR_inv {L : pL} {i : Nat} {F : Nat → Nat → Option ρ} (h : pLdR L i F = some o) : ∃ k j, L[i]? = some (some (.inr (.inr (k, j)))) ∧ F k j = some o := by
  unfold pLdR at h; split at h
  · next q => exact ⟨_, _, q, h⟩
  · cases h
theorem Sto_inv {L : pL} {i : Nat} {v : pV} {F : pL → Option ρ} (h : pSto L i v F = some o) : F (L.set i (some v)) = some o := by
  unfold pSto at h; split at h
  · exact h
  · cases h
theorem C1_inv {v : pV} {F : Option ρ} (h : pC1 v F = some o) : (∀ y, v ≠ .inr (.inl y)) ∧ F = some o := by
  unfold pC1 at h; split at h
  · cases h
  · next q => exact ⟨fun y e => q y e, h⟩
theorem Obj_inv {S : List pSh} {k j a : Nat} {F : pSh → Option ρ} (h : pObj S k j a F = some o) : ∃ n fs, S[k]? = some (a + 7, n, fs) ∧ j = 0 ∧ F (a + 7, n, fs) = some o := by
  unfold pObj at h
  split at h
  · cases h
  · next q hq =>
    obtain ⟨kd, n, fs⟩ := q
    split at h
    · next hb =>
      have : kd = a + 7 := Nat.eq_of_beq_eq_true hb
      subst this
      exact ⟨n, fs, hq, rfl, h⟩
    · cases h
theorem pick_inv {fs : List Nat} {F : Nat → Option ρ} : ∀ {j : Nat}, pPick fs j F = some o → ∃ r, fs[j]? = some (r + 1) ∧ F r = some o := by
  induction fs with
  | nil => intro j h; cases h
  | cons c t ih =>
    intro j h
    unfold pPick at h
    split at h
    · next hj =>
      subst hj
      cases c with
      | zero => cases h
      | succ r => exact ⟨r, rfl, h⟩
    · next hj =>
      obtain ⟨r, h1, h2⟩ := ih h
      cases j with
      | zero => exact absurd rfl hj
      | succ j => exact ⟨r, h1, h2⟩
theorem SwT_inv {x : Int32} {pc : Nat} {d : Int} {F : Nat → Option ρ} : ∀ {offs : List Int} {lo : Int}, pSwT x lo pc offs d F = some o → (∃ (i : Nat) (off : Int), offs[i]? = some off ∧ x.toInt = lo + i ∧ F ((pc : Int) + off).toNat = some o) ∨ ((x.toInt < lo ∨ lo + offs.length ≤ x.toInt) ∧ F ((pc : Int) + d).toNat = some o) := by
  intro offs
  induction offs with
  | nil =>
    intro lo h
    refine Or.inr ⟨?_, h⟩
    simp
    omega
  | cons q t ih =>
    intro lo h
    unfold pSwT at h
    split at h
    · next he => exact Or.inl ⟨0, q, rfl, by simpa using he, h⟩
    · next he =>
      rcases ih h with ⟨i, off, h1, h2, h3⟩ | ⟨h1, h2⟩
      · exact Or.inl ⟨i + 1, off, by simpa using h1, by omega, h3⟩
      · refine Or.inr ⟨?_, h2⟩
        simp
        omega
theorem SwL_inv {x : Int32} {pc : Nat} {d : Int} {F : Nat → Option ρ} : ∀ {ps : List (Int × Int)}, pSwL x pc ps d F = some o → F ((pc : Int) + Op.lookupswitch.offset ps d x.toInt).toNat = some o := by
  intro ps
  induction ps with
  | nil => intro h; exact h
  | cons q t ih =>
    intro h
    unfold pSwL at h
    obtain ⟨q1, q2⟩ := q
    rw [Op.lookupswitch.offset_cons]
    split at h
    · next he => rw [if_pos he.symm]; exact h
    · next he => rw [if_neg fun q => he q.symm]; exact ih h
theorem SwL_in (ps : List (Int × Int)) (d x : Int) : Op.lookupswitch.offset ps d x = d ∨ ∃ q ∈ ps, Op.lookupswitch.offset ps d x = q.2 := by
  induction ps with
  | nil => exact Or.inl rfl
  | cons q t ih =>
    obtain ⟨q1, q2⟩ := q
    rw [Op.lookupswitch.offset_cons]
    split
    · exact Or.inr ⟨_, List.mem_cons_self, rfl⟩
    · rcases ih with h | ⟨q, h1, h2⟩
      · exact Or.inl h
      · exact Or.inr ⟨q, List.mem_cons_of_mem _ h1, h2⟩
theorem Tk_inv {F : List pV → List pV → Option ρ} : ∀ {n : Nat} {acc st : List pV}, pTk n acc st F = some o → ∃ as r, st = as ++ r ∧ (as.length = n ∧ ∀ v ∈ as, ∀ y, v ≠ .inr (.inl y)) ∧ pRm 8 r = true ∧ F (as.reverse ++ acc) r = some o
  | 0, acc, st, h => by
    unfold pTk at h
    split at h
    · next q => exact ⟨[], st, rfl, ⟨rfl, fun v hv => by cases hv⟩, q, h⟩
    · cases h
  | n + 1, acc, [], h => by unfold pTk at h; cases h
  | n + 1, acc, v :: r, h => by
    unfold pTk at h
    obtain ⟨hc, h⟩ := C1_inv h
    obtain ⟨as, r', h1, h2, h3, h4⟩ := Tk_inv h
    refine ⟨v :: as, r', by rw [h1]; rfl, ⟨by simp [h2.1], fun u hu => ?_⟩, h3, by simpa using h4⟩
    rcases List.mem_cons.mp hu with e | e
    · subst e; exact hc
    · exact h2.2 u e
theorem Rm_sum {ad : Nat → Nat → Nat} : ∀ {n : Nat} {r : List pV}, pRm n r = true → ((r.map (rv ad)).map fun v => v.category).sum ≤ n
  | n, [], _ => by simp
  | n + 1, .inl x :: r, h => by
    have := Rm_sum (ad := ad) (n := n) (r := r) (by simpa [pRm] using h)
    simp only [List.map_cons, List.sum_cons, rv, Value.category] at this ⊢
    omega
  | n + 1, .inr (.inr x) :: r, h => by
    have := Rm_sum (ad := ad) (n := n) (r := r) (by simpa [pRm] using h)
    simp only [List.map_cons, List.sum_cons, rv, Value.category] at this ⊢
    omega
  | n + 2, .inr (.inl x) :: r, h => by
    have := Rm_sum (ad := ad) (n := n) (r := r) (by simpa [pRm] using h)
    simp only [List.map_cons, List.sum_cons, rv, Value.category] at this ⊢
    omega
  | 0, _ :: _, h => by simp [pRm] at h
  | 1, .inr (.inl x) :: r, h => by simp [pRm] at h
theorem Dep_inv {d c : Nat} {F : Nat → Option ρ} (h : pDep d c F = some o) : ∃ d', d' < d ∧ F d' = some o := by
  unfold pDep at h
  split at h
  · split at h
    · cases h
    · exact ⟨_, Nat.lt_succ_self _, h⟩
  · split at h
    · next q => exact ⟨_, by simp [Nat.blt] at q; omega, h⟩
    · cases h
end PG
end
section
/-- from this pure frame the machine comes to Q -/
def pG (p : Program) (l : Launch) (e : Env) (R : Room) (s : State) (m : MethodId) (args : Array Value) (below : List Frame) (meth : Method) (c : Code) (Q : State → Prop) (S : List pSh) (ad : Nat → Nat → Nat) (un : Nat) (cA : Nat → ClassId) (dg : va_G) (A : Nat → Prop) (H0 : Heap) (nL : Nat) (pc : Nat) (L : pL) (st : List pV) (σ : pSt) : Prop :=
  ∀ (H : Heap) (locs : List Loc) (ls : Array Slot), pWo S ad un cA dg σ H → va_S A H0 H locs → pLv ad ls nL L → W p l e R s m args below meth c H locs 0 0 Q (F0 m pc ls (st.map (rv ad)))
def pLen (ins : Instr) (b : Nat) : Nat := match ins with
  | .bipush _ => 2
  | .ldc _ => 2
  | .iload _ => 2
  | .aload _ => 2
  | .istore _ => 2
  | .astore _ => 2
  | .sipush _ => 3
  | .ldc_w _ => 3
  | .ldc2_w _ => 3
  | .iinc _ _ => 3
  | .goto _ => 3
  | .ifCond _ _ => 3
  | .if_icmp _ _ => 3
  | .getfield _ => 3
  | .putfield _ => 3
  | .invokevirtual _ => 3
  | .invokestatic _ => 3
  | .tableswitch _ _ _ _ => b
  | .lookupswitch _ _ => b
  | _ => 1
def pPn (b : Nat) : MethodName := match b with
  | 0 => arraycopyName
  | 1 => Lib.Math.max.name
  | _ => Lib.Math.min.name
/-- what else an entry must be -/
def pXex (own : String) (Ts : List Cond) (nL pc : Nat) (x : pX) : Prop := match x with
  | (ins, a, b, c, _, _, z) => match ins with
    | .iconst n => Int32.ofInt n = z
    | .bipush n => (Int8.ofInt n).toInt32 = z
    | .sipush n => (Int16.ofInt n).toInt32 = z
    | .ldc i => b = 0 → Cond.constant own i z ∈ Ts
    | .ldc_w i => Cond.constant own i z ∈ Ts
    | .ldc2_w i => Cond.constantLong own i (lN a) ∈ Ts
    | .lconst n => (n : Nat) = a
    | .iload_n n => (n : Nat) = a
    | .aload_n n => (n : Nat) = a
    | .iload n => n = a
    | .aload n => n = a
    | .istore_n n => (n : Nat) = a ∧ a < nL
    | .astore_n n => (n : Nat) = a ∧ a < nL
    | .istore n => n = a ∧ a < nL
    | .astore n => n = a ∧ a < nL
    | .iinc n q => n = a ∧ Int32.ofInt q = z ∧ a < nL
    | .goto off => (pc : Int) + off = (a : Int)
    | .ifCond _ off => (pc : Int) + off = (a : Int)
    | .if_icmp _ off => (pc : Int) + off = (a : Int)
    | .tableswitch d lo hi offs => hi = lo + offs.toList.length - 1 ∧ 0 ≤ (pc : Int) + d ∧ ∀ q ∈ offs.toList, 0 ≤ (pc : Int) + q
    | .lookupswitch d ps => (ps.toList.zip (ps.toList.drop 1)).all (fun (a, next) => a.1 < next.1) = true ∧ 0 ≤ (pc : Int) + d ∧ ∀ q ∈ ps.toList, 0 ≤ (pc : Int) + q.2
    | .getfield i => ∃ (C : String) (T : u_T) (N : Nat), vwCl[a]? = some (C, T, N) ∧ b < N ∧ Cond.fieldLink own i (T b).1 (T b).2.1 (T b).2.2.1 ∈ Ts
    | .putfield i => ∃ (C : String) (T : u_T) (N : Nat), vwCl[a]? = some (C, T, N) ∧ b < N ∧ Cond.fieldLink own i (T b).1 (T b).2.1 (T b).2.2.1 ∈ Ts ∧ (T b).2.2.2 = false
    | .invokestatic i => c = 0 → Cond.methodLink own i (pPn b) ∈ Ts
    | _ => True
/-- the sorts: their fields' types, names apart, their words -/
def pClOk (Ts : List Cond) : Prop := ∀ (ci : Nat) (C : String) (T : u_T) (N : Nat), vwCl[ci]? = some (C, T, N) → (∃ ty0 : Nat → FieldType, ∀ k, k < N → parseFieldDescriptor (T k).2.2.1 = some (ty0 k)) ∧ (∀ a, a < N → ∀ b, b < N → a ≠ b → (T a).2.1 ≠ (T b).2.1) ∧ ∀ w ∈ u_ws C T N, w ∈ Ts
/-- a field's code is its type's -/
def pCodeOk (c : Nat) (d : String) : Prop := match c with
  | 0 => parseFieldDescriptor d = some .int
  | 1 => parseFieldDescriptor d = some .long
  | 2 => parseFieldDescriptor d = some .char
  | _ => ∃ t, parseFieldDescriptor d = some t ∧ ((∃ q, t = .array q) ∨ ∃ q, t = .object q)
def pShOk (S : List pSh) : Prop := ∀ (k ci n : Nat) (fs : List Nat) (C : String) (T : u_T) (N : Nat), S[k]? = some (ci + 7, n, fs) → vwCl[ci]? = some (C, T, N) → ∀ b c, fs[b]? = some c → pCodeOk c (T b).2.2.1
section PG2
variable {p : Program} {l : Launch} {e : Env} {R : Room} {s : State} {m : MethodId} {args : Array Value} {below : List Frame} {meth : Method} {c : Code} {Q : State → Prop} {S : List pSh} {ad : Nat → Nat → Nat} {un : Nat} {cA : Nat → ClassId} {dg : va_G} {A : Nat → Prop} {H0 : Heap} {nL : Nat}
variable {cc : ByteArray} {pc : Nat} {L : pL} {st r : List pV} {σ : pSt}

theorem g_iald (hx : p.tables.exec = Jvm.exec) (hb : c.code = cc) (hK : va_K dg vwCl (pTys cA) s) {k j n : Nat} {i : Int32} (hn : pNi S ad un cA k j 0 n) (hin : vp_in i n) (hdg : decode cc pc = .ok (.iaload, 1)) (kk : pG p l e R s m args below meth c Q S ad un cA dg A H0 nL (pc + 1) L (.inl (σ.1 k j i.toNatClampNeg) :: r) σ) : pG p l e R s m args below meth c Q S ad un cA dg A H0 nL pc L (.inl i :: .inr (.inr (k, j)) :: r) σ := fun H locs ls hW hS hL => va_iald hx hb hK (hW.sing (hn.ce σ)) 0 0 rfl rfl hin hdg (kk H locs ls hW hS hL)
theorem g_bald (hx : p.tables.exec = Jvm.exec) (hb : c.code = cc) (hK : va_K dg vwCl (pTys cA) s) {k j n : Nat} {i : Int32} (hn : pNi S ad un cA k j 1 n) (hin : vp_in i n) (hdg : decode cc pc = .ok (.baload, 1)) (kk : pG p l e R s m args below meth c Q S ad un cA dg A H0 nL (pc + 1) L (.inl (σ.1 k j i.toNatClampNeg) :: r) σ) : pG p l e R s m args below meth c Q S ad un cA dg A H0 nL pc L (.inl i :: .inr (.inr (k, j)) :: r) σ := fun H locs ls hW hS hL => va_bald hx hb hK (hW.sing (hn.ce σ)) 0 1 rfl rfl hin hdg (kk H locs ls hW hS hL)
theorem g_zald (hx : p.tables.exec = Jvm.exec) (hb : c.code = cc) (hK : va_K dg vwCl (pTys cA) s) {k j n : Nat} {i : Int32} (hn : pNi S ad un cA k j 2 n) (hin : vp_in i n) (hdg : decode cc pc = .ok (.baload, 1)) (kk : pG p l e R s m args below meth c Q S ad un cA dg A H0 nL (pc + 1) L (.inl (σ.1 k j i.toNatClampNeg) :: r) σ) : pG p l e R s m args below meth c Q S ad un cA dg A H0 nL pc L (.inl i :: .inr (.inr (k, j)) :: r) σ := fun H locs ls hW hS hL => va_zald hx hb hK (hW.sing (hn.ce σ)) 0 2 rfl rfl hin hdg (kk H locs ls hW hS hL)
theorem g_lald (hx : p.tables.exec = Jvm.exec) (hb : c.code = cc) (hK : va_K dg vwCl (pTys cA) s) {k n : Nat} {i : Int32} (hn : pNl S ad un cA k n) (hin : vp_in i n) (hdg : decode cc pc = .ok (.laload, 1)) (kk : pG p l e R s m args below meth c Q S ad un cA dg A H0 nL (pc + 1) L (.inr (.inl (σ.2 k i.toNatClampNeg)) :: r) σ) : pG p l e R s m args below meth c Q S ad un cA dg A H0 nL pc L (.inl i :: .inr (.inr (k, 0)) :: r) σ := fun H locs ls hW hS hL => va_lald hx hb hK (hW.sing (hn.ce σ)) 0 3 rfl rfl hin hdg (kk H locs ls hW hS hL)
theorem g_alen (hx : p.tables.exec = Jvm.exec) (hb : c.code = cc) (hK : va_K dg vwCl (pTys cA) s) {k j t n : Nat} (ht : t < 4) (hn : pNi S ad un cA k j t n) (hdg : decode cc pc = .ok (.arraylength, 1)) (kk : pG p l e R s m args below meth c Q S ad un cA dg A H0 nL (pc + 1) L (.inl (nI n) :: r) σ) : pG p l e R s m args below meth c Q S ad un cA dg A H0 nL pc L (.inr (.inr (k, j)) :: r) σ := fun H locs ls hW hS hL => va_alen hx hb hK (hW.sing (hn.ce σ)) 0 t rfl (pTys_at ht) rfl hdg (kk H locs ls hW hS hL)
theorem g_alenl (hx : p.tables.exec = Jvm.exec) (hb : c.code = cc) (hK : va_K dg vwCl (pTys cA) s) {k n : Nat} (hn : pNl S ad un cA k n) (hdg : decode cc pc = .ok (.arraylength, 1)) (kk : pG p l e R s m args below meth c Q S ad un cA dg A H0 nL (pc + 1) L (.inl (nI n) :: r) σ) : pG p l e R s m args below meth c Q S ad un cA dg A H0 nL pc L (.inr (.inr (k, 0)) :: r) σ := fun H locs ls hW hS hL => va_alen hx hb hK (hW.sing (hn.ce σ)) 0 3 rfl rfl rfl hdg (kk H locs ls hW hS hL)
theorem g_aald4 (hx : p.tables.exec = Jvm.exec) (hb : c.code = cc) (hK : va_K dg vwCl (pTys cA) s) {k n y : Nat} {fs : List Nat} {i : Int32} (hS4 : S[k]? = some (4, n, fs)) (hin : vp_in i n) (hf : fs[i.toNatClampNeg]? = some (y + 1)) (hdg : decode cc pc = .ok (.aaload, 1)) (kk : pG p l e R s m args below meth c Q S ad un cA dg A H0 nL (pc + 1) L (.inr (.inr (y, 0)) :: r) σ) : pG p l e R s m args below meth c Q S ad un cA dg A H0 nL pc L (.inl i :: .inr (.inr (k, 0)) :: r) σ := by
  intro H locs ls hW hS hL
  have he : pCe S ad un cA σ k 0 = some (.inl (cA 4, n, .inr (.inr (.inr (.inr (fun i => pRc ad (fs.getD i 0))))))) := by unfold pCe; rw [hS4]; rfl
  refine va_aldq hx hb hK (hW.sing he) 0 4 rfl rfl hin hdg ?_
  have e1 : va_rf (pRc ad (fs.getD i.toNatClampNeg 0)) = .ref (ad y 0) := by rw [List.getD_eq_getElem?_getD, hf]; rfl
  rw [e1]
  exact kk H locs ls hW hS hL
theorem g_aald5 (hx : p.tables.exec = Jvm.exec) (hb : c.code = cc) (hK : va_K dg vwCl (pTys cA) s) {k n : Nat} {fs : List Nat} {i : Int32} (hS4 : S[k]? = some (5, n, fs)) (hin : vp_in i n) (hdg : decode cc pc = .ok (.aaload, 1)) (kk : pG p l e R s m args below meth c Q S ad un cA dg A H0 nL (pc + 1) L (.inr (.inr (k, i.toNatClampNeg + 1)) :: r) σ) : pG p l e R s m args below meth c Q S ad un cA dg A H0 nL pc L (.inl i :: .inr (.inr (k, 0)) :: r) σ := by
  intro H locs ls hW hS hL
  have he : pCe S ad un cA σ k 0 = some (.inl (cA 5, n, .inr (.inr (.inr (.inr (fun i => some (ad k (i + 1)))))))) := by unfold pCe; rw [hS4]; rfl
  have hlt : i.toNatClampNeg < n := Nat.not_le.mp fun q => hin (Or.inr q)
  exact W.aald (v := .ref (ad k (i.toNatClampNeg + 1))) (ty := .array .int) hx hb (hW k 0 _ he) ((hK.2 5 _ rfl).1 n (fun j => va_rf (some (ad k (j + 1))))) rfl (fun q => by cases q) (by show ¬ (i < 0 ∨ (arrV _ _ _).slots.size ≤ _); rw [arrV_size]; exact hin) (by show (arrV _ _ _).slots[_]? = _; rw [arrV_read _ _ hlt]; rfl) rfl rfl hdg (kk H locs ls hW hS hL)
theorem g_iast (hx : p.tables.exec = Jvm.exec) (hb : c.code = cc) (hK : va_K dg vwCl (pTys cA) s) (hJ : pAp S ad un cA A) {k j n : Nat} {i x : Int32} (hn : pNi S ad un cA k j 0 n) (hin : vp_in i n) (hdg : decode cc pc = .ok (.iastore, 1)) (kk : pG p l e R s m args below meth c Q S ad un cA dg A H0 nL (pc + 1) L r (dset σ.1 k j i.toNatClampNeg x, σ.2)) : pG p l e R s m args below meth c Q S ad un cA dg A H0 nL pc L (.inl x :: .inl i :: .inr (.inr (k, j)) :: r) σ := by
  intro H locs ls hW hS hL
  refine W.iast hx hb (hW k j _ (hn.ce σ)) ((hK.2 0 _ rfl).1 n (fun q => .int (σ.1 k j q))) (fun q => by cases q) (by show ¬ (i < 0 ∨ (arrV _ _ _).slots.size ≤ _); rw [arrV_size]; exact hin) rfl rfl hdg fun H1 e1 z oq => ?_
  refine kk H1 _ ls (hW.put hJ (hn.ce σ) (fun e' h' => ?_) (fun k' j' hne e' h' => by rw [pCe_dset hne] at h'; exact h') oq) (hS.put z oq (hJ.2 σ k j _ (hn.ce σ))) hL
  rw [hn.ce] at h'
  cases h'
  show H1[ad k j]? = some (vp_cell _ _)
  rw [e1]
  rw [vp_cell_i, vp_cell_i, arrV_store]
  congr 2
  funext q
  show _ = Value.int (dset σ.1 k j _ _ k j q)
  rw [dset_eq]
  by_cases hq : q = i.toNatClampNeg
  · subst hq
    simp [updV, upd, narrow]
  · simp [updV, upd, hq]
theorem g_bast (hx : p.tables.exec = Jvm.exec) (hb : c.code = cc) (hK : va_K dg vwCl (pTys cA) s) (hJ : pAp S ad un cA A) {k j n : Nat} {i x : Int32} (hn : pNi S ad un cA k j 1 n) (hin : vp_in i n) (hdg : decode cc pc = .ok (.bastore, 1)) (kk : pG p l e R s m args below meth c Q S ad un cA dg A H0 nL (pc + 1) L r (dset σ.1 k j i.toNatClampNeg x.toInt8.toInt32, σ.2)) : pG p l e R s m args below meth c Q S ad un cA dg A H0 nL pc L (.inl x :: .inl i :: .inr (.inr (k, j)) :: r) σ := by
  intro H locs ls hW hS hL
  refine W.bast hx hb (hW k j _ (hn.ce σ)) ((hK.2 1 _ rfl).1 n (fun q => .int (σ.1 k j q))) (fun q => by cases q) (by show ¬ (i < 0 ∨ (arrV _ _ _).slots.size ≤ _); rw [arrV_size]; exact hin) rfl rfl hdg fun H1 e1 z oq => ?_
  refine kk H1 _ ls (hW.put hJ (hn.ce σ) (fun e' h' => ?_) (fun k' j' hne e' h' => by rw [pCe_dset hne] at h'; exact h') oq) (hS.put z oq (hJ.2 σ k j _ (hn.ce σ))) hL
  rw [hn.ce] at h'
  cases h'
  show H1[ad k j]? = some (vp_cell _ _)
  rw [e1]
  rw [vp_cell_i, vp_cell_i, arrV_store]
  congr 2
  funext q
  show _ = Value.int (dset σ.1 k j _ _ k j q)
  rw [dset_eq]
  by_cases hq : q = i.toNatClampNeg
  · subst hq
    simp [updV, upd, narrow]
  · simp [updV, upd, hq]
theorem g_zast (hx : p.tables.exec = Jvm.exec) (hb : c.code = cc) (hK : va_K dg vwCl (pTys cA) s) (hJ : pAp S ad un cA A) {k j n : Nat} {i x : Int32} (hn : pNi S ad un cA k j 2 n) (hin : vp_in i n) (hdg : decode cc pc = .ok (.bastore, 1)) (kk : pG p l e R s m args below meth c Q S ad un cA dg A H0 nL (pc + 1) L r (dset σ.1 k j i.toNatClampNeg (x &&& 1), σ.2)) : pG p l e R s m args below meth c Q S ad un cA dg A H0 nL pc L (.inl x :: .inl i :: .inr (.inr (k, j)) :: r) σ := by
  intro H locs ls hW hS hL
  refine W.zast hx hb (hW k j _ (hn.ce σ)) ((hK.2 2 _ rfl).1 n (fun q => .int (σ.1 k j q))) (fun q => by cases q) (by show ¬ (i < 0 ∨ (arrV _ _ _).slots.size ≤ _); rw [arrV_size]; exact hin) rfl rfl hdg fun H1 e1 z oq => ?_
  refine kk H1 _ ls (hW.put hJ (hn.ce σ) (fun e' h' => ?_) (fun k' j' hne e' h' => by rw [pCe_dset hne] at h'; exact h') oq) (hS.put z oq (hJ.2 σ k j _ (hn.ce σ))) hL
  rw [hn.ce] at h'
  cases h'
  show H1[ad k j]? = some (vp_cell _ _)
  rw [e1]
  rw [vp_cell_i, vp_cell_i, arrV_store]
  congr 2
  funext q
  show _ = Value.int (dset σ.1 k j _ _ k j q)
  rw [dset_eq]
  by_cases hq : q = i.toNatClampNeg
  · subst hq
    simp [updV, upd, narrow]
  · simp [updV, upd, hq]
theorem g_last (hx : p.tables.exec = Jvm.exec) (hb : c.code = cc) (hK : va_K dg vwCl (pTys cA) s) (hJ : pAp S ad un cA A) {k n : Nat} {i : Int32} {x : Int64} (hn : pNl S ad un cA k n) (hin : vp_in i n) (hdg : decode cc pc = .ok (.lastore, 1)) (kk : pG p l e R s m args below meth c Q S ad un cA dg A H0 nL (pc + 1) L r (σ.1, lset σ.2 k i.toNatClampNeg x)) : pG p l e R s m args below meth c Q S ad un cA dg A H0 nL pc L (.inr (.inl x) :: .inl i :: .inr (.inr (k, 0)) :: r) σ := by
  intro H locs ls hW hS hL
  refine W.last hx hb (hW k 0 _ (hn.ce σ)) ((hK.2 3 _ rfl).1 n (fun q => .long (σ.2 k q))) (fun q => by cases q) (by show ¬ (i < 0 ∨ (arrV _ _ _).slots.size ≤ _); rw [arrV_size]; exact hin) rfl rfl hdg fun H1 e1 z oq => ?_
  refine kk H1 _ ls (hW.put hJ (hn.ce σ) (fun e' h' => ?_) (fun k' j' hne e' h' => by rw [pCe_lset hne] at h'; exact h') oq) (hS.put z oq (hJ.2 σ k 0 _ (hn.ce σ))) hL
  rw [hn.ce] at h'
  cases h'
  show H1[ad k 0]? = some (vp_cell _ _)
  rw [e1]
  rw [vp_cell_l, vp_cell_l, arrV_store]
  congr 2
  funext q
  show _ = Value.long (lset σ.2 k _ _ k q)
  rw [lset_eq]
  by_cases hq : q = i.toNatClampNeg
  · subst hq
    simp [updV, vp_updL]
  · simp [updV, vp_updL, hq]
theorem pCe_obj {k a n : Nat} {fs : List Nat} (h : S[k]? = some (a + 7, n, fs)) (σ : pSt) : pCe S ad un cA σ k 0 = some (.inr (a, fs.mapIdx fun b c => pFv ad un (σ.1 k 0) (σ.2 k) b c)) := by
  unfold pCe
  rw [h]
  rfl
theorem g_get (hx : p.tables.exec = Jvm.exec) (hb : c.code = cc) {own : String} {Ts : List Cond} (hts : ∀ w ∈ Ts, w.before args s = true) (hCl : pClOk Ts) (hown : s.vm.findClass own = some m.cls) (hK : va_K dg vwCl (pTys cA) s) {k a b n i cd : Nat} {fs : List Nat} {C : String} {T : u_T} {N : Nat} (hq : S[k]? = some (a + 7, n, fs)) (hc : vwCl[a]? = some (C, T, N)) (hbN : b < N) (hlk : Cond.fieldLink own i (T b).1 (T b).2.1 (T b).2.2.1 ∈ Ts) (hcd : fs[b]? = some cd) {v : pV} (hv : rv ad v = pFv ad un (σ.1 k 0) (σ.2 k) b cd) (hdg : decode cc pc = .ok (.getfield i, 3)) (kk : pG p l e R s m args below meth c Q S ad un cA dg A H0 nL (pc + 3) L (v :: r) σ) : pG p l e R s m args below meth c Q S ad un cA dg A H0 nL pc L (.inr (.inr (k, 0)) :: r) σ := by
  intro H locs ls hW hS hL
  have kk' := kk H locs ls hW hS hL
  rw [List.map_cons, hv] at kk'
  exact va_get hx hb hts (hCl a C T N hc).2.2 hown hK (hW.sing (pCe_obj hq σ)) 0 rfl hc b hbN (hts _ hlk) (fun _ h => h) (by rw [List.getElem?_mapIdx, hcd]; rfl) hdg kk'
theorem g_put (hx : p.tables.exec = Jvm.exec) (hb : c.code = cc) {own : String} {Ts : List Cond} (hts : ∀ w ∈ Ts, w.before args s = true) (hCl : pClOk Ts) (hown : s.vm.findClass own = some m.cls) (hK : va_K dg vwCl (pTys cA) s) (hJ : pAp S ad un cA A) {k a b n i cd : Nat} {fs : List Nat} {C : String} {T : u_T} {N : Nat} (hq : S[k]? = some (a + 7, n, fs)) (hc : vwCl[a]? = some (C, T, N)) (hbN : b < N) (hlk : Cond.fieldLink own i (T b).1 (T b).2.1 (T b).2.2.1 ∈ Ts) (hfin : (T b).2.2.2 = false) (hcd : fs[b]? = some cd) {v : pV} {ty : FieldType} (hd : parseFieldDescriptor (T b).2.2.1 = some ty) (hn : narrow ty (rv ad v) = rv ad v) (hfit : fits ty (rv ad v) = true) {σ2 : pSt} (hv : pFv ad un (σ2.1 k 0) (σ2.2 k) b cd = rv ad v) (hv2 : ∀ j c, j ≠ b → pFv ad un (σ2.1 k 0) (σ2.2 k) j c = pFv ad un (σ.1 k 0) (σ.2 k) j c) (ho : ∀ k' j', ¬ (k' = k ∧ j' = 0) → pCe S ad un cA σ2 k' j' = pCe S ad un cA σ k' j') (hdg : decode cc pc = .ok (.putfield i, 3)) (kk : pG p l e R s m args below meth c Q S ad un cA dg A H0 nL (pc + 3) L r σ2) : pG p l e R s m args below meth c Q S ad un cA dg A H0 nL pc L (v :: .inr (.inr (k, 0)) :: r) σ := by
  intro H locs ls hW hS hL
  obtain ⟨⟨ty0, hty⟩, hnm, hin⟩ := hCl a C T N hc
  have he := pCe_obj (ad := ad) (un := un) (cA := cA) hq σ
  have hap := va_apart (own := own) hts hin ty0 hty hnm hK hc
  obtain ⟨q, h1, cell, q1, q2, q3, q4⟩ := hW k 0 _ he
  have hr : q = (C, T, N) := Option.some.inj (h1.symm.trans hc)
  subst hr
  obtain ⟨hSl, hfc, kC, hkC, hkind⟩ := hK.1 a _ hc
  obtain ⟨cf, kf, fi, f, hi, hsl⟩ := hSl b hbN
  have hlay := hts _ (hin _ (u_in_lay hbN))
  unfold u_lay at hlay
  rw [if_neg (by rw [hfin]; decide)] at hlay
  have hst := (u_facts hfc hkC (u_lays hts hin hbN) hi).1
  have h6 := u_store hfc hkC hkind hlay hi hd hn hfit
  have hl : b < (fs.mapIdx fun b c => pFv ad un (σ.1 k 0) (σ.2 k) b c).length := by rw [List.length_mapIdx]; exact (List.getElem?_eq_some_iff.mp hcd).1
  refine W.putK hx hb (f := f) ⟨hown, hts _ hlk, ⟨_, _, _, hi⟩, hst⟩ (by rw [q2]; exact h6) q1 q3 (by rw [hsl]; exact k2_hasslot (q4 b hbN)) rfl rfl hdg fun H1 e1 e2 e3 => ?_
  rw [hsl] at e1 ⊢
  refine kk H1 _ ls (hW.put hJ he (fun e' h' => ?_) (fun k' j' hne e' h' => by rw [ho k' j' hne] at h'; exact h') e3) (hS.put e2 e3 (hJ.2 σ k 0 _ he)) hL
  rw [pCe_obj hq] at h'
  cases h'
  have hset : (fs.mapIdx fun b c => pFv ad un (σ.1 k 0) (σ.2 k) b c).set b (rv ad v) = fs.mapIdx fun b c => pFv ad un (σ2.1 k 0) (σ2.2 k) b c := mapIdx_upd hv2 (fun c h => by rw [hcd] at h; cases h; exact hv)
  rw [← hset]
  exact ⟨_, hc, t_OB.to (V := updV (vp_V _) b (rv ad v)) ⟨_, e1, q2, q3, t_set q4 hap hbN (rv ad v)⟩ (fun j _ => vp_updV_set hl (rv ad v) j)⟩
end PG2
end
section
section PG3
variable {p : Program} {l : Launch} {e : Env} {R : Room} {s : State} {m : MethodId} {args : Array Value} {below : List Frame} {meth : Method} {c : Code} {Q : State → Prop} {S : List pSh} {ad : Nat → Nat → Nat} {un : Nat} {cA : Nat → ClassId} {dg : va_G} {A : Nat → Prop} {H0 : Heap} {nL : Nat}
variable {cc : ByteArray} {pc : Nat} {L : pL} {st r : List pV} {σ : pSt}

theorem g_copy (hx : p.tables.exec = Jvm.exec) (hb : c.code = cc) (hml : c.maxLocals = nL) {own : String} {index : Nat} (hown : s.vm.findClass own = some m.cls) (hlink : (Cond.methodLink own index arraycopyName).before args s = true) (hnat : (Cond.native arraycopyName).before args s = true) (hstat : (Cond.static arraycopyName).before args s = true) (hini : (Cond.initialized "java/lang/System").before args s = true) (hK : va_K dg vwCl (pTys cA) s) (hJ : pAp S ad un cA A) {s0 d n0 n1 : Nat} {sp dp n : Int32} (hs : pNi S ad un cA s0 0 0 n0) (hd : pNi S ad un cA d 0 0 n1) (h1 : ¬ sp < 0) (h2 : ¬ dp < 0) (h3 : ¬ n < 0) (h4 : sp.toNatClampNeg + n.toNatClampNeg ≤ n0) (h5 : dp.toNatClampNeg + n.toNatClampNeg ≤ n1) (hframes : 1 ≤ R.frames) (hlocals : 8 + (nativeFrameWords "java/lang/System" "arraycopy" 5 + 11) ≤ R.locals) (hrm : pRm 8 r = true) (hdg : decode cc pc = .ok (.invokestatic index, 3)) (kk : pG p l e R s m args below meth c Q S ad un cA dg A H0 nL (pc + 3) L r (dcpy σ.1 s0 sp.toNatClampNeg d dp.toNatClampNeg n.toNatClampNeg, σ.2)) : pG p l e R s m args below meth c Q S ad un cA dg A H0 nL pc L (.inl n :: .inl dp :: .inr (.inr (d, 0)) :: .inl sp :: .inr (.inr (s0, 0)) :: r) σ := by
  intro H locs ls hW hS hL
  have hrs := Rm_sum (ad := ad) hrm
  have nn : ∀ z : Int32, ¬ z < 0 → z.toInt = (z.toNatClampNeg : Int) := by
    intro z hz
    have hz0 : (0 : Int) ≤ z.toInt := by
      have := Int32.not_lt.mp hz
      simpa using Int32.le_iff_toInt_le.mp this
    show z.toInt = ((z.toInt.toNat : Nat) : Int)
    omega
  intro T hT X
  have hc0 : H[ad s0 0]? = some (vp_cell (cA 0) (n0, .inl (σ.1 s0 0))) := hW s0 0 _ (hs.ce σ)
  have hc1 : H[ad d 0]? = some (vp_cell (cA 0) (n1, .inl (σ.1 d 0))) := hW d 0 _ (hd.ce σ)
  obtain ⟨-, k0, hk0, cm0, hkk0⟩ := (hK.2 0 _ rfl).1 n0 (fun j => .int (σ.1 s0 0 j))
  obtain ⟨-, k1, hk1, cm1, hkk1⟩ := (hK.2 0 _ rfl).1 n1 (fun j => .int (σ.1 d 0 j))
  obtain ⟨vm', X', step⟩ := X.arraycopy hx hown hlink hnat hstat hini (src := ad s0 0) (dst := ad d 0) (cs := vp_cell (cA 0) (n0, .inl (σ.1 s0 0))) (cd := vp_cell (cA 0) (n1, .inl (σ.1 d 0))) (srcPos := sp) (destPos := dp) (n := n) (by rw [hT]; exact hc0) (by rw [hT]; exact hc1)
    (fun _ h => by cases h) (fun _ h => by cases h) (fun h => by cases h) (fun h => by cases h) hk0 hk1 hkk0 hkk1 (by simp [refKind]) h1 h2 h3
    (by rw [nn sp h1, nn n h3]; show ¬ _ > ((arrV (cA 0) n0 (fun j => .int (σ.1 s0 0 j))).slots.size : Int); rw [arrV_size]; omega)
    (by rw [nn dp h2, nn n h3]; show ¬ _ > ((arrV (cA 0) n1 (fun j => .int (σ.1 d 0 j))).slots.size : Int); rw [arrV_size]; omega)
    (fun vm₁ _ i hi => by
      have e1 : (vp_cell (cA 0) (n0, .inl (σ.1 s0 0))).slots.getD (sp.toNatClampNeg + i) .null = .int (σ.1 s0 0 (sp.toNatClampNeg + i)) := by
        show (arrV (cA 0) n0 (fun j => .int (σ.1 s0 0 j))).slots.getD _ _ = _
        rw [Array.getD_eq_getD_getElem?, arrV_read _ _ (by omega)]
        rfl
      refine ⟨?_, ?_⟩
      · rw [e1]; rfl
      · rw [e1]; exact trivial)
    (g := F0 m pc ls ((.inl n :: .inl dp :: .inr (.inr (d, 0)) :: .inl sp :: .inr (.inr (s0, 0)) :: r : List pV).map (rv ad))) rfl (by rw [hml]; exact hL.1) (rest := r.map (rv ad)) rfl (by rw [hb]; exact hdg) hframes (by show 2 * 0 + _ + _ ≤ _; omega)
  have e1 : copied (vp_cell (cA 0) (n0, .inl (σ.1 s0 0))) (vp_cell (cA 0) (n1, .inl (σ.1 d 0))) sp dp n = vp_cell (cA 0) (n1, .inl (va_cpy (σ.1 s0 0) (σ.1 d 0) sp.toNatClampNeg dp.toNatClampNeg n.toNatClampNeg)) := va_copied (fun z => .int z) (cA 0) (cA 0) (σ.1 s0 0) (σ.1 d 0) h4
  rw [e1] at X' step
  have hl : ad d 0 < H.size := (Array.getElem?_eq_some_iff.mp hc1).1
  have hheap : ((T.setVm vm').setCell (ad d 0) (vp_cell (cA 0) (n1, .inl (va_cpy (σ.1 s0 0) (σ.1 d 0) sp.toNatClampNeg dp.toNatClampNeg n.toNatClampNeg)))).heap = H.setIfInBounds (ad d 0) (vp_cell (cA 0) (n1, .inl (va_cpy (σ.1 s0 0) (σ.1 d 0) sp.toNatClampNeg dp.toNatClampNeg n.toNatClampNeg))) := by rw [← hT]; rfl
  have oq : ∀ q : Nat, q ≠ ad d 0 → (H.setIfInBounds (ad d 0) (vp_cell (cA 0) (n1, .inl (va_cpy (σ.1 s0 0) (σ.1 d 0) sp.toNatClampNeg dp.toNatClampNeg n.toNatClampNeg))))[q]? = H[q]? := fun q hq => by simp [Array.getElem?_setIfInBounds, Ne.symm hq]
  have hAd := hJ.2 σ d 0 _ (hd.ce σ)
  have hW' : pWo S ad un cA dg (dcpy σ.1 s0 sp.toNatClampNeg d dp.toNatClampNeg n.toNatClampNeg, σ.2) (H.setIfInBounds (ad d 0) (vp_cell (cA 0) (n1, .inl (va_cpy (σ.1 s0 0) (σ.1 d 0) sp.toNatClampNeg dp.toNatClampNeg n.toNatClampNeg)))) := by
    refine hW.put hJ (hd.ce σ) (fun e' h' => ?_) (fun k' j' hne e' h' => by rw [pCe_dcpy hne] at h'; exact h') oq
    rw [hd.ce] at h'
    cases h'
    show (H.setIfInBounds (ad d 0) _)[ad d 0]? = some (vp_cell (cA 0) (n1, .inl (dcpy σ.1 s0 _ d _ _ d 0)))
    rw [dcpy_eq]
    simp [Array.getElem?_setIfInBounds, hl]
  obtain ⟨t, a1, b1⟩ := kk _ _ ls hW' ⟨by simp; exact hS.1, fun q g1 g2 => by
      rw [oq q (fun e => g2 (by rw [e]; exact hAd))]
      exact hS.2.1 q g1 g2, fun q hq => by
      rcases List.mem_append.mp hq with h | h
      · exact hS.2.2 q h
      · obtain ⟨z, -, hz⟩ := List.mem_map.mp h
        rw [← hz]
        exact hAd⟩ hL _ hheap X'
  exact ⟨t, step t a1, b1⟩
theorem g_iload_n (hx : p.tables.exec = Jvm.exec) (hb : c.code = cc) {n : Fin 4} {a : Nat} {x : Int32} (hdg : decode cc pc = .ok (.iload_n n, 1)) (hi : (n : Nat) = a) (hl : L[a]? = some (some (.inl x))) (kk : pG p l e R s m args below meth c Q S ad un cA dg A H0 nL (pc + 1) L (.inl x :: st) σ) : pG p l e R s m args below meth c Q S ad un cA dg A H0 nL pc L st σ := fun H locs ls hW hS hL => lv_iload_n hx hb hdg hi (hL.2.2 a _ hl rfl) (kk H locs ls hW hS hL)
theorem g_iload (hx : p.tables.exec = Jvm.exec) (hb : c.code = cc) {a : Nat} {x : Int32} (hdg : decode cc pc = .ok (.iload a, 2)) (hl : L[a]? = some (some (.inl x))) (kk : pG p l e R s m args below meth c Q S ad un cA dg A H0 nL (pc + 2) L (.inl x :: st) σ) : pG p l e R s m args below meth c Q S ad un cA dg A H0 nL pc L st σ := fun H locs ls hW hS hL => lv_iload hx hb hdg (hL.2.2 a _ hl rfl) (kk H locs ls hW hS hL)
theorem g_aload_n (hx : p.tables.exec = Jvm.exec) (hb : c.code = cc) {n : Fin 4} {a k j : Nat} (hdg : decode cc pc = .ok (.aload_n n, 1)) (hi : (n : Nat) = a) (hl : L[a]? = some (some (.inr (.inr (k, j))))) (kk : pG p l e R s m args below meth c Q S ad un cA dg A H0 nL (pc + 1) L (.inr (.inr (k, j)) :: st) σ) : pG p l e R s m args below meth c Q S ad un cA dg A H0 nL pc L st σ := fun H locs ls hW hS hL => lv_aload_n hx hb hdg hi (hL.2.2 a _ hl rfl) (kk H locs ls hW hS hL)
theorem g_aload (hx : p.tables.exec = Jvm.exec) (hb : c.code = cc) {a k j : Nat} (hdg : decode cc pc = .ok (.aload a, 2)) (hl : L[a]? = some (some (.inr (.inr (k, j))))) (kk : pG p l e R s m args below meth c Q S ad un cA dg A H0 nL (pc + 2) L (.inr (.inr (k, j)) :: st) σ) : pG p l e R s m args below meth c Q S ad un cA dg A H0 nL pc L st σ := fun H locs ls hW hS hL => lv_aload hx hb hdg (hL.2.2 a _ hl rfl) (kk H locs ls hW hS hL)
theorem g_istore_n (hx : p.tables.exec = Jvm.exec) (hb : c.code = cc) {n : Fin 4} {a : Nat} {x : Int32} (hdg : decode cc pc = .ok (.istore_n n, 1)) (hi : (n : Nat) = a) (ha : a < nL) (kk : pG p l e R s m args below meth c Q S ad un cA dg A H0 nL (pc + 1) (L.set a (some (.inl x))) r σ) : pG p l e R s m args below meth c Q S ad un cA dg A H0 nL pc L (.inl x :: r) σ := fun H locs ls hW hS hL => lv_istore_n hx hb hdg hi hL.has ha rfl (fun ls2 h2 => kk H locs ls2 hW hS (pLv.sto h2))
theorem g_istore (hx : p.tables.exec = Jvm.exec) (hb : c.code = cc) {a : Nat} {x : Int32} (hdg : decode cc pc = .ok (.istore a, 2)) (ha : a < nL) (kk : pG p l e R s m args below meth c Q S ad un cA dg A H0 nL (pc + 2) (L.set a (some (.inl x))) r σ) : pG p l e R s m args below meth c Q S ad un cA dg A H0 nL pc L (.inl x :: r) σ := fun H locs ls hW hS hL => lv_istore hx hb hdg hL.has ha rfl (fun ls2 h2 => kk H locs ls2 hW hS (pLv.sto h2))
theorem g_astore_n (hx : p.tables.exec = Jvm.exec) (hb : c.code = cc) {n : Fin 4} {a : Nat} {k j : Nat} (hdg : decode cc pc = .ok (.astore_n n, 1)) (hi : (n : Nat) = a) (ha : a < nL) (kk : pG p l e R s m args below meth c Q S ad un cA dg A H0 nL (pc + 1) (L.set a (some (.inr (.inr (k, j))))) r σ) : pG p l e R s m args below meth c Q S ad un cA dg A H0 nL pc L (.inr (.inr (k, j)) :: r) σ := fun H locs ls hW hS hL => lv_astore_n hx hb hdg hi hL.has ha rfl (fun ls2 h2 => kk H locs ls2 hW hS (pLv.sto h2))
theorem g_astore (hx : p.tables.exec = Jvm.exec) (hb : c.code = cc) {a : Nat} {k j : Nat} (hdg : decode cc pc = .ok (.astore a, 2)) (ha : a < nL) (kk : pG p l e R s m args below meth c Q S ad un cA dg A H0 nL (pc + 2) (L.set a (some (.inr (.inr (k, j))))) r σ) : pG p l e R s m args below meth c Q S ad un cA dg A H0 nL pc L (.inr (.inr (k, j)) :: r) σ := fun H locs ls hW hS hL => lv_astore hx hb hdg hL.has ha rfl (fun ls2 h2 => kk H locs ls2 hW hS (pLv.sto h2))
theorem g_iinc (hx : p.tables.exec = Jvm.exec) (hb : c.code = cc) {a : Nat} {q : Int} {x z : Int32} (hdg : decode cc pc = .ok (.iinc a q, 3)) (hz : Int32.ofInt q = z) (ha : a < nL) (hl : L[a]? = some (some (.inl x))) (kk : pG p l e R s m args below meth c Q S ad un cA dg A H0 nL (pc + 3) (L.set a (some (.inl (x + z)))) st σ) : pG p l e R s m args below meth c Q S ad un cA dg A H0 nL pc L st σ := fun H locs ls hW hS hL => by
  obtain ⟨k, hk⟩ := List.getElem?_of_mem (pAs_mem (ad := ad) hl rfl)
  exact lv_iinc (v := x + z) hx hb hdg hL.has (k := k) hk (by rw [hz]) ha rfl (fun ls2 h2 => kk H locs ls2 hW hS (pLv.sto (v := .inl (x + z)) h2))
end PG3
end
section
/-- the receiver is of its sort -/
def pRecvOk (S : List pSh) (w : Nat) (as : List pV) : Prop := ∃ ci k n fs t, w = ci + 1 ∧ as = .inr (.inr (k, 0)) :: t ∧ S[k]? = some (ci + 7, n, fs)
/-- the words of the members that are rows of the kit -/
def pPrim (Ts : List Cond) : Prop := (Cond.native arraycopyName ∈ Ts ∧ Cond.static arraycopyName ∈ Ts ∧ Cond.initialized "java/lang/System" ∈ Ts) ∧ Cond.initialized "java/lang/Math" ∈ Ts ∧ (Cond.static Lib.Math.max.name ∈ Ts ∧ Cond.code Lib.Math.max.name Lib.Math.max.code 2 (some .int) ∈ Ts) ∧ Cond.static Lib.Math.min.name ∈ Ts ∧ Cond.code Lib.Math.min.name Lib.Math.min.code 2 (some .int) ∈ Ts
def pRetOk (a : Nat) (x : Int32) : Prop := a = 0 ∨ (a = 1 ∧ x &&& 1 = x) ∨ (a = 2 ∧ (x.toUInt32 % 65536).toInt32 = x)
section PG4
variable {p : Program} {l : Launch} {e : Env} {R : Room} {s : State} {m : MethodId} {args : Array Value} {below : List Frame} {meth : Method} {c : Code} {Q : State → Prop} {S : List pSh} {ad : Nat → Nat → Nat} {un : Nat} {cA : Nat → ClassId} {dg : va_G} {A : Nat → Prop} {H0 : Heap} {nL : Nat}
variable {cc : ByteArray} {pc : Nat} {L : pL} {st r : List pV} {σ : pSt}
theorem Recv_inv {ρ : Type} {o : ρ} {w : Nat} {as : List pV} {F : Option ρ} (h : pRecv S w as F = some o) : (w = 0 ∨ pRecvOk S w as) ∧ F = some o := by
  unfold pRecv at h
  split at h
  · exact ⟨Or.inl rfl, h⟩
  · split at h
    · obtain ⟨n, fs, h1, h2, h3⟩ := Obj_inv h
      subst h2
      exact ⟨Or.inr ⟨_, _, n, fs, _, rfl, rfl, h1⟩, h3⟩
    · cases h
theorem Ret_inv {ρ : Type} {o : ρ} {a : Nat} {x : Int32} {F : Option ρ} (h : pRet a x F = some o) : pRetOk a x ∧ F = some o := by
  unfold pRet at h
  split at h
  · exact ⟨Or.inl rfl, h⟩
  · split at h
    · next q => exact ⟨Or.inr (Or.inl ⟨rfl, q⟩), h⟩
    · cases h
  · split at h
    · next q => exact ⟨Or.inr (Or.inr ⟨rfl, q⟩), h⟩
    · cases h
  · cases h
theorem char_nar {x : Int32} (h : (x.toUInt32 % 65536).toInt32 = x) : narrow .char (.int x) = .int x ∧ fits .char (.int x) = true := by
  have h1 := pk_nc x
  have h2 := pk_fc x
  rw [h] at h1 h2
  exact ⟨h1, h2⟩
theorem rv_fr {cd : Nat} {q : pSt} {k b : Nat} {r2 : Nat} (h : pFr cd = (true, r2)) : rv ad (.inr (.inr (r2, 0))) = pFv ad un (q.1 k 0) (q.2 k) b (cd + 3) := by
  show Value.ref (ad r2 0) = pFa ad un (pFr cd) _
  rw [h]
  rfl
theorem rv_frd {cd : Nat} {q : pSt} {k b : Nat} {r2 : Nat} (h : pFr cd = (false, r2)) (h1 : q.1 k 0 b = 1) : rv ad (.inr (.inr (r2, 0))) = pFv ad un (q.1 k 0) (q.2 k) b (cd + 3) := by
  show Value.ref (ad r2 0) = pFa ad un (pFr cd) _
  rw [h, h1]
  rfl
/-- texts: what the rows of this method need of them -/
def pStr (p : Program) (l : Launch) (e : Env) (R : Room) (s : State) (m : MethodId) (args : Array Value) (below : List Frame) (meth : Method) (c : Code) (Q : State → Prop) (S : List pSh) (ad : Nat → Nat → Nat) (un : Nat) (cA : Nat → ClassId) (dg : va_G) (A : Nat → Prop) (H0 : Heap) (nL : Nat) (cc : ByteArray) (T : pTx) (pc : Nat) (x : pX) : Prop := match x with
  | (ins, a, b, c', _, _, _) => match ins with
    | .ldc i => b ≠ 0 → ∀ (L : pL) (st : List pV) (σ : pSt), pG p l e R s m args below meth c Q S ad un cA dg A H0 nL (pc + 2) L (.inr (.inr (a, 0)) :: st) σ → pG p l e R s m args below meth c Q S ad un cA dg A H0 nL pc L st σ
    | .invokevirtual i => c' = 0 → (b = 0 → ∀ (L : pL) (r : List pV) (σ : pSt) (k n : Nat) (fs : List Nat) (t : List Int32), S[k]? = some (6, n, fs) → T[n]? = some t → pRm 8 r = true → pG p l e R s m args below meth c Q S ad un cA dg A H0 nL (pc + 3) L (.inl (nI t.length) :: r) σ → pG p l e R s m args below meth c Q S ad un cA dg A H0 nL pc L (.inr (.inr (k, 0)) :: r) σ) ∧
      (b ≠ 0 → ∀ (L : pL) (r : List pV) (σ : pSt) (k n : Nat) (fs : List Nat) (t : List Int32) (i : Int32), S[k]? = some (6, n, fs) → T[n]? = some t → pRm 8 r = true → vp_in i t.length → pG p l e R s m args below meth c Q S ad un cA dg A H0 nL (pc + 3) L (.inl (t.getD i.toNatClampNeg 0) :: r) σ → pG p l e R s m args below meth c Q S ad un cA dg A H0 nL pc L (.inl i :: .inr (.inr (k, 0)) :: r) σ)
    | _ => True

theorem Txt_inv {ρ : Type} {o : ρ} {k j : Nat} {T : pTx} {F : List Int32 → Option ρ} (h : pTxt S k j T F = some o) : ∃ n fs t, S[k]? = some (6, n, fs) ∧ j = 0 ∧ T[n]? = some t ∧ F t = some o := by
  unfold pTxt at h
  split at h
  · next hq =>
    split at h
    · next ht => exact ⟨_, _, _, hq, rfl, ht, h⟩
    · cases h
  · cases h
theorem Copy_inv {ρ : Type} {o : ρ} {F : List pV → pSt → Option ρ} (h : pCopy S σ st F = some o) : ∃ (n dp : Int32) (d : Nat) (sp : Int32) (s0 ns nd : Nat) (r : List pV), st = .inl n :: .inl dp :: .inr (.inr (d, 0)) :: .inl sp :: .inr (.inr (s0, 0)) :: r ∧ pNi S ad un cA s0 0 0 ns ∧ pNi S ad un cA d 0 0 nd ∧ ¬ sp < 0 ∧ ¬ dp < 0 ∧ ¬ n < 0 ∧ sp.toNatClampNeg + n.toNatClampNeg ≤ ns ∧ dp.toNatClampNeg + n.toNatClampNeg ≤ nd ∧ F r (dcpy σ.1 s0 sp.toNatClampNeg d dp.toNatClampNeg n.toNatClampNeg, σ.2) = some o := by
  unfold pCopy at h
  split at h
  · split at h
    · next q1 q2 =>
      split at h
      · cases h
      · next hc =>
        refine ⟨_, _, _, _, _, _, _, _, rfl, ⟨_, q1, fun f g => rfl⟩, ⟨_, q2, fun f g => rfl⟩, fun z => hc (Or.inl z), fun z => hc (Or.inr (Or.inl z)), fun z => hc (Or.inr (Or.inr (Or.inl z))), ?_, ?_, h⟩
        · exact Nat.not_lt.mp fun z => hc (Or.inr (Or.inr (Or.inr (Or.inl z))))
        · exact Nat.not_lt.mp fun z => hc (Or.inr (Or.inr (Or.inr (Or.inr z))))
    · cases h
  · cases h
set_option maxHeartbeats 4000000 in
theorem sound_step {ρ : Type} {o : ρ} (hx : p.tables.exec = Jvm.exec) (hb : c.code = cc) (hml : c.maxLocals = nL) {own : String} {Ts : List Cond} (hts : ∀ w ∈ Ts, w.before args s = true) (hCl : pClOk Ts) (hown : s.vm.findClass own = some m.cls) (hK : va_K dg vwCl (pTys cA) s) (hJ : pAp S ad un cA A) (hSh : pShOk S)
    (hCo : pPrim Ts) (hRo : 1 ≤ R.frames ∧ 8 + (nativeFrameWords "java/lang/System" "arraycopy" 5 + 11) ≤ R.locals) (hRm : 21 ≤ R.locals)
    {T : pTx} {d : Nat} {x : pX} {K : Nat → pL → List pV → pSt → Option ρ} {C : Nat → Nat → List pV → Nat → Nat → pL → List pV → Option ρ} {Rr : Option pV → Option ρ}
    (hdec : decode cc pc = .ok (x.1, pLen x.1 x.2.2.1)) (hX : pXex own Ts nL pc x) (hStr : pStr p l e R s m args below meth c Q S ad un cA dg A H0 nL cc T pc x)
    (hKk : ∀ pc' L' st' σ', K pc' L' st' σ' = some o → pG p l e R s m args below meth c Q S ad un cA dg A H0 nL pc' L' st' σ')
    (hCv : ∀ (i a b c' w gk : Nat) (z : Int32) (as r : List pV) (d' : Nat), x = (.invokevirtual i, a, b, c' + 1, w, gk, z) → st = as.reverse ++ r → as.length = b → (∀ v ∈ as, ∀ y, v ≠ .inr (.inl y)) → pRm 8 r = true → (w = 0 ∨ pRecvOk S w as) → d' < d → C a d' as gk (pc + 3) L r = some o → pG p l e R s m args below meth c Q S ad un cA dg A H0 nL pc L st σ)
    (hCs : ∀ (i a b c' w gk : Nat) (z : Int32) (as r : List pV) (d' : Nat), x = (.invokestatic i, a, b, c' + 1, w, gk, z) → st = as.reverse ++ r → as.length = b → (∀ v ∈ as, ∀ y, v ≠ .inr (.inl y)) → pRm 8 r = true → d' < d → C a d' as gk (pc + 3) L r = some o → pG p l e R s m args below meth c Q S ad un cA dg A H0 nL pc L st σ)
    (hRi : ∀ v : Int32, x.1 = .ireturn → st = [.inl v] → pRetOk x.2.1 v → Rr (some (.inl v)) = some o → pG p l e R s m args below meth c Q S ad un cA dg A H0 nL pc L st σ)
    (hRa : ∀ q : Nat × Nat, x.1 = .areturn → st = [.inr (.inr q)] → Rr (some (.inr (.inr q))) = some o → pG p l e R s m args below meth c Q S ad un cA dg A H0 nL pc L st σ)
    (hRv : x.1 = .return_ → st = [] → Rr none = some o → pG p l e R s m args below meth c Q S ad un cA dg A H0 nL pc L st σ)
    (h : sI S T d pc x L st σ K C Rr = some o) : pG p l e R s m args below meth c Q S ad un cA dg A H0 nL pc L st σ := by
  obtain ⟨ins, a, b, c', w, gk, z⟩ := x
  cases ins with
  | iconst n =>
    unfold sI at h
    dsimp only at h
    clear hCv hCs hRi hRa hRv
    exact fun H locs ls hW hS hL => lv_iconst hx hb hdec hX (hKk _ _ _ _ h H locs ls hW hS hL)
  | bipush n =>
    unfold sI at h
    dsimp only at h
    clear hCv hCs hRi hRa hRv
    exact fun H locs ls hW hS hL => lv_bipush hx hb hdec hX (hKk _ _ _ _ h H locs ls hW hS hL)
  | sipush n =>
    unfold sI at h
    dsimp only at h
    clear hCv hCs hRi hRa hRv
    exact fun H locs ls hW hS hL => lv_sipush hx hb hdec hX (hKk _ _ _ _ h H locs ls hW hS hL)
  | ldc i =>
    unfold sI at h
    dsimp only at h
    clear hCv hCs hRi hRa hRv
    cases b with
    | zero => exact fun H locs ls hW hS hL => lv_ldc hx hb hown (hts _ (hX rfl)) hdec (hKk _ _ _ _ h H locs ls hW hS hL)
    | succ b =>
      have h : (match S[a]? with | some (6, _, _) => K (pc + 2) L (.inr (.inr (a, 0)) :: st) σ | _ => none) = some o := h
      split at h
      · exact hStr (Nat.succ_ne_zero b) L st σ (hKk _ _ _ _ h)
      · cases h
  | ldc_w i =>
    unfold sI at h
    dsimp only at h
    clear hCv hCs hRi hRa hRv
    exact fun H locs ls hW hS hL => lv_ldcw hx hb hown (hts _ hX) hdec (hKk _ _ _ _ h H locs ls hW hS hL)
  | ldc2_w i =>
    unfold sI at h
    dsimp only at h
    clear hCv hCs hRi hRa hRv
    exact fun H locs ls hW hS hL => lv_ldc2 hx hb hown (hts _ hX) hdec (hKk _ _ _ _ h H locs ls hW hS hL)
  | lconst n =>
    unfold sI at h
    dsimp only at h
    clear hCv hCs hRi hRa hRv
    exact fun H locs ls hW hS hL => lv_lconst (v := lN a) hx hb hdec (by rw [show (n : Nat) = a from hX]; rfl) (hKk _ _ _ _ h H locs ls hW hS hL)
  | iload_n n =>
    unfold sI at h
    dsimp only at h
    clear hCv hCs hRi hRa hRv
    obtain ⟨x, hl, hN⟩ := LdI_inv h; clear h; have h := hN; clear hN; exact g_iload_n hx hb hdec hX hl (hKk _ _ _ _ h)
  | iload n =>
    unfold sI at h
    dsimp only at h
    clear hCv hCs hRi hRa hRv
    obtain ⟨x, hl, hN⟩ := LdI_inv h; clear h; have h := hN; clear hN; obtain rfl := hX; exact g_iload hx hb hdec hl (hKk _ _ _ _ h)
  | aload_n n =>
    unfold sI at h
    dsimp only at h
    clear hCv hCs hRi hRa hRv
    obtain ⟨k, j, hl, hN⟩ := LdR_inv h; clear h; have h := hN; clear hN; exact g_aload_n hx hb hdec hX hl (hKk _ _ _ _ h)
  | aload n =>
    unfold sI at h
    dsimp only at h
    clear hCv hCs hRi hRa hRv
    obtain ⟨k, j, hl, hN⟩ := LdR_inv h; clear h; have h := hN; clear hN; obtain rfl := hX; exact g_aload hx hb hdec hl (hKk _ _ _ _ h)
  | istore_n n =>
    unfold sI at h
    dsimp only at h
    clear hCv hCs hRi hRa hRv
    obtain ⟨x, r, rfl, hN⟩ := I1_inv h; clear h; have h := hN; clear hN; exact g_istore_n hx hb hdec hX.1 hX.2 (hKk _ _ _ _ (Sto_inv h))
  | istore n =>
    unfold sI at h
    dsimp only at h
    clear hCv hCs hRi hRa hRv
    obtain ⟨x, r, rfl, hN⟩ := I1_inv h; clear h; have h := hN; clear hN; obtain ⟨rfl, hlt⟩ := hX; exact g_istore hx hb hdec hlt (hKk _ _ _ _ (Sto_inv h))
  | astore_n n =>
    unfold sI at h
    dsimp only at h
    clear hCv hCs hRi hRa hRv
    obtain ⟨k, j, r, rfl, hN⟩ := R1_inv h; clear h; have h := hN; clear hN; exact g_astore_n hx hb hdec hX.1 hX.2 (hKk _ _ _ _ (Sto_inv h))
  | astore n =>
    unfold sI at h
    dsimp only at h
    clear hCv hCs hRi hRa hRv
    obtain ⟨k, j, r, rfl, hN⟩ := R1_inv h; clear h; have h := hN; clear hN; obtain ⟨rfl, hlt⟩ := hX; exact g_astore hx hb hdec hlt (hKk _ _ _ _ (Sto_inv h))
  | iinc n q =>
    unfold sI at h
    dsimp only at h
    clear hCv hCs hRi hRa hRv
    obtain ⟨x, hl, hN⟩ := LdI_inv h; clear h; have h := hN; clear hN; obtain ⟨rfl, hz, hlt⟩ := hX; exact g_iinc hx hb hdec hz hlt hl (hKk _ _ _ _ (Sto_inv h))
  | iadd =>
    unfold sI at h
    dsimp only at h
    clear hCv hCs hRi hRa hRv
    obtain ⟨x, y, r, rfl, hN⟩ := I2_inv h; clear h; have h := hN; clear hN; exact fun H locs ls hW hS hL => lv_iadd hx hb hdec (hKk _ _ _ _ h H locs ls hW hS hL)
  | isub =>
    unfold sI at h
    dsimp only at h
    clear hCv hCs hRi hRa hRv
    obtain ⟨x, y, r, rfl, hN⟩ := I2_inv h; clear h; have h := hN; clear hN; exact fun H locs ls hW hS hL => lv_isub hx hb hdec (hKk _ _ _ _ h H locs ls hW hS hL)
  | imul =>
    unfold sI at h
    dsimp only at h
    clear hCv hCs hRi hRa hRv
    obtain ⟨x, y, r, rfl, hN⟩ := I2_inv h; clear h; have h := hN; clear hN; exact fun H locs ls hW hS hL => lv_imul hx hb hdec (hKk _ _ _ _ h H locs ls hW hS hL)
  | iand =>
    unfold sI at h
    dsimp only at h
    clear hCv hCs hRi hRa hRv
    obtain ⟨x, y, r, rfl, hN⟩ := I2_inv h; clear h; have h := hN; clear hN; exact fun H locs ls hW hS hL => lv_iand hx hb hdec (hKk _ _ _ _ h H locs ls hW hS hL)
  | ior =>
    unfold sI at h
    dsimp only at h
    clear hCv hCs hRi hRa hRv
    obtain ⟨x, y, r, rfl, hN⟩ := I2_inv h; clear h; have h := hN; clear hN; exact fun H locs ls hW hS hL => lv_ior hx hb hdec (hKk _ _ _ _ h H locs ls hW hS hL)
  | ixor =>
    unfold sI at h
    dsimp only at h
    clear hCv hCs hRi hRa hRv
    obtain ⟨x, y, r, rfl, hN⟩ := I2_inv h; clear h; have h := hN; clear hN; exact fun H locs ls hW hS hL => lv_ixor hx hb hdec (hKk _ _ _ _ h H locs ls hW hS hL)
  | ishl =>
    unfold sI at h
    dsimp only at h
    clear hCv hCs hRi hRa hRv
    obtain ⟨x, y, r, rfl, hN⟩ := I2_inv h; clear h; have h := hN; clear hN; exact fun H locs ls hW hS hL => lv_ishl hx hb hdec (hKk _ _ _ _ h H locs ls hW hS hL)
  | ishr =>
    unfold sI at h
    dsimp only at h
    clear hCv hCs hRi hRa hRv
    obtain ⟨x, y, r, rfl, hN⟩ := I2_inv h; clear h; have h := hN; clear hN; exact fun H locs ls hW hS hL => lv_ishr hx hb hdec (hKk _ _ _ _ h H locs ls hW hS hL)
  | iushr =>
    unfold sI at h
    dsimp only at h
    clear hCv hCs hRi hRa hRv
    obtain ⟨x, y, r, rfl, hN⟩ := I2_inv h; clear h; have h := hN; clear hN; exact fun H locs ls hW hS hL => lv_iushr hx hb hdec rfl (hKk _ _ _ _ h H locs ls hW hS hL)
  | idiv =>
    unfold sI at h
    dsimp only at h
    clear hCv hCs hRi hRa hRv
    obtain ⟨x, y, r, rfl, hN⟩ := I2_inv h; clear h; have h := hN; clear hN
    split at h
    · cases h
    · next hne => exact fun H locs ls hW hS hL => lv_idiv hx hb hdec hne (hKk _ _ _ _ h H locs ls hW hS hL)
  | irem =>
    unfold sI at h
    dsimp only at h
    clear hCv hCs hRi hRa hRv
    obtain ⟨x, y, r, rfl, hN⟩ := I2_inv h; clear h; have h := hN; clear hN
    split at h
    · cases h
    · next hne => exact fun H locs ls hW hS hL => lv_irem hx hb hdec hne (hKk _ _ _ _ h H locs ls hW hS hL)
  | ladd =>
    unfold sI at h
    dsimp only at h
    clear hCv hCs hRi hRa hRv
    obtain ⟨x, y, r, rfl, hN⟩ := L2_inv h; clear h; have h := hN; clear hN; exact fun H locs ls hW hS hL => lv_ladd hx hb hdec (hKk _ _ _ _ h H locs ls hW hS hL)
  | lsub =>
    unfold sI at h
    dsimp only at h
    clear hCv hCs hRi hRa hRv
    obtain ⟨x, y, r, rfl, hN⟩ := L2_inv h; clear h; have h := hN; clear hN; exact fun H locs ls hW hS hL => lv_lsub hx hb hdec (hKk _ _ _ _ h H locs ls hW hS hL)
  | lmul =>
    unfold sI at h
    dsimp only at h
    clear hCv hCs hRi hRa hRv
    obtain ⟨x, y, r, rfl, hN⟩ := L2_inv h; clear h; have h := hN; clear hN; exact fun H locs ls hW hS hL => lv_lmul hx hb hdec (hKk _ _ _ _ h H locs ls hW hS hL)
  | lcmp =>
    unfold sI at h
    dsimp only at h
    clear hCv hCs hRi hRa hRv
    obtain ⟨x, y, r, rfl, hN⟩ := L2_inv h; clear h; have h := hN; clear hN; exact fun H locs ls hW hS hL => W.lcmp hx hb hdec (hKk _ _ _ _ h H locs ls hW hS hL)
  | i2l =>
    unfold sI at h
    dsimp only at h
    clear hCv hCs hRi hRa hRv
    obtain ⟨x, r, rfl, hN⟩ := I1_inv h; clear h; have h := hN; clear hN; exact fun H locs ls hW hS hL => lv_i2l hx hb hdec rfl (hKk _ _ _ _ h H locs ls hW hS hL)
  | i2b =>
    unfold sI at h
    dsimp only at h
    clear hCv hCs hRi hRa hRv
    obtain ⟨x, r, rfl, hN⟩ := I1_inv h; clear h; have h := hN; clear hN; exact fun H locs ls hW hS hL => lv_i2b hx hb hdec rfl (hKk _ _ _ _ h H locs ls hW hS hL)
  | i2c =>
    unfold sI at h
    dsimp only at h
    clear hCv hCs hRi hRa hRv
    obtain ⟨x, r, rfl, hN⟩ := I1_inv h; clear h; have h := hN; clear hN; exact fun H locs ls hW hS hL => lv_i2c hx hb hdec rfl (hKk _ _ _ _ h H locs ls hW hS hL)
  | dup =>
    unfold sI at h
    dsimp only at h
    clear hCv hCs hRi hRa hRv
    obtain ⟨v, r, rfl, hN⟩ := V1_inv h; clear h; have h := hN; clear hN; obtain ⟨hc, hN⟩ := C1_inv h; clear h; have h := hN; clear hN; exact fun H locs ls hW hS hL => lv_dup hx hb hdec (rv_cat1 hc) (hKk _ _ _ _ h H locs ls hW hS hL)
  | dup2 =>
    unfold sI at h
    dsimp only at h
    clear hCv hCs hRi hRa hRv
    obtain ⟨v, u, r, rfl, hN⟩ := V2_inv h; clear h; have h := hN; clear hN; obtain ⟨hc, hN⟩ := C1_inv h; clear h; have h := hN; clear hN; obtain ⟨hc2, hN⟩ := C1_inv h; clear h; have h := hN; clear hN; exact fun H locs ls hW hS hL => lv_dup2_11 hx hb hdec (rv_cat1 hc) (rv_cat1 hc2) (hKk _ _ _ _ h H locs ls hW hS hL)
  | pop =>
    unfold sI at h
    dsimp only at h
    clear hCv hCs hRi hRa hRv
    obtain ⟨v, r, rfl, hN⟩ := V1_inv h; clear h; have h := hN; clear hN; obtain ⟨hc, hN⟩ := C1_inv h; clear h; have h := hN; clear hN; exact fun H locs ls hW hS hL => lv_pop hx hb hdec (rv_cat1 hc) (hKk _ _ _ _ h H locs ls hW hS hL)
  | goto off =>
    unfold sI at h
    dsimp only at h
    clear hCv hCs hRi hRa hRv
    exact fun H locs ls hW hS hL => lv_goto (tgt := a) hx hb hdec hX (hKk _ _ _ _ h H locs ls hW hS hL)
  | ifCond cd off =>
    cases cd with
    | eq =>
      unfold sI at h
      dsimp only at h
      obtain ⟨x, r, rfl, hN⟩ := I1_inv h; clear h; have h := hN; clear hN
      split at h
      · next q => exact fun H locs ls hW hS hL => lv_if_eq (tgt := a) hx hb hdec hX (fun _ => hKk _ _ _ _ h H locs ls hW hS hL) (fun z => absurd q z)
      · next q => exact fun H locs ls hW hS hL => lv_if_eq (tgt := a) hx hb hdec hX (fun z => absurd z q) (fun _ => hKk _ _ _ _ h H locs ls hW hS hL)
    | ne =>
      unfold sI at h
      dsimp only at h
      obtain ⟨x, r, rfl, hN⟩ := I1_inv h; clear h; have h := hN; clear hN
      split at h
      · next q => exact fun H locs ls hW hS hL => lv_if_ne (tgt := a) hx hb hdec hX (fun z => absurd q z) (fun _ => hKk _ _ _ _ h H locs ls hW hS hL)
      · next q => exact fun H locs ls hW hS hL => lv_if_ne (tgt := a) hx hb hdec hX (fun _ => hKk _ _ _ _ h H locs ls hW hS hL) (fun z => absurd z q)
    | lt =>
      unfold sI at h
      dsimp only at h
      obtain ⟨x, r, rfl, hN⟩ := I1_inv h; clear h; have h := hN; clear hN
      split at h
      · next q => exact fun H locs ls hW hS hL => lv_if_lt (tgt := a) hx hb hdec hX (fun _ => hKk _ _ _ _ h H locs ls hW hS hL) (fun z => absurd q z)
      · next q => exact fun H locs ls hW hS hL => lv_if_lt (tgt := a) hx hb hdec hX (fun z => absurd z q) (fun _ => hKk _ _ _ _ h H locs ls hW hS hL)
    | ge =>
      unfold sI at h
      dsimp only at h
      obtain ⟨x, r, rfl, hN⟩ := I1_inv h; clear h; have h := hN; clear hN
      split at h
      · next q => exact fun H locs ls hW hS hL => lv_if_ge (tgt := a) hx hb hdec hX (fun _ => hKk _ _ _ _ h H locs ls hW hS hL) (fun z => absurd q z)
      · next q => exact fun H locs ls hW hS hL => lv_if_ge (tgt := a) hx hb hdec hX (fun z => absurd z q) (fun _ => hKk _ _ _ _ h H locs ls hW hS hL)
    | gt =>
      unfold sI at h
      dsimp only at h
      obtain ⟨x, r, rfl, hN⟩ := I1_inv h; clear h; have h := hN; clear hN
      split at h
      · next q => exact fun H locs ls hW hS hL => lv_if_gt (tgt := a) hx hb hdec hX (fun _ => hKk _ _ _ _ h H locs ls hW hS hL) (fun z => absurd q z)
      · next q => exact fun H locs ls hW hS hL => lv_if_gt (tgt := a) hx hb hdec hX (fun z => absurd z q) (fun _ => hKk _ _ _ _ h H locs ls hW hS hL)
    | le =>
      unfold sI at h
      dsimp only at h
      obtain ⟨x, r, rfl, hN⟩ := I1_inv h; clear h; have h := hN; clear hN
      split at h
      · next q => exact fun H locs ls hW hS hL => lv_if_le (tgt := a) hx hb hdec hX (fun _ => hKk _ _ _ _ h H locs ls hW hS hL) (fun z => absurd q z)
      · next q => exact fun H locs ls hW hS hL => lv_if_le (tgt := a) hx hb hdec hX (fun z => absurd z q) (fun _ => hKk _ _ _ _ h H locs ls hW hS hL)
  | if_icmp cd off =>
    cases cd with
    | eq =>
      unfold sI at h
      dsimp only at h
      obtain ⟨x, y, r, rfl, hN⟩ := I2_inv h; clear h; have h := hN; clear hN
      split at h
      · next q => exact fun H locs ls hW hS hL => lv_icmp_eq (tgt := a) hx hb hdec hX (fun _ => hKk _ _ _ _ h H locs ls hW hS hL) (fun z => absurd q z)
      · next q => exact fun H locs ls hW hS hL => lv_icmp_eq (tgt := a) hx hb hdec hX (fun z => absurd z q) (fun _ => hKk _ _ _ _ h H locs ls hW hS hL)
    | ne =>
      unfold sI at h
      dsimp only at h
      obtain ⟨x, y, r, rfl, hN⟩ := I2_inv h; clear h; have h := hN; clear hN
      split at h
      · next q => exact fun H locs ls hW hS hL => lv_icmp_ne (tgt := a) hx hb hdec hX (fun z => absurd q z) (fun _ => hKk _ _ _ _ h H locs ls hW hS hL)
      · next q => exact fun H locs ls hW hS hL => lv_icmp_ne (tgt := a) hx hb hdec hX (fun _ => hKk _ _ _ _ h H locs ls hW hS hL) (fun z => absurd z q)
    | lt =>
      unfold sI at h
      dsimp only at h
      obtain ⟨x, y, r, rfl, hN⟩ := I2_inv h; clear h; have h := hN; clear hN
      split at h
      · next q => exact fun H locs ls hW hS hL => lv_icmp_lt (tgt := a) hx hb hdec hX (fun _ => hKk _ _ _ _ h H locs ls hW hS hL) (fun z => absurd q z)
      · next q => exact fun H locs ls hW hS hL => lv_icmp_lt (tgt := a) hx hb hdec hX (fun z => absurd z q) (fun _ => hKk _ _ _ _ h H locs ls hW hS hL)
    | ge =>
      unfold sI at h
      dsimp only at h
      obtain ⟨x, y, r, rfl, hN⟩ := I2_inv h; clear h; have h := hN; clear hN
      split at h
      · next q => exact fun H locs ls hW hS hL => lv_icmp_ge (tgt := a) hx hb hdec hX (fun _ => hKk _ _ _ _ h H locs ls hW hS hL) (fun z => absurd q z)
      · next q => exact fun H locs ls hW hS hL => lv_icmp_ge (tgt := a) hx hb hdec hX (fun z => absurd z q) (fun _ => hKk _ _ _ _ h H locs ls hW hS hL)
    | gt =>
      unfold sI at h
      dsimp only at h
      obtain ⟨x, y, r, rfl, hN⟩ := I2_inv h; clear h; have h := hN; clear hN
      split at h
      · next q => exact fun H locs ls hW hS hL => lv_icmp_gt (tgt := a) hx hb hdec hX (fun _ => hKk _ _ _ _ h H locs ls hW hS hL) (fun z => absurd q z)
      · next q => exact fun H locs ls hW hS hL => lv_icmp_gt (tgt := a) hx hb hdec hX (fun z => absurd z q) (fun _ => hKk _ _ _ _ h H locs ls hW hS hL)
    | le =>
      unfold sI at h
      dsimp only at h
      obtain ⟨x, y, r, rfl, hN⟩ := I2_inv h; clear h; have h := hN; clear hN
      split at h
      · next q => exact fun H locs ls hW hS hL => lv_icmp_le (tgt := a) hx hb hdec hX (fun _ => hKk _ _ _ _ h H locs ls hW hS hL) (fun z => absurd q z)
      · next q => exact fun H locs ls hW hS hL => lv_icmp_le (tgt := a) hx hb hdec hX (fun z => absurd z q) (fun _ => hKk _ _ _ _ h H locs ls hW hS hL)
  | tableswitch d2 lo hi offs =>
    unfold sI at h
    dsimp only at h
    clear hCv hCs hRi hRa hRv
    obtain ⟨x, r, rfl, hN⟩ := I1_inv h; clear h; have h := hN; clear hN
    obtain ⟨h1, h2, h3⟩ := hX
    rcases SwT_inv h with ⟨i, off, q1, q2, q3⟩ | ⟨q1, q2⟩
    · have hi2 : i < offs.toList.length := (List.getElem?_eq_some_iff.mp q1).1
      refine fun H locs ls hW hS hL => lv_tableIn (off := off) hx hb hdec (by omega) (by omega) ?_ (Int.toNat_of_nonneg (h3 off (List.mem_of_getElem? q1))).symm (hKk _ _ _ _ q3 H locs ls hW hS hL)
      rw [show (x.toInt - lo).toNat = i by omega, ← Array.getElem?_toList]
      exact q1
    · exact fun H locs ls hW hS hL => lv_tableOut hx hb hdec (by omega) (Int.toNat_of_nonneg h2).symm (hKk _ _ _ _ q2 H locs ls hW hS hL)
  | lookupswitch d2 ps =>
    unfold sI at h
    dsimp only at h
    clear hCv hCs hRi hRa hRv
    obtain ⟨x, r, rfl, hN⟩ := I1_inv h; clear h; have h := hN; clear hN
    obtain ⟨h1, h2, h3⟩ := hX
    have h := SwL_inv h
    refine fun H locs ls hW hS hL => lv_lookup hx hb hdec h1 rfl (Int.toNat_of_nonneg ?_).symm (hKk _ _ _ _ h H locs ls hW hS hL)
    rcases SwL_in ps.toList d2 x.toInt with q | ⟨q, q1, q2⟩
    · rw [q]; exact h2
    · rw [q2]; exact h3 q q1
  | getfield i =>
    unfold sI at h
    dsimp only at h
    clear hCv hCs hRi hRa hRv
    obtain ⟨k, j, r, rfl, hN⟩ := R1_inv h; clear h; have h := hN; clear hN
    obtain ⟨C2, T2, N, hc, hbN, hlk⟩ := hX
    obtain ⟨n, fs, hq, rfl, hN⟩ := Obj_inv h; clear h; have h := hN; clear hN
    dsimp only at h
    split at h
    · cases h
    · next hcd => exact g_get hx hb hts hCl hown hK hq hc hbN hlk hcd (v := .inl _) rfl hdec (hKk _ _ _ _ h)
    · next hcd => exact g_get hx hb hts hCl hown hK hq hc hbN hlk hcd (v := .inr (.inl _)) rfl hdec (hKk _ _ _ _ h)
    · next hcd => exact g_get hx hb hts hCl hown hK hq hc hbN hlk hcd (v := .inl _) rfl hdec (hKk _ _ _ _ h)
    · next hcd =>
      split at h
      · next hf => exact g_get hx hb hts hCl hown hK hq hc hbN hlk hcd (rv_fr hf) hdec (hKk _ _ _ _ h)
      · next hf =>
        split at h
        · next h1 => exact g_get hx hb hts hCl hown hK hq hc hbN hlk hcd (rv_frd hf h1) hdec (hKk _ _ _ _ h)
        · cases h
  | putfield i =>
    unfold sI at h
    dsimp only at h
    clear hCv hCs hRi hRa hRv
    obtain ⟨C2, T2, N, hc, hbN, hlk, hfin⟩ := hX
    obtain ⟨v, k, j, r, rfl, hN⟩ := VR_inv h; clear h; have h := hN; clear hN
    · obtain ⟨n, fs, hq, rfl, hN⟩ := Obj_inv h; clear h; have h := hN; clear hN
      dsimp only at h
      split at h
      · next hcd =>
        have hty := hSh k a n fs C2 T2 N hq hc b 0 hcd
        exact g_put hx hb hts hCl hown hK hJ hq hc hbN hlk hfin hcd (v := .inl _) hty rfl rfl (by show Value.int (dset _ _ _ _ _ k 0 b) = _; rw [dset_eq]; simp [upd, rv]) (fun j2 c2 hj => by dsimp only; rw [dset_eq]; unfold pFv; split <;> simp [upd, hj]) (fun k' j' hne => pCe_dset hne) hdec (hKk _ _ _ _ h)
      · next hcd =>
        have hty := hSh k a n fs C2 T2 N hq hc b 1 hcd
        exact g_put hx hb hts hCl hown hK hJ hq hc hbN hlk hfin hcd (v := .inr (.inl _)) hty rfl rfl (by show Value.long (lset _ _ _ _ k b) = _; rw [lset_eq]; simp [vp_updL, rv]) (fun j2 c2 hj => by dsimp only; rw [lset_eq]; unfold pFv; split <;> simp [vp_updL, hj]) (fun k' j' hne => pCe_lset hne) hdec (hKk _ _ _ _ h)
      · next hcd =>
        have hty := hSh k a n fs C2 T2 N hq hc b 2 hcd
        split at h
        · next hch =>
          obtain ⟨hn, hf⟩ := char_nar hch
          exact g_put hx hb hts hCl hown hK hJ hq hc hbN hlk hfin hcd (v := .inl _) hty hn hf (by show Value.int (dset _ _ _ _ _ k 0 b) = _; rw [dset_eq]; simp [upd, rv]) (fun j2 c2 hj => by dsimp only; rw [dset_eq]; unfold pFv; split <;> simp [upd, hj]) (fun k' j' hne => pCe_dset hne) hdec (hKk _ _ _ _ h)
        · cases h
      · next cd y j2 hcd =>
        obtain ⟨ty, hty, hrf⟩ := hSh k a n fs C2 T2 N hq hc b (cd + 3) hcd
        split at h
        · next r2 hf hbq =>
          have hy : y = r2 := by rw [hf] at hbq; exact Nat.eq_of_beq_eq_true hbq
          subst hy
          exact g_put hx hb hts hCl hown hK hJ hq hc hbN hlk hfin hcd (v := .inr (.inr (y, 0))) hty (by rcases hrf with ⟨q, rfl⟩ | ⟨q, rfl⟩ <;> rfl) (by rcases hrf with ⟨q, rfl⟩ | ⟨q, rfl⟩ <;> rfl) (by show pFa ad un (pFr cd) (dset _ _ _ _ _ k 0 b) = _; rw [dset_eq, hf]; simp [upd, rv, pFa]) (fun j2 c2 hj => by dsimp only; rw [dset_eq]; unfold pFv; split <;> simp [upd, hj]) (fun k' j' hne => pCe_dset hne) hdec (hKk _ _ _ _ h)
        · cases h
      · cases h
  | iaload =>
    unfold sI at h
    dsimp only at h
    clear hCv hCs hRi hRa hRv
    obtain ⟨k, j, i, r, rfl, hN⟩ := RI_inv h; clear h; have h := hN; clear hN
    obtain ⟨t, n, hN, ht, hn, hl3⟩ := pArr_inv (ad := ad) (un := un) (cA := cA) h; clear h; have h := hN; clear hN
    rcases (show t = 0 ∨ t = 1 ∨ t = 2 ∨ t = 3 by omega) with rfl | rfl | rfl | rfl
    · obtain ⟨hin, hN⟩ := In_inv h; clear h; have h := hN; clear hN; exact g_iald hx hb hK (hn (by omega)) hin hdec (hKk _ _ _ _ h)
    · cases h
    · cases h
    · cases h
  | baload =>
    unfold sI at h
    dsimp only at h
    clear hCv hCs hRi hRa hRv
    obtain ⟨k, j, i, r, rfl, hN⟩ := RI_inv h; clear h; have h := hN; clear hN
    obtain ⟨t, n, hN, ht, hn, hl3⟩ := pArr_inv (ad := ad) (un := un) (cA := cA) h; clear h; have h := hN; clear hN
    rcases (show t = 0 ∨ t = 1 ∨ t = 2 ∨ t = 3 by omega) with rfl | rfl | rfl | rfl
    · cases h
    · obtain ⟨hin, hN⟩ := In_inv h; clear h; have h := hN; clear hN; exact g_bald hx hb hK (hn (by omega)) hin hdec (hKk _ _ _ _ h)
    · obtain ⟨hin, hN⟩ := In_inv h; clear h; have h := hN; clear hN; exact g_zald hx hb hK (hn (by omega)) hin hdec (hKk _ _ _ _ h)
    · cases h
  | laload =>
    unfold sI at h
    dsimp only at h
    clear hCv hCs hRi hRa hRv
    obtain ⟨k, j, i, r, rfl, hN⟩ := RI_inv h; clear h; have h := hN; clear hN
    obtain ⟨t, n, hN, ht, hn, hl3⟩ := pArr_inv (ad := ad) (un := un) (cA := cA) h; clear h; have h := hN; clear hN
    rcases (show t = 0 ∨ t = 1 ∨ t = 2 ∨ t = 3 by omega) with rfl | rfl | rfl | rfl
    · cases h
    · cases h
    · cases h
    · obtain ⟨rfl, hn3⟩ := hl3 rfl; obtain ⟨hin, hN⟩ := In_inv h; clear h; have h := hN; clear hN; exact g_lald hx hb hK hn3 hin hdec (hKk _ _ _ _ h)
  | iastore =>
    unfold sI at h
    dsimp only at h
    clear hCv hCs hRi hRa hRv
    obtain ⟨k, j, i, x, r, rfl, hN⟩ := RII_inv h; clear h; have h := hN; clear hN
    obtain ⟨t, n, hN, ht, hn, hl3⟩ := pArr_inv (ad := ad) (un := un) (cA := cA) h; clear h; have h := hN; clear hN
    rcases (show t = 0 ∨ t = 1 ∨ t = 2 ∨ t = 3 by omega) with rfl | rfl | rfl | rfl
    · obtain ⟨hin, hN⟩ := In_inv h; clear h; have h := hN; clear hN; exact g_iast hx hb hK hJ (hn (by omega)) hin hdec (hKk _ _ _ _ h)
    · cases h
    · cases h
    · cases h
  | bastore =>
    unfold sI at h
    dsimp only at h
    clear hCv hCs hRi hRa hRv
    obtain ⟨k, j, i, x, r, rfl, hN⟩ := RII_inv h; clear h; have h := hN; clear hN
    obtain ⟨t, n, hN, ht, hn, hl3⟩ := pArr_inv (ad := ad) (un := un) (cA := cA) h; clear h; have h := hN; clear hN
    rcases (show t = 0 ∨ t = 1 ∨ t = 2 ∨ t = 3 by omega) with rfl | rfl | rfl | rfl
    · cases h
    · obtain ⟨hin, hN⟩ := In_inv h; clear h; have h := hN; clear hN; exact g_bast hx hb hK hJ (hn (by omega)) hin hdec (hKk _ _ _ _ h)
    · obtain ⟨hin, hN⟩ := In_inv h; clear h; have h := hN; clear hN; exact g_zast hx hb hK hJ (hn (by omega)) hin hdec (hKk _ _ _ _ h)
    · cases h
  | lastore =>
    unfold sI at h
    dsimp only at h
    clear hCv hCs hRi hRa hRv
    obtain ⟨k, j, i, x, r, rfl, hN⟩ := RIL_inv h; clear h; have h := hN; clear hN
    obtain ⟨t, n, hN, ht, hn, hl3⟩ := pArr_inv (ad := ad) (un := un) (cA := cA) h; clear h; have h := hN; clear hN
    rcases (show t = 0 ∨ t = 1 ∨ t = 2 ∨ t = 3 by omega) with rfl | rfl | rfl | rfl
    · cases h
    · cases h
    · cases h
    · obtain ⟨rfl, hn3⟩ := hl3 rfl; obtain ⟨hin, hN⟩ := In_inv h; clear h; have h := hN; clear hN; exact g_last hx hb hK hJ hn3 hin hdec (hKk _ _ _ _ h)
  | arraylength =>
    unfold sI at h
    dsimp only at h
    clear hCv hCs hRi hRa hRv
    obtain ⟨k, j, r, rfl, hN⟩ := R1_inv h; clear h; have h := hN; clear hN
    obtain ⟨t, n, hN, ht, hn, hl3⟩ := pArr_inv (ad := ad) (un := un) (cA := cA) h; clear h; have h := hN; clear hN
    by_cases h3 : t = 3
    · obtain ⟨rfl, hn3⟩ := hl3 h3; exact g_alenl hx hb hK hn3 hdec (hKk _ _ _ _ h)
    · exact g_alen hx hb hK ht (hn h3) hdec (hKk _ _ _ _ h)
  | aaload =>
    unfold sI at h
    dsimp only at h
    clear hCv hCs hRi hRa hRv
    obtain ⟨k, j, i, r, rfl, hN⟩ := RI_inv h; clear h; have h := hN; clear hN
    split at h
    · next hq => obtain ⟨hin, hN⟩ := In_inv h; clear h; have h := hN; clear hN; obtain ⟨y, hf, hN⟩ := pick_inv h; clear h; have h := hN; clear hN; exact g_aald4 hx hb hK hq hin hf hdec (hKk _ _ _ _ h)
    · next hq => obtain ⟨hin, hN⟩ := In_inv h; clear h; have h := hN; clear hN; exact g_aald5 hx hb hK hq hin hdec (hKk _ _ _ _ h)
    · cases h
  | invokevirtual i =>
    unfold sI at h
    dsimp only at h
    cases c' with
    | zero =>
      cases b with
      | zero =>
        obtain ⟨k, j, r, rfl, hN⟩ := R1_inv h; clear h; have h := hN; clear hN
        obtain ⟨n, fs, t, hq, rfl, ht, hN⟩ := Txt_inv h; clear h; have h := hN; clear hN
        split at h
        · next hr => exact (hStr rfl).1 rfl L r σ k n fs t hq ht hr (hKk _ _ _ _ h)
        · cases h
      | succ b =>
        obtain ⟨k, j, i, r, rfl, hN⟩ := RI_inv h; clear h; have h := hN; clear hN
        obtain ⟨n, fs, t, hq, rfl, ht, hN⟩ := Txt_inv h; clear h; have h := hN; clear hN
        split at h
        · next hr => obtain ⟨hin, hN⟩ := In_inv h; clear h; have h := hN; clear hN; exact (hStr rfl).2 (Nat.succ_ne_zero _) L r σ k n fs t i hq ht hr hin (hKk _ _ _ _ h)
        · cases h
    | succ c' =>
      obtain ⟨as, r, hst, hl, hr, hN⟩ := Tk_inv h; clear h; have h := hN; clear hN
      obtain ⟨hrc, hN⟩ := Recv_inv h; clear h; have h := hN; clear hN
      obtain ⟨d', hd, hN⟩ := Dep_inv h; clear h; have h := hN; clear hN
      rw [List.append_nil] at hrc h
      exact hCv _ _ _ _ _ _ _ as.reverse r d' rfl (by rw [List.reverse_reverse]; exact hst) (by rw [List.length_reverse]; exact hl.1) (fun v hv => hl.2 v (List.mem_reverse.mp hv)) hr hrc hd h
  | invokestatic i =>
    unfold sI at h
    dsimp only at h
    cases c' with
    | zero =>
      clear hCv hCs hRi hRa hRv
      cases b with
      | zero =>
        obtain ⟨n, dp, d0, sp, s0, ns, nd, r, hst, hs, hd0, h1, h2, h3, h4, h5, hN⟩ := Copy_inv (ad := ad) (un := un) (cA := cA) h; clear h; have h := hN; clear hN
        subst hst
        split at h
        · next hr => exact g_copy hx hb hml hown (hts _ (hX rfl)) (hts _ hCo.1.1) (hts _ hCo.1.2.1) (hts _ hCo.1.2.2) hK hJ hs hd0 h1 h2 h3 h4 h5 hRo.1 hRo.2 hr hdec (hKk _ _ _ _ h)
        · cases h
      | succ b =>
        cases b with
        | zero =>
          obtain ⟨x, y, r, hst, hN⟩ := I2_inv h; clear h; have h := hN; clear hN
          subst hst
          split at h
          · next hr =>
            intro H locs ls hW hS hL
            have hrs := Rm_sum (ad := ad) hr
            exact va_mmax hx hb (hml.trans hL.1.symm) hown (hts _ (hX rfl)) (hts _ hCo.2.2.1.1) (hts _ hCo.2.1) (hts _ hCo.2.2.1.2) hRo.1 (by omega) (Nat.zero_le _) (Nat.zero_le _) hdec (hKk _ _ _ _ h H locs ls hW hS hL)
          · cases h
        | succ b =>
          obtain ⟨x, y, r, hst, hN⟩ := I2_inv h; clear h; have h := hN; clear hN
          subst hst
          split at h
          · next hr =>
            intro H locs ls hW hS hL
            have hrs := Rm_sum (ad := ad) hr
            exact va_mmin hx hb (hml.trans hL.1.symm) hown (hts _ (hX rfl)) (hts _ hCo.2.2.2.1) (hts _ hCo.2.1) (hts _ hCo.2.2.2.2) hRo.1 (by omega) (Nat.zero_le _) (Nat.zero_le _) hdec (hKk _ _ _ _ h H locs ls hW hS hL)
          · cases h
    | succ c' =>
      obtain ⟨as, r, hst, hl, hr, hN⟩ := Tk_inv h; clear h; have h := hN; clear hN
      obtain ⟨d', hd, hN⟩ := Dep_inv h; clear h; have h := hN; clear hN
      rw [List.append_nil] at h
      exact hCs _ _ _ _ _ _ _ as.reverse r d' rfl (by rw [List.reverse_reverse]; exact hst) (by rw [List.length_reverse]; exact hl.1) (fun v hv => hl.2 v (List.mem_reverse.mp hv)) hr hd h
  | ireturn =>
    unfold sI at h
    dsimp only at h
    obtain ⟨x, hst, hN⟩ := E1_inv h; clear h; have h := hN; clear hN; obtain ⟨hr, hN⟩ := Ret_inv h; clear h; have h := hN; clear hN; exact hRi x rfl hst hr h
  | areturn =>
    unfold sI at h
    dsimp only at h
    obtain ⟨k, j, hst, hN⟩ := ER_inv h; clear h; have h := hN; clear hN; exact hRa (k, j) rfl hst h
  | return_ =>
    unfold sI at h
    dsimp only at h
    obtain ⟨hst, hN⟩ := E0_inv h; clear h; have h := hN; clear hN; exact hRv rfl hst h
  | _ => exact absurd (show (none : Option ρ) = some o from h) (fun z => by cases z)
end PG4
end
section
def pRoom (d : Nat) : Room := { frames := d + 8, cells := 0, slots := 0, locals := 64 * (d + 8) }
abbrev pInf : Type := MethodName × ByteArray × Nat × Option FieldType
/-- what a call needs of the tables -/
def pXcall (I : List pInf) (tg : List Cond) (own : String) (x : pX) : Prop := match x with
  | (ins, a, b, c, w, _, _) => match ins with
    | .invokevirtual i => c = 0 ∨ ∃ (y : MethodName) (bytes : ByteArray) (maxL : Nat) (ret : Option FieldType) (n : Nat), I[a]? = some (y, bytes, maxL, ret) ∧ Cond.methodLink own i y ∈ tg ∧ Cond.instanceMethod y ∈ tg ∧ Cond.selects y.cls y y ∈ tg ∧ Cond.initialized y.cls ∈ tg ∧ Cond.code y bytes maxL ret ∈ tg ∧ (y.cls ≠ "java/lang/invoke/MethodHandle" ∧ y.cls ≠ "java/lang/invoke/VarHandle") ∧ (parseMethodDescriptor y.desc).map (fun d => d.parameters.length) = some n ∧ b = n + 1 ∧ w ≠ 0 ∧ (∃ q, vwCl[w - 1]? = some q ∧ q.1 = y.cls) ∧ b ≤ maxL ∧ maxL ≤ 40
    | .invokestatic i => c = 0 ∨ ∃ (y : MethodName) (bytes : ByteArray) (maxL : Nat) (ret : Option FieldType), I[a]? = some (y, bytes, maxL, ret) ∧ Cond.methodLink own i y ∈ tg ∧ Cond.static y ∈ tg ∧ Cond.initialized y.cls ∈ tg ∧ Cond.code y bytes maxL ret ∈ tg ∧ (y.cls ≠ "java/lang/invoke/MethodHandle" ∧ y.cls ≠ "java/lang/invoke/VarHandle") ∧ (parseMethodDescriptor y.desc).map (fun d => d.parameters.length) = some b ∧ b ≤ maxL ∧ maxL ≤ 40
    | _ => True
def pXret (ret : Option FieldType) (x : pX) : Prop := match x.1 with
  | .ireturn => (x.2.1 = 0 → ret = some .int) ∧ (x.2.1 = 1 → ret = some .boolean) ∧ (x.2.1 = 2 → ret = some .char)
  | .areturn => ∃ t, ret = some t ∧ ((∃ n, t = .object n) ∨ ∃ q, t = .array q)
  | .return_ => ret = none
  | _ => True
def pPok (P : List pM) (I : List pInf) (tg : List Cond) (Xs : String → pX → Prop) : Prop := ∀ (me : Nat) (M : pM), P[me]? = some M → ∃ (y : MethodName) (bytes : ByteArray) (maxL : Nat) (ret : Option FieldType), I[me]? = some (y, bytes, maxL, ret) ∧ plainName y.cls = true ∧
  ∀ (pc : Nat) (x : pX), pFind pc M.1 = some x → decode bytes pc = .ok (x.1, pLen x.1 x.2.2.1) ∧ pXex y.cls tg maxL pc x ∧ pXcall I tg y.cls x ∧ pXret ret x ∧ Xs y.cls x
theorem pBk_inv {ρ : Type} {o : ρ} {q : Option pRes} {g : Nat} {F : List pV → pSt → Option ρ} (h : pBk q g F = some o) : ∃ v σ, q = some (v, σ) ∧ F v.toList σ = some o := by
  unfold pBk at h
  split at h
  · unfold pB0 at h
    split at h
    · exact ⟨_, _, rfl, h⟩
    · cases h
  · unfold pB1 at h
    split at h
    · exact ⟨_, _, rfl, h⟩
    · cases h
  · unfold pB2 at h
    split at h
    · split at h
      · next e => subst e; exact ⟨_, _, rfl, h⟩
      · cases h
    · cases h
theorem lv_args_get {ad : Nat → Nat → Nat} : ∀ (as : List pV), (∀ v ∈ as, ∀ y, v ≠ .inr (.inl y)) → ∀ (i j : Nat) (v : pV), as[j]? = some v → (i + j, rv ad v) ∈ lv_args i (as.map (rv ad))
  | [], _, _, _, _, h => by cases h
  | a :: t, hc, i, 0, v, h => by
    cases h
    exact List.mem_cons_self
  | a :: t, hc, i, j + 1, v, h => by
    have h1 : (rv ad a).category = 1 := rv_cat1 (hc a List.mem_cons_self)
    have h2 := lv_args_get (ad := ad) t (fun v hv => hc v (List.mem_cons_of_mem _ hv)) (i + 1) j v h
    show _ ∈ (i, rv ad a) :: lv_args (if (rv ad a).category = 2 then i + 2 else i + 1) (t.map (rv ad))
    rw [if_neg (by omega), show i + (j + 1) = i + 1 + j by omega]
    exact List.mem_cons_of_mem _ h2
theorem lg_sl_len {ad : Nat → Nat → Nat} : ∀ (as : List pV), (∀ v ∈ as, ∀ y, v ≠ .inr (.inl y)) → (lg_sl (as.map (rv ad))).length = as.length
  | [], _ => rfl
  | a :: t, hc => by
    have h1 : (rv ad a).category = 1 := rv_cat1 (hc a List.mem_cons_self)
    have h2 := lg_sl_len (ad := ad) t (fun v hv => hc v (List.mem_cons_of_mem _ hv))
    unfold lg_sl at h2 ⊢
    rw [List.map_cons, List.flatMap_cons, if_neg (by omega), List.length_append, h2]
    simp
    omega
theorem pL0_lv {ad : Nat → Nat → Nat} {as : List pV} {ls : Array Slot} {n : Nat} (hc : ∀ v ∈ as, ∀ y, v ≠ .inr (.inl y)) (h : lv_has ls n (lv_args 0 (as.map (rv ad)))) : pLv ad ls n (pL0 as) := by
  refine ⟨h.1, h.2.1, fun i v hi _ => ?_⟩
  have hv : as[i]? = some v := by
    unfold pL0 at hi
    by_cases hl : i < as.length
    · rw [List.getElem?_append_left (by simpa using hl), List.getElem?_map] at hi
      cases ha : as[i]? with
      | none => rw [ha] at hi; cases hi
      | some w => rw [ha] at hi; simp at hi; rw [hi]
    · rw [List.getElem?_append_right (by simpa using hl)] at hi
      have hm := List.mem_of_getElem? hi
      simp at hm
  have := h.2.2 _ (lv_args_get as hc 0 i v hv)
  simpa using this
section PRUN
variable (l : Launch) (S : List pSh) (P : List pM) (T : pTx) (I : List pInf) (tg : List Cond) (ad : Nat → Nat → Nat) (un : Nat) (cA : Nat → ClassId) (dg : va_G) (A : Nat → Prop) (Z : State → Prop) (Xs : String → pX → Prop)
def pPc (as : List pV) (σ : pSt) : Array Value → State → Prop := va_Pc (as.map (rv ad)) (fun U => pWo S ad un cA dg σ U.heap ∧ va_K dg vwCl (pTys cA) U ∧ Z U)
def pQc (v : Option pV) (σ : pSt) : Array Value → State → Outcome → State → Prop := fun _ st oc t => oc = .returned (v.map (rv ad)) ∧ pWo S ad un cA dg σ t.heap ∧ va_F A st t
/-- what holds of the whole program -/
def pAll : Prop := (∀ w ∈ tg, goodWord w = true) ∧ pClOk tg ∧ pShOk S ∧ pAp S ad un cA A ∧ pPrim tg ∧ pPok P I tg Xs ∧
  (∀ s U : State, s.WarmedH U.vm → s.heap.size ≤ U.heap.size → (∀ q : Nat, q < s.heap.size → ¬ A q → U.heap[q]? = s.heap[q]?) → Z s → Z U) ∧ (∀ (U : State) (g : JFrame) (mk : MethodId) (a : Array Value), Z U → Z (U.calling g mk a)) ∧
  ∀ (p : Program) (e : Env) (d : Nat) (s : State) (m : MethodId) (args : Array Value) (below : List Frame) (meth : Method) (c : Code) (Q : State → Prop) (nL : Nat) (cc : ByteArray) (own : String) (pc : Nat) (x : pX), p.tables.exec = Jvm.exec → c.code = cc → c.maxLocals = nL → s.vm.findClass own = some m.cls → (∀ w ∈ tg, w.before args s = true) → va_K dg vwCl (pTys cA) s → Z s → decode cc pc = .ok (x.1, pLen x.1 x.2.2.1) → Xs own x → pStr p l e (pRoom d) s m args below meth c Q S ad un cA dg A s.heap nL cc T pc x
variable {l S P T I tg ad un cA dg A Z Xs}
theorem pPc_blind (hZc : ∀ (U : State) (g : JFrame) (mk : MethodId) (a : Array Value), Z U → Z (U.calling g mk a)) {as : List pV} {σ : pSt} : FrameBlind (pPc S ad un cA dg Z as σ) := by
  intro a U g mk q
  obtain ⟨q0, q1, q2, q3⟩ := q
  exact ⟨q0, q1, va_K.moved (u := U) (U := U.calling g mk a) (Vm.Alike.refl U.vm) q2, hZc U g mk a q3⟩
/-- behind a call -/
theorem g_call {p : Program} {e : Env} {R : Room} {s : State} {m : MethodId} {args : Array Value} {below : List Frame} {meth : Method} {c : Code} {Q : State → Prop} {H H0 : Heap} {locs : List Loc} {nL pc : Nat} {L : pL} {ls : Array Slot} {st0 : List Value} {r : List pV} {v : Option pV} {σ' : pSt} {a : Array Value}
    (hr : va_Run p l e R s m args below meth c H locs 0 0 0 0 (F0 m pc ls st0) (r.map (rv ad)) (pQc S ad un cA dg A v σ' a) A) (hS : va_S A H0 H locs) (hL : pLv ad ls nL L) (kk : pG p l e R s m args below meth c Q S ad un cA dg A H0 nL (pc + 3) L (v.toList ++ r) σ') : W p l e R s m args below meth c H locs 0 0 Q (F0 m pc ls st0) := by
  intro T2 hT X
  obtain ⟨v', st₀, t, T', LL, h0, X', hLL, e1, e2, ⟨hv, hw, hz, hk⟩, stp⟩ := hr T2 hT X
  rw [h0] at hz hk
  have hv : v' = v.map (rv ad) := by injection hv
  subst hv
  obtain ⟨t2, a1, b1⟩ := kk T'.heap (locs ++ LL) ls (by rw [e1]; exact hw) ⟨Nat.le_trans hS.1 (by rw [e1]; exact hz), fun q h1 h2 => by rw [e1, hk q (Nat.lt_of_lt_of_le h1 hS.1) h2]; exact hS.2.1 q h1 h2, fun q hq => by
      rcases List.mem_append.mp hq with h | h
      · exact hS.2.2 q h
      · exact hLL q h⟩ hL T' rfl X'
  refine ⟨t2, stp t2 ?_, b1⟩
  have e3 : (v.toList ++ r).map (rv ad) = (v.map (rv ad)).toList ++ r.map (rv ad) := by cases v <;> simp
  rw [e3] at a1
  exact a1
theorem pFrame (hA : pAll l S P T I tg ad un cA dg A Z Xs) : ∀ (n me d pc : Nat) (L : pL) (st : List pV) (σ : pSt) (res : pRes), pr S P T n me d pc L st σ = some res → ∀ (y : MethodName) (bytes : ByteArray) (maxL : Nat) (ret : Option FieldType), I[me]? = some (y, bytes, maxL, ret) →
    ∀ (p : Program) (e : Env) (s : State) (m : MethodId) (args : Array Value) (below : List Frame) (meth : Method) (c : Code), p.tables.exec = Jvm.exec → c.code = bytes → meth.sig.returnType = ret → c.maxLocals = maxL → s.vm.findClass y.cls = some m.cls → (∀ w ∈ tg, w.before args s = true) → meth.locks = false → va_K dg vwCl (pTys cA) s → Z s →
    pG p l e (pRoom d) s m args below meth c (MQ below (pQc S ad un cA dg A res.1 res.2) args s 0 0 A) S ad un cA dg A s.heap maxL pc L st σ := by
  obtain ⟨hG, hCl, hSh, hJ, hCo, hPk, hZ, hZc, hXs⟩ := id hA
  intro n
  induction n with
  | zero => intro me d pc L st σ res h; cases h
  | succ n ih =>
    intro me d pc L st σ res h y bytes maxL ret hI p e s m args below meth c hx hb hr hml hown hts hlocks hK hZs
    unfold pr at h
    cases hM : P[me]? with
    | none => rw [hM] at h; cases h
    | some M =>
      rw [hM] at h
      dsimp only at h
      unfold pSt1 at h
      obtain ⟨y2, bytes2, maxL2, ret2, hI2, hpl, hall⟩ := hPk me M hM
      rw [hI] at hI2
      cases hI2
      cases hfx : pFind pc M.1 with
      | none => rw [hfx] at h; cases h
      | some x =>
        rw [hfx] at h
        dsimp only at h
        obtain ⟨hdec, hX, hXc, hXr, hXx⟩ := hall pc x hfx
        have hgood : ∀ ws : List Cond, (∀ w ∈ ws, w ∈ tg) → GoodIn tg ws := fun ws hw w h => ⟨hw w h, good_of_word (hG w (hw w h))⟩
        have hmet : ∀ (me' d' : Nat) (as : List pV) (v : Option pV) (σ' : pSt), pr S P T n me' d' 0 (pL0 as) [] σ = some (v, σ') → ∀ (y' : MethodName) (bytes' : ByteArray) (maxL' : Nat) (ret' : Option FieldType), I[me']? = some (y', bytes', maxL', ret') → (∀ v ∈ as, ∀ y, v ≠ .inr (.inl y)) → as.length ≤ maxL' → Met l y' (Cond.code y' bytes' maxL' ret' :: tg) (pRoom d') (pPc S ad un cA dg Z as σ) (pQc S ad un cA dg A v σ') 0 0 A := by
          intro me' d' as v σ' hrun y' bytes' maxL' ret' hI' hcat hlen
          have hpl' : plainName y'.cls = true := by
            cases n with
            | zero => cases hrun
            | succ n =>
              unfold pr at hrun
              cases hM' : P[me']? with
              | none => rw [hM'] at hrun; cases hrun
              | some M' =>
                obtain ⟨y3, b3, m3, r3, hI3, hp3, -⟩ := hPk me' M' hM'
                rw [hI'] at hI3
                cases hI3
                exact hp3
          refine Met.ofW (cc := bytes') (maxL := maxL') (ret := ret') hpl' rfl ?_
          intro p2 e2 s2 m2 args2 below2 meth2 c2 s₁ B hml2 hv
          obtain ⟨rfl, hW, hK2, hZ2⟩ := hv
          have hts2 := atoms_spec (ws := Cond.code y' bytes' maxL' ret' :: tg) B.pre
          have hl := lv_entry (as.map (rv ad)) (n := maxL') (by rw [lg_sl_len as hcat]; exact hlen)
          rw [lg_entry_eq]
          exact ih me' d' 0 (pL0 as) [] σ (v, σ') hrun y' bytes' maxL' ret' hI' p2 e2 s2 m2 _ below2 meth2 c2 B.exec B.bytes B.returns hml2 (findClass_of_methodNamed B.named) (fun w hw => hts2 w (List.mem_cons_of_mem _ hw)) B.notSynchronized hK2 hZ2 s2.heap [] _ hW va_S.rf (pL0_lv hcat hl)
        have hnw : nativeFrameWords "java/lang/System" "arraycopy" 5 = 7 := by decide +kernel
        have hRo : 1 ≤ (pRoom d).frames ∧ 8 + (nativeFrameWords "java/lang/System" "arraycopy" 5 + 11) ≤ (pRoom d).locals := by
          rw [hnw]
          refine ⟨?_, ?_⟩
          · show 1 ≤ d + 8
            omega
          · show 8 + (7 + 11) ≤ 64 * (d + 8)
            omega
        refine sound_step (d := d) hx hb hml hts hCl hown hK hJ hSh hCo hRo (by show 21 ≤ 64 * (d + 8); omega) hdec hX (hXs p e d s m args below meth c _ maxL bytes y.cls pc x hx hb hml hown hts hK hZs hdec hXx) ?_ ?_ ?_ ?_ ?_ ?_ h
        · intro pc' L' st' σ' hk H locs ls hW hS hL
          exact ih me d pc' _ st' σ' res hk y bytes maxL ret hI p e s m args below meth c hx hb hr hml hown hts hlocks hK hZs H locs ls hW hS (hL.mask (pCut_sub M pc' L'))
        · intro i a b c' w gk z as r d' hxe hst hlen hcat hrm hrc hd hC H locs ls hW hS hL
          subst hxe
          obtain ⟨v, σ', hrun, hk⟩ := pBk_inv hC
          rcases hXc with hc0 | ⟨y', bytes', maxL', ret', nn, hI', w1, w2, w3, w4, w5, w6, w7, w8, w9, ⟨qc, w10, w10b⟩, w11, w12⟩
          · exact absurd hc0 (Nat.succ_ne_zero _)
          · rcases hrc with hw0 | ⟨ci, k, nk, fs, t, rfl, rfl, hq⟩
            · exact absurd hw0 w9
            · have hM' := hmet a d' _ v σ' hrun y' bytes' maxL' ret' hI' hcat (by rw [hlen]; exact w11)
              have hrest := Rm_sum (ad := ad) hrm
              refine g_call (v := v) (σ' := σ') (L := L) (r := r) (va_runV (As := t.map (rv ad)) (b := ad k 0) (C := y'.cls) ⟨hx, hb, hml, hown, hts⟩ hM' (cwV nn hts (hgood _ (fun q hq2 => ?_)) rfl rfl rfl ⟨rfl, w6.1, w6.2, w7⟩ ⟨?_, ?_⟩) ⟨pPc_blind hZc, ?_, ?_⟩ rfl ?_ hL.1 ?_ (lv_room hrest) hdec ⟨Nat.le_refl _, Nat.le_refl _⟩) hS hL ?_
              · unfold wsV at hq2
                simp only [List.cons_append, List.nil_append, List.mem_cons] at hq2
                rcases hq2 with rfl | rfl | rfl | rfl | rfl | h5
                · exact w1
                · exact w2
                · exact w3
                · exact w4
                · exact w5
                · exact h5
              · show d' + 8 + 1 ≤ d + 8
                omega
              · show 8 + (maxL' + 11) + 64 * (d' + 8) ≤ 64 * (d + 8)
                omega
              · rw [Nat.add_sub_cancel] at w10
                have := va_recv (q0 := 0) hK (hW.sing (pCe_obj hq σ)) w10 rfl
                rw [w10b] at this
                exact this
              · intro U hU hWm
                refine ⟨rfl, by rw [hU]; exact hW, va_K.moved hWm.alike hK, hZ s U hWm (by rw [hU]; exact hS.1) (fun q h1 h2 => by rw [hU]; exact hS.2.1 q h1 h2) hZs⟩
              · rw [List.length_map]
                have := hlen
                rw [List.length_cons] at this
                omega
              · rw [hst]
                simp [rv]
              · intro H1 locs1 ls1 hW1 hS1 hL1
                exact ih me d _ _ _ σ' res hk y bytes maxL ret hI p e s m args below meth c hx hb hr hml hown hts hlocks hK hZs H1 locs1 ls1 hW1 hS1 (hL1.mask (pCut_sub M _ _))
        · intro i a b c' w gk z as r d' hxe hst hlen hcat hrm hd hC H locs ls hW hS hL
          subst hxe
          obtain ⟨v, σ', hrun, hk⟩ := pBk_inv hC
          rcases hXc with hc0 | ⟨y', bytes', maxL', ret', hI', w1, w2, w4, w5, w6, w7, w11, w12⟩
          · exact absurd hc0 (Nat.succ_ne_zero _)
          · have hM' := hmet a d' _ v σ' hrun y' bytes' maxL' ret' hI' hcat (by rw [hlen]; exact w11)
            have hrest := Rm_sum (ad := ad) hrm
            refine g_call (v := v) (σ' := σ') (L := L) (r := r) (va_runS (As := as.map (rv ad)) ⟨hx, hb, hml, hown, hts⟩ hM' (va_cwS b hts (hgood _ (fun q hq2 => ?_)) rfl rfl rfl ⟨w6.1, w6.2, w7⟩ ⟨?_, ?_⟩) ⟨pPc_blind hZc, ?_⟩ rfl ?_ hL.1 ?_ (lv_room hrest) hdec ⟨Nat.le_refl _, Nat.le_refl _⟩) hS hL ?_
            · unfold va_wsS at hq2
              simp only [List.cons_append, List.nil_append, List.mem_cons] at hq2
              rcases hq2 with rfl | rfl | rfl | rfl | h5
              · exact w1
              · exact w2
              · exact w4
              · exact w5
              · exact h5
            · show d' + 8 + 1 ≤ d + 8
              omega
            · show 8 + (maxL' + 11) + 64 * (d' + 8) ≤ 64 * (d + 8)
              omega
            · intro U hU hWm
              refine ⟨rfl, by rw [hU]; exact hW, va_K.moved hWm.alike hK, hZ s U hWm (by rw [hU]; exact hS.1) (fun q h1 h2 => by rw [hU]; exact hS.2.1 q h1 h2) hZs⟩
            · rw [List.length_map]
              exact hlen
            · rw [hst]
              simp
            · intro H1 locs1 ls1 hW1 hS1 hL1
              exact ih me d _ _ _ σ' res hk y bytes maxL ret hI p e s m args below meth c hx hb hr hml hown hts hlocks hK hZs H1 locs1 ls1 hW1 hS1 (hL1.mask (pCut_sub M _ _))
        · intro v hx1 hst hrt hR H locs ls hW hS hL
          cases hR
          subst hst
          obtain ⟨ins, a, b, c', w, gk, z⟩ := x
          dsimp only at hx1
          subst hx1
          obtain ⟨r0, r1, r2⟩ := hXr
          have hq : ∀ t : State, t.heap = H → s.WarmedH t.vm → pQc S ad un cA dg A (some (.inl v)) σ args s (.returned (some (.int v))) t := fun t ht _ => ⟨rfl, by rw [ht]; exact hW, hS.F ht⟩
          rcases hrt with e0 | ⟨e0, hv⟩ | ⟨e0, hv⟩
          · exact W.zret (ty := .int) hx hb (by rw [hr]; exact r0 e0) rfl hq hS.2.2 hdec hlocks
          · exact W.zret (ty := .boolean) hx hb (by rw [hr]; exact r1 e0) (by show Value.int (v &&& 1) = _; rw [hv]) hq hS.2.2 hdec hlocks
          · exact W.zret (ty := .char) hx hb (by rw [hr]; exact r2 e0) (char_nar hv).1 hq hS.2.2 hdec hlocks
        · intro q hx1 hst hR H locs ls hW hS hL
          cases hR
          subst hst
          obtain ⟨ins, a, b, c', w, gk, z⟩ := x
          dsimp only at hx1
          subst hx1
          obtain ⟨t0, ht0, hrf⟩ := hXr
          exact W.aret (rt := t0) hx hb (by rw [hr]; exact ht0) hrf (Or.inr ⟨_, rfl⟩) (fun t ht _ => ⟨rfl, by rw [ht]; exact hW, hS.F ht⟩) hS.2.2 hdec hlocks
        · intro hx1 hst hR H locs ls hW hS hL
          cases hR
          subst hst
          obtain ⟨ins, a, b, c', w, gk, z⟩ := x
          dsimp only at hx1
          subst hx1
          exact W.vret hx hb (by rw [hr]; exact hXr) (fun t ht _ => ⟨rfl, by rw [ht]; exact hW, hS.F ht⟩) hS.2.2 hdec hlocks
/-- A METHOD'S CONTRACT out of its pure run -/
theorem pMet (hA : pAll l S P T I tg ad un cA dg A Z Xs) {me d : Nat} {as : List pV} {σ σ' : pSt} {v : Option pV} (h : ev S P T me d 0 (pL0 as) [] σ = some (v, σ')) {y : MethodName} {bytes : ByteArray} {maxL : Nat} {ret : Option FieldType} (hI : I[me]? = some (y, bytes, maxL, ret)) (hp : plainName y.cls = true) (hcat : ∀ v ∈ as, ∀ y, v ≠ .inr (.inl y)) (hlen : as.length ≤ maxL) : Met l y (Cond.code y bytes maxL ret :: tg) (pRoom d) (pPc S ad un cA dg Z as σ) (pQc S ad un cA dg A v σ') 0 0 A := by
  obtain ⟨n, hrun⟩ := (ev_iff S P T).mp h
  refine Met.ofW (cc := bytes) (maxL := maxL) (ret := ret) hp rfl ?_
  intro p2 e2 s2 m2 args2 below2 meth2 c2 s₁ B hml2 hv
  obtain ⟨rfl, hW, hK2, hZ2⟩ := hv
  have hts2 := atoms_spec (ws := Cond.code y bytes maxL ret :: tg) B.pre
  have hl := lv_entry (as.map (rv ad)) (n := maxL) (by rw [lg_sl_len as hcat]; exact hlen)
  rw [lg_entry_eq]
  exact pFrame hA n me d 0 (pL0 as) [] σ (v, σ') hrun y bytes maxL ret hI p2 e2 s2 m2 _ below2 meth2 c2 B.exec B.bytes B.returns hml2 (findClass_of_methodNamed B.named) (fun w hw => hts2 w (List.mem_cons_of_mem _ hw)) B.notSynchronized hK2 hZ2 s2.heap [] _ hW va_S.rf (pL0_lv hcat hl)
end PRUN
end
section
/-- the words that may be handed on -/
def tg : List Cond := lw_tbl.filter goodWord
theorem wq {w : Cond} (i : Nat) (h : lw_tbl[i]? = some w) (g : goodWord w = true) : w ∈ tg := List.mem_filter.mpr ⟨List.mem_of_getElem? h, g⟩
def cnL : List String := [RX0, RX1, RX2, RX3, RX4, RX5, RX6, RX7, RX8, RX9, RX10, RJ6, RJ7]
def cn (i : Nat) : String := cnL.getD i ""
def Inf : List pInf := [(yX0_clear, cX0_clear, 1, none), (yX0_copyFrom, cX0_copyFrom, 2, none), (yX0_roomFor, cX0_roomFor, 1, (some .int)), (yX0_has, cX0_has, 3, (some .boolean)), (yX0_setting, cX0_setting, 2, (some .int)), (yX0_allPlaces, cX0_allPlaces, 1, (some .int)), (yX0_weigh, cX0_weigh, 4, none), (yX0_sumGroups, cX0_sumGroups, 5, none), (yX0_weightsOf, cX0_weightsOf, 3, (some .int)), (yX0_traitsOfNotionAt, cX0_traitsOfNotionAt, 2, (some .int)), (yX0_lacksOf, cX0_lacksOf, 3, (some .int)), (yX0_addsOf, cX0_addsOf, 3, (some .int)), (yX0_lostByTraits, cX0_lostByTraits, 4, (some .int)), (yX0_wouldClash, cX0_wouldClash, 5, (some .boolean)), (yX0_otherPlace, cX0_otherPlace, 3, (some .int)), (yX0_boundBy, cX0_boundBy, 7, (some .int)), (yX0_wordForAll, cX0_wordForAll, 4, (some .int)), (yX0_toldBack, cX0_toldBack, 7, (some .int)), (yX0_traitsSaidFor, cX0_traitsSaidFor, 6, (some .int)), (yX1_clear, cX1_clear, 1, none), (yX1_indexOf, cX1_indexOf, 3, (some .int)), (yX1_put, cX1_put, 7, (some .int)), (yX1_agreed, cX1_agreed, 7, (some .int)), (yX1_costOf, cX1_costOf, 7, (some .int)), (yX2_clear, cX2_clear, 1, none), (yX2_mayTell, cX2_mayTell, 3, (some .boolean)), (yX2_isFull, cX2_isFull, 1, (some .boolean)), (yX2_isFullOfRights, cX2_isFullOfRights, 1, (some .boolean)), (yX2_append, cX2_append, 6, (some .int)), (yX2_putRight, cX2_putRight, 4, (some .int)), (yX2_gather, cX2_gather, 6, (some .int)), (yX2_fitsAll, cX2_fitsAll, 6, (some .boolean)), (yX2_setsWith, cX2_setsWith, 4, (some .int)), (yX2_setsWithin, cX2_setsWithin, 4, (some .int)), (yX3_append, cX3_append, 3, none), (yX3_find, cX3_find, 5, (some .int)), (yX3_isSame, cX3_isSame, 5, (some .boolean)), (yX4_read, cX4_read, 4, (some .int)), (yX4_begin, cX4_begin, 2, none), (yX4_advance, cX4_advance, 1, none), (yX4_signOf, cX4_signOf, 1, (some .char)), (yX4_refuse, cX4_refuse, 2, (some .boolean)), (yX4_mayBegin, cX4_mayBegin, 2, (some .boolean)), (yX4_readBody, cX4_readBody, 2, (some .boolean)), (yX4_keyword, cX4_keyword, 1, (some .int)), (yX4_isWord, cX4_isWord, 3, (some .boolean)), (yX4_readSemicolon, cX4_readSemicolon, 1, (some .boolean)), (yX4_readTraits, cX4_readTraits, 4, (some .boolean)), (yX4_readPlace, cX4_readPlace, 3, (some .boolean)), (yX4_readTie, cX4_readTie, 5, (some .boolean)), (yX4_readHearer, cX4_readHearer, 3, (some .boolean)), (yX4_readWeight, cX4_readWeight, 1, (some .boolean)), (yX4_readSetting, cX4_readSetting, 2, (some .boolean)), (yX4_readNewName, cX4_readNewName, 2, (some .boolean)), (yX4_readSet, cX4_readSet, 3, (some .boolean)), (yX4_readNumber, cX4_readNumber, 4, (some .boolean)), (yX5_clear, cX5_clear, 1, none), (yX5_copyFrom, cX5_copyFrom, 2, none), (yX5_put, cX5_put, 6, none), (yX5_isChosen, cX5_isChosen, 2, (some .boolean)), (yX5_isBorrowed, cX5_isBorrowed, 2, (some .boolean)), (yX5_chosen, cX5_chosen, 3, (some .int)), (yX5_noted, cX5_noted, 3, (some .int)), (yX5_traitsAt, cX5_traitsAt, 3, (some .int)), (yX5_traitsOf, cX5_traitsOf, 2, (some .int)), (yX5_lostAt, cX5_lostAt, 4, (some .int)), (yX5_lostOfAll, cX5_lostOfAll, 4, (some .int)), (yX5_clashBits, cX5_clashBits, 4, (some .int)), (yX5_isClashing, cX5_isClashing, 6, (some .boolean)), (yX5_clashesAt, cX5_clashesAt, 6, (some .int)), (yX5_isBorrowedOption, cX5_isBorrowedOption, 2, (some .boolean)), (yX5_traitsOfOption, cX5_traitsOfOption, 2, (some .int)), (yX5_lostWithOption, cX5_lostWithOption, 3, (some .int)), (yX5_putOption, cX5_putOption, 3, none), (yX5_exchangeRound, cX5_exchangeRound, 3, (some .boolean)), (yX5_exchangeAt, cX5_exchangeAt, 6, (some .boolean)), (yX5_lostWithWord, cX5_lostWithWord, 5, (some .int)), (yX5_lostWithLeast, cX5_lostWithLeast, 6, (some .int)), (yX5_oneWord, cX5_oneWord, 6, (some .int)), (yX5_mendOnce, cX5_mendOnce, 7, (some .boolean)), (yX5_untoldLacks, cX5_untoldLacks, 2, (some .int)), (yX5_heardAt, cX5_heardAt, 3, (some .int)), (yX5_rightOf, cX5_rightOf, 4, (some .int)), (yX6_putBest, cX6_putBest, 4, (some .boolean)), (yX6_begin, cX6_begin, 5, none), (yX6_levelOf, cX6_levelOf, 3, (some .int)), (yX6_obeyTie, cX6_obeyTie, 5, none), (yX6_obeyInside, cX6_obeyInside, 10, none), (yX6_obeyOutside, cX6_obeyOutside, 5, none), (yX6_settle, cX6_settle, 5, none), (yX6_narrow, cX6_narrow, 6, (some .int)), (yX6_leastOf, cX6_leastOf, 5, (some .int)), (yX7_hasRoom, cX7_hasRoom, 1, (some .boolean)), (yX7_append, cX7_append, 3, none), (yX8_clear, cX8_clear, 1, none), (yX8_isFull, cX8_isFull, 1, (some .boolean)), (yX8_latestOf, cX8_latestOf, 4, (some .int)), (yX8_append, cX8_append, 4, (some .int)), (yX8_wordsIn, cX8_wordsIn, 3, (some (.array .int))), (yX8_turns, cX8_turns, 7, (some .int)), (yX8_firstAbove, cX8_firstAbove, 6, (some .int)), (yX9_feed, cX9_feed, 6, (some .int)), (yX9_end, cX9_end, 2, (some .int)), (yX9_book, cX9_book, 3, (some .int)), (yX9_fault, cX9_fault, 2, (some .int)), (yX9_told, cX9_told, 2, (some .int)), (yX9_traits, cX9_traits, 3, (some .int)), (yX9_notion, cX9_notion, 2, (some .int)), (yX9_choose, cX9_choose, 6, (some .int)), (yX9_wordsAreFit, cX9_wordsAreFit, 5, (some .boolean)), (yX9_leave, cX9_leave, 2, (some .int)), (yX9_choice, cX9_choice, 3, (some .int)), (yX9_bears, cX9_bears, 4, (some .int)), (yX9_note, cX9_note, 4, (some .int)), (yX9_lost, cX9_lost, 1, (some .int)), (yX9_clashes, cX9_clashes, 1, (some .int)), (yX9_bound, cX9_bound, 2, (some .int)), (yX9_best, cX9_best, 3, (some .int)), (yX9_exchange, cX9_exchange, 3, (some .int)), (yX9_one, cX9_one, 2, (some .int)), (yX9_price, cX9_price, 3, (some .int)), (yX9_swap, cX9_swap, 2, (some .int)), (yX9_mend, cX9_mend, 4, (some .int)), (yX9_whyNotHeard, cX9_whyNotHeard, 3, (some .int)), (yX9_hears, cX9_hears, 4, (some .int)), (yX9_back, cX9_back, 4, (some .int)), (yX9_laughs, cX9_laughs, 5, (some .int)), (yX9_hits, cX9_hits, 2, (some .int)), (yX9_on, cX9_on, 6, (some .int)), (yX9_keep, cX9_keep, 2, (some .int)), (yX9_take, cX9_take, 2, (some .int)), (yX9_nearer, cX9_nearer, 5, (some .int)), (yX9_gives, cX9_gives, 5, (some .int)), (yX9_agree, cX9_agree, 2, (some .int)), (yX9_moves, cX9_moves, 4, (some .int)), (yX9_lostIn, cX9_lostIn, 2, (some .int)), (yX9_turned, cX9_turned, 2, (some .int)), (yX9_until, cX9_until, 2, (some .int)), (yX9_isYear, cX9_isYear, 1, (some .boolean)), (yX9_heard, cX9_heard, 5, (some .int)), (yX9_right, cX9_right, 4, (some .int)), (yX9_fit, cX9_fit, 3, (some .int)), (yX9_surely, cX9_surely, 6, (some .int)), (yX9_next, cX9_next, 8, (some .int)), (yX9_isStep, cX9_isStep, 1, (some .boolean)), (yX9_count, cX9_count, 2, (some .int)), (yX10_in, cX10_in, 3, (some .boolean)), (yX10_feed, cX10_feed, 9, (some .int)), (yX10_end, cX10_end, 2, (some .int)), (yX10_see, cX10_see, 2, (some .int)), (yX10_isSmall, cX10_isSmall, 1, (some .boolean)), (yX10_isDigit, cX10_isDigit, 1, (some .boolean)), (yX10_keyAt, cX10_keyAt, 8, (some .int)), (yX10_scan, cX10_scan, 4, none), (yX10_fails, cX10_fails, 2, (some .boolean)), (yX10_readNumber, cX10_readNumber, 3, (some .boolean)), (yX10_setHere, cX10_setHere, 3, (some .int)), (yX10_readSet, cX10_readSet, 2, (some .boolean)), (yX10_fault, cX10_fault, 2, (some .int)), (yX10_begin, cX10_begin, 2, none), (yX10_comes, cX10_comes, 3, none), (yX10_settle, cX10_settle, 2, none), (yX10_named, cX10_named, 4, (some .int)), (yX10_readName, cX10_readName, 5, (some .boolean)), (yX10_readPlace, cX10_readPlace, 4, (some .boolean)), (yX10_readTie, cX10_readTie, 3, (some .boolean)), (yX10_readHearer, cX10_readHearer, 2, (some .boolean)), (yX10_readWeight, cX10_readWeight, 3, (some .boolean)), (yX10_readTold, cX10_readTold, 3, (some .boolean)), (yX10_readClause, cX10_readClause, 3, (some .boolean)), (yX10_book, cX10_book, 2, (some .int)), (yX10_told, cX10_told, 2, (some .int)), (yX10_isNotion, cX10_isNotion, 2, (some .boolean)), (yX10_isWord, cX10_isWord, 2, (some .boolean)), (yX10_isPlace, cX10_isPlace, 2, (some .boolean)), (yX10_isTie, cX10_isTie, 2, (some .boolean)), (yX10_isHearer, cX10_isHearer, 2, (some .boolean)), (yX10_traits, cX10_traits, 3, (some .int)), (yX10_notion, cX10_notion, 2, (some .int)), (yX10_weigh, cX10_weigh, 4, (some .int)), (yX10_traitsOf, cX10_traitsOf, 5, (some .int)), (yX10_had, cX10_had, 4, (some .int)), (yX10_lackAt, cX10_lackAt, 3, (some .int)), (yX10_addAt, cX10_addAt, 3, (some .int)), (yX10_lostAt, cX10_lostAt, 4, (some .int)), (yX10_lostAll, cX10_lostAll, 4, (some .int)), (yX10_put, cX10_put, 6, none), (yX10_choose, cX10_choose, 6, (some .int)), (yX10_leave, cX10_leave, 3, (some .int)), (yX10_choice, cX10_choice, 3, (some .int)), (yX10_bears, cX10_bears, 3, (some .int)), (yX10_bits, cX10_bits, 3, (some .int)), (yX10_notedAll, cX10_notedAll, 3, (some .int)), (yX10_note, cX10_note, 4, (some .int)), (yX10_lost, cX10_lost, 1, (some .int)), (yX10_isClash, cX10_isClash, 4, (some .boolean)), (yX10_clashes, cX10_clashes, 3, (some .int)), (yX10_bound, cX10_bound, 5, (some .int)), (yX10_putBy, cX10_putBy, 3, none), (yX10_isFree, cX10_isFree, 3, (some .boolean)), (yX10_best, cX10_best, 8, (some .int)), (yX10_layRow, cX10_layRow, 6, (some .int)), (yX10_costs, cX10_costs, 1, (some .int)), (yX10_exchange, cX10_exchange, 12, (some .int)), (yX10_plainAt, cX10_plainAt, 3, (some .int)), (yX10_plainSum, cX10_plainSum, 5, (some .int)), (yX10_oneOf, cX10_oneOf, 4, (some .int)), (yX10_one, cX10_one, 2, (some .int)), (yX10_price, cX10_price, 7, (some .int)), (yX10_swap, cX10_swap, 4, (some .int)), (yX10_mend, cX10_mend, 8, (some .int)), (yX10_heardBy, cX10_heardBy, 3, (some .int)), (yX10_backOf, cX10_backOf, 6, (some .int)), (yX10_isLaugh, cX10_isLaugh, 3, (some .boolean)), (yX10_isAsked, cX10_isAsked, 3, (some .boolean)), (yX10_hears, cX10_hears, 3, (some .int)), (yX10_back, cX10_back, 3, (some .int)), (yX10_laughs, cX10_laughs, 3, (some .int)), (yX10_hitsOf, cX10_hitsOf, 4, (some .int)), (yX10_hits, cX10_hits, 2, (some .int)), (yX10_on, cX10_on, 9, (some .int)), (yX10_store, cX10_store, 4, none), (yX10_load, cX10_load, 4, none), (yX10_isSlot, cX10_isSlot, 1, (some .boolean)), (yX10_keep, cX10_keep, 2, (some .int)), (yX10_take, cX10_take, 2, (some .int)), (yX10_nearer, cX10_nearer, 8, (some .int)), (yX10_cellOf, cX10_cellOf, 3, (some .int)), (yX10_gives, cX10_gives, 6, (some .int)), (yX10_agree, cX10_agree, 9, (some .int)), (yX10_moves, cX10_moves, 5, (some .int)), (yX10_lostIn, cX10_lostIn, 2, (some .int)), (yX10_turned, cX10_turned, 4, (some .int)), (yX10_until, cX10_until, 4, (some .int)), (yX10_heard, cX10_heard, 5, (some .int)), (yX10_right, cX10_right, 6, (some .int)), (yX10_setOf, cX10_setOf, 3, (some .int)), (yX10_makeFits, cX10_makeFits, 9, (some .int)), (yX10_fit, cX10_fit, 3, (some .int)), (yX10_surely, cX10_surely, 7, (some .int)), (yX10_next, cX10_next, 8, (some .int)), (yX10_count, cX10_count, 4, (some .int)), (yJ6_bitCount_0f7a4, cJ6_bitCount_0f7a4, 1, (some .int)), (yJ7_fill_53178, cJ7_fill_53178, 4, none), (yJ7_fill_031fb, cJ7_fill_031fb, 4, none)]
def flT : List (Nat × Nat × Nat × Nat × Nat) := [(0, 11, 0, 0, 142), (0, 15, 0, 1, 148), (0, 18, 0, 2, 151), (0, 21, 0, 3, 154), (0, 24, 0, 4, 155), (0, 27, 0, 5, 158), (0, 30, 0, 6, 163), (0, 33, 0, 7, 167), (0, 36, 0, 8, 170), (0, 39, 0, 9, 174), (0, 42, 0, 10, 177), (0, 45, 0, 11, 180), (0, 48, 0, 12, 184), (1, 11, 1, 0, 368), (2, 11, 2, 0, 407), (2, 15, 2, 1, 408), (2, 18, 2, 2, 409), (2, 21, 2, 3, 410), (2, 24, 2, 4, 411), (2, 27, 2, 5, 412), (2, 30, 2, 6, 413), (2, 33, 2, 7, 414), (2, 36, 2, 8, 415), (2, 39, 2, 9, 416), (2, 42, 2, 12, 419), (2, 46, 2, 13, 421), (2, 49, 2, 11, 418), (2, 58, 2, 10, 417), (3, 9, 3, 0, 229), (3, 15, 3, 1, 230), (3, 18, 3, 2, 231), (4, 12, 4, 0, 240), (4, 21, 4, 1, 242), (4, 25, 4, 2, 243), (4, 28, 4, 3, 244), (4, 31, 4, 4, 245), (4, 35, 4, 5, 247), (4, 38, 4, 6, 249), (4, 51, 4, 10, 253), (4, 73, 3, 2, 232), (4, 76, 7, 0, 115), (4, 79, 7, 1, 118), (4, 82, 4, 7, 250), (4, 83, 4, 9, 252), (4, 86, 4, 13, 256), (4, 89, 4, 8, 251), (4, 99, 0, 0, 146), (4, 107, 0, 4, 157), (4, 114, 0, 5, 161), (4, 173, 4, 11, 254), (4, 180, 0, 6, 165), (4, 183, 0, 7, 169), (4, 190, 4, 12, 255), (4, 193, 0, 8, 173), (4, 196, 0, 9, 176), (4, 199, 0, 10, 179), (4, 202, 0, 11, 182), (4, 205, 0, 12, 186), (4, 212, 0, 1, 150), (5, 9, 5, 1, 298), (5, 15, 5, 2, 300), (5, 18, 5, 3, 302), (5, 21, 5, 4, 304), (5, 24, 5, 5, 306), (5, 27, 5, 0, 297), (5, 75, 0, 0, 147), (5, 81, 0, 8, 172), (5, 84, 0, 5, 162), (5, 122, 0, 6, 166), (5, 136, 0, 2, 153), (5, 142, 0, 11, 183), (6, 9, 6, 1, 331), (6, 17, 6, 2, 332), (6, 20, 6, 3, 333), (6, 23, 6, 4, 334), (6, 26, 6, 5, 335), (6, 29, 6, 6, 336), (6, 32, 6, 0, 330), (6, 40, 0, 0, 143), (6, 52, 6, 9, 339), (6, 57, 6, 7, 337), (6, 65, 6, 8, 338), (6, 78, 0, 8, 171), (6, 85, 0, 9, 175), (7, 9, 7, 0, 114), (7, 13, 7, 1, 116), (8, 11, 8, 1, 379), (8, 15, 8, 2, 380), (8, 18, 8, 3, 381), (8, 21, 8, 4, 382), (8, 24, 8, 5, 383), (8, 27, 8, 0, 378), (8, 31, 8, 6, 384), (8, 35, 0, 5, 159), (8, 50, 0, 0, 145), (9, 12, 9, 0, 452), (9, 19, 9, 1, 453), (9, 26, 9, 2, 454), (9, 35, 9, 3, 455), (9, 39, 9, 4, 456), (9, 43, 9, 5, 457), (9, 50, 9, 6, 458), (9, 57, 9, 7, 459), (9, 64, 9, 8, 460), (9, 71, 9, 9, 461), (9, 83, 7, 1, 117), (9, 91, 4, 0, 241), (9, 103, 4, 4, 246), (9, 106, 4, 5, 248), (9, 109, 0, 0, 144), (9, 113, 0, 1, 149), (9, 116, 0, 2, 152), (9, 123, 0, 4, 156), (9, 126, 0, 5, 160), (9, 129, 0, 7, 168), (9, 132, 0, 10, 178), (9, 135, 0, 11, 181), (9, 138, 0, 12, 185), (9, 141, 0, 6, 164), (9, 160, 5, 1, 299), (9, 163, 5, 2, 301), (9, 166, 5, 3, 303), (9, 169, 5, 4, 305), (9, 172, 5, 5, 307), (9, 295, 2, 12, 420), (9, 322, 8, 6, 385), (9, 323, 2, 13, 422), (10, 7, 10, 0, 1179), (10, 13, 10, 9, 1188), (10, 17, 10, 13, 1192), (10, 21, 10, 14, 1193), (10, 25, 10, 15, 1194), (10, 28, 10, 16, 1195), (10, 31, 10, 17, 1196), (10, 34, 10, 18, 1197), (10, 37, 10, 19, 1198), (10, 40, 10, 20, 1199), (10, 43, 10, 21, 1200), (10, 46, 10, 22, 1201), (10, 49, 10, 23, 1202), (10, 52, 10, 24, 1203), (10, 55, 10, 25, 1204), (10, 58, 10, 27, 1206), (10, 61, 10, 28, 1207), (10, 64, 10, 29, 1208), (10, 67, 10, 30, 1209), (10, 70, 10, 31, 1210), (10, 73, 10, 32, 1211), (10, 76, 10, 33, 1212), (10, 79, 10, 34, 1213), (10, 82, 10, 35, 1214), (10, 85, 10, 36, 1215), (10, 88, 10, 37, 1216), (10, 92, 10, 38, 1217), (10, 95, 10, 39, 1218), (10, 98, 10, 40, 1219), (10, 101, 10, 41, 1220), (10, 104, 10, 42, 1221), (10, 107, 10, 43, 1222), (10, 110, 10, 45, 1224), (10, 113, 10, 46, 1225), (10, 116, 10, 47, 1226), (10, 119, 10, 51, 1230), (10, 122, 10, 52, 1231), (10, 125, 10, 53, 1232), (10, 128, 10, 54, 1233), (10, 131, 10, 55, 1234), (10, 134, 10, 56, 1235), (10, 137, 10, 57, 1236), (10, 140, 10, 58, 1237), (10, 149, 10, 1, 1180), (10, 152, 10, 2, 1181), (10, 171, 10, 6, 1185), (10, 174, 10, 5, 1184), (10, 177, 10, 4, 1183), (10, 180, 10, 3, 1182), (10, 187, 10, 10, 1189), (10, 191, 10, 11, 1190), (10, 205, 10, 7, 1186), (10, 208, 10, 8, 1187), (10, 218, 10, 12, 1191), (10, 227, 10, 26, 1205), (10, 234, 10, 44, 1223), (10, 237, 10, 48, 1227), (10, 240, 10, 49, 1228), (10, 243, 10, 50, 1229)]
def mlT : List (Nat × Nat × Nat × Nat) := [(0, 54, 7, 138), (0, 57, 243, 135), (0, 69, 9, 746), (0, 73, 4, 730), (0, 76, 10, 734), (0, 80, 8, 738), (0, 83, 11, 742), (0, 86, 3, 1003), (1, 15, 244, 668), (1, 21, 20, 1029), (1, 25, 23, 1040), (2, 61, 31, 1133), (3, 22, 36, 613), (4, 42, 38, 507), (4, 48, 39, 512), (4, 55, 44, 519), (4, 59, 42, 586), (4, 63, 43, 597), (4, 66, 46, 652), (4, 70, 0, 511), (4, 92, 40, 516), (4, 96, 41, 590), (4, 103, 2, 594), (4, 110, 47, 601), (4, 117, 48, 624), (4, 120, 49, 628), (4, 123, 50, 636), (4, 126, 51, 640), (4, 129, 52, 648), (4, 134, 45, 524), (4, 166, 53, 605), (4, 170, 54, 620), (4, 176, 35, 609), (4, 186, 55, 632), (4, 208, 6, 644), (4, 215, 34, 616), (5, 34, 243, 296), (5, 46, 59, 715), (5, 50, 242, 780), (5, 56, 64, 723), (5, 60, 63, 719), (5, 63, 12, 726), (5, 69, 4, 750), (5, 72, 60, 751), (5, 78, 65, 796), (5, 87, 68, 805), (5, 91, 14, 809), (5, 95, 13, 813), (5, 98, 70, 850), (5, 101, 71, 846), (5, 104, 58, 898), (5, 108, 75, 907), (5, 111, 69, 911), (5, 115, 72, 915), (5, 118, 73, 916), (5, 130, 76, 925), (5, 133, 80, 956), (5, 139, 10, 960), (5, 145, 81, 993), (5, 148, 17, 994), (6, 36, 84, 837), (6, 45, 86, 855), (6, 48, 89, 881), (6, 60, 73, 894), (6, 68, 72, 842), (6, 72, 243, 854), (6, 81, 85, 859), (6, 96, 87, 869), (6, 100, 88, 876), (6, 104, 71, 873), (6, 107, 70, 874), (6, 111, 13, 875), (6, 115, 68, 880), (6, 124, 90, 886), (6, 127, 91, 890), (8, 46, 98, 1082), (8, 53, 65, 1083), (8, 59, 66, 1092), (9, 75, 92, 487), (9, 79, 93, 491), (9, 87, 37, 503), (9, 94, 1, 656), (9, 97, 56, 663), (9, 100, 19, 664), (9, 101, 94, 671), (9, 102, 24, 675), (9, 119, 3, 691), (9, 144, 109, 703), (9, 148, 58, 707), (9, 152, 65, 711), (9, 156, 59, 759), (9, 175, 63, 768), (9, 178, 10, 769), (9, 182, 11, 770), (9, 185, 9, 775), (9, 189, 62, 776), (9, 193, 242, 786), (9, 198, 4, 787), (9, 201, 66, 792), (9, 205, 67, 801), (9, 208, 15, 821), (9, 211, 5, 829), (9, 214, 83, 833), (9, 218, 74, 903), (9, 221, 78, 921), (9, 224, 76, 933), (9, 227, 77, 934), (9, 230, 16, 943), (9, 238, 79, 952), (9, 241, 123, 965), (9, 244, 81, 969), (9, 247, 17, 977), (9, 250, 82, 989), (9, 253, 18, 999), (9, 256, 57, 1008), (9, 259, 21, 1025), (9, 262, 22, 1036), (9, 265, 96, 1049), (9, 269, 95, 1054), (9, 272, 97, 1058), (9, 275, 138, 1066), (9, 278, 98, 1069), (9, 282, 99, 1078), (9, 286, 100, 1088), (9, 289, 25, 1097), (9, 292, 26, 1101), (9, 293, 28, 1105), (9, 298, 27, 1113), (9, 301, 29, 1117), (9, 304, 144, 1125), (9, 307, 30, 1128), (9, 310, 32, 1141), (9, 313, 33, 1149), (9, 319, 61, 1158), (10, 143, 159, 1168), (10, 146, 161, 1172), (10, 167, 149, 1378), (10, 183, 150, 1382), (10, 198, 152, 1387), (10, 202, 151, 1394), (10, 211, 154, 1405), (10, 214, 146, 1433), (10, 221, 153, 1374), (10, 224, 156, 1417), (10, 230, 160, 1176), (10, 246, 162, 1409), (10, 249, 155, 1429), (10, 253, 157, 1413), (10, 257, 163, 1401), (10, 260, 164, 1421), (10, 263, 165, 1425), (10, 266, 166, 1436), (10, 269, 167, 1440), (10, 272, 168, 1444), (10, 275, 169, 1397), (10, 278, 172, 1456), (10, 281, 173, 1460), (10, 284, 174, 1464), (10, 287, 175, 1468), (10, 290, 176, 1472), (10, 293, 180, 1500), (10, 296, 181, 1496), (10, 299, 182, 1492), (10, 302, 179, 1504), (10, 305, 183, 1508), (10, 308, 184, 1488), (10, 311, 186, 1484), (10, 315, 191, 1532), (10, 318, 192, 1528), (10, 321, 185, 1539), (10, 324, 195, 1547), (10, 327, 201, 1559), (10, 330, 199, 1567), (10, 333, 198, 1563), (10, 337, 196, 1579), (10, 340, 202, 1575), (10, 343, 204, 1592), (10, 346, 205, 1588), (10, 349, 206, 1584), (10, 352, 214, 1612), (10, 355, 211, 1616), (10, 358, 212, 1624), (10, 361, 213, 1632), (10, 364, 218, 1640), (10, 367, 223, 1652), (10, 370, 221, 1655), (10, 374, 222, 1663), (10, 377, 227, 1675), (10, 382, 236, 1715), (10, 385, 237, 1711)]
def kcT : List (Nat × Nat × Int32 × Nat) := [(6, 56, 16777216, 841), (9, 268, (-16777216), 1053), (10, 381, 16777215, 1686), (11, 265, 1431655765, 783), (11, 266, 858993459, 784), (11, 267, 252645135, 785)]
def klT : List (Nat × Nat × Nat × Nat) := [(10, 194, 32, 1385), (10, 196, 97, 1386)]
def cpT : List (Nat × Nat × Nat × Nat) := [(0, 63, 0, 660), (1, 29, 1, 1044), (2, 52, 0, 1132), (5, 40, 0, 1012), (5, 125, 2, 938), (6, 88, 2, 863), (6, 93, 1, 866), (6, 118, 0, 885), (8, 40, 0, 1073), (9, 233, 2, 951), (9, 316, 1, 1153)]
def miT : List (Bool × Nat × Nat × Nat × Nat × Nat) := [(false, 0, 1, 132, 133, 83), (false, 1, 1, 657, 658, 83), (true, 1, 0, 595, 0, 83), (false, 2, 1, 692, 693, 83), (false, 1, 1, 731, 732, 83), (false, 0, 1, 830, 831, 83), (false, 2, 1, 645, 646, 83), (false, 0, 1, 140, 0, 83), (false, 1, 1, 739, 740, 83), (false, 1, 1, 747, 748, 83), (false, 2, 1, 735, 736, 83), (false, 2, 1, 743, 744, 83), (false, 3, 1, 727, 728, 83), (false, 4, 1, 814, 815, 83), (false, 2, 1, 810, 811, 83), (false, 1, 1, 822, 823, 83), (false, 1, 1, 944, 945, 83), (false, 1, 1, 978, 979, 83), (false, 1, 1, 1000, 1001, 83), (false, 0, 2, 665, 666, 89), (true, 3, 0, 1030, 0, 89), (false, 4, 2, 1026, 1027, 89), (false, 2, 2, 1037, 1038, 89), (false, 2, 2, 1042, 31, 89), (false, 0, 3, 676, 677, 91), (false, 2, 3, 1098, 1099, 91), (false, 0, 3, 1102, 1103, 91), (false, 0, 3, 1114, 1115, 91), (false, 4, 3, 1106, 1107, 91), (false, 3, 3, 1118, 1119, 91), (false, 2, 3, 1129, 1130, 91), (false, 3, 3, 1135, 32, 91), (false, 1, 3, 1142, 1143, 91), (false, 1, 3, 1150, 1151, 91), (false, 2, 4, 617, 618, 86), (false, 3, 4, 610, 611, 86), (true, 4, 0, 614, 0, 86), (false, 1, 5, 504, 505, 85), (false, 1, 5, 509, 1, 85), (false, 0, 5, 514, 2, 85), (true, 1, 0, 517, 0, 85), (false, 1, 5, 592, 6, 85), (false, 1, 5, 588, 5, 85), (false, 1, 5, 599, 7, 85), (false, 0, 5, 521, 3, 85), (false, 1, 5, 526, 4, 85), (false, 0, 5, 654, 17, 85), (false, 3, 5, 603, 8, 85), (false, 0, 5, 626, 11, 85), (false, 0, 5, 630, 12, 85), (false, 0, 5, 638, 14, 85), (false, 0, 5, 642, 15, 85), (false, 1, 5, 650, 16, 85), (false, 1, 5, 607, 9, 85), (false, 0, 5, 622, 10, 85), (false, 2, 5, 634, 13, 85), (false, 0, 6, 293, 294, 87), (false, 1, 6, 1009, 1010, 87), (false, 5, 6, 708, 709, 87), (false, 1, 6, 716, 717, 87), (false, 1, 6, 752, 753, 87), (false, 0, 6, 1159, 1160, 87), (false, 0, 6, 777, 778, 87), (false, 2, 6, 720, 721, 87), (true, 2, 0, 724, 0, 87), (false, 2, 6, 712, 713, 87), (false, 1, 6, 793, 794, 87), (false, 0, 6, 802, 803, 87), (false, 4, 6, 806, 807, 87), (false, 3, 6, 913, 28, 87), (false, 1, 6, 851, 852, 87), (false, 1, 6, 847, 848, 87), (false, 2, 6, 843, 844, 87), (false, 2, 6, 895, 896, 87), (false, 0, 6, 904, 905, 87), (false, 1, 6, 909, 27, 87), (false, 2, 6, 926, 927, 87), (false, 1, 6, 935, 936, 87), (false, 1, 6, 922, 923, 87), (false, 0, 6, 953, 954, 87), (false, 1, 6, 958, 29, 87), (false, 2, 6, 970, 971, 87), (false, 1, 6, 990, 991, 87), (false, 2, 7, 834, 835, 88), (false, 2, 7, 839, 19, 88), (false, 1, 7, 861, 21, 88), (false, 2, 7, 857, 20, 88), (false, 4, 7, 871, 22, 88), (false, 3, 7, 878, 23, 88), (false, 2, 7, 883, 24, 88), (false, 2, 7, 888, 25, 88), (false, 2, 7, 892, 26, 88), (false, 0, 8, 488, 489, 82), (false, 1, 8, 492, 493, 82), (false, 0, 9, 672, 673, 90), (false, 0, 9, 1055, 1056, 90), (false, 1, 9, 1050, 1051, 90), (false, 3, 9, 1059, 1060, 90), (false, 1, 9, 1070, 1071, 90), (false, 2, 9, 1079, 1080, 90), (false, 2, 9, 1089, 1090, 90), (false, 5, 10, 484, 485, 81), (false, 1, 10, 496, 497, 81), (false, 0, 10, 500, 501, 81), (false, 1, 10, 680, 681, 81), (false, 1, 10, 684, 685, 81), (false, 2, 10, 688, 689, 81), (false, 1, 10, 696, 697, 81), (false, 5, 10, 700, 701, 81), (false, 4, 10, 705, 18, 81), (false, 1, 10, 756, 757, 81), (false, 2, 10, 761, 762, 81), (false, 2, 10, 765, 766, 81), (false, 2, 10, 772, 773, 81), (false, 0, 10, 789, 790, 81), (false, 0, 10, 798, 799, 81), (false, 1, 10, 818, 819, 81), (false, 1, 10, 826, 827, 81), (false, 0, 10, 900, 901, 81), (false, 1, 10, 918, 919, 81), (false, 1, 10, 930, 931, 81), (false, 1, 10, 940, 941, 81), (false, 1, 10, 948, 949, 81), (false, 2, 10, 967, 30, 81), (false, 2, 10, 962, 963, 81), (false, 2, 10, 974, 975, 81), (false, 2, 10, 982, 983, 81), (false, 1, 10, 986, 987, 81), (false, 3, 10, 996, 997, 81), (false, 1, 10, 1005, 1006, 81), (false, 1, 10, 1014, 1015, 81), (false, 3, 10, 1018, 1019, 81), (false, 4, 10, 1022, 1023, 81), (false, 1, 10, 1033, 1034, 81), (false, 3, 10, 1046, 1047, 81), (false, 1, 10, 1063, 1064, 81), (false, 1, 10, 1075, 1076, 81), (false, 1, 10, 1085, 1086, 81), (true, 1, 0, 1067, 0, 81), (false, 4, 10, 1094, 1095, 81), (false, 3, 10, 1110, 1111, 81), (false, 2, 10, 1122, 1123, 81), (false, 3, 10, 1138, 1139, 81), (false, 1, 10, 1146, 1147, 81), (true, 1, 0, 1126, 0, 81), (false, 1, 10, 1155, 1156, 81), (true, 3, 0, 1434, 0, 92), (false, 5, 11, 1359, 1360, 92), (false, 1, 11, 1363, 1364, 92), (false, 1, 11, 1380, 36, 92), (true, 1, 0, 1383, 0, 92), (true, 1, 0, 1395, 0, 92), (false, 2, 11, 1389, 37, 92), (false, 0, 11, 1376, 35, 92), (false, 1, 11, 1407, 40, 92), (false, 2, 11, 1431, 46, 92), (false, 0, 11, 1419, 43, 92), (false, 0, 11, 1415, 42, 92), (false, 1, 11, 1367, 1368, 92), (false, 0, 11, 1170, 33, 92), (true, 2, 0, 1177, 0, 92), (false, 0, 11, 1174, 34, 92), (false, 2, 11, 1411, 41, 92), (false, 3, 11, 1403, 39, 92), (false, 0, 11, 1423, 44, 92), (false, 0, 11, 1427, 45, 92), (false, 0, 11, 1438, 47, 92), (false, 0, 11, 1442, 48, 92), (false, 1, 11, 1446, 49, 92), (false, 0, 11, 1399, 38, 92), (false, 0, 11, 1371, 1372, 92), (false, 1, 11, 1449, 1450, 92), (false, 1, 11, 1458, 50, 92), (false, 1, 11, 1462, 51, 92), (false, 1, 11, 1466, 52, 92), (false, 1, 11, 1470, 53, 92), (false, 1, 11, 1474, 54, 92), (false, 2, 11, 1453, 1454, 92), (false, 1, 11, 1477, 1478, 92), (false, 1, 11, 1506, 60, 92), (false, 2, 11, 1502, 59, 92), (false, 2, 11, 1498, 58, 92), (false, 2, 11, 1494, 57, 92), (false, 2, 11, 1510, 61, 92), (false, 2, 11, 1490, 56, 92), (false, 1, 11, 1541, 63, 92), (false, 5, 11, 1486, 55, 92), (false, 5, 11, 1481, 1482, 92), (false, 1, 11, 1513, 1514, 92), (false, 2, 11, 1517, 1518, 92), (false, 2, 11, 1521, 1522, 92), (true, 1, 0, 1533, 0, 92), (false, 0, 11, 1530, 62, 92), (false, 2, 11, 1525, 1526, 92), (false, 0, 11, 1536, 1537, 92), (false, 1, 11, 1549, 64, 92), (false, 0, 11, 1544, 1545, 92), (false, 1, 11, 1552, 1553, 92), (false, 2, 11, 1565, 66, 92), (false, 1, 11, 1569, 67, 92), (false, 1, 11, 1556, 1557, 92), (false, 2, 11, 1561, 65, 92), (false, 0, 11, 1577, 68, 92), (false, 0, 11, 1572, 1573, 92), (false, 2, 11, 1594, 71, 92), (false, 2, 11, 1590, 70, 92), (false, 1, 11, 1586, 69, 92), (false, 1, 11, 1581, 1582, 92), (false, 1, 11, 1597, 1598, 92), (false, 1, 11, 1601, 1602, 92), (false, 1, 11, 1605, 1606, 92), (false, 2, 11, 1618, 73, 92), (false, 1, 11, 1626, 74, 92), (false, 2, 11, 1634, 75, 92), (false, 2, 11, 1614, 72, 92), (false, 2, 11, 1609, 1610, 92), (false, 2, 11, 1621, 1622, 92), (false, 2, 11, 1629, 1630, 92), (false, 1, 11, 1642, 76, 92), (false, 1, 11, 1637, 1638, 92), (false, 3, 11, 1645, 1646, 92), (false, 1, 11, 1657, 77, 92), (false, 1, 11, 1665, 78, 92), (true, 1, 0, 1653, 0, 92), (false, 1, 11, 1649, 1650, 92), (false, 1, 11, 1660, 1661, 92), (false, 3, 11, 1668, 1669, 92), (true, 3, 0, 1676, 0, 92), (false, 4, 11, 1672, 1673, 92), (false, 1, 11, 1679, 1680, 92), (false, 3, 11, 1683, 1684, 92), (false, 1, 11, 1688, 1689, 92), (false, 1, 11, 1692, 1693, 92), (false, 1, 11, 1696, 1697, 92), (false, 4, 11, 1700, 1701, 92), (false, 3, 11, 1704, 1705, 92), (true, 1, 0, 1716, 0, 92), (false, 2, 11, 1713, 79, 92), (false, 2, 11, 1708, 1709, 92), (false, 3, 11, 1719, 1720, 92), (false, 1, 11, 1723, 1724, 92), (false, 1, 11, 1727, 1728, 92), (true, 1, 0, 781, 0, 98), (true, 2, 0, 136, 0, 84), (true, 2, 0, 669, 0, 84)]
def hasW (i : Nat) (w : Cond) : Bool := decide (lw_tbl[i]? = some w) && goodWord w
theorem hasW_in {i : Nat} {w : Cond} (h : hasW i w = true) : w ∈ tg := by
  unfold hasW at h
  rw [Bool.and_eq_true] at h
  exact wq i (of_decide_eq_true h.1) h.2
def flC (q : Nat × Nat × Nat × Nat × Nat) : Bool := match vwCl[q.2.2.1]? with
  | some (_, T, N) => decide (q.2.2.2.1 < N) && hasW q.2.2.2.2 (Cond.fieldLink (cn q.1) q.2.1 (T q.2.2.2.1).1 (T q.2.2.2.1).2.1 (T q.2.2.2.1).2.2.1)
  | none => false
def mlC (q : Nat × Nat × Nat × Nat) : Bool := match Inf[q.2.2.1]? with
  | some (y, _) => hasW q.2.2.2 (Cond.methodLink (cn q.1) q.2.1 y)
  | none => false
def kcC (q : Nat × Nat × Int32 × Nat) : Bool := hasW q.2.2.2 (Cond.constant (cn q.1) q.2.1 q.2.2.1)
def klC (q : Nat × Nat × Nat × Nat) : Bool := hasW q.2.2.2 (Cond.constantLong (cn q.1) q.2.1 (lN q.2.2.1))
def cpC (q : Nat × Nat × Nat × Nat) : Bool := hasW q.2.2.2 (Cond.methodLink (cn q.1) q.2.1 (pPn q.2.2.1))
def miC (q : Nat × Bool × Nat × Nat × Nat × Nat × Nat) : Bool := match Inf[q.1]? with
  | some (y, _, maxL, _) => decide (y.cls ≠ "java/lang/invoke/MethodHandle") && decide (y.cls ≠ "java/lang/invoke/VarHandle") && decide ((parseMethodDescriptor y.desc).map (fun d => d.parameters.length) = some q.2.2.1) && hasW q.2.2.2.2.2.2 (Cond.initialized y.cls) && plainName y.cls && decide (maxL ≤ 40) &&
    (if q.2.1 then hasW q.2.2.2.2.1 (Cond.static y) && decide (q.2.2.1 ≤ maxL) else hasW q.2.2.2.2.1 (Cond.instanceMethod y) && hasW q.2.2.2.2.2.1 (Cond.selects y.cls y y) && decide (q.2.2.1 + 1 ≤ maxL) && decide (q.2.2.2.1 ≠ 0) && (match vwCl[q.2.2.2.1 - 1]? with | some c => decide (c.1 = y.cls) | none => false))
  | none => false
theorem flOk : flT.all flC = true := by decide +kernel
theorem mlOk : mlT.all mlC = true := by decide +kernel
theorem kcOk : kcT.all kcC = true := by decide +kernel
theorem klOk : klT.all klC = true := by decide +kernel
theorem cpOk : cpT.all cpC = true := by decide +kernel
theorem coOk : hasW 662 (Cond.native arraycopyName) = true ∧ hasW 661 (Cond.static arraycopyName) = true ∧ hasW 97 (Cond.initialized "java/lang/System") = true := by decide +kernel
theorem inT {w : Cond} (h : w ∈ tables_1) (g : goodWord w = true) : w ∈ tg := List.mem_filter.mpr ⟨List.mem_append_right _ h, g⟩
theorem inT1 {w : Cond} (h : w ∈ tables_1_1) (g : goodWord w = true) : w ∈ tg := inT (List.mem_append_left _ h) g
theorem inT2 {w : Cond} (h : w ∈ tables_1_2) (g : goodWord w = true) : w ∈ tg := inT (List.mem_append_right _ (List.mem_append_left _ h)) g
theorem inT3 {w : Cond} (h : w ∈ tables_1_3) (g : goodWord w = true) : w ∈ tg := inT (List.mem_append_right _ (List.mem_append_right _ (List.mem_append_left _ h))) g
theorem inT4 {w : Cond} (h : w ∈ tables_1_4) (g : goodWord w = true) : w ∈ tg := inT (List.mem_append_right _ (List.mem_append_right _ (List.mem_append_right _ (List.mem_append_left _ h)))) g
theorem inT5 {w : Cond} (h : w ∈ tables_1_5) (g : goodWord w = true) : w ∈ tg := inT (List.mem_append_right _ (List.mem_append_right _ (List.mem_append_right _ (List.mem_append_right _ (List.mem_append_left _ h))))) g
theorem inT6 {w : Cond} (h : w ∈ tables_1_6) (g : goodWord w = true) : w ∈ tg := inT (List.mem_append_right _ (List.mem_append_right _ (List.mem_append_right _ (List.mem_append_right _ (List.mem_append_right _ (List.mem_append_left _ h)))))) g
theorem inT7 {w : Cond} (h : w ∈ tables_1_7) (g : goodWord w = true) : w ∈ tg := inT (List.mem_append_right _ (List.mem_append_right _ (List.mem_append_right _ (List.mem_append_right _ (List.mem_append_right _ (List.mem_append_right _ (h))))))) g
set_option maxRecDepth 20000 in
theorem cd0 : Cond.code yX0_clear cX0_clear 1 none ∈ tg := inT1 (List.mem_of_getElem? (i := 54) rfl) rfl
set_option maxRecDepth 20000 in
theorem cd1 : Cond.code yX0_copyFrom cX0_copyFrom 2 none ∈ tg := inT3 (List.mem_of_getElem? (i := 99) rfl) rfl
set_option maxRecDepth 20000 in
theorem cd2 : Cond.code yX0_roomFor cX0_roomFor 1 (some .int) ∈ tg := inT3 (List.mem_of_getElem? (i := 36) rfl) rfl
set_option maxRecDepth 20000 in
theorem cd3 : Cond.code yX0_has cX0_has 3 (some .boolean) ∈ tg := inT3 (List.mem_of_getElem? (i := 134) rfl) rfl
set_option maxRecDepth 20000 in
theorem cd4 : Cond.code yX0_setting cX0_setting 2 (some .int) ∈ tg := inT3 (List.mem_of_getElem? (i := 173) rfl) rfl
set_option maxRecDepth 20000 in
theorem cd5 : Cond.code yX0_allPlaces cX0_allPlaces 1 (some .int) ∈ tg := inT4 (List.mem_of_getElem? (i := 32) rfl) rfl
set_option maxRecDepth 20000 in
theorem cd6 : Cond.code yX0_weigh cX0_weigh 4 none ∈ tg := inT3 (List.mem_of_getElem? (i := 87) rfl) rfl
set_option maxRecDepth 20000 in
theorem cd7 : Cond.code yX0_sumGroups cX0_sumGroups 5 none ∈ tg := inT1 (List.mem_of_getElem? (i := 61) rfl) rfl
set_option maxRecDepth 20000 in
theorem cd8 : Cond.code yX0_weightsOf cX0_weightsOf 3 (some .int) ∈ tg := inT3 (List.mem_of_getElem? (i := 181) rfl) rfl
set_option maxRecDepth 20000 in
theorem cd9 : Cond.code yX0_traitsOfNotionAt cX0_traitsOfNotionAt 2 (some .int) ∈ tg := inT3 (List.mem_of_getElem? (i := 189) rfl) rfl
set_option maxRecDepth 20000 in
theorem cd10 : Cond.code yX0_lacksOf cX0_lacksOf 3 (some .int) ∈ tg := inT3 (List.mem_of_getElem? (i := 177) rfl) rfl
set_option maxRecDepth 20000 in
theorem cd11 : Cond.code yX0_addsOf cX0_addsOf 3 (some .int) ∈ tg := inT3 (List.mem_of_getElem? (i := 185) rfl) rfl
set_option maxRecDepth 20000 in
theorem cd12 : Cond.code yX0_lostByTraits cX0_lostByTraits 4 (some .int) ∈ tg := inT3 (List.mem_of_getElem? (i := 169) rfl) rfl
set_option maxRecDepth 20000 in
theorem cd13 : Cond.code yX0_wouldClash cX0_wouldClash 5 (some .boolean) ∈ tg := inT4 (List.mem_of_getElem? (i := 16) rfl) rfl
set_option maxRecDepth 20000 in
theorem cd14 : Cond.code yX0_otherPlace cX0_otherPlace 3 (some .int) ∈ tg := inT4 (List.mem_of_getElem? (i := 12) rfl) rfl
set_option maxRecDepth 20000 in
theorem cd15 : Cond.code yX0_boundBy cX0_boundBy 7 (some .int) ∈ tg := inT4 (List.mem_of_getElem? (i := 24) rfl) rfl
set_option maxRecDepth 20000 in
theorem cd16 : Cond.code yX0_wordForAll cX0_wordForAll 4 (some .int) ∈ tg := inT4 (List.mem_of_getElem? (i := 146) rfl) rfl
set_option maxRecDepth 20000 in
theorem cd17 : Cond.code yX0_toldBack cX0_toldBack 7 (some .int) ∈ tg := inT4 (List.mem_of_getElem? (i := 180) rfl) rfl
set_option maxRecDepth 20000 in
theorem cd18 : Cond.code yX0_traitsSaidFor cX0_traitsSaidFor 6 (some .int) ∈ tg := inT4 (List.mem_of_getElem? (i := 202) rfl) rfl
set_option maxRecDepth 20000 in
theorem cd19 : Cond.code yX1_clear cX1_clear 1 none ∈ tg := inT3 (List.mem_of_getElem? (i := 107) rfl) rfl
set_option maxRecDepth 20000 in
theorem cd20 : Cond.code yX1_indexOf cX1_indexOf 3 (some .int) ∈ tg := inT4 (List.mem_of_getElem? (i := 231) rfl) rfl
set_option maxRecDepth 20000 in
theorem cd21 : Cond.code yX1_put cX1_put 7 (some .int) ∈ tg := inT4 (List.mem_of_getElem? (i := 228) rfl) rfl
set_option maxRecDepth 20000 in
theorem cd22 : Cond.code yX1_agreed cX1_agreed 7 (some .int) ∈ tg := inT4 (List.mem_of_getElem? (i := 239) rfl) rfl
set_option maxRecDepth 20000 in
theorem cd23 : Cond.code yX1_costOf cX1_costOf 7 (some .int) ∈ tg := inT5 (List.mem_of_getElem? (i := 3) rfl) rfl
set_option maxRecDepth 20000 in
theorem cd24 : Cond.code yX2_clear cX2_clear 1 none ∈ tg := inT3 (List.mem_of_getElem? (i := 118) rfl) rfl
set_option maxRecDepth 20000 in
theorem cd25 : Cond.code yX2_mayTell cX2_mayTell 3 (some .boolean) ∈ tg := inT5 (List.mem_of_getElem? (i := 60) rfl) rfl
set_option maxRecDepth 20000 in
theorem cd26 : Cond.code yX2_isFull cX2_isFull 1 (some .boolean) ∈ tg := inT5 (List.mem_of_getElem? (i := 64) rfl) rfl
set_option maxRecDepth 20000 in
theorem cd27 : Cond.code yX2_isFullOfRights cX2_isFullOfRights 1 (some .boolean) ∈ tg := inT5 (List.mem_of_getElem? (i := 76) rfl) rfl
set_option maxRecDepth 20000 in
theorem cd28 : Cond.code yX2_append cX2_append 6 (some .int) ∈ tg := inT5 (List.mem_of_getElem? (i := 68) rfl) rfl
set_option maxRecDepth 20000 in
theorem cd29 : Cond.code yX2_putRight cX2_putRight 4 (some .int) ∈ tg := inT5 (List.mem_of_getElem? (i := 80) rfl) rfl
set_option maxRecDepth 20000 in
theorem cd30 : Cond.code yX2_gather cX2_gather 6 (some .int) ∈ tg := inT5 (List.mem_of_getElem? (i := 91) rfl) rfl
set_option maxRecDepth 20000 in
theorem cd31 : Cond.code yX2_fitsAll cX2_fitsAll 6 (some .boolean) ∈ tg := inT5 (List.mem_of_getElem? (i := 96) rfl) rfl
set_option maxRecDepth 20000 in
theorem cd32 : Cond.code yX2_setsWith cX2_setsWith 4 (some .int) ∈ tg := inT5 (List.mem_of_getElem? (i := 104) rfl) rfl
set_option maxRecDepth 20000 in
theorem cd33 : Cond.code yX2_setsWithin cX2_setsWithin 4 (some .int) ∈ tg := inT5 (List.mem_of_getElem? (i := 112) rfl) rfl
set_option maxRecDepth 20000 in
theorem cd34 : Cond.code yX3_append cX3_append 3 none ∈ tg := inT3 (List.mem_of_getElem? (i := 59) rfl) rfl
set_option maxRecDepth 20000 in
theorem cd35 : Cond.code yX3_find cX3_find 5 (some .int) ∈ tg := inT3 (List.mem_of_getElem? (i := 52) rfl) rfl
set_option maxRecDepth 20000 in
theorem cd36 : Cond.code yX3_isSame cX3_isSame 5 (some .boolean) ∈ tg := inT3 (List.mem_of_getElem? (i := 55) rfl) rfl
set_option maxRecDepth 20000 in
theorem cd37 : Cond.code yX4_read cX4_read 4 (some .int) ∈ tg := inT2 (List.mem_of_getElem? (i := 186) rfl) rfl
set_option maxRecDepth 20000 in
theorem cd38 : Cond.code yX4_begin cX4_begin 2 none ∈ tg := inT2 (List.mem_of_getElem? (i := 190) rfl) rfl
set_option maxRecDepth 20000 in
theorem cd39 : Cond.code yX4_advance cX4_advance 1 none ∈ tg := inT2 (List.mem_of_getElem? (i := 195) rfl) rfl
set_option maxRecDepth 20000 in
theorem cd40 : Cond.code yX4_signOf cX4_signOf 1 (some .char) ∈ tg := inT2 (List.mem_of_getElem? (i := 198) rfl) rfl
set_option maxRecDepth 20000 in
theorem cd41 : Cond.code yX4_refuse cX4_refuse 2 (some .boolean) ∈ tg := inT3 (List.mem_of_getElem? (i := 33) rfl) rfl
set_option maxRecDepth 20000 in
theorem cd42 : Cond.code yX4_mayBegin cX4_mayBegin 2 (some .boolean) ∈ tg := inT3 (List.mem_of_getElem? (i := 29) rfl) rfl
set_option maxRecDepth 20000 in
theorem cd43 : Cond.code yX4_readBody cX4_readBody 2 (some .boolean) ∈ tg := inT3 (List.mem_of_getElem? (i := 40) rfl) rfl
set_option maxRecDepth 20000 in
theorem cd44 : Cond.code yX4_keyword cX4_keyword 1 (some .int) ∈ tg := inT2 (List.mem_of_getElem? (i := 202) rfl) rfl
set_option maxRecDepth 20000 in
theorem cd45 : Cond.code yX4_isWord cX4_isWord 3 (some .boolean) ∈ tg := inT2 (List.mem_of_getElem? (i := 207) rfl) rfl
set_option maxRecDepth 20000 in
theorem cd46 : Cond.code yX4_readSemicolon cX4_readSemicolon 1 (some .boolean) ∈ tg := inT3 (List.mem_of_getElem? (i := 95) rfl) rfl
set_option maxRecDepth 20000 in
theorem cd47 : Cond.code yX4_readTraits cX4_readTraits 4 (some .boolean) ∈ tg := inT3 (List.mem_of_getElem? (i := 44) rfl) rfl
set_option maxRecDepth 20000 in
theorem cd48 : Cond.code yX4_readPlace cX4_readPlace 3 (some .boolean) ∈ tg := inT3 (List.mem_of_getElem? (i := 67) rfl) rfl
set_option maxRecDepth 20000 in
theorem cd49 : Cond.code yX4_readTie cX4_readTie 5 (some .boolean) ∈ tg := inT3 (List.mem_of_getElem? (i := 71) rfl) rfl
set_option maxRecDepth 20000 in
theorem cd50 : Cond.code yX4_readHearer cX4_readHearer 3 (some .boolean) ∈ tg := inT3 (List.mem_of_getElem? (i := 79) rfl) rfl
set_option maxRecDepth 20000 in
theorem cd51 : Cond.code yX4_readWeight cX4_readWeight 1 (some .boolean) ∈ tg := inT3 (List.mem_of_getElem? (i := 83) rfl) rfl
set_option maxRecDepth 20000 in
theorem cd52 : Cond.code yX4_readSetting cX4_readSetting 2 (some .boolean) ∈ tg := inT3 (List.mem_of_getElem? (i := 91) rfl) rfl
set_option maxRecDepth 20000 in
theorem cd53 : Cond.code yX4_readNewName cX4_readNewName 2 (some .boolean) ∈ tg := inT3 (List.mem_of_getElem? (i := 48) rfl) rfl
set_option maxRecDepth 20000 in
theorem cd54 : Cond.code yX4_readSet cX4_readSet 3 (some .boolean) ∈ tg := inT3 (List.mem_of_getElem? (i := 63) rfl) rfl
set_option maxRecDepth 20000 in
theorem cd55 : Cond.code yX4_readNumber cX4_readNumber 4 (some .boolean) ∈ tg := inT3 (List.mem_of_getElem? (i := 75) rfl) rfl
set_option maxRecDepth 20000 in
theorem cd56 : Cond.code yX5_clear cX5_clear 1 none ∈ tg := inT1 (List.mem_of_getElem? (i := 215) rfl) rfl
set_option maxRecDepth 20000 in
theorem cd57 : Cond.code yX5_copyFrom cX5_copyFrom 2 none ∈ tg := inT4 (List.mem_of_getElem? (i := 211) rfl) rfl
set_option maxRecDepth 20000 in
theorem cd58 : Cond.code yX5_put cX5_put 6 none ∈ tg := inT3 (List.mem_of_getElem? (i := 150) rfl) rfl
set_option maxRecDepth 20000 in
theorem cd59 : Cond.code yX5_isChosen cX5_isChosen 2 (some .boolean) ∈ tg := inT3 (List.mem_of_getElem? (i := 158) rfl) rfl
set_option maxRecDepth 20000 in
theorem cd60 : Cond.code yX5_isBorrowed cX5_isBorrowed 2 (some .boolean) ∈ tg := inT3 (List.mem_of_getElem? (i := 194) rfl) rfl
set_option maxRecDepth 20000 in
theorem cd61 : Cond.code yX5_chosen cX5_chosen 3 (some .int) ∈ tg := inT5 (List.mem_of_getElem? (i := 121) rfl) rfl
set_option maxRecDepth 20000 in
theorem cd62 : Cond.code yX5_noted cX5_noted 3 (some .int) ∈ tg := inT3 (List.mem_of_getElem? (i := 219) rfl) rfl
set_option maxRecDepth 20000 in
theorem cd63 : Cond.code yX5_traitsAt cX5_traitsAt 3 (some .int) ∈ tg := inT3 (List.mem_of_getElem? (i := 162) rfl) rfl
set_option maxRecDepth 20000 in
theorem cd64 : Cond.code yX5_traitsOf cX5_traitsOf 2 (some .int) ∈ tg := inT3 (List.mem_of_getElem? (i := 165) rfl) rfl
set_option maxRecDepth 20000 in
theorem cd65 : Cond.code yX5_lostAt cX5_lostAt 4 (some .int) ∈ tg := inT3 (List.mem_of_getElem? (i := 154) rfl) rfl
set_option maxRecDepth 20000 in
theorem cd66 : Cond.code yX5_lostOfAll cX5_lostOfAll 4 (some .int) ∈ tg := inT3 (List.mem_of_getElem? (i := 235) rfl) rfl
set_option maxRecDepth 20000 in
theorem cd67 : Cond.code yX5_clashBits cX5_clashBits 4 (some .int) ∈ tg := inT4 (List.mem_of_getElem? (i := 4) rfl) rfl
set_option maxRecDepth 20000 in
theorem cd68 : Cond.code yX5_isClashing cX5_isClashing 6 (some .boolean) ∈ tg := inT4 (List.mem_of_getElem? (i := 8) rfl) rfl
set_option maxRecDepth 20000 in
theorem cd69 : Cond.code yX5_clashesAt cX5_clashesAt 6 (some .int) ∈ tg := inT4 (List.mem_of_getElem? (i := 114) rfl) rfl
set_option maxRecDepth 20000 in
theorem cd70 : Cond.code yX5_isBorrowedOption cX5_isBorrowedOption 2 (some .boolean) ∈ tg := inT4 (List.mem_of_getElem? (i := 53) rfl) rfl
set_option maxRecDepth 20000 in
theorem cd71 : Cond.code yX5_traitsOfOption cX5_traitsOfOption 2 (some .int) ∈ tg := inT4 (List.mem_of_getElem? (i := 49) rfl) rfl
set_option maxRecDepth 20000 in
theorem cd72 : Cond.code yX5_lostWithOption cX5_lostWithOption 3 (some .int) ∈ tg := inT4 (List.mem_of_getElem? (i := 45) rfl) rfl
set_option maxRecDepth 20000 in
theorem cd73 : Cond.code yX5_putOption cX5_putOption 3 none ∈ tg := inT4 (List.mem_of_getElem? (i := 97) rfl) rfl
set_option maxRecDepth 20000 in
theorem cd74 : Cond.code yX5_exchangeRound cX5_exchangeRound 3 (some .boolean) ∈ tg := inT4 (List.mem_of_getElem? (i := 106) rfl) rfl
set_option maxRecDepth 20000 in
theorem cd75 : Cond.code yX5_exchangeAt cX5_exchangeAt 6 (some .boolean) ∈ tg := inT4 (List.mem_of_getElem? (i := 110) rfl) rfl
set_option maxRecDepth 20000 in
theorem cd76 : Cond.code yX5_lostWithWord cX5_lostWithWord 5 (some .int) ∈ tg := inT4 (List.mem_of_getElem? (i := 128) rfl) rfl
set_option maxRecDepth 20000 in
theorem cd77 : Cond.code yX5_lostWithLeast cX5_lostWithLeast 6 (some .int) ∈ tg := inT4 (List.mem_of_getElem? (i := 137) rfl) rfl
set_option maxRecDepth 20000 in
theorem cd78 : Cond.code yX5_oneWord cX5_oneWord 6 (some .int) ∈ tg := inT4 (List.mem_of_getElem? (i := 124) rfl) rfl
set_option maxRecDepth 20000 in
theorem cd79 : Cond.code yX5_mendOnce cX5_mendOnce 7 (some .boolean) ∈ tg := inT4 (List.mem_of_getElem? (i := 155) rfl) rfl
set_option maxRecDepth 20000 in
theorem cd80 : Cond.code yX5_untoldLacks cX5_untoldLacks 2 (some .int) ∈ tg := inT4 (List.mem_of_getElem? (i := 159) rfl) rfl
set_option maxRecDepth 20000 in
theorem cd81 : Cond.code yX5_heardAt cX5_heardAt 3 (some .int) ∈ tg := inT4 (List.mem_of_getElem? (i := 172) rfl) rfl
set_option maxRecDepth 20000 in
theorem cd82 : Cond.code yX5_rightOf cX5_rightOf 4 (some .int) ∈ tg := inT4 (List.mem_of_getElem? (i := 192) rfl) rfl
set_option maxRecDepth 20000 in
theorem cd83 : Cond.code yX6_putBest cX6_putBest 4 (some .boolean) ∈ tg := inT4 (List.mem_of_getElem? (i := 36) rfl) rfl
set_option maxRecDepth 20000 in
theorem cd84 : Cond.code yX6_begin cX6_begin 5 none ∈ tg := inT4 (List.mem_of_getElem? (i := 40) rfl) rfl
set_option maxRecDepth 20000 in
theorem cd85 : Cond.code yX6_levelOf cX6_levelOf 3 (some .int) ∈ tg := inT4 (List.mem_of_getElem? (i := 62) rfl) rfl
set_option maxRecDepth 20000 in
theorem cd86 : Cond.code yX6_obeyTie cX6_obeyTie 5 none ∈ tg := inT4 (List.mem_of_getElem? (i := 58) rfl) rfl
set_option maxRecDepth 20000 in
theorem cd87 : Cond.code yX6_obeyInside cX6_obeyInside 10 none ∈ tg := inT4 (List.mem_of_getElem? (i := 72) rfl) rfl
set_option maxRecDepth 20000 in
theorem cd88 : Cond.code yX6_obeyOutside cX6_obeyOutside 5 none ∈ tg := inT4 (List.mem_of_getElem? (i := 79) rfl) rfl
set_option maxRecDepth 20000 in
theorem cd89 : Cond.code yX6_settle cX6_settle 5 none ∈ tg := inT4 (List.mem_of_getElem? (i := 84) rfl) rfl
set_option maxRecDepth 20000 in
theorem cd90 : Cond.code yX6_narrow cX6_narrow 6 (some .int) ∈ tg := inT4 (List.mem_of_getElem? (i := 89) rfl) rfl
set_option maxRecDepth 20000 in
theorem cd91 : Cond.code yX6_leastOf cX6_leastOf 5 (some .int) ∈ tg := inT4 (List.mem_of_getElem? (i := 93) rfl) rfl
set_option maxRecDepth 20000 in
theorem cd92 : Cond.code yX7_hasRoom cX7_hasRoom 1 (some .boolean) ∈ tg := inT2 (List.mem_of_getElem? (i := 170) rfl) rfl
set_option maxRecDepth 20000 in
theorem cd93 : Cond.code yX7_append cX7_append 3 none ∈ tg := inT2 (List.mem_of_getElem? (i := 174) rfl) rfl
set_option maxRecDepth 20000 in
theorem cd94 : Cond.code yX8_clear cX8_clear 1 none ∈ tg := inT3 (List.mem_of_getElem? (i := 114) rfl) rfl
set_option maxRecDepth 20000 in
theorem cd95 : Cond.code yX8_isFull cX8_isFull 1 (some .boolean) ∈ tg := inT5 (List.mem_of_getElem? (i := 17) rfl) rfl
set_option maxRecDepth 20000 in
theorem cd96 : Cond.code yX8_latestOf cX8_latestOf 4 (some .int) ∈ tg := inT5 (List.mem_of_getElem? (i := 12) rfl) rfl
set_option maxRecDepth 20000 in
theorem cd97 : Cond.code yX8_append cX8_append 4 (some .int) ∈ tg := inT5 (List.mem_of_getElem? (i := 21) rfl) rfl
set_option maxRecDepth 20000 in
theorem cd98 : Cond.code yX8_wordsIn cX8_wordsIn 3 (some (.array .int)) ∈ tg := inT5 (List.mem_of_getElem? (i := 32) rfl) rfl
set_option maxRecDepth 20000 in
theorem cd99 : Cond.code yX8_turns cX8_turns 7 (some .int) ∈ tg := inT5 (List.mem_of_getElem? (i := 41) rfl) rfl
set_option maxRecDepth 20000 in
theorem cd100 : Cond.code yX8_firstAbove cX8_firstAbove 6 (some .int) ∈ tg := inT5 (List.mem_of_getElem? (i := 51) rfl) rfl
set_option maxRecDepth 20000 in
theorem cd101 : Cond.code yX9_feed cX9_feed 6 (some .int) ∈ tg := inT2 (List.mem_of_getElem? (i := 166) rfl) rfl
set_option maxRecDepth 20000 in
theorem cd102 : Cond.code yX9_end cX9_end 2 (some .int) ∈ tg := inT2 (List.mem_of_getElem? (i := 178) rfl) rfl
set_option maxRecDepth 20000 in
theorem cd103 : Cond.code yX9_book cX9_book 3 (some .int) ∈ tg := inT2 (List.mem_of_getElem? (i := 182) rfl) rfl
set_option maxRecDepth 20000 in
theorem cd104 : Cond.code yX9_fault cX9_fault 2 (some .int) ∈ tg := inT3 (List.mem_of_getElem? (i := 122) rfl) rfl
set_option maxRecDepth 20000 in
theorem cd105 : Cond.code yX9_told cX9_told 2 (some .int) ∈ tg := inT3 (List.mem_of_getElem? (i := 126) rfl) rfl
set_option maxRecDepth 20000 in
theorem cd106 : Cond.code yX9_traits cX9_traits 3 (some .int) ∈ tg := inT3 (List.mem_of_getElem? (i := 130) rfl) rfl
set_option maxRecDepth 20000 in
theorem cd107 : Cond.code yX9_notion cX9_notion 2 (some .int) ∈ tg := inT3 (List.mem_of_getElem? (i := 138) rfl) rfl
set_option maxRecDepth 20000 in
theorem cd108 : Cond.code yX9_choose cX9_choose 6 (some .int) ∈ tg := inT3 (List.mem_of_getElem? (i := 142) rfl) rfl
set_option maxRecDepth 20000 in
theorem cd109 : Cond.code yX9_wordsAreFit cX9_wordsAreFit 5 (some .boolean) ∈ tg := inT3 (List.mem_of_getElem? (i := 146) rfl) rfl
set_option maxRecDepth 20000 in
theorem cd110 : Cond.code yX9_leave cX9_leave 2 (some .int) ∈ tg := inT3 (List.mem_of_getElem? (i := 198) rfl) rfl
set_option maxRecDepth 20000 in
theorem cd111 : Cond.code yX9_choice cX9_choice 3 (some .int) ∈ tg := inT3 (List.mem_of_getElem? (i := 203) rfl) rfl
set_option maxRecDepth 20000 in
theorem cd112 : Cond.code yX9_bears cX9_bears 4 (some .int) ∈ tg := inT3 (List.mem_of_getElem? (i := 207) rfl) rfl
set_option maxRecDepth 20000 in
theorem cd113 : Cond.code yX9_note cX9_note 4 (some .int) ∈ tg := inT3 (List.mem_of_getElem? (i := 214) rfl) rfl
set_option maxRecDepth 20000 in
theorem cd114 : Cond.code yX9_lost cX9_lost 1 (some .int) ∈ tg := inT3 (List.mem_of_getElem? (i := 231) rfl) rfl
set_option maxRecDepth 20000 in
theorem cd115 : Cond.code yX9_clashes cX9_clashes 1 (some .int) ∈ tg := inT4 (List.mem_of_getElem? (i := 0) rfl) rfl
set_option maxRecDepth 20000 in
theorem cd116 : Cond.code yX9_bound cX9_bound 2 (some .int) ∈ tg := inT4 (List.mem_of_getElem? (i := 20) rfl) rfl
set_option maxRecDepth 20000 in
theorem cd117 : Cond.code yX9_best cX9_best 3 (some .int) ∈ tg := inT4 (List.mem_of_getElem? (i := 28) rfl) rfl
set_option maxRecDepth 20000 in
theorem cd118 : Cond.code yX9_exchange cX9_exchange 3 (some .int) ∈ tg := inT4 (List.mem_of_getElem? (i := 102) rfl) rfl
set_option maxRecDepth 20000 in
theorem cd119 : Cond.code yX9_one cX9_one 2 (some .int) ∈ tg := inT4 (List.mem_of_getElem? (i := 120) rfl) rfl
set_option maxRecDepth 20000 in
theorem cd120 : Cond.code yX9_price cX9_price 3 (some .int) ∈ tg := inT4 (List.mem_of_getElem? (i := 132) rfl) rfl
set_option maxRecDepth 20000 in
theorem cd121 : Cond.code yX9_swap cX9_swap 2 (some .int) ∈ tg := inT4 (List.mem_of_getElem? (i := 142) rfl) rfl
set_option maxRecDepth 20000 in
theorem cd122 : Cond.code yX9_mend cX9_mend 4 (some .int) ∈ tg := inT4 (List.mem_of_getElem? (i := 150) rfl) rfl
set_option maxRecDepth 20000 in
theorem cd123 : Cond.code yX9_whyNotHeard cX9_whyNotHeard 3 (some .int) ∈ tg := inT4 (List.mem_of_getElem? (i := 168) rfl) rfl
set_option maxRecDepth 20000 in
theorem cd124 : Cond.code yX9_hears cX9_hears 4 (some .int) ∈ tg := inT4 (List.mem_of_getElem? (i := 164) rfl) rfl
set_option maxRecDepth 20000 in
theorem cd125 : Cond.code yX9_back cX9_back 4 (some .int) ∈ tg := inT4 (List.mem_of_getElem? (i := 176) rfl) rfl
set_option maxRecDepth 20000 in
theorem cd126 : Cond.code yX9_laughs cX9_laughs 5 (some .int) ∈ tg := inT4 (List.mem_of_getElem? (i := 184) rfl) rfl
set_option maxRecDepth 20000 in
theorem cd127 : Cond.code yX9_hits cX9_hits 2 (some .int) ∈ tg := inT4 (List.mem_of_getElem? (i := 188) rfl) rfl
set_option maxRecDepth 20000 in
theorem cd128 : Cond.code yX9_on cX9_on 6 (some .int) ∈ tg := inT4 (List.mem_of_getElem? (i := 198) rfl) rfl
set_option maxRecDepth 20000 in
theorem cd129 : Cond.code yX9_keep cX9_keep 2 (some .int) ∈ tg := inT4 (List.mem_of_getElem? (i := 207) rfl) rfl
set_option maxRecDepth 20000 in
theorem cd130 : Cond.code yX9_take cX9_take 2 (some .int) ∈ tg := inT4 (List.mem_of_getElem? (i := 216) rfl) rfl
set_option maxRecDepth 20000 in
theorem cd131 : Cond.code yX9_nearer cX9_nearer 5 (some .int) ∈ tg := inT4 (List.mem_of_getElem? (i := 220) rfl) rfl
set_option maxRecDepth 20000 in
theorem cd132 : Cond.code yX9_gives cX9_gives 5 (some .int) ∈ tg := inT4 (List.mem_of_getElem? (i := 224) rfl) rfl
set_option maxRecDepth 20000 in
theorem cd133 : Cond.code yX9_agree cX9_agree 2 (some .int) ∈ tg := inT4 (List.mem_of_getElem? (i := 235) rfl) rfl
set_option maxRecDepth 20000 in
theorem cd134 : Cond.code yX9_moves cX9_moves 4 (some .int) ∈ tg := inT5 (List.mem_of_getElem? (i := 8) rfl) rfl
set_option maxRecDepth 20000 in
theorem cd135 : Cond.code yX9_lostIn cX9_lostIn 2 (some .int) ∈ tg := inT5 (List.mem_of_getElem? (i := 25) rfl) rfl
set_option maxRecDepth 20000 in
theorem cd136 : Cond.code yX9_turned cX9_turned 2 (some .int) ∈ tg := inT5 (List.mem_of_getElem? (i := 37) rfl) rfl
set_option maxRecDepth 20000 in
theorem cd137 : Cond.code yX9_until cX9_until 2 (some .int) ∈ tg := inT5 (List.mem_of_getElem? (i := 47) rfl) rfl
set_option maxRecDepth 20000 in
theorem cd138 : Cond.code yX9_isYear cX9_isYear 1 (some .boolean) ∈ tg := inT5 (List.mem_of_getElem? (i := 28) rfl) rfl
set_option maxRecDepth 20000 in
theorem cd139 : Cond.code yX9_heard cX9_heard 5 (some .int) ∈ tg := inT5 (List.mem_of_getElem? (i := 56) rfl) rfl
set_option maxRecDepth 20000 in
theorem cd140 : Cond.code yX9_right cX9_right 4 (some .int) ∈ tg := inT5 (List.mem_of_getElem? (i := 72) rfl) rfl
set_option maxRecDepth 20000 in
theorem cd141 : Cond.code yX9_fit cX9_fit 3 (some .int) ∈ tg := inT5 (List.mem_of_getElem? (i := 84) rfl) rfl
set_option maxRecDepth 20000 in
theorem cd142 : Cond.code yX9_surely cX9_surely 6 (some .int) ∈ tg := inT5 (List.mem_of_getElem? (i := 100) rfl) rfl
set_option maxRecDepth 20000 in
theorem cd143 : Cond.code yX9_next cX9_next 8 (some .int) ∈ tg := inT5 (List.mem_of_getElem? (i := 108) rfl) rfl
set_option maxRecDepth 20000 in
theorem cd144 : Cond.code yX9_isStep cX9_isStep 1 (some .boolean) ∈ tg := inT5 (List.mem_of_getElem? (i := 87) rfl) rfl
set_option maxRecDepth 20000 in
theorem cd145 : Cond.code yX9_count cX9_count 2 (some .int) ∈ tg := inT5 (List.mem_of_getElem? (i := 117) rfl) rfl
set_option maxRecDepth 20000 in
theorem cd146 : Cond.code yX10_in cX10_in 3 (some .boolean) ∈ tg := inT6 (List.mem_of_getElem? (i := 155) rfl) rfl
set_option maxRecDepth 20000 in
theorem cd147 : Cond.code yX10_feed cX10_feed 9 (some .int) ∈ tg := inT6 (List.mem_of_getElem? (i := 81) rfl) rfl
set_option maxRecDepth 20000 in
theorem cd148 : Cond.code yX10_end cX10_end 2 (some .int) ∈ tg := inT6 (List.mem_of_getElem? (i := 85) rfl) rfl
set_option maxRecDepth 20000 in
theorem cd149 : Cond.code yX10_see cX10_see 2 (some .int) ∈ tg := inT6 (List.mem_of_getElem? (i := 101) rfl) rfl
set_option maxRecDepth 20000 in
theorem cd150 : Cond.code yX10_isSmall cX10_isSmall 1 (some .boolean) ∈ tg := inT6 (List.mem_of_getElem? (i := 104) rfl) rfl
set_option maxRecDepth 20000 in
theorem cd151 : Cond.code yX10_isDigit cX10_isDigit 1 (some .boolean) ∈ tg := inT6 (List.mem_of_getElem? (i := 116) rfl) rfl
set_option maxRecDepth 20000 in
theorem cd152 : Cond.code yX10_keyAt cX10_keyAt 8 (some .int) ∈ tg := inT6 (List.mem_of_getElem? (i := 110) rfl) rfl
set_option maxRecDepth 20000 in
theorem cd153 : Cond.code yX10_scan cX10_scan 4 none ∈ tg := inT6 (List.mem_of_getElem? (i := 97) rfl) rfl
set_option maxRecDepth 20000 in
theorem cd154 : Cond.code yX10_fails cX10_fails 2 (some .boolean) ∈ tg := inT6 (List.mem_of_getElem? (i := 128) rfl) rfl
set_option maxRecDepth 20000 in
theorem cd155 : Cond.code yX10_readNumber cX10_readNumber 3 (some .boolean) ∈ tg := inT6 (List.mem_of_getElem? (i := 152) rfl) rfl
set_option maxRecDepth 20000 in
theorem cd156 : Cond.code yX10_setHere cX10_setHere 3 (some .int) ∈ tg := inT6 (List.mem_of_getElem? (i := 140) rfl) rfl
set_option maxRecDepth 20000 in
theorem cd157 : Cond.code yX10_readSet cX10_readSet 2 (some .boolean) ∈ tg := inT6 (List.mem_of_getElem? (i := 136) rfl) rfl
set_option maxRecDepth 20000 in
theorem cd158 : Cond.code yX10_fault cX10_fault 2 (some .int) ∈ tg := inT6 (List.mem_of_getElem? (i := 89) rfl) rfl
set_option maxRecDepth 20000 in
theorem cd159 : Cond.code yX10_begin cX10_begin 2 none ∈ tg := inT5 (List.mem_of_getElem? (i := 131) rfl) rfl
set_option maxRecDepth 20000 in
theorem cd160 : Cond.code yX10_comes cX10_comes 3 none ∈ tg := inT5 (List.mem_of_getElem? (i := 138) rfl) rfl
set_option maxRecDepth 20000 in
theorem cd161 : Cond.code yX10_settle cX10_settle 2 none ∈ tg := inT5 (List.mem_of_getElem? (i := 135) rfl) rfl
set_option maxRecDepth 20000 in
theorem cd162 : Cond.code yX10_named cX10_named 4 (some .int) ∈ tg := inT6 (List.mem_of_getElem? (i := 132) rfl) rfl
set_option maxRecDepth 20000 in
theorem cd163 : Cond.code yX10_readName cX10_readName 5 (some .boolean) ∈ tg := inT6 (List.mem_of_getElem? (i := 124) rfl) rfl
set_option maxRecDepth 20000 in
theorem cd164 : Cond.code yX10_readPlace cX10_readPlace 4 (some .boolean) ∈ tg := inT6 (List.mem_of_getElem? (i := 144) rfl) rfl
set_option maxRecDepth 20000 in
theorem cd165 : Cond.code yX10_readTie cX10_readTie 3 (some .boolean) ∈ tg := inT6 (List.mem_of_getElem? (i := 148) rfl) rfl
set_option maxRecDepth 20000 in
theorem cd166 : Cond.code yX10_readHearer cX10_readHearer 2 (some .boolean) ∈ tg := inT6 (List.mem_of_getElem? (i := 159) rfl) rfl
set_option maxRecDepth 20000 in
theorem cd167 : Cond.code yX10_readWeight cX10_readWeight 3 (some .boolean) ∈ tg := inT6 (List.mem_of_getElem? (i := 163) rfl) rfl
set_option maxRecDepth 20000 in
theorem cd168 : Cond.code yX10_readTold cX10_readTold 3 (some .boolean) ∈ tg := inT6 (List.mem_of_getElem? (i := 167) rfl) rfl
set_option maxRecDepth 20000 in
theorem cd169 : Cond.code yX10_readClause cX10_readClause 3 (some .boolean) ∈ tg := inT6 (List.mem_of_getElem? (i := 120) rfl) rfl
set_option maxRecDepth 20000 in
theorem cd170 : Cond.code yX10_book cX10_book 2 (some .int) ∈ tg := inT6 (List.mem_of_getElem? (i := 93) rfl) rfl
set_option maxRecDepth 20000 in
theorem cd171 : Cond.code yX10_told cX10_told 2 (some .int) ∈ tg := inT6 (List.mem_of_getElem? (i := 171) rfl) rfl
set_option maxRecDepth 20000 in
theorem cd172 : Cond.code yX10_isNotion cX10_isNotion 2 (some .boolean) ∈ tg := inT6 (List.mem_of_getElem? (i := 179) rfl) rfl
set_option maxRecDepth 20000 in
theorem cd173 : Cond.code yX10_isWord cX10_isWord 2 (some .boolean) ∈ tg := inT6 (List.mem_of_getElem? (i := 183) rfl) rfl
set_option maxRecDepth 20000 in
theorem cd174 : Cond.code yX10_isPlace cX10_isPlace 2 (some .boolean) ∈ tg := inT6 (List.mem_of_getElem? (i := 187) rfl) rfl
set_option maxRecDepth 20000 in
theorem cd175 : Cond.code yX10_isTie cX10_isTie 2 (some .boolean) ∈ tg := inT6 (List.mem_of_getElem? (i := 191) rfl) rfl
set_option maxRecDepth 20000 in
theorem cd176 : Cond.code yX10_isHearer cX10_isHearer 2 (some .boolean) ∈ tg := inT6 (List.mem_of_getElem? (i := 195) rfl) rfl
set_option maxRecDepth 20000 in
theorem cd177 : Cond.code yX10_traits cX10_traits 3 (some .int) ∈ tg := inT6 (List.mem_of_getElem? (i := 175) rfl) rfl
set_option maxRecDepth 20000 in
theorem cd178 : Cond.code yX10_notion cX10_notion 2 (some .int) ∈ tg := inT6 (List.mem_of_getElem? (i := 199) rfl) rfl
set_option maxRecDepth 20000 in
theorem cd179 : Cond.code yX10_weigh cX10_weigh 4 (some .int) ∈ tg := inT6 (List.mem_of_getElem? (i := 227) rfl) rfl
set_option maxRecDepth 20000 in
theorem cd180 : Cond.code yX10_traitsOf cX10_traitsOf 5 (some .int) ∈ tg := inT6 (List.mem_of_getElem? (i := 223) rfl) rfl
set_option maxRecDepth 20000 in
theorem cd181 : Cond.code yX10_had cX10_had 4 (some .int) ∈ tg := inT6 (List.mem_of_getElem? (i := 219) rfl) rfl
set_option maxRecDepth 20000 in
theorem cd182 : Cond.code yX10_lackAt cX10_lackAt 3 (some .int) ∈ tg := inT6 (List.mem_of_getElem? (i := 215) rfl) rfl
set_option maxRecDepth 20000 in
theorem cd183 : Cond.code yX10_addAt cX10_addAt 3 (some .int) ∈ tg := inT6 (List.mem_of_getElem? (i := 231) rfl) rfl
set_option maxRecDepth 20000 in
theorem cd184 : Cond.code yX10_lostAt cX10_lostAt 4 (some .int) ∈ tg := inT6 (List.mem_of_getElem? (i := 211) rfl) rfl
set_option maxRecDepth 20000 in
theorem cd185 : Cond.code yX10_lostAll cX10_lostAll 4 (some .int) ∈ tg := inT7 (List.mem_of_getElem? (i := 22) rfl) rfl
set_option maxRecDepth 20000 in
theorem cd186 : Cond.code yX10_put cX10_put 6 none ∈ tg := inT6 (List.mem_of_getElem? (i := 207) rfl) rfl
set_option maxRecDepth 20000 in
theorem cd187 : Cond.code yX10_choose cX10_choose 6 (some .int) ∈ tg := inT6 (List.mem_of_getElem? (i := 203) rfl) rfl
set_option maxRecDepth 20000 in
theorem cd188 : Cond.code yX10_leave cX10_leave 3 (some .int) ∈ tg := inT6 (List.mem_of_getElem? (i := 235) rfl) rfl
set_option maxRecDepth 20000 in
theorem cd189 : Cond.code yX10_choice cX10_choice 3 (some .int) ∈ tg := inT6 (List.mem_of_getElem? (i := 239) rfl) rfl
set_option maxRecDepth 20000 in
theorem cd190 : Cond.code yX10_bears cX10_bears 3 (some .int) ∈ tg := inT7 (List.mem_of_getElem? (i := 3) rfl) rfl
set_option maxRecDepth 20000 in
theorem cd191 : Cond.code yX10_bits cX10_bits 3 (some .int) ∈ tg := inT7 (List.mem_of_getElem? (i := 14) rfl) rfl
set_option maxRecDepth 20000 in
theorem cd192 : Cond.code yX10_notedAll cX10_notedAll 3 (some .int) ∈ tg := inT7 (List.mem_of_getElem? (i := 11) rfl) rfl
set_option maxRecDepth 20000 in
theorem cd193 : Cond.code yX10_note cX10_note 4 (some .int) ∈ tg := inT7 (List.mem_of_getElem? (i := 7) rfl) rfl
set_option maxRecDepth 20000 in
theorem cd194 : Cond.code yX10_lost cX10_lost 1 (some .int) ∈ tg := inT7 (List.mem_of_getElem? (i := 18) rfl) rfl
set_option maxRecDepth 20000 in
theorem cd195 : Cond.code yX10_isClash cX10_isClash 4 (some .boolean) ∈ tg := inT7 (List.mem_of_getElem? (i := 30) rfl) rfl
set_option maxRecDepth 20000 in
theorem cd196 : Cond.code yX10_clashes cX10_clashes 3 (some .int) ∈ tg := inT7 (List.mem_of_getElem? (i := 26) rfl) rfl
set_option maxRecDepth 20000 in
theorem cd197 : Cond.code yX10_bound cX10_bound 5 (some .int) ∈ tg := inT7 (List.mem_of_getElem? (i := 34) rfl) rfl
set_option maxRecDepth 20000 in
theorem cd198 : Cond.code yX10_putBy cX10_putBy 3 none ∈ tg := inT7 (List.mem_of_getElem? (i := 46) rfl) rfl
set_option maxRecDepth 20000 in
theorem cd199 : Cond.code yX10_isFree cX10_isFree 3 (some .boolean) ∈ tg := inT7 (List.mem_of_getElem? (i := 50) rfl) rfl
set_option maxRecDepth 20000 in
theorem cd200 : Cond.code yX10_best cX10_best 8 (some .int) ∈ tg := inT7 (List.mem_of_getElem? (i := 38) rfl) rfl
set_option maxRecDepth 20000 in
theorem cd201 : Cond.code yX10_layRow cX10_layRow 6 (some .int) ∈ tg := inT7 (List.mem_of_getElem? (i := 42) rfl) rfl
set_option maxRecDepth 20000 in
theorem cd202 : Cond.code yX10_costs cX10_costs 1 (some .int) ∈ tg := inT7 (List.mem_of_getElem? (i := 58) rfl) rfl
set_option maxRecDepth 20000 in
theorem cd203 : Cond.code yX10_exchange cX10_exchange 12 (some .int) ∈ tg := inT7 (List.mem_of_getElem? (i := 54) rfl) rfl
set_option maxRecDepth 20000 in
theorem cd204 : Cond.code yX10_plainAt cX10_plainAt 3 (some .int) ∈ tg := inT7 (List.mem_of_getElem? (i := 75) rfl) rfl
set_option maxRecDepth 20000 in
theorem cd205 : Cond.code yX10_plainSum cX10_plainSum 5 (some .int) ∈ tg := inT7 (List.mem_of_getElem? (i := 71) rfl) rfl
set_option maxRecDepth 20000 in
theorem cd206 : Cond.code yX10_oneOf cX10_oneOf 4 (some .int) ∈ tg := inT7 (List.mem_of_getElem? (i := 67) rfl) rfl
set_option maxRecDepth 20000 in
theorem cd207 : Cond.code yX10_one cX10_one 2 (some .int) ∈ tg := inT7 (List.mem_of_getElem? (i := 63) rfl) rfl
set_option maxRecDepth 20000 in
theorem cd208 : Cond.code yX10_price cX10_price 7 (some .int) ∈ tg := inT7 (List.mem_of_getElem? (i := 79) rfl) rfl
set_option maxRecDepth 20000 in
theorem cd209 : Cond.code yX10_swap cX10_swap 4 (some .int) ∈ tg := inT7 (List.mem_of_getElem? (i := 83) rfl) rfl
set_option maxRecDepth 20000 in
theorem cd210 : Cond.code yX10_mend cX10_mend 8 (some .int) ∈ tg := inT7 (List.mem_of_getElem? (i := 87) rfl) rfl
set_option maxRecDepth 20000 in
theorem cd211 : Cond.code yX10_heardBy cX10_heardBy 3 (some .int) ∈ tg := inT7 (List.mem_of_getElem? (i := 99) rfl) rfl
set_option maxRecDepth 20000 in
theorem cd212 : Cond.code yX10_backOf cX10_backOf 6 (some .int) ∈ tg := inT7 (List.mem_of_getElem? (i := 107) rfl) rfl
set_option maxRecDepth 20000 in
theorem cd213 : Cond.code yX10_isLaugh cX10_isLaugh 3 (some .boolean) ∈ tg := inT7 (List.mem_of_getElem? (i := 115) rfl) rfl
set_option maxRecDepth 20000 in
theorem cd214 : Cond.code yX10_isAsked cX10_isAsked 3 (some .boolean) ∈ tg := inT7 (List.mem_of_getElem? (i := 95) rfl) rfl
set_option maxRecDepth 20000 in
theorem cd215 : Cond.code yX10_hears cX10_hears 3 (some .int) ∈ tg := inT7 (List.mem_of_getElem? (i := 91) rfl) rfl
set_option maxRecDepth 20000 in
theorem cd216 : Cond.code yX10_back cX10_back 3 (some .int) ∈ tg := inT7 (List.mem_of_getElem? (i := 103) rfl) rfl
set_option maxRecDepth 20000 in
theorem cd217 : Cond.code yX10_laughs cX10_laughs 3 (some .int) ∈ tg := inT7 (List.mem_of_getElem? (i := 111) rfl) rfl
set_option maxRecDepth 20000 in
theorem cd218 : Cond.code yX10_hitsOf cX10_hitsOf 4 (some .int) ∈ tg := inT7 (List.mem_of_getElem? (i := 123) rfl) rfl
set_option maxRecDepth 20000 in
theorem cd219 : Cond.code yX10_hits cX10_hits 2 (some .int) ∈ tg := inT7 (List.mem_of_getElem? (i := 119) rfl) rfl
set_option maxRecDepth 20000 in
theorem cd220 : Cond.code yX10_on cX10_on 9 (some .int) ∈ tg := inT7 (List.mem_of_getElem? (i := 127) rfl) rfl
set_option maxRecDepth 20000 in
theorem cd221 : Cond.code yX10_store cX10_store 4 none ∈ tg := inT7 (List.mem_of_getElem? (i := 138) rfl) rfl
set_option maxRecDepth 20000 in
theorem cd222 : Cond.code yX10_load cX10_load 4 none ∈ tg := inT7 (List.mem_of_getElem? (i := 146) rfl) rfl
set_option maxRecDepth 20000 in
theorem cd223 : Cond.code yX10_isSlot cX10_isSlot 1 (some .boolean) ∈ tg := inT7 (List.mem_of_getElem? (i := 134) rfl) rfl
set_option maxRecDepth 20000 in
theorem cd224 : Cond.code yX10_keep cX10_keep 2 (some .int) ∈ tg := inT7 (List.mem_of_getElem? (i := 131) rfl) rfl
set_option maxRecDepth 20000 in
theorem cd225 : Cond.code yX10_take cX10_take 2 (some .int) ∈ tg := inT7 (List.mem_of_getElem? (i := 142) rfl) rfl
set_option maxRecDepth 20000 in
theorem cd226 : Cond.code yX10_nearer cX10_nearer 8 (some .int) ∈ tg := inT7 (List.mem_of_getElem? (i := 150) rfl) rfl
set_option maxRecDepth 20000 in
theorem cd227 : Cond.code yX10_cellOf cX10_cellOf 3 (some .int) ∈ tg := inT7 (List.mem_of_getElem? (i := 157) rfl) rfl
set_option maxRecDepth 20000 in
theorem cd228 : Cond.code yX10_gives cX10_gives 6 (some .int) ∈ tg := inT7 (List.mem_of_getElem? (i := 154) rfl) rfl
set_option maxRecDepth 20000 in
theorem cd229 : Cond.code yX10_agree cX10_agree 9 (some .int) ∈ tg := inT7 (List.mem_of_getElem? (i := 161) rfl) rfl
set_option maxRecDepth 20000 in
theorem cd230 : Cond.code yX10_moves cX10_moves 5 (some .int) ∈ tg := inT7 (List.mem_of_getElem? (i := 165) rfl) rfl
set_option maxRecDepth 20000 in
theorem cd231 : Cond.code yX10_lostIn cX10_lostIn 2 (some .int) ∈ tg := inT7 (List.mem_of_getElem? (i := 170) rfl) rfl
set_option maxRecDepth 20000 in
theorem cd232 : Cond.code yX10_turned cX10_turned 4 (some .int) ∈ tg := inT7 (List.mem_of_getElem? (i := 174) rfl) rfl
set_option maxRecDepth 20000 in
theorem cd233 : Cond.code yX10_until cX10_until 4 (some .int) ∈ tg := inT7 (List.mem_of_getElem? (i := 178) rfl) rfl
set_option maxRecDepth 20000 in
theorem cd234 : Cond.code yX10_heard cX10_heard 5 (some .int) ∈ tg := inT7 (List.mem_of_getElem? (i := 182) rfl) rfl
set_option maxRecDepth 20000 in
theorem cd235 : Cond.code yX10_right cX10_right 6 (some .int) ∈ tg := inT7 (List.mem_of_getElem? (i := 186) rfl) rfl
set_option maxRecDepth 20000 in
theorem cd236 : Cond.code yX10_setOf cX10_setOf 3 (some .int) ∈ tg := inT7 (List.mem_of_getElem? (i := 197) rfl) rfl
set_option maxRecDepth 20000 in
theorem cd237 : Cond.code yX10_makeFits cX10_makeFits 9 (some .int) ∈ tg := inT7 (List.mem_of_getElem? (i := 194) rfl) rfl
set_option maxRecDepth 20000 in
theorem cd238 : Cond.code yX10_fit cX10_fit 3 (some .int) ∈ tg := inT7 (List.mem_of_getElem? (i := 190) rfl) rfl
set_option maxRecDepth 20000 in
theorem cd239 : Cond.code yX10_surely cX10_surely 7 (some .int) ∈ tg := inT7 (List.mem_of_getElem? (i := 201) rfl) rfl
set_option maxRecDepth 20000 in
theorem cd240 : Cond.code yX10_next cX10_next 8 (some .int) ∈ tg := inT7 (List.mem_of_getElem? (i := 205) rfl) rfl
set_option maxRecDepth 20000 in
theorem cd241 : Cond.code yX10_count cX10_count 4 (some .int) ∈ tg := inT7 (List.mem_of_getElem? (i := 209) rfl) rfl
set_option maxRecDepth 20000 in
theorem cd242 : Cond.code yJ6_bitCount_0f7a4 cJ6_bitCount_0f7a4 1 (some .int) ∈ tg := inT3 (List.mem_of_getElem? (i := 222) rfl) rfl
set_option maxRecDepth 20000 in
theorem cd243 : Cond.code yJ7_fill_53178 cJ7_fill_53178 4 none ∈ tg := inT1 (List.mem_of_getElem? (i := 57) rfl) rfl
set_option maxRecDepth 20000 in
theorem cd244 : Cond.code yJ7_fill_031fb cJ7_fill_031fb 4 none ∈ tg := inT3 (List.mem_of_getElem? (i := 110) rfl) rfl
theorem miOk0 : ((List.range' 0 50).zip (miT.drop 0)).all miC = true := by decide +kernel
theorem miOk1 : ((List.range' 50 50).zip (miT.drop 50)).all miC = true := by decide +kernel
theorem miOk2 : ((List.range' 100 50).zip (miT.drop 100)).all miC = true := by decide +kernel
theorem miOk3 : ((List.range' 150 50).zip (miT.drop 150)).all miC = true := by decide +kernel
theorem miOk4 : ((List.range' 200 50).zip (miT.drop 200)).all miC = true := by decide +kernel
theorem coOk2 : hasW 99 (Cond.initialized "java/lang/Math") = true ∧ hasW 867 (Cond.static Lib.Math.max.name) = true ∧ hasW 868 (Cond.code Lib.Math.max.name Lib.Math.max.code 2 (some .int)) = true ∧ hasW 864 (Cond.static Lib.Math.min.name) = true ∧ hasW 865 (Cond.code Lib.Math.min.name Lib.Math.min.code 2 (some .int)) = true := by decide +kernel
theorem tg_prim : pPrim tg := ⟨⟨hasW_in coOk.1, hasW_in coOk.2.1, hasW_in coOk.2.2⟩, hasW_in coOk2.1, ⟨hasW_in coOk2.2.1, hasW_in coOk2.2.2.1⟩, hasW_in coOk2.2.2.2.1, hasW_in coOk2.2.2.2.2⟩
end
section
def sxN : List (Nat × Nat × Nat) := [(4, 132, 143), (4, 138, 144), (4, 140, 145), (4, 142, 146), (4, 144, 147), (4, 146, 148), (4, 148, 149), (4, 150, 150), (4, 152, 151), (4, 154, 152), (4, 156, 153), (10, 155, 154)]
def syN : List (Nat × Nat × Nat) := [(4, 158, 0), (4, 162, 1), (10, 157, 0), (10, 163, 1)]
/-- the entries that are about texts -/
def pXsS (own : String) (x : pX) : Prop := match x with
  | (ins, a, b, c, _, _, _) => match ins with
    | .ldc i => b ≠ 0 → ∃ oc, own = cn oc ∧ (oc, i, a) ∈ sxN
    | .invokevirtual i => c = 0 → ∃ oc, own = cn oc ∧ (oc, i, b) ∈ syN
    | _ => True
def flN : List (Nat × Nat × Nat × Nat) := flT.map fun q => (q.1, q.2.1, q.2.2.1, q.2.2.2.1)
def mlN : List (Nat × Nat × Nat) := mlT.map fun q => (q.1, q.2.1, q.2.2.1)
def kcN : List (Nat × Nat × Int32) := kcT.map fun q => (q.1, q.2.1, q.2.2.1)
def klN : List (Nat × Nat × Nat) := klT.map fun q => (q.1, q.2.1, q.2.2.1)
def cpN : List (Nat × Nat × Nat) := cpT.map fun q => (q.1, q.2.1, q.2.2.1)
def xchk (oc maxL : Nat) (ret : Option FieldType) (pc : Nat) (x : pX) : Bool := match x with
  | (ins, a, b, c, w, _, z) => match ins with
    | .iconst n => decide (Int32.ofInt n = z)
    | .bipush n => decide ((Int8.ofInt n).toInt32 = z)
    | .sipush n => decide ((Int16.ofInt n).toInt32 = z)
    | .ldc i => if b = 0 then decide ((oc, i, z) ∈ kcN) else decide ((oc, i, a) ∈ sxN)
    | .ldc_w i => decide ((oc, i, z) ∈ kcN)
    | .ldc2_w i => decide ((oc, i, a) ∈ klN)
    | .lconst n => decide ((n : Nat) = a)
    | .iload_n n => decide ((n : Nat) = a)
    | .aload_n n => decide ((n : Nat) = a)
    | .iload n => decide (n = a)
    | .aload n => decide (n = a)
    | .istore_n n => decide ((n : Nat) = a) && decide (a < maxL)
    | .astore_n n => decide ((n : Nat) = a) && decide (a < maxL)
    | .istore n => decide (n = a) && decide (a < maxL)
    | .astore n => decide (n = a) && decide (a < maxL)
    | .iinc n q => decide (n = a) && (decide (Int32.ofInt q = z) && decide (a < maxL))
    | .goto off => decide ((pc : Int) + off = (a : Int))
    | .ifCond _ off => decide ((pc : Int) + off = (a : Int))
    | .if_icmp _ off => decide ((pc : Int) + off = (a : Int))
    | .tableswitch d lo hi offs => decide (hi = lo + offs.toList.length - 1) && (decide (0 ≤ (pc : Int) + d) && offs.toList.all fun q => decide (0 ≤ (pc : Int) + q))
    | .lookupswitch d ps => (ps.toList.zip (ps.toList.drop 1)).all (fun (a, next) => a.1 < next.1) && (decide (0 ≤ (pc : Int) + d) && ps.toList.all fun q => decide (0 ≤ (pc : Int) + q.2))
    | .getfield i => decide ((oc, i, a, b) ∈ flN)
    | .putfield i => decide ((oc, i, a, b) ∈ flN) && (match vwCl[a]? with | some (_, T, _) => (T b).2.2.2 == false | none => false)
    | .invokevirtual i => if c = 0 then decide ((oc, i, b) ∈ syN) else decide ((oc, i, a) ∈ mlN) && (match miT[a]? with | some (st, np, w', _) => !st && decide (b = np + 1) && decide (w = w') | none => false)
    | .invokestatic i => if c = 0 then decide ((oc, i, b) ∈ cpN) else decide ((oc, i, a) ∈ mlN) && (match miT[a]? with | some (st, np, _, _) => st && decide (b = np) | none => false)
    | .ireturn => (a == 0 && decide (ret = some .int)) || (a == 1 && decide (ret = some .boolean)) || (a == 2 && decide (ret = some .char))
    | .areturn => decide (ret = some (.array .int))
    | .return_ => decide (ret = none)
    | _ => true
theorem mi_chunk (s : Nat) (h : ((List.range' s 50).zip (miT.drop s)).all miC = true) {a : Nat} {q : Bool × Nat × Nat × Nat × Nat × Nat} (ha : miT[a]? = some q) (h1 : s ≤ a) (h2 : a < s + 50) : miC (a, q) = true := by
  refine List.all_eq_true.mp h (a, q) (List.mem_of_getElem? (i := a - s) ?_)
  rw [List.getElem?_zip_eq_some]
  refine ⟨?_, ?_⟩
  · rw [List.getElem?_range' (by omega)]
    congr 1
    omega
  · rw [List.getElem?_drop, show s + (a - s) = a by omega]
    exact ha
theorem mi_len : miT.length = 245 := by decide +kernel
theorem mi_all {a : Nat} {q : Bool × Nat × Nat × Nat × Nat × Nat} (ha : miT[a]? = some q) : miC (a, q) = true := by
  have hl : a < miT.length := (List.getElem?_eq_some_iff.mp ha).1
  rw [mi_len] at hl
  rcases (show a < 50 ∨ (50 ≤ a ∧ a < 100) ∨ (100 ≤ a ∧ a < 150) ∨ (150 ≤ a ∧ a < 200) ∨ (200 ≤ a ∧ a < 250) by omega) with h | h | h | h | h
  · exact mi_chunk 0 miOk0 ha (by omega) (by omega)
  · exact mi_chunk 50 miOk1 ha (by omega) (by omega)
  · exact mi_chunk 100 miOk2 ha (by omega) (by omega)
  · exact mi_chunk 150 miOk3 ha (by omega) (by omega)
  · exact mi_chunk 200 miOk4 ha (by omega) (by omega)

def InfA0 : List pInf := [(yX0_clear, cX0_clear, 1, none), (yX0_copyFrom, cX0_copyFrom, 2, none), (yX0_roomFor, cX0_roomFor, 1, (some .int)), (yX0_has, cX0_has, 3, (some .boolean)), (yX0_setting, cX0_setting, 2, (some .int)), (yX0_allPlaces, cX0_allPlaces, 1, (some .int)), (yX0_weigh, cX0_weigh, 4, none), (yX0_sumGroups, cX0_sumGroups, 5, none), (yX0_weightsOf, cX0_weightsOf, 3, (some .int)), (yX0_traitsOfNotionAt, cX0_traitsOfNotionAt, 2, (some .int)), (yX0_lacksOf, cX0_lacksOf, 3, (some .int)), (yX0_addsOf, cX0_addsOf, 3, (some .int)), (yX0_lostByTraits, cX0_lostByTraits, 4, (some .int)), (yX0_wouldClash, cX0_wouldClash, 5, (some .boolean)), (yX0_otherPlace, cX0_otherPlace, 3, (some .int)), (yX0_boundBy, cX0_boundBy, 7, (some .int))]
theorem cdA0 : ∀ q ∈ InfA0, Cond.code q.1 q.2.1 q.2.2.1 q.2.2.2 ∈ tg := List.forall_mem_cons.mpr ⟨cd0, List.forall_mem_cons.mpr ⟨cd1, List.forall_mem_cons.mpr ⟨cd2, List.forall_mem_cons.mpr ⟨cd3, List.forall_mem_cons.mpr ⟨cd4, List.forall_mem_cons.mpr ⟨cd5, List.forall_mem_cons.mpr ⟨cd6, List.forall_mem_cons.mpr ⟨cd7, List.forall_mem_cons.mpr ⟨cd8, List.forall_mem_cons.mpr ⟨cd9, List.forall_mem_cons.mpr ⟨cd10, List.forall_mem_cons.mpr ⟨cd11, List.forall_mem_cons.mpr ⟨cd12, List.forall_mem_cons.mpr ⟨cd13, List.forall_mem_cons.mpr ⟨cd14, List.forall_mem_cons.mpr ⟨cd15, fun _ h => absurd h List.not_mem_nil⟩⟩⟩⟩⟩⟩⟩⟩⟩⟩⟩⟩⟩⟩⟩⟩
def InfA1 : List pInf := [(yX0_wordForAll, cX0_wordForAll, 4, (some .int)), (yX0_toldBack, cX0_toldBack, 7, (some .int)), (yX0_traitsSaidFor, cX0_traitsSaidFor, 6, (some .int)), (yX1_clear, cX1_clear, 1, none), (yX1_indexOf, cX1_indexOf, 3, (some .int)), (yX1_put, cX1_put, 7, (some .int)), (yX1_agreed, cX1_agreed, 7, (some .int)), (yX1_costOf, cX1_costOf, 7, (some .int)), (yX2_clear, cX2_clear, 1, none), (yX2_mayTell, cX2_mayTell, 3, (some .boolean)), (yX2_isFull, cX2_isFull, 1, (some .boolean)), (yX2_isFullOfRights, cX2_isFullOfRights, 1, (some .boolean)), (yX2_append, cX2_append, 6, (some .int)), (yX2_putRight, cX2_putRight, 4, (some .int)), (yX2_gather, cX2_gather, 6, (some .int)), (yX2_fitsAll, cX2_fitsAll, 6, (some .boolean))]
theorem cdA1 : ∀ q ∈ InfA1, Cond.code q.1 q.2.1 q.2.2.1 q.2.2.2 ∈ tg := List.forall_mem_cons.mpr ⟨cd16, List.forall_mem_cons.mpr ⟨cd17, List.forall_mem_cons.mpr ⟨cd18, List.forall_mem_cons.mpr ⟨cd19, List.forall_mem_cons.mpr ⟨cd20, List.forall_mem_cons.mpr ⟨cd21, List.forall_mem_cons.mpr ⟨cd22, List.forall_mem_cons.mpr ⟨cd23, List.forall_mem_cons.mpr ⟨cd24, List.forall_mem_cons.mpr ⟨cd25, List.forall_mem_cons.mpr ⟨cd26, List.forall_mem_cons.mpr ⟨cd27, List.forall_mem_cons.mpr ⟨cd28, List.forall_mem_cons.mpr ⟨cd29, List.forall_mem_cons.mpr ⟨cd30, List.forall_mem_cons.mpr ⟨cd31, fun _ h => absurd h List.not_mem_nil⟩⟩⟩⟩⟩⟩⟩⟩⟩⟩⟩⟩⟩⟩⟩⟩
def InfA2 : List pInf := [(yX2_setsWith, cX2_setsWith, 4, (some .int)), (yX2_setsWithin, cX2_setsWithin, 4, (some .int)), (yX3_append, cX3_append, 3, none), (yX3_find, cX3_find, 5, (some .int)), (yX3_isSame, cX3_isSame, 5, (some .boolean)), (yX4_read, cX4_read, 4, (some .int)), (yX4_begin, cX4_begin, 2, none), (yX4_advance, cX4_advance, 1, none), (yX4_signOf, cX4_signOf, 1, (some .char)), (yX4_refuse, cX4_refuse, 2, (some .boolean)), (yX4_mayBegin, cX4_mayBegin, 2, (some .boolean)), (yX4_readBody, cX4_readBody, 2, (some .boolean)), (yX4_keyword, cX4_keyword, 1, (some .int)), (yX4_isWord, cX4_isWord, 3, (some .boolean)), (yX4_readSemicolon, cX4_readSemicolon, 1, (some .boolean)), (yX4_readTraits, cX4_readTraits, 4, (some .boolean))]
theorem cdA2 : ∀ q ∈ InfA2, Cond.code q.1 q.2.1 q.2.2.1 q.2.2.2 ∈ tg := List.forall_mem_cons.mpr ⟨cd32, List.forall_mem_cons.mpr ⟨cd33, List.forall_mem_cons.mpr ⟨cd34, List.forall_mem_cons.mpr ⟨cd35, List.forall_mem_cons.mpr ⟨cd36, List.forall_mem_cons.mpr ⟨cd37, List.forall_mem_cons.mpr ⟨cd38, List.forall_mem_cons.mpr ⟨cd39, List.forall_mem_cons.mpr ⟨cd40, List.forall_mem_cons.mpr ⟨cd41, List.forall_mem_cons.mpr ⟨cd42, List.forall_mem_cons.mpr ⟨cd43, List.forall_mem_cons.mpr ⟨cd44, List.forall_mem_cons.mpr ⟨cd45, List.forall_mem_cons.mpr ⟨cd46, List.forall_mem_cons.mpr ⟨cd47, fun _ h => absurd h List.not_mem_nil⟩⟩⟩⟩⟩⟩⟩⟩⟩⟩⟩⟩⟩⟩⟩⟩
def InfA3 : List pInf := [(yX4_readPlace, cX4_readPlace, 3, (some .boolean)), (yX4_readTie, cX4_readTie, 5, (some .boolean)), (yX4_readHearer, cX4_readHearer, 3, (some .boolean)), (yX4_readWeight, cX4_readWeight, 1, (some .boolean)), (yX4_readSetting, cX4_readSetting, 2, (some .boolean)), (yX4_readNewName, cX4_readNewName, 2, (some .boolean)), (yX4_readSet, cX4_readSet, 3, (some .boolean)), (yX4_readNumber, cX4_readNumber, 4, (some .boolean)), (yX5_clear, cX5_clear, 1, none), (yX5_copyFrom, cX5_copyFrom, 2, none), (yX5_put, cX5_put, 6, none), (yX5_isChosen, cX5_isChosen, 2, (some .boolean)), (yX5_isBorrowed, cX5_isBorrowed, 2, (some .boolean)), (yX5_chosen, cX5_chosen, 3, (some .int)), (yX5_noted, cX5_noted, 3, (some .int)), (yX5_traitsAt, cX5_traitsAt, 3, (some .int))]
theorem cdA3 : ∀ q ∈ InfA3, Cond.code q.1 q.2.1 q.2.2.1 q.2.2.2 ∈ tg := List.forall_mem_cons.mpr ⟨cd48, List.forall_mem_cons.mpr ⟨cd49, List.forall_mem_cons.mpr ⟨cd50, List.forall_mem_cons.mpr ⟨cd51, List.forall_mem_cons.mpr ⟨cd52, List.forall_mem_cons.mpr ⟨cd53, List.forall_mem_cons.mpr ⟨cd54, List.forall_mem_cons.mpr ⟨cd55, List.forall_mem_cons.mpr ⟨cd56, List.forall_mem_cons.mpr ⟨cd57, List.forall_mem_cons.mpr ⟨cd58, List.forall_mem_cons.mpr ⟨cd59, List.forall_mem_cons.mpr ⟨cd60, List.forall_mem_cons.mpr ⟨cd61, List.forall_mem_cons.mpr ⟨cd62, List.forall_mem_cons.mpr ⟨cd63, fun _ h => absurd h List.not_mem_nil⟩⟩⟩⟩⟩⟩⟩⟩⟩⟩⟩⟩⟩⟩⟩⟩
def InfA4 : List pInf := [(yX5_traitsOf, cX5_traitsOf, 2, (some .int)), (yX5_lostAt, cX5_lostAt, 4, (some .int)), (yX5_lostOfAll, cX5_lostOfAll, 4, (some .int)), (yX5_clashBits, cX5_clashBits, 4, (some .int)), (yX5_isClashing, cX5_isClashing, 6, (some .boolean)), (yX5_clashesAt, cX5_clashesAt, 6, (some .int)), (yX5_isBorrowedOption, cX5_isBorrowedOption, 2, (some .boolean)), (yX5_traitsOfOption, cX5_traitsOfOption, 2, (some .int)), (yX5_lostWithOption, cX5_lostWithOption, 3, (some .int)), (yX5_putOption, cX5_putOption, 3, none), (yX5_exchangeRound, cX5_exchangeRound, 3, (some .boolean)), (yX5_exchangeAt, cX5_exchangeAt, 6, (some .boolean)), (yX5_lostWithWord, cX5_lostWithWord, 5, (some .int)), (yX5_lostWithLeast, cX5_lostWithLeast, 6, (some .int)), (yX5_oneWord, cX5_oneWord, 6, (some .int)), (yX5_mendOnce, cX5_mendOnce, 7, (some .boolean))]
theorem cdA4 : ∀ q ∈ InfA4, Cond.code q.1 q.2.1 q.2.2.1 q.2.2.2 ∈ tg := List.forall_mem_cons.mpr ⟨cd64, List.forall_mem_cons.mpr ⟨cd65, List.forall_mem_cons.mpr ⟨cd66, List.forall_mem_cons.mpr ⟨cd67, List.forall_mem_cons.mpr ⟨cd68, List.forall_mem_cons.mpr ⟨cd69, List.forall_mem_cons.mpr ⟨cd70, List.forall_mem_cons.mpr ⟨cd71, List.forall_mem_cons.mpr ⟨cd72, List.forall_mem_cons.mpr ⟨cd73, List.forall_mem_cons.mpr ⟨cd74, List.forall_mem_cons.mpr ⟨cd75, List.forall_mem_cons.mpr ⟨cd76, List.forall_mem_cons.mpr ⟨cd77, List.forall_mem_cons.mpr ⟨cd78, List.forall_mem_cons.mpr ⟨cd79, fun _ h => absurd h List.not_mem_nil⟩⟩⟩⟩⟩⟩⟩⟩⟩⟩⟩⟩⟩⟩⟩⟩
def InfA5 : List pInf := [(yX5_untoldLacks, cX5_untoldLacks, 2, (some .int)), (yX5_heardAt, cX5_heardAt, 3, (some .int)), (yX5_rightOf, cX5_rightOf, 4, (some .int)), (yX6_putBest, cX6_putBest, 4, (some .boolean)), (yX6_begin, cX6_begin, 5, none), (yX6_levelOf, cX6_levelOf, 3, (some .int)), (yX6_obeyTie, cX6_obeyTie, 5, none), (yX6_obeyInside, cX6_obeyInside, 10, none), (yX6_obeyOutside, cX6_obeyOutside, 5, none), (yX6_settle, cX6_settle, 5, none), (yX6_narrow, cX6_narrow, 6, (some .int)), (yX6_leastOf, cX6_leastOf, 5, (some .int)), (yX7_hasRoom, cX7_hasRoom, 1, (some .boolean)), (yX7_append, cX7_append, 3, none), (yX8_clear, cX8_clear, 1, none), (yX8_isFull, cX8_isFull, 1, (some .boolean))]
theorem cdA5 : ∀ q ∈ InfA5, Cond.code q.1 q.2.1 q.2.2.1 q.2.2.2 ∈ tg := List.forall_mem_cons.mpr ⟨cd80, List.forall_mem_cons.mpr ⟨cd81, List.forall_mem_cons.mpr ⟨cd82, List.forall_mem_cons.mpr ⟨cd83, List.forall_mem_cons.mpr ⟨cd84, List.forall_mem_cons.mpr ⟨cd85, List.forall_mem_cons.mpr ⟨cd86, List.forall_mem_cons.mpr ⟨cd87, List.forall_mem_cons.mpr ⟨cd88, List.forall_mem_cons.mpr ⟨cd89, List.forall_mem_cons.mpr ⟨cd90, List.forall_mem_cons.mpr ⟨cd91, List.forall_mem_cons.mpr ⟨cd92, List.forall_mem_cons.mpr ⟨cd93, List.forall_mem_cons.mpr ⟨cd94, List.forall_mem_cons.mpr ⟨cd95, fun _ h => absurd h List.not_mem_nil⟩⟩⟩⟩⟩⟩⟩⟩⟩⟩⟩⟩⟩⟩⟩⟩
def InfA6 : List pInf := [(yX8_latestOf, cX8_latestOf, 4, (some .int)), (yX8_append, cX8_append, 4, (some .int)), (yX8_wordsIn, cX8_wordsIn, 3, (some (.array .int))), (yX8_turns, cX8_turns, 7, (some .int)), (yX8_firstAbove, cX8_firstAbove, 6, (some .int)), (yX9_feed, cX9_feed, 6, (some .int)), (yX9_end, cX9_end, 2, (some .int)), (yX9_book, cX9_book, 3, (some .int)), (yX9_fault, cX9_fault, 2, (some .int)), (yX9_told, cX9_told, 2, (some .int)), (yX9_traits, cX9_traits, 3, (some .int)), (yX9_notion, cX9_notion, 2, (some .int)), (yX9_choose, cX9_choose, 6, (some .int)), (yX9_wordsAreFit, cX9_wordsAreFit, 5, (some .boolean)), (yX9_leave, cX9_leave, 2, (some .int)), (yX9_choice, cX9_choice, 3, (some .int))]
theorem cdA6 : ∀ q ∈ InfA6, Cond.code q.1 q.2.1 q.2.2.1 q.2.2.2 ∈ tg := List.forall_mem_cons.mpr ⟨cd96, List.forall_mem_cons.mpr ⟨cd97, List.forall_mem_cons.mpr ⟨cd98, List.forall_mem_cons.mpr ⟨cd99, List.forall_mem_cons.mpr ⟨cd100, List.forall_mem_cons.mpr ⟨cd101, List.forall_mem_cons.mpr ⟨cd102, List.forall_mem_cons.mpr ⟨cd103, List.forall_mem_cons.mpr ⟨cd104, List.forall_mem_cons.mpr ⟨cd105, List.forall_mem_cons.mpr ⟨cd106, List.forall_mem_cons.mpr ⟨cd107, List.forall_mem_cons.mpr ⟨cd108, List.forall_mem_cons.mpr ⟨cd109, List.forall_mem_cons.mpr ⟨cd110, List.forall_mem_cons.mpr ⟨cd111, fun _ h => absurd h List.not_mem_nil⟩⟩⟩⟩⟩⟩⟩⟩⟩⟩⟩⟩⟩⟩⟩⟩
def InfA7 : List pInf := [(yX9_bears, cX9_bears, 4, (some .int)), (yX9_note, cX9_note, 4, (some .int)), (yX9_lost, cX9_lost, 1, (some .int)), (yX9_clashes, cX9_clashes, 1, (some .int)), (yX9_bound, cX9_bound, 2, (some .int)), (yX9_best, cX9_best, 3, (some .int)), (yX9_exchange, cX9_exchange, 3, (some .int)), (yX9_one, cX9_one, 2, (some .int)), (yX9_price, cX9_price, 3, (some .int)), (yX9_swap, cX9_swap, 2, (some .int)), (yX9_mend, cX9_mend, 4, (some .int)), (yX9_whyNotHeard, cX9_whyNotHeard, 3, (some .int)), (yX9_hears, cX9_hears, 4, (some .int)), (yX9_back, cX9_back, 4, (some .int)), (yX9_laughs, cX9_laughs, 5, (some .int)), (yX9_hits, cX9_hits, 2, (some .int))]
theorem cdA7 : ∀ q ∈ InfA7, Cond.code q.1 q.2.1 q.2.2.1 q.2.2.2 ∈ tg := List.forall_mem_cons.mpr ⟨cd112, List.forall_mem_cons.mpr ⟨cd113, List.forall_mem_cons.mpr ⟨cd114, List.forall_mem_cons.mpr ⟨cd115, List.forall_mem_cons.mpr ⟨cd116, List.forall_mem_cons.mpr ⟨cd117, List.forall_mem_cons.mpr ⟨cd118, List.forall_mem_cons.mpr ⟨cd119, List.forall_mem_cons.mpr ⟨cd120, List.forall_mem_cons.mpr ⟨cd121, List.forall_mem_cons.mpr ⟨cd122, List.forall_mem_cons.mpr ⟨cd123, List.forall_mem_cons.mpr ⟨cd124, List.forall_mem_cons.mpr ⟨cd125, List.forall_mem_cons.mpr ⟨cd126, List.forall_mem_cons.mpr ⟨cd127, fun _ h => absurd h List.not_mem_nil⟩⟩⟩⟩⟩⟩⟩⟩⟩⟩⟩⟩⟩⟩⟩⟩
def InfA8 : List pInf := [(yX9_on, cX9_on, 6, (some .int)), (yX9_keep, cX9_keep, 2, (some .int)), (yX9_take, cX9_take, 2, (some .int)), (yX9_nearer, cX9_nearer, 5, (some .int)), (yX9_gives, cX9_gives, 5, (some .int)), (yX9_agree, cX9_agree, 2, (some .int)), (yX9_moves, cX9_moves, 4, (some .int)), (yX9_lostIn, cX9_lostIn, 2, (some .int)), (yX9_turned, cX9_turned, 2, (some .int)), (yX9_until, cX9_until, 2, (some .int)), (yX9_isYear, cX9_isYear, 1, (some .boolean)), (yX9_heard, cX9_heard, 5, (some .int)), (yX9_right, cX9_right, 4, (some .int)), (yX9_fit, cX9_fit, 3, (some .int)), (yX9_surely, cX9_surely, 6, (some .int)), (yX9_next, cX9_next, 8, (some .int))]
theorem cdA8 : ∀ q ∈ InfA8, Cond.code q.1 q.2.1 q.2.2.1 q.2.2.2 ∈ tg := List.forall_mem_cons.mpr ⟨cd128, List.forall_mem_cons.mpr ⟨cd129, List.forall_mem_cons.mpr ⟨cd130, List.forall_mem_cons.mpr ⟨cd131, List.forall_mem_cons.mpr ⟨cd132, List.forall_mem_cons.mpr ⟨cd133, List.forall_mem_cons.mpr ⟨cd134, List.forall_mem_cons.mpr ⟨cd135, List.forall_mem_cons.mpr ⟨cd136, List.forall_mem_cons.mpr ⟨cd137, List.forall_mem_cons.mpr ⟨cd138, List.forall_mem_cons.mpr ⟨cd139, List.forall_mem_cons.mpr ⟨cd140, List.forall_mem_cons.mpr ⟨cd141, List.forall_mem_cons.mpr ⟨cd142, List.forall_mem_cons.mpr ⟨cd143, fun _ h => absurd h List.not_mem_nil⟩⟩⟩⟩⟩⟩⟩⟩⟩⟩⟩⟩⟩⟩⟩⟩
def InfA9 : List pInf := [(yX9_isStep, cX9_isStep, 1, (some .boolean)), (yX9_count, cX9_count, 2, (some .int)), (yX10_in, cX10_in, 3, (some .boolean)), (yX10_feed, cX10_feed, 9, (some .int)), (yX10_end, cX10_end, 2, (some .int)), (yX10_see, cX10_see, 2, (some .int)), (yX10_isSmall, cX10_isSmall, 1, (some .boolean)), (yX10_isDigit, cX10_isDigit, 1, (some .boolean)), (yX10_keyAt, cX10_keyAt, 8, (some .int)), (yX10_scan, cX10_scan, 4, none), (yX10_fails, cX10_fails, 2, (some .boolean)), (yX10_readNumber, cX10_readNumber, 3, (some .boolean)), (yX10_setHere, cX10_setHere, 3, (some .int)), (yX10_readSet, cX10_readSet, 2, (some .boolean)), (yX10_fault, cX10_fault, 2, (some .int)), (yX10_begin, cX10_begin, 2, none)]
theorem cdA9 : ∀ q ∈ InfA9, Cond.code q.1 q.2.1 q.2.2.1 q.2.2.2 ∈ tg := List.forall_mem_cons.mpr ⟨cd144, List.forall_mem_cons.mpr ⟨cd145, List.forall_mem_cons.mpr ⟨cd146, List.forall_mem_cons.mpr ⟨cd147, List.forall_mem_cons.mpr ⟨cd148, List.forall_mem_cons.mpr ⟨cd149, List.forall_mem_cons.mpr ⟨cd150, List.forall_mem_cons.mpr ⟨cd151, List.forall_mem_cons.mpr ⟨cd152, List.forall_mem_cons.mpr ⟨cd153, List.forall_mem_cons.mpr ⟨cd154, List.forall_mem_cons.mpr ⟨cd155, List.forall_mem_cons.mpr ⟨cd156, List.forall_mem_cons.mpr ⟨cd157, List.forall_mem_cons.mpr ⟨cd158, List.forall_mem_cons.mpr ⟨cd159, fun _ h => absurd h List.not_mem_nil⟩⟩⟩⟩⟩⟩⟩⟩⟩⟩⟩⟩⟩⟩⟩⟩
def InfA10 : List pInf := [(yX10_comes, cX10_comes, 3, none), (yX10_settle, cX10_settle, 2, none), (yX10_named, cX10_named, 4, (some .int)), (yX10_readName, cX10_readName, 5, (some .boolean)), (yX10_readPlace, cX10_readPlace, 4, (some .boolean)), (yX10_readTie, cX10_readTie, 3, (some .boolean)), (yX10_readHearer, cX10_readHearer, 2, (some .boolean)), (yX10_readWeight, cX10_readWeight, 3, (some .boolean)), (yX10_readTold, cX10_readTold, 3, (some .boolean)), (yX10_readClause, cX10_readClause, 3, (some .boolean)), (yX10_book, cX10_book, 2, (some .int)), (yX10_told, cX10_told, 2, (some .int)), (yX10_isNotion, cX10_isNotion, 2, (some .boolean)), (yX10_isWord, cX10_isWord, 2, (some .boolean)), (yX10_isPlace, cX10_isPlace, 2, (some .boolean)), (yX10_isTie, cX10_isTie, 2, (some .boolean))]
theorem cdA10 : ∀ q ∈ InfA10, Cond.code q.1 q.2.1 q.2.2.1 q.2.2.2 ∈ tg := List.forall_mem_cons.mpr ⟨cd160, List.forall_mem_cons.mpr ⟨cd161, List.forall_mem_cons.mpr ⟨cd162, List.forall_mem_cons.mpr ⟨cd163, List.forall_mem_cons.mpr ⟨cd164, List.forall_mem_cons.mpr ⟨cd165, List.forall_mem_cons.mpr ⟨cd166, List.forall_mem_cons.mpr ⟨cd167, List.forall_mem_cons.mpr ⟨cd168, List.forall_mem_cons.mpr ⟨cd169, List.forall_mem_cons.mpr ⟨cd170, List.forall_mem_cons.mpr ⟨cd171, List.forall_mem_cons.mpr ⟨cd172, List.forall_mem_cons.mpr ⟨cd173, List.forall_mem_cons.mpr ⟨cd174, List.forall_mem_cons.mpr ⟨cd175, fun _ h => absurd h List.not_mem_nil⟩⟩⟩⟩⟩⟩⟩⟩⟩⟩⟩⟩⟩⟩⟩⟩
def InfA11 : List pInf := [(yX10_isHearer, cX10_isHearer, 2, (some .boolean)), (yX10_traits, cX10_traits, 3, (some .int)), (yX10_notion, cX10_notion, 2, (some .int)), (yX10_weigh, cX10_weigh, 4, (some .int)), (yX10_traitsOf, cX10_traitsOf, 5, (some .int)), (yX10_had, cX10_had, 4, (some .int)), (yX10_lackAt, cX10_lackAt, 3, (some .int)), (yX10_addAt, cX10_addAt, 3, (some .int)), (yX10_lostAt, cX10_lostAt, 4, (some .int)), (yX10_lostAll, cX10_lostAll, 4, (some .int)), (yX10_put, cX10_put, 6, none), (yX10_choose, cX10_choose, 6, (some .int)), (yX10_leave, cX10_leave, 3, (some .int)), (yX10_choice, cX10_choice, 3, (some .int)), (yX10_bears, cX10_bears, 3, (some .int)), (yX10_bits, cX10_bits, 3, (some .int))]
theorem cdA11 : ∀ q ∈ InfA11, Cond.code q.1 q.2.1 q.2.2.1 q.2.2.2 ∈ tg := List.forall_mem_cons.mpr ⟨cd176, List.forall_mem_cons.mpr ⟨cd177, List.forall_mem_cons.mpr ⟨cd178, List.forall_mem_cons.mpr ⟨cd179, List.forall_mem_cons.mpr ⟨cd180, List.forall_mem_cons.mpr ⟨cd181, List.forall_mem_cons.mpr ⟨cd182, List.forall_mem_cons.mpr ⟨cd183, List.forall_mem_cons.mpr ⟨cd184, List.forall_mem_cons.mpr ⟨cd185, List.forall_mem_cons.mpr ⟨cd186, List.forall_mem_cons.mpr ⟨cd187, List.forall_mem_cons.mpr ⟨cd188, List.forall_mem_cons.mpr ⟨cd189, List.forall_mem_cons.mpr ⟨cd190, List.forall_mem_cons.mpr ⟨cd191, fun _ h => absurd h List.not_mem_nil⟩⟩⟩⟩⟩⟩⟩⟩⟩⟩⟩⟩⟩⟩⟩⟩
def InfA12 : List pInf := [(yX10_notedAll, cX10_notedAll, 3, (some .int)), (yX10_note, cX10_note, 4, (some .int)), (yX10_lost, cX10_lost, 1, (some .int)), (yX10_isClash, cX10_isClash, 4, (some .boolean)), (yX10_clashes, cX10_clashes, 3, (some .int)), (yX10_bound, cX10_bound, 5, (some .int)), (yX10_putBy, cX10_putBy, 3, none), (yX10_isFree, cX10_isFree, 3, (some .boolean)), (yX10_best, cX10_best, 8, (some .int)), (yX10_layRow, cX10_layRow, 6, (some .int)), (yX10_costs, cX10_costs, 1, (some .int)), (yX10_exchange, cX10_exchange, 12, (some .int)), (yX10_plainAt, cX10_plainAt, 3, (some .int)), (yX10_plainSum, cX10_plainSum, 5, (some .int)), (yX10_oneOf, cX10_oneOf, 4, (some .int)), (yX10_one, cX10_one, 2, (some .int))]
theorem cdA12 : ∀ q ∈ InfA12, Cond.code q.1 q.2.1 q.2.2.1 q.2.2.2 ∈ tg := List.forall_mem_cons.mpr ⟨cd192, List.forall_mem_cons.mpr ⟨cd193, List.forall_mem_cons.mpr ⟨cd194, List.forall_mem_cons.mpr ⟨cd195, List.forall_mem_cons.mpr ⟨cd196, List.forall_mem_cons.mpr ⟨cd197, List.forall_mem_cons.mpr ⟨cd198, List.forall_mem_cons.mpr ⟨cd199, List.forall_mem_cons.mpr ⟨cd200, List.forall_mem_cons.mpr ⟨cd201, List.forall_mem_cons.mpr ⟨cd202, List.forall_mem_cons.mpr ⟨cd203, List.forall_mem_cons.mpr ⟨cd204, List.forall_mem_cons.mpr ⟨cd205, List.forall_mem_cons.mpr ⟨cd206, List.forall_mem_cons.mpr ⟨cd207, fun _ h => absurd h List.not_mem_nil⟩⟩⟩⟩⟩⟩⟩⟩⟩⟩⟩⟩⟩⟩⟩⟩
def InfA13 : List pInf := [(yX10_price, cX10_price, 7, (some .int)), (yX10_swap, cX10_swap, 4, (some .int)), (yX10_mend, cX10_mend, 8, (some .int)), (yX10_heardBy, cX10_heardBy, 3, (some .int)), (yX10_backOf, cX10_backOf, 6, (some .int)), (yX10_isLaugh, cX10_isLaugh, 3, (some .boolean)), (yX10_isAsked, cX10_isAsked, 3, (some .boolean)), (yX10_hears, cX10_hears, 3, (some .int)), (yX10_back, cX10_back, 3, (some .int)), (yX10_laughs, cX10_laughs, 3, (some .int)), (yX10_hitsOf, cX10_hitsOf, 4, (some .int)), (yX10_hits, cX10_hits, 2, (some .int)), (yX10_on, cX10_on, 9, (some .int)), (yX10_store, cX10_store, 4, none), (yX10_load, cX10_load, 4, none), (yX10_isSlot, cX10_isSlot, 1, (some .boolean))]
theorem cdA13 : ∀ q ∈ InfA13, Cond.code q.1 q.2.1 q.2.2.1 q.2.2.2 ∈ tg := List.forall_mem_cons.mpr ⟨cd208, List.forall_mem_cons.mpr ⟨cd209, List.forall_mem_cons.mpr ⟨cd210, List.forall_mem_cons.mpr ⟨cd211, List.forall_mem_cons.mpr ⟨cd212, List.forall_mem_cons.mpr ⟨cd213, List.forall_mem_cons.mpr ⟨cd214, List.forall_mem_cons.mpr ⟨cd215, List.forall_mem_cons.mpr ⟨cd216, List.forall_mem_cons.mpr ⟨cd217, List.forall_mem_cons.mpr ⟨cd218, List.forall_mem_cons.mpr ⟨cd219, List.forall_mem_cons.mpr ⟨cd220, List.forall_mem_cons.mpr ⟨cd221, List.forall_mem_cons.mpr ⟨cd222, List.forall_mem_cons.mpr ⟨cd223, fun _ h => absurd h List.not_mem_nil⟩⟩⟩⟩⟩⟩⟩⟩⟩⟩⟩⟩⟩⟩⟩⟩
def InfA14 : List pInf := [(yX10_keep, cX10_keep, 2, (some .int)), (yX10_take, cX10_take, 2, (some .int)), (yX10_nearer, cX10_nearer, 8, (some .int)), (yX10_cellOf, cX10_cellOf, 3, (some .int)), (yX10_gives, cX10_gives, 6, (some .int)), (yX10_agree, cX10_agree, 9, (some .int)), (yX10_moves, cX10_moves, 5, (some .int)), (yX10_lostIn, cX10_lostIn, 2, (some .int)), (yX10_turned, cX10_turned, 4, (some .int)), (yX10_until, cX10_until, 4, (some .int)), (yX10_heard, cX10_heard, 5, (some .int)), (yX10_right, cX10_right, 6, (some .int)), (yX10_setOf, cX10_setOf, 3, (some .int)), (yX10_makeFits, cX10_makeFits, 9, (some .int)), (yX10_fit, cX10_fit, 3, (some .int)), (yX10_surely, cX10_surely, 7, (some .int))]
theorem cdA14 : ∀ q ∈ InfA14, Cond.code q.1 q.2.1 q.2.2.1 q.2.2.2 ∈ tg := List.forall_mem_cons.mpr ⟨cd224, List.forall_mem_cons.mpr ⟨cd225, List.forall_mem_cons.mpr ⟨cd226, List.forall_mem_cons.mpr ⟨cd227, List.forall_mem_cons.mpr ⟨cd228, List.forall_mem_cons.mpr ⟨cd229, List.forall_mem_cons.mpr ⟨cd230, List.forall_mem_cons.mpr ⟨cd231, List.forall_mem_cons.mpr ⟨cd232, List.forall_mem_cons.mpr ⟨cd233, List.forall_mem_cons.mpr ⟨cd234, List.forall_mem_cons.mpr ⟨cd235, List.forall_mem_cons.mpr ⟨cd236, List.forall_mem_cons.mpr ⟨cd237, List.forall_mem_cons.mpr ⟨cd238, List.forall_mem_cons.mpr ⟨cd239, fun _ h => absurd h List.not_mem_nil⟩⟩⟩⟩⟩⟩⟩⟩⟩⟩⟩⟩⟩⟩⟩⟩
def InfA15 : List pInf := [(yX10_next, cX10_next, 8, (some .int)), (yX10_count, cX10_count, 4, (some .int)), (yJ6_bitCount_0f7a4, cJ6_bitCount_0f7a4, 1, (some .int)), (yJ7_fill_53178, cJ7_fill_53178, 4, none), (yJ7_fill_031fb, cJ7_fill_031fb, 4, none)]
theorem cdA15 : ∀ q ∈ InfA15, Cond.code q.1 q.2.1 q.2.2.1 q.2.2.2 ∈ tg := List.forall_mem_cons.mpr ⟨cd240, List.forall_mem_cons.mpr ⟨cd241, List.forall_mem_cons.mpr ⟨cd242, List.forall_mem_cons.mpr ⟨cd243, List.forall_mem_cons.mpr ⟨cd244, fun _ h => absurd h List.not_mem_nil⟩⟩⟩⟩⟩
set_option maxRecDepth 100000 in
theorem Inf_eq : Inf = (InfA0 ++ (InfA1 ++ (InfA2 ++ (InfA3 ++ (InfA4 ++ (InfA5 ++ (InfA6 ++ (InfA7 ++ (InfA8 ++ (InfA9 ++ (InfA10 ++ (InfA11 ++ (InfA12 ++ (InfA13 ++ (InfA14 ++ InfA15))))))))))))))) := rfl
theorem cd_all : ∀ q ∈ Inf, Cond.code q.1 q.2.1 q.2.2.1 q.2.2.2 ∈ tg := by
  rw [Inf_eq]
  exact (fun q h => (List.mem_append.mp h).elim (cdA0 q) ((fun q h => (List.mem_append.mp h).elim (cdA1 q) ((fun q h => (List.mem_append.mp h).elim (cdA2 q) ((fun q h => (List.mem_append.mp h).elim (cdA3 q) ((fun q h => (List.mem_append.mp h).elim (cdA4 q) ((fun q h => (List.mem_append.mp h).elim (cdA5 q) ((fun q h => (List.mem_append.mp h).elim (cdA6 q) ((fun q h => (List.mem_append.mp h).elim (cdA7 q) ((fun q h => (List.mem_append.mp h).elim (cdA8 q) ((fun q h => (List.mem_append.mp h).elim (cdA9 q) ((fun q h => (List.mem_append.mp h).elim (cdA10 q) ((fun q h => (List.mem_append.mp h).elim (cdA11 q) ((fun q h => (List.mem_append.mp h).elim (cdA12 q) ((fun q h => (List.mem_append.mp h).elim (cdA13 q) ((fun q h => (List.mem_append.mp h).elim (cdA14 q) (cdA15 q)) q)) q)) q)) q)) q)) q)) q)) q)) q)) q)) q)) q)) q)) q))
theorem ml_in {oc i a : Nat} (h : (oc, i, a) ∈ mlN) {y : MethodName} {r : ByteArray × Nat × Option FieldType} (hI : Inf[a]? = some (y, r)) : Cond.methodLink (cn oc) i y ∈ tg := by
  obtain ⟨q, h1, h2⟩ := List.mem_map.mp h
  have h3 := List.all_eq_true.mp mlOk q h1
  obtain ⟨q1, q2, q3, q4⟩ := q
  simp only [Prod.mk.injEq] at h2
  obtain ⟨rfl, rfl, rfl⟩ := h2
  unfold mlC at h3
  dsimp only at h3
  rw [hI] at h3
  exact hasW_in h3
theorem fl_in {oc i a b : Nat} (h : (oc, i, a, b) ∈ flN) : ∃ (C : String) (T : u_T) (N : Nat), vwCl[a]? = some (C, T, N) ∧ b < N ∧ Cond.fieldLink (cn oc) i (T b).1 (T b).2.1 (T b).2.2.1 ∈ tg := by
  obtain ⟨q, h1, h2⟩ := List.mem_map.mp h
  have h3 := List.all_eq_true.mp flOk q h1
  obtain ⟨q1, q2, q3, q4, q5⟩ := q
  simp only [Prod.mk.injEq] at h2
  obtain ⟨rfl, rfl, rfl, rfl⟩ := h2
  unfold flC at h3
  dsimp only at h3
  split at h3
  · next C T N hv =>
    rw [Bool.and_eq_true] at h3
    exact ⟨C, T, N, hv, of_decide_eq_true h3.1, hasW_in h3.2⟩
  · cases h3
theorem kc_in {oc i : Nat} {z : Int32} (h : (oc, i, z) ∈ kcN) : Cond.constant (cn oc) i z ∈ tg := by
  obtain ⟨q, h1, h2⟩ := List.mem_map.mp h
  have h3 := List.all_eq_true.mp kcOk q h1
  obtain ⟨q1, q2, q3, q4⟩ := q
  simp only [Prod.mk.injEq] at h2
  obtain ⟨rfl, rfl, rfl⟩ := h2
  exact hasW_in h3
theorem kl_in {oc i a : Nat} (h : (oc, i, a) ∈ klN) : Cond.constantLong (cn oc) i (lN a) ∈ tg := by
  obtain ⟨q, h1, h2⟩ := List.mem_map.mp h
  have h3 := List.all_eq_true.mp klOk q h1
  obtain ⟨q1, q2, q3, q4⟩ := q
  simp only [Prod.mk.injEq] at h2
  obtain ⟨rfl, rfl, rfl⟩ := h2
  exact hasW_in h3
theorem cp_in {oc i b : Nat} (h : (oc, i, b) ∈ cpN) : Cond.methodLink (cn oc) i (pPn b) ∈ tg := by
  obtain ⟨q, h1, h2⟩ := List.mem_map.mp h
  have h3 := List.all_eq_true.mp cpOk q h1
  obtain ⟨q1, q2, q3, q4⟩ := q
  simp only [Prod.mk.injEq] at h2
  obtain ⟨rfl, rfl, rfl⟩ := h2
  exact hasW_in h3
theorem mi_inf {a : Nat} {q : Bool × Nat × Nat × Nat × Nat × Nat} (ha : miT[a]? = some q) : ∃ (y : MethodName) (bytes : ByteArray) (maxL : Nat) (ret : Option FieldType), Inf[a]? = some (y, bytes, maxL, ret) ∧ (y.cls ≠ "java/lang/invoke/MethodHandle" ∧ y.cls ≠ "java/lang/invoke/VarHandle") ∧ (parseMethodDescriptor y.desc).map (fun d => d.parameters.length) = some q.2.1 ∧ Cond.initialized y.cls ∈ tg ∧ plainName y.cls = true ∧ maxL ≤ 40 ∧ Cond.code y bytes maxL ret ∈ tg ∧
    (q.1 = true → Cond.static y ∈ tg ∧ q.2.1 ≤ maxL) ∧ (q.1 = false → Cond.instanceMethod y ∈ tg ∧ Cond.selects y.cls y y ∈ tg ∧ q.2.1 + 1 ≤ maxL ∧ q.2.2.1 ≠ 0 ∧ ∃ c, vwCl[q.2.2.1 - 1]? = some c ∧ c.1 = y.cls) := by
  have h := mi_all ha
  unfold miC at h
  dsimp only at h
  split at h
  · next y bytes maxL ret hI =>
    simp only [Bool.and_eq_true, decide_eq_true_eq] at h
    obtain ⟨⟨⟨⟨⟨⟨h1, h2⟩, h3⟩, h4⟩, h5⟩, h6⟩, h7⟩ := h
    refine ⟨y, bytes, maxL, ret, hI, ⟨h1, h2⟩, h3, hasW_in h4, h5, h6, cd_all _ (List.mem_of_getElem? hI), fun hs => ?_, fun hs => ?_⟩
    · rw [hs] at h7
      simp only [if_true, Bool.and_eq_true, decide_eq_true_eq] at h7
      exact ⟨hasW_in h7.1, h7.2⟩
    · rw [hs] at h7
      simp only [Bool.false_eq_true, if_false, Bool.and_eq_true, decide_eq_true_eq] at h7
      obtain ⟨⟨⟨⟨g1, g2⟩, g3⟩, g4⟩, g5⟩ := h7
      refine ⟨hasW_in g1, hasW_in g2, g3, g4, ?_⟩
      split at g5
      · next c hc => exact ⟨c, hc, of_decide_eq_true g5⟩
      · cases g5
  · cases h
set_option maxHeartbeats 4000000 in
theorem xchk_ok {oc maxL : Nat} {ret : Option FieldType} {pc : Nat} {x : pX} (h : xchk oc maxL ret pc x = true) : pXex (cn oc) tg maxL pc x ∧ pXcall Inf tg (cn oc) x ∧ pXret ret x ∧ pXsS (cn oc) x := by
  obtain ⟨ins, a, b, c, w, g, z⟩ := x
  cases ins with
  | ldc i =>
    unfold xchk at h
    dsimp only at h
    split at h
    · next hb => exact ⟨fun _ => kc_in (of_decide_eq_true h), trivial, trivial, fun q => absurd hb q⟩
    · next hb => exact ⟨fun q => absurd q hb, trivial, trivial, fun _ => ⟨oc, rfl, of_decide_eq_true h⟩⟩
  | ldc_w i => exact ⟨kc_in (of_decide_eq_true h), trivial, trivial, trivial⟩
  | ldc2_w i => exact ⟨kl_in (of_decide_eq_true h), trivial, trivial, trivial⟩
  | getfield i => exact ⟨fl_in (of_decide_eq_true h), trivial, trivial, trivial⟩
  | putfield i =>
    unfold xchk at h
    dsimp only at h
    rw [Bool.and_eq_true] at h
    obtain ⟨C, T, N, h1, h2, h3⟩ := fl_in (of_decide_eq_true h.1)
    have h4 := h.2
    rw [h1] at h4
    exact ⟨⟨C, T, N, h1, h2, h3, by simpa using h4⟩, trivial, trivial, trivial⟩
  | invokevirtual i =>
    unfold xchk at h
    dsimp only at h
    split at h
    · next hc => exact ⟨trivial, Or.inl hc, trivial, fun _ => ⟨oc, rfl, of_decide_eq_true h⟩⟩
    · next hc =>
      rw [Bool.and_eq_true] at h
      obtain ⟨h1, h2⟩ := h
      split at h2
      · next st np w' rest hm =>
        simp only [Bool.and_eq_true, decide_eq_true_eq, Bool.not_eq_true'] at h2
        obtain ⟨⟨hs, hb⟩, hw⟩ := h2
        obtain ⟨y, bytes, maxL', ret', hI, g1, g2, g3, g4, g5, g6, -, g8⟩ := mi_inf hm
        obtain ⟨k1, k2, k3, k4, k5⟩ := g8 hs
        subst hb
        subst hw
        exact ⟨trivial, Or.inr ⟨y, bytes, maxL', ret', np, hI, ml_in (of_decide_eq_true h1) hI, k1, k2, g3, g6, g1, g2, rfl, k4, k5, k3, g5⟩, trivial, fun q => absurd q hc⟩
      · cases h2
  | invokestatic i =>
    unfold xchk at h
    dsimp only at h
    split at h
    · next hc => exact ⟨fun _ => cp_in (of_decide_eq_true h), Or.inl hc, trivial, trivial⟩
    · next hc =>
      rw [Bool.and_eq_true] at h
      obtain ⟨h1, h2⟩ := h
      split at h2
      · next st np w' rest hm =>
        simp only [Bool.and_eq_true, decide_eq_true_eq] at h2
        obtain ⟨hs, hb⟩ := h2
        obtain ⟨y, bytes, maxL', ret', hI, g1, g2, g3, g4, g5, g6, g7, -⟩ := mi_inf hm
        obtain ⟨k1, k3⟩ := g7 hs
        subst hb
        exact ⟨fun q => absurd q hc, Or.inr ⟨y, bytes, maxL', ret', hI, ml_in (of_decide_eq_true h1) hI, k1, g3, g6, g1, g2, k3, g5⟩, trivial, trivial⟩
      · cases h2
  | ireturn =>
    unfold xchk at h
    dsimp only at h
    simp only [Bool.or_eq_true, Bool.and_eq_true, decide_eq_true_eq, beq_iff_eq] at h
    refine ⟨trivial, trivial, ⟨fun e => ?_, fun e => ?_, fun e => ?_⟩, trivial⟩ <;> (dsimp only at e; subst e; simpa using h)
  | areturn => exact ⟨trivial, trivial, ⟨_, of_decide_eq_true h, Or.inr ⟨_, rfl⟩⟩, trivial⟩
  | return_ =>
    unfold xchk at h
    simp only [decide_eq_true_eq] at h
    exact ⟨trivial, trivial, h, trivial⟩
  | tableswitch d lo hi offs =>
    unfold xchk at h
    simp only [Bool.and_eq_true, decide_eq_true_eq, List.all_eq_true] at h
    exact ⟨h, trivial, trivial, trivial⟩
  | lookupswitch d ps =>
    unfold xchk at h
    dsimp only at h
    rw [Bool.and_eq_true, Bool.and_eq_true] at h
    exact ⟨⟨h.1, of_decide_eq_true h.2.1, fun q hq => of_decide_eq_true (List.all_eq_true.mp h.2.2 q hq)⟩, trivial, trivial, trivial⟩
  | iinc n q =>
    unfold xchk at h
    simp only [Bool.and_eq_true, decide_eq_true_eq] at h
    exact ⟨h, trivial, trivial, trivial⟩
  | istore_n n =>
    unfold xchk at h
    simp only [Bool.and_eq_true, decide_eq_true_eq] at h
    exact ⟨h, trivial, trivial, trivial⟩
  | astore_n n =>
    unfold xchk at h
    simp only [Bool.and_eq_true, decide_eq_true_eq] at h
    exact ⟨h, trivial, trivial, trivial⟩
  | istore n =>
    unfold xchk at h
    simp only [Bool.and_eq_true, decide_eq_true_eq] at h
    exact ⟨h, trivial, trivial, trivial⟩
  | astore n =>
    unfold xchk at h
    simp only [Bool.and_eq_true, decide_eq_true_eq] at h
    exact ⟨h, trivial, trivial, trivial⟩
  | _ => first | exact ⟨trivial, trivial, trivial, trivial⟩ | (unfold xchk at h; simp only [decide_eq_true_eq] at h; exact ⟨h, trivial, trivial, trivial⟩)
end
section
def dchk (c : ByteArray) (q : Nat × pX) : Bool := decide (decode c q.1 = .ok (q.2.1, pLen q.2.1 q.2.2.2.1))
theorem pFind_mem {α : Type} {pc : Nat} {x : α} : ∀ {l : List (Nat × α)}, pFind pc l = some x → (pc, x) ∈ l
  | [], h => by cases h
  | q :: t, h => by
    unfold pFind at h
    split at h
    · next hb =>
      have := Nat.eq_of_beq_eq_true hb
      cases h
      subst this
      exact List.mem_cons_self
    · exact List.mem_cons_of_mem _ (pFind_mem h)
/-- a method, what is told of it, its class's number -/
def mOkP (q : pM × pInf × Nat) : Prop := q.2.1.1.cls = cn q.2.2 ∧ (q.1.1.all fun x => dchk q.2.1.2.1 x && xchk q.2.2 q.2.1.2.2.1 q.2.1.2.2.2 x.1 x.2) = true
theorem mok0 : mOkP (k0, (yX0_clear, cX0_clear, 1, none), 0) := ⟨rfl, by decide +kernel⟩
theorem mok1 : mOkP (k1, (yX0_copyFrom, cX0_copyFrom, 2, none), 0) := ⟨rfl, by decide +kernel⟩
theorem mok2 : mOkP (k2, (yX0_roomFor, cX0_roomFor, 1, (some .int)), 0) := ⟨rfl, by decide +kernel⟩
theorem mok3 : mOkP (k3, (yX0_has, cX0_has, 3, (some .boolean)), 0) := ⟨rfl, by decide +kernel⟩
theorem mok4 : mOkP (k4, (yX0_setting, cX0_setting, 2, (some .int)), 0) := ⟨rfl, by decide +kernel⟩
theorem mok5 : mOkP (k5, (yX0_allPlaces, cX0_allPlaces, 1, (some .int)), 0) := ⟨rfl, by decide +kernel⟩
theorem mok6 : mOkP (k6, (yX0_weigh, cX0_weigh, 4, none), 0) := ⟨rfl, by decide +kernel⟩
theorem mok7 : mOkP (k7, (yX0_sumGroups, cX0_sumGroups, 5, none), 0) := ⟨rfl, by decide +kernel⟩
theorem mok8 : mOkP (k8, (yX0_weightsOf, cX0_weightsOf, 3, (some .int)), 0) := ⟨rfl, by decide +kernel⟩
theorem mok9 : mOkP (k9, (yX0_traitsOfNotionAt, cX0_traitsOfNotionAt, 2, (some .int)), 0) := ⟨rfl, by decide +kernel⟩
theorem mok10 : mOkP (k10, (yX0_lacksOf, cX0_lacksOf, 3, (some .int)), 0) := ⟨rfl, by decide +kernel⟩
theorem mok11 : mOkP (k11, (yX0_addsOf, cX0_addsOf, 3, (some .int)), 0) := ⟨rfl, by decide +kernel⟩
theorem mok12 : mOkP (k12, (yX0_lostByTraits, cX0_lostByTraits, 4, (some .int)), 0) := ⟨rfl, by decide +kernel⟩
theorem mok13 : mOkP (k13, (yX0_wouldClash, cX0_wouldClash, 5, (some .boolean)), 0) := ⟨rfl, by decide +kernel⟩
theorem mok14 : mOkP (k14, (yX0_otherPlace, cX0_otherPlace, 3, (some .int)), 0) := ⟨rfl, by decide +kernel⟩
theorem mok15 : mOkP (k15, (yX0_boundBy, cX0_boundBy, 7, (some .int)), 0) := ⟨rfl, by decide +kernel⟩
theorem mok16 : mOkP (k16, (yX0_wordForAll, cX0_wordForAll, 4, (some .int)), 0) := ⟨rfl, by decide +kernel⟩
theorem mok17 : mOkP (k17, (yX0_toldBack, cX0_toldBack, 7, (some .int)), 0) := ⟨rfl, by decide +kernel⟩
theorem mok18 : mOkP (k18, (yX0_traitsSaidFor, cX0_traitsSaidFor, 6, (some .int)), 0) := ⟨rfl, by decide +kernel⟩
theorem mok19 : mOkP (k19, (yX1_clear, cX1_clear, 1, none), 1) := ⟨rfl, by decide +kernel⟩
theorem mok20 : mOkP (k20, (yX1_indexOf, cX1_indexOf, 3, (some .int)), 1) := ⟨rfl, by decide +kernel⟩
theorem mok21 : mOkP (k21, (yX1_put, cX1_put, 7, (some .int)), 1) := ⟨rfl, by decide +kernel⟩
theorem mok22 : mOkP (k22, (yX1_agreed, cX1_agreed, 7, (some .int)), 1) := ⟨rfl, by decide +kernel⟩
theorem mok23 : mOkP (k23, (yX1_costOf, cX1_costOf, 7, (some .int)), 1) := ⟨rfl, by decide +kernel⟩
theorem mok24 : mOkP (k24, (yX2_clear, cX2_clear, 1, none), 2) := ⟨rfl, by decide +kernel⟩
theorem mok25 : mOkP (k25, (yX2_mayTell, cX2_mayTell, 3, (some .boolean)), 2) := ⟨rfl, by decide +kernel⟩
theorem mok26 : mOkP (k26, (yX2_isFull, cX2_isFull, 1, (some .boolean)), 2) := ⟨rfl, by decide +kernel⟩
theorem mok27 : mOkP (k27, (yX2_isFullOfRights, cX2_isFullOfRights, 1, (some .boolean)), 2) := ⟨rfl, by decide +kernel⟩
theorem mok28 : mOkP (k28, (yX2_append, cX2_append, 6, (some .int)), 2) := ⟨rfl, by decide +kernel⟩
theorem mok29 : mOkP (k29, (yX2_putRight, cX2_putRight, 4, (some .int)), 2) := ⟨rfl, by decide +kernel⟩
theorem mok30 : mOkP (k30, (yX2_gather, cX2_gather, 6, (some .int)), 2) := ⟨rfl, by decide +kernel⟩
theorem mok31 : mOkP (k31, (yX2_fitsAll, cX2_fitsAll, 6, (some .boolean)), 2) := ⟨rfl, by decide +kernel⟩
theorem mok32 : mOkP (k32, (yX2_setsWith, cX2_setsWith, 4, (some .int)), 2) := ⟨rfl, by decide +kernel⟩
theorem mok33 : mOkP (k33, (yX2_setsWithin, cX2_setsWithin, 4, (some .int)), 2) := ⟨rfl, by decide +kernel⟩
theorem mok34 : mOkP (k34, (yX3_append, cX3_append, 3, none), 3) := ⟨rfl, by decide +kernel⟩
theorem mok35 : mOkP (k35, (yX3_find, cX3_find, 5, (some .int)), 3) := ⟨rfl, by decide +kernel⟩
theorem mok36 : mOkP (k36, (yX3_isSame, cX3_isSame, 5, (some .boolean)), 3) := ⟨rfl, by decide +kernel⟩
theorem mok37 : mOkP (k37, (yX4_read, cX4_read, 4, (some .int)), 4) := ⟨rfl, by decide +kernel⟩
theorem mok38 : mOkP (k38, (yX4_begin, cX4_begin, 2, none), 4) := ⟨rfl, by decide +kernel⟩
theorem mok39 : mOkP (k39, (yX4_advance, cX4_advance, 1, none), 4) := ⟨rfl, by decide +kernel⟩
theorem mok40 : mOkP (k40, (yX4_signOf, cX4_signOf, 1, (some .char)), 4) := ⟨rfl, by decide +kernel⟩
theorem mok41 : mOkP (k41, (yX4_refuse, cX4_refuse, 2, (some .boolean)), 4) := ⟨rfl, by decide +kernel⟩
theorem mok42 : mOkP (k42, (yX4_mayBegin, cX4_mayBegin, 2, (some .boolean)), 4) := ⟨rfl, by decide +kernel⟩
theorem mok43 : mOkP (k43, (yX4_readBody, cX4_readBody, 2, (some .boolean)), 4) := ⟨rfl, by decide +kernel⟩
theorem mok44 : mOkP (k44, (yX4_keyword, cX4_keyword, 1, (some .int)), 4) := ⟨rfl, by decide +kernel⟩
theorem mok45 : mOkP (k45, (yX4_isWord, cX4_isWord, 3, (some .boolean)), 4) := ⟨rfl, by decide +kernel⟩
theorem mok46 : mOkP (k46, (yX4_readSemicolon, cX4_readSemicolon, 1, (some .boolean)), 4) := ⟨rfl, by decide +kernel⟩
theorem mok47 : mOkP (k47, (yX4_readTraits, cX4_readTraits, 4, (some .boolean)), 4) := ⟨rfl, by decide +kernel⟩
theorem mok48 : mOkP (k48, (yX4_readPlace, cX4_readPlace, 3, (some .boolean)), 4) := ⟨rfl, by decide +kernel⟩
theorem mok49 : mOkP (k49, (yX4_readTie, cX4_readTie, 5, (some .boolean)), 4) := ⟨rfl, by decide +kernel⟩
theorem mok50 : mOkP (k50, (yX4_readHearer, cX4_readHearer, 3, (some .boolean)), 4) := ⟨rfl, by decide +kernel⟩
theorem mok51 : mOkP (k51, (yX4_readWeight, cX4_readWeight, 1, (some .boolean)), 4) := ⟨rfl, by decide +kernel⟩
theorem mok52 : mOkP (k52, (yX4_readSetting, cX4_readSetting, 2, (some .boolean)), 4) := ⟨rfl, by decide +kernel⟩
theorem mok53 : mOkP (k53, (yX4_readNewName, cX4_readNewName, 2, (some .boolean)), 4) := ⟨rfl, by decide +kernel⟩
theorem mok54 : mOkP (k54, (yX4_readSet, cX4_readSet, 3, (some .boolean)), 4) := ⟨rfl, by decide +kernel⟩
theorem mok55 : mOkP (k55, (yX4_readNumber, cX4_readNumber, 4, (some .boolean)), 4) := ⟨rfl, by decide +kernel⟩
theorem mok56 : mOkP (k56, (yX5_clear, cX5_clear, 1, none), 5) := ⟨rfl, by decide +kernel⟩
theorem mok57 : mOkP (k57, (yX5_copyFrom, cX5_copyFrom, 2, none), 5) := ⟨rfl, by decide +kernel⟩
theorem mok58 : mOkP (k58, (yX5_put, cX5_put, 6, none), 5) := ⟨rfl, by decide +kernel⟩
theorem mok59 : mOkP (k59, (yX5_isChosen, cX5_isChosen, 2, (some .boolean)), 5) := ⟨rfl, by decide +kernel⟩
theorem mok60 : mOkP (k60, (yX5_isBorrowed, cX5_isBorrowed, 2, (some .boolean)), 5) := ⟨rfl, by decide +kernel⟩
theorem mok61 : mOkP (k61, (yX5_chosen, cX5_chosen, 3, (some .int)), 5) := ⟨rfl, by decide +kernel⟩
theorem mok62 : mOkP (k62, (yX5_noted, cX5_noted, 3, (some .int)), 5) := ⟨rfl, by decide +kernel⟩
theorem mok63 : mOkP (k63, (yX5_traitsAt, cX5_traitsAt, 3, (some .int)), 5) := ⟨rfl, by decide +kernel⟩
theorem mok64 : mOkP (k64, (yX5_traitsOf, cX5_traitsOf, 2, (some .int)), 5) := ⟨rfl, by decide +kernel⟩
theorem mok65 : mOkP (k65, (yX5_lostAt, cX5_lostAt, 4, (some .int)), 5) := ⟨rfl, by decide +kernel⟩
theorem mok66 : mOkP (k66, (yX5_lostOfAll, cX5_lostOfAll, 4, (some .int)), 5) := ⟨rfl, by decide +kernel⟩
theorem mok67 : mOkP (k67, (yX5_clashBits, cX5_clashBits, 4, (some .int)), 5) := ⟨rfl, by decide +kernel⟩
theorem mok68 : mOkP (k68, (yX5_isClashing, cX5_isClashing, 6, (some .boolean)), 5) := ⟨rfl, by decide +kernel⟩
theorem mok69 : mOkP (k69, (yX5_clashesAt, cX5_clashesAt, 6, (some .int)), 5) := ⟨rfl, by decide +kernel⟩
theorem mok70 : mOkP (k70, (yX5_isBorrowedOption, cX5_isBorrowedOption, 2, (some .boolean)), 5) := ⟨rfl, by decide +kernel⟩
theorem mok71 : mOkP (k71, (yX5_traitsOfOption, cX5_traitsOfOption, 2, (some .int)), 5) := ⟨rfl, by decide +kernel⟩
theorem mok72 : mOkP (k72, (yX5_lostWithOption, cX5_lostWithOption, 3, (some .int)), 5) := ⟨rfl, by decide +kernel⟩
theorem mok73 : mOkP (k73, (yX5_putOption, cX5_putOption, 3, none), 5) := ⟨rfl, by decide +kernel⟩
theorem mok74 : mOkP (k74, (yX5_exchangeRound, cX5_exchangeRound, 3, (some .boolean)), 5) := ⟨rfl, by decide +kernel⟩
theorem mok75 : mOkP (k75, (yX5_exchangeAt, cX5_exchangeAt, 6, (some .boolean)), 5) := ⟨rfl, by decide +kernel⟩
theorem mok76 : mOkP (k76, (yX5_lostWithWord, cX5_lostWithWord, 5, (some .int)), 5) := ⟨rfl, by decide +kernel⟩
theorem mok77 : mOkP (k77, (yX5_lostWithLeast, cX5_lostWithLeast, 6, (some .int)), 5) := ⟨rfl, by decide +kernel⟩
theorem mok78 : mOkP (k78, (yX5_oneWord, cX5_oneWord, 6, (some .int)), 5) := ⟨rfl, by decide +kernel⟩
theorem mok79 : mOkP (k79, (yX5_mendOnce, cX5_mendOnce, 7, (some .boolean)), 5) := ⟨rfl, by decide +kernel⟩
theorem mok80 : mOkP (k80, (yX5_untoldLacks, cX5_untoldLacks, 2, (some .int)), 5) := ⟨rfl, by decide +kernel⟩
theorem mok81 : mOkP (k81, (yX5_heardAt, cX5_heardAt, 3, (some .int)), 5) := ⟨rfl, by decide +kernel⟩
theorem mok82 : mOkP (k82, (yX5_rightOf, cX5_rightOf, 4, (some .int)), 5) := ⟨rfl, by decide +kernel⟩
theorem mok83 : mOkP (k83, (yX6_putBest, cX6_putBest, 4, (some .boolean)), 6) := ⟨rfl, by decide +kernel⟩
theorem mok84 : mOkP (k84, (yX6_begin, cX6_begin, 5, none), 6) := ⟨rfl, by decide +kernel⟩
theorem mok85 : mOkP (k85, (yX6_levelOf, cX6_levelOf, 3, (some .int)), 6) := ⟨rfl, by decide +kernel⟩
theorem mok86 : mOkP (k86, (yX6_obeyTie, cX6_obeyTie, 5, none), 6) := ⟨rfl, by decide +kernel⟩
theorem mok87 : mOkP (k87, (yX6_obeyInside, cX6_obeyInside, 10, none), 6) := ⟨rfl, by decide +kernel⟩
theorem mok88 : mOkP (k88, (yX6_obeyOutside, cX6_obeyOutside, 5, none), 6) := ⟨rfl, by decide +kernel⟩
theorem mok89 : mOkP (k89, (yX6_settle, cX6_settle, 5, none), 6) := ⟨rfl, by decide +kernel⟩
theorem mok90 : mOkP (k90, (yX6_narrow, cX6_narrow, 6, (some .int)), 6) := ⟨rfl, by decide +kernel⟩
theorem mok91 : mOkP (k91, (yX6_leastOf, cX6_leastOf, 5, (some .int)), 6) := ⟨rfl, by decide +kernel⟩
theorem mok92 : mOkP (k92, (yX7_hasRoom, cX7_hasRoom, 1, (some .boolean)), 7) := ⟨rfl, by decide +kernel⟩
theorem mok93 : mOkP (k93, (yX7_append, cX7_append, 3, none), 7) := ⟨rfl, by decide +kernel⟩
theorem mok94 : mOkP (k94, (yX8_clear, cX8_clear, 1, none), 8) := ⟨rfl, by decide +kernel⟩
theorem mok95 : mOkP (k95, (yX8_isFull, cX8_isFull, 1, (some .boolean)), 8) := ⟨rfl, by decide +kernel⟩
theorem mok96 : mOkP (k96, (yX8_latestOf, cX8_latestOf, 4, (some .int)), 8) := ⟨rfl, by decide +kernel⟩
theorem mok97 : mOkP (k97, (yX8_append, cX8_append, 4, (some .int)), 8) := ⟨rfl, by decide +kernel⟩
theorem mok98 : mOkP (k98, (yX8_wordsIn, cX8_wordsIn, 3, (some (.array .int))), 8) := ⟨rfl, by decide +kernel⟩
theorem mok99 : mOkP (k99, (yX8_turns, cX8_turns, 7, (some .int)), 8) := ⟨rfl, by decide +kernel⟩
theorem mok100 : mOkP (k100, (yX8_firstAbove, cX8_firstAbove, 6, (some .int)), 8) := ⟨rfl, by decide +kernel⟩
theorem mok101 : mOkP (k101, (yX9_feed, cX9_feed, 6, (some .int)), 9) := ⟨rfl, by decide +kernel⟩
theorem mok102 : mOkP (k102, (yX9_end, cX9_end, 2, (some .int)), 9) := ⟨rfl, by decide +kernel⟩
theorem mok103 : mOkP (k103, (yX9_book, cX9_book, 3, (some .int)), 9) := ⟨rfl, by decide +kernel⟩
theorem mok104 : mOkP (k104, (yX9_fault, cX9_fault, 2, (some .int)), 9) := ⟨rfl, by decide +kernel⟩
theorem mok105 : mOkP (k105, (yX9_told, cX9_told, 2, (some .int)), 9) := ⟨rfl, by decide +kernel⟩
theorem mok106 : mOkP (k106, (yX9_traits, cX9_traits, 3, (some .int)), 9) := ⟨rfl, by decide +kernel⟩
theorem mok107 : mOkP (k107, (yX9_notion, cX9_notion, 2, (some .int)), 9) := ⟨rfl, by decide +kernel⟩
theorem mok108 : mOkP (k108, (yX9_choose, cX9_choose, 6, (some .int)), 9) := ⟨rfl, by decide +kernel⟩
theorem mok109 : mOkP (k109, (yX9_wordsAreFit, cX9_wordsAreFit, 5, (some .boolean)), 9) := ⟨rfl, by decide +kernel⟩
theorem mok110 : mOkP (k110, (yX9_leave, cX9_leave, 2, (some .int)), 9) := ⟨rfl, by decide +kernel⟩
theorem mok111 : mOkP (k111, (yX9_choice, cX9_choice, 3, (some .int)), 9) := ⟨rfl, by decide +kernel⟩
theorem mok112 : mOkP (k112, (yX9_bears, cX9_bears, 4, (some .int)), 9) := ⟨rfl, by decide +kernel⟩
theorem mok113 : mOkP (k113, (yX9_note, cX9_note, 4, (some .int)), 9) := ⟨rfl, by decide +kernel⟩
theorem mok114 : mOkP (k114, (yX9_lost, cX9_lost, 1, (some .int)), 9) := ⟨rfl, by decide +kernel⟩
theorem mok115 : mOkP (k115, (yX9_clashes, cX9_clashes, 1, (some .int)), 9) := ⟨rfl, by decide +kernel⟩
theorem mok116 : mOkP (k116, (yX9_bound, cX9_bound, 2, (some .int)), 9) := ⟨rfl, by decide +kernel⟩
theorem mok117 : mOkP (k117, (yX9_best, cX9_best, 3, (some .int)), 9) := ⟨rfl, by decide +kernel⟩
theorem mok118 : mOkP (k118, (yX9_exchange, cX9_exchange, 3, (some .int)), 9) := ⟨rfl, by decide +kernel⟩
theorem mok119 : mOkP (k119, (yX9_one, cX9_one, 2, (some .int)), 9) := ⟨rfl, by decide +kernel⟩
theorem mok120 : mOkP (k120, (yX9_price, cX9_price, 3, (some .int)), 9) := ⟨rfl, by decide +kernel⟩
theorem mok121 : mOkP (k121, (yX9_swap, cX9_swap, 2, (some .int)), 9) := ⟨rfl, by decide +kernel⟩
theorem mok122 : mOkP (k122, (yX9_mend, cX9_mend, 4, (some .int)), 9) := ⟨rfl, by decide +kernel⟩
theorem mok123 : mOkP (k123, (yX9_whyNotHeard, cX9_whyNotHeard, 3, (some .int)), 9) := ⟨rfl, by decide +kernel⟩
theorem mok124 : mOkP (k124, (yX9_hears, cX9_hears, 4, (some .int)), 9) := ⟨rfl, by decide +kernel⟩
theorem mok125 : mOkP (k125, (yX9_back, cX9_back, 4, (some .int)), 9) := ⟨rfl, by decide +kernel⟩
theorem mok126 : mOkP (k126, (yX9_laughs, cX9_laughs, 5, (some .int)), 9) := ⟨rfl, by decide +kernel⟩
theorem mok127 : mOkP (k127, (yX9_hits, cX9_hits, 2, (some .int)), 9) := ⟨rfl, by decide +kernel⟩
theorem mok128 : mOkP (k128, (yX9_on, cX9_on, 6, (some .int)), 9) := ⟨rfl, by decide +kernel⟩
theorem mok129 : mOkP (k129, (yX9_keep, cX9_keep, 2, (some .int)), 9) := ⟨rfl, by decide +kernel⟩
theorem mok130 : mOkP (k130, (yX9_take, cX9_take, 2, (some .int)), 9) := ⟨rfl, by decide +kernel⟩
theorem mok131 : mOkP (k131, (yX9_nearer, cX9_nearer, 5, (some .int)), 9) := ⟨rfl, by decide +kernel⟩
theorem mok132 : mOkP (k132, (yX9_gives, cX9_gives, 5, (some .int)), 9) := ⟨rfl, by decide +kernel⟩
theorem mok133 : mOkP (k133, (yX9_agree, cX9_agree, 2, (some .int)), 9) := ⟨rfl, by decide +kernel⟩
theorem mok134 : mOkP (k134, (yX9_moves, cX9_moves, 4, (some .int)), 9) := ⟨rfl, by decide +kernel⟩
theorem mok135 : mOkP (k135, (yX9_lostIn, cX9_lostIn, 2, (some .int)), 9) := ⟨rfl, by decide +kernel⟩
theorem mok136 : mOkP (k136, (yX9_turned, cX9_turned, 2, (some .int)), 9) := ⟨rfl, by decide +kernel⟩
theorem mok137 : mOkP (k137, (yX9_until, cX9_until, 2, (some .int)), 9) := ⟨rfl, by decide +kernel⟩
theorem mok138 : mOkP (k138, (yX9_isYear, cX9_isYear, 1, (some .boolean)), 9) := ⟨rfl, by decide +kernel⟩
theorem mok139 : mOkP (k139, (yX9_heard, cX9_heard, 5, (some .int)), 9) := ⟨rfl, by decide +kernel⟩
theorem mok140 : mOkP (k140, (yX9_right, cX9_right, 4, (some .int)), 9) := ⟨rfl, by decide +kernel⟩
theorem mok141 : mOkP (k141, (yX9_fit, cX9_fit, 3, (some .int)), 9) := ⟨rfl, by decide +kernel⟩
theorem mok142 : mOkP (k142, (yX9_surely, cX9_surely, 6, (some .int)), 9) := ⟨rfl, by decide +kernel⟩
theorem mok143 : mOkP (k143, (yX9_next, cX9_next, 8, (some .int)), 9) := ⟨rfl, by decide +kernel⟩
theorem mok144 : mOkP (k144, (yX9_isStep, cX9_isStep, 1, (some .boolean)), 9) := ⟨rfl, by decide +kernel⟩
theorem mok145 : mOkP (k145, (yX9_count, cX9_count, 2, (some .int)), 9) := ⟨rfl, by decide +kernel⟩
theorem mok146 : mOkP (k146, (yX10_in, cX10_in, 3, (some .boolean)), 10) := ⟨rfl, by decide +kernel⟩
theorem mok147 : mOkP (k147, (yX10_feed, cX10_feed, 9, (some .int)), 10) := ⟨rfl, by decide +kernel⟩
theorem mok148 : mOkP (k148, (yX10_end, cX10_end, 2, (some .int)), 10) := ⟨rfl, by decide +kernel⟩
theorem mok149 : mOkP (k149, (yX10_see, cX10_see, 2, (some .int)), 10) := ⟨rfl, by decide +kernel⟩
theorem mok150 : mOkP (k150, (yX10_isSmall, cX10_isSmall, 1, (some .boolean)), 10) := ⟨rfl, by decide +kernel⟩
theorem mok151 : mOkP (k151, (yX10_isDigit, cX10_isDigit, 1, (some .boolean)), 10) := ⟨rfl, by decide +kernel⟩
theorem mok152 : mOkP (k152, (yX10_keyAt, cX10_keyAt, 8, (some .int)), 10) := ⟨rfl, by decide +kernel⟩
theorem mok153 : mOkP (k153, (yX10_scan, cX10_scan, 4, none), 10) := ⟨rfl, by decide +kernel⟩
theorem mok154 : mOkP (k154, (yX10_fails, cX10_fails, 2, (some .boolean)), 10) := ⟨rfl, by decide +kernel⟩
theorem mok155 : mOkP (k155, (yX10_readNumber, cX10_readNumber, 3, (some .boolean)), 10) := ⟨rfl, by decide +kernel⟩
theorem mok156 : mOkP (k156, (yX10_setHere, cX10_setHere, 3, (some .int)), 10) := ⟨rfl, by decide +kernel⟩
theorem mok157 : mOkP (k157, (yX10_readSet, cX10_readSet, 2, (some .boolean)), 10) := ⟨rfl, by decide +kernel⟩
theorem mok158 : mOkP (k158, (yX10_fault, cX10_fault, 2, (some .int)), 10) := ⟨rfl, by decide +kernel⟩
theorem mok159 : mOkP (k159, (yX10_begin, cX10_begin, 2, none), 10) := ⟨rfl, by decide +kernel⟩
theorem mok160 : mOkP (k160, (yX10_comes, cX10_comes, 3, none), 10) := ⟨rfl, by decide +kernel⟩
theorem mok161 : mOkP (k161, (yX10_settle, cX10_settle, 2, none), 10) := ⟨rfl, by decide +kernel⟩
theorem mok162 : mOkP (k162, (yX10_named, cX10_named, 4, (some .int)), 10) := ⟨rfl, by decide +kernel⟩
theorem mok163 : mOkP (k163, (yX10_readName, cX10_readName, 5, (some .boolean)), 10) := ⟨rfl, by decide +kernel⟩
theorem mok164 : mOkP (k164, (yX10_readPlace, cX10_readPlace, 4, (some .boolean)), 10) := ⟨rfl, by decide +kernel⟩
theorem mok165 : mOkP (k165, (yX10_readTie, cX10_readTie, 3, (some .boolean)), 10) := ⟨rfl, by decide +kernel⟩
theorem mok166 : mOkP (k166, (yX10_readHearer, cX10_readHearer, 2, (some .boolean)), 10) := ⟨rfl, by decide +kernel⟩
theorem mok167 : mOkP (k167, (yX10_readWeight, cX10_readWeight, 3, (some .boolean)), 10) := ⟨rfl, by decide +kernel⟩
theorem mok168 : mOkP (k168, (yX10_readTold, cX10_readTold, 3, (some .boolean)), 10) := ⟨rfl, by decide +kernel⟩
theorem mok169 : mOkP (k169, (yX10_readClause, cX10_readClause, 3, (some .boolean)), 10) := ⟨rfl, by decide +kernel⟩
theorem mok170 : mOkP (k170, (yX10_book, cX10_book, 2, (some .int)), 10) := ⟨rfl, by decide +kernel⟩
theorem mok171 : mOkP (k171, (yX10_told, cX10_told, 2, (some .int)), 10) := ⟨rfl, by decide +kernel⟩
theorem mok172 : mOkP (k172, (yX10_isNotion, cX10_isNotion, 2, (some .boolean)), 10) := ⟨rfl, by decide +kernel⟩
theorem mok173 : mOkP (k173, (yX10_isWord, cX10_isWord, 2, (some .boolean)), 10) := ⟨rfl, by decide +kernel⟩
theorem mok174 : mOkP (k174, (yX10_isPlace, cX10_isPlace, 2, (some .boolean)), 10) := ⟨rfl, by decide +kernel⟩
theorem mok175 : mOkP (k175, (yX10_isTie, cX10_isTie, 2, (some .boolean)), 10) := ⟨rfl, by decide +kernel⟩
theorem mok176 : mOkP (k176, (yX10_isHearer, cX10_isHearer, 2, (some .boolean)), 10) := ⟨rfl, by decide +kernel⟩
theorem mok177 : mOkP (k177, (yX10_traits, cX10_traits, 3, (some .int)), 10) := ⟨rfl, by decide +kernel⟩
theorem mok178 : mOkP (k178, (yX10_notion, cX10_notion, 2, (some .int)), 10) := ⟨rfl, by decide +kernel⟩
theorem mok179 : mOkP (k179, (yX10_weigh, cX10_weigh, 4, (some .int)), 10) := ⟨rfl, by decide +kernel⟩
theorem mok180 : mOkP (k180, (yX10_traitsOf, cX10_traitsOf, 5, (some .int)), 10) := ⟨rfl, by decide +kernel⟩
theorem mok181 : mOkP (k181, (yX10_had, cX10_had, 4, (some .int)), 10) := ⟨rfl, by decide +kernel⟩
theorem mok182 : mOkP (k182, (yX10_lackAt, cX10_lackAt, 3, (some .int)), 10) := ⟨rfl, by decide +kernel⟩
theorem mok183 : mOkP (k183, (yX10_addAt, cX10_addAt, 3, (some .int)), 10) := ⟨rfl, by decide +kernel⟩
theorem mok184 : mOkP (k184, (yX10_lostAt, cX10_lostAt, 4, (some .int)), 10) := ⟨rfl, by decide +kernel⟩
theorem mok185 : mOkP (k185, (yX10_lostAll, cX10_lostAll, 4, (some .int)), 10) := ⟨rfl, by decide +kernel⟩
theorem mok186 : mOkP (k186, (yX10_put, cX10_put, 6, none), 10) := ⟨rfl, by decide +kernel⟩
theorem mok187 : mOkP (k187, (yX10_choose, cX10_choose, 6, (some .int)), 10) := ⟨rfl, by decide +kernel⟩
theorem mok188 : mOkP (k188, (yX10_leave, cX10_leave, 3, (some .int)), 10) := ⟨rfl, by decide +kernel⟩
theorem mok189 : mOkP (k189, (yX10_choice, cX10_choice, 3, (some .int)), 10) := ⟨rfl, by decide +kernel⟩
theorem mok190 : mOkP (k190, (yX10_bears, cX10_bears, 3, (some .int)), 10) := ⟨rfl, by decide +kernel⟩
theorem mok191 : mOkP (k191, (yX10_bits, cX10_bits, 3, (some .int)), 10) := ⟨rfl, by decide +kernel⟩
theorem mok192 : mOkP (k192, (yX10_notedAll, cX10_notedAll, 3, (some .int)), 10) := ⟨rfl, by decide +kernel⟩
theorem mok193 : mOkP (k193, (yX10_note, cX10_note, 4, (some .int)), 10) := ⟨rfl, by decide +kernel⟩
theorem mok194 : mOkP (k194, (yX10_lost, cX10_lost, 1, (some .int)), 10) := ⟨rfl, by decide +kernel⟩
theorem mok195 : mOkP (k195, (yX10_isClash, cX10_isClash, 4, (some .boolean)), 10) := ⟨rfl, by decide +kernel⟩
theorem mok196 : mOkP (k196, (yX10_clashes, cX10_clashes, 3, (some .int)), 10) := ⟨rfl, by decide +kernel⟩
theorem mok197 : mOkP (k197, (yX10_bound, cX10_bound, 5, (some .int)), 10) := ⟨rfl, by decide +kernel⟩
theorem mok198 : mOkP (k198, (yX10_putBy, cX10_putBy, 3, none), 10) := ⟨rfl, by decide +kernel⟩
theorem mok199 : mOkP (k199, (yX10_isFree, cX10_isFree, 3, (some .boolean)), 10) := ⟨rfl, by decide +kernel⟩
theorem mok200 : mOkP (k200, (yX10_best, cX10_best, 8, (some .int)), 10) := ⟨rfl, by decide +kernel⟩
theorem mok201 : mOkP (k201, (yX10_layRow, cX10_layRow, 6, (some .int)), 10) := ⟨rfl, by decide +kernel⟩
theorem mok202 : mOkP (k202, (yX10_costs, cX10_costs, 1, (some .int)), 10) := ⟨rfl, by decide +kernel⟩
theorem mok203 : mOkP (k203, (yX10_exchange, cX10_exchange, 12, (some .int)), 10) := ⟨rfl, by decide +kernel⟩
theorem mok204 : mOkP (k204, (yX10_plainAt, cX10_plainAt, 3, (some .int)), 10) := ⟨rfl, by decide +kernel⟩
theorem mok205 : mOkP (k205, (yX10_plainSum, cX10_plainSum, 5, (some .int)), 10) := ⟨rfl, by decide +kernel⟩
theorem mok206 : mOkP (k206, (yX10_oneOf, cX10_oneOf, 4, (some .int)), 10) := ⟨rfl, by decide +kernel⟩
theorem mok207 : mOkP (k207, (yX10_one, cX10_one, 2, (some .int)), 10) := ⟨rfl, by decide +kernel⟩
theorem mok208 : mOkP (k208, (yX10_price, cX10_price, 7, (some .int)), 10) := ⟨rfl, by decide +kernel⟩
theorem mok209 : mOkP (k209, (yX10_swap, cX10_swap, 4, (some .int)), 10) := ⟨rfl, by decide +kernel⟩
theorem mok210 : mOkP (k210, (yX10_mend, cX10_mend, 8, (some .int)), 10) := ⟨rfl, by decide +kernel⟩
theorem mok211 : mOkP (k211, (yX10_heardBy, cX10_heardBy, 3, (some .int)), 10) := ⟨rfl, by decide +kernel⟩
theorem mok212 : mOkP (k212, (yX10_backOf, cX10_backOf, 6, (some .int)), 10) := ⟨rfl, by decide +kernel⟩
theorem mok213 : mOkP (k213, (yX10_isLaugh, cX10_isLaugh, 3, (some .boolean)), 10) := ⟨rfl, by decide +kernel⟩
theorem mok214 : mOkP (k214, (yX10_isAsked, cX10_isAsked, 3, (some .boolean)), 10) := ⟨rfl, by decide +kernel⟩
theorem mok215 : mOkP (k215, (yX10_hears, cX10_hears, 3, (some .int)), 10) := ⟨rfl, by decide +kernel⟩
theorem mok216 : mOkP (k216, (yX10_back, cX10_back, 3, (some .int)), 10) := ⟨rfl, by decide +kernel⟩
theorem mok217 : mOkP (k217, (yX10_laughs, cX10_laughs, 3, (some .int)), 10) := ⟨rfl, by decide +kernel⟩
theorem mok218 : mOkP (k218, (yX10_hitsOf, cX10_hitsOf, 4, (some .int)), 10) := ⟨rfl, by decide +kernel⟩
theorem mok219 : mOkP (k219, (yX10_hits, cX10_hits, 2, (some .int)), 10) := ⟨rfl, by decide +kernel⟩
theorem mok220 : mOkP (k220, (yX10_on, cX10_on, 9, (some .int)), 10) := ⟨rfl, by decide +kernel⟩
theorem mok221 : mOkP (k221, (yX10_store, cX10_store, 4, none), 10) := ⟨rfl, by decide +kernel⟩
theorem mok222 : mOkP (k222, (yX10_load, cX10_load, 4, none), 10) := ⟨rfl, by decide +kernel⟩
theorem mok223 : mOkP (k223, (yX10_isSlot, cX10_isSlot, 1, (some .boolean)), 10) := ⟨rfl, by decide +kernel⟩
theorem mok224 : mOkP (k224, (yX10_keep, cX10_keep, 2, (some .int)), 10) := ⟨rfl, by decide +kernel⟩
theorem mok225 : mOkP (k225, (yX10_take, cX10_take, 2, (some .int)), 10) := ⟨rfl, by decide +kernel⟩
theorem mok226 : mOkP (k226, (yX10_nearer, cX10_nearer, 8, (some .int)), 10) := ⟨rfl, by decide +kernel⟩
theorem mok227 : mOkP (k227, (yX10_cellOf, cX10_cellOf, 3, (some .int)), 10) := ⟨rfl, by decide +kernel⟩
theorem mok228 : mOkP (k228, (yX10_gives, cX10_gives, 6, (some .int)), 10) := ⟨rfl, by decide +kernel⟩
theorem mok229 : mOkP (k229, (yX10_agree, cX10_agree, 9, (some .int)), 10) := ⟨rfl, by decide +kernel⟩
theorem mok230 : mOkP (k230, (yX10_moves, cX10_moves, 5, (some .int)), 10) := ⟨rfl, by decide +kernel⟩
theorem mok231 : mOkP (k231, (yX10_lostIn, cX10_lostIn, 2, (some .int)), 10) := ⟨rfl, by decide +kernel⟩
theorem mok232 : mOkP (k232, (yX10_turned, cX10_turned, 4, (some .int)), 10) := ⟨rfl, by decide +kernel⟩
theorem mok233 : mOkP (k233, (yX10_until, cX10_until, 4, (some .int)), 10) := ⟨rfl, by decide +kernel⟩
theorem mok234 : mOkP (k234, (yX10_heard, cX10_heard, 5, (some .int)), 10) := ⟨rfl, by decide +kernel⟩
theorem mok235 : mOkP (k235, (yX10_right, cX10_right, 6, (some .int)), 10) := ⟨rfl, by decide +kernel⟩
theorem mok236 : mOkP (k236, (yX10_setOf, cX10_setOf, 3, (some .int)), 10) := ⟨rfl, by decide +kernel⟩
theorem mok237 : mOkP (k237, (yX10_makeFits, cX10_makeFits, 9, (some .int)), 10) := ⟨rfl, by decide +kernel⟩
theorem mok238 : mOkP (k238, (yX10_fit, cX10_fit, 3, (some .int)), 10) := ⟨rfl, by decide +kernel⟩
theorem mok239 : mOkP (k239, (yX10_surely, cX10_surely, 7, (some .int)), 10) := ⟨rfl, by decide +kernel⟩
theorem mok240 : mOkP (k240, (yX10_next, cX10_next, 8, (some .int)), 10) := ⟨rfl, by decide +kernel⟩
theorem mok241 : mOkP (k241, (yX10_count, cX10_count, 4, (some .int)), 10) := ⟨rfl, by decide +kernel⟩
theorem mok242 : mOkP (k242, (yJ6_bitCount_0f7a4, cJ6_bitCount_0f7a4, 1, (some .int)), 11) := ⟨rfl, by decide +kernel⟩
theorem mok243 : mOkP (k243, (yJ7_fill_53178, cJ7_fill_53178, 4, none), 12) := ⟨rfl, by decide +kernel⟩
theorem mok244 : mOkP (k244, (yJ7_fill_031fb, cJ7_fill_031fb, 4, none), 12) := ⟨rfl, by decide +kernel⟩
def PI0 : List (pM × pInf × Nat) := [(k0, (yX0_clear, cX0_clear, 1, none), 0), (k1, (yX0_copyFrom, cX0_copyFrom, 2, none), 0), (k2, (yX0_roomFor, cX0_roomFor, 1, (some .int)), 0), (k3, (yX0_has, cX0_has, 3, (some .boolean)), 0), (k4, (yX0_setting, cX0_setting, 2, (some .int)), 0), (k5, (yX0_allPlaces, cX0_allPlaces, 1, (some .int)), 0), (k6, (yX0_weigh, cX0_weigh, 4, none), 0), (k7, (yX0_sumGroups, cX0_sumGroups, 5, none), 0), (k8, (yX0_weightsOf, cX0_weightsOf, 3, (some .int)), 0), (k9, (yX0_traitsOfNotionAt, cX0_traitsOfNotionAt, 2, (some .int)), 0), (k10, (yX0_lacksOf, cX0_lacksOf, 3, (some .int)), 0), (k11, (yX0_addsOf, cX0_addsOf, 3, (some .int)), 0), (k12, (yX0_lostByTraits, cX0_lostByTraits, 4, (some .int)), 0), (k13, (yX0_wouldClash, cX0_wouldClash, 5, (some .boolean)), 0), (k14, (yX0_otherPlace, cX0_otherPlace, 3, (some .int)), 0), (k15, (yX0_boundBy, cX0_boundBy, 7, (some .int)), 0)]
theorem okA0 : ∀ q ∈ PI0, mOkP q := List.forall_mem_cons.mpr ⟨mok0, List.forall_mem_cons.mpr ⟨mok1, List.forall_mem_cons.mpr ⟨mok2, List.forall_mem_cons.mpr ⟨mok3, List.forall_mem_cons.mpr ⟨mok4, List.forall_mem_cons.mpr ⟨mok5, List.forall_mem_cons.mpr ⟨mok6, List.forall_mem_cons.mpr ⟨mok7, List.forall_mem_cons.mpr ⟨mok8, List.forall_mem_cons.mpr ⟨mok9, List.forall_mem_cons.mpr ⟨mok10, List.forall_mem_cons.mpr ⟨mok11, List.forall_mem_cons.mpr ⟨mok12, List.forall_mem_cons.mpr ⟨mok13, List.forall_mem_cons.mpr ⟨mok14, List.forall_mem_cons.mpr ⟨mok15, fun _ h => absurd h List.not_mem_nil⟩⟩⟩⟩⟩⟩⟩⟩⟩⟩⟩⟩⟩⟩⟩⟩
def PI1 : List (pM × pInf × Nat) := [(k16, (yX0_wordForAll, cX0_wordForAll, 4, (some .int)), 0), (k17, (yX0_toldBack, cX0_toldBack, 7, (some .int)), 0), (k18, (yX0_traitsSaidFor, cX0_traitsSaidFor, 6, (some .int)), 0), (k19, (yX1_clear, cX1_clear, 1, none), 1), (k20, (yX1_indexOf, cX1_indexOf, 3, (some .int)), 1), (k21, (yX1_put, cX1_put, 7, (some .int)), 1), (k22, (yX1_agreed, cX1_agreed, 7, (some .int)), 1), (k23, (yX1_costOf, cX1_costOf, 7, (some .int)), 1), (k24, (yX2_clear, cX2_clear, 1, none), 2), (k25, (yX2_mayTell, cX2_mayTell, 3, (some .boolean)), 2), (k26, (yX2_isFull, cX2_isFull, 1, (some .boolean)), 2), (k27, (yX2_isFullOfRights, cX2_isFullOfRights, 1, (some .boolean)), 2), (k28, (yX2_append, cX2_append, 6, (some .int)), 2), (k29, (yX2_putRight, cX2_putRight, 4, (some .int)), 2), (k30, (yX2_gather, cX2_gather, 6, (some .int)), 2), (k31, (yX2_fitsAll, cX2_fitsAll, 6, (some .boolean)), 2)]
theorem okA1 : ∀ q ∈ PI1, mOkP q := List.forall_mem_cons.mpr ⟨mok16, List.forall_mem_cons.mpr ⟨mok17, List.forall_mem_cons.mpr ⟨mok18, List.forall_mem_cons.mpr ⟨mok19, List.forall_mem_cons.mpr ⟨mok20, List.forall_mem_cons.mpr ⟨mok21, List.forall_mem_cons.mpr ⟨mok22, List.forall_mem_cons.mpr ⟨mok23, List.forall_mem_cons.mpr ⟨mok24, List.forall_mem_cons.mpr ⟨mok25, List.forall_mem_cons.mpr ⟨mok26, List.forall_mem_cons.mpr ⟨mok27, List.forall_mem_cons.mpr ⟨mok28, List.forall_mem_cons.mpr ⟨mok29, List.forall_mem_cons.mpr ⟨mok30, List.forall_mem_cons.mpr ⟨mok31, fun _ h => absurd h List.not_mem_nil⟩⟩⟩⟩⟩⟩⟩⟩⟩⟩⟩⟩⟩⟩⟩⟩
def PI2 : List (pM × pInf × Nat) := [(k32, (yX2_setsWith, cX2_setsWith, 4, (some .int)), 2), (k33, (yX2_setsWithin, cX2_setsWithin, 4, (some .int)), 2), (k34, (yX3_append, cX3_append, 3, none), 3), (k35, (yX3_find, cX3_find, 5, (some .int)), 3), (k36, (yX3_isSame, cX3_isSame, 5, (some .boolean)), 3), (k37, (yX4_read, cX4_read, 4, (some .int)), 4), (k38, (yX4_begin, cX4_begin, 2, none), 4), (k39, (yX4_advance, cX4_advance, 1, none), 4), (k40, (yX4_signOf, cX4_signOf, 1, (some .char)), 4), (k41, (yX4_refuse, cX4_refuse, 2, (some .boolean)), 4), (k42, (yX4_mayBegin, cX4_mayBegin, 2, (some .boolean)), 4), (k43, (yX4_readBody, cX4_readBody, 2, (some .boolean)), 4), (k44, (yX4_keyword, cX4_keyword, 1, (some .int)), 4), (k45, (yX4_isWord, cX4_isWord, 3, (some .boolean)), 4), (k46, (yX4_readSemicolon, cX4_readSemicolon, 1, (some .boolean)), 4), (k47, (yX4_readTraits, cX4_readTraits, 4, (some .boolean)), 4)]
theorem okA2 : ∀ q ∈ PI2, mOkP q := List.forall_mem_cons.mpr ⟨mok32, List.forall_mem_cons.mpr ⟨mok33, List.forall_mem_cons.mpr ⟨mok34, List.forall_mem_cons.mpr ⟨mok35, List.forall_mem_cons.mpr ⟨mok36, List.forall_mem_cons.mpr ⟨mok37, List.forall_mem_cons.mpr ⟨mok38, List.forall_mem_cons.mpr ⟨mok39, List.forall_mem_cons.mpr ⟨mok40, List.forall_mem_cons.mpr ⟨mok41, List.forall_mem_cons.mpr ⟨mok42, List.forall_mem_cons.mpr ⟨mok43, List.forall_mem_cons.mpr ⟨mok44, List.forall_mem_cons.mpr ⟨mok45, List.forall_mem_cons.mpr ⟨mok46, List.forall_mem_cons.mpr ⟨mok47, fun _ h => absurd h List.not_mem_nil⟩⟩⟩⟩⟩⟩⟩⟩⟩⟩⟩⟩⟩⟩⟩⟩
def PI3 : List (pM × pInf × Nat) := [(k48, (yX4_readPlace, cX4_readPlace, 3, (some .boolean)), 4), (k49, (yX4_readTie, cX4_readTie, 5, (some .boolean)), 4), (k50, (yX4_readHearer, cX4_readHearer, 3, (some .boolean)), 4), (k51, (yX4_readWeight, cX4_readWeight, 1, (some .boolean)), 4), (k52, (yX4_readSetting, cX4_readSetting, 2, (some .boolean)), 4), (k53, (yX4_readNewName, cX4_readNewName, 2, (some .boolean)), 4), (k54, (yX4_readSet, cX4_readSet, 3, (some .boolean)), 4), (k55, (yX4_readNumber, cX4_readNumber, 4, (some .boolean)), 4), (k56, (yX5_clear, cX5_clear, 1, none), 5), (k57, (yX5_copyFrom, cX5_copyFrom, 2, none), 5), (k58, (yX5_put, cX5_put, 6, none), 5), (k59, (yX5_isChosen, cX5_isChosen, 2, (some .boolean)), 5), (k60, (yX5_isBorrowed, cX5_isBorrowed, 2, (some .boolean)), 5), (k61, (yX5_chosen, cX5_chosen, 3, (some .int)), 5), (k62, (yX5_noted, cX5_noted, 3, (some .int)), 5), (k63, (yX5_traitsAt, cX5_traitsAt, 3, (some .int)), 5)]
theorem okA3 : ∀ q ∈ PI3, mOkP q := List.forall_mem_cons.mpr ⟨mok48, List.forall_mem_cons.mpr ⟨mok49, List.forall_mem_cons.mpr ⟨mok50, List.forall_mem_cons.mpr ⟨mok51, List.forall_mem_cons.mpr ⟨mok52, List.forall_mem_cons.mpr ⟨mok53, List.forall_mem_cons.mpr ⟨mok54, List.forall_mem_cons.mpr ⟨mok55, List.forall_mem_cons.mpr ⟨mok56, List.forall_mem_cons.mpr ⟨mok57, List.forall_mem_cons.mpr ⟨mok58, List.forall_mem_cons.mpr ⟨mok59, List.forall_mem_cons.mpr ⟨mok60, List.forall_mem_cons.mpr ⟨mok61, List.forall_mem_cons.mpr ⟨mok62, List.forall_mem_cons.mpr ⟨mok63, fun _ h => absurd h List.not_mem_nil⟩⟩⟩⟩⟩⟩⟩⟩⟩⟩⟩⟩⟩⟩⟩⟩
def PI4 : List (pM × pInf × Nat) := [(k64, (yX5_traitsOf, cX5_traitsOf, 2, (some .int)), 5), (k65, (yX5_lostAt, cX5_lostAt, 4, (some .int)), 5), (k66, (yX5_lostOfAll, cX5_lostOfAll, 4, (some .int)), 5), (k67, (yX5_clashBits, cX5_clashBits, 4, (some .int)), 5), (k68, (yX5_isClashing, cX5_isClashing, 6, (some .boolean)), 5), (k69, (yX5_clashesAt, cX5_clashesAt, 6, (some .int)), 5), (k70, (yX5_isBorrowedOption, cX5_isBorrowedOption, 2, (some .boolean)), 5), (k71, (yX5_traitsOfOption, cX5_traitsOfOption, 2, (some .int)), 5), (k72, (yX5_lostWithOption, cX5_lostWithOption, 3, (some .int)), 5), (k73, (yX5_putOption, cX5_putOption, 3, none), 5), (k74, (yX5_exchangeRound, cX5_exchangeRound, 3, (some .boolean)), 5), (k75, (yX5_exchangeAt, cX5_exchangeAt, 6, (some .boolean)), 5), (k76, (yX5_lostWithWord, cX5_lostWithWord, 5, (some .int)), 5), (k77, (yX5_lostWithLeast, cX5_lostWithLeast, 6, (some .int)), 5), (k78, (yX5_oneWord, cX5_oneWord, 6, (some .int)), 5), (k79, (yX5_mendOnce, cX5_mendOnce, 7, (some .boolean)), 5)]
theorem okA4 : ∀ q ∈ PI4, mOkP q := List.forall_mem_cons.mpr ⟨mok64, List.forall_mem_cons.mpr ⟨mok65, List.forall_mem_cons.mpr ⟨mok66, List.forall_mem_cons.mpr ⟨mok67, List.forall_mem_cons.mpr ⟨mok68, List.forall_mem_cons.mpr ⟨mok69, List.forall_mem_cons.mpr ⟨mok70, List.forall_mem_cons.mpr ⟨mok71, List.forall_mem_cons.mpr ⟨mok72, List.forall_mem_cons.mpr ⟨mok73, List.forall_mem_cons.mpr ⟨mok74, List.forall_mem_cons.mpr ⟨mok75, List.forall_mem_cons.mpr ⟨mok76, List.forall_mem_cons.mpr ⟨mok77, List.forall_mem_cons.mpr ⟨mok78, List.forall_mem_cons.mpr ⟨mok79, fun _ h => absurd h List.not_mem_nil⟩⟩⟩⟩⟩⟩⟩⟩⟩⟩⟩⟩⟩⟩⟩⟩
def PI5 : List (pM × pInf × Nat) := [(k80, (yX5_untoldLacks, cX5_untoldLacks, 2, (some .int)), 5), (k81, (yX5_heardAt, cX5_heardAt, 3, (some .int)), 5), (k82, (yX5_rightOf, cX5_rightOf, 4, (some .int)), 5), (k83, (yX6_putBest, cX6_putBest, 4, (some .boolean)), 6), (k84, (yX6_begin, cX6_begin, 5, none), 6), (k85, (yX6_levelOf, cX6_levelOf, 3, (some .int)), 6), (k86, (yX6_obeyTie, cX6_obeyTie, 5, none), 6), (k87, (yX6_obeyInside, cX6_obeyInside, 10, none), 6), (k88, (yX6_obeyOutside, cX6_obeyOutside, 5, none), 6), (k89, (yX6_settle, cX6_settle, 5, none), 6), (k90, (yX6_narrow, cX6_narrow, 6, (some .int)), 6), (k91, (yX6_leastOf, cX6_leastOf, 5, (some .int)), 6), (k92, (yX7_hasRoom, cX7_hasRoom, 1, (some .boolean)), 7), (k93, (yX7_append, cX7_append, 3, none), 7), (k94, (yX8_clear, cX8_clear, 1, none), 8), (k95, (yX8_isFull, cX8_isFull, 1, (some .boolean)), 8)]
theorem okA5 : ∀ q ∈ PI5, mOkP q := List.forall_mem_cons.mpr ⟨mok80, List.forall_mem_cons.mpr ⟨mok81, List.forall_mem_cons.mpr ⟨mok82, List.forall_mem_cons.mpr ⟨mok83, List.forall_mem_cons.mpr ⟨mok84, List.forall_mem_cons.mpr ⟨mok85, List.forall_mem_cons.mpr ⟨mok86, List.forall_mem_cons.mpr ⟨mok87, List.forall_mem_cons.mpr ⟨mok88, List.forall_mem_cons.mpr ⟨mok89, List.forall_mem_cons.mpr ⟨mok90, List.forall_mem_cons.mpr ⟨mok91, List.forall_mem_cons.mpr ⟨mok92, List.forall_mem_cons.mpr ⟨mok93, List.forall_mem_cons.mpr ⟨mok94, List.forall_mem_cons.mpr ⟨mok95, fun _ h => absurd h List.not_mem_nil⟩⟩⟩⟩⟩⟩⟩⟩⟩⟩⟩⟩⟩⟩⟩⟩
def PI6 : List (pM × pInf × Nat) := [(k96, (yX8_latestOf, cX8_latestOf, 4, (some .int)), 8), (k97, (yX8_append, cX8_append, 4, (some .int)), 8), (k98, (yX8_wordsIn, cX8_wordsIn, 3, (some (.array .int))), 8), (k99, (yX8_turns, cX8_turns, 7, (some .int)), 8), (k100, (yX8_firstAbove, cX8_firstAbove, 6, (some .int)), 8), (k101, (yX9_feed, cX9_feed, 6, (some .int)), 9), (k102, (yX9_end, cX9_end, 2, (some .int)), 9), (k103, (yX9_book, cX9_book, 3, (some .int)), 9), (k104, (yX9_fault, cX9_fault, 2, (some .int)), 9), (k105, (yX9_told, cX9_told, 2, (some .int)), 9), (k106, (yX9_traits, cX9_traits, 3, (some .int)), 9), (k107, (yX9_notion, cX9_notion, 2, (some .int)), 9), (k108, (yX9_choose, cX9_choose, 6, (some .int)), 9), (k109, (yX9_wordsAreFit, cX9_wordsAreFit, 5, (some .boolean)), 9), (k110, (yX9_leave, cX9_leave, 2, (some .int)), 9), (k111, (yX9_choice, cX9_choice, 3, (some .int)), 9)]
theorem okA6 : ∀ q ∈ PI6, mOkP q := List.forall_mem_cons.mpr ⟨mok96, List.forall_mem_cons.mpr ⟨mok97, List.forall_mem_cons.mpr ⟨mok98, List.forall_mem_cons.mpr ⟨mok99, List.forall_mem_cons.mpr ⟨mok100, List.forall_mem_cons.mpr ⟨mok101, List.forall_mem_cons.mpr ⟨mok102, List.forall_mem_cons.mpr ⟨mok103, List.forall_mem_cons.mpr ⟨mok104, List.forall_mem_cons.mpr ⟨mok105, List.forall_mem_cons.mpr ⟨mok106, List.forall_mem_cons.mpr ⟨mok107, List.forall_mem_cons.mpr ⟨mok108, List.forall_mem_cons.mpr ⟨mok109, List.forall_mem_cons.mpr ⟨mok110, List.forall_mem_cons.mpr ⟨mok111, fun _ h => absurd h List.not_mem_nil⟩⟩⟩⟩⟩⟩⟩⟩⟩⟩⟩⟩⟩⟩⟩⟩
def PI7 : List (pM × pInf × Nat) := [(k112, (yX9_bears, cX9_bears, 4, (some .int)), 9), (k113, (yX9_note, cX9_note, 4, (some .int)), 9), (k114, (yX9_lost, cX9_lost, 1, (some .int)), 9), (k115, (yX9_clashes, cX9_clashes, 1, (some .int)), 9), (k116, (yX9_bound, cX9_bound, 2, (some .int)), 9), (k117, (yX9_best, cX9_best, 3, (some .int)), 9), (k118, (yX9_exchange, cX9_exchange, 3, (some .int)), 9), (k119, (yX9_one, cX9_one, 2, (some .int)), 9), (k120, (yX9_price, cX9_price, 3, (some .int)), 9), (k121, (yX9_swap, cX9_swap, 2, (some .int)), 9), (k122, (yX9_mend, cX9_mend, 4, (some .int)), 9), (k123, (yX9_whyNotHeard, cX9_whyNotHeard, 3, (some .int)), 9), (k124, (yX9_hears, cX9_hears, 4, (some .int)), 9), (k125, (yX9_back, cX9_back, 4, (some .int)), 9), (k126, (yX9_laughs, cX9_laughs, 5, (some .int)), 9), (k127, (yX9_hits, cX9_hits, 2, (some .int)), 9)]
theorem okA7 : ∀ q ∈ PI7, mOkP q := List.forall_mem_cons.mpr ⟨mok112, List.forall_mem_cons.mpr ⟨mok113, List.forall_mem_cons.mpr ⟨mok114, List.forall_mem_cons.mpr ⟨mok115, List.forall_mem_cons.mpr ⟨mok116, List.forall_mem_cons.mpr ⟨mok117, List.forall_mem_cons.mpr ⟨mok118, List.forall_mem_cons.mpr ⟨mok119, List.forall_mem_cons.mpr ⟨mok120, List.forall_mem_cons.mpr ⟨mok121, List.forall_mem_cons.mpr ⟨mok122, List.forall_mem_cons.mpr ⟨mok123, List.forall_mem_cons.mpr ⟨mok124, List.forall_mem_cons.mpr ⟨mok125, List.forall_mem_cons.mpr ⟨mok126, List.forall_mem_cons.mpr ⟨mok127, fun _ h => absurd h List.not_mem_nil⟩⟩⟩⟩⟩⟩⟩⟩⟩⟩⟩⟩⟩⟩⟩⟩
def PI8 : List (pM × pInf × Nat) := [(k128, (yX9_on, cX9_on, 6, (some .int)), 9), (k129, (yX9_keep, cX9_keep, 2, (some .int)), 9), (k130, (yX9_take, cX9_take, 2, (some .int)), 9), (k131, (yX9_nearer, cX9_nearer, 5, (some .int)), 9), (k132, (yX9_gives, cX9_gives, 5, (some .int)), 9), (k133, (yX9_agree, cX9_agree, 2, (some .int)), 9), (k134, (yX9_moves, cX9_moves, 4, (some .int)), 9), (k135, (yX9_lostIn, cX9_lostIn, 2, (some .int)), 9), (k136, (yX9_turned, cX9_turned, 2, (some .int)), 9), (k137, (yX9_until, cX9_until, 2, (some .int)), 9), (k138, (yX9_isYear, cX9_isYear, 1, (some .boolean)), 9), (k139, (yX9_heard, cX9_heard, 5, (some .int)), 9), (k140, (yX9_right, cX9_right, 4, (some .int)), 9), (k141, (yX9_fit, cX9_fit, 3, (some .int)), 9), (k142, (yX9_surely, cX9_surely, 6, (some .int)), 9), (k143, (yX9_next, cX9_next, 8, (some .int)), 9)]
theorem okA8 : ∀ q ∈ PI8, mOkP q := List.forall_mem_cons.mpr ⟨mok128, List.forall_mem_cons.mpr ⟨mok129, List.forall_mem_cons.mpr ⟨mok130, List.forall_mem_cons.mpr ⟨mok131, List.forall_mem_cons.mpr ⟨mok132, List.forall_mem_cons.mpr ⟨mok133, List.forall_mem_cons.mpr ⟨mok134, List.forall_mem_cons.mpr ⟨mok135, List.forall_mem_cons.mpr ⟨mok136, List.forall_mem_cons.mpr ⟨mok137, List.forall_mem_cons.mpr ⟨mok138, List.forall_mem_cons.mpr ⟨mok139, List.forall_mem_cons.mpr ⟨mok140, List.forall_mem_cons.mpr ⟨mok141, List.forall_mem_cons.mpr ⟨mok142, List.forall_mem_cons.mpr ⟨mok143, fun _ h => absurd h List.not_mem_nil⟩⟩⟩⟩⟩⟩⟩⟩⟩⟩⟩⟩⟩⟩⟩⟩
def PI9 : List (pM × pInf × Nat) := [(k144, (yX9_isStep, cX9_isStep, 1, (some .boolean)), 9), (k145, (yX9_count, cX9_count, 2, (some .int)), 9), (k146, (yX10_in, cX10_in, 3, (some .boolean)), 10), (k147, (yX10_feed, cX10_feed, 9, (some .int)), 10), (k148, (yX10_end, cX10_end, 2, (some .int)), 10), (k149, (yX10_see, cX10_see, 2, (some .int)), 10), (k150, (yX10_isSmall, cX10_isSmall, 1, (some .boolean)), 10), (k151, (yX10_isDigit, cX10_isDigit, 1, (some .boolean)), 10), (k152, (yX10_keyAt, cX10_keyAt, 8, (some .int)), 10), (k153, (yX10_scan, cX10_scan, 4, none), 10), (k154, (yX10_fails, cX10_fails, 2, (some .boolean)), 10), (k155, (yX10_readNumber, cX10_readNumber, 3, (some .boolean)), 10), (k156, (yX10_setHere, cX10_setHere, 3, (some .int)), 10), (k157, (yX10_readSet, cX10_readSet, 2, (some .boolean)), 10), (k158, (yX10_fault, cX10_fault, 2, (some .int)), 10), (k159, (yX10_begin, cX10_begin, 2, none), 10)]
theorem okA9 : ∀ q ∈ PI9, mOkP q := List.forall_mem_cons.mpr ⟨mok144, List.forall_mem_cons.mpr ⟨mok145, List.forall_mem_cons.mpr ⟨mok146, List.forall_mem_cons.mpr ⟨mok147, List.forall_mem_cons.mpr ⟨mok148, List.forall_mem_cons.mpr ⟨mok149, List.forall_mem_cons.mpr ⟨mok150, List.forall_mem_cons.mpr ⟨mok151, List.forall_mem_cons.mpr ⟨mok152, List.forall_mem_cons.mpr ⟨mok153, List.forall_mem_cons.mpr ⟨mok154, List.forall_mem_cons.mpr ⟨mok155, List.forall_mem_cons.mpr ⟨mok156, List.forall_mem_cons.mpr ⟨mok157, List.forall_mem_cons.mpr ⟨mok158, List.forall_mem_cons.mpr ⟨mok159, fun _ h => absurd h List.not_mem_nil⟩⟩⟩⟩⟩⟩⟩⟩⟩⟩⟩⟩⟩⟩⟩⟩
def PI10 : List (pM × pInf × Nat) := [(k160, (yX10_comes, cX10_comes, 3, none), 10), (k161, (yX10_settle, cX10_settle, 2, none), 10), (k162, (yX10_named, cX10_named, 4, (some .int)), 10), (k163, (yX10_readName, cX10_readName, 5, (some .boolean)), 10), (k164, (yX10_readPlace, cX10_readPlace, 4, (some .boolean)), 10), (k165, (yX10_readTie, cX10_readTie, 3, (some .boolean)), 10), (k166, (yX10_readHearer, cX10_readHearer, 2, (some .boolean)), 10), (k167, (yX10_readWeight, cX10_readWeight, 3, (some .boolean)), 10), (k168, (yX10_readTold, cX10_readTold, 3, (some .boolean)), 10), (k169, (yX10_readClause, cX10_readClause, 3, (some .boolean)), 10), (k170, (yX10_book, cX10_book, 2, (some .int)), 10), (k171, (yX10_told, cX10_told, 2, (some .int)), 10), (k172, (yX10_isNotion, cX10_isNotion, 2, (some .boolean)), 10), (k173, (yX10_isWord, cX10_isWord, 2, (some .boolean)), 10), (k174, (yX10_isPlace, cX10_isPlace, 2, (some .boolean)), 10), (k175, (yX10_isTie, cX10_isTie, 2, (some .boolean)), 10)]
theorem okA10 : ∀ q ∈ PI10, mOkP q := List.forall_mem_cons.mpr ⟨mok160, List.forall_mem_cons.mpr ⟨mok161, List.forall_mem_cons.mpr ⟨mok162, List.forall_mem_cons.mpr ⟨mok163, List.forall_mem_cons.mpr ⟨mok164, List.forall_mem_cons.mpr ⟨mok165, List.forall_mem_cons.mpr ⟨mok166, List.forall_mem_cons.mpr ⟨mok167, List.forall_mem_cons.mpr ⟨mok168, List.forall_mem_cons.mpr ⟨mok169, List.forall_mem_cons.mpr ⟨mok170, List.forall_mem_cons.mpr ⟨mok171, List.forall_mem_cons.mpr ⟨mok172, List.forall_mem_cons.mpr ⟨mok173, List.forall_mem_cons.mpr ⟨mok174, List.forall_mem_cons.mpr ⟨mok175, fun _ h => absurd h List.not_mem_nil⟩⟩⟩⟩⟩⟩⟩⟩⟩⟩⟩⟩⟩⟩⟩⟩
def PI11 : List (pM × pInf × Nat) := [(k176, (yX10_isHearer, cX10_isHearer, 2, (some .boolean)), 10), (k177, (yX10_traits, cX10_traits, 3, (some .int)), 10), (k178, (yX10_notion, cX10_notion, 2, (some .int)), 10), (k179, (yX10_weigh, cX10_weigh, 4, (some .int)), 10), (k180, (yX10_traitsOf, cX10_traitsOf, 5, (some .int)), 10), (k181, (yX10_had, cX10_had, 4, (some .int)), 10), (k182, (yX10_lackAt, cX10_lackAt, 3, (some .int)), 10), (k183, (yX10_addAt, cX10_addAt, 3, (some .int)), 10), (k184, (yX10_lostAt, cX10_lostAt, 4, (some .int)), 10), (k185, (yX10_lostAll, cX10_lostAll, 4, (some .int)), 10), (k186, (yX10_put, cX10_put, 6, none), 10), (k187, (yX10_choose, cX10_choose, 6, (some .int)), 10), (k188, (yX10_leave, cX10_leave, 3, (some .int)), 10), (k189, (yX10_choice, cX10_choice, 3, (some .int)), 10), (k190, (yX10_bears, cX10_bears, 3, (some .int)), 10), (k191, (yX10_bits, cX10_bits, 3, (some .int)), 10)]
theorem okA11 : ∀ q ∈ PI11, mOkP q := List.forall_mem_cons.mpr ⟨mok176, List.forall_mem_cons.mpr ⟨mok177, List.forall_mem_cons.mpr ⟨mok178, List.forall_mem_cons.mpr ⟨mok179, List.forall_mem_cons.mpr ⟨mok180, List.forall_mem_cons.mpr ⟨mok181, List.forall_mem_cons.mpr ⟨mok182, List.forall_mem_cons.mpr ⟨mok183, List.forall_mem_cons.mpr ⟨mok184, List.forall_mem_cons.mpr ⟨mok185, List.forall_mem_cons.mpr ⟨mok186, List.forall_mem_cons.mpr ⟨mok187, List.forall_mem_cons.mpr ⟨mok188, List.forall_mem_cons.mpr ⟨mok189, List.forall_mem_cons.mpr ⟨mok190, List.forall_mem_cons.mpr ⟨mok191, fun _ h => absurd h List.not_mem_nil⟩⟩⟩⟩⟩⟩⟩⟩⟩⟩⟩⟩⟩⟩⟩⟩
def PI12 : List (pM × pInf × Nat) := [(k192, (yX10_notedAll, cX10_notedAll, 3, (some .int)), 10), (k193, (yX10_note, cX10_note, 4, (some .int)), 10), (k194, (yX10_lost, cX10_lost, 1, (some .int)), 10), (k195, (yX10_isClash, cX10_isClash, 4, (some .boolean)), 10), (k196, (yX10_clashes, cX10_clashes, 3, (some .int)), 10), (k197, (yX10_bound, cX10_bound, 5, (some .int)), 10), (k198, (yX10_putBy, cX10_putBy, 3, none), 10), (k199, (yX10_isFree, cX10_isFree, 3, (some .boolean)), 10), (k200, (yX10_best, cX10_best, 8, (some .int)), 10), (k201, (yX10_layRow, cX10_layRow, 6, (some .int)), 10), (k202, (yX10_costs, cX10_costs, 1, (some .int)), 10), (k203, (yX10_exchange, cX10_exchange, 12, (some .int)), 10), (k204, (yX10_plainAt, cX10_plainAt, 3, (some .int)), 10), (k205, (yX10_plainSum, cX10_plainSum, 5, (some .int)), 10), (k206, (yX10_oneOf, cX10_oneOf, 4, (some .int)), 10), (k207, (yX10_one, cX10_one, 2, (some .int)), 10)]
theorem okA12 : ∀ q ∈ PI12, mOkP q := List.forall_mem_cons.mpr ⟨mok192, List.forall_mem_cons.mpr ⟨mok193, List.forall_mem_cons.mpr ⟨mok194, List.forall_mem_cons.mpr ⟨mok195, List.forall_mem_cons.mpr ⟨mok196, List.forall_mem_cons.mpr ⟨mok197, List.forall_mem_cons.mpr ⟨mok198, List.forall_mem_cons.mpr ⟨mok199, List.forall_mem_cons.mpr ⟨mok200, List.forall_mem_cons.mpr ⟨mok201, List.forall_mem_cons.mpr ⟨mok202, List.forall_mem_cons.mpr ⟨mok203, List.forall_mem_cons.mpr ⟨mok204, List.forall_mem_cons.mpr ⟨mok205, List.forall_mem_cons.mpr ⟨mok206, List.forall_mem_cons.mpr ⟨mok207, fun _ h => absurd h List.not_mem_nil⟩⟩⟩⟩⟩⟩⟩⟩⟩⟩⟩⟩⟩⟩⟩⟩
def PI13 : List (pM × pInf × Nat) := [(k208, (yX10_price, cX10_price, 7, (some .int)), 10), (k209, (yX10_swap, cX10_swap, 4, (some .int)), 10), (k210, (yX10_mend, cX10_mend, 8, (some .int)), 10), (k211, (yX10_heardBy, cX10_heardBy, 3, (some .int)), 10), (k212, (yX10_backOf, cX10_backOf, 6, (some .int)), 10), (k213, (yX10_isLaugh, cX10_isLaugh, 3, (some .boolean)), 10), (k214, (yX10_isAsked, cX10_isAsked, 3, (some .boolean)), 10), (k215, (yX10_hears, cX10_hears, 3, (some .int)), 10), (k216, (yX10_back, cX10_back, 3, (some .int)), 10), (k217, (yX10_laughs, cX10_laughs, 3, (some .int)), 10), (k218, (yX10_hitsOf, cX10_hitsOf, 4, (some .int)), 10), (k219, (yX10_hits, cX10_hits, 2, (some .int)), 10), (k220, (yX10_on, cX10_on, 9, (some .int)), 10), (k221, (yX10_store, cX10_store, 4, none), 10), (k222, (yX10_load, cX10_load, 4, none), 10), (k223, (yX10_isSlot, cX10_isSlot, 1, (some .boolean)), 10)]
theorem okA13 : ∀ q ∈ PI13, mOkP q := List.forall_mem_cons.mpr ⟨mok208, List.forall_mem_cons.mpr ⟨mok209, List.forall_mem_cons.mpr ⟨mok210, List.forall_mem_cons.mpr ⟨mok211, List.forall_mem_cons.mpr ⟨mok212, List.forall_mem_cons.mpr ⟨mok213, List.forall_mem_cons.mpr ⟨mok214, List.forall_mem_cons.mpr ⟨mok215, List.forall_mem_cons.mpr ⟨mok216, List.forall_mem_cons.mpr ⟨mok217, List.forall_mem_cons.mpr ⟨mok218, List.forall_mem_cons.mpr ⟨mok219, List.forall_mem_cons.mpr ⟨mok220, List.forall_mem_cons.mpr ⟨mok221, List.forall_mem_cons.mpr ⟨mok222, List.forall_mem_cons.mpr ⟨mok223, fun _ h => absurd h List.not_mem_nil⟩⟩⟩⟩⟩⟩⟩⟩⟩⟩⟩⟩⟩⟩⟩⟩
def PI14 : List (pM × pInf × Nat) := [(k224, (yX10_keep, cX10_keep, 2, (some .int)), 10), (k225, (yX10_take, cX10_take, 2, (some .int)), 10), (k226, (yX10_nearer, cX10_nearer, 8, (some .int)), 10), (k227, (yX10_cellOf, cX10_cellOf, 3, (some .int)), 10), (k228, (yX10_gives, cX10_gives, 6, (some .int)), 10), (k229, (yX10_agree, cX10_agree, 9, (some .int)), 10), (k230, (yX10_moves, cX10_moves, 5, (some .int)), 10), (k231, (yX10_lostIn, cX10_lostIn, 2, (some .int)), 10), (k232, (yX10_turned, cX10_turned, 4, (some .int)), 10), (k233, (yX10_until, cX10_until, 4, (some .int)), 10), (k234, (yX10_heard, cX10_heard, 5, (some .int)), 10), (k235, (yX10_right, cX10_right, 6, (some .int)), 10), (k236, (yX10_setOf, cX10_setOf, 3, (some .int)), 10), (k237, (yX10_makeFits, cX10_makeFits, 9, (some .int)), 10), (k238, (yX10_fit, cX10_fit, 3, (some .int)), 10), (k239, (yX10_surely, cX10_surely, 7, (some .int)), 10)]
theorem okA14 : ∀ q ∈ PI14, mOkP q := List.forall_mem_cons.mpr ⟨mok224, List.forall_mem_cons.mpr ⟨mok225, List.forall_mem_cons.mpr ⟨mok226, List.forall_mem_cons.mpr ⟨mok227, List.forall_mem_cons.mpr ⟨mok228, List.forall_mem_cons.mpr ⟨mok229, List.forall_mem_cons.mpr ⟨mok230, List.forall_mem_cons.mpr ⟨mok231, List.forall_mem_cons.mpr ⟨mok232, List.forall_mem_cons.mpr ⟨mok233, List.forall_mem_cons.mpr ⟨mok234, List.forall_mem_cons.mpr ⟨mok235, List.forall_mem_cons.mpr ⟨mok236, List.forall_mem_cons.mpr ⟨mok237, List.forall_mem_cons.mpr ⟨mok238, List.forall_mem_cons.mpr ⟨mok239, fun _ h => absurd h List.not_mem_nil⟩⟩⟩⟩⟩⟩⟩⟩⟩⟩⟩⟩⟩⟩⟩⟩
def PI15 : List (pM × pInf × Nat) := [(k240, (yX10_next, cX10_next, 8, (some .int)), 10), (k241, (yX10_count, cX10_count, 4, (some .int)), 10), (k242, (yJ6_bitCount_0f7a4, cJ6_bitCount_0f7a4, 1, (some .int)), 11), (k243, (yJ7_fill_53178, cJ7_fill_53178, 4, none), 12), (k244, (yJ7_fill_031fb, cJ7_fill_031fb, 4, none), 12)]
theorem okA15 : ∀ q ∈ PI15, mOkP q := List.forall_mem_cons.mpr ⟨mok240, List.forall_mem_cons.mpr ⟨mok241, List.forall_mem_cons.mpr ⟨mok242, List.forall_mem_cons.mpr ⟨mok243, List.forall_mem_cons.mpr ⟨mok244, fun _ h => absurd h List.not_mem_nil⟩⟩⟩⟩⟩
def PI : List (pM × pInf × Nat) := (PI0 ++ (PI1 ++ (PI2 ++ (PI3 ++ (PI4 ++ (PI5 ++ (PI6 ++ (PI7 ++ (PI8 ++ (PI9 ++ (PI10 ++ (PI11 ++ (PI12 ++ (PI13 ++ (PI14 ++ PI15)))))))))))))))
theorem PI_ok : ∀ q ∈ PI, mOkP q := (fun q h => (List.mem_append.mp h).elim (okA0 q) ((fun q h => (List.mem_append.mp h).elim (okA1 q) ((fun q h => (List.mem_append.mp h).elim (okA2 q) ((fun q h => (List.mem_append.mp h).elim (okA3 q) ((fun q h => (List.mem_append.mp h).elim (okA4 q) ((fun q h => (List.mem_append.mp h).elim (okA5 q) ((fun q h => (List.mem_append.mp h).elim (okA6 q) ((fun q h => (List.mem_append.mp h).elim (okA7 q) ((fun q h => (List.mem_append.mp h).elim (okA8 q) ((fun q h => (List.mem_append.mp h).elim (okA9 q) ((fun q h => (List.mem_append.mp h).elim (okA10 q) ((fun q h => (List.mem_append.mp h).elim (okA11 q) ((fun q h => (List.mem_append.mp h).elim (okA12 q) ((fun q h => (List.mem_append.mp h).elim (okA13 q) ((fun q h => (List.mem_append.mp h).elim (okA14 q) (okA15 q)) q)) q)) q)) q)) q)) q)) q)) q)) q)) q)) q)) q)) q)) q))
set_option maxRecDepth 100000 in
theorem PI_Pr : PI.map (fun q => q.1) = Pr := rfl
set_option maxRecDepth 100000 in
theorem PI_Inf : PI.map (fun q => q.2.1) = Inf := rfl
theorem Pr_len : PI.length = miT.length := by decide +kernel
theorem tg_pok : pPok Pr Inf tg pXsS := by
  intro me M hM
  rw [← PI_Pr, List.getElem?_map] at hM
  cases hq : PI[me]? with
  | none => rw [hq] at hM; cases hM
  | some q =>
    rw [hq] at hM
    obtain rfl := Option.some.inj hM
    obtain ⟨M, ⟨y, bytes, maxL, ret⟩, oc⟩ := q
    obtain ⟨hc, hall⟩ := PI_ok _ (List.mem_of_getElem? hq)
    have hI : Inf[me]? = some (y, bytes, maxL, ret) := by rw [← PI_Inf, List.getElem?_map, hq]; rfl
    have hl : me < miT.length := by rw [← Pr_len]; exact (List.getElem?_eq_some_iff.mp hq).1
    obtain ⟨y2, b2, m2, r2, hI2, -, -, -, hpl, -⟩ := mi_inf (List.getElem?_eq_getElem hl)
    rw [hI] at hI2
    cases hI2
    refine ⟨y, bytes, maxL, ret, hI, hpl, fun pc x hx => ?_⟩
    have h1 := List.all_eq_true.mp hall (pc, x) (pFind_mem hx)
    rw [Bool.and_eq_true] at h1
    dsimp only at hc
    rw [hc]
    exact ⟨of_decide_eq_true h1.1, xchk_ok h1.2⟩
end
section
theorem ws_in {C : String} {T : u_T} {N : Nat} {ps : List Nat} (h : ((List.range N).zip ps).all (fun q => hasW q.2 (u_lay C T q.1)) = true) (hl : ps.length = N) : ∀ w ∈ u_ws C T N, w ∈ tg := by
  intro w hw
  obtain ⟨k, hk, rfl⟩ := List.mem_map.mp hw
  have hk := List.mem_range.mp hk
  have hp : k < ps.length := by omega
  have h1 := List.all_eq_true.mp h (k, ps[k]) (List.mem_of_getElem? (i := k) (by rw [List.getElem?_zip_eq_some]; exact ⟨by rw [List.getElem?_range hk], List.getElem?_eq_getElem hp⟩))
  exact hasW_in h1
theorem clw0 : ((List.range 13).zip [187, 189, 191, 193, 195, 197, 199, 201, 203, 205, 207, 209, 211]).all (fun q => hasW q.2 (u_lay RX0 TX0 q.1)) = true := by decide +kernel
theorem cli0 : ∀ w ∈ u_ws RX0 TX0 13, w ∈ tg := ws_in clw0 rfl
theorem clw1 : ((List.range 1).zip [369]).all (fun q => hasW q.2 (u_lay RX1 TX1 q.1)) = true := by decide +kernel
theorem cli1 : ∀ w ∈ u_ws RX1 TX1 1, w ∈ tg := ws_in clw1 rfl
theorem clw2 : ((List.range 14).zip [423, 425, 427, 429, 431, 433, 435, 437, 439, 441, 443, 445, 447, 449]).all (fun q => hasW q.2 (u_lay RX2 TX2 q.1)) = true := by decide +kernel
theorem cli2 : ∀ w ∈ u_ws RX2 TX2 14, w ∈ tg := ws_in clw2 rfl
theorem clw3 : ((List.range 3).zip [233, 235, 237]).all (fun q => hasW q.2 (u_lay RX3 TX3 q.1)) = true := by decide +kernel
theorem cli3 : ∀ w ∈ u_ws RX3 TX3 3, w ∈ tg := ws_in clw3 rfl
theorem clw4 : ((List.range 14).zip [257, 259, 261, 263, 265, 267, 269, 271, 273, 275, 277, 279, 281, 283]).all (fun q => hasW q.2 (u_lay RX4 TX4 q.1)) = true := by decide +kernel
theorem cli4 : ∀ w ∈ u_ws RX4 TX4 14, w ∈ tg := ws_in clw4 rfl
theorem clw5 : ((List.range 6).zip [308, 310, 312, 314, 316, 318]).all (fun q => hasW q.2 (u_lay RX5 TX5 q.1)) = true := by decide +kernel
theorem cli5 : ∀ w ∈ u_ws RX5 TX5 6, w ∈ tg := ws_in clw5 rfl
theorem clw6 : ((List.range 10).zip [340, 342, 344, 346, 348, 350, 352, 354, 356, 358]).all (fun q => hasW q.2 (u_lay RX6 TX6 q.1)) = true := by decide +kernel
theorem cli6 : ∀ w ∈ u_ws RX6 TX6 10, w ∈ tg := ws_in clw6 rfl
theorem clw7 : ((List.range 2).zip [119, 121]).all (fun q => hasW q.2 (u_lay RX7 TX7 q.1)) = true := by decide +kernel
theorem cli7 : ∀ w ∈ u_ws RX7 TX7 2, w ∈ tg := ws_in clw7 rfl
theorem clw8 : ((List.range 7).zip [386, 388, 390, 392, 394, 396, 398]).all (fun q => hasW q.2 (u_lay RX8 TX8 q.1)) = true := by decide +kernel
theorem cli8 : ∀ w ∈ u_ws RX8 TX8 7, w ∈ tg := ws_in clw8 rfl
theorem clw9 : ((List.range 10).zip [462, 464, 466, 468, 470, 472, 474, 476, 478, 480]).all (fun q => hasW q.2 (u_lay RX9 TX9 q.1)) = true := by decide +kernel
theorem cli9 : ∀ w ∈ u_ws RX9 TX9 10, w ∈ tg := ws_in clw9 rfl
theorem clw10 : ((List.range 59).zip [1238, 1240, 1242, 1244, 1246, 1248, 1250, 1252, 1254, 1256, 1258, 1260, 1262, 1264, 1266, 1268, 1270, 1272, 1274, 1276, 1278, 1280, 1282, 1284, 1286, 1288, 1290, 1292, 1294, 1296, 1298, 1300, 1302, 1304, 1306, 1308, 1310, 1312, 1314, 1316, 1318, 1320, 1322, 1324, 1326, 1328, 1330, 1332, 1334, 1336, 1338, 1340, 1342, 1344, 1346, 1348, 1350, 1352, 1354]).all (fun q => hasW q.2 (u_lay RX10 TX10 q.1)) = true := by decide +kernel
theorem cli10 : ∀ w ∈ u_ws RX10 TX10 59, w ∈ tg := ws_in clw10 rfl
theorem tg_cl : pClOk tg := by
  intro ci C T N h
  match ci, h with
  | 0, h => cases h; exact ⟨⟨tyX0, tyX0_ok⟩, nmX0, cli0⟩
  | 1, h => cases h; exact ⟨⟨tyX1, tyX1_ok⟩, nmX1, cli1⟩
  | 2, h => cases h; exact ⟨⟨tyX2, tyX2_ok⟩, nmX2, cli2⟩
  | 3, h => cases h; exact ⟨⟨tyX3, tyX3_ok⟩, nmX3, cli3⟩
  | 4, h => cases h; exact ⟨⟨tyX4, tyX4_ok⟩, nmX4, cli4⟩
  | 5, h => cases h; exact ⟨⟨tyX5, tyX5_ok⟩, nmX5, cli5⟩
  | 6, h => cases h; exact ⟨⟨tyX6, tyX6_ok⟩, nmX6, cli6⟩
  | 7, h => cases h; exact ⟨⟨tyX7, tyX7_ok⟩, nmX7, cli7⟩
  | 8, h => cases h; exact ⟨⟨tyX8, tyX8_ok⟩, nmX8, cli8⟩
  | 9, h => cases h; exact ⟨⟨tyX9, tyX9_ok⟩, nmX9, cli9⟩
  | 10, h => cases h; exact ⟨⟨tyX10, tyX10_ok⟩, nmX10, cli10⟩
  | n + 11, h => cases h
def codeC (c : Nat) (d : String) : Bool := match c with
  | 0 => decide (parseFieldDescriptor d = some .int)
  | 1 => decide (parseFieldDescriptor d = some .long)
  | 2 => decide (parseFieldDescriptor d = some .char)
  | _ => (match parseFieldDescriptor d with
    | some (.array _) => true
    | some (.object _) => true
    | _ => false)
theorem codeC_ok {c : Nat} {d : String} (h : codeC c d = true) : pCodeOk c d := by
  match c, h with
  | 0, h => show parseFieldDescriptor d = some .int; exact of_decide_eq_true (show decide (parseFieldDescriptor d = some .int) = true from h)
  | 1, h => show parseFieldDescriptor d = some .long; exact of_decide_eq_true (show decide (parseFieldDescriptor d = some .long) = true from h)
  | 2, h => show parseFieldDescriptor d = some .char; exact of_decide_eq_true (show decide (parseFieldDescriptor d = some .char) = true from h)
  | c + 3, h =>
    have h : (match parseFieldDescriptor d with | some (.array _) => true | some (.object _) => true | _ => false) = true := h
    show ∃ t, parseFieldDescriptor d = some t ∧ ((∃ q, t = .array q) ∨ ∃ q, t = .object q)
    split at h
    · next hp => exact ⟨_, hp, Or.inl ⟨_, rfl⟩⟩
    · next hp => exact ⟨_, hp, Or.inr ⟨_, rfl⟩⟩
    · cases h
def shC (q : pSh) : Bool := (List.range 11).all fun ci => if q.1 = ci + 7 then (match vwCl[ci]? with
  | some (_, T, _) => ((List.range q.2.2.length).zip q.2.2).all fun x => codeC x.2 (T x.1).2.2.1
  | none => true) else true
theorem shOk : Sh.all shC = true := by decide +kernel
theorem sh_ok : pShOk Sh := by
  intro k ci n fs C T N hk hc b c hb
  have h1 := List.all_eq_true.mp shOk _ (List.mem_of_getElem? hk)
  have hci : ci < 11 := (List.getElem?_eq_some_iff.mp hc).1
  have h2 := List.all_eq_true.mp h1 ci (List.mem_range.mpr hci)
  rw [if_pos rfl, hc] at h2
  have hbl : b < fs.length := (List.getElem?_eq_some_iff.mp hb).1
  have h3 := List.all_eq_true.mp h2 (b, c) (List.mem_of_getElem? (i := b) (by rw [List.getElem?_zip_eq_some]; exact ⟨by rw [List.getElem?_range hbl], hb⟩))
  exact codeC_ok h3
theorem tg_good : ∀ w ∈ tg, goodWord w = true := fun w h => (List.mem_filter.mp h).2
end

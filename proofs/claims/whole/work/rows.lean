section
-- ===== PART A: goes FIRST, ahead of the names: the tables' words, and 'selects' of the private methods out of them =====
/-- a private method of a class that the tables say can be made, by its rows of tables_1 -/
def lw_okq (q : MethodName × Nat) : Prop := (q.1.cls ≠ "java/lang/invoke/MethodHandle" ∧ q.1.cls ≠ "java/lang/invoke/VarHandle") ∧ Cond.instantiable q.1.cls q.2 ∈ tables_1 ∧ Cond.privateMethod q.1 ∈ tables_1 ∧ Cond.instanceMethod q.1 ∈ tables_1
theorem lw_p0 : lw_okq (⟨"HeronBook$Book", "sumGroups", "()V"⟩, 13) := ⟨⟨by decide +kernel, by decide +kernel⟩, List.mem_of_getElem? (i := 46) (by decide +kernel), List.mem_of_getElem? (i := 59) (by decide +kernel), List.mem_of_getElem? (i := 60) (by decide +kernel)⟩
theorem lw_p1 : lw_okq (⟨"HeronBook$Reader", "begin", "(LHeronBook$Tape;)V"⟩, 14) := ⟨⟨by decide +kernel, by decide +kernel⟩, List.mem_of_getElem? (i := 136) (by decide +kernel), List.mem_of_getElem? (i := 428) (by decide +kernel), List.mem_of_getElem? (i := 429) (by decide +kernel)⟩
theorem lw_p2 : lw_okq (⟨"HeronBook$Reader", "advance", "()V"⟩, 14) := ⟨⟨by decide +kernel, by decide +kernel⟩, List.mem_of_getElem? (i := 136) (by decide +kernel), List.mem_of_getElem? (i := 433) (by decide +kernel), List.mem_of_getElem? (i := 434) (by decide +kernel)⟩
theorem lw_p3 : lw_okq (⟨"HeronBook$Reader", "keyword", "()I"⟩, 14) := ⟨⟨by decide +kernel, by decide +kernel⟩, List.mem_of_getElem? (i := 136) (by decide +kernel), List.mem_of_getElem? (i := 440) (by decide +kernel), List.mem_of_getElem? (i := 441) (by decide +kernel)⟩
theorem lw_p4 : lw_okq (⟨"HeronBook$Reader", "isWord", "(Ljava/lang/String;)Z"⟩, 14) := ⟨⟨by decide +kernel, by decide +kernel⟩, List.mem_of_getElem? (i := 136) (by decide +kernel), List.mem_of_getElem? (i := 445) (by decide +kernel), List.mem_of_getElem? (i := 446) (by decide +kernel)⟩
theorem lw_p5 : lw_okq (⟨"HeronBook$Reader", "mayBegin", "(I)Z"⟩, 14) := ⟨⟨by decide +kernel, by decide +kernel⟩, List.mem_of_getElem? (i := 136) (by decide +kernel), List.mem_of_getElem? (i := 507) (by decide +kernel), List.mem_of_getElem? (i := 508) (by decide +kernel)⟩
theorem lw_p6 : lw_okq (⟨"HeronBook$Reader", "refuse", "(I)Z"⟩, 14) := ⟨⟨by decide +kernel, by decide +kernel⟩, List.mem_of_getElem? (i := 136) (by decide +kernel), List.mem_of_getElem? (i := 511) (by decide +kernel), List.mem_of_getElem? (i := 512) (by decide +kernel)⟩
theorem lw_p7 : lw_okq (⟨"HeronBook$Reader", "readBody", "(I)Z"⟩, 14) := ⟨⟨by decide +kernel, by decide +kernel⟩, List.mem_of_getElem? (i := 136) (by decide +kernel), List.mem_of_getElem? (i := 518) (by decide +kernel), List.mem_of_getElem? (i := 519) (by decide +kernel)⟩
theorem lw_p8 : lw_okq (⟨"HeronBook$Reader", "readTraits", "(LHeronBook$Names;I[I)Z"⟩, 14) := ⟨⟨by decide +kernel, by decide +kernel⟩, List.mem_of_getElem? (i := 136) (by decide +kernel), List.mem_of_getElem? (i := 522) (by decide +kernel), List.mem_of_getElem? (i := 523) (by decide +kernel)⟩
theorem lw_p9 : lw_okq (⟨"HeronBook$Reader", "readNewName", "(LHeronBook$Names;)Z"⟩, 14) := ⟨⟨by decide +kernel, by decide +kernel⟩, List.mem_of_getElem? (i := 136) (by decide +kernel), List.mem_of_getElem? (i := 526) (by decide +kernel), List.mem_of_getElem? (i := 527) (by decide +kernel)⟩
theorem lw_p10 : lw_okq (⟨"HeronBook$Reader", "readSet", "()Z"⟩, 14) := ⟨⟨by decide +kernel, by decide +kernel⟩, List.mem_of_getElem? (i := 136) (by decide +kernel), List.mem_of_getElem? (i := 541) (by decide +kernel), List.mem_of_getElem? (i := 542) (by decide +kernel)⟩
theorem lw_p11 : lw_okq (⟨"HeronBook$Reader", "readPlace", "()Z"⟩, 14) := ⟨⟨by decide +kernel, by decide +kernel⟩, List.mem_of_getElem? (i := 136) (by decide +kernel), List.mem_of_getElem? (i := 545) (by decide +kernel), List.mem_of_getElem? (i := 546) (by decide +kernel)⟩
theorem lw_p12 : lw_okq (⟨"HeronBook$Reader", "readTie", "()Z"⟩, 14) := ⟨⟨by decide +kernel, by decide +kernel⟩, List.mem_of_getElem? (i := 136) (by decide +kernel), List.mem_of_getElem? (i := 549) (by decide +kernel), List.mem_of_getElem? (i := 550) (by decide +kernel)⟩
theorem lw_p13 : lw_okq (⟨"HeronBook$Reader", "readNumber", "(II)Z"⟩, 14) := ⟨⟨by decide +kernel, by decide +kernel⟩, List.mem_of_getElem? (i := 136) (by decide +kernel), List.mem_of_getElem? (i := 553) (by decide +kernel), List.mem_of_getElem? (i := 554) (by decide +kernel)⟩
theorem lw_p14 : lw_okq (⟨"HeronBook$Reader", "readHearer", "()Z"⟩, 14) := ⟨⟨by decide +kernel, by decide +kernel⟩, List.mem_of_getElem? (i := 136) (by decide +kernel), List.mem_of_getElem? (i := 557) (by decide +kernel), List.mem_of_getElem? (i := 558) (by decide +kernel)⟩
theorem lw_p15 : lw_okq (⟨"HeronBook$Reader", "readWeight", "()Z"⟩, 14) := ⟨⟨by decide +kernel, by decide +kernel⟩, List.mem_of_getElem? (i := 136) (by decide +kernel), List.mem_of_getElem? (i := 561) (by decide +kernel), List.mem_of_getElem? (i := 562) (by decide +kernel)⟩
def lw_privs_1 : List (MethodName × Nat) := [(⟨"HeronBook$Book", "sumGroups", "()V"⟩, 13), (⟨"HeronBook$Reader", "begin", "(LHeronBook$Tape;)V"⟩, 14), (⟨"HeronBook$Reader", "advance", "()V"⟩, 14), (⟨"HeronBook$Reader", "keyword", "()I"⟩, 14), (⟨"HeronBook$Reader", "isWord", "(Ljava/lang/String;)Z"⟩, 14), (⟨"HeronBook$Reader", "mayBegin", "(I)Z"⟩, 14), (⟨"HeronBook$Reader", "refuse", "(I)Z"⟩, 14), (⟨"HeronBook$Reader", "readBody", "(I)Z"⟩, 14), (⟨"HeronBook$Reader", "readTraits", "(LHeronBook$Names;I[I)Z"⟩, 14), (⟨"HeronBook$Reader", "readNewName", "(LHeronBook$Names;)Z"⟩, 14), (⟨"HeronBook$Reader", "readSet", "()Z"⟩, 14), (⟨"HeronBook$Reader", "readPlace", "()Z"⟩, 14), (⟨"HeronBook$Reader", "readTie", "()Z"⟩, 14), (⟨"HeronBook$Reader", "readNumber", "(II)Z"⟩, 14), (⟨"HeronBook$Reader", "readHearer", "()Z"⟩, 14), (⟨"HeronBook$Reader", "readWeight", "()Z"⟩, 14)]
theorem lw_r1 : ∀ q ∈ lw_privs_1, lw_okq q := List.forall_mem_cons.mpr ⟨lw_p0, List.forall_mem_cons.mpr ⟨lw_p1, List.forall_mem_cons.mpr ⟨lw_p2, List.forall_mem_cons.mpr ⟨lw_p3, List.forall_mem_cons.mpr ⟨lw_p4, List.forall_mem_cons.mpr ⟨lw_p5, List.forall_mem_cons.mpr ⟨lw_p6, List.forall_mem_cons.mpr ⟨lw_p7, List.forall_mem_cons.mpr ⟨lw_p8, List.forall_mem_cons.mpr ⟨lw_p9, List.forall_mem_cons.mpr ⟨lw_p10, List.forall_mem_cons.mpr ⟨lw_p11, List.forall_mem_cons.mpr ⟨lw_p12, List.forall_mem_cons.mpr ⟨lw_p13, List.forall_mem_cons.mpr ⟨lw_p14, List.forall_mem_cons.mpr ⟨lw_p15, fun _ h => absurd h List.not_mem_nil⟩⟩⟩⟩⟩⟩⟩⟩⟩⟩⟩⟩⟩⟩⟩⟩
theorem lw_p16 : lw_okq (⟨"HeronBook$Reader", "readSetting", "(I)Z"⟩, 14) := ⟨⟨by decide +kernel, by decide +kernel⟩, List.mem_of_getElem? (i := 136) (by decide +kernel), List.mem_of_getElem? (i := 569) (by decide +kernel), List.mem_of_getElem? (i := 570) (by decide +kernel)⟩
theorem lw_p17 : lw_okq (⟨"HeronBook$Reader", "readSemicolon", "()Z"⟩, 14) := ⟨⟨by decide +kernel, by decide +kernel⟩, List.mem_of_getElem? (i := 136) (by decide +kernel), List.mem_of_getElem? (i := 573) (by decide +kernel), List.mem_of_getElem? (i := 574) (by decide +kernel)⟩
theorem lw_p18 : lw_okq (⟨"HeronBook", "wordsAreFit", "(IIII)Z"⟩, 10) := ⟨⟨by decide +kernel, by decide +kernel⟩, List.mem_of_getElem? (i := 21) (by decide +kernel), List.mem_of_getElem? (i := 624) (by decide +kernel), List.mem_of_getElem? (i := 625) (by decide +kernel)⟩
theorem lw_p19 : lw_okq (⟨"HeronBook$Search", "begin", "(LHeronBook$Rendering;I)V"⟩, 10) := ⟨⟨by decide +kernel, by decide +kernel⟩, List.mem_of_getElem? (i := 243) (by decide +kernel), List.mem_of_getElem? (i := 758) (by decide +kernel), List.mem_of_getElem? (i := 759) (by decide +kernel)⟩
theorem lw_p20 : lw_okq (⟨"HeronBook$Search", "obeyTie", "(LHeronBook$Rendering;I)V"⟩, 10) := ⟨⟨by decide +kernel, by decide +kernel⟩, List.mem_of_getElem? (i := 243) (by decide +kernel), List.mem_of_getElem? (i := 776) (by decide +kernel), List.mem_of_getElem? (i := 777) (by decide +kernel)⟩
theorem lw_p21 : lw_okq (⟨"HeronBook$Search", "levelOf", "(I)I"⟩, 10) := ⟨⟨by decide +kernel, by decide +kernel⟩, List.mem_of_getElem? (i := 243) (by decide +kernel), List.mem_of_getElem? (i := 780) (by decide +kernel), List.mem_of_getElem? (i := 781) (by decide +kernel)⟩
theorem lw_p22 : lw_okq (⟨"HeronBook$Search", "obeyInside", "(LHeronBook$Rendering;III)V"⟩, 10) := ⟨⟨by decide +kernel, by decide +kernel⟩, List.mem_of_getElem? (i := 243) (by decide +kernel), List.mem_of_getElem? (i := 790) (by decide +kernel), List.mem_of_getElem? (i := 791) (by decide +kernel)⟩
theorem lw_p23 : lw_okq (⟨"HeronBook$Search", "obeyOutside", "(LHeronBook$Rendering;II)V"⟩, 10) := ⟨⟨by decide +kernel, by decide +kernel⟩, List.mem_of_getElem? (i := 243) (by decide +kernel), List.mem_of_getElem? (i := 797) (by decide +kernel), List.mem_of_getElem? (i := 798) (by decide +kernel)⟩
theorem lw_p24 : lw_okq (⟨"HeronBook$Search", "settle", "(II)V"⟩, 10) := ⟨⟨by decide +kernel, by decide +kernel⟩, List.mem_of_getElem? (i := 243) (by decide +kernel), List.mem_of_getElem? (i := 802) (by decide +kernel), List.mem_of_getElem? (i := 803) (by decide +kernel)⟩
theorem lw_p25 : lw_okq (⟨"HeronBook$Search", "narrow", "(II)I"⟩, 10) := ⟨⟨by decide +kernel, by decide +kernel⟩, List.mem_of_getElem? (i := 243) (by decide +kernel), List.mem_of_getElem? (i := 807) (by decide +kernel), List.mem_of_getElem? (i := 808) (by decide +kernel)⟩
theorem lw_p26 : lw_okq (⟨"HeronBook$Search", "leastOf", "(II)I"⟩, 10) := ⟨⟨by decide +kernel, by decide +kernel⟩, List.mem_of_getElem? (i := 243) (by decide +kernel), List.mem_of_getElem? (i := 811) (by decide +kernel), List.mem_of_getElem? (i := 812) (by decide +kernel)⟩
theorem lw_p27 : lw_okq (⟨"HeronBook$Rendering", "exchangeAt", "(I)Z"⟩, 6) := ⟨⟨by decide +kernel, by decide +kernel⟩, List.mem_of_getElem? (i := 207) (by decide +kernel), List.mem_of_getElem? (i := 828) (by decide +kernel), List.mem_of_getElem? (i := 829) (by decide +kernel)⟩
theorem lw_p28 : lw_okq (⟨"HeronBook$Rendering", "clashesAt", "(IIZ)I"⟩, 6) := ⟨⟨by decide +kernel, by decide +kernel⟩, List.mem_of_getElem? (i := 207) (by decide +kernel), List.mem_of_getElem? (i := 832) (by decide +kernel), List.mem_of_getElem? (i := 833) (by decide +kernel)⟩
theorem lw_p29 : lw_okq (⟨"HeronBook$Rendering", "untoldLacks", "(I)I"⟩, 6) := ⟨⟨by decide +kernel, by decide +kernel⟩, List.mem_of_getElem? (i := 207) (by decide +kernel), List.mem_of_getElem? (i := 877) (by decide +kernel), List.mem_of_getElem? (i := 878) (by decide +kernel)⟩
theorem lw_p30 : lw_okq (⟨"HeronBook", "whyNotHeard", "(II)I"⟩, 10) := ⟨⟨by decide +kernel, by decide +kernel⟩, List.mem_of_getElem? (i := 21) (by decide +kernel), List.mem_of_getElem? (i := 886) (by decide +kernel), List.mem_of_getElem? (i := 887) (by decide +kernel)⟩
theorem lw_p31 : lw_okq (⟨"HeronBook$Four", "costOf", "(II)I"⟩, 1) := ⟨⟨by decide +kernel, by decide +kernel⟩, List.mem_of_getElem? (i := 283) (by decide +kernel), List.mem_of_getElem? (i := 961) (by decide +kernel), List.mem_of_getElem? (i := 962) (by decide +kernel)⟩
def lw_privs_2 : List (MethodName × Nat) := [(⟨"HeronBook$Reader", "readSetting", "(I)Z"⟩, 14), (⟨"HeronBook$Reader", "readSemicolon", "()Z"⟩, 14), (⟨"HeronBook", "wordsAreFit", "(IIII)Z"⟩, 10), (⟨"HeronBook$Search", "begin", "(LHeronBook$Rendering;I)V"⟩, 10), (⟨"HeronBook$Search", "obeyTie", "(LHeronBook$Rendering;I)V"⟩, 10), (⟨"HeronBook$Search", "levelOf", "(I)I"⟩, 10), (⟨"HeronBook$Search", "obeyInside", "(LHeronBook$Rendering;III)V"⟩, 10), (⟨"HeronBook$Search", "obeyOutside", "(LHeronBook$Rendering;II)V"⟩, 10), (⟨"HeronBook$Search", "settle", "(II)V"⟩, 10), (⟨"HeronBook$Search", "narrow", "(II)I"⟩, 10), (⟨"HeronBook$Search", "leastOf", "(II)I"⟩, 10), (⟨"HeronBook$Rendering", "exchangeAt", "(I)Z"⟩, 6), (⟨"HeronBook$Rendering", "clashesAt", "(IIZ)I"⟩, 6), (⟨"HeronBook$Rendering", "untoldLacks", "(I)I"⟩, 6), (⟨"HeronBook", "whyNotHeard", "(II)I"⟩, 10), (⟨"HeronBook$Four", "costOf", "(II)I"⟩, 1)]
theorem lw_r2 : ∀ q ∈ lw_privs_2, lw_okq q := List.forall_mem_cons.mpr ⟨lw_p16, List.forall_mem_cons.mpr ⟨lw_p17, List.forall_mem_cons.mpr ⟨lw_p18, List.forall_mem_cons.mpr ⟨lw_p19, List.forall_mem_cons.mpr ⟨lw_p20, List.forall_mem_cons.mpr ⟨lw_p21, List.forall_mem_cons.mpr ⟨lw_p22, List.forall_mem_cons.mpr ⟨lw_p23, List.forall_mem_cons.mpr ⟨lw_p24, List.forall_mem_cons.mpr ⟨lw_p25, List.forall_mem_cons.mpr ⟨lw_p26, List.forall_mem_cons.mpr ⟨lw_p27, List.forall_mem_cons.mpr ⟨lw_p28, List.forall_mem_cons.mpr ⟨lw_p29, List.forall_mem_cons.mpr ⟨lw_p30, List.forall_mem_cons.mpr ⟨lw_p31, fun _ h => absurd h List.not_mem_nil⟩⟩⟩⟩⟩⟩⟩⟩⟩⟩⟩⟩⟩⟩⟩⟩
theorem lw_p32 : lw_okq (⟨"HeronBook$Laughs", "fitsAll", "(III)Z"⟩, 14) := ⟨⟨by decide +kernel, by decide +kernel⟩, List.mem_of_getElem? (i := 322) (by decide +kernel), List.mem_of_getElem? (i := 1054) (by decide +kernel), List.mem_of_getElem? (i := 1055) (by decide +kernel)⟩
theorem lw_p33 : lw_okq (⟨"HeronBookModel", "begin", "()V"⟩, 59) := ⟨⟨by decide +kernel, by decide +kernel⟩, List.mem_of_getElem? (i := 1083) (by decide +kernel), List.mem_of_getElem? (i := 1089) (by decide +kernel), List.mem_of_getElem? (i := 1090) (by decide +kernel)⟩
theorem lw_p34 : lw_okq (⟨"HeronBookModel", "settle", "()V"⟩, 59) := ⟨⟨by decide +kernel, by decide +kernel⟩, List.mem_of_getElem? (i := 1083) (by decide +kernel), List.mem_of_getElem? (i := 1093) (by decide +kernel), List.mem_of_getElem? (i := 1094) (by decide +kernel)⟩
theorem lw_p35 : lw_okq (⟨"HeronBookModel", "scan", "()V"⟩, 59) := ⟨⟨by decide +kernel, by decide +kernel⟩, List.mem_of_getElem? (i := 1083) (by decide +kernel), List.mem_of_getElem? (i := 1295) (by decide +kernel), List.mem_of_getElem? (i := 1296) (by decide +kernel)⟩
theorem lw_p36 : lw_okq (⟨"HeronBookModel", "see", "(I)I"⟩, 59) := ⟨⟨by decide +kernel, by decide +kernel⟩, List.mem_of_getElem? (i := 1083) (by decide +kernel), List.mem_of_getElem? (i := 1299) (by decide +kernel), List.mem_of_getElem? (i := 1300) (by decide +kernel)⟩
theorem lw_p37 : lw_okq (⟨"HeronBookModel", "keyAt", "(II)I"⟩, 59) := ⟨⟨by decide +kernel, by decide +kernel⟩, List.mem_of_getElem? (i := 1083) (by decide +kernel), List.mem_of_getElem? (i := 1308) (by decide +kernel), List.mem_of_getElem? (i := 1309) (by decide +kernel)⟩
theorem lw_p38 : lw_okq (⟨"HeronBookModel", "readClause", "()Z"⟩, 59) := ⟨⟨by decide +kernel, by decide +kernel⟩, List.mem_of_getElem? (i := 1083) (by decide +kernel), List.mem_of_getElem? (i := 1318) (by decide +kernel), List.mem_of_getElem? (i := 1319) (by decide +kernel)⟩
theorem lw_p39 : lw_okq (⟨"HeronBookModel", "readName", "(III)Z"⟩, 59) := ⟨⟨by decide +kernel, by decide +kernel⟩, List.mem_of_getElem? (i := 1083) (by decide +kernel), List.mem_of_getElem? (i := 1322) (by decide +kernel), List.mem_of_getElem? (i := 1323) (by decide +kernel)⟩
theorem lw_p40 : lw_okq (⟨"HeronBookModel", "fails", "(I)Z"⟩, 59) := ⟨⟨by decide +kernel, by decide +kernel⟩, List.mem_of_getElem? (i := 1083) (by decide +kernel), List.mem_of_getElem? (i := 1326) (by decide +kernel), List.mem_of_getElem? (i := 1327) (by decide +kernel)⟩
theorem lw_p41 : lw_okq (⟨"HeronBookModel", "named", "(II)I"⟩, 59) := ⟨⟨by decide +kernel, by decide +kernel⟩, List.mem_of_getElem? (i := 1083) (by decide +kernel), List.mem_of_getElem? (i := 1330) (by decide +kernel), List.mem_of_getElem? (i := 1331) (by decide +kernel)⟩
theorem lw_p42 : lw_okq (⟨"HeronBookModel", "readSet", "()Z"⟩, 59) := ⟨⟨by decide +kernel, by decide +kernel⟩, List.mem_of_getElem? (i := 1083) (by decide +kernel), List.mem_of_getElem? (i := 1334) (by decide +kernel), List.mem_of_getElem? (i := 1335) (by decide +kernel)⟩
theorem lw_p43 : lw_okq (⟨"HeronBookModel", "setHere", "()I"⟩, 59) := ⟨⟨by decide +kernel, by decide +kernel⟩, List.mem_of_getElem? (i := 1083) (by decide +kernel), List.mem_of_getElem? (i := 1338) (by decide +kernel), List.mem_of_getElem? (i := 1339) (by decide +kernel)⟩
theorem lw_p44 : lw_okq (⟨"HeronBookModel", "readPlace", "()Z"⟩, 59) := ⟨⟨by decide +kernel, by decide +kernel⟩, List.mem_of_getElem? (i := 1083) (by decide +kernel), List.mem_of_getElem? (i := 1342) (by decide +kernel), List.mem_of_getElem? (i := 1343) (by decide +kernel)⟩
theorem lw_p45 : lw_okq (⟨"HeronBookModel", "readTie", "()Z"⟩, 59) := ⟨⟨by decide +kernel, by decide +kernel⟩, List.mem_of_getElem? (i := 1083) (by decide +kernel), List.mem_of_getElem? (i := 1346) (by decide +kernel), List.mem_of_getElem? (i := 1347) (by decide +kernel)⟩
theorem lw_p46 : lw_okq (⟨"HeronBookModel", "readNumber", "(II)Z"⟩, 59) := ⟨⟨by decide +kernel, by decide +kernel⟩, List.mem_of_getElem? (i := 1083) (by decide +kernel), List.mem_of_getElem? (i := 1350) (by decide +kernel), List.mem_of_getElem? (i := 1351) (by decide +kernel)⟩
theorem lw_p47 : lw_okq (⟨"HeronBookModel", "readHearer", "()Z"⟩, 59) := ⟨⟨by decide +kernel, by decide +kernel⟩, List.mem_of_getElem? (i := 1083) (by decide +kernel), List.mem_of_getElem? (i := 1357) (by decide +kernel), List.mem_of_getElem? (i := 1358) (by decide +kernel)⟩
def lw_privs_3 : List (MethodName × Nat) := [(⟨"HeronBook$Laughs", "fitsAll", "(III)Z"⟩, 14), (⟨"HeronBookModel", "begin", "()V"⟩, 59), (⟨"HeronBookModel", "settle", "()V"⟩, 59), (⟨"HeronBookModel", "scan", "()V"⟩, 59), (⟨"HeronBookModel", "see", "(I)I"⟩, 59), (⟨"HeronBookModel", "keyAt", "(II)I"⟩, 59), (⟨"HeronBookModel", "readClause", "()Z"⟩, 59), (⟨"HeronBookModel", "readName", "(III)Z"⟩, 59), (⟨"HeronBookModel", "fails", "(I)Z"⟩, 59), (⟨"HeronBookModel", "named", "(II)I"⟩, 59), (⟨"HeronBookModel", "readSet", "()Z"⟩, 59), (⟨"HeronBookModel", "setHere", "()I"⟩, 59), (⟨"HeronBookModel", "readPlace", "()Z"⟩, 59), (⟨"HeronBookModel", "readTie", "()Z"⟩, 59), (⟨"HeronBookModel", "readNumber", "(II)Z"⟩, 59), (⟨"HeronBookModel", "readHearer", "()Z"⟩, 59)]
theorem lw_r3 : ∀ q ∈ lw_privs_3, lw_okq q := List.forall_mem_cons.mpr ⟨lw_p32, List.forall_mem_cons.mpr ⟨lw_p33, List.forall_mem_cons.mpr ⟨lw_p34, List.forall_mem_cons.mpr ⟨lw_p35, List.forall_mem_cons.mpr ⟨lw_p36, List.forall_mem_cons.mpr ⟨lw_p37, List.forall_mem_cons.mpr ⟨lw_p38, List.forall_mem_cons.mpr ⟨lw_p39, List.forall_mem_cons.mpr ⟨lw_p40, List.forall_mem_cons.mpr ⟨lw_p41, List.forall_mem_cons.mpr ⟨lw_p42, List.forall_mem_cons.mpr ⟨lw_p43, List.forall_mem_cons.mpr ⟨lw_p44, List.forall_mem_cons.mpr ⟨lw_p45, List.forall_mem_cons.mpr ⟨lw_p46, List.forall_mem_cons.mpr ⟨lw_p47, fun _ h => absurd h List.not_mem_nil⟩⟩⟩⟩⟩⟩⟩⟩⟩⟩⟩⟩⟩⟩⟩⟩
theorem lw_p48 : lw_okq (⟨"HeronBookModel", "readWeight", "()Z"⟩, 59) := ⟨⟨by decide +kernel, by decide +kernel⟩, List.mem_of_getElem? (i := 1083) (by decide +kernel), List.mem_of_getElem? (i := 1361) (by decide +kernel), List.mem_of_getElem? (i := 1362) (by decide +kernel)⟩
theorem lw_p49 : lw_okq (⟨"HeronBookModel", "readTold", "(I)Z"⟩, 59) := ⟨⟨by decide +kernel, by decide +kernel⟩, List.mem_of_getElem? (i := 1083) (by decide +kernel), List.mem_of_getElem? (i := 1365) (by decide +kernel), List.mem_of_getElem? (i := 1366) (by decide +kernel)⟩
theorem lw_p50 : lw_okq (⟨"HeronBookModel", "isNotion", "(I)Z"⟩, 59) := ⟨⟨by decide +kernel, by decide +kernel⟩, List.mem_of_getElem? (i := 1083) (by decide +kernel), List.mem_of_getElem? (i := 1377) (by decide +kernel), List.mem_of_getElem? (i := 1378) (by decide +kernel)⟩
theorem lw_p51 : lw_okq (⟨"HeronBookModel", "isWord", "(I)Z"⟩, 59) := ⟨⟨by decide +kernel, by decide +kernel⟩, List.mem_of_getElem? (i := 1083) (by decide +kernel), List.mem_of_getElem? (i := 1381) (by decide +kernel), List.mem_of_getElem? (i := 1382) (by decide +kernel)⟩
theorem lw_p52 : lw_okq (⟨"HeronBookModel", "isPlace", "(I)Z"⟩, 59) := ⟨⟨by decide +kernel, by decide +kernel⟩, List.mem_of_getElem? (i := 1083) (by decide +kernel), List.mem_of_getElem? (i := 1385) (by decide +kernel), List.mem_of_getElem? (i := 1386) (by decide +kernel)⟩
theorem lw_p53 : lw_okq (⟨"HeronBookModel", "isTie", "(I)Z"⟩, 59) := ⟨⟨by decide +kernel, by decide +kernel⟩, List.mem_of_getElem? (i := 1083) (by decide +kernel), List.mem_of_getElem? (i := 1389) (by decide +kernel), List.mem_of_getElem? (i := 1390) (by decide +kernel)⟩
theorem lw_p54 : lw_okq (⟨"HeronBookModel", "isHearer", "(I)Z"⟩, 59) := ⟨⟨by decide +kernel, by decide +kernel⟩, List.mem_of_getElem? (i := 1083) (by decide +kernel), List.mem_of_getElem? (i := 1393) (by decide +kernel), List.mem_of_getElem? (i := 1394) (by decide +kernel)⟩
theorem lw_p55 : lw_okq (⟨"HeronBookModel", "put", "(IIIII)V"⟩, 59) := ⟨⟨by decide +kernel, by decide +kernel⟩, List.mem_of_getElem? (i := 1083) (by decide +kernel), List.mem_of_getElem? (i := 1405) (by decide +kernel), List.mem_of_getElem? (i := 1406) (by decide +kernel)⟩
theorem lw_p56 : lw_okq (⟨"HeronBookModel", "lostAt", "(II)I"⟩, 59) := ⟨⟨by decide +kernel, by decide +kernel⟩, List.mem_of_getElem? (i := 1083) (by decide +kernel), List.mem_of_getElem? (i := 1409) (by decide +kernel), List.mem_of_getElem? (i := 1410) (by decide +kernel)⟩
theorem lw_p57 : lw_okq (⟨"HeronBookModel", "lackAt", "(II)I"⟩, 59) := ⟨⟨by decide +kernel, by decide +kernel⟩, List.mem_of_getElem? (i := 1083) (by decide +kernel), List.mem_of_getElem? (i := 1413) (by decide +kernel), List.mem_of_getElem? (i := 1414) (by decide +kernel)⟩
theorem lw_p58 : lw_okq (⟨"HeronBookModel", "had", "(II)I"⟩, 59) := ⟨⟨by decide +kernel, by decide +kernel⟩, List.mem_of_getElem? (i := 1083) (by decide +kernel), List.mem_of_getElem? (i := 1417) (by decide +kernel), List.mem_of_getElem? (i := 1418) (by decide +kernel)⟩
theorem lw_p59 : lw_okq (⟨"HeronBookModel", "traitsOf", "(II)I"⟩, 59) := ⟨⟨by decide +kernel, by decide +kernel⟩, List.mem_of_getElem? (i := 1083) (by decide +kernel), List.mem_of_getElem? (i := 1421) (by decide +kernel), List.mem_of_getElem? (i := 1422) (by decide +kernel)⟩
theorem lw_p60 : lw_okq (⟨"HeronBookModel", "weigh", "(I)I"⟩, 59) := ⟨⟨by decide +kernel, by decide +kernel⟩, List.mem_of_getElem? (i := 1083) (by decide +kernel), List.mem_of_getElem? (i := 1425) (by decide +kernel), List.mem_of_getElem? (i := 1426) (by decide +kernel)⟩
theorem lw_p61 : lw_okq (⟨"HeronBookModel", "addAt", "(II)I"⟩, 59) := ⟨⟨by decide +kernel, by decide +kernel⟩, List.mem_of_getElem? (i := 1083) (by decide +kernel), List.mem_of_getElem? (i := 1429) (by decide +kernel), List.mem_of_getElem? (i := 1430) (by decide +kernel)⟩
theorem lw_p62 : lw_okq (⟨"HeronBookModel", "notedAll", "()I"⟩, 59) := ⟨⟨by decide +kernel, by decide +kernel⟩, List.mem_of_getElem? (i := 1083) (by decide +kernel), List.mem_of_getElem? (i := 1449) (by decide +kernel), List.mem_of_getElem? (i := 1450) (by decide +kernel)⟩
theorem lw_p63 : lw_okq (⟨"HeronBookModel", "lostAll", "(I)I"⟩, 59) := ⟨⟨by decide +kernel, by decide +kernel⟩, List.mem_of_getElem? (i := 1083) (by decide +kernel), List.mem_of_getElem? (i := 1460) (by decide +kernel), List.mem_of_getElem? (i := 1461) (by decide +kernel)⟩
def lw_privs_4 : List (MethodName × Nat) := [(⟨"HeronBookModel", "readWeight", "()Z"⟩, 59), (⟨"HeronBookModel", "readTold", "(I)Z"⟩, 59), (⟨"HeronBookModel", "isNotion", "(I)Z"⟩, 59), (⟨"HeronBookModel", "isWord", "(I)Z"⟩, 59), (⟨"HeronBookModel", "isPlace", "(I)Z"⟩, 59), (⟨"HeronBookModel", "isTie", "(I)Z"⟩, 59), (⟨"HeronBookModel", "isHearer", "(I)Z"⟩, 59), (⟨"HeronBookModel", "put", "(IIIII)V"⟩, 59), (⟨"HeronBookModel", "lostAt", "(II)I"⟩, 59), (⟨"HeronBookModel", "lackAt", "(II)I"⟩, 59), (⟨"HeronBookModel", "had", "(II)I"⟩, 59), (⟨"HeronBookModel", "traitsOf", "(II)I"⟩, 59), (⟨"HeronBookModel", "weigh", "(I)I"⟩, 59), (⟨"HeronBookModel", "addAt", "(II)I"⟩, 59), (⟨"HeronBookModel", "notedAll", "()I"⟩, 59), (⟨"HeronBookModel", "lostAll", "(I)I"⟩, 59)]
theorem lw_r4 : ∀ q ∈ lw_privs_4, lw_okq q := List.forall_mem_cons.mpr ⟨lw_p48, List.forall_mem_cons.mpr ⟨lw_p49, List.forall_mem_cons.mpr ⟨lw_p50, List.forall_mem_cons.mpr ⟨lw_p51, List.forall_mem_cons.mpr ⟨lw_p52, List.forall_mem_cons.mpr ⟨lw_p53, List.forall_mem_cons.mpr ⟨lw_p54, List.forall_mem_cons.mpr ⟨lw_p55, List.forall_mem_cons.mpr ⟨lw_p56, List.forall_mem_cons.mpr ⟨lw_p57, List.forall_mem_cons.mpr ⟨lw_p58, List.forall_mem_cons.mpr ⟨lw_p59, List.forall_mem_cons.mpr ⟨lw_p60, List.forall_mem_cons.mpr ⟨lw_p61, List.forall_mem_cons.mpr ⟨lw_p62, List.forall_mem_cons.mpr ⟨lw_p63, fun _ h => absurd h List.not_mem_nil⟩⟩⟩⟩⟩⟩⟩⟩⟩⟩⟩⟩⟩⟩⟩⟩
theorem lw_p64 : lw_okq (⟨"HeronBookModel", "isClash", "(I)Z"⟩, 59) := ⟨⟨by decide +kernel, by decide +kernel⟩, List.mem_of_getElem? (i := 1083) (by decide +kernel), List.mem_of_getElem? (i := 1468) (by decide +kernel), List.mem_of_getElem? (i := 1469) (by decide +kernel)⟩
theorem lw_p65 : lw_okq (⟨"HeronBookModel", "layRow", "(II)I"⟩, 59) := ⟨⟨by decide +kernel, by decide +kernel⟩, List.mem_of_getElem? (i := 1083) (by decide +kernel), List.mem_of_getElem? (i := 1480) (by decide +kernel), List.mem_of_getElem? (i := 1481) (by decide +kernel)⟩
theorem lw_p66 : lw_okq (⟨"HeronBookModel", "putBy", "(II)V"⟩, 59) := ⟨⟨by decide +kernel, by decide +kernel⟩, List.mem_of_getElem? (i := 1083) (by decide +kernel), List.mem_of_getElem? (i := 1484) (by decide +kernel), List.mem_of_getElem? (i := 1485) (by decide +kernel)⟩
theorem lw_p67 : lw_okq (⟨"HeronBookModel", "isFree", "(I)Z"⟩, 59) := ⟨⟨by decide +kernel, by decide +kernel⟩, List.mem_of_getElem? (i := 1083) (by decide +kernel), List.mem_of_getElem? (i := 1488) (by decide +kernel), List.mem_of_getElem? (i := 1489) (by decide +kernel)⟩
theorem lw_p68 : lw_okq (⟨"HeronBookModel", "costs", "()I"⟩, 59) := ⟨⟨by decide +kernel, by decide +kernel⟩, List.mem_of_getElem? (i := 1083) (by decide +kernel), List.mem_of_getElem? (i := 1496) (by decide +kernel), List.mem_of_getElem? (i := 1497) (by decide +kernel)⟩
theorem lw_p69 : lw_okq (⟨"HeronBookModel", "oneOf", "(I)I"⟩, 59) := ⟨⟨by decide +kernel, by decide +kernel⟩, List.mem_of_getElem? (i := 1083) (by decide +kernel), List.mem_of_getElem? (i := 1505) (by decide +kernel), List.mem_of_getElem? (i := 1506) (by decide +kernel)⟩
theorem lw_p70 : lw_okq (⟨"HeronBookModel", "plainSum", "(II)I"⟩, 59) := ⟨⟨by decide +kernel, by decide +kernel⟩, List.mem_of_getElem? (i := 1083) (by decide +kernel), List.mem_of_getElem? (i := 1509) (by decide +kernel), List.mem_of_getElem? (i := 1510) (by decide +kernel)⟩
theorem lw_p71 : lw_okq (⟨"HeronBookModel", "plainAt", "(II)I"⟩, 59) := ⟨⟨by decide +kernel, by decide +kernel⟩, List.mem_of_getElem? (i := 1083) (by decide +kernel), List.mem_of_getElem? (i := 1513) (by decide +kernel), List.mem_of_getElem? (i := 1514) (by decide +kernel)⟩
theorem lw_p72 : lw_okq (⟨"HeronBookModel", "isAsked", "(II)Z"⟩, 59) := ⟨⟨by decide +kernel, by decide +kernel⟩, List.mem_of_getElem? (i := 1083) (by decide +kernel), List.mem_of_getElem? (i := 1533) (by decide +kernel), List.mem_of_getElem? (i := 1534) (by decide +kernel)⟩
theorem lw_p73 : lw_okq (⟨"HeronBookModel", "heardBy", "(II)I"⟩, 59) := ⟨⟨by decide +kernel, by decide +kernel⟩, List.mem_of_getElem? (i := 1083) (by decide +kernel), List.mem_of_getElem? (i := 1537) (by decide +kernel), List.mem_of_getElem? (i := 1538) (by decide +kernel)⟩
theorem lw_p74 : lw_okq (⟨"HeronBookModel", "backOf", "(I)I"⟩, 59) := ⟨⟨by decide +kernel, by decide +kernel⟩, List.mem_of_getElem? (i := 1083) (by decide +kernel), List.mem_of_getElem? (i := 1545) (by decide +kernel), List.mem_of_getElem? (i := 1546) (by decide +kernel)⟩
theorem lw_p75 : lw_okq (⟨"HeronBookModel", "isLaugh", "(II)Z"⟩, 59) := ⟨⟨by decide +kernel, by decide +kernel⟩, List.mem_of_getElem? (i := 1083) (by decide +kernel), List.mem_of_getElem? (i := 1553) (by decide +kernel), List.mem_of_getElem? (i := 1554) (by decide +kernel)⟩
theorem lw_p76 : lw_okq (⟨"HeronBookModel", "hitsOf", "(I)I"⟩, 59) := ⟨⟨by decide +kernel, by decide +kernel⟩, List.mem_of_getElem? (i := 1083) (by decide +kernel), List.mem_of_getElem? (i := 1561) (by decide +kernel), List.mem_of_getElem? (i := 1562) (by decide +kernel)⟩
theorem lw_p77 : lw_okq (⟨"HeronBookModel", "store", "(I)V"⟩, 59) := ⟨⟨by decide +kernel, by decide +kernel⟩, List.mem_of_getElem? (i := 1083) (by decide +kernel), List.mem_of_getElem? (i := 1576) (by decide +kernel), List.mem_of_getElem? (i := 1577) (by decide +kernel)⟩
theorem lw_p78 : lw_okq (⟨"HeronBookModel", "load", "(I)V"⟩, 59) := ⟨⟨by decide +kernel, by decide +kernel⟩, List.mem_of_getElem? (i := 1083) (by decide +kernel), List.mem_of_getElem? (i := 1584) (by decide +kernel), List.mem_of_getElem? (i := 1585) (by decide +kernel)⟩
theorem lw_p79 : lw_okq (⟨"HeronBookModel", "makeFits", "(II)I"⟩, 59) := ⟨⟨by decide +kernel, by decide +kernel⟩, List.mem_of_getElem? (i := 1083) (by decide +kernel), List.mem_of_getElem? (i := 1632) (by decide +kernel), List.mem_of_getElem? (i := 1633) (by decide +kernel)⟩
def lw_privs_5 : List (MethodName × Nat) := [(⟨"HeronBookModel", "isClash", "(I)Z"⟩, 59), (⟨"HeronBookModel", "layRow", "(II)I"⟩, 59), (⟨"HeronBookModel", "putBy", "(II)V"⟩, 59), (⟨"HeronBookModel", "isFree", "(I)Z"⟩, 59), (⟨"HeronBookModel", "costs", "()I"⟩, 59), (⟨"HeronBookModel", "oneOf", "(I)I"⟩, 59), (⟨"HeronBookModel", "plainSum", "(II)I"⟩, 59), (⟨"HeronBookModel", "plainAt", "(II)I"⟩, 59), (⟨"HeronBookModel", "isAsked", "(II)Z"⟩, 59), (⟨"HeronBookModel", "heardBy", "(II)I"⟩, 59), (⟨"HeronBookModel", "backOf", "(I)I"⟩, 59), (⟨"HeronBookModel", "isLaugh", "(II)Z"⟩, 59), (⟨"HeronBookModel", "hitsOf", "(I)I"⟩, 59), (⟨"HeronBookModel", "store", "(I)V"⟩, 59), (⟨"HeronBookModel", "load", "(I)V"⟩, 59), (⟨"HeronBookModel", "makeFits", "(II)I"⟩, 59)]
theorem lw_r5 : ∀ q ∈ lw_privs_5, lw_okq q := List.forall_mem_cons.mpr ⟨lw_p64, List.forall_mem_cons.mpr ⟨lw_p65, List.forall_mem_cons.mpr ⟨lw_p66, List.forall_mem_cons.mpr ⟨lw_p67, List.forall_mem_cons.mpr ⟨lw_p68, List.forall_mem_cons.mpr ⟨lw_p69, List.forall_mem_cons.mpr ⟨lw_p70, List.forall_mem_cons.mpr ⟨lw_p71, List.forall_mem_cons.mpr ⟨lw_p72, List.forall_mem_cons.mpr ⟨lw_p73, List.forall_mem_cons.mpr ⟨lw_p74, List.forall_mem_cons.mpr ⟨lw_p75, List.forall_mem_cons.mpr ⟨lw_p76, List.forall_mem_cons.mpr ⟨lw_p77, List.forall_mem_cons.mpr ⟨lw_p78, List.forall_mem_cons.mpr ⟨lw_p79, fun _ h => absurd h List.not_mem_nil⟩⟩⟩⟩⟩⟩⟩⟩⟩⟩⟩⟩⟩⟩⟩⟩
def lw_privs : List (MethodName × Nat) := lw_privs_1 ++ (lw_privs_2 ++ (lw_privs_3 ++ (lw_privs_4 ++ (lw_privs_5))))
def lw_tbl : List Cond := k2_sels lw_privs ++ tables_1
theorem lw_privs_ok : ∀ q ∈ lw_privs, lw_okq q := by
  show ∀ q ∈ lw_privs_1 ++ (lw_privs_2 ++ (lw_privs_3 ++ (lw_privs_4 ++ (lw_privs_5)))), lw_okq q
  exact List.forall_mem_append.mpr ⟨lw_r1, List.forall_mem_append.mpr ⟨lw_r2, List.forall_mem_append.mpr ⟨lw_r3, List.forall_mem_append.mpr ⟨lw_r4, lw_r5⟩⟩⟩⟩
def RX0 : String := "HeronBook$Book"
def TX0 : u_T := fun k => match k with
  | 0 => ("HeronBook$Book", "counts", "[I", true)
  | 1 => ("HeronBook$Book", "settings", "[I", true)
  | 2 => ("HeronBook$Book", "weights", "[I", true)
  | 3 => ("HeronBook$Book", "groupSums", "[I", true)
  | 4 => ("HeronBook$Book", "notionTraits", "[I", true)
  | 5 => ("HeronBook$Book", "wordTraits", "[I", true)
  | 6 => ("HeronBook$Book", "placeNotion", "[I", true)
  | 7 => ("HeronBook$Book", "placeBears", "[I", true)
  | 8 => ("HeronBook$Book", "tieFirst", "[I", true)
  | 9 => ("HeronBook$Book", "tieSecond", "[I", true)
  | 10 => ("HeronBook$Book", "tieTraits", "[I", true)
  | 11 => ("HeronBook$Book", "hearerKnows", "[I", true)
  | _ => ("HeronBook$Book", "hearerLaughs", "[I", true)
def tyX0 : Nat → FieldType := fun k => match k with
  | 0 => .array .int
  | 1 => .array .int
  | 2 => .array .int
  | 3 => .array .int
  | 4 => .array .int
  | 5 => .array .int
  | 6 => .array .int
  | 7 => .array .int
  | 8 => .array .int
  | 9 => .array .int
  | 10 => .array .int
  | 11 => .array .int
  | _ => .array .int
abbrev wsX00 : List Cond := u_ws RX0 TX0 13
theorem nmX0 : ∀ a, a < 13 → ∀ b, b < 13 → a ≠ b → (TX0 a).2.1 ≠ (TX0 b).2.1 := by decide +kernel
theorem tyX0_ok : ∀ k, k < 13 → parseFieldDescriptor (TX0 k).2.2.1 = some (tyX0 k) := by decide +kernel
abbrev cX0_init : ByteArray := prog_2_method_1_code
def yX0_init : MethodName := ⟨RX0, "<init>", "()V"⟩
abbrev cX0_clear : ByteArray := prog_2_method_2_code
def yX0_clear : MethodName := ⟨RX0, "clear", "()V"⟩
abbrev cX0_copyFrom : ByteArray := prog_2_method_3_code
def yX0_copyFrom : MethodName := ⟨RX0, "copyFrom", "(LHeronBook$Book;)V"⟩
abbrev cX0_roomFor : ByteArray := prog_2_method_4_code
def yX0_roomFor : MethodName := ⟨RX0, "roomFor", "(I)I"⟩
abbrev cX0_has : ByteArray := prog_2_method_5_code
def yX0_has : MethodName := ⟨RX0, "has", "(II)Z"⟩
abbrev cX0_setting : ByteArray := prog_2_method_6_code
def yX0_setting : MethodName := ⟨RX0, "setting", "(I)I"⟩
abbrev cX0_allPlaces : ByteArray := prog_2_method_7_code
def yX0_allPlaces : MethodName := ⟨RX0, "allPlaces", "()I"⟩
abbrev cX0_weigh : ByteArray := prog_2_method_8_code
def yX0_weigh : MethodName := ⟨RX0, "weigh", "(II)V"⟩
abbrev cX0_sumGroups : ByteArray := prog_2_method_9_code
def yX0_sumGroups : MethodName := ⟨RX0, "sumGroups", "()V"⟩
abbrev cX0_weightsOf : ByteArray := prog_2_method_10_code
def yX0_weightsOf : MethodName := ⟨RX0, "weightsOf", "(I)I"⟩
abbrev cX0_traitsOfNotionAt : ByteArray := prog_2_method_11_code
def yX0_traitsOfNotionAt : MethodName := ⟨RX0, "traitsOfNotionAt", "(I)I"⟩
abbrev cX0_lacksOf : ByteArray := prog_2_method_12_code
def yX0_lacksOf : MethodName := ⟨RX0, "lacksOf", "(II)I"⟩
abbrev cX0_addsOf : ByteArray := prog_2_method_13_code
def yX0_addsOf : MethodName := ⟨RX0, "addsOf", "(II)I"⟩
abbrev cX0_lostByTraits : ByteArray := prog_2_method_14_code
def yX0_lostByTraits : MethodName := ⟨RX0, "lostByTraits", "(III)I"⟩
abbrev cX0_wouldClash : ByteArray := prog_2_method_15_code
def yX0_wouldClash : MethodName := ⟨RX0, "wouldClash", "(IIIZ)Z"⟩
abbrev cX0_otherPlace : ByteArray := prog_2_method_16_code
def yX0_otherPlace : MethodName := ⟨RX0, "otherPlace", "(II)I"⟩
abbrev cX0_boundBy : ByteArray := prog_2_method_17_code
def yX0_boundBy : MethodName := ⟨RX0, "boundBy", "(I)I"⟩
abbrev cX0_wordForAll : ByteArray := prog_2_method_18_code
def yX0_wordForAll : MethodName := ⟨RX0, "wordForAll", "(I)I"⟩
abbrev cX0_toldBack : ByteArray := prog_2_method_19_code
def yX0_toldBack : MethodName := ⟨RX0, "toldBack", "(I)I"⟩
abbrev cX0_traitsSaidFor : ByteArray := prog_2_method_20_code
def yX0_traitsSaidFor : MethodName := ⟨RX0, "traitsSaidFor", "(I)I"⟩
def RX1 : String := "HeronBook$Four"
def TX1 : u_T := fun k => match k with
  | _ => ("HeronBook$Four", "given", "[B", true)
def tyX1 : Nat → FieldType := fun k => match k with
  | _ => .array .byte
abbrev wsX10 : List Cond := u_ws RX1 TX1 1
theorem nmX1 : ∀ a, a < 1 → ∀ b, b < 1 → a ≠ b → (TX1 a).2.1 ≠ (TX1 b).2.1 := by decide +kernel
theorem tyX1_ok : ∀ k, k < 1 → parseFieldDescriptor (TX1 k).2.2.1 = some (tyX1 k) := by decide +kernel
abbrev cX1_init : ByteArray := prog_3_method_1_code
def yX1_init : MethodName := ⟨RX1, "<init>", "()V"⟩
abbrev cX1_clear : ByteArray := prog_3_method_2_code
def yX1_clear : MethodName := ⟨RX1, "clear", "()V"⟩
abbrev cX1_indexOf : ByteArray := prog_3_method_3_code
def yX1_indexOf : MethodName := ⟨RX1, "indexOf", "(III)I"⟩
abbrev cX1_put : ByteArray := prog_3_method_4_code
def yX1_put : MethodName := ⟨RX1, "put", "(IIII)I"⟩
abbrev cX1_agreed : ByteArray := prog_3_method_5_code
def yX1_agreed : MethodName := ⟨RX1, "agreed", "(II)I"⟩
abbrev cX1_costOf : ByteArray := prog_3_method_6_code
def yX1_costOf : MethodName := ⟨RX1, "costOf", "(II)I"⟩
def RX2 : String := "HeronBook$Laughs"
def TX2 : u_T := fun k => match k with
  | 0 => ("HeronBook$Laughs", "hearers", "[I", true)
  | 1 => ("HeronBook$Laughs", "traitsThen", "[I", true)
  | 2 => ("HeronBook$Laughs", "laughed", "[I", true)
  | 3 => ("HeronBook$Laughs", "steps", "[I", true)
  | 4 => ("HeronBook$Laughs", "timesRight", "[I", true)
  | 5 => ("HeronBook$Laughs", "rightOnes", "[I", true)
  | 6 => ("HeronBook$Laughs", "rightLaughs", "[I", true)
  | 7 => ("HeronBook$Laughs", "rightSteps", "[I", true)
  | 8 => ("HeronBook$Laughs", "laughedAsKnown", "[I", true)
  | 9 => ("HeronBook$Laughs", "sets", "[I", true)
  | 10 => ("HeronBook$Laughs", "fitting", "I", false)
  | 11 => ("HeronBook$Laughs", "latest", "I", false)
  | 12 => ("HeronBook$Laughs", "size", "I", false)
  | _ => ("HeronBook$Laughs", "rights", "I", false)
def tyX2 : Nat → FieldType := fun k => match k with
  | 0 => .array .int
  | 1 => .array .int
  | 2 => .array .int
  | 3 => .array .int
  | 4 => .array .int
  | 5 => .array .int
  | 6 => .array .int
  | 7 => .array .int
  | 8 => .array .int
  | 9 => .array .int
  | 10 => .int
  | 11 => .int
  | 12 => .int
  | _ => .int
abbrev wsX20 : List Cond := u_ws RX2 TX2 14
theorem nmX2 : ∀ a, a < 14 → ∀ b, b < 14 → a ≠ b → (TX2 a).2.1 ≠ (TX2 b).2.1 := by decide +kernel
theorem tyX2_ok : ∀ k, k < 14 → parseFieldDescriptor (TX2 k).2.2.1 = some (tyX2 k) := by decide +kernel
abbrev cX2_init : ByteArray := prog_4_method_1_code
def yX2_init : MethodName := ⟨RX2, "<init>", "()V"⟩
abbrev cX2_clear : ByteArray := prog_4_method_2_code
def yX2_clear : MethodName := ⟨RX2, "clear", "()V"⟩
abbrev cX2_mayTell : ByteArray := prog_4_method_3_code
def yX2_mayTell : MethodName := ⟨RX2, "mayTell", "(II)Z"⟩
abbrev cX2_isFull : ByteArray := prog_4_method_4_code
def yX2_isFull : MethodName := ⟨RX2, "isFull", "()Z"⟩
abbrev cX2_isFullOfRights : ByteArray := prog_4_method_5_code
def yX2_isFullOfRights : MethodName := ⟨RX2, "isFullOfRights", "()Z"⟩
abbrev cX2_append : ByteArray := prog_4_method_6_code
def yX2_append : MethodName := ⟨RX2, "append", "(IIII)I"⟩
abbrev cX2_putRight : ByteArray := prog_4_method_7_code
def yX2_putRight : MethodName := ⟨RX2, "putRight", "(III)I"⟩
abbrev cX2_gather : ByteArray := prog_4_method_8_code
def yX2_gather : MethodName := ⟨RX2, "gather", "(II)I"⟩
abbrev cX2_fitsAll : ByteArray := prog_4_method_9_code
def yX2_fitsAll : MethodName := ⟨RX2, "fitsAll", "(III)Z"⟩
abbrev cX2_setsWith : ByteArray := prog_4_method_10_code
def yX2_setsWith : MethodName := ⟨RX2, "setsWith", "(I)I"⟩
abbrev cX2_setsWithin : ByteArray := prog_4_method_11_code
def yX2_setsWithin : MethodName := ⟨RX2, "setsWithin", "(I)I"⟩
def RX3 : String := "HeronBook$Names"
def TX3 : u_T := fun k => match k with
  | 0 => ("HeronBook$Names", "starts", "[I", true)
  | 1 => ("HeronBook$Names", "ends", "[I", true)
  | _ => ("HeronBook$Names", "size", "I", false)
def tyX3 : Nat → FieldType := fun k => match k with
  | 0 => .array .int
  | 1 => .array .int
  | _ => .int
abbrev wsX30 : List Cond := u_ws RX3 TX3 3
theorem nmX3 : ∀ a, a < 3 → ∀ b, b < 3 → a ≠ b → (TX3 a).2.1 ≠ (TX3 b).2.1 := by decide +kernel
theorem tyX3_ok : ∀ k, k < 3 → parseFieldDescriptor (TX3 k).2.2.1 = some (tyX3 k) := by decide +kernel
abbrev cX3_init : ByteArray := prog_5_method_1_code
def yX3_init : MethodName := ⟨RX3, "<init>", "()V"⟩
abbrev cX3_append : ByteArray := prog_5_method_2_code
def yX3_append : MethodName := ⟨RX3, "append", "(II)V"⟩
abbrev cX3_find : ByteArray := prog_5_method_3_code
def yX3_find : MethodName := ⟨RX3, "find", "([BII)I"⟩
abbrev cX3_isSame : ByteArray := prog_5_method_4_code
def yX3_isSame : MethodName := ⟨RX3, "isSame", "([BIII)Z"⟩
def RX4 : String := "HeronBook$Reader"
def TX4 : u_T := fun k => match k with
  | 0 => ("HeronBook$Reader", "draft", "LHeronBook$Book;", true)
  | 1 => ("HeronBook$Reader", "notionNames", "LHeronBook$Names;", true)
  | 2 => ("HeronBook$Reader", "wordNames", "LHeronBook$Names;", true)
  | 3 => ("HeronBook$Reader", "hearerNames", "LHeronBook$Names;", true)
  | 4 => ("HeronBook$Reader", "faultKind", "I", false)
  | 5 => ("HeronBook$Reader", "faultPlace", "I", false)
  | 6 => ("HeronBook$Reader", "text", "[B", false)
  | 7 => ("HeronBook$Reader", "length", "I", false)
  | 8 => ("HeronBook$Reader", "start", "I", false)
  | 9 => ("HeronBook$Reader", "end", "I", false)
  | 10 => ("HeronBook$Reader", "token", "C", false)
  | 11 => ("HeronBook$Reader", "set", "I", false)
  | 12 => ("HeronBook$Reader", "number", "I", false)
  | _ => ("HeronBook$Reader", "toldOnce", "I", false)
def tyX4 : Nat → FieldType := fun k => match k with
  | 0 => .object "HeronBook$Book"
  | 1 => .object "HeronBook$Names"
  | 2 => .object "HeronBook$Names"
  | 3 => .object "HeronBook$Names"
  | 4 => .int
  | 5 => .int
  | 6 => .array .byte
  | 7 => .int
  | 8 => .int
  | 9 => .int
  | 10 => .char
  | 11 => .int
  | 12 => .int
  | _ => .int
abbrev wsX40 : List Cond := u_ws RX4 TX4 14
theorem nmX4 : ∀ a, a < 14 → ∀ b, b < 14 → a ≠ b → (TX4 a).2.1 ≠ (TX4 b).2.1 := by decide +kernel
theorem tyX4_ok : ∀ k, k < 14 → parseFieldDescriptor (TX4 k).2.2.1 = some (tyX4 k) := by decide +kernel
abbrev cX4_init : ByteArray := prog_6_method_1_code
def yX4_init : MethodName := ⟨RX4, "<init>", "()V"⟩
abbrev cX4_read : ByteArray := prog_6_method_2_code
def yX4_read : MethodName := ⟨RX4, "read", "(LHeronBook$Tape;)I"⟩
abbrev cX4_begin : ByteArray := prog_6_method_3_code
def yX4_begin : MethodName := ⟨RX4, "begin", "(LHeronBook$Tape;)V"⟩
abbrev cX4_advance : ByteArray := prog_6_method_4_code
def yX4_advance : MethodName := ⟨RX4, "advance", "()V"⟩
abbrev cX4_signOf : ByteArray := prog_6_method_5_code
def yX4_signOf : MethodName := ⟨RX4, "signOf", "(B)C"⟩
abbrev cX4_refuse : ByteArray := prog_6_method_6_code
def yX4_refuse : MethodName := ⟨RX4, "refuse", "(I)Z"⟩
abbrev cX4_mayBegin : ByteArray := prog_6_method_7_code
def yX4_mayBegin : MethodName := ⟨RX4, "mayBegin", "(I)Z"⟩
abbrev cX4_readBody : ByteArray := prog_6_method_8_code
def yX4_readBody : MethodName := ⟨RX4, "readBody", "(I)Z"⟩
abbrev cX4_keyword : ByteArray := prog_6_method_9_code
def yX4_keyword : MethodName := ⟨RX4, "keyword", "()I"⟩
abbrev cX4_isWord : ByteArray := prog_6_method_10_code
def yX4_isWord : MethodName := ⟨RX4, "isWord", "(Ljava/lang/String;)Z"⟩
abbrev cX4_readSemicolon : ByteArray := prog_6_method_11_code
def yX4_readSemicolon : MethodName := ⟨RX4, "readSemicolon", "()Z"⟩
abbrev cX4_readTraits : ByteArray := prog_6_method_12_code
def yX4_readTraits : MethodName := ⟨RX4, "readTraits", "(LHeronBook$Names;I[I)Z"⟩
abbrev cX4_readPlace : ByteArray := prog_6_method_13_code
def yX4_readPlace : MethodName := ⟨RX4, "readPlace", "()Z"⟩
abbrev cX4_readTie : ByteArray := prog_6_method_14_code
def yX4_readTie : MethodName := ⟨RX4, "readTie", "()Z"⟩
abbrev cX4_readHearer : ByteArray := prog_6_method_15_code
def yX4_readHearer : MethodName := ⟨RX4, "readHearer", "()Z"⟩
abbrev cX4_readWeight : ByteArray := prog_6_method_16_code
def yX4_readWeight : MethodName := ⟨RX4, "readWeight", "()Z"⟩
abbrev cX4_readSetting : ByteArray := prog_6_method_17_code
def yX4_readSetting : MethodName := ⟨RX4, "readSetting", "(I)Z"⟩
abbrev cX4_readNewName : ByteArray := prog_6_method_18_code
def yX4_readNewName : MethodName := ⟨RX4, "readNewName", "(LHeronBook$Names;)Z"⟩
abbrev cX4_readSet : ByteArray := prog_6_method_19_code
def yX4_readSet : MethodName := ⟨RX4, "readSet", "()Z"⟩
abbrev cX4_readNumber : ByteArray := prog_6_method_20_code
def yX4_readNumber : MethodName := ⟨RX4, "readNumber", "(II)Z"⟩
def RX5 : String := "HeronBook$Rendering"
def TX5 : u_T := fun k => match k with
  | 0 => ("HeronBook$Rendering", "book", "LHeronBook$Book;", true)
  | 1 => ("HeronBook$Rendering", "kinds", "[I", true)
  | 2 => ("HeronBook$Rendering", "firsts", "[I", true)
  | 3 => ("HeronBook$Rendering", "seconds", "[I", true)
  | 4 => ("HeronBook$Rendering", "thirds", "[I", true)
  | _ => ("HeronBook$Rendering", "notes", "[I", true)
def tyX5 : Nat → FieldType := fun k => match k with
  | 0 => .object "HeronBook$Book"
  | 1 => .array .int
  | 2 => .array .int
  | 3 => .array .int
  | 4 => .array .int
  | _ => .array .int
abbrev wsX50 : List Cond := u_ws RX5 TX5 6
theorem nmX5 : ∀ a, a < 6 → ∀ b, b < 6 → a ≠ b → (TX5 a).2.1 ≠ (TX5 b).2.1 := by decide +kernel
theorem tyX5_ok : ∀ k, k < 6 → parseFieldDescriptor (TX5 k).2.2.1 = some (tyX5 k) := by decide +kernel
abbrev cX5_init : ByteArray := prog_7_method_1_code
def yX5_init : MethodName := ⟨RX5, "<init>", "(LHeronBook$Book;)V"⟩
abbrev cX5_clear : ByteArray := prog_7_method_2_code
def yX5_clear : MethodName := ⟨RX5, "clear", "()V"⟩
abbrev cX5_copyFrom : ByteArray := prog_7_method_3_code
def yX5_copyFrom : MethodName := ⟨RX5, "copyFrom", "(LHeronBook$Rendering;)V"⟩
abbrev cX5_put : ByteArray := prog_7_method_4_code
def yX5_put : MethodName := ⟨RX5, "put", "(IIIII)V"⟩
abbrev cX5_isChosen : ByteArray := prog_7_method_5_code
def yX5_isChosen : MethodName := ⟨RX5, "isChosen", "(I)Z"⟩
abbrev cX5_isBorrowed : ByteArray := prog_7_method_6_code
def yX5_isBorrowed : MethodName := ⟨RX5, "isBorrowed", "(I)Z"⟩
abbrev cX5_chosen : ByteArray := prog_7_method_7_code
def yX5_chosen : MethodName := ⟨RX5, "chosen", "()I"⟩
abbrev cX5_noted : ByteArray := prog_7_method_8_code
def yX5_noted : MethodName := ⟨RX5, "noted", "()I"⟩
abbrev cX5_traitsAt : ByteArray := prog_7_method_9_code
def yX5_traitsAt : MethodName := ⟨RX5, "traitsAt", "(I[I)I"⟩
abbrev cX5_traitsOf : ByteArray := prog_7_method_10_code
def yX5_traitsOf : MethodName := ⟨RX5, "traitsOf", "(I[I)I"⟩
abbrev cX5_lostAt : ByteArray := prog_7_method_11_code
def yX5_lostAt : MethodName := ⟨RX5, "lostAt", "(I[I)I"⟩
abbrev cX5_lostOfAll : ByteArray := prog_7_method_12_code
def yX5_lostOfAll : MethodName := ⟨RX5, "lostOfAll", "([I)I"⟩
abbrev cX5_clashBits : ByteArray := prog_7_method_13_code
def yX5_clashBits : MethodName := ⟨RX5, "clashBits", "()I"⟩
abbrev cX5_isClashing : ByteArray := prog_7_method_14_code
def yX5_isClashing : MethodName := ⟨RX5, "isClashing", "(IIIZ)Z"⟩
abbrev cX5_clashesAt : ByteArray := prog_7_method_15_code
def yX5_clashesAt : MethodName := ⟨RX5, "clashesAt", "(IIZ)I"⟩
abbrev cX5_isBorrowedOption : ByteArray := prog_7_method_16_code
def yX5_isBorrowedOption : MethodName := ⟨RX5, "isBorrowedOption", "(I)Z"⟩
abbrev cX5_traitsOfOption : ByteArray := prog_7_method_17_code
def yX5_traitsOfOption : MethodName := ⟨RX5, "traitsOfOption", "(I)I"⟩
abbrev cX5_lostWithOption : ByteArray := prog_7_method_18_code
def yX5_lostWithOption : MethodName := ⟨RX5, "lostWithOption", "(II)I"⟩
abbrev cX5_putOption : ByteArray := prog_7_method_19_code
def yX5_putOption : MethodName := ⟨RX5, "putOption", "(II)V"⟩
abbrev cX5_exchangeRound : ByteArray := prog_7_method_20_code
def yX5_exchangeRound : MethodName := ⟨RX5, "exchangeRound", "()Z"⟩
abbrev cX5_exchangeAt : ByteArray := prog_7_method_21_code
def yX5_exchangeAt : MethodName := ⟨RX5, "exchangeAt", "(I)Z"⟩
abbrev cX5_lostWithWord : ByteArray := prog_7_method_22_code
def yX5_lostWithWord : MethodName := ⟨RX5, "lostWithWord", "(II)I"⟩
abbrev cX5_lostWithLeast : ByteArray := prog_7_method_23_code
def yX5_lostWithLeast : MethodName := ⟨RX5, "lostWithLeast", "(I)I"⟩
abbrev cX5_oneWord : ByteArray := prog_7_method_24_code
def yX5_oneWord : MethodName := ⟨RX5, "oneWord", "(I)I"⟩
abbrev cX5_mendOnce : ByteArray := prog_7_method_25_code
def yX5_mendOnce : MethodName := ⟨RX5, "mendOnce", "()Z"⟩
abbrev cX5_untoldLacks : ByteArray := prog_7_method_26_code
def yX5_untoldLacks : MethodName := ⟨RX5, "untoldLacks", "(I)I"⟩
abbrev cX5_heardAt : ByteArray := prog_7_method_27_code
def yX5_heardAt : MethodName := ⟨RX5, "heardAt", "(II)I"⟩
abbrev cX5_rightOf : ByteArray := prog_7_method_28_code
def yX5_rightOf : MethodName := ⟨RX5, "rightOf", "(I)I"⟩
def RX6 : String := "HeronBook$Search"
def TX6 : u_T := fun k => match k with
  | 0 => ("HeronBook$Search", "book", "LHeronBook$Book;", true)
  | 1 => ("HeronBook$Search", "places", "[I", true)
  | 2 => ("HeronBook$Search", "lostWith", "[[I", true)
  | 3 => ("HeronBook$Search", "goesWith", "[[I", true)
  | 4 => ("HeronBook$Search", "left", "[[I", true)
  | 5 => ("HeronBook$Search", "row", "[I", true)
  | 6 => ("HeronBook$Search", "bestRow", "[I", true)
  | 7 => ("HeronBook$Search", "size", "I", false)
  | 8 => ("HeronBook$Search", "options", "I", false)
  | _ => ("HeronBook$Search", "least", "I", false)
def tyX6 : Nat → FieldType := fun k => match k with
  | 0 => .object "HeronBook$Book"
  | 1 => .array .int
  | 2 => .array (.array .int)
  | 3 => .array (.array .int)
  | 4 => .array (.array .int)
  | 5 => .array .int
  | 6 => .array .int
  | 7 => .int
  | 8 => .int
  | _ => .int
abbrev wsX60 : List Cond := u_ws RX6 TX6 10
theorem nmX6 : ∀ a, a < 10 → ∀ b, b < 10 → a ≠ b → (TX6 a).2.1 ≠ (TX6 b).2.1 := by decide +kernel
theorem tyX6_ok : ∀ k, k < 10 → parseFieldDescriptor (TX6 k).2.2.1 = some (tyX6 k) := by decide +kernel
abbrev cX6_init : ByteArray := prog_8_method_1_code
def yX6_init : MethodName := ⟨RX6, "<init>", "(LHeronBook$Book;)V"⟩
abbrev cX6_putBest : ByteArray := prog_8_method_2_code
def yX6_putBest : MethodName := ⟨RX6, "putBest", "(LHeronBook$Rendering;I)Z"⟩
abbrev cX6_begin : ByteArray := prog_8_method_3_code
def yX6_begin : MethodName := ⟨RX6, "begin", "(LHeronBook$Rendering;I)V"⟩
abbrev cX6_levelOf : ByteArray := prog_8_method_4_code
def yX6_levelOf : MethodName := ⟨RX6, "levelOf", "(I)I"⟩
abbrev cX6_obeyTie : ByteArray := prog_8_method_5_code
def yX6_obeyTie : MethodName := ⟨RX6, "obeyTie", "(LHeronBook$Rendering;I)V"⟩
abbrev cX6_obeyInside : ByteArray := prog_8_method_6_code
def yX6_obeyInside : MethodName := ⟨RX6, "obeyInside", "(LHeronBook$Rendering;III)V"⟩
abbrev cX6_obeyOutside : ByteArray := prog_8_method_7_code
def yX6_obeyOutside : MethodName := ⟨RX6, "obeyOutside", "(LHeronBook$Rendering;II)V"⟩
abbrev cX6_settle : ByteArray := prog_8_method_8_code
def yX6_settle : MethodName := ⟨RX6, "settle", "(II)V"⟩
abbrev cX6_narrow : ByteArray := prog_8_method_9_code
def yX6_narrow : MethodName := ⟨RX6, "narrow", "(II)I"⟩
abbrev cX6_leastOf : ByteArray := prog_8_method_10_code
def yX6_leastOf : MethodName := ⟨RX6, "leastOf", "(II)I"⟩
def RX7 : String := "HeronBook$Tape"
def TX7 : u_T := fun k => match k with
  | 0 => ("HeronBook$Tape", "bytes", "[B", true)
  | _ => ("HeronBook$Tape", "length", "I", false)
def tyX7 : Nat → FieldType := fun k => match k with
  | 0 => .array .byte
  | _ => .int
abbrev wsX70 : List Cond := u_ws RX7 TX7 2
theorem nmX7 : ∀ a, a < 2 → ∀ b, b < 2 → a ≠ b → (TX7 a).2.1 ≠ (TX7 b).2.1 := by decide +kernel
theorem tyX7_ok : ∀ k, k < 2 → parseFieldDescriptor (TX7 k).2.2.1 = some (tyX7 k) := by decide +kernel
abbrev cX7_init : ByteArray := prog_9_method_1_code
def yX7_init : MethodName := ⟨RX7, "<init>", "()V"⟩
abbrev cX7_hasRoom : ByteArray := prog_9_method_2_code
def yX7_hasRoom : MethodName := ⟨RX7, "hasRoom", "()Z"⟩
abbrev cX7_append : ByteArray := prog_9_method_3_code
def yX7_append : MethodName := ⟨RX7, "append", "(I)V"⟩
def RX8 : String := "HeronBook$Years"
def TX8 : u_T := fun k => match k with
  | 0 => ("HeronBook$Years", "book", "LHeronBook$Book;", true)
  | 1 => ("HeronBook$Years", "movedWords", "[I", true)
  | 2 => ("HeronBook$Years", "fromYears", "[I", true)
  | 3 => ("HeronBook$Years", "movedTraits", "[I", true)
  | 4 => ("HeronBook$Years", "words", "[I", true)
  | 5 => ("HeronBook$Years", "lostBefore", "[I", true)
  | _ => ("HeronBook$Years", "size", "I", false)
def tyX8 : Nat → FieldType := fun k => match k with
  | 0 => .object "HeronBook$Book"
  | 1 => .array .int
  | 2 => .array .int
  | 3 => .array .int
  | 4 => .array .int
  | 5 => .array .int
  | _ => .int
abbrev wsX80 : List Cond := u_ws RX8 TX8 7
theorem nmX8 : ∀ a, a < 7 → ∀ b, b < 7 → a ≠ b → (TX8 a).2.1 ≠ (TX8 b).2.1 := by decide +kernel
theorem tyX8_ok : ∀ k, k < 7 → parseFieldDescriptor (TX8 k).2.2.1 = some (tyX8 k) := by decide +kernel
abbrev cX8_init : ByteArray := prog_10_method_1_code
def yX8_init : MethodName := ⟨RX8, "<init>", "(LHeronBook$Book;)V"⟩
abbrev cX8_clear : ByteArray := prog_10_method_2_code
def yX8_clear : MethodName := ⟨RX8, "clear", "()V"⟩
abbrev cX8_isFull : ByteArray := prog_10_method_3_code
def yX8_isFull : MethodName := ⟨RX8, "isFull", "()Z"⟩
abbrev cX8_latestOf : ByteArray := prog_10_method_4_code
def yX8_latestOf : MethodName := ⟨RX8, "latestOf", "(I)I"⟩
abbrev cX8_append : ByteArray := prog_10_method_5_code
def yX8_append : MethodName := ⟨RX8, "append", "(III)I"⟩
abbrev cX8_wordsIn : ByteArray := prog_10_method_6_code
def yX8_wordsIn : MethodName := ⟨RX8, "wordsIn", "(I)[I"⟩
abbrev cX8_turns : ByteArray := prog_10_method_7_code
def yX8_turns : MethodName := ⟨RX8, "turns", "(LHeronBook$Rendering;I)I"⟩
abbrev cX8_firstAbove : ByteArray := prog_10_method_8_code
def yX8_firstAbove : MethodName := ⟨RX8, "firstAbove", "(LHeronBook$Rendering;I)I"⟩
def RX9 : String := "HeronBook"
def TX9 : u_T := fun k => match k with
  | 0 => ("HeronBook", "tape", "LHeronBook$Tape;", true)
  | 1 => ("HeronBook", "held", "LHeronBook$Book;", true)
  | 2 => ("HeronBook", "reader", "LHeronBook$Reader;", true)
  | 3 => ("HeronBook", "now", "LHeronBook$Rendering;", true)
  | 4 => ("HeronBook", "kept", "[LHeronBook$Rendering;", true)
  | 5 => ("HeronBook", "isKept", "[Z", true)
  | 6 => ("HeronBook", "search", "LHeronBook$Search;", true)
  | 7 => ("HeronBook", "four", "LHeronBook$Four;", true)
  | 8 => ("HeronBook", "years", "LHeronBook$Years;", true)
  | _ => ("HeronBook", "laughter", "LHeronBook$Laughs;", true)
def tyX9 : Nat → FieldType := fun k => match k with
  | 0 => .object "HeronBook$Tape"
  | 1 => .object "HeronBook$Book"
  | 2 => .object "HeronBook$Reader"
  | 3 => .object "HeronBook$Rendering"
  | 4 => .array (.object "HeronBook$Rendering")
  | 5 => .array .boolean
  | 6 => .object "HeronBook$Search"
  | 7 => .object "HeronBook$Four"
  | 8 => .object "HeronBook$Years"
  | _ => .object "HeronBook$Laughs"
abbrev wsX90 : List Cond := u_ws RX9 TX9 10
theorem nmX9 : ∀ a, a < 10 → ∀ b, b < 10 → a ≠ b → (TX9 a).2.1 ≠ (TX9 b).2.1 := by decide +kernel
theorem tyX9_ok : ∀ k, k < 10 → parseFieldDescriptor (TX9 k).2.2.1 = some (tyX9 k) := by decide +kernel
abbrev cX9_init : ByteArray := prog_1_method_1_code
def yX9_init : MethodName := ⟨RX9, "<init>", "()V"⟩
abbrev cX9_feed : ByteArray := prog_1_method_2_code
def yX9_feed : MethodName := ⟨RX9, "feed", "(IIIII)I"⟩
abbrev cX9_end : ByteArray := prog_1_method_3_code
def yX9_end : MethodName := ⟨RX9, "end", "(I)I"⟩
abbrev cX9_book : ByteArray := prog_1_method_4_code
def yX9_book : MethodName := ⟨RX9, "book", "()I"⟩
abbrev cX9_fault : ByteArray := prog_1_method_5_code
def yX9_fault : MethodName := ⟨RX9, "fault", "(I)I"⟩
abbrev cX9_told : ByteArray := prog_1_method_6_code
def yX9_told : MethodName := ⟨RX9, "told", "(I)I"⟩
abbrev cX9_traits : ByteArray := prog_1_method_7_code
def yX9_traits : MethodName := ⟨RX9, "traits", "(II)I"⟩
abbrev cX9_notion : ByteArray := prog_1_method_8_code
def yX9_notion : MethodName := ⟨RX9, "notion", "(I)I"⟩
abbrev cX9_choose : ByteArray := prog_1_method_9_code
def yX9_choose : MethodName := ⟨RX9, "choose", "(IIIII)I"⟩
abbrev cX9_wordsAreFit : ByteArray := prog_1_method_10_code
def yX9_wordsAreFit : MethodName := ⟨RX9, "wordsAreFit", "(IIII)Z"⟩
abbrev cX9_leave : ByteArray := prog_1_method_11_code
def yX9_leave : MethodName := ⟨RX9, "leave", "(I)I"⟩
abbrev cX9_choice : ByteArray := prog_1_method_12_code
def yX9_choice : MethodName := ⟨RX9, "choice", "(II)I"⟩
abbrev cX9_bears : ByteArray := prog_1_method_13_code
def yX9_bears : MethodName := ⟨RX9, "bears", "(II)I"⟩
abbrev cX9_note : ByteArray := prog_1_method_14_code
def yX9_note : MethodName := ⟨RX9, "note", "(II)I"⟩
abbrev cX9_lost : ByteArray := prog_1_method_15_code
def yX9_lost : MethodName := ⟨RX9, "lost", "()I"⟩
abbrev cX9_clashes : ByteArray := prog_1_method_16_code
def yX9_clashes : MethodName := ⟨RX9, "clashes", "()I"⟩
abbrev cX9_bound : ByteArray := prog_1_method_17_code
def yX9_bound : MethodName := ⟨RX9, "bound", "(I)I"⟩
abbrev cX9_best : ByteArray := prog_1_method_18_code
def yX9_best : MethodName := ⟨RX9, "best", "(I)I"⟩
abbrev cX9_exchange : ByteArray := prog_1_method_19_code
def yX9_exchange : MethodName := ⟨RX9, "exchange", "()I"⟩
abbrev cX9_one : ByteArray := prog_1_method_20_code
def yX9_one : MethodName := ⟨RX9, "one", "(I)I"⟩
abbrev cX9_price : ByteArray := prog_1_method_21_code
def yX9_price : MethodName := ⟨RX9, "price", "(I)I"⟩
abbrev cX9_swap : ByteArray := prog_1_method_22_code
def yX9_swap : MethodName := ⟨RX9, "swap", "(I)I"⟩
abbrev cX9_mend : ByteArray := prog_1_method_23_code
def yX9_mend : MethodName := ⟨RX9, "mend", "(I)I"⟩
abbrev cX9_whyNotHeard : ByteArray := prog_1_method_24_code
def yX9_whyNotHeard : MethodName := ⟨RX9, "whyNotHeard", "(II)I"⟩
abbrev cX9_hears : ByteArray := prog_1_method_25_code
def yX9_hears : MethodName := ⟨RX9, "hears", "(II)I"⟩
abbrev cX9_back : ByteArray := prog_1_method_26_code
def yX9_back : MethodName := ⟨RX9, "back", "(II)I"⟩
abbrev cX9_laughs : ByteArray := prog_1_method_27_code
def yX9_laughs : MethodName := ⟨RX9, "laughs", "(II)I"⟩
abbrev cX9_hits : ByteArray := prog_1_method_28_code
def yX9_hits : MethodName := ⟨RX9, "hits", "(I)I"⟩
abbrev cX9_on : ByteArray := prog_1_method_29_code
def yX9_on : MethodName := ⟨RX9, "on", "(III)I"⟩
abbrev cX9_keep : ByteArray := prog_1_method_30_code
def yX9_keep : MethodName := ⟨RX9, "keep", "(I)I"⟩
abbrev cX9_take : ByteArray := prog_1_method_31_code
def yX9_take : MethodName := ⟨RX9, "take", "(I)I"⟩
abbrev cX9_nearer : ByteArray := prog_1_method_32_code
def yX9_nearer : MethodName := ⟨RX9, "nearer", "(III)I"⟩
abbrev cX9_gives : ByteArray := prog_1_method_33_code
def yX9_gives : MethodName := ⟨RX9, "gives", "(IIII)I"⟩
abbrev cX9_agree : ByteArray := prog_1_method_34_code
def yX9_agree : MethodName := ⟨RX9, "agree", "(I)I"⟩
abbrev cX9_moves : ByteArray := prog_1_method_35_code
def yX9_moves : MethodName := ⟨RX9, "moves", "(III)I"⟩
abbrev cX9_lostIn : ByteArray := prog_1_method_36_code
def yX9_lostIn : MethodName := ⟨RX9, "lostIn", "(I)I"⟩
abbrev cX9_turned : ByteArray := prog_1_method_37_code
def yX9_turned : MethodName := ⟨RX9, "turned", "(I)I"⟩
abbrev cX9_until : ByteArray := prog_1_method_38_code
def yX9_until : MethodName := ⟨RX9, "until", "(I)I"⟩
abbrev cX9_isYear : ByteArray := prog_1_method_39_code
def yX9_isYear : MethodName := ⟨RX9, "isYear", "(I)Z"⟩
abbrev cX9_heard : ByteArray := prog_1_method_40_code
def yX9_heard : MethodName := ⟨RX9, "heard", "(IIII)I"⟩
abbrev cX9_right : ByteArray := prog_1_method_41_code
def yX9_right : MethodName := ⟨RX9, "right", "(III)I"⟩
abbrev cX9_fit : ByteArray := prog_1_method_42_code
def yX9_fit : MethodName := ⟨RX9, "fit", "(II)I"⟩
abbrev cX9_surely : ByteArray := prog_1_method_43_code
def yX9_surely : MethodName := ⟨RX9, "surely", "(III)I"⟩
abbrev cX9_next : ByteArray := prog_1_method_44_code
def yX9_next : MethodName := ⟨RX9, "next", "(I)I"⟩
abbrev cX9_isStep : ByteArray := prog_1_method_45_code
def yX9_isStep : MethodName := ⟨RX9, "isStep", "(I)Z"⟩
abbrev cX9_count : ByteArray := prog_1_method_46_code
def yX9_count : MethodName := ⟨RX9, "count", "(I)I"⟩
def RX10 : String := "HeronBookModel"
def TX10 : u_T := fun k => match k with
  | 0 => ("HeronBookModel", "tape", "[B", true)
  | 1 => ("HeronBookModel", "taped", "I", false)
  | 2 => ("HeronBookModel", "size", "I", false)
  | 3 => ("HeronBookModel", "sort", "I", false)
  | 4 => ("HeronBookModel", "key", "I", false)
  | 5 => ("HeronBookModel", "at", "I", false)
  | 6 => ("HeronBookModel", "end", "I", false)
  | 7 => ("HeronBookModel", "number", "I", false)
  | 8 => ("HeronBookModel", "faultKind", "I", false)
  | 9 => ("HeronBookModel", "faultPlace", "I", false)
  | 10 => ("HeronBookModel", "front", "J", false)
  | 11 => ("HeronBookModel", "rear", "J", false)
  | 12 => ("HeronBookModel", "got", "I", false)
  | 13 => ("HeronBookModel", "num", "[I", true)
  | 14 => ("HeronBookModel", "nameFront", "[J", true)
  | 15 => ("HeronBookModel", "nameRear", "[J", true)
  | 16 => ("HeronBookModel", "notionTraits", "[I", true)
  | 17 => ("HeronBookModel", "wordTraits", "[I", true)
  | 18 => ("HeronBookModel", "placeNotion", "[I", true)
  | 19 => ("HeronBookModel", "placeBears", "[I", true)
  | 20 => ("HeronBookModel", "tieOne", "[I", true)
  | 21 => ("HeronBookModel", "tieTwo", "[I", true)
  | 22 => ("HeronBookModel", "tieTraits", "[I", true)
  | 23 => ("HeronBookModel", "knows", "[I", true)
  | 24 => ("HeronBookModel", "laughsAt", "[I", true)
  | 25 => ("HeronBookModel", "weight", "[I", true)
  | 26 => ("HeronBookModel", "seen", "I", false)
  | 27 => ("HeronBookModel", "kind", "[I", true)
  | 28 => ("HeronBookModel", "wordA", "[I", true)
  | 29 => ("HeronBookModel", "wordB", "[I", true)
  | 30 => ("HeronBookModel", "wordC", "[I", true)
  | 31 => ("HeronBookModel", "noted", "[I", true)
  | 32 => ("HeronBookModel", "asked", "[I", true)
  | 33 => ("HeronBookModel", "wasKind", "[I", true)
  | 34 => ("HeronBookModel", "wasA", "[I", true)
  | 35 => ("HeronBookModel", "wasB", "[I", true)
  | 36 => ("HeronBookModel", "wasC", "[I", true)
  | 37 => ("HeronBookModel", "isKept", "[Z", true)
  | 38 => ("HeronBookModel", "slotKind", "[I", true)
  | 39 => ("HeronBookModel", "slotA", "[I", true)
  | 40 => ("HeronBookModel", "slotB", "[I", true)
  | 41 => ("HeronBookModel", "slotC", "[I", true)
  | 42 => ("HeronBookModel", "slotNoted", "[I", true)
  | 43 => ("HeronBookModel", "given", "[I", true)
  | 44 => ("HeronBookModel", "moves", "I", false)
  | 45 => ("HeronBookModel", "mWord", "[I", true)
  | 46 => ("HeronBookModel", "mYear", "[I", true)
  | 47 => ("HeronBookModel", "mTraits", "[I", true)
  | 48 => ("HeronBookModel", "heardMany", "I", false)
  | 49 => ("HeronBookModel", "rightMany", "I", false)
  | 50 => ("HeronBookModel", "lastTold", "I", false)
  | 51 => ("HeronBookModel", "hTold", "[I", true)
  | 52 => ("HeronBookModel", "hWho", "[I", true)
  | 53 => ("HeronBookModel", "hTraits", "[I", true)
  | 54 => ("HeronBookModel", "hLaugh", "[I", true)
  | 55 => ("HeronBookModel", "rTold", "[I", true)
  | 56 => ("HeronBookModel", "rOf", "[I", true)
  | 57 => ("HeronBookModel", "rLaugh", "[I", true)
  | _ => ("HeronBookModel", "fits", "[Z", true)
def tyX10 : Nat → FieldType := fun k => match k with
  | 0 => .array .byte
  | 1 => .int
  | 2 => .int
  | 3 => .int
  | 4 => .int
  | 5 => .int
  | 6 => .int
  | 7 => .int
  | 8 => .int
  | 9 => .int
  | 10 => .long
  | 11 => .long
  | 12 => .int
  | 13 => .array .int
  | 14 => .array .long
  | 15 => .array .long
  | 16 => .array .int
  | 17 => .array .int
  | 18 => .array .int
  | 19 => .array .int
  | 20 => .array .int
  | 21 => .array .int
  | 22 => .array .int
  | 23 => .array .int
  | 24 => .array .int
  | 25 => .array .int
  | 26 => .int
  | 27 => .array .int
  | 28 => .array .int
  | 29 => .array .int
  | 30 => .array .int
  | 31 => .array .int
  | 32 => .array .int
  | 33 => .array .int
  | 34 => .array .int
  | 35 => .array .int
  | 36 => .array .int
  | 37 => .array .boolean
  | 38 => .array .int
  | 39 => .array .int
  | 40 => .array .int
  | 41 => .array .int
  | 42 => .array .int
  | 43 => .array .int
  | 44 => .int
  | 45 => .array .int
  | 46 => .array .int
  | 47 => .array .int
  | 48 => .int
  | 49 => .int
  | 50 => .int
  | 51 => .array .int
  | 52 => .array .int
  | 53 => .array .int
  | 54 => .array .int
  | 55 => .array .int
  | 56 => .array .int
  | 57 => .array .int
  | _ => .array .boolean
abbrev wsX100 : List Cond := u_ws RX10 TX10 59
theorem nmX10 : ∀ a, a < 59 → ∀ b, b < 59 → a ≠ b → (TX10 a).2.1 ≠ (TX10 b).2.1 := by decide +kernel
theorem tyX10_ok : ∀ k, k < 59 → parseFieldDescriptor (TX10 k).2.2.1 = some (tyX10 k) := by decide +kernel
abbrev cX10_init : ByteArray := prog_12_method_1_code
def yX10_init : MethodName := ⟨RX10, "<init>", "()V"⟩
abbrev cX10_in : ByteArray := prog_12_method_2_code
def yX10_in : MethodName := ⟨RX10, "in", "(III)Z"⟩
abbrev cX10_feed : ByteArray := prog_12_method_3_code
def yX10_feed : MethodName := ⟨RX10, "feed", "(IIIII)I"⟩
abbrev cX10_end : ByteArray := prog_12_method_4_code
def yX10_end : MethodName := ⟨RX10, "end", "(I)I"⟩
abbrev cX10_see : ByteArray := prog_12_method_5_code
def yX10_see : MethodName := ⟨RX10, "see", "(I)I"⟩
abbrev cX10_isSmall : ByteArray := prog_12_method_6_code
def yX10_isSmall : MethodName := ⟨RX10, "isSmall", "(I)Z"⟩
abbrev cX10_isDigit : ByteArray := prog_12_method_7_code
def yX10_isDigit : MethodName := ⟨RX10, "isDigit", "(I)Z"⟩
abbrev cX10_keyAt : ByteArray := prog_12_method_8_code
def yX10_keyAt : MethodName := ⟨RX10, "keyAt", "(II)I"⟩
abbrev cX10_scan : ByteArray := prog_12_method_9_code
def yX10_scan : MethodName := ⟨RX10, "scan", "()V"⟩
abbrev cX10_fails : ByteArray := prog_12_method_10_code
def yX10_fails : MethodName := ⟨RX10, "fails", "(I)Z"⟩
abbrev cX10_readNumber : ByteArray := prog_12_method_11_code
def yX10_readNumber : MethodName := ⟨RX10, "readNumber", "(II)Z"⟩
abbrev cX10_setHere : ByteArray := prog_12_method_12_code
def yX10_setHere : MethodName := ⟨RX10, "setHere", "()I"⟩
abbrev cX10_readSet : ByteArray := prog_12_method_13_code
def yX10_readSet : MethodName := ⟨RX10, "readSet", "()Z"⟩
abbrev cX10_fault : ByteArray := prog_12_method_14_code
def yX10_fault : MethodName := ⟨RX10, "fault", "(I)I"⟩
abbrev cX10_begin : ByteArray := prog_12_method_15_code
def yX10_begin : MethodName := ⟨RX10, "begin", "()V"⟩
abbrev cX10_comes : ByteArray := prog_12_method_16_code
def yX10_comes : MethodName := ⟨RX10, "comes", "([II)V"⟩
abbrev cX10_settle : ByteArray := prog_12_method_17_code
def yX10_settle : MethodName := ⟨RX10, "settle", "()V"⟩
abbrev cX10_named : ByteArray := prog_12_method_18_code
def yX10_named : MethodName := ⟨RX10, "named", "(II)I"⟩
abbrev cX10_readName : ByteArray := prog_12_method_19_code
def yX10_readName : MethodName := ⟨RX10, "readName", "(III)Z"⟩
abbrev cX10_readPlace : ByteArray := prog_12_method_20_code
def yX10_readPlace : MethodName := ⟨RX10, "readPlace", "()Z"⟩
abbrev cX10_readTie : ByteArray := prog_12_method_21_code
def yX10_readTie : MethodName := ⟨RX10, "readTie", "()Z"⟩
abbrev cX10_readHearer : ByteArray := prog_12_method_22_code
def yX10_readHearer : MethodName := ⟨RX10, "readHearer", "()Z"⟩
abbrev cX10_readWeight : ByteArray := prog_12_method_23_code
def yX10_readWeight : MethodName := ⟨RX10, "readWeight", "()Z"⟩
abbrev cX10_readTold : ByteArray := prog_12_method_24_code
def yX10_readTold : MethodName := ⟨RX10, "readTold", "(I)Z"⟩
abbrev cX10_readClause : ByteArray := prog_12_method_25_code
def yX10_readClause : MethodName := ⟨RX10, "readClause", "()Z"⟩
abbrev cX10_book : ByteArray := prog_12_method_26_code
def yX10_book : MethodName := ⟨RX10, "book", "()I"⟩
abbrev cX10_told : ByteArray := prog_12_method_27_code
def yX10_told : MethodName := ⟨RX10, "told", "(I)I"⟩
abbrev cX10_isNotion : ByteArray := prog_12_method_28_code
def yX10_isNotion : MethodName := ⟨RX10, "isNotion", "(I)Z"⟩
abbrev cX10_isWord : ByteArray := prog_12_method_29_code
def yX10_isWord : MethodName := ⟨RX10, "isWord", "(I)Z"⟩
abbrev cX10_isPlace : ByteArray := prog_12_method_30_code
def yX10_isPlace : MethodName := ⟨RX10, "isPlace", "(I)Z"⟩
abbrev cX10_isTie : ByteArray := prog_12_method_31_code
def yX10_isTie : MethodName := ⟨RX10, "isTie", "(I)Z"⟩
abbrev cX10_isHearer : ByteArray := prog_12_method_32_code
def yX10_isHearer : MethodName := ⟨RX10, "isHearer", "(I)Z"⟩
abbrev cX10_traits : ByteArray := prog_12_method_33_code
def yX10_traits : MethodName := ⟨RX10, "traits", "(II)I"⟩
abbrev cX10_notion : ByteArray := prog_12_method_34_code
def yX10_notion : MethodName := ⟨RX10, "notion", "(I)I"⟩
abbrev cX10_weigh : ByteArray := prog_12_method_35_code
def yX10_weigh : MethodName := ⟨RX10, "weigh", "(I)I"⟩
abbrev cX10_traitsOf : ByteArray := prog_12_method_36_code
def yX10_traitsOf : MethodName := ⟨RX10, "traitsOf", "(II)I"⟩
abbrev cX10_had : ByteArray := prog_12_method_37_code
def yX10_had : MethodName := ⟨RX10, "had", "(II)I"⟩
abbrev cX10_lackAt : ByteArray := prog_12_method_38_code
def yX10_lackAt : MethodName := ⟨RX10, "lackAt", "(II)I"⟩
abbrev cX10_addAt : ByteArray := prog_12_method_39_code
def yX10_addAt : MethodName := ⟨RX10, "addAt", "(II)I"⟩
abbrev cX10_lostAt : ByteArray := prog_12_method_40_code
def yX10_lostAt : MethodName := ⟨RX10, "lostAt", "(II)I"⟩
abbrev cX10_lostAll : ByteArray := prog_12_method_41_code
def yX10_lostAll : MethodName := ⟨RX10, "lostAll", "(I)I"⟩
abbrev cX10_put : ByteArray := prog_12_method_42_code
def yX10_put : MethodName := ⟨RX10, "put", "(IIIII)V"⟩
abbrev cX10_choose : ByteArray := prog_12_method_43_code
def yX10_choose : MethodName := ⟨RX10, "choose", "(IIIII)I"⟩
abbrev cX10_leave : ByteArray := prog_12_method_44_code
def yX10_leave : MethodName := ⟨RX10, "leave", "(I)I"⟩
abbrev cX10_choice : ByteArray := prog_12_method_45_code
def yX10_choice : MethodName := ⟨RX10, "choice", "(II)I"⟩
abbrev cX10_bears : ByteArray := prog_12_method_46_code
def yX10_bears : MethodName := ⟨RX10, "bears", "(II)I"⟩
abbrev cX10_bits : ByteArray := prog_12_method_47_code
def yX10_bits : MethodName := ⟨RX10, "bits", "(I)I"⟩
abbrev cX10_notedAll : ByteArray := prog_12_method_48_code
def yX10_notedAll : MethodName := ⟨RX10, "notedAll", "()I"⟩
abbrev cX10_note : ByteArray := prog_12_method_49_code
def yX10_note : MethodName := ⟨RX10, "note", "(II)I"⟩
abbrev cX10_lost : ByteArray := prog_12_method_50_code
def yX10_lost : MethodName := ⟨RX10, "lost", "()I"⟩
abbrev cX10_isClash : ByteArray := prog_12_method_51_code
def yX10_isClash : MethodName := ⟨RX10, "isClash", "(I)Z"⟩
abbrev cX10_clashes : ByteArray := prog_12_method_52_code
def yX10_clashes : MethodName := ⟨RX10, "clashes", "()I"⟩
abbrev cX10_bound : ByteArray := prog_12_method_53_code
def yX10_bound : MethodName := ⟨RX10, "bound", "(I)I"⟩
abbrev cX10_putBy : ByteArray := prog_12_method_54_code
def yX10_putBy : MethodName := ⟨RX10, "putBy", "(II)V"⟩
abbrev cX10_isFree : ByteArray := prog_12_method_55_code
def yX10_isFree : MethodName := ⟨RX10, "isFree", "(I)Z"⟩
abbrev cX10_best : ByteArray := prog_12_method_56_code
def yX10_best : MethodName := ⟨RX10, "best", "(I)I"⟩
abbrev cX10_layRow : ByteArray := prog_12_method_57_code
def yX10_layRow : MethodName := ⟨RX10, "layRow", "(II)I"⟩
abbrev cX10_costs : ByteArray := prog_12_method_58_code
def yX10_costs : MethodName := ⟨RX10, "costs", "()I"⟩
abbrev cX10_exchange : ByteArray := prog_12_method_59_code
def yX10_exchange : MethodName := ⟨RX10, "exchange", "()I"⟩
abbrev cX10_plainAt : ByteArray := prog_12_method_60_code
def yX10_plainAt : MethodName := ⟨RX10, "plainAt", "(II)I"⟩
abbrev cX10_plainSum : ByteArray := prog_12_method_61_code
def yX10_plainSum : MethodName := ⟨RX10, "plainSum", "(II)I"⟩
abbrev cX10_oneOf : ByteArray := prog_12_method_62_code
def yX10_oneOf : MethodName := ⟨RX10, "oneOf", "(I)I"⟩
abbrev cX10_one : ByteArray := prog_12_method_63_code
def yX10_one : MethodName := ⟨RX10, "one", "(I)I"⟩
abbrev cX10_price : ByteArray := prog_12_method_64_code
def yX10_price : MethodName := ⟨RX10, "price", "(I)I"⟩
abbrev cX10_swap : ByteArray := prog_12_method_65_code
def yX10_swap : MethodName := ⟨RX10, "swap", "(I)I"⟩
abbrev cX10_mend : ByteArray := prog_12_method_66_code
def yX10_mend : MethodName := ⟨RX10, "mend", "(I)I"⟩
abbrev cX10_heardBy : ByteArray := prog_12_method_67_code
def yX10_heardBy : MethodName := ⟨RX10, "heardBy", "(II)I"⟩
abbrev cX10_backOf : ByteArray := prog_12_method_68_code
def yX10_backOf : MethodName := ⟨RX10, "backOf", "(I)I"⟩
abbrev cX10_isLaugh : ByteArray := prog_12_method_69_code
def yX10_isLaugh : MethodName := ⟨RX10, "isLaugh", "(II)Z"⟩
abbrev cX10_isAsked : ByteArray := prog_12_method_70_code
def yX10_isAsked : MethodName := ⟨RX10, "isAsked", "(II)Z"⟩
abbrev cX10_hears : ByteArray := prog_12_method_71_code
def yX10_hears : MethodName := ⟨RX10, "hears", "(II)I"⟩
abbrev cX10_back : ByteArray := prog_12_method_72_code
def yX10_back : MethodName := ⟨RX10, "back", "(II)I"⟩
abbrev cX10_laughs : ByteArray := prog_12_method_73_code
def yX10_laughs : MethodName := ⟨RX10, "laughs", "(II)I"⟩
abbrev cX10_hitsOf : ByteArray := prog_12_method_74_code
def yX10_hitsOf : MethodName := ⟨RX10, "hitsOf", "(I)I"⟩
abbrev cX10_hits : ByteArray := prog_12_method_75_code
def yX10_hits : MethodName := ⟨RX10, "hits", "(I)I"⟩
abbrev cX10_on : ByteArray := prog_12_method_76_code
def yX10_on : MethodName := ⟨RX10, "on", "(III)I"⟩
abbrev cX10_store : ByteArray := prog_12_method_77_code
def yX10_store : MethodName := ⟨RX10, "store", "(I)V"⟩
abbrev cX10_load : ByteArray := prog_12_method_78_code
def yX10_load : MethodName := ⟨RX10, "load", "(I)V"⟩
abbrev cX10_isSlot : ByteArray := prog_12_method_79_code
def yX10_isSlot : MethodName := ⟨RX10, "isSlot", "(I)Z"⟩
abbrev cX10_keep : ByteArray := prog_12_method_80_code
def yX10_keep : MethodName := ⟨RX10, "keep", "(I)I"⟩
abbrev cX10_take : ByteArray := prog_12_method_81_code
def yX10_take : MethodName := ⟨RX10, "take", "(I)I"⟩
abbrev cX10_nearer : ByteArray := prog_12_method_82_code
def yX10_nearer : MethodName := ⟨RX10, "nearer", "(III)I"⟩
abbrev cX10_cellOf : ByteArray := prog_12_method_83_code
def yX10_cellOf : MethodName := ⟨RX10, "cellOf", "(III)I"⟩
abbrev cX10_gives : ByteArray := prog_12_method_84_code
def yX10_gives : MethodName := ⟨RX10, "gives", "(IIII)I"⟩
abbrev cX10_agree : ByteArray := prog_12_method_85_code
def yX10_agree : MethodName := ⟨RX10, "agree", "(I)I"⟩
abbrev cX10_moves : ByteArray := prog_12_method_86_code
def yX10_moves : MethodName := ⟨RX10, "moves", "(III)I"⟩
abbrev cX10_lostIn : ByteArray := prog_12_method_87_code
def yX10_lostIn : MethodName := ⟨RX10, "lostIn", "(I)I"⟩
abbrev cX10_turned : ByteArray := prog_12_method_88_code
def yX10_turned : MethodName := ⟨RX10, "turned", "(I)I"⟩
abbrev cX10_until : ByteArray := prog_12_method_89_code
def yX10_until : MethodName := ⟨RX10, "until", "(I)I"⟩
abbrev cX10_heard : ByteArray := prog_12_method_90_code
def yX10_heard : MethodName := ⟨RX10, "heard", "(IIII)I"⟩
abbrev cX10_right : ByteArray := prog_12_method_91_code
def yX10_right : MethodName := ⟨RX10, "right", "(III)I"⟩
abbrev cX10_setOf : ByteArray := prog_12_method_92_code
def yX10_setOf : MethodName := ⟨RX10, "setOf", "(I)I"⟩
abbrev cX10_makeFits : ByteArray := prog_12_method_93_code
def yX10_makeFits : MethodName := ⟨RX10, "makeFits", "(II)I"⟩
abbrev cX10_fit : ByteArray := prog_12_method_94_code
def yX10_fit : MethodName := ⟨RX10, "fit", "(II)I"⟩
abbrev cX10_surely : ByteArray := prog_12_method_95_code
def yX10_surely : MethodName := ⟨RX10, "surely", "(III)I"⟩
abbrev cX10_next : ByteArray := prog_12_method_96_code
def yX10_next : MethodName := ⟨RX10, "next", "(I)I"⟩
abbrev cX10_count : ByteArray := prog_12_method_97_code
def yX10_count : MethodName := ⟨RX10, "count", "(I)I"⟩
def RJ6 : String := "java/lang/Integer"
def TJ6 : u_T := fun k => match k with
  | _ => ("", "", "", false)
def tyJ6 : Nat → FieldType := fun k => match k with
  | _ => .int
abbrev wsJ60 : List Cond := u_ws RJ6 TJ6 0
theorem nmJ6 : ∀ a, a < 0 → ∀ b, b < 0 → a ≠ b → (TJ6 a).2.1 ≠ (TJ6 b).2.1 := by decide +kernel
theorem tyJ6_ok : ∀ k, k < 0 → parseFieldDescriptor (TJ6 k).2.2.1 = some (tyJ6 k) := by decide +kernel
abbrev cJ6_bitCount_0f7a4 : ByteArray := prog_13_method_49_code
def yJ6_bitCount_0f7a4 : MethodName := ⟨RJ6, "bitCount", "(I)I"⟩
def RJ9 : String := "java/lang/Math"
def TJ9 : u_T := fun k => match k with
  | _ => ("", "", "", false)
def tyJ9 : Nat → FieldType := fun k => match k with
  | _ => .int
abbrev wsJ90 : List Cond := u_ws RJ9 TJ9 0
theorem nmJ9 : ∀ a, a < 0 → ∀ b, b < 0 → a ≠ b → (TJ9 a).2.1 ≠ (TJ9 b).2.1 := by decide +kernel
theorem tyJ9_ok : ∀ k, k < 0 → parseFieldDescriptor (TJ9 k).2.2.1 = some (tyJ9 k) := by decide +kernel
abbrev cJ9_max_7cf53 : ByteArray := prog_14_method_65_code
def yJ9_max_7cf53 : MethodName := ⟨RJ9, "max", "(II)I"⟩
abbrev cJ9_min_7cf53 : ByteArray := prog_14_method_69_code
def yJ9_min_7cf53 : MethodName := ⟨RJ9, "min", "(II)I"⟩
def RJ0 : String := "java/lang/String"
def TJ0 : u_T := fun k => match k with
  | _ => ("", "", "", false)
def tyJ0 : Nat → FieldType := fun k => match k with
  | _ => .int
abbrev wsJ00 : List Cond := u_ws RJ0 TJ0 0
theorem nmJ0 : ∀ a, a < 0 → ∀ b, b < 0 → a ≠ b → (TJ0 a).2.1 ≠ (TJ0 b).2.1 := by decide +kernel
theorem tyJ0_ok : ∀ k, k < 0 → parseFieldDescriptor (TJ0 k).2.2.1 = some (tyJ0 k) := by decide +kernel
abbrev cJ0_length_8abf5 : ByteArray := prog_15_method_54_code
def yJ0_length_8abf5 : MethodName := ⟨RJ0, "length", "()I"⟩
abbrev cJ0_charAt_5068e : ByteArray := prog_15_method_56_code
def yJ0_charAt_5068e : MethodName := ⟨RJ0, "charAt", "(I)C"⟩
abbrev cJ0_coder_7d493 : ByteArray := prog_15_method_152_code
def yJ0_coder_7d493 : MethodName := ⟨RJ0, "coder", "()B"⟩
abbrev cJ0_isLatin1_aae02 : ByteArray := prog_15_method_154_code
def yJ0_isLatin1_aae02 : MethodName := ⟨RJ0, "isLatin1", "()Z"⟩
abbrev cJ0_checkIndex_df160 : ByteArray := prog_15_method_155_code
def yJ0_checkIndex_df160 : MethodName := ⟨RJ0, "checkIndex", "(II)V"⟩
def RJ1 : String := "java/lang/StringLatin1"
def TJ1 : u_T := fun k => match k with
  | _ => ("", "", "", false)
def tyJ1 : Nat → FieldType := fun k => match k with
  | _ => .int
abbrev wsJ10 : List Cond := u_ws RJ1 TJ1 0
theorem nmJ1 : ∀ a, a < 0 → ∀ b, b < 0 → a ≠ b → (TJ1 a).2.1 ≠ (TJ1 b).2.1 := by decide +kernel
theorem tyJ1_ok : ∀ k, k < 0 → parseFieldDescriptor (TJ1 k).2.2.1 = some (tyJ1 k) := by decide +kernel
abbrev cJ1_charAt_3b067 : ByteArray := prog_16_method_2_code
def yJ1_charAt_3b067 : MethodName := ⟨RJ1, "charAt", "([BI)C"⟩
def RJ2 : String := "java/lang/StringUTF16"
def TJ2 : u_T := fun k => match k with
  | _ => ("", "", "", false)
def tyJ2 : Nat → FieldType := fun k => match k with
  | _ => .int
abbrev wsJ20 : List Cond := u_ws RJ2 TJ2 0
theorem nmJ2 : ∀ a, a < 0 → ∀ b, b < 0 → a ≠ b → (TJ2 a).2.1 ≠ (TJ2 b).2.1 := by decide +kernel
theorem tyJ2_ok : ∀ k, k < 0 → parseFieldDescriptor (TJ2 k).2.2.1 = some (tyJ2 k) := by decide +kernel
abbrev cJ2_getChar_3b067 : ByteArray := prog_17_method_5_code
def yJ2_getChar_3b067 : MethodName := ⟨RJ2, "getChar", "([BI)C"⟩
abbrev cJ2_length_9d52b : ByteArray := prog_17_method_6_code
def yJ2_length_9d52b : MethodName := ⟨RJ2, "length", "([B)I"⟩
abbrev cJ2_charAt_3b067 : ByteArray := prog_17_method_83_code
def yJ2_charAt_3b067 : MethodName := ⟨RJ2, "charAt", "([BI)C"⟩
abbrev cJ2_checkIndex_2214a : ByteArray := prog_17_method_91_code
def yJ2_checkIndex_2214a : MethodName := ⟨RJ2, "checkIndex", "(I[B)V"⟩
def RJ10 : String := "java/lang/System"
def TJ10 : u_T := fun k => match k with
  | _ => ("", "", "", false)
def tyJ10 : Nat → FieldType := fun k => match k with
  | _ => .int
abbrev wsJ100 : List Cond := u_ws RJ10 TJ10 0
theorem nmJ10 : ∀ a, a < 0 → ∀ b, b < 0 → a ≠ b → (TJ10 a).2.1 ≠ (TJ10 b).2.1 := by decide +kernel
theorem tyJ10_ok : ∀ k, k < 0 → parseFieldDescriptor (TJ10 k).2.2.1 = some (tyJ10 k) := by decide +kernel
def RJ7 : String := "java/util/Arrays"
def TJ7 : u_T := fun k => match k with
  | _ => ("", "", "", false)
def tyJ7 : Nat → FieldType := fun k => match k with
  | _ => .int
abbrev wsJ70 : List Cond := u_ws RJ7 TJ7 0
theorem nmJ7 : ∀ a, a < 0 → ∀ b, b < 0 → a ≠ b → (TJ7 a).2.1 ≠ (TJ7 b).2.1 := by decide +kernel
theorem tyJ7_ok : ∀ k, k < 0 → parseFieldDescriptor (TJ7 k).2.2.1 = some (tyJ7 k) := by decide +kernel
abbrev cJ7_fill_53178 : ByteArray := prog_19_method_103_code
def yJ7_fill_53178 : MethodName := ⟨RJ7, "fill", "([II)V"⟩
abbrev cJ7_fill_031fb : ByteArray := prog_19_method_109_code
def yJ7_fill_031fb : MethodName := ⟨RJ7, "fill", "([BB)V"⟩
def RJ3 : String := "jdk/internal/util/Preconditions"
def TJ3 : u_T := fun k => match k with
  | _ => ("", "", "", false)
def tyJ3 : Nat → FieldType := fun k => match k with
  | _ => .int
abbrev wsJ30 : List Cond := u_ws RJ3 TJ3 0
theorem nmJ3 : ∀ a, a < 0 → ∀ b, b < 0 → a ≠ b → (TJ3 a).2.1 ≠ (TJ3 b).2.1 := by decide +kernel
theorem tyJ3_ok : ∀ k, k < 0 → parseFieldDescriptor (TJ3 k).2.2.1 = some (tyJ3 k) := by decide +kernel
abbrev cJ3_checkIndex_8e157 : ByteArray := prog_20_method_11_code
def yJ3_checkIndex_8e157 : MethodName := ⟨RJ3, "checkIndex", "(IILjava/util/function/BiFunction;)I"⟩
def RL : String := "HeronBookLaw"
abbrev cL_law : ByteArray := code
abbrev vwCl : List vw_C := [(RX0, TX0, 13), (RX1, TX1, 1), (RX2, TX2, 14), (RX3, TX3, 3), (RX4, TX4, 14), (RX5, TX5, 6), (RX6, TX6, 10), (RX7, TX7, 2), (RX8, TX8, 7), (RX9, TX9, 10), (RX10, TX10, 59)]
end
section
/-! THE PURE MACHINE. A value: an int, a long, or a reference (k, j): the cell k, or (j = i + 1) the row i of the grid k. -/
abbrev pV : Type := Int32 ⊕ Int64 ⊕ (Nat × Nat)
/-- a shape: 0 int[], 1 byte[], 2 boolean[], 3 long[] of n places; 4 an array of references (codes r + 1); 5 a grid of n rows of w places; 6 a text; ci + 7 an object of the ci-th sort, its fields' codes: 0 int, 1 long, 2 char, 2 r + 3 the cell r, 2 r + 4 the cell r once it has been put there (its number is 1 then) -/
abbrev pSh : Type := Nat × Nat × List Nat
abbrev pD : Type := Nat → Nat → Nat → Int32
abbrev pDL : Type := Nat → Nat → Int64
abbrev pSt : Type := pD × pDL
abbrev pL : Type := List (Option pV)
abbrev pRes : Type := Option pV × pSt
/-- an entry of the code: the instruction, five numbers and an int that were found out ahead -/
abbrev pX : Type := Instr × Nat × Nat × Nat × Nat × Nat × Int32
/-- a method: its code, the cuts and what lives there -/
abbrev pM : Type := List (Nat × pX) × List (Nat × List Bool)
def dset (D : pD) (k j i : Nat) (x : Int32) : pD := fun k' j' => if k' = k ∧ j' = j then upd (D k j) i x else D k' j'
def dcpy (D : pD) (s : Nat) (sp : Nat) (d : Nat) (dp n : Nat) : pD := fun k' j' => if k' = d ∧ j' = 0 then va_cpy (D s 0) (D d 0) sp dp n else D k' j'
def lset (D : pDL) (k i : Nat) (x : Int64) : pDL := fun k' => if k' = k then vp_updL (D k) i x else D k'
/-- the texts -/
abbrev pTx : Type := List (List Int32)
section PM
variable {ρ : Type}
def pPick (fs : List Nat) (j : Nat) (f : Nat → Option ρ) : Option ρ := match fs with
  | [] => none
  | c :: t => if j = 0 then (match c with | 0 => none | r + 1 => f r) else pPick t (j - 1) f
def pI1 (st : List pV) (f : Int32 → List pV → Option ρ) : Option ρ := match st with
  | .inl x :: r => f x r
  | _ => none
def pI2 (st : List pV) (f : Int32 → Int32 → List pV → Option ρ) : Option ρ := match st with
  | .inl y :: .inl x :: r => f x y r
  | _ => none
def pL2 (st : List pV) (f : Int64 → Int64 → List pV → Option ρ) : Option ρ := match st with
  | .inr (.inl y) :: .inr (.inl x) :: r => f x y r
  | _ => none
def pR1 (st : List pV) (f : Nat → Nat → List pV → Option ρ) : Option ρ := match st with
  | .inr (.inr (k, j)) :: r => f k j r
  | _ => none
def pRI (st : List pV) (f : Nat → Nat → Int32 → List pV → Option ρ) : Option ρ := match st with
  | .inl i :: .inr (.inr (k, j)) :: r => f k j i r
  | _ => none
def pRII (st : List pV) (f : Nat → Nat → Int32 → Int32 → List pV → Option ρ) : Option ρ := match st with
  | .inl x :: .inl i :: .inr (.inr (k, j)) :: r => f k j i x r
  | _ => none
def pRIL (st : List pV) (f : Nat → Nat → Int32 → Int64 → List pV → Option ρ) : Option ρ := match st with
  | .inr (.inl x) :: .inl i :: .inr (.inr (k, j)) :: r => f k j i x r
  | _ => none
def pV1 (st : List pV) (f : pV → List pV → Option ρ) : Option ρ := match st with
  | v :: r => f v r
  | _ => none
def pV2 (st : List pV) (f : pV → pV → List pV → Option ρ) : Option ρ := match st with
  | v :: u :: r => f v u r
  | _ => none
def pVR (st : List pV) (f : pV → Nat → Nat → List pV → Option ρ) : Option ρ := match st with
  | v :: .inr (.inr (k, j)) :: r => f v k j r
  | _ => none
def pE0 (st : List pV) (f : Option ρ) : Option ρ := match st with
  | [] => f
  | _ => none
def pE1 (st : List pV) (f : Int32 → Option ρ) : Option ρ := match st with
  | [.inl x] => f x
  | _ => none
def pER (st : List pV) (f : Nat → Nat → Option ρ) : Option ρ := match st with
  | [.inr (.inr (k, j))] => f k j
  | _ => none
/-- an array of numbers at (k, j): its sort and length -/
def pArr (S : List pSh) (k j : Nat) (f : Nat → Nat → Option ρ) : Option ρ := match S[k]? with
  | none => none
  | some q => (match q.1, j with
    | 0, 0 => f 0 q.2.1
    | 1, 0 => f 1 q.2.1
    | 2, 0 => f 2 q.2.1
    | 3, 0 => f 3 q.2.1
    | 5, i + 1 => if i < q.2.1 then (match q.2.2 with | w :: _ => f 0 w | [] => none) else none
    | _, _ => none)
def pIn (i : Int32) (n : Nat) (f : Nat → Option ρ) : Option ρ := if i < 0 ∨ n ≤ i.toNatClampNeg then none else f i.toNatClampNeg
def pLdI (L : pL) (i : Nat) (f : Int32 → Option ρ) : Option ρ := match L[i]? with
  | some (some (.inl x)) => f x
  | _ => none
def pLdR (L : pL) (i : Nat) (f : Nat → Nat → Option ρ) : Option ρ := match L[i]? with
  | some (some (.inr (.inr q))) => f q.1 q.2
  | _ => none
def pSto (L : pL) (i : Nat) (v : pV) (f : pL → Option ρ) : Option ρ := match L[i]? with
  | some _ => f (L.set i (some v))
  | none => none
def pC1 (v : pV) (f : Option ρ) : Option ρ := match v with
  | .inr (.inl _) => none
  | _ => f
/-- tableswitch, as a row of tests -/
def pSwT (x : Int32) (lo : Int) (pc : Nat) (offs : List Int) (d : Int) (f : Nat → Option ρ) : Option ρ := match offs with
  | [] => f ((pc : Int) + d).toNat
  | o :: q => if x.toInt = lo then f ((pc : Int) + o).toNat else pSwT x (lo + 1) pc q d f
def pSwL (x : Int32) (pc : Nat) (ps : List (Int × Int)) (d : Int) (f : Nat → Option ρ) : Option ρ := match ps with
  | [] => f ((pc : Int) + d).toNat
  | o :: q => if x.toInt = o.1 then f ((pc : Int) + o.2).toNat else pSwL x pc q d f
/-- the object (k, j) of the sort a: its fields' codes -/
def pObj (S : List pSh) (k j a : Nat) (f : pSh → Option ρ) : Option ρ := match S[k]? with
  | none => none
  | some q => (match Nat.beq q.1 (a + 7), j with
    | true, 0 => f q
    | _, _ => none)
/-- a reference in a field: even codes once it has been put there -/
def pFr (c : Nat) : Bool × Nat := match c with
  | 0 => (true, 0)
  | 1 => (false, 0)
  | c + 2 => ((pFr c).1, (pFr c).2 + 1)
/-- a field is read -/
def pGet (S : List pSh) (σ : pSt) (k j a b : Nat) (f : pV → Option ρ) : Option ρ := pObj S k j a fun q => (match q.2.2[b]? with
    | none => none
    | some 0 => f (.inl (σ.1 k 0 b))
    | some 1 => f (.inr (.inl (σ.2 k b)))
    | some 2 => f (.inl (σ.1 k 0 b))
    | some (c + 3) => (match pFr c with
      | (true, r) => f (.inr (.inr (r, 0)))
      | (false, r) => if σ.1 k 0 b = 1 then f (.inr (.inr (r, 0))) else none))
/-- a field is written -/
def pPut (S : List pSh) (σ : pSt) (k j a b : Nat) (v : pV) (f : pSt → Option ρ) : Option ρ := pObj S k j a fun q => (match q.2.2[b]?, v with
    | some 0, .inl x => f (dset σ.1 k 0 b x, σ.2)
    | some 1, .inr (.inl x) => f (σ.1, lset σ.2 k b x)
    | some 2, .inl x => if (x.toUInt32 % 65536).toInt32 = x then f (dset σ.1 k 0 b x, σ.2) else none
    | some (c + 3), .inr (.inr (y, j)) => (match pFr c, Nat.beq y (pFr c).2, j with
      | (false, _), true, 0 => f (dset σ.1 k 0 b 1, σ.2)
      | _, _, _ => none)
    | _, _ => none)
/-- what a return of this sort may give: 0 int, 1 boolean, 2 char -/
def pRet (a : Nat) (x : Int32) (f : Option ρ) : Option ρ := match a with
  | 0 => f
  | 1 => if x &&& 1 = x then f else none
  | 2 => if (x.toUInt32 % 65536).toInt32 = x then f else none
  | _ => none
/-- is there room for what stays -/
def pRm : Nat → List pV → Bool
  | _, [] => true
  | n + 1, .inl _ :: r => pRm n r
  | n + 1, .inr (.inr _) :: r => pRm n r
  | n + 2, .inr (.inl _) :: r => pRm n r
  | _, _ => false
/-- the call's arguments, the last one first, and what stays -/
def pTk : Nat → List pV → List pV → (List pV → List pV → Option ρ) → Option ρ
  | 0, acc, r, f => (match pRm 8 r with
    | true => f acc r
    | false => none)
  | n + 1, acc, v :: r, f => pC1 v (pTk n (v :: acc) r f)
  | _ + 1, _, [], _ => none
/-- is the receiver of its sort -/
def pRecv (S : List pSh) (w : Nat) (as : List pV) (f : Option ρ) : Option ρ := match w with
  | 0 => f
  | ci + 1 => (match as with
    | .inr (.inr (k, j)) :: _ => pObj S k j ci fun _ => f
    | _ => none)
/-- the depth of a call -/
def pDep (d c : Nat) (f : Nat → Option ρ) : Option ρ := match c with
  | 0 => (match d with
    | 0 => none
    | d' + 1 => f d')
  | d' + 1 => (match Nat.blt d' d with
    | true => f d'
    | false => none)
/-- arraycopy of ints -/
def pCopy (S : List pSh) (σ : pSt) (st : List pV) (f : List pV → pSt → Option ρ) : Option ρ := match st with
  | .inl n :: .inl dp :: .inr (.inr (d, 0)) :: .inl sp :: .inr (.inr (s, 0)) :: r => (match S[s]?, S[d]? with
    | some (0, ns, _), some (0, nd, _) => if sp < 0 ∨ dp < 0 ∨ n < 0 ∨ ns < sp.toNatClampNeg + n.toNatClampNeg ∨ nd < dp.toNatClampNeg + n.toNatClampNeg then none else f r (dcpy σ.1 s sp.toNatClampNeg d dp.toNatClampNeg n.toNatClampNeg, σ.2)
    | _, _ => none)
  | _ => none
def pTxt (S : List pSh) (k j : Nat) (T : pTx) (f : List Int32 → Option ρ) : Option ρ := match S[k]?, j with
  | some (6, i, _), 0 => (match T[i]? with | some t => f t | none => none)
  | _, _ => none
/-- what a call gave: nothing, an int, the cell r -/
def pB0 (q : Option pRes) (f : pD → pDL → Option ρ) : Option ρ := match q with
  | some (none, σ) => f σ.1 σ.2
  | _ => none
def pB1 (q : Option pRes) (f : Int32 → pD → pDL → Option ρ) : Option ρ := match q with
  | some (some (.inl x), σ) => f x σ.1 σ.2
  | _ => none
def pB2 (q : Option pRes) (r : Nat) (f : pD → pDL → Option ρ) : Option ρ := match q with
  | some (some (.inr (.inr y)), σ) => if y = (r, 0) then f σ.1 σ.2 else none
  | _ => none
def pBk (q : Option pRes) (g : Nat) (f : List pV → pSt → Option ρ) : Option ρ := match g with
  | 0 => pB0 q fun D DL => f [] (D, DL)
  | 1 => pB1 q fun x D DL => f [.inl x] (D, DL)
  | r + 2 => pB2 q r fun D DL => f [.inr (.inr (r, 0))] (D, DL)
end PM
end
section
section PS
variable {ρ : Type}
/-- ONE INSTRUCTION. K: goes on at a place; C: a call; Rr: the end -/
def sI (S : List pSh) (T : pTx) (d pc : Nat) (x : pX) (L : pL) (st : List pV) (σ : pSt) (K : Nat → pL → List pV → pSt → Option ρ) (C : Nat → Nat → List pV → Nat → Nat → pL → List pV → Option ρ) (Rr : Option pV → Option ρ) : Option ρ := match x with
  | (ins, a, b, c, w, g, z) => match ins with
    | .iconst _ => K (pc + 1) L (.inl z :: st) σ
    | .bipush _ => K (pc + 2) L (.inl z :: st) σ
    | .sipush _ => K (pc + 3) L (.inl z :: st) σ
    | .ldc _ => (match b with
      | 0 => K (pc + 2) L (.inl z :: st) σ
      | _ => (match S[a]? with
        | some (6, _, _) => K (pc + 2) L (.inr (.inr (a, 0)) :: st) σ
        | _ => none))
    | .ldc_w _ => K (pc + 3) L (.inl z :: st) σ
    | .ldc2_w _ => K (pc + 3) L (.inr (.inl (lN a)) :: st) σ
    | .lconst _ => K (pc + 1) L (.inr (.inl (lN a)) :: st) σ
    | .iload_n _ => pLdI L a fun x => K (pc + 1) L (.inl x :: st) σ
    | .iload _ => pLdI L a fun x => K (pc + 2) L (.inl x :: st) σ
    | .aload_n _ => pLdR L a fun k j => K (pc + 1) L (.inr (.inr (k, j)) :: st) σ
    | .aload _ => pLdR L a fun k j => K (pc + 2) L (.inr (.inr (k, j)) :: st) σ
    | .istore_n _ => pI1 st fun x r => pSto L a (.inl x) fun L' => K (pc + 1) L' r σ
    | .istore _ => pI1 st fun x r => pSto L a (.inl x) fun L' => K (pc + 2) L' r σ
    | .astore_n _ => pR1 st fun k j r => pSto L a (.inr (.inr (k, j))) fun L' => K (pc + 1) L' r σ
    | .astore _ => pR1 st fun k j r => pSto L a (.inr (.inr (k, j))) fun L' => K (pc + 2) L' r σ
    | .iinc _ _ => pLdI L a fun x => pSto L a (.inl (x + z)) fun L' => K (pc + 3) L' st σ
    | .iadd => pI2 st fun x y r => K (pc + 1) L (.inl (x + y) :: r) σ
    | .isub => pI2 st fun x y r => K (pc + 1) L (.inl (x - y) :: r) σ
    | .imul => pI2 st fun x y r => K (pc + 1) L (.inl (x * y) :: r) σ
    | .idiv => pI2 st fun x y r => if y = 0 then none else K (pc + 1) L (.inl (x / y) :: r) σ
    | .irem => pI2 st fun x y r => if y = 0 then none else K (pc + 1) L (.inl (x - x / y * y) :: r) σ
    | .iand => pI2 st fun x y r => K (pc + 1) L (.inl (x &&& y) :: r) σ
    | .ior => pI2 st fun x y r => K (pc + 1) L (.inl (x ||| y) :: r) σ
    | .ixor => pI2 st fun x y r => K (pc + 1) L (.inl (x ^^^ y) :: r) σ
    | .ishl => pI2 st fun x y r => K (pc + 1) L (.inl (x <<< (y &&& 31)) :: r) σ
    | .ishr => pI2 st fun x y r => K (pc + 1) L (.inl (x >>> (y &&& 31)) :: r) σ
    | .iushr => pI2 st fun x y r => K (pc + 1) L (.inl (x.toUInt32 >>> (y.toUInt32 &&& Int32.toUInt32 31)).toInt32 :: r) σ
    | .ladd => pL2 st fun x y r => K (pc + 1) L (.inr (.inl (x + y)) :: r) σ
    | .lsub => pL2 st fun x y r => K (pc + 1) L (.inr (.inl (x - y)) :: r) σ
    | .lmul => pL2 st fun x y r => K (pc + 1) L (.inr (.inl (x * y)) :: r) σ
    | .lcmp => pL2 st fun x y r => K (pc + 1) L (.inl (lg_cmp x y) :: r) σ
    | .i2l => pI1 st fun x r => K (pc + 1) L (.inr (.inl x.toInt64) :: r) σ
    | .i2b => pI1 st fun x r => K (pc + 1) L (.inl x.toInt8.toInt32 :: r) σ
    | .i2c => pI1 st fun x r => K (pc + 1) L (.inl (x.toUInt32 % 65536).toInt32 :: r) σ
    | .dup => pV1 st fun v r => pC1 v (K (pc + 1) L (v :: v :: r) σ)
    | .dup2 => pV2 st fun v u r => pC1 v (pC1 u (K (pc + 1) L (v :: u :: v :: u :: r) σ))
    | .pop => pV1 st fun v r => pC1 v (K (pc + 1) L r σ)
    | .goto _ => K a L st σ
    | .ifCond .eq _ => pI1 st fun x r => if x = 0 then K a L r σ else K (pc + 3) L r σ
    | .ifCond .ne _ => pI1 st fun x r => if x = 0 then K (pc + 3) L r σ else K a L r σ
    | .ifCond .lt _ => pI1 st fun x r => if x < 0 then K a L r σ else K (pc + 3) L r σ
    | .ifCond .ge _ => pI1 st fun x r => if 0 ≤ x then K a L r σ else K (pc + 3) L r σ
    | .ifCond .gt _ => pI1 st fun x r => if 0 < x then K a L r σ else K (pc + 3) L r σ
    | .ifCond .le _ => pI1 st fun x r => if x ≤ 0 then K a L r σ else K (pc + 3) L r σ
    | .if_icmp .eq _ => pI2 st fun x y r => if x = y then K a L r σ else K (pc + 3) L r σ
    | .if_icmp .ne _ => pI2 st fun x y r => if x = y then K (pc + 3) L r σ else K a L r σ
    | .if_icmp .lt _ => pI2 st fun x y r => if x < y then K a L r σ else K (pc + 3) L r σ
    | .if_icmp .ge _ => pI2 st fun x y r => if y ≤ x then K a L r σ else K (pc + 3) L r σ
    | .if_icmp .gt _ => pI2 st fun x y r => if y < x then K a L r σ else K (pc + 3) L r σ
    | .if_icmp .le _ => pI2 st fun x y r => if x ≤ y then K a L r σ else K (pc + 3) L r σ
    | .tableswitch d lo _ offs => pI1 st fun x r => pSwT x lo pc offs.toList d fun t => K t L r σ
    | .lookupswitch d ps => pI1 st fun x r => pSwL x pc ps.toList d fun t => K t L r σ
    | .getfield _ => pR1 st fun k j r => pGet S σ k j a b fun v => K (pc + 3) L (v :: r) σ
    | .putfield _ => pVR st fun v k j r => pPut S σ k j a b v fun σ' => K (pc + 3) L r σ'
    | .iaload => pRI st fun k j i r => pArr S k j fun t n => (match t with | 0 => pIn i n fun q => K (pc + 1) L (.inl (σ.1 k j q) :: r) σ | _ => none)
    | .baload => pRI st fun k j i r => pArr S k j fun t n => (match t with | 1 => pIn i n fun q => K (pc + 1) L (.inl (σ.1 k j q) :: r) σ | 2 => pIn i n fun q => K (pc + 1) L (.inl (σ.1 k j q) :: r) σ | _ => none)
    | .laload => pRI st fun k j i r => pArr S k j fun t n => (match t with | 3 => pIn i n fun q => K (pc + 1) L (.inr (.inl (σ.2 k q)) :: r) σ | _ => none)
    | .aaload => pRI st fun k j i r => (match S[k]?, j with
      | some (4, n, fs), 0 => pIn i n fun q => pPick fs q fun y => K (pc + 1) L (.inr (.inr (y, 0)) :: r) σ
      | some (5, n, _), 0 => pIn i n fun q => K (pc + 1) L (.inr (.inr (k, q + 1)) :: r) σ
      | _, _ => none)
    | .iastore => pRII st fun k j i x r => pArr S k j fun t n => (match t with | 0 => pIn i n fun q => K (pc + 1) L r (dset σ.1 k j q x, σ.2) | _ => none)
    | .bastore => pRII st fun k j i x r => pArr S k j fun t n => (match t with | 1 => pIn i n fun q => K (pc + 1) L r (dset σ.1 k j q x.toInt8.toInt32, σ.2) | 2 => pIn i n fun q => K (pc + 1) L r (dset σ.1 k j q (x &&& 1), σ.2) | _ => none)
    | .lastore => pRIL st fun k j i x r => pArr S k j fun t n => (match t with | 3 => pIn i n fun q => K (pc + 1) L r (σ.1, lset σ.2 k q x) | _ => none)
    | .arraylength => pR1 st fun k j r => pArr S k j fun _ n => K (pc + 1) L (.inl (nI n) :: r) σ
    | .invokevirtual _ => (match c, b with
      | 0, 0 => pR1 st fun k j r => pTxt S k j T fun t => (match pRm 8 r with | true => K (pc + 3) L (.inl (nI t.length) :: r) σ | false => none)
      | 0, _ + 1 => pRI st fun k j i r => pTxt S k j T fun t => (match pRm 8 r with | true => pIn i t.length fun q => K (pc + 3) L (.inl (t.getD q 0) :: r) σ | false => none)
      | c + 1, b => pTk b [] st fun as r => pRecv S w as (pDep d c fun d' => C a d' as g (pc + 3) L r))
    | .invokestatic _ => (match c with
      | 0 => pCopy S σ st fun r σ' => (match pRm 8 r with | true => K (pc + 3) L r σ' | false => none)
      | c + 1 => pTk b [] st fun as r => pDep d c fun d' => C a d' as g (pc + 3) L r)
    | .ireturn => pE1 st fun x => pRet a x (Rr (some (.inl x)))
    | .areturn => pER st fun k j => Rr (some (.inr (.inr (k, j))))
    | .return_ => pE0 st (Rr none)
    | _ => none
end PS
end
section
section PR
/-- what lives at a cut -/
def pMask (keep : List Bool) (L : pL) : pL := match keep, L with
  | true :: k, v :: l => v :: pMask k l
  | false :: k, _ :: l => none :: pMask k l
  | _, _ => []
def pFind {α : Type} (pc : Nat) (l : List (Nat × α)) : Option α := match l with
  | [] => none
  | q :: t => (match Nat.beq q.1 pc with
    | true => some q.2
    | false => pFind pc t)
def pL0 (as : List pV) : pL := as.map some ++ [none, none, none, none, none, none, none, none, none, none, none, none, none, none]
def pCut (M : pM) (pc : Nat) (L : pL) : pL := match pFind pc M.2 with
  | none => L
  | some k => pMask k L
variable {ρ : Type}
abbrev pK (ρ : Type) : Type := Nat → Nat → Nat → pL → List pV → pSt → Option ρ
/-- one instruction of the method me, whose runs are E -/
def pSt1 (S : List pSh) (T : pTx) (E : pK pRes) (M : pM) (me d pc : Nat) (L : pL) (st : List pV) (σ : pSt) (K : Nat → pL → List pV → pSt → Option pRes) : Option pRes := match pFind pc M.1 with
  | none => none
  | some x => sI S T d pc x L st σ K (fun me' d' as g pc' L' r => pBk (E me' d' 0 (pL0 as) [] σ) g fun v σ' => K pc' L' (v ++ r) σ') (fun v => some (v, σ))
/-- THE RUN, n steps: method me, its depth d -/
def pr (S : List pSh) (P : List pM) (T : pTx) : Nat → pK pRes
  | 0, _, _, _, _, _, _ => none
  | n + 1, me, d, pc, L, st, σ => match P[me]? with
    | none => none
    | some M => pSt1 S T (pr S P T n) M me d pc L st σ fun pc' L' st' σ' => pr S P T n me d pc' (pCut M pc' L') st' σ'
/-! naturality -/
variable {τ : Type}
theorem nb_pick (fs : List Nat) (j : Nat) (F : Nat → Option ρ) (f : ρ → Option τ) : (pPick fs j F).bind f = pPick fs j fun x => (F x).bind f := by
  induction fs generalizing j with
  | nil => rfl
  | cons c t ih =>
    unfold pPick
    split
    · cases c <;> rfl
    · exact ih _
theorem nb_I1 (st : List pV) (F : Int32 → List pV → Option ρ) (f : ρ → Option τ) : (pI1 st F).bind f = pI1 st fun x r => (F x r).bind f := by unfold pI1; split <;> rfl
theorem nb_I2 (st : List pV) (F : Int32 → Int32 → List pV → Option ρ) (f : ρ → Option τ) : (pI2 st F).bind f = pI2 st fun x y r => (F x y r).bind f := by unfold pI2; split <;> rfl
theorem nb_L2 (st : List pV) (F : Int64 → Int64 → List pV → Option ρ) (f : ρ → Option τ) : (pL2 st F).bind f = pL2 st fun x y r => (F x y r).bind f := by unfold pL2; split <;> rfl
theorem nb_R1 (st : List pV) (F : Nat → Nat → List pV → Option ρ) (f : ρ → Option τ) : (pR1 st F).bind f = pR1 st fun x y r => (F x y r).bind f := by unfold pR1; split <;> rfl
theorem nb_RI (st : List pV) (F : Nat → Nat → Int32 → List pV → Option ρ) (f : ρ → Option τ) : (pRI st F).bind f = pRI st fun x y i r => (F x y i r).bind f := by unfold pRI; split <;> rfl
theorem nb_RII (st : List pV) (F : Nat → Nat → Int32 → Int32 → List pV → Option ρ) (f : ρ → Option τ) : (pRII st F).bind f = pRII st fun x y i z r => (F x y i z r).bind f := by unfold pRII; split <;> rfl
theorem nb_RIL (st : List pV) (F : Nat → Nat → Int32 → Int64 → List pV → Option ρ) (f : ρ → Option τ) : (pRIL st F).bind f = pRIL st fun x y i z r => (F x y i z r).bind f := by unfold pRIL; split <;> rfl
theorem nb_V1 (st : List pV) (F : pV → List pV → Option ρ) (f : ρ → Option τ) : (pV1 st F).bind f = pV1 st fun x r => (F x r).bind f := by unfold pV1; split <;> rfl
theorem nb_V2 (st : List pV) (F : pV → pV → List pV → Option ρ) (f : ρ → Option τ) : (pV2 st F).bind f = pV2 st fun x y r => (F x y r).bind f := by unfold pV2; split <;> rfl
theorem nb_VR (st : List pV) (F : pV → Nat → Nat → List pV → Option ρ) (f : ρ → Option τ) : (pVR st F).bind f = pVR st fun x k j r => (F x k j r).bind f := by unfold pVR; split <;> rfl
theorem nb_E0 (st : List pV) (F : Option ρ) (f : ρ → Option τ) : (pE0 st F).bind f = pE0 st (F.bind f) := by unfold pE0; split <;> rfl
theorem nb_E1 (st : List pV) (F : Int32 → Option ρ) (f : ρ → Option τ) : (pE1 st F).bind f = pE1 st fun x => (F x).bind f := by unfold pE1; split <;> rfl
theorem nb_ER (st : List pV) (F : Nat → Nat → Option ρ) (f : ρ → Option τ) : (pER st F).bind f = pER st fun x y => (F x y).bind f := by unfold pER; split <;> rfl
theorem nb_Arr (S : List pSh) (k j : Nat) (F : Nat → Nat → Option ρ) (f : ρ → Option τ) : (pArr S k j F).bind f = pArr S k j fun t n => (F t n).bind f := by
  unfold pArr
  split
  · rfl
  · split <;> try rfl
    split
    · split <;> rfl
    · rfl
theorem nb_In (i : Int32) (n : Nat) (F : Nat → Option ρ) (f : ρ → Option τ) : (pIn i n F).bind f = pIn i n fun q => (F q).bind f := by unfold pIn; split <;> rfl
theorem nb_LdI (L : pL) (i : Nat) (F : Int32 → Option ρ) (f : ρ → Option τ) : (pLdI L i F).bind f = pLdI L i fun q => (F q).bind f := by unfold pLdI; split <;> rfl
theorem nb_LdR (L : pL) (i : Nat) (F : Nat → Nat → Option ρ) (f : ρ → Option τ) : (pLdR L i F).bind f = pLdR L i fun k j => (F k j).bind f := by unfold pLdR; split <;> rfl
theorem nb_Sto (L : pL) (i : Nat) (v : pV) (F : pL → Option ρ) (f : ρ → Option τ) : (pSto L i v F).bind f = pSto L i v fun q => (F q).bind f := by unfold pSto; split <;> rfl
theorem nb_C1 (v : pV) (F : Option ρ) (f : ρ → Option τ) : (pC1 v F).bind f = pC1 v (F.bind f) := by unfold pC1; split <;> rfl
theorem nb_SwT (x : Int32) (pc : Nat) (offs : List Int) (d : Int) (F : Nat → Option ρ) (f : ρ → Option τ) : ∀ lo : Int, (pSwT x lo pc offs d F).bind f = pSwT x lo pc offs d fun q => (F q).bind f := by
  induction offs with
  | nil => intro lo; rfl
  | cons o t ih =>
    intro lo
    unfold pSwT
    split
    · rfl
    · exact ih _
theorem nb_SwL (x : Int32) (pc : Nat) (ps : List (Int × Int)) (d : Int) (F : Nat → Option ρ) (f : ρ → Option τ) : (pSwL x pc ps d F).bind f = pSwL x pc ps d fun q => (F q).bind f := by
  induction ps with
  | nil => rfl
  | cons o t ih =>
    unfold pSwL
    split
    · rfl
    · exact ih
theorem nb_Obj (S : List pSh) (k j a : Nat) (F : pSh → Option ρ) (f : ρ → Option τ) : (pObj S k j a F).bind f = pObj S k j a fun q => (F q).bind f := by
  unfold pObj
  split
  · rfl
  · split <;> rfl
theorem nb_Get (S : List pSh) (σ : pSt) (k j a b : Nat) (F : pV → Option ρ) (f : ρ → Option τ) : (pGet S σ k j a b F).bind f = pGet S σ k j a b fun q => (F q).bind f := by
  unfold pGet
  rw [nb_Obj]
  congr 1
  funext q
  split <;> try rfl
  split
  · rfl
  · split <;> rfl
theorem nb_Put (S : List pSh) (σ : pSt) (k j a b : Nat) (v : pV) (F : pSt → Option ρ) (f : ρ → Option τ) : (pPut S σ k j a b v F).bind f = pPut S σ k j a b v fun q => (F q).bind f := by
  unfold pPut
  rw [nb_Obj]
  congr 1
  funext q
  split <;> try rfl
  · split <;> rfl
  · split <;> rfl
theorem nb_Ret (a : Nat) (x : Int32) (F : Option ρ) (f : ρ → Option τ) : (pRet a x F).bind f = pRet a x (F.bind f) := by
  unfold pRet
  split <;> try rfl
  · split <;> rfl
  · split <;> rfl
theorem nb_Tk (F : List pV → List pV → Option ρ) (f : ρ → Option τ) : ∀ (n : Nat) (acc st : List pV), (pTk n acc st F).bind f = pTk n acc st fun x y => (F x y).bind f
  | 0, acc, st => by unfold pTk; split <;> rfl
  | n + 1, acc, v :: r => by unfold pTk; rw [nb_C1, nb_Tk F f n]
  | n + 1, acc, [] => rfl
theorem nb_Recv (S : List pSh) (w : Nat) (as : List pV) (F : Option ρ) (f : ρ → Option τ) : (pRecv S w as F).bind f = pRecv S w as (F.bind f) := by
  unfold pRecv
  split
  · rfl
  · split
    · exact nb_Obj _ _ _ _ _ _
    · rfl
theorem nb_Dep (d c : Nat) (F : Nat → Option ρ) (f : ρ → Option τ) : (pDep d c F).bind f = pDep d c fun q => (F q).bind f := by
  unfold pDep
  split
  · split <;> rfl
  · split <;> rfl
theorem nb_Copy (S : List pSh) (σ : pSt) (st : List pV) (F : List pV → pSt → Option ρ) (f : ρ → Option τ) : (pCopy S σ st F).bind f = pCopy S σ st fun x y => (F x y).bind f := by
  unfold pCopy
  split
  · split
    · split <;> rfl
    · rfl
  · rfl
theorem nb_Txt (S : List pSh) (k j : Nat) (T : pTx) (F : List Int32 → Option ρ) (f : ρ → Option τ) : (pTxt S k j T F).bind f = pTxt S k j T fun x => (F x).bind f := by
  unfold pTxt
  split
  · split <;> rfl
  · rfl
theorem nb_ite {q : Prop} {hd : Decidable q} (A B : Option ρ) (f : ρ → Option τ) : (if q then A else B).bind f = if q then A.bind f else B.bind f := by split <;> rfl
end PR
end
section
section PN
variable {ρ τ : Type}
set_option maxHeartbeats 4000000 in
theorem sI_nat (S : List pSh) (T : pTx) (d pc : Nat) (x : pX) (L : pL) (st : List pV) (σ : pSt) (K : Nat → pL → List pV → pSt → Option ρ) (C : Nat → Nat → List pV → Nat → Nat → pL → List pV → Option ρ) (Rr : Option pV → Option ρ) (f : ρ → Option τ) :
    (sI S T d pc x L st σ K C Rr).bind f = sI S T d pc x L st σ (fun q1 q2 q3 q4 => (K q1 q2 q3 q4).bind f) (fun q1 q2 q3 q4 q5 q6 q7 => (C q1 q2 q3 q4 q5 q6 q7).bind f) (fun v => (Rr v).bind f) := by
  obtain ⟨ins, a, b, c, w, g, z⟩ := x
  cases ins with
  | ifCond cd o => cases cd <;> simp only [sI, nb_I1, nb_ite]
  | if_icmp cd o => cases cd <;> simp only [sI, nb_I2, nb_ite]
  | ldc i =>
    unfold sI
    dsimp only
    split
    · rfl
    · split <;> rfl
  | iaload =>
    simp only [sI, nb_RI, nb_Arr]
    congr 1; funext k j i r; congr 1; funext t n
    split
    · exact nb_In _ _ _ _
    · rfl
  | baload =>
    simp only [sI, nb_RI, nb_Arr]
    congr 1; funext k j i r; congr 1; funext t n
    split
    · exact nb_In _ _ _ _
    · exact nb_In _ _ _ _
    · rfl
  | laload =>
    simp only [sI, nb_RI, nb_Arr]
    congr 1; funext k j i r; congr 1; funext t n
    split
    · exact nb_In _ _ _ _
    · rfl
  | aaload =>
    simp only [sI, nb_RI]
    congr 1; funext k j i r
    split
    · rw [nb_In]; simp only [nb_pick]
    · exact nb_In _ _ _ _
    · rfl
  | iastore =>
    simp only [sI, nb_RII, nb_Arr]
    congr 1; funext k j i x r; congr 1; funext t n
    split
    · exact nb_In _ _ _ _
    · rfl
  | bastore =>
    simp only [sI, nb_RII, nb_Arr]
    congr 1; funext k j i x r; congr 1; funext t n
    split
    · exact nb_In _ _ _ _
    · exact nb_In _ _ _ _
    · rfl
  | lastore =>
    simp only [sI, nb_RIL, nb_Arr]
    congr 1; funext k j i x r; congr 1; funext t n
    split
    · exact nb_In _ _ _ _
    · rfl
  | invokevirtual i =>
    unfold sI
    dsimp only
    split
    · rw [nb_R1]; congr 1; funext k j r; rw [nb_Txt]; congr 1; funext t
      split <;> rfl
    · rw [nb_RI]; congr 1; funext k j i r; rw [nb_Txt]; congr 1; funext t
      split
      · exact nb_In _ _ _ _
      · rfl
    · simp only [nb_Tk, nb_Recv, nb_Dep]
  | invokestatic i =>
    unfold sI
    dsimp only
    split
    · rw [nb_Copy]; congr 1; funext r s
      split <;> rfl
    · simp only [nb_Tk, nb_Dep]
  | _ => first | rfl | (simp only [sI, nb_V1, nb_V2, nb_VR, nb_E0, nb_E1, nb_ER, nb_C1, nb_Put, nb_Ret, nb_I1, nb_I2, nb_L2, nb_R1, nb_RI, nb_RII, nb_RIL, nb_Arr, nb_LdI, nb_LdR, nb_Sto, nb_SwT, nb_SwL, nb_Get, nb_ite, Option.bind_none]; done)
/-- what one instruction comes to -/
abbrev pO : Type := (Nat × pL × List pV × pSt) ⊕ (Nat × Nat × List pV × Nat × Nat × pL × List pV) ⊕ Option pV
def sO (S : List pSh) (T : pTx) (d pc : Nat) (x : pX) (L : pL) (st : List pV) (σ : pSt) : Option pO := sI S T d pc x L st σ (fun q1 q2 q3 q4 => some (.inl (q1, q2, q3, q4))) (fun q1 q2 q3 q4 q5 q6 q7 => some (.inr (.inl (q1, q2, q3, q4, q5, q6, q7)))) (fun v => some (.inr (.inr v)))
theorem sI_sO (S : List pSh) (T : pTx) (d pc : Nat) (x : pX) (L : pL) (st : List pV) (σ : pSt) (K : Nat → pL → List pV → pSt → Option ρ) (C : Nat → Nat → List pV → Nat → Nat → pL → List pV → Option ρ) (Rr : Option pV → Option ρ) :
    sI S T d pc x L st σ K C Rr = (sO S T d pc x L st σ).bind fun o => match o with
      | .inl q => K q.1 q.2.1 q.2.2.1 q.2.2.2
      | .inr (.inl q) => C q.1 q.2.1 q.2.2.1 q.2.2.2.1 q.2.2.2.2.1 q.2.2.2.2.2.1 q.2.2.2.2.2.2
      | .inr (.inr v) => Rr v := by
  unfold sO
  rw [sI_nat]
  rfl
end PN
end
section
section PEV
variable (S : List pSh) (P : List pM) (T : pTx)
theorem pB0_le {ρ : Type} {E E' : Option pRes} {F F' : pD → pDL → Option ρ} {r : ρ} (hE : ∀ r, E = some r → E' = some r) (hF : ∀ D DL r, F D DL = some r → F' D DL = some r) (h : pB0 E F = some r) : pB0 E' F' = some r := by
  unfold pB0 at h
  split at h
  · rw [hE _ rfl]; exact hF _ _ _ h
  · cases h
theorem pB1_le {ρ : Type} {E E' : Option pRes} {F F' : Int32 → pD → pDL → Option ρ} {r : ρ} (hE : ∀ r, E = some r → E' = some r) (hF : ∀ x D DL r, F x D DL = some r → F' x D DL = some r) (h : pB1 E F = some r) : pB1 E' F' = some r := by
  unfold pB1 at h
  split at h
  · rw [hE _ rfl]; exact hF _ _ _ _ h
  · cases h
theorem pB2_le {ρ : Type} {E E' : Option pRes} {k : Nat} {F F' : pD → pDL → Option ρ} {r : ρ} (hE : ∀ r, E = some r → E' = some r) (hF : ∀ D DL r, F D DL = some r → F' D DL = some r) (h : pB2 E k F = some r) : pB2 E' k F' = some r := by
  unfold pB2 at h
  split at h
  · split at h
    · rw [hE _ rfl]; exact (if_pos (by assumption)).trans (hF _ _ _ h)
    · cases h
  · cases h
theorem pBk_le {ρ : Type} {E E' : Option pRes} {g : Nat} {F F' : List pV → pSt → Option ρ} {r : ρ} (hE : ∀ r, E = some r → E' = some r) (hF : ∀ v σ r, F v σ = some r → F' v σ = some r) (h : pBk E g F = some r) : pBk E' g F' = some r := by
  unfold pBk at h ⊢
  split
  · exact pB0_le hE (fun _ _ _ => hF _ _ _) h
  · exact pB1_le hE (fun _ _ _ _ => hF _ _ _) h
  · exact pB2_le hE (fun _ _ _ => hF _ _ _) h
theorem pr_mono : ∀ (n me d pc : Nat) (L : pL) (st : List pV) (σ : pSt) (r : pRes), pr S P T n me d pc L st σ = some r → pr S P T (n + 1) me d pc L st σ = some r
  | 0, _, _, _, _, _, _, _, h => by cases h
  | n + 1, me, d, pc, L, st, σ, r, h => by
    unfold pr at h ⊢
    cases hM : P[me]? with
    | none => rw [hM] at h; cases h
    | some M =>
      rw [hM] at h
      dsimp only at h ⊢
      unfold pSt1 at h ⊢
      cases hx : pFind pc M.1 with
      | none => rw [hx] at h; cases h
      | some x =>
        rw [hx] at h
        dsimp only at h ⊢
        rw [sI_sO] at h ⊢
        cases ho : sO S T d pc x L st σ with
        | none => rw [ho] at h; cases h
        | some o =>
          rw [ho] at h
          rw [Option.bind_some] at h ⊢
          rcases o with q | q | v
          · exact pr_mono n _ _ _ _ _ _ _ h
          · dsimp only at h ⊢
            exact pBk_le (fun r hr => pr_mono n _ _ _ _ _ _ _ hr) (fun v s r hr => pr_mono n _ _ _ _ _ _ _ hr) h
          · exact h
theorem pr_le {n k me d pc : Nat} {L : pL} {st : List pV} {σ : pSt} {r : pRes} (hk : n ≤ k) (h : pr S P T n me d pc L st σ = some r) : pr S P T k me d pc L st σ = some r := by
  induction hk with
  | refl => exact h
  | step _ ih => exact pr_mono S P T _ _ _ _ _ _ _ _ ih
/-- what the run comes to, if it ends -/
noncomputable def ev : pK pRes := fun me d pc L st σ => @dite _ (∃ (r : pRes) (n : Nat), pr S P T n me d pc L st σ = some r) (Classical.propDecidable _) (fun h => some (Classical.choose h)) (fun _ => none)
theorem ev_iff {me d pc : Nat} {L : pL} {st : List pV} {σ : pSt} {r : pRes} : ev S P T me d pc L st σ = some r ↔ ∃ n, pr S P T n me d pc L st σ = some r := by
  unfold ev
  constructor
  · intro h
    split at h
    · next hh =>
      obtain ⟨n, hn⟩ := Classical.choose_spec hh
      exact ⟨n, by rw [hn, ← Option.some.inj h]⟩
    · cases h
  · intro ⟨n, hn⟩
    have hh : ∃ (r : pRes) (n : Nat), pr S P T n me d pc L st σ = some r := ⟨r, n, hn⟩
    rw [dif_pos hh]
    obtain ⟨k, hk⟩ := Classical.choose_spec hh
    have h1 := pr_le S P T (Nat.le_max_left n k) hn
    have h2 := pr_le S P T (Nat.le_max_right n k) hk
    rw [h1] at h2
    exact h2.symm
theorem ev_eq (me d pc : Nat) (L : pL) (st : List pV) (σ : pSt) : ev S P T me d pc L st σ = match P[me]? with
    | none => none
    | some M => pSt1 S T (ev S P T) M me d pc L st σ fun pc' L' st' σ' => ev S P T me d pc' (pCut M pc' L') st' σ' := by
  apply Option.ext
  intro r
  constructor
  · intro h
    obtain ⟨n, hn⟩ := (ev_iff S P T).mp h
    cases n with
    | zero => cases hn
    | succ n =>
      unfold pr at hn
      cases hM : P[me]? with
      | none => rw [hM] at hn; cases hn
      | some M =>
        rw [hM] at hn
        dsimp only at hn ⊢
        unfold pSt1 at hn ⊢
        cases hx : pFind pc M.1 with
        | none => rw [hx] at hn; cases hn
        | some x =>
          rw [hx] at hn
          dsimp only at hn ⊢
          rw [sI_sO] at hn ⊢
          cases ho : sO S T d pc x L st σ with
          | none => rw [ho] at hn; cases hn
          | some o =>
            rw [ho] at hn
            rw [Option.bind_some] at hn ⊢
            rcases o with q | q | v
            · exact (ev_iff S P T).mpr ⟨n, hn⟩
            · dsimp only at hn ⊢
              exact pBk_le (fun r hr => (ev_iff S P T).mpr ⟨n, hr⟩) (fun v s r hr => (ev_iff S P T).mpr ⟨n, hr⟩) hn
            · exact hn
  · intro h
    cases hM : P[me]? with
    | none => rw [hM] at h; cases h
    | some M =>
      rw [hM] at h
      dsimp only at h
      unfold pSt1 at h
      cases hx : pFind pc M.1 with
      | none => rw [hx] at h; cases h
      | some x =>
        rw [hx] at h
        dsimp only at h
        rw [sI_sO] at h
        cases ho : sO S T d pc x L st σ with
        | none => rw [ho] at h; cases h
        | some o =>
          have goal : ∀ n, (match o with
              | .inl q => pr S P T n me d q.1 (pCut M q.1 q.2.1) q.2.2.1 q.2.2.2
              | .inr (.inl q) => pBk (pr S P T n q.1 q.2.1 0 (pL0 q.2.2.1) [] σ) q.2.2.2.1 fun v σ' => pr S P T n me d q.2.2.2.2.1 (pCut M q.2.2.2.2.1 q.2.2.2.2.2.1) (v ++ q.2.2.2.2.2.2) σ'
              | .inr (.inr v) => some (v, σ)) = some r → ev S P T me d pc L st σ = some r := by
            intro n hn
            refine (ev_iff S P T).mpr ⟨n + 1, ?_⟩
            unfold pr
            rw [hM]
            dsimp only
            unfold pSt1
            rw [hx]
            dsimp only
            rw [sI_sO, ho, Option.bind_some]
            rcases o with q | q | v <;> exact hn
          rw [ho] at h
          rw [Option.bind_some] at h
          rcases o with q | q | v
          · obtain ⟨n, hn⟩ := (ev_iff S P T).mp h
            exact goal n hn
          · dsimp only at h goal
            have key : ∃ (n : Nat) (w : pRes), pr S P T n q.1 q.2.1 0 (pL0 q.2.2.1) [] σ = some w ∧ pBk (some w) q.2.2.2.1 (fun v σ' => pr S P T n me d q.2.2.2.2.1 (pCut M q.2.2.2.2.1 q.2.2.2.2.2.1) (v ++ q.2.2.2.2.2.2) σ') = some r := by
              unfold pBk at h ⊢
              split at h
              · unfold pB0 at h ⊢
                split at h
                · next w hw =>
                  obtain ⟨n, hn⟩ := (ev_iff S P T).mp hw
                  obtain ⟨k, hk⟩ := (ev_iff S P T).mp h
                  exact ⟨max n k, _, pr_le S P T (Nat.le_max_left n k) hn, pr_le S P T (Nat.le_max_right n k) hk⟩
                · cases h
              · unfold pB1 at h ⊢
                split at h
                · next w hw =>
                  obtain ⟨n, hn⟩ := (ev_iff S P T).mp hw
                  obtain ⟨k, hk⟩ := (ev_iff S P T).mp h
                  exact ⟨max n k, _, pr_le S P T (Nat.le_max_left n k) hn, pr_le S P T (Nat.le_max_right n k) hk⟩
                · cases h
              · unfold pB2 at h ⊢
                split at h
                · next w hw =>
                  split at h
                  · next hc =>
                    obtain ⟨n, hn⟩ := (ev_iff S P T).mp hw
                    obtain ⟨k, hk⟩ := (ev_iff S P T).mp h
                    exact ⟨max n k, _, pr_le S P T (Nat.le_max_left n k) hn, (if_pos hc).trans (pr_le S P T (Nat.le_max_right n k) hk)⟩
                  · cases h
                · cases h
            obtain ⟨n, w, h1, h2⟩ := key
            refine goal n ?_
            rw [h1]
            exact h2
          · exact goal 0 h
/-- k steps within the method, up to its cuts -/
noncomputable def go (E : pK pRes) (M : pM) (me d : Nat) : Nat → Nat → pL → List pV → pSt → Option pRes
  | 0, pc, L, st, σ => E me d pc L st σ
  | k + 1, pc, L, st, σ => pSt1 S T E M me d pc L st σ fun pc' L' st' σ' => (match pFind pc' M.2 with
    | some keep => E me d pc' (pMask keep L') st' σ'
    | none => go E M me d k pc' L' st' σ')
theorem ev_go {M : pM} {me : Nat} (hM : P[me]? = some M) (d : Nat) : ∀ (k pc : Nat) (L : pL) (st : List pV) (σ : pSt), ev S P T me d pc L st σ = go S T (ev S P T) M me d k pc L st σ
  | 0, _, _, _, _ => rfl
  | k + 1, pc, L, st, σ => by
    rw [ev_eq, hM]
    dsimp only
    unfold go
    congr 1
    funext pc' L' st' σ'
    unfold pCut
    cases hc : pFind pc' M.2 with
    | none => exact ev_go hM d k pc' L' st' σ'
    | some keep => rfl
end PEV
end
section
/-! THE WORLD of a pure state, and what a pure step says of the machine's -/
def rv (ad : Nat → Nat → Nat) (v : pV) : Value := match v with
  | .inl x => .int x
  | .inr (.inl y) => .long y
  | .inr (.inr q) => .ref (ad q.1 q.2)
/-- where a reference of a field leads -/
def pFa (ad : Nat → Nat → Nat) (un : Nat) (c : Bool × Nat) (x : Int32) : Nat := match c with
  | (true, r) => ad r 0
  | (false, r) => if x = 1 then ad r 0 else un
def pFv (ad : Nat → Nat → Nat) (un : Nat) (f : Nat → Int32) (g : Nat → Int64) (b c : Nat) : Value := match c with
  | 0 => .int (f b)
  | 1 => .long (g b)
  | 2 => .int (f b)
  | c + 3 => .ref (pFa ad un (pFr c) (f b))
def pRc (ad : Nat → Nat → Nat) (c : Nat) : Option Nat := match c with
  | 0 => none
  | r + 1 => some (ad r 0)
def pCell (ad : Nat → Nat → Nat) (un : Nat) (cA : Nat → ClassId) (q : pSh) (k j : Nat) (f : Nat → Int32) (g : Nat → Int64) : Option va_E := match q.1, j with
  | 0, 0 => some (.inl (cA 0, q.2.1, .inl f))
  | 1, 0 => some (.inl (cA 1, q.2.1, .inl f))
  | 2, 0 => some (.inl (cA 2, q.2.1, .inl f))
  | 3, 0 => some (.inl (cA 3, q.2.1, .inr (.inl g)))
  | 4, 0 => some (.inl (cA 4, q.2.1, .inr (.inr (.inr (.inr (fun i => pRc ad (q.2.2.getD i 0)))))))
  | 5, 0 => some (.inl (cA 5, q.2.1, .inr (.inr (.inr (.inr (fun i => some (ad k (i + 1))))))))
  | 5, i + 1 => if i < q.2.1 then (match q.2.2 with | w :: _ => some (.inl (cA 0, w, .inl f)) | [] => none) else none
  | ci + 7, 0 => some (.inr (ci, q.2.2.mapIdx fun b c => pFv ad un f g b c))
  | _, _ => none
section PWO
variable (S : List pSh) (ad : Nat → Nat → Nat) (un : Nat) (cA : Nat → ClassId) (dg : va_G) (A : Nat → Prop)
def pCe (σ : pSt) (k j : Nat) : Option va_E := match S[k]? with
  | none => none
  | some q => pCell ad un cA q k j (σ.1 k j) (σ.2 k)
/-- the heap holds the state -/
def pWo (σ : pSt) (H : Heap) : Prop := ∀ (k j : Nat) (e : va_E), pCe S ad un cA σ k j = some e → va_at dg vwCl (ad k j, e) H
/-- the cells are apart, and of a kind -/
def pAp : Prop := (∀ (σ σ' : pSt) (k j k' j' : Nat) (e e' : va_E), pCe S ad un cA σ k j = some e → pCe S ad un cA σ' k' j' = some e' → ad k j = ad k' j' → k' = k ∧ j' = j) ∧ ∀ (σ : pSt) (k j : Nat) (e : va_E), pCe S ad un cA σ k j = some e → A (ad k j)
def pTys : List (ClassId × FieldType) := [(cA 0, .int), (cA 1, .byte), (cA 2, .boolean), (cA 3, .long), (cA 4, .object RX5), (cA 5, .array .int)]
variable {S ad un cA dg A}
theorem pWo.sing {σ : pSt} {H : Heap} (h : pWo S ad un cA dg σ H) {k j : Nat} {e : va_E} (he : pCe S ad un cA σ k j = some e) : va_P dg vwCl [(ad k j, e)] H := by
  intro i q hq
  cases i with
  | zero => cases hq; exact h k j e he
  | succ i => cases hq
theorem dset_ne {D : pD} {k j i : Nat} {x : Int32} {k' j' : Nat} (h : ¬ (k' = k ∧ j' = j)) : dset D k j i x k' j' = D k' j' := if_neg h
theorem dset_eq {D : pD} {k j i : Nat} {x : Int32} : dset D k j i x k j = upd (D k j) i x := if_pos ⟨rfl, rfl⟩
theorem lset_ne {D : pDL} {k i : Nat} {x : Int64} {k' : Nat} (h : ¬ k' = k) : lset D k i x k' = D k' := if_neg h
theorem lset_eq {D : pDL} {k i : Nat} {x : Int64} : lset D k i x k = vp_updL (D k) i x := if_pos rfl
theorem dcpy_ne {D : pD} {s sp d dp n : Nat} {k' j' : Nat} (h : ¬ (k' = d ∧ j' = 0)) : dcpy D s sp d dp n k' j' = D k' j' := if_neg h
theorem dcpy_eq {D : pD} {s sp d dp n : Nat} : dcpy D s sp d dp n d 0 = va_cpy (D s 0) (D d 0) sp dp n := if_pos ⟨rfl, rfl⟩
/-- one cell was written -/
theorem pWo.put {σ σ' : pSt} {H H1 : Heap} {k j : Nat} {e0 : va_E} (hJ : pAp S ad un cA A) (h : pWo S ad un cA dg σ H) (he : pCe S ad un cA σ k j = some e0) (hn : ∀ e, pCe S ad un cA σ' k j = some e → va_at dg vwCl (ad k j, e) H1) (ho : ∀ k' j', ¬ (k' = k ∧ j' = j) → ∀ e, pCe S ad un cA σ' k' j' = some e → pCe S ad un cA σ k' j' = some e) (oq : ∀ q : Nat, q ≠ ad k j → H1[q]? = H[q]?) : pWo S ad un cA dg σ' H1 := by
  intro k' j' e h'
  by_cases hk : k' = k ∧ j' = j
  · obtain ⟨rfl, rfl⟩ := hk
    exact hn e h'
  · have h2 := ho k' j' hk e h'
    exact (h k' j' e h2).kept (oq _ fun q => hk (hJ.1 σ σ k j k' j' e0 e he h2 q.symm))
/-- what an array of numbers is -/
def pNi (S : List pSh) (ad : Nat → Nat → Nat) (un : Nat) (cA : Nat → ClassId) (k j t n : Nat) : Prop := ∃ q, S[k]? = some q ∧ ∀ f g, pCell ad un cA q k j f g = some (.inl (cA t, n, .inl f))
def pNl (S : List pSh) (ad : Nat → Nat → Nat) (un : Nat) (cA : Nat → ClassId) (k n : Nat) : Prop := ∃ q, S[k]? = some q ∧ ∀ f g, pCell ad un cA q k 0 f g = some (.inl (cA 3, n, .inr (.inl g)))
theorem pNi.ce {k j t n : Nat} (h : pNi S ad un cA k j t n) (σ : pSt) : pCe S ad un cA σ k j = some (.inl (cA t, n, .inl (σ.1 k j))) := by
  obtain ⟨q, h1, h2⟩ := h
  unfold pCe
  rw [h1]
  exact h2 _ _
theorem pNl.ce {k n : Nat} (h : pNl S ad un cA k n) (σ : pSt) : pCe S ad un cA σ k 0 = some (.inl (cA 3, n, .inr (.inl (σ.2 k)))) := by
  obtain ⟨q, h1, h2⟩ := h
  unfold pCe
  rw [h1]
  exact h2 _ _
theorem pArr_inv {ρ : Type} {k j : Nat} {F : Nat → Nat → Option ρ} {o : ρ} (h : pArr S k j F = some o) : ∃ t n, F t n = some o ∧ t < 4 ∧ (t ≠ 3 → pNi S ad un cA k j t n) ∧ (t = 3 → j = 0 ∧ pNl S ad un cA k n) := by
  unfold pArr at h
  cases hq : S[k]? with
  | none => rw [hq] at h; cases h
  | some q =>
    rw [hq] at h
    obtain ⟨kd, n, fs⟩ := q
    dsimp only at h
    split at h
    · exact ⟨0, _, h, by omega, fun _ => ⟨_, hq, fun f g => rfl⟩, fun z => by cases z⟩
    · exact ⟨1, _, h, by omega, fun _ => ⟨_, hq, fun f g => rfl⟩, fun z => by cases z⟩
    · exact ⟨2, _, h, by omega, fun _ => ⟨_, hq, fun f g => rfl⟩, fun z => by cases z⟩
    · exact ⟨3, _, h, by omega, fun z => absurd rfl z, fun _ => ⟨rfl, _, hq, fun f g => rfl⟩⟩
    · split at h
      · next hlt =>
        split at h
        · exact ⟨0, _, h, by omega, fun _ => ⟨_, hq, fun f g => if_pos hlt⟩, fun z => by cases z⟩
        · cases h
      · cases h
    · cases h
theorem pCell_g {q : pSh} {k j : Nat} {f : Nat → Int32} {g g' : Nat → Int64} (h : j ≠ 0) : pCell ad un cA q k j f g = pCell ad un cA q k j f g' := by
  cases j with
  | zero => exact absurd rfl h
  | succ j =>
    unfold pCell
    split <;> first | rfl | (rename_i z; cases z; done) | simp_all
theorem pCe_dset {σ : pSt} {k j i : Nat} {x : Int32} {k' j' : Nat} (h : ¬ (k' = k ∧ j' = j)) : pCe S ad un cA (dset σ.1 k j i x, σ.2) k' j' = pCe S ad un cA σ k' j' := by
  unfold pCe
  dsimp only
  rw [dset_ne h]
theorem pCe_dcpy {σ : pSt} {s sp d dp n : Nat} {k' j' : Nat} (h : ¬ (k' = d ∧ j' = 0)) : pCe S ad un cA (dcpy σ.1 s sp d dp n, σ.2) k' j' = pCe S ad un cA σ k' j' := by
  unfold pCe
  dsimp only
  rw [dcpy_ne h]
theorem pCe_lset {σ : pSt} {k i : Nat} {x : Int64} {k' j' : Nat} (h : ¬ (k' = k ∧ j' = 0)) : pCe S ad un cA (σ.1, lset σ.2 k i x) k' j' = pCe S ad un cA σ k' j' := by
  unfold pCe
  dsimp only
  split
  · rfl
  · by_cases e : k' = k
    · exact pCell_g fun z => h ⟨e, z⟩
    · rw [lset_ne e]
theorem mapIdx_upd {fs : List Nat} {F F' : Nat → Nat → Value} {b : Nat} {v : Value} (h1 : ∀ j c, j ≠ b → F' j c = F j c) (h2 : ∀ c, fs[b]? = some c → F' b c = v) : (fs.mapIdx F).set b v = fs.mapIdx F' := by
  apply List.ext_getElem?
  intro j
  rw [List.getElem?_set]
  by_cases e : b = j
  · subst e
    rw [if_pos rfl]
    by_cases hl : b < fs.length
    · rw [if_pos (by simpa using hl), List.getElem?_mapIdx, List.getElem?_eq_getElem hl]
      simp only [Option.map_some]
      rw [h2 _ (List.getElem?_eq_getElem hl)]
    · rw [if_neg (by simpa using hl), List.getElem?_eq_none (by simp; omega)]
  · rw [if_neg e, List.getElem?_mapIdx, List.getElem?_mapIdx]
    cases fs[j]? with
    | none => rfl
    | some c => simp only [Option.map_some]; rw [h1 j c (fun z => e z.symm)]
theorem pTys_at {t : Nat} (h : t < 4) : (pTys cA)[t]? = some (cA t, match t with | 0 => .int | 1 => .byte | 2 => .boolean | _ => .long) := by
  match t, h with
  | 0, _ => rfl
  | 1, _ => rfl
  | 2, _ => rfl
  | 3, _ => rfl
end PWO
/-! the locals -/
def pLv (ad : Nat → Nat → Nat) (ls : Array Slot) (nL : Nat) (L : pL) : Prop := ls.size = nL ∧ lv_wf ls ∧ ∀ (i : Nat) (v : pV), L[i]? = some (some v) → (rv ad v).category = 1 → ls[i]? = some (.val (rv ad v))
def pAs (ad : Nat → Nat → Nat) (L : pL) : List (Nat × Value) := (List.range L.length).filterMap fun i => match L[i]? with
  | some (some v) => if (rv ad v).category = 1 then some (i, rv ad v) else none
  | _ => none
theorem pLv.has {ad : Nat → Nat → Nat} {ls : Array Slot} {nL : Nat} {L : pL} (h : pLv ad ls nL L) : lv_has ls nL (pAs ad L) := by
  refine ⟨h.1, h.2.1, fun q hq => ?_⟩
  obtain ⟨i, -, hi⟩ := List.mem_filterMap.mp hq
  split at hi
  · next v hv =>
    split at hi
    · next hc =>
      cases hi
      exact h.2.2 i v hv hc
    · cases hi
  · cases hi
theorem pAs_mem {ad : Nat → Nat → Nat} {L : pL} {i : Nat} {v : pV} (h : L[i]? = some (some v)) (hc : (rv ad v).category = 1) : (i, rv ad v) ∈ pAs ad L := by
  refine List.mem_filterMap.mpr ⟨i, List.mem_range.mpr (List.getElem?_eq_some_iff.mp h).1, ?_⟩
  rw [h]
  dsimp only
  rw [if_pos hc]
/-- behind a store -/
theorem pLv.sto {ad : Nat → Nat → Nat} {ls' : Array Slot} {nL i : Nat} {L : pL} {v : pV} (h : lv_has ls' nL ((i, rv ad v) :: (pAs ad L).filter (fun q => !(q.1 == i) && !(q.1 + 1 == i && q.2.category == 2)))) : pLv ad ls' nL (L.set i (some v)) := by
  refine ⟨h.1, h.2.1, fun k w hk hc => ?_⟩
  by_cases e : k = i
  · subst e
    rw [List.getElem?_set] at hk
    split at hk
    · split at hk
      · cases hk
        exact h.2.2 (k, rv ad v) List.mem_cons_self
      · cases hk
    · next z => exact absurd rfl z
  · rw [List.getElem?_set_ne (Ne.symm e)] at hk
    refine h.2.2 (k, rv ad w) (List.mem_cons_of_mem _ (List.mem_filter.mpr ⟨pAs_mem hk hc, ?_⟩))
    simp [e, hc]
theorem pLv.mask {ad : Nat → Nat → Nat} {ls : Array Slot} {nL : Nat} {L L' : pL} (h : pLv ad ls nL L) (hm : ∀ (i : Nat) (v : pV), L'[i]? = some (some v) → L[i]? = some (some v)) : pLv ad ls nL L' := ⟨h.1, h.2.1, fun i v hi hc => h.2.2 i v (hm i v hi) hc⟩
theorem pMask_sub : ∀ (keep : List Bool) (L : pL) (i : Nat) (v : pV), (pMask keep L)[i]? = some (some v) → L[i]? = some (some v)
  | [], _, i, v, h => by simp [pMask] at h
  | true :: k, [], i, v, h => by simp [pMask] at h
  | false :: k, [], i, v, h => by simp [pMask] at h
  | true :: k, w :: l, 0, v, h => by simpa [pMask] using h
  | false :: k, w :: l, 0, v, h => by simp [pMask] at h
  | true :: k, w :: l, i + 1, v, h => by
    have := pMask_sub k l i v (by simpa [pMask] using h)
    simpa using this
  | false :: k, w :: l, i + 1, v, h => by
    have := pMask_sub k l i v (by simpa [pMask] using h)
    simpa using this
theorem pCut_sub (M : pM) (pc : Nat) (L : pL) (i : Nat) (v : pV) (h : (pCut M pc L)[i]? = some (some v)) : L[i]? = some (some v) := by
  unfold pCut at h
  split at h
  · exact h
  · exact pMask_sub _ _ _ _ h
theorem rv_cat1 {ad : Nat → Nat → Nat} {v : pV} (h : ∀ y, v ≠ .inr (.inl y)) : (rv ad v).category = 1 := by
  match v, h with
  | .inl x, _ => rfl
  | .inr (.inl y), h => exact absurd rfl (h y)
  | .inr (.inr q), _ => rfl
end
section
section PG
variable {ρ : Type} {o : ρ}
theorem I1_inv {st : List pV} {F : Int32 → List pV → Option ρ} (h : pI1 st F = some o) : ∃ x r, st = .inl x :: r ∧ F x r = some o := by
  unfold pI1 at h; split at h
  · exact ⟨_, _, rfl, h⟩
  · cases h
theorem I2_inv {st : List pV} {F : Int32 → Int32 → List pV → Option ρ} (h : pI2 st F = some o) : ∃ x y r, st = .inl y :: .inl x :: r ∧ F x y r = some o := by
  unfold pI2 at h; split at h
  · exact ⟨_, _, _, rfl, h⟩
  · cases h
theorem L2_inv {st : List pV} {F : Int64 → Int64 → List pV → Option ρ} (h : pL2 st F = some o) : ∃ x y r, st = .inr (.inl y) :: .inr (.inl x) :: r ∧ F x y r = some o := by
  unfold pL2 at h; split at h
  · exact ⟨_, _, _, rfl, h⟩
  · cases h
theorem R1_inv {st : List pV} {F : Nat → Nat → List pV → Option ρ} (h : pR1 st F = some o) : ∃ k j r, st = .inr (.inr (k, j)) :: r ∧ F k j r = some o := by
  unfold pR1 at h; split at h
  · exact ⟨_, _, _, rfl, h⟩
  · cases h
theorem RI_inv {st : List pV} {F : Nat → Nat → Int32 → List pV → Option ρ} (h : pRI st F = some o) : ∃ k j i r, st = .inl i :: .inr (.inr (k, j)) :: r ∧ F k j i r = some o := by
  unfold pRI at h; split at h
  · exact ⟨_, _, _, _, rfl, h⟩
  · cases h
theorem RII_inv {st : List pV} {F : Nat → Nat → Int32 → Int32 → List pV → Option ρ} (h : pRII st F = some o) : ∃ k j i x r, st = .inl x :: .inl i :: .inr (.inr (k, j)) :: r ∧ F k j i x r = some o := by
  unfold pRII at h; split at h
  · exact ⟨_, _, _, _, _, rfl, h⟩
  · cases h
theorem RIL_inv {st : List pV} {F : Nat → Nat → Int32 → Int64 → List pV → Option ρ} (h : pRIL st F = some o) : ∃ k j i x r, st = .inr (.inl x) :: .inl i :: .inr (.inr (k, j)) :: r ∧ F k j i x r = some o := by
  unfold pRIL at h; split at h
  · exact ⟨_, _, _, _, _, rfl, h⟩
  · cases h
theorem V1_inv {st : List pV} {F : pV → List pV → Option ρ} (h : pV1 st F = some o) : ∃ v r, st = v :: r ∧ F v r = some o := by
  unfold pV1 at h; split at h
  · exact ⟨_, _, rfl, h⟩
  · cases h
theorem V2_inv {st : List pV} {F : pV → pV → List pV → Option ρ} (h : pV2 st F = some o) : ∃ v u r, st = v :: u :: r ∧ F v u r = some o := by
  unfold pV2 at h; split at h
  · exact ⟨_, _, _, rfl, h⟩
  · cases h
theorem VR_inv {st : List pV} {F : pV → Nat → Nat → List pV → Option ρ} (h : pVR st F = some o) : ∃ v k j r, st = v :: .inr (.inr (k, j)) :: r ∧ F v k j r = some o := by
  unfold pVR at h; split at h
  · exact ⟨_, _, _, _, rfl, h⟩
  · cases h
theorem E0_inv {st : List pV} {F : Option ρ} (h : pE0 st F = some o) : st = [] ∧ F = some o := by
  unfold pE0 at h; split at h
  · exact ⟨rfl, h⟩
  · cases h
theorem E1_inv {st : List pV} {F : Int32 → Option ρ} (h : pE1 st F = some o) : ∃ x, st = [.inl x] ∧ F x = some o := by
  unfold pE1 at h; split at h
  · exact ⟨_, rfl, h⟩
  · cases h
theorem ER_inv {st : List pV} {F : Nat → Nat → Option ρ} (h : pER st F = some o) : ∃ k j, st = [.inr (.inr (k, j))] ∧ F k j = some o := by
  unfold pER at h; split at h
  · exact ⟨_, _, rfl, h⟩
  · cases h
theorem In_inv {i : Int32} {n : Nat} {F : Nat → Option ρ} (h : pIn i n F = some o) : vp_in i n ∧ F i.toNatClampNeg = some o := by
  unfold pIn at h; split at h
  · cases h
  · next q => exact ⟨q, h⟩
theorem LdI_inv {L : pL} {i : Nat} {F : Int32 → Option ρ} (h : pLdI L i F = some o) : ∃ x, L[i]? = some (some (.inl x)) ∧ F x = some o := by
  unfold pLdI at h; split at h
  · next q => exact ⟨_, q, h⟩
  · cases h
theorem LdR_inv {L : pL} {i : Nat} {F : Nat → Nat → Option ρ} (h : pLdR L i F = some o) : ∃ k j, L[i]? = some (some (.inr (.inr (k, j)))) ∧ F k j = some o := by
  unfold pLdR at h; split at h
  · next q => exact ⟨_, _, q, h⟩
  · cases h
theorem Sto_inv {L : pL} {i : Nat} {v : pV} {F : pL → Option ρ} (h : pSto L i v F = some o) : F (L.set i (some v)) = some o := by
  unfold pSto at h; split at h
  · exact h
  · cases h
theorem C1_inv {v : pV} {F : Option ρ} (h : pC1 v F = some o) : (∀ y, v ≠ .inr (.inl y)) ∧ F = some o := by
  unfold pC1 at h; split at h
  · cases h
  · next q => exact ⟨fun y e => q y e, h⟩
theorem Obj_inv {S : List pSh} {k j a : Nat} {F : pSh → Option ρ} (h : pObj S k j a F = some o) : ∃ n fs, S[k]? = some (a + 7, n, fs) ∧ j = 0 ∧ F (a + 7, n, fs) = some o := by
  unfold pObj at h
  split at h
  · cases h
  · next q hq =>
    obtain ⟨kd, n, fs⟩ := q
    split at h
    · next hb =>
      have : kd = a + 7 := Nat.eq_of_beq_eq_true hb
      subst this
      exact ⟨n, fs, hq, rfl, h⟩
    · cases h
theorem pick_inv {fs : List Nat} {F : Nat → Option ρ} : ∀ {j : Nat}, pPick fs j F = some o → ∃ r, fs[j]? = some (r + 1) ∧ F r = some o := by
  induction fs with
  | nil => intro j h; cases h
  | cons c t ih =>
    intro j h
    unfold pPick at h
    split at h
    · next hj =>
      subst hj
      cases c with
      | zero => cases h
      | succ r => exact ⟨r, rfl, h⟩
    · next hj =>
      obtain ⟨r, h1, h2⟩ := ih h
      cases j with
      | zero => exact absurd rfl hj
      | succ j => exact ⟨r, h1, h2⟩
theorem SwT_inv {x : Int32} {pc : Nat} {d : Int} {F : Nat → Option ρ} : ∀ {offs : List Int} {lo : Int}, pSwT x lo pc offs d F = some o → (∃ (i : Nat) (off : Int), offs[i]? = some off ∧ x.toInt = lo + i ∧ F ((pc : Int) + off).toNat = some o) ∨ ((x.toInt < lo ∨ lo + offs.length ≤ x.toInt) ∧ F ((pc : Int) + d).toNat = some o) := by
  intro offs
  induction offs with
  | nil =>
    intro lo h
    refine Or.inr ⟨?_, h⟩
    simp
    omega
  | cons q t ih =>
    intro lo h
    unfold pSwT at h
    split at h
    · next he => exact Or.inl ⟨0, q, rfl, by simpa using he, h⟩
    · next he =>
      rcases ih h with ⟨i, off, h1, h2, h3⟩ | ⟨h1, h2⟩
      · exact Or.inl ⟨i + 1, off, by simpa using h1, by omega, h3⟩
      · refine Or.inr ⟨?_, h2⟩
        simp
        omega
theorem SwL_inv {x : Int32} {pc : Nat} {d : Int} {F : Nat → Option ρ} : ∀ {ps : List (Int × Int)}, pSwL x pc ps d F = some o → F ((pc : Int) + Op.lookupswitch.offset ps d x.toInt).toNat = some o := by
  intro ps
  induction ps with
  | nil => intro h; exact h
  | cons q t ih =>
    intro h
    unfold pSwL at h
    obtain ⟨q1, q2⟩ := q
    rw [Op.lookupswitch.offset_cons]
    split at h
    · next he => rw [if_pos he.symm]; exact h
    · next he => rw [if_neg fun q => he q.symm]; exact ih h
theorem SwL_in (ps : List (Int × Int)) (d x : Int) : Op.lookupswitch.offset ps d x = d ∨ ∃ q ∈ ps, Op.lookupswitch.offset ps d x = q.2 := by
  induction ps with
  | nil => exact Or.inl rfl
  | cons q t ih =>
    obtain ⟨q1, q2⟩ := q
    rw [Op.lookupswitch.offset_cons]
    split
    · exact Or.inr ⟨_, List.mem_cons_self, rfl⟩
    · rcases ih with h | ⟨q, h1, h2⟩
      · exact Or.inl h
      · exact Or.inr ⟨q, List.mem_cons_of_mem _ h1, h2⟩
theorem Tk_inv {F : List pV → List pV → Option ρ} : ∀ {n : Nat} {acc st : List pV}, pTk n acc st F = some o → ∃ as r, st = as ++ r ∧ (as.length = n ∧ ∀ v ∈ as, ∀ y, v ≠ .inr (.inl y)) ∧ pRm 8 r = true ∧ F (as.reverse ++ acc) r = some o
  | 0, acc, st, h => by
    unfold pTk at h
    split at h
    · next q => exact ⟨[], st, rfl, ⟨rfl, fun v hv => by cases hv⟩, q, h⟩
    · cases h
  | n + 1, acc, [], h => by unfold pTk at h; cases h
  | n + 1, acc, v :: r, h => by
    unfold pTk at h
    obtain ⟨hc, h⟩ := C1_inv h
    obtain ⟨as, r', h1, h2, h3, h4⟩ := Tk_inv h
    refine ⟨v :: as, r', by rw [h1]; rfl, ⟨by simp [h2.1], fun u hu => ?_⟩, h3, by simpa using h4⟩
    rcases List.mem_cons.mp hu with e | e
    · subst e; exact hc
    · exact h2.2 u e
theorem Rm_sum {ad : Nat → Nat → Nat} : ∀ {n : Nat} {r : List pV}, pRm n r = true → ((r.map (rv ad)).map fun v => v.category).sum ≤ n
  | n, [], _ => by simp
  | n + 1, .inl x :: r, h => by
    have := Rm_sum (ad := ad) (n := n) (r := r) (by simpa [pRm] using h)
    simp only [List.map_cons, List.sum_cons, rv, Value.category] at this ⊢
    omega
  | n + 1, .inr (.inr x) :: r, h => by
    have := Rm_sum (ad := ad) (n := n) (r := r) (by simpa [pRm] using h)
    simp only [List.map_cons, List.sum_cons, rv, Value.category] at this ⊢
    omega
  | n + 2, .inr (.inl x) :: r, h => by
    have := Rm_sum (ad := ad) (n := n) (r := r) (by simpa [pRm] using h)
    simp only [List.map_cons, List.sum_cons, rv, Value.category] at this ⊢
    omega
  | 0, _ :: _, h => by simp [pRm] at h
  | 1, .inr (.inl x) :: r, h => by simp [pRm] at h
theorem Dep_inv {d c : Nat} {F : Nat → Option ρ} (h : pDep d c F = some o) : ∃ d', d' < d ∧ F d' = some o := by
  unfold pDep at h
  split at h
  · split at h
    · cases h
    · exact ⟨_, Nat.lt_succ_self _, h⟩
  · split at h
    · next q => exact ⟨_, by simp [Nat.blt] at q; omega, h⟩
    · cases h
end PG
end
section
/-- from this pure frame the machine comes to Q -/
def pG (p : Program) (l : Launch) (e : Env) (R : Room) (s : State) (m : MethodId) (args : Array Value) (below : List Frame) (meth : Method) (c : Code) (Q : State → Prop) (S : List pSh) (ad : Nat → Nat → Nat) (un : Nat) (cA : Nat → ClassId) (dg : va_G) (A : Nat → Prop) (H0 : Heap) (nL : Nat) (pc : Nat) (L : pL) (st : List pV) (σ : pSt) : Prop :=
  ∀ (H : Heap) (locs : List Loc) (ls : Array Slot), pWo S ad un cA dg σ H → va_S A H0 H locs → pLv ad ls nL L → W p l e R s m args below meth c H locs 0 0 Q (F0 m pc ls (st.map (rv ad)))
def pLen (ins : Instr) (b : Nat) : Nat := match ins with
  | .bipush _ => 2
  | .ldc _ => 2
  | .iload _ => 2
  | .aload _ => 2
  | .istore _ => 2
  | .astore _ => 2
  | .sipush _ => 3
  | .ldc_w _ => 3
  | .ldc2_w _ => 3
  | .iinc _ _ => 3
  | .goto _ => 3
  | .ifCond _ _ => 3
  | .if_icmp _ _ => 3
  | .getfield _ => 3
  | .putfield _ => 3
  | .invokevirtual _ => 3
  | .invokestatic _ => 3
  | .tableswitch _ _ _ _ => b
  | .lookupswitch _ _ => b
  | _ => 1
/-- what else an entry must be -/
def pXex (own : String) (Ts : List Cond) (nL pc : Nat) (x : pX) : Prop := match x with
  | (ins, a, b, c, _, _, z) => match ins with
    | .iconst n => Int32.ofInt n = z
    | .bipush n => (Int8.ofInt n).toInt32 = z
    | .sipush n => (Int16.ofInt n).toInt32 = z
    | .ldc i => b = 0 → Cond.constant own i z ∈ Ts
    | .ldc_w i => Cond.constant own i z ∈ Ts
    | .ldc2_w i => Cond.constantLong own i (lN a) ∈ Ts
    | .lconst n => (n : Nat) = a
    | .iload_n n => (n : Nat) = a
    | .aload_n n => (n : Nat) = a
    | .iload n => n = a
    | .aload n => n = a
    | .istore_n n => (n : Nat) = a ∧ a < nL
    | .astore_n n => (n : Nat) = a ∧ a < nL
    | .istore n => n = a ∧ a < nL
    | .astore n => n = a ∧ a < nL
    | .iinc n q => n = a ∧ Int32.ofInt q = z ∧ a < nL
    | .goto off => (pc : Int) + off = (a : Int)
    | .ifCond _ off => (pc : Int) + off = (a : Int)
    | .if_icmp _ off => (pc : Int) + off = (a : Int)
    | .tableswitch d lo hi offs => hi = lo + offs.toList.length - 1 ∧ 0 ≤ (pc : Int) + d ∧ ∀ q ∈ offs.toList, 0 ≤ (pc : Int) + q
    | .lookupswitch d ps => (ps.toList.zip (ps.toList.drop 1)).all (fun (a, next) => a.1 < next.1) = true ∧ 0 ≤ (pc : Int) + d ∧ ∀ q ∈ ps.toList, 0 ≤ (pc : Int) + q.2
    | .getfield i => ∃ (C : String) (T : u_T) (N : Nat), vwCl[a]? = some (C, T, N) ∧ b < N ∧ Cond.fieldLink own i (T b).1 (T b).2.1 (T b).2.2.1 ∈ Ts
    | .putfield i => ∃ (C : String) (T : u_T) (N : Nat), vwCl[a]? = some (C, T, N) ∧ b < N ∧ Cond.fieldLink own i (T b).1 (T b).2.1 (T b).2.2.1 ∈ Ts ∧ (T b).2.2.2 = false
    | .invokestatic i => c = 0 → Cond.methodLink own i arraycopyName ∈ Ts
    | _ => True
/-- the sorts: their fields' types, names apart, their words -/
def pClOk (Ts : List Cond) : Prop := ∀ (ci : Nat) (C : String) (T : u_T) (N : Nat), vwCl[ci]? = some (C, T, N) → (∃ ty0 : Nat → FieldType, ∀ k, k < N → parseFieldDescriptor (T k).2.2.1 = some (ty0 k)) ∧ (∀ a, a < N → ∀ b, b < N → a ≠ b → (T a).2.1 ≠ (T b).2.1) ∧ ∀ w ∈ u_ws C T N, w ∈ Ts
/-- a field's code is its type's -/
def pCodeOk (c : Nat) (d : String) : Prop := match c with
  | 0 => parseFieldDescriptor d = some .int
  | 1 => parseFieldDescriptor d = some .long
  | 2 => parseFieldDescriptor d = some .char
  | _ => ∃ t, parseFieldDescriptor d = some t ∧ ((∃ q, t = .array q) ∨ ∃ q, t = .object q)
def pShOk (S : List pSh) : Prop := ∀ (k ci n : Nat) (fs : List Nat) (C : String) (T : u_T) (N : Nat), S[k]? = some (ci + 7, n, fs) → vwCl[ci]? = some (C, T, N) → ∀ b c, fs[b]? = some c → pCodeOk c (T b).2.2.1
section PG2
variable {p : Program} {l : Launch} {e : Env} {R : Room} {s : State} {m : MethodId} {args : Array Value} {below : List Frame} {meth : Method} {c : Code} {Q : State → Prop} {S : List pSh} {ad : Nat → Nat → Nat} {un : Nat} {cA : Nat → ClassId} {dg : va_G} {A : Nat → Prop} {H0 : Heap} {nL : Nat}
variable {cc : ByteArray} {pc : Nat} {L : pL} {st r : List pV} {σ : pSt}

theorem g_iald (hx : p.tables.exec = Jvm.exec) (hb : c.code = cc) (hK : va_K dg vwCl (pTys cA) s) {k j n : Nat} {i : Int32} (hn : pNi S ad un cA k j 0 n) (hin : vp_in i n) (hdg : decode cc pc = .ok (.iaload, 1)) (kk : pG p l e R s m args below meth c Q S ad un cA dg A H0 nL (pc + 1) L (.inl (σ.1 k j i.toNatClampNeg) :: r) σ) : pG p l e R s m args below meth c Q S ad un cA dg A H0 nL pc L (.inl i :: .inr (.inr (k, j)) :: r) σ := fun H locs ls hW hS hL => va_iald hx hb hK (hW.sing (hn.ce σ)) 0 0 rfl rfl hin hdg (kk H locs ls hW hS hL)
theorem g_bald (hx : p.tables.exec = Jvm.exec) (hb : c.code = cc) (hK : va_K dg vwCl (pTys cA) s) {k j n : Nat} {i : Int32} (hn : pNi S ad un cA k j 1 n) (hin : vp_in i n) (hdg : decode cc pc = .ok (.baload, 1)) (kk : pG p l e R s m args below meth c Q S ad un cA dg A H0 nL (pc + 1) L (.inl (σ.1 k j i.toNatClampNeg) :: r) σ) : pG p l e R s m args below meth c Q S ad un cA dg A H0 nL pc L (.inl i :: .inr (.inr (k, j)) :: r) σ := fun H locs ls hW hS hL => va_bald hx hb hK (hW.sing (hn.ce σ)) 0 1 rfl rfl hin hdg (kk H locs ls hW hS hL)
theorem g_zald (hx : p.tables.exec = Jvm.exec) (hb : c.code = cc) (hK : va_K dg vwCl (pTys cA) s) {k j n : Nat} {i : Int32} (hn : pNi S ad un cA k j 2 n) (hin : vp_in i n) (hdg : decode cc pc = .ok (.baload, 1)) (kk : pG p l e R s m args below meth c Q S ad un cA dg A H0 nL (pc + 1) L (.inl (σ.1 k j i.toNatClampNeg) :: r) σ) : pG p l e R s m args below meth c Q S ad un cA dg A H0 nL pc L (.inl i :: .inr (.inr (k, j)) :: r) σ := fun H locs ls hW hS hL => va_zald hx hb hK (hW.sing (hn.ce σ)) 0 2 rfl rfl hin hdg (kk H locs ls hW hS hL)
theorem g_lald (hx : p.tables.exec = Jvm.exec) (hb : c.code = cc) (hK : va_K dg vwCl (pTys cA) s) {k n : Nat} {i : Int32} (hn : pNl S ad un cA k n) (hin : vp_in i n) (hdg : decode cc pc = .ok (.laload, 1)) (kk : pG p l e R s m args below meth c Q S ad un cA dg A H0 nL (pc + 1) L (.inr (.inl (σ.2 k i.toNatClampNeg)) :: r) σ) : pG p l e R s m args below meth c Q S ad un cA dg A H0 nL pc L (.inl i :: .inr (.inr (k, 0)) :: r) σ := fun H locs ls hW hS hL => va_lald hx hb hK (hW.sing (hn.ce σ)) 0 3 rfl rfl hin hdg (kk H locs ls hW hS hL)
theorem g_alen (hx : p.tables.exec = Jvm.exec) (hb : c.code = cc) (hK : va_K dg vwCl (pTys cA) s) {k j t n : Nat} (ht : t < 4) (hn : pNi S ad un cA k j t n) (hdg : decode cc pc = .ok (.arraylength, 1)) (kk : pG p l e R s m args below meth c Q S ad un cA dg A H0 nL (pc + 1) L (.inl (nI n) :: r) σ) : pG p l e R s m args below meth c Q S ad un cA dg A H0 nL pc L (.inr (.inr (k, j)) :: r) σ := fun H locs ls hW hS hL => va_alen hx hb hK (hW.sing (hn.ce σ)) 0 t rfl (pTys_at ht) rfl hdg (kk H locs ls hW hS hL)
theorem g_alenl (hx : p.tables.exec = Jvm.exec) (hb : c.code = cc) (hK : va_K dg vwCl (pTys cA) s) {k n : Nat} (hn : pNl S ad un cA k n) (hdg : decode cc pc = .ok (.arraylength, 1)) (kk : pG p l e R s m args below meth c Q S ad un cA dg A H0 nL (pc + 1) L (.inl (nI n) :: r) σ) : pG p l e R s m args below meth c Q S ad un cA dg A H0 nL pc L (.inr (.inr (k, 0)) :: r) σ := fun H locs ls hW hS hL => va_alen hx hb hK (hW.sing (hn.ce σ)) 0 3 rfl rfl rfl hdg (kk H locs ls hW hS hL)
theorem g_aald4 (hx : p.tables.exec = Jvm.exec) (hb : c.code = cc) (hK : va_K dg vwCl (pTys cA) s) {k n y : Nat} {fs : List Nat} {i : Int32} (hS4 : S[k]? = some (4, n, fs)) (hin : vp_in i n) (hf : fs[i.toNatClampNeg]? = some (y + 1)) (hdg : decode cc pc = .ok (.aaload, 1)) (kk : pG p l e R s m args below meth c Q S ad un cA dg A H0 nL (pc + 1) L (.inr (.inr (y, 0)) :: r) σ) : pG p l e R s m args below meth c Q S ad un cA dg A H0 nL pc L (.inl i :: .inr (.inr (k, 0)) :: r) σ := by
  intro H locs ls hW hS hL
  have he : pCe S ad un cA σ k 0 = some (.inl (cA 4, n, .inr (.inr (.inr (.inr (fun i => pRc ad (fs.getD i 0))))))) := by unfold pCe; rw [hS4]; rfl
  refine va_aldq hx hb hK (hW.sing he) 0 4 rfl rfl hin hdg ?_
  have e1 : va_rf (pRc ad (fs.getD i.toNatClampNeg 0)) = .ref (ad y 0) := by rw [List.getD_eq_getElem?_getD, hf]; rfl
  rw [e1]
  exact kk H locs ls hW hS hL
theorem g_aald5 (hx : p.tables.exec = Jvm.exec) (hb : c.code = cc) (hK : va_K dg vwCl (pTys cA) s) {k n : Nat} {fs : List Nat} {i : Int32} (hS4 : S[k]? = some (5, n, fs)) (hin : vp_in i n) (hdg : decode cc pc = .ok (.aaload, 1)) (kk : pG p l e R s m args below meth c Q S ad un cA dg A H0 nL (pc + 1) L (.inr (.inr (k, i.toNatClampNeg + 1)) :: r) σ) : pG p l e R s m args below meth c Q S ad un cA dg A H0 nL pc L (.inl i :: .inr (.inr (k, 0)) :: r) σ := by
  intro H locs ls hW hS hL
  have he : pCe S ad un cA σ k 0 = some (.inl (cA 5, n, .inr (.inr (.inr (.inr (fun i => some (ad k (i + 1)))))))) := by unfold pCe; rw [hS4]; rfl
  have hlt : i.toNatClampNeg < n := Nat.not_le.mp fun q => hin (Or.inr q)
  exact W.aald (v := .ref (ad k (i.toNatClampNeg + 1))) (ty := .array .int) hx hb (hW k 0 _ he) ((hK.2 5 _ rfl).1 n (fun j => va_rf (some (ad k (j + 1))))) rfl (fun q => by cases q) (by show ¬ (i < 0 ∨ (arrV _ _ _).slots.size ≤ _); rw [arrV_size]; exact hin) (by show (arrV _ _ _).slots[_]? = _; rw [arrV_read _ _ hlt]; rfl) rfl rfl hdg (kk H locs ls hW hS hL)
theorem g_iast (hx : p.tables.exec = Jvm.exec) (hb : c.code = cc) (hK : va_K dg vwCl (pTys cA) s) (hJ : pAp S ad un cA A) {k j n : Nat} {i x : Int32} (hn : pNi S ad un cA k j 0 n) (hin : vp_in i n) (hdg : decode cc pc = .ok (.iastore, 1)) (kk : pG p l e R s m args below meth c Q S ad un cA dg A H0 nL (pc + 1) L r (dset σ.1 k j i.toNatClampNeg x, σ.2)) : pG p l e R s m args below meth c Q S ad un cA dg A H0 nL pc L (.inl x :: .inl i :: .inr (.inr (k, j)) :: r) σ := by
  intro H locs ls hW hS hL
  refine W.iast hx hb (hW k j _ (hn.ce σ)) ((hK.2 0 _ rfl).1 n (fun q => .int (σ.1 k j q))) (fun q => by cases q) (by show ¬ (i < 0 ∨ (arrV _ _ _).slots.size ≤ _); rw [arrV_size]; exact hin) rfl rfl hdg fun H1 e1 z oq => ?_
  refine kk H1 _ ls (hW.put hJ (hn.ce σ) (fun e' h' => ?_) (fun k' j' hne e' h' => by rw [pCe_dset hne] at h'; exact h') oq) (hS.put z oq (hJ.2 σ k j _ (hn.ce σ))) hL
  rw [hn.ce] at h'
  cases h'
  show H1[ad k j]? = some (vp_cell _ _)
  rw [e1]
  rw [vp_cell_i, vp_cell_i, arrV_store]
  congr 2
  funext q
  show _ = Value.int (dset σ.1 k j _ _ k j q)
  rw [dset_eq]
  by_cases hq : q = i.toNatClampNeg
  · subst hq
    simp [updV, upd, narrow]
  · simp [updV, upd, hq]
theorem g_bast (hx : p.tables.exec = Jvm.exec) (hb : c.code = cc) (hK : va_K dg vwCl (pTys cA) s) (hJ : pAp S ad un cA A) {k j n : Nat} {i x : Int32} (hn : pNi S ad un cA k j 1 n) (hin : vp_in i n) (hdg : decode cc pc = .ok (.bastore, 1)) (kk : pG p l e R s m args below meth c Q S ad un cA dg A H0 nL (pc + 1) L r (dset σ.1 k j i.toNatClampNeg x.toInt8.toInt32, σ.2)) : pG p l e R s m args below meth c Q S ad un cA dg A H0 nL pc L (.inl x :: .inl i :: .inr (.inr (k, j)) :: r) σ := by
  intro H locs ls hW hS hL
  refine W.bast hx hb (hW k j _ (hn.ce σ)) ((hK.2 1 _ rfl).1 n (fun q => .int (σ.1 k j q))) (fun q => by cases q) (by show ¬ (i < 0 ∨ (arrV _ _ _).slots.size ≤ _); rw [arrV_size]; exact hin) rfl rfl hdg fun H1 e1 z oq => ?_
  refine kk H1 _ ls (hW.put hJ (hn.ce σ) (fun e' h' => ?_) (fun k' j' hne e' h' => by rw [pCe_dset hne] at h'; exact h') oq) (hS.put z oq (hJ.2 σ k j _ (hn.ce σ))) hL
  rw [hn.ce] at h'
  cases h'
  show H1[ad k j]? = some (vp_cell _ _)
  rw [e1]
  rw [vp_cell_i, vp_cell_i, arrV_store]
  congr 2
  funext q
  show _ = Value.int (dset σ.1 k j _ _ k j q)
  rw [dset_eq]
  by_cases hq : q = i.toNatClampNeg
  · subst hq
    simp [updV, upd, narrow]
  · simp [updV, upd, hq]
theorem g_zast (hx : p.tables.exec = Jvm.exec) (hb : c.code = cc) (hK : va_K dg vwCl (pTys cA) s) (hJ : pAp S ad un cA A) {k j n : Nat} {i x : Int32} (hn : pNi S ad un cA k j 2 n) (hin : vp_in i n) (hdg : decode cc pc = .ok (.bastore, 1)) (kk : pG p l e R s m args below meth c Q S ad un cA dg A H0 nL (pc + 1) L r (dset σ.1 k j i.toNatClampNeg (x &&& 1), σ.2)) : pG p l e R s m args below meth c Q S ad un cA dg A H0 nL pc L (.inl x :: .inl i :: .inr (.inr (k, j)) :: r) σ := by
  intro H locs ls hW hS hL
  refine W.zast hx hb (hW k j _ (hn.ce σ)) ((hK.2 2 _ rfl).1 n (fun q => .int (σ.1 k j q))) (fun q => by cases q) (by show ¬ (i < 0 ∨ (arrV _ _ _).slots.size ≤ _); rw [arrV_size]; exact hin) rfl rfl hdg fun H1 e1 z oq => ?_
  refine kk H1 _ ls (hW.put hJ (hn.ce σ) (fun e' h' => ?_) (fun k' j' hne e' h' => by rw [pCe_dset hne] at h'; exact h') oq) (hS.put z oq (hJ.2 σ k j _ (hn.ce σ))) hL
  rw [hn.ce] at h'
  cases h'
  show H1[ad k j]? = some (vp_cell _ _)
  rw [e1]
  rw [vp_cell_i, vp_cell_i, arrV_store]
  congr 2
  funext q
  show _ = Value.int (dset σ.1 k j _ _ k j q)
  rw [dset_eq]
  by_cases hq : q = i.toNatClampNeg
  · subst hq
    simp [updV, upd, narrow]
  · simp [updV, upd, hq]
theorem g_last (hx : p.tables.exec = Jvm.exec) (hb : c.code = cc) (hK : va_K dg vwCl (pTys cA) s) (hJ : pAp S ad un cA A) {k n : Nat} {i : Int32} {x : Int64} (hn : pNl S ad un cA k n) (hin : vp_in i n) (hdg : decode cc pc = .ok (.lastore, 1)) (kk : pG p l e R s m args below meth c Q S ad un cA dg A H0 nL (pc + 1) L r (σ.1, lset σ.2 k i.toNatClampNeg x)) : pG p l e R s m args below meth c Q S ad un cA dg A H0 nL pc L (.inr (.inl x) :: .inl i :: .inr (.inr (k, 0)) :: r) σ := by
  intro H locs ls hW hS hL
  refine W.last hx hb (hW k 0 _ (hn.ce σ)) ((hK.2 3 _ rfl).1 n (fun q => .long (σ.2 k q))) (fun q => by cases q) (by show ¬ (i < 0 ∨ (arrV _ _ _).slots.size ≤ _); rw [arrV_size]; exact hin) rfl rfl hdg fun H1 e1 z oq => ?_
  refine kk H1 _ ls (hW.put hJ (hn.ce σ) (fun e' h' => ?_) (fun k' j' hne e' h' => by rw [pCe_lset hne] at h'; exact h') oq) (hS.put z oq (hJ.2 σ k 0 _ (hn.ce σ))) hL
  rw [hn.ce] at h'
  cases h'
  show H1[ad k 0]? = some (vp_cell _ _)
  rw [e1]
  rw [vp_cell_l, vp_cell_l, arrV_store]
  congr 2
  funext q
  show _ = Value.long (lset σ.2 k _ _ k q)
  rw [lset_eq]
  by_cases hq : q = i.toNatClampNeg
  · subst hq
    simp [updV, vp_updL]
  · simp [updV, vp_updL, hq]
theorem pCe_obj {k a n : Nat} {fs : List Nat} (h : S[k]? = some (a + 7, n, fs)) (σ : pSt) : pCe S ad un cA σ k 0 = some (.inr (a, fs.mapIdx fun b c => pFv ad un (σ.1 k 0) (σ.2 k) b c)) := by
  unfold pCe
  rw [h]
  rfl
theorem g_get (hx : p.tables.exec = Jvm.exec) (hb : c.code = cc) {own : String} {Ts : List Cond} (hts : ∀ w ∈ Ts, w.before args s = true) (hCl : pClOk Ts) (hown : s.vm.findClass own = some m.cls) (hK : va_K dg vwCl (pTys cA) s) {k a b n i cd : Nat} {fs : List Nat} {C : String} {T : u_T} {N : Nat} (hq : S[k]? = some (a + 7, n, fs)) (hc : vwCl[a]? = some (C, T, N)) (hbN : b < N) (hlk : Cond.fieldLink own i (T b).1 (T b).2.1 (T b).2.2.1 ∈ Ts) (hcd : fs[b]? = some cd) {v : pV} (hv : rv ad v = pFv ad un (σ.1 k 0) (σ.2 k) b cd) (hdg : decode cc pc = .ok (.getfield i, 3)) (kk : pG p l e R s m args below meth c Q S ad un cA dg A H0 nL (pc + 3) L (v :: r) σ) : pG p l e R s m args below meth c Q S ad un cA dg A H0 nL pc L (.inr (.inr (k, 0)) :: r) σ := by
  intro H locs ls hW hS hL
  have kk' := kk H locs ls hW hS hL
  rw [List.map_cons, hv] at kk'
  exact va_get hx hb hts (hCl a C T N hc).2.2 hown hK (hW.sing (pCe_obj hq σ)) 0 rfl hc b hbN (hts _ hlk) (fun _ h => h) (by rw [List.getElem?_mapIdx, hcd]; rfl) hdg kk'
theorem g_put (hx : p.tables.exec = Jvm.exec) (hb : c.code = cc) {own : String} {Ts : List Cond} (hts : ∀ w ∈ Ts, w.before args s = true) (hCl : pClOk Ts) (hown : s.vm.findClass own = some m.cls) (hK : va_K dg vwCl (pTys cA) s) (hJ : pAp S ad un cA A) {k a b n i cd : Nat} {fs : List Nat} {C : String} {T : u_T} {N : Nat} (hq : S[k]? = some (a + 7, n, fs)) (hc : vwCl[a]? = some (C, T, N)) (hbN : b < N) (hlk : Cond.fieldLink own i (T b).1 (T b).2.1 (T b).2.2.1 ∈ Ts) (hfin : (T b).2.2.2 = false) (hcd : fs[b]? = some cd) {v : pV} {ty : FieldType} (hd : parseFieldDescriptor (T b).2.2.1 = some ty) (hn : narrow ty (rv ad v) = rv ad v) (hfit : fits ty (rv ad v) = true) {σ2 : pSt} (hv : pFv ad un (σ2.1 k 0) (σ2.2 k) b cd = rv ad v) (hv2 : ∀ j c, j ≠ b → pFv ad un (σ2.1 k 0) (σ2.2 k) j c = pFv ad un (σ.1 k 0) (σ.2 k) j c) (ho : ∀ k' j', ¬ (k' = k ∧ j' = 0) → pCe S ad un cA σ2 k' j' = pCe S ad un cA σ k' j') (hdg : decode cc pc = .ok (.putfield i, 3)) (kk : pG p l e R s m args below meth c Q S ad un cA dg A H0 nL (pc + 3) L r σ2) : pG p l e R s m args below meth c Q S ad un cA dg A H0 nL pc L (v :: .inr (.inr (k, 0)) :: r) σ := by
  intro H locs ls hW hS hL
  obtain ⟨⟨ty0, hty⟩, hnm, hin⟩ := hCl a C T N hc
  have he := pCe_obj (ad := ad) (un := un) (cA := cA) hq σ
  have hap := va_apart (own := own) hts hin ty0 hty hnm hK hc
  obtain ⟨q, h1, cell, q1, q2, q3, q4⟩ := hW k 0 _ he
  have hr : q = (C, T, N) := Option.some.inj (h1.symm.trans hc)
  subst hr
  obtain ⟨hSl, hfc, kC, hkC, hkind⟩ := hK.1 a _ hc
  obtain ⟨cf, kf, fi, f, hi, hsl⟩ := hSl b hbN
  have hlay := hts _ (hin _ (u_in_lay hbN))
  unfold u_lay at hlay
  rw [if_neg (by rw [hfin]; decide)] at hlay
  have hst := (u_facts hfc hkC (u_lays hts hin hbN) hi).1
  have h6 := u_store hfc hkC hkind hlay hi hd hn hfit
  have hl : b < (fs.mapIdx fun b c => pFv ad un (σ.1 k 0) (σ.2 k) b c).length := by rw [List.length_mapIdx]; exact (List.getElem?_eq_some_iff.mp hcd).1
  refine W.putK hx hb (f := f) ⟨hown, hts _ hlk, ⟨_, _, _, hi⟩, hst⟩ (by rw [q2]; exact h6) q1 q3 (by rw [hsl]; exact k2_hasslot (q4 b hbN)) rfl rfl hdg fun H1 e1 e2 e3 => ?_
  rw [hsl] at e1 ⊢
  refine kk H1 _ ls (hW.put hJ he (fun e' h' => ?_) (fun k' j' hne e' h' => by rw [ho k' j' hne] at h'; exact h') e3) (hS.put e2 e3 (hJ.2 σ k 0 _ he)) hL
  rw [pCe_obj hq] at h'
  cases h'
  have hset : (fs.mapIdx fun b c => pFv ad un (σ.1 k 0) (σ.2 k) b c).set b (rv ad v) = fs.mapIdx fun b c => pFv ad un (σ2.1 k 0) (σ2.2 k) b c := mapIdx_upd hv2 (fun c h => by rw [hcd] at h; cases h; exact hv)
  rw [← hset]
  exact ⟨_, hc, t_OB.to (V := updV (vp_V _) b (rv ad v)) ⟨_, e1, q2, q3, t_set q4 hap hbN (rv ad v)⟩ (fun j _ => vp_updV_set hl (rv ad v) j)⟩
end PG2
end
section
section PG3
variable {p : Program} {l : Launch} {e : Env} {R : Room} {s : State} {m : MethodId} {args : Array Value} {below : List Frame} {meth : Method} {c : Code} {Q : State → Prop} {S : List pSh} {ad : Nat → Nat → Nat} {un : Nat} {cA : Nat → ClassId} {dg : va_G} {A : Nat → Prop} {H0 : Heap} {nL : Nat}
variable {cc : ByteArray} {pc : Nat} {L : pL} {st r : List pV} {σ : pSt}

theorem g_copy (hx : p.tables.exec = Jvm.exec) (hb : c.code = cc) (hml : c.maxLocals = nL) {own : String} {index : Nat} (hown : s.vm.findClass own = some m.cls) (hlink : (Cond.methodLink own index arraycopyName).before args s = true) (hnat : (Cond.native arraycopyName).before args s = true) (hstat : (Cond.static arraycopyName).before args s = true) (hini : (Cond.initialized "java/lang/System").before args s = true) (hK : va_K dg vwCl (pTys cA) s) (hJ : pAp S ad un cA A) {s0 d n0 n1 : Nat} {sp dp n : Int32} (hs : pNi S ad un cA s0 0 0 n0) (hd : pNi S ad un cA d 0 0 n1) (h1 : ¬ sp < 0) (h2 : ¬ dp < 0) (h3 : ¬ n < 0) (h4 : sp.toNatClampNeg + n.toNatClampNeg ≤ n0) (h5 : dp.toNatClampNeg + n.toNatClampNeg ≤ n1) (hframes : 1 ≤ R.frames) (hlocals : 8 + (nativeFrameWords "java/lang/System" "arraycopy" 5 + 11) ≤ R.locals) (hrm : pRm 8 r = true) (hdg : decode cc pc = .ok (.invokestatic index, 3)) (kk : pG p l e R s m args below meth c Q S ad un cA dg A H0 nL (pc + 3) L r (dcpy σ.1 s0 sp.toNatClampNeg d dp.toNatClampNeg n.toNatClampNeg, σ.2)) : pG p l e R s m args below meth c Q S ad un cA dg A H0 nL pc L (.inl n :: .inl dp :: .inr (.inr (d, 0)) :: .inl sp :: .inr (.inr (s0, 0)) :: r) σ := by
  intro H locs ls hW hS hL
  have hrs := Rm_sum (ad := ad) hrm
  have nn : ∀ z : Int32, ¬ z < 0 → z.toInt = (z.toNatClampNeg : Int) := by
    intro z hz
    have hz0 : (0 : Int) ≤ z.toInt := by
      have := Int32.not_lt.mp hz
      simpa using Int32.le_iff_toInt_le.mp this
    show z.toInt = ((z.toInt.toNat : Nat) : Int)
    omega
  intro T hT X
  have hc0 : H[ad s0 0]? = some (vp_cell (cA 0) (n0, .inl (σ.1 s0 0))) := hW s0 0 _ (hs.ce σ)
  have hc1 : H[ad d 0]? = some (vp_cell (cA 0) (n1, .inl (σ.1 d 0))) := hW d 0 _ (hd.ce σ)
  obtain ⟨-, k0, hk0, cm0, hkk0⟩ := (hK.2 0 _ rfl).1 n0 (fun j => .int (σ.1 s0 0 j))
  obtain ⟨-, k1, hk1, cm1, hkk1⟩ := (hK.2 0 _ rfl).1 n1 (fun j => .int (σ.1 d 0 j))
  obtain ⟨vm', X', step⟩ := X.arraycopy hx hown hlink hnat hstat hini (src := ad s0 0) (dst := ad d 0) (cs := vp_cell (cA 0) (n0, .inl (σ.1 s0 0))) (cd := vp_cell (cA 0) (n1, .inl (σ.1 d 0))) (srcPos := sp) (destPos := dp) (n := n) (by rw [hT]; exact hc0) (by rw [hT]; exact hc1)
    (fun _ h => by cases h) (fun _ h => by cases h) (fun h => by cases h) (fun h => by cases h) hk0 hk1 hkk0 hkk1 (by simp [refKind]) h1 h2 h3
    (by rw [nn sp h1, nn n h3]; show ¬ _ > ((arrV (cA 0) n0 (fun j => .int (σ.1 s0 0 j))).slots.size : Int); rw [arrV_size]; omega)
    (by rw [nn dp h2, nn n h3]; show ¬ _ > ((arrV (cA 0) n1 (fun j => .int (σ.1 d 0 j))).slots.size : Int); rw [arrV_size]; omega)
    (fun vm₁ _ i hi => by
      have e1 : (vp_cell (cA 0) (n0, .inl (σ.1 s0 0))).slots.getD (sp.toNatClampNeg + i) .null = .int (σ.1 s0 0 (sp.toNatClampNeg + i)) := by
        show (arrV (cA 0) n0 (fun j => .int (σ.1 s0 0 j))).slots.getD _ _ = _
        rw [Array.getD_eq_getD_getElem?, arrV_read _ _ (by omega)]
        rfl
      refine ⟨?_, ?_⟩
      · rw [e1]; rfl
      · rw [e1]; exact trivial)
    (g := F0 m pc ls ((.inl n :: .inl dp :: .inr (.inr (d, 0)) :: .inl sp :: .inr (.inr (s0, 0)) :: r : List pV).map (rv ad))) rfl (by rw [hml]; exact hL.1) (rest := r.map (rv ad)) rfl (by rw [hb]; exact hdg) hframes (by show 2 * 0 + _ + _ ≤ _; omega)
  have e1 : copied (vp_cell (cA 0) (n0, .inl (σ.1 s0 0))) (vp_cell (cA 0) (n1, .inl (σ.1 d 0))) sp dp n = vp_cell (cA 0) (n1, .inl (va_cpy (σ.1 s0 0) (σ.1 d 0) sp.toNatClampNeg dp.toNatClampNeg n.toNatClampNeg)) := va_copied (fun z => .int z) (cA 0) (cA 0) (σ.1 s0 0) (σ.1 d 0) h4
  rw [e1] at X' step
  have hl : ad d 0 < H.size := (Array.getElem?_eq_some_iff.mp hc1).1
  have hheap : ((T.setVm vm').setCell (ad d 0) (vp_cell (cA 0) (n1, .inl (va_cpy (σ.1 s0 0) (σ.1 d 0) sp.toNatClampNeg dp.toNatClampNeg n.toNatClampNeg)))).heap = H.setIfInBounds (ad d 0) (vp_cell (cA 0) (n1, .inl (va_cpy (σ.1 s0 0) (σ.1 d 0) sp.toNatClampNeg dp.toNatClampNeg n.toNatClampNeg))) := by rw [← hT]; rfl
  have oq : ∀ q : Nat, q ≠ ad d 0 → (H.setIfInBounds (ad d 0) (vp_cell (cA 0) (n1, .inl (va_cpy (σ.1 s0 0) (σ.1 d 0) sp.toNatClampNeg dp.toNatClampNeg n.toNatClampNeg))))[q]? = H[q]? := fun q hq => by simp [Array.getElem?_setIfInBounds, Ne.symm hq]
  have hAd := hJ.2 σ d 0 _ (hd.ce σ)
  have hW' : pWo S ad un cA dg (dcpy σ.1 s0 sp.toNatClampNeg d dp.toNatClampNeg n.toNatClampNeg, σ.2) (H.setIfInBounds (ad d 0) (vp_cell (cA 0) (n1, .inl (va_cpy (σ.1 s0 0) (σ.1 d 0) sp.toNatClampNeg dp.toNatClampNeg n.toNatClampNeg)))) := by
    refine hW.put hJ (hd.ce σ) (fun e' h' => ?_) (fun k' j' hne e' h' => by rw [pCe_dcpy hne] at h'; exact h') oq
    rw [hd.ce] at h'
    cases h'
    show (H.setIfInBounds (ad d 0) _)[ad d 0]? = some (vp_cell (cA 0) (n1, .inl (dcpy σ.1 s0 _ d _ _ d 0)))
    rw [dcpy_eq]
    simp [Array.getElem?_setIfInBounds, hl]
  obtain ⟨t, a1, b1⟩ := kk _ _ ls hW' ⟨by simp; exact hS.1, fun q g1 g2 => by
      rw [oq q (fun e => g2 (by rw [e]; exact hAd))]
      exact hS.2.1 q g1 g2, fun q hq => by
      rcases List.mem_append.mp hq with h | h
      · exact hS.2.2 q h
      · obtain ⟨z, -, hz⟩ := List.mem_map.mp h
        rw [← hz]
        exact hAd⟩ hL _ hheap X'
  exact ⟨t, step t a1, b1⟩
theorem g_iload_n (hx : p.tables.exec = Jvm.exec) (hb : c.code = cc) {n : Fin 4} {a : Nat} {x : Int32} (hdg : decode cc pc = .ok (.iload_n n, 1)) (hi : (n : Nat) = a) (hl : L[a]? = some (some (.inl x))) (kk : pG p l e R s m args below meth c Q S ad un cA dg A H0 nL (pc + 1) L (.inl x :: st) σ) : pG p l e R s m args below meth c Q S ad un cA dg A H0 nL pc L st σ := fun H locs ls hW hS hL => lv_iload_n hx hb hdg hi (hL.2.2 a _ hl rfl) (kk H locs ls hW hS hL)
theorem g_iload (hx : p.tables.exec = Jvm.exec) (hb : c.code = cc) {a : Nat} {x : Int32} (hdg : decode cc pc = .ok (.iload a, 2)) (hl : L[a]? = some (some (.inl x))) (kk : pG p l e R s m args below meth c Q S ad un cA dg A H0 nL (pc + 2) L (.inl x :: st) σ) : pG p l e R s m args below meth c Q S ad un cA dg A H0 nL pc L st σ := fun H locs ls hW hS hL => lv_iload hx hb hdg (hL.2.2 a _ hl rfl) (kk H locs ls hW hS hL)
theorem g_aload_n (hx : p.tables.exec = Jvm.exec) (hb : c.code = cc) {n : Fin 4} {a k j : Nat} (hdg : decode cc pc = .ok (.aload_n n, 1)) (hi : (n : Nat) = a) (hl : L[a]? = some (some (.inr (.inr (k, j))))) (kk : pG p l e R s m args below meth c Q S ad un cA dg A H0 nL (pc + 1) L (.inr (.inr (k, j)) :: st) σ) : pG p l e R s m args below meth c Q S ad un cA dg A H0 nL pc L st σ := fun H locs ls hW hS hL => lv_aload_n hx hb hdg hi (hL.2.2 a _ hl rfl) (kk H locs ls hW hS hL)
theorem g_aload (hx : p.tables.exec = Jvm.exec) (hb : c.code = cc) {a k j : Nat} (hdg : decode cc pc = .ok (.aload a, 2)) (hl : L[a]? = some (some (.inr (.inr (k, j))))) (kk : pG p l e R s m args below meth c Q S ad un cA dg A H0 nL (pc + 2) L (.inr (.inr (k, j)) :: st) σ) : pG p l e R s m args below meth c Q S ad un cA dg A H0 nL pc L st σ := fun H locs ls hW hS hL => lv_aload hx hb hdg (hL.2.2 a _ hl rfl) (kk H locs ls hW hS hL)
theorem g_istore_n (hx : p.tables.exec = Jvm.exec) (hb : c.code = cc) {n : Fin 4} {a : Nat} {x : Int32} (hdg : decode cc pc = .ok (.istore_n n, 1)) (hi : (n : Nat) = a) (ha : a < nL) (kk : pG p l e R s m args below meth c Q S ad un cA dg A H0 nL (pc + 1) (L.set a (some (.inl x))) r σ) : pG p l e R s m args below meth c Q S ad un cA dg A H0 nL pc L (.inl x :: r) σ := fun H locs ls hW hS hL => lv_istore_n hx hb hdg hi hL.has ha rfl (fun ls2 h2 => kk H locs ls2 hW hS (pLv.sto h2))
theorem g_istore (hx : p.tables.exec = Jvm.exec) (hb : c.code = cc) {a : Nat} {x : Int32} (hdg : decode cc pc = .ok (.istore a, 2)) (ha : a < nL) (kk : pG p l e R s m args below meth c Q S ad un cA dg A H0 nL (pc + 2) (L.set a (some (.inl x))) r σ) : pG p l e R s m args below meth c Q S ad un cA dg A H0 nL pc L (.inl x :: r) σ := fun H locs ls hW hS hL => lv_istore hx hb hdg hL.has ha rfl (fun ls2 h2 => kk H locs ls2 hW hS (pLv.sto h2))
theorem g_astore_n (hx : p.tables.exec = Jvm.exec) (hb : c.code = cc) {n : Fin 4} {a : Nat} {k j : Nat} (hdg : decode cc pc = .ok (.astore_n n, 1)) (hi : (n : Nat) = a) (ha : a < nL) (kk : pG p l e R s m args below meth c Q S ad un cA dg A H0 nL (pc + 1) (L.set a (some (.inr (.inr (k, j))))) r σ) : pG p l e R s m args below meth c Q S ad un cA dg A H0 nL pc L (.inr (.inr (k, j)) :: r) σ := fun H locs ls hW hS hL => lv_astore_n hx hb hdg hi hL.has ha rfl (fun ls2 h2 => kk H locs ls2 hW hS (pLv.sto h2))
theorem g_astore (hx : p.tables.exec = Jvm.exec) (hb : c.code = cc) {a : Nat} {k j : Nat} (hdg : decode cc pc = .ok (.astore a, 2)) (ha : a < nL) (kk : pG p l e R s m args below meth c Q S ad un cA dg A H0 nL (pc + 2) (L.set a (some (.inr (.inr (k, j))))) r σ) : pG p l e R s m args below meth c Q S ad un cA dg A H0 nL pc L (.inr (.inr (k, j)) :: r) σ := fun H locs ls hW hS hL => lv_astore hx hb hdg hL.has ha rfl (fun ls2 h2 => kk H locs ls2 hW hS (pLv.sto h2))
theorem g_iinc (hx : p.tables.exec = Jvm.exec) (hb : c.code = cc) {a : Nat} {q : Int} {x z : Int32} (hdg : decode cc pc = .ok (.iinc a q, 3)) (hz : Int32.ofInt q = z) (ha : a < nL) (hl : L[a]? = some (some (.inl x))) (kk : pG p l e R s m args below meth c Q S ad un cA dg A H0 nL (pc + 3) (L.set a (some (.inl (x + z)))) st σ) : pG p l e R s m args below meth c Q S ad un cA dg A H0 nL pc L st σ := fun H locs ls hW hS hL => by
  obtain ⟨k, hk⟩ := List.getElem?_of_mem (pAs_mem (ad := ad) hl rfl)
  exact lv_iinc (v := x + z) hx hb hdg hL.has (k := k) hk (by rw [hz]) ha rfl (fun ls2 h2 => kk H locs ls2 hW hS (pLv.sto (v := .inl (x + z)) h2))
end PG3
end
section
/-- the receiver is of its sort -/
def pRecvOk (S : List pSh) (w : Nat) (as : List pV) : Prop := ∃ ci k n fs t, w = ci + 1 ∧ as = .inr (.inr (k, 0)) :: t ∧ S[k]? = some (ci + 7, n, fs)
def pRetOk (a : Nat) (x : Int32) : Prop := a = 0 ∨ (a = 1 ∧ x &&& 1 = x) ∨ (a = 2 ∧ (x.toUInt32 % 65536).toInt32 = x)
section PG4
variable {p : Program} {l : Launch} {e : Env} {R : Room} {s : State} {m : MethodId} {args : Array Value} {below : List Frame} {meth : Method} {c : Code} {Q : State → Prop} {S : List pSh} {ad : Nat → Nat → Nat} {un : Nat} {cA : Nat → ClassId} {dg : va_G} {A : Nat → Prop} {H0 : Heap} {nL : Nat}
variable {cc : ByteArray} {pc : Nat} {L : pL} {st r : List pV} {σ : pSt}
theorem Recv_inv {ρ : Type} {o : ρ} {w : Nat} {as : List pV} {F : Option ρ} (h : pRecv S w as F = some o) : (w = 0 ∨ pRecvOk S w as) ∧ F = some o := by
  unfold pRecv at h
  split at h
  · exact ⟨Or.inl rfl, h⟩
  · split at h
    · obtain ⟨n, fs, h1, h2, h3⟩ := Obj_inv h
      subst h2
      exact ⟨Or.inr ⟨_, _, n, fs, _, rfl, rfl, h1⟩, h3⟩
    · cases h
theorem Ret_inv {ρ : Type} {o : ρ} {a : Nat} {x : Int32} {F : Option ρ} (h : pRet a x F = some o) : pRetOk a x ∧ F = some o := by
  unfold pRet at h
  split at h
  · exact ⟨Or.inl rfl, h⟩
  · split at h
    · next q => exact ⟨Or.inr (Or.inl ⟨rfl, q⟩), h⟩
    · cases h
  · split at h
    · next q => exact ⟨Or.inr (Or.inr ⟨rfl, q⟩), h⟩
    · cases h
  · cases h
theorem char_nar {x : Int32} (h : (x.toUInt32 % 65536).toInt32 = x) : narrow .char (.int x) = .int x ∧ fits .char (.int x) = true := by
  have h1 := pk_nc x
  have h2 := pk_fc x
  rw [h] at h1 h2
  exact ⟨h1, h2⟩
theorem rv_fr {cd : Nat} {q : pSt} {k b : Nat} {r2 : Nat} (h : pFr cd = (true, r2)) : rv ad (.inr (.inr (r2, 0))) = pFv ad un (q.1 k 0) (q.2 k) b (cd + 3) := by
  show Value.ref (ad r2 0) = Value.ref (pFa ad un (pFr cd) _)
  rw [h]
  rfl
theorem rv_frd {cd : Nat} {q : pSt} {k b : Nat} {r2 : Nat} (h : pFr cd = (false, r2)) (h1 : q.1 k 0 b = 1) : rv ad (.inr (.inr (r2, 0))) = pFv ad un (q.1 k 0) (q.2 k) b (cd + 3) := by
  show Value.ref (ad r2 0) = Value.ref (pFa ad un (pFr cd) _)
  rw [h, h1]
  rfl
/-- texts: what the rows of this method need of them -/
def pStr (p : Program) (l : Launch) (e : Env) (R : Room) (s : State) (m : MethodId) (args : Array Value) (below : List Frame) (meth : Method) (c : Code) (Q : State → Prop) (S : List pSh) (ad : Nat → Nat → Nat) (un : Nat) (cA : Nat → ClassId) (dg : va_G) (A : Nat → Prop) (H0 : Heap) (nL : Nat) (cc : ByteArray) (T : pTx) (pc : Nat) (x : pX) : Prop := match x with
  | (ins, a, b, c', _, _, _) => match ins with
    | .ldc i => b ≠ 0 → ∀ (L : pL) (st : List pV) (σ : pSt), pG p l e R s m args below meth c Q S ad un cA dg A H0 nL (pc + 2) L (.inr (.inr (a, 0)) :: st) σ → pG p l e R s m args below meth c Q S ad un cA dg A H0 nL pc L st σ
    | .invokevirtual i => c' = 0 → (b = 0 → ∀ (L : pL) (r : List pV) (σ : pSt) (k n : Nat) (fs : List Nat) (t : List Int32), S[k]? = some (6, n, fs) → T[n]? = some t → pRm 8 r = true → pG p l e R s m args below meth c Q S ad un cA dg A H0 nL (pc + 3) L (.inl (nI t.length) :: r) σ → pG p l e R s m args below meth c Q S ad un cA dg A H0 nL pc L (.inr (.inr (k, 0)) :: r) σ) ∧
      (b ≠ 0 → ∀ (L : pL) (r : List pV) (σ : pSt) (k n : Nat) (fs : List Nat) (t : List Int32) (i : Int32), S[k]? = some (6, n, fs) → T[n]? = some t → pRm 8 r = true → vp_in i t.length → pG p l e R s m args below meth c Q S ad un cA dg A H0 nL (pc + 3) L (.inl (t.getD i.toNatClampNeg 0) :: r) σ → pG p l e R s m args below meth c Q S ad un cA dg A H0 nL pc L (.inl i :: .inr (.inr (k, 0)) :: r) σ)
    | _ => True

theorem Txt_inv {ρ : Type} {o : ρ} {k j : Nat} {T : pTx} {F : List Int32 → Option ρ} (h : pTxt S k j T F = some o) : ∃ n fs t, S[k]? = some (6, n, fs) ∧ j = 0 ∧ T[n]? = some t ∧ F t = some o := by
  unfold pTxt at h
  split at h
  · next hq =>
    split at h
    · next ht => exact ⟨_, _, _, hq, rfl, ht, h⟩
    · cases h
  · cases h
theorem Copy_inv {ρ : Type} {o : ρ} {F : List pV → pSt → Option ρ} (h : pCopy S σ st F = some o) : ∃ (n dp : Int32) (d : Nat) (sp : Int32) (s0 ns nd : Nat) (r : List pV), st = .inl n :: .inl dp :: .inr (.inr (d, 0)) :: .inl sp :: .inr (.inr (s0, 0)) :: r ∧ pNi S ad un cA s0 0 0 ns ∧ pNi S ad un cA d 0 0 nd ∧ ¬ sp < 0 ∧ ¬ dp < 0 ∧ ¬ n < 0 ∧ sp.toNatClampNeg + n.toNatClampNeg ≤ ns ∧ dp.toNatClampNeg + n.toNatClampNeg ≤ nd ∧ F r (dcpy σ.1 s0 sp.toNatClampNeg d dp.toNatClampNeg n.toNatClampNeg, σ.2) = some o := by
  unfold pCopy at h
  split at h
  · split at h
    · next q1 q2 =>
      split at h
      · cases h
      · next hc =>
        refine ⟨_, _, _, _, _, _, _, _, rfl, ⟨_, q1, fun f g => rfl⟩, ⟨_, q2, fun f g => rfl⟩, fun z => hc (Or.inl z), fun z => hc (Or.inr (Or.inl z)), fun z => hc (Or.inr (Or.inr (Or.inl z))), ?_, ?_, h⟩
        · exact Nat.not_lt.mp fun z => hc (Or.inr (Or.inr (Or.inr (Or.inl z))))
        · exact Nat.not_lt.mp fun z => hc (Or.inr (Or.inr (Or.inr (Or.inr z))))
    · cases h
  · cases h
set_option maxHeartbeats 4000000 in
theorem sound_step {ρ : Type} {o : ρ} (hx : p.tables.exec = Jvm.exec) (hb : c.code = cc) (hml : c.maxLocals = nL) {own : String} {Ts : List Cond} (hts : ∀ w ∈ Ts, w.before args s = true) (hCl : pClOk Ts) (hown : s.vm.findClass own = some m.cls) (hK : va_K dg vwCl (pTys cA) s) (hJ : pAp S ad un cA A) (hSh : pShOk S)
    (hCo : Cond.native arraycopyName ∈ Ts ∧ Cond.static arraycopyName ∈ Ts ∧ Cond.initialized "java/lang/System" ∈ Ts) (hRo : 1 ≤ R.frames ∧ 8 + (nativeFrameWords "java/lang/System" "arraycopy" 5 + 11) ≤ R.locals)
    {T : pTx} {d : Nat} {x : pX} {K : Nat → pL → List pV → pSt → Option ρ} {C : Nat → Nat → List pV → Nat → Nat → pL → List pV → Option ρ} {Rr : Option pV → Option ρ}
    (hdec : decode cc pc = .ok (x.1, pLen x.1 x.2.2.1)) (hX : pXex own Ts nL pc x) (hStr : pStr p l e R s m args below meth c Q S ad un cA dg A H0 nL cc T pc x)
    (hKk : ∀ pc' L' st' σ', K pc' L' st' σ' = some o → pG p l e R s m args below meth c Q S ad un cA dg A H0 nL pc' L' st' σ')
    (hCv : ∀ (i a b c' w gk : Nat) (z : Int32) (as r : List pV) (d' : Nat), x = (.invokevirtual i, a, b, c' + 1, w, gk, z) → st = as.reverse ++ r → as.length = b → (∀ v ∈ as, ∀ y, v ≠ .inr (.inl y)) → pRm 8 r = true → (w = 0 ∨ pRecvOk S w as) → d' < d → C a d' as gk (pc + 3) L r = some o → pG p l e R s m args below meth c Q S ad un cA dg A H0 nL pc L st σ)
    (hCs : ∀ (i a b c' w gk : Nat) (z : Int32) (as r : List pV) (d' : Nat), x = (.invokestatic i, a, b, c' + 1, w, gk, z) → st = as.reverse ++ r → as.length = b → (∀ v ∈ as, ∀ y, v ≠ .inr (.inl y)) → pRm 8 r = true → d' < d → C a d' as gk (pc + 3) L r = some o → pG p l e R s m args below meth c Q S ad un cA dg A H0 nL pc L st σ)
    (hRi : ∀ v : Int32, x.1 = .ireturn → st = [.inl v] → pRetOk x.2.1 v → Rr (some (.inl v)) = some o → pG p l e R s m args below meth c Q S ad un cA dg A H0 nL pc L st σ)
    (hRa : ∀ q : Nat × Nat, x.1 = .areturn → st = [.inr (.inr q)] → Rr (some (.inr (.inr q))) = some o → pG p l e R s m args below meth c Q S ad un cA dg A H0 nL pc L st σ)
    (hRv : x.1 = .return_ → st = [] → Rr none = some o → pG p l e R s m args below meth c Q S ad un cA dg A H0 nL pc L st σ)
    (h : sI S T d pc x L st σ K C Rr = some o) : pG p l e R s m args below meth c Q S ad un cA dg A H0 nL pc L st σ := by
  obtain ⟨ins, a, b, c', w, gk, z⟩ := x
  cases ins with
  | iconst n =>
    unfold sI at h
    dsimp only at h
    clear hCv hCs hRi hRa hRv
    exact fun H locs ls hW hS hL => lv_iconst hx hb hdec hX (hKk _ _ _ _ h H locs ls hW hS hL)
  | bipush n =>
    unfold sI at h
    dsimp only at h
    clear hCv hCs hRi hRa hRv
    exact fun H locs ls hW hS hL => lv_bipush hx hb hdec hX (hKk _ _ _ _ h H locs ls hW hS hL)
  | sipush n =>
    unfold sI at h
    dsimp only at h
    clear hCv hCs hRi hRa hRv
    exact fun H locs ls hW hS hL => lv_sipush hx hb hdec hX (hKk _ _ _ _ h H locs ls hW hS hL)
  | ldc i =>
    unfold sI at h
    dsimp only at h
    clear hCv hCs hRi hRa hRv
    cases b with
    | zero => exact fun H locs ls hW hS hL => lv_ldc hx hb hown (hts _ (hX rfl)) hdec (hKk _ _ _ _ h H locs ls hW hS hL)
    | succ b =>
      have h : (match S[a]? with | some (6, _, _) => K (pc + 2) L (.inr (.inr (a, 0)) :: st) σ | _ => none) = some o := h
      split at h
      · exact hStr (Nat.succ_ne_zero b) L st σ (hKk _ _ _ _ h)
      · cases h
  | ldc_w i =>
    unfold sI at h
    dsimp only at h
    clear hCv hCs hRi hRa hRv
    exact fun H locs ls hW hS hL => lv_ldcw hx hb hown (hts _ hX) hdec (hKk _ _ _ _ h H locs ls hW hS hL)
  | ldc2_w i =>
    unfold sI at h
    dsimp only at h
    clear hCv hCs hRi hRa hRv
    exact fun H locs ls hW hS hL => lv_ldc2 hx hb hown (hts _ hX) hdec (hKk _ _ _ _ h H locs ls hW hS hL)
  | lconst n =>
    unfold sI at h
    dsimp only at h
    clear hCv hCs hRi hRa hRv
    exact fun H locs ls hW hS hL => lv_lconst (v := lN a) hx hb hdec (by rw [show (n : Nat) = a from hX]; rfl) (hKk _ _ _ _ h H locs ls hW hS hL)
  | iload_n n =>
    unfold sI at h
    dsimp only at h
    clear hCv hCs hRi hRa hRv
    obtain ⟨x, hl, hN⟩ := LdI_inv h; clear h; have h := hN; clear hN; exact g_iload_n hx hb hdec hX hl (hKk _ _ _ _ h)
  | iload n =>
    unfold sI at h
    dsimp only at h
    clear hCv hCs hRi hRa hRv
    obtain ⟨x, hl, hN⟩ := LdI_inv h; clear h; have h := hN; clear hN; obtain rfl := hX; exact g_iload hx hb hdec hl (hKk _ _ _ _ h)
  | aload_n n =>
    unfold sI at h
    dsimp only at h
    clear hCv hCs hRi hRa hRv
    obtain ⟨k, j, hl, hN⟩ := LdR_inv h; clear h; have h := hN; clear hN; exact g_aload_n hx hb hdec hX hl (hKk _ _ _ _ h)
  | aload n =>
    unfold sI at h
    dsimp only at h
    clear hCv hCs hRi hRa hRv
    obtain ⟨k, j, hl, hN⟩ := LdR_inv h; clear h; have h := hN; clear hN; obtain rfl := hX; exact g_aload hx hb hdec hl (hKk _ _ _ _ h)
  | istore_n n =>
    unfold sI at h
    dsimp only at h
    clear hCv hCs hRi hRa hRv
    obtain ⟨x, r, rfl, hN⟩ := I1_inv h; clear h; have h := hN; clear hN; exact g_istore_n hx hb hdec hX.1 hX.2 (hKk _ _ _ _ (Sto_inv h))
  | istore n =>
    unfold sI at h
    dsimp only at h
    clear hCv hCs hRi hRa hRv
    obtain ⟨x, r, rfl, hN⟩ := I1_inv h; clear h; have h := hN; clear hN; obtain ⟨rfl, hlt⟩ := hX; exact g_istore hx hb hdec hlt (hKk _ _ _ _ (Sto_inv h))
  | astore_n n =>
    unfold sI at h
    dsimp only at h
    clear hCv hCs hRi hRa hRv
    obtain ⟨k, j, r, rfl, hN⟩ := R1_inv h; clear h; have h := hN; clear hN; exact g_astore_n hx hb hdec hX.1 hX.2 (hKk _ _ _ _ (Sto_inv h))
  | astore n =>
    unfold sI at h
    dsimp only at h
    clear hCv hCs hRi hRa hRv
    obtain ⟨k, j, r, rfl, hN⟩ := R1_inv h; clear h; have h := hN; clear hN; obtain ⟨rfl, hlt⟩ := hX; exact g_astore hx hb hdec hlt (hKk _ _ _ _ (Sto_inv h))
  | iinc n q =>
    unfold sI at h
    dsimp only at h
    clear hCv hCs hRi hRa hRv
    obtain ⟨x, hl, hN⟩ := LdI_inv h; clear h; have h := hN; clear hN; obtain ⟨rfl, hz, hlt⟩ := hX; exact g_iinc hx hb hdec hz hlt hl (hKk _ _ _ _ (Sto_inv h))
  | iadd =>
    unfold sI at h
    dsimp only at h
    clear hCv hCs hRi hRa hRv
    obtain ⟨x, y, r, rfl, hN⟩ := I2_inv h; clear h; have h := hN; clear hN; exact fun H locs ls hW hS hL => lv_iadd hx hb hdec (hKk _ _ _ _ h H locs ls hW hS hL)
  | isub =>
    unfold sI at h
    dsimp only at h
    clear hCv hCs hRi hRa hRv
    obtain ⟨x, y, r, rfl, hN⟩ := I2_inv h; clear h; have h := hN; clear hN; exact fun H locs ls hW hS hL => lv_isub hx hb hdec (hKk _ _ _ _ h H locs ls hW hS hL)
  | imul =>
    unfold sI at h
    dsimp only at h
    clear hCv hCs hRi hRa hRv
    obtain ⟨x, y, r, rfl, hN⟩ := I2_inv h; clear h; have h := hN; clear hN; exact fun H locs ls hW hS hL => lv_imul hx hb hdec (hKk _ _ _ _ h H locs ls hW hS hL)
  | iand =>
    unfold sI at h
    dsimp only at h
    clear hCv hCs hRi hRa hRv
    obtain ⟨x, y, r, rfl, hN⟩ := I2_inv h; clear h; have h := hN; clear hN; exact fun H locs ls hW hS hL => lv_iand hx hb hdec (hKk _ _ _ _ h H locs ls hW hS hL)
  | ior =>
    unfold sI at h
    dsimp only at h
    clear hCv hCs hRi hRa hRv
    obtain ⟨x, y, r, rfl, hN⟩ := I2_inv h; clear h; have h := hN; clear hN; exact fun H locs ls hW hS hL => lv_ior hx hb hdec (hKk _ _ _ _ h H locs ls hW hS hL)
  | ixor =>
    unfold sI at h
    dsimp only at h
    clear hCv hCs hRi hRa hRv
    obtain ⟨x, y, r, rfl, hN⟩ := I2_inv h; clear h; have h := hN; clear hN; exact fun H locs ls hW hS hL => lv_ixor hx hb hdec (hKk _ _ _ _ h H locs ls hW hS hL)
  | ishl =>
    unfold sI at h
    dsimp only at h
    clear hCv hCs hRi hRa hRv
    obtain ⟨x, y, r, rfl, hN⟩ := I2_inv h; clear h; have h := hN; clear hN; exact fun H locs ls hW hS hL => lv_ishl hx hb hdec (hKk _ _ _ _ h H locs ls hW hS hL)
  | ishr =>
    unfold sI at h
    dsimp only at h
    clear hCv hCs hRi hRa hRv
    obtain ⟨x, y, r, rfl, hN⟩ := I2_inv h; clear h; have h := hN; clear hN; exact fun H locs ls hW hS hL => lv_ishr hx hb hdec (hKk _ _ _ _ h H locs ls hW hS hL)
  | iushr =>
    unfold sI at h
    dsimp only at h
    clear hCv hCs hRi hRa hRv
    obtain ⟨x, y, r, rfl, hN⟩ := I2_inv h; clear h; have h := hN; clear hN; exact fun H locs ls hW hS hL => lv_iushr hx hb hdec rfl (hKk _ _ _ _ h H locs ls hW hS hL)
  | idiv =>
    unfold sI at h
    dsimp only at h
    clear hCv hCs hRi hRa hRv
    obtain ⟨x, y, r, rfl, hN⟩ := I2_inv h; clear h; have h := hN; clear hN
    split at h
    · cases h
    · next hne => exact fun H locs ls hW hS hL => lv_idiv hx hb hdec hne (hKk _ _ _ _ h H locs ls hW hS hL)
  | irem =>
    unfold sI at h
    dsimp only at h
    clear hCv hCs hRi hRa hRv
    obtain ⟨x, y, r, rfl, hN⟩ := I2_inv h; clear h; have h := hN; clear hN
    split at h
    · cases h
    · next hne => exact fun H locs ls hW hS hL => lv_irem hx hb hdec hne (hKk _ _ _ _ h H locs ls hW hS hL)
  | ladd =>
    unfold sI at h
    dsimp only at h
    clear hCv hCs hRi hRa hRv
    obtain ⟨x, y, r, rfl, hN⟩ := L2_inv h; clear h; have h := hN; clear hN; exact fun H locs ls hW hS hL => lv_ladd hx hb hdec (hKk _ _ _ _ h H locs ls hW hS hL)
  | lsub =>
    unfold sI at h
    dsimp only at h
    clear hCv hCs hRi hRa hRv
    obtain ⟨x, y, r, rfl, hN⟩ := L2_inv h; clear h; have h := hN; clear hN; exact fun H locs ls hW hS hL => lv_lsub hx hb hdec (hKk _ _ _ _ h H locs ls hW hS hL)
  | lmul =>
    unfold sI at h
    dsimp only at h
    clear hCv hCs hRi hRa hRv
    obtain ⟨x, y, r, rfl, hN⟩ := L2_inv h; clear h; have h := hN; clear hN; exact fun H locs ls hW hS hL => lv_lmul hx hb hdec (hKk _ _ _ _ h H locs ls hW hS hL)
  | lcmp =>
    unfold sI at h
    dsimp only at h
    clear hCv hCs hRi hRa hRv
    obtain ⟨x, y, r, rfl, hN⟩ := L2_inv h; clear h; have h := hN; clear hN; exact fun H locs ls hW hS hL => W.lcmp hx hb hdec (hKk _ _ _ _ h H locs ls hW hS hL)
  | i2l =>
    unfold sI at h
    dsimp only at h
    clear hCv hCs hRi hRa hRv
    obtain ⟨x, r, rfl, hN⟩ := I1_inv h; clear h; have h := hN; clear hN; exact fun H locs ls hW hS hL => lv_i2l hx hb hdec rfl (hKk _ _ _ _ h H locs ls hW hS hL)
  | i2b =>
    unfold sI at h
    dsimp only at h
    clear hCv hCs hRi hRa hRv
    obtain ⟨x, r, rfl, hN⟩ := I1_inv h; clear h; have h := hN; clear hN; exact fun H locs ls hW hS hL => lv_i2b hx hb hdec rfl (hKk _ _ _ _ h H locs ls hW hS hL)
  | i2c =>
    unfold sI at h
    dsimp only at h
    clear hCv hCs hRi hRa hRv
    obtain ⟨x, r, rfl, hN⟩ := I1_inv h; clear h; have h := hN; clear hN; exact fun H locs ls hW hS hL => lv_i2c hx hb hdec rfl (hKk _ _ _ _ h H locs ls hW hS hL)
  | dup =>
    unfold sI at h
    dsimp only at h
    clear hCv hCs hRi hRa hRv
    obtain ⟨v, r, rfl, hN⟩ := V1_inv h; clear h; have h := hN; clear hN; obtain ⟨hc, hN⟩ := C1_inv h; clear h; have h := hN; clear hN; exact fun H locs ls hW hS hL => lv_dup hx hb hdec (rv_cat1 hc) (hKk _ _ _ _ h H locs ls hW hS hL)
  | dup2 =>
    unfold sI at h
    dsimp only at h
    clear hCv hCs hRi hRa hRv
    obtain ⟨v, u, r, rfl, hN⟩ := V2_inv h; clear h; have h := hN; clear hN; obtain ⟨hc, hN⟩ := C1_inv h; clear h; have h := hN; clear hN; obtain ⟨hc2, hN⟩ := C1_inv h; clear h; have h := hN; clear hN; exact fun H locs ls hW hS hL => lv_dup2_11 hx hb hdec (rv_cat1 hc) (rv_cat1 hc2) (hKk _ _ _ _ h H locs ls hW hS hL)
  | pop =>
    unfold sI at h
    dsimp only at h
    clear hCv hCs hRi hRa hRv
    obtain ⟨v, r, rfl, hN⟩ := V1_inv h; clear h; have h := hN; clear hN; obtain ⟨hc, hN⟩ := C1_inv h; clear h; have h := hN; clear hN; exact fun H locs ls hW hS hL => lv_pop hx hb hdec (rv_cat1 hc) (hKk _ _ _ _ h H locs ls hW hS hL)
  | goto off =>
    unfold sI at h
    dsimp only at h
    clear hCv hCs hRi hRa hRv
    exact fun H locs ls hW hS hL => lv_goto (tgt := a) hx hb hdec hX (hKk _ _ _ _ h H locs ls hW hS hL)
  | ifCond cd off =>
    cases cd with
    | eq =>
      unfold sI at h
      dsimp only at h
      obtain ⟨x, r, rfl, hN⟩ := I1_inv h; clear h; have h := hN; clear hN
      split at h
      · next q => exact fun H locs ls hW hS hL => lv_if_eq (tgt := a) hx hb hdec hX (fun _ => hKk _ _ _ _ h H locs ls hW hS hL) (fun z => absurd q z)
      · next q => exact fun H locs ls hW hS hL => lv_if_eq (tgt := a) hx hb hdec hX (fun z => absurd z q) (fun _ => hKk _ _ _ _ h H locs ls hW hS hL)
    | ne =>
      unfold sI at h
      dsimp only at h
      obtain ⟨x, r, rfl, hN⟩ := I1_inv h; clear h; have h := hN; clear hN
      split at h
      · next q => exact fun H locs ls hW hS hL => lv_if_ne (tgt := a) hx hb hdec hX (fun z => absurd q z) (fun _ => hKk _ _ _ _ h H locs ls hW hS hL)
      · next q => exact fun H locs ls hW hS hL => lv_if_ne (tgt := a) hx hb hdec hX (fun _ => hKk _ _ _ _ h H locs ls hW hS hL) (fun z => absurd z q)
    | lt =>
      unfold sI at h
      dsimp only at h
      obtain ⟨x, r, rfl, hN⟩ := I1_inv h; clear h; have h := hN; clear hN
      split at h
      · next q => exact fun H locs ls hW hS hL => lv_if_lt (tgt := a) hx hb hdec hX (fun _ => hKk _ _ _ _ h H locs ls hW hS hL) (fun z => absurd q z)
      · next q => exact fun H locs ls hW hS hL => lv_if_lt (tgt := a) hx hb hdec hX (fun z => absurd z q) (fun _ => hKk _ _ _ _ h H locs ls hW hS hL)
    | ge =>
      unfold sI at h
      dsimp only at h
      obtain ⟨x, r, rfl, hN⟩ := I1_inv h; clear h; have h := hN; clear hN
      split at h
      · next q => exact fun H locs ls hW hS hL => lv_if_ge (tgt := a) hx hb hdec hX (fun _ => hKk _ _ _ _ h H locs ls hW hS hL) (fun z => absurd q z)
      · next q => exact fun H locs ls hW hS hL => lv_if_ge (tgt := a) hx hb hdec hX (fun z => absurd z q) (fun _ => hKk _ _ _ _ h H locs ls hW hS hL)
    | gt =>
      unfold sI at h
      dsimp only at h
      obtain ⟨x, r, rfl, hN⟩ := I1_inv h; clear h; have h := hN; clear hN
      split at h
      · next q => exact fun H locs ls hW hS hL => lv_if_gt (tgt := a) hx hb hdec hX (fun _ => hKk _ _ _ _ h H locs ls hW hS hL) (fun z => absurd q z)
      · next q => exact fun H locs ls hW hS hL => lv_if_gt (tgt := a) hx hb hdec hX (fun z => absurd z q) (fun _ => hKk _ _ _ _ h H locs ls hW hS hL)
    | le =>
      unfold sI at h
      dsimp only at h
      obtain ⟨x, r, rfl, hN⟩ := I1_inv h; clear h; have h := hN; clear hN
      split at h
      · next q => exact fun H locs ls hW hS hL => lv_if_le (tgt := a) hx hb hdec hX (fun _ => hKk _ _ _ _ h H locs ls hW hS hL) (fun z => absurd q z)
      · next q => exact fun H locs ls hW hS hL => lv_if_le (tgt := a) hx hb hdec hX (fun z => absurd z q) (fun _ => hKk _ _ _ _ h H locs ls hW hS hL)
  | if_icmp cd off =>
    cases cd with
    | eq =>
      unfold sI at h
      dsimp only at h
      obtain ⟨x, y, r, rfl, hN⟩ := I2_inv h; clear h; have h := hN; clear hN
      split at h
      · next q => exact fun H locs ls hW hS hL => lv_icmp_eq (tgt := a) hx hb hdec hX (fun _ => hKk _ _ _ _ h H locs ls hW hS hL) (fun z => absurd q z)
      · next q => exact fun H locs ls hW hS hL => lv_icmp_eq (tgt := a) hx hb hdec hX (fun z => absurd z q) (fun _ => hKk _ _ _ _ h H locs ls hW hS hL)
    | ne =>
      unfold sI at h
      dsimp only at h
      obtain ⟨x, y, r, rfl, hN⟩ := I2_inv h; clear h; have h := hN; clear hN
      split at h
      · next q => exact fun H locs ls hW hS hL => lv_icmp_ne (tgt := a) hx hb hdec hX (fun z => absurd q z) (fun _ => hKk _ _ _ _ h H locs ls hW hS hL)
      · next q => exact fun H locs ls hW hS hL => lv_icmp_ne (tgt := a) hx hb hdec hX (fun _ => hKk _ _ _ _ h H locs ls hW hS hL) (fun z => absurd z q)
    | lt =>
      unfold sI at h
      dsimp only at h
      obtain ⟨x, y, r, rfl, hN⟩ := I2_inv h; clear h; have h := hN; clear hN
      split at h
      · next q => exact fun H locs ls hW hS hL => lv_icmp_lt (tgt := a) hx hb hdec hX (fun _ => hKk _ _ _ _ h H locs ls hW hS hL) (fun z => absurd q z)
      · next q => exact fun H locs ls hW hS hL => lv_icmp_lt (tgt := a) hx hb hdec hX (fun z => absurd z q) (fun _ => hKk _ _ _ _ h H locs ls hW hS hL)
    | ge =>
      unfold sI at h
      dsimp only at h
      obtain ⟨x, y, r, rfl, hN⟩ := I2_inv h; clear h; have h := hN; clear hN
      split at h
      · next q => exact fun H locs ls hW hS hL => lv_icmp_ge (tgt := a) hx hb hdec hX (fun _ => hKk _ _ _ _ h H locs ls hW hS hL) (fun z => absurd q z)
      · next q => exact fun H locs ls hW hS hL => lv_icmp_ge (tgt := a) hx hb hdec hX (fun z => absurd z q) (fun _ => hKk _ _ _ _ h H locs ls hW hS hL)
    | gt =>
      unfold sI at h
      dsimp only at h
      obtain ⟨x, y, r, rfl, hN⟩ := I2_inv h; clear h; have h := hN; clear hN
      split at h
      · next q => exact fun H locs ls hW hS hL => lv_icmp_gt (tgt := a) hx hb hdec hX (fun _ => hKk _ _ _ _ h H locs ls hW hS hL) (fun z => absurd q z)
      · next q => exact fun H locs ls hW hS hL => lv_icmp_gt (tgt := a) hx hb hdec hX (fun z => absurd z q) (fun _ => hKk _ _ _ _ h H locs ls hW hS hL)
    | le =>
      unfold sI at h
      dsimp only at h
      obtain ⟨x, y, r, rfl, hN⟩ := I2_inv h; clear h; have h := hN; clear hN
      split at h
      · next q => exact fun H locs ls hW hS hL => lv_icmp_le (tgt := a) hx hb hdec hX (fun _ => hKk _ _ _ _ h H locs ls hW hS hL) (fun z => absurd q z)
      · next q => exact fun H locs ls hW hS hL => lv_icmp_le (tgt := a) hx hb hdec hX (fun z => absurd z q) (fun _ => hKk _ _ _ _ h H locs ls hW hS hL)
  | tableswitch d2 lo hi offs =>
    unfold sI at h
    dsimp only at h
    clear hCv hCs hRi hRa hRv
    obtain ⟨x, r, rfl, hN⟩ := I1_inv h; clear h; have h := hN; clear hN
    obtain ⟨h1, h2, h3⟩ := hX
    rcases SwT_inv h with ⟨i, off, q1, q2, q3⟩ | ⟨q1, q2⟩
    · have hi2 : i < offs.toList.length := (List.getElem?_eq_some_iff.mp q1).1
      refine fun H locs ls hW hS hL => lv_tableIn (off := off) hx hb hdec (by omega) (by omega) ?_ (Int.toNat_of_nonneg (h3 off (List.mem_of_getElem? q1))).symm (hKk _ _ _ _ q3 H locs ls hW hS hL)
      rw [show (x.toInt - lo).toNat = i by omega, ← Array.getElem?_toList]
      exact q1
    · exact fun H locs ls hW hS hL => lv_tableOut hx hb hdec (by omega) (Int.toNat_of_nonneg h2).symm (hKk _ _ _ _ q2 H locs ls hW hS hL)
  | lookupswitch d2 ps =>
    unfold sI at h
    dsimp only at h
    clear hCv hCs hRi hRa hRv
    obtain ⟨x, r, rfl, hN⟩ := I1_inv h; clear h; have h := hN; clear hN
    obtain ⟨h1, h2, h3⟩ := hX
    have h := SwL_inv h
    refine fun H locs ls hW hS hL => lv_lookup hx hb hdec h1 rfl (Int.toNat_of_nonneg ?_).symm (hKk _ _ _ _ h H locs ls hW hS hL)
    rcases SwL_in ps.toList d2 x.toInt with q | ⟨q, q1, q2⟩
    · rw [q]; exact h2
    · rw [q2]; exact h3 q q1
  | getfield i =>
    unfold sI at h
    dsimp only at h
    clear hCv hCs hRi hRa hRv
    obtain ⟨k, j, r, rfl, hN⟩ := R1_inv h; clear h; have h := hN; clear hN
    obtain ⟨C2, T2, N, hc, hbN, hlk⟩ := hX
    obtain ⟨n, fs, hq, rfl, hN⟩ := Obj_inv h; clear h; have h := hN; clear hN
    dsimp only at h
    split at h
    · cases h
    · next hcd => exact g_get hx hb hts hCl hown hK hq hc hbN hlk hcd (v := .inl _) rfl hdec (hKk _ _ _ _ h)
    · next hcd => exact g_get hx hb hts hCl hown hK hq hc hbN hlk hcd (v := .inr (.inl _)) rfl hdec (hKk _ _ _ _ h)
    · next hcd => exact g_get hx hb hts hCl hown hK hq hc hbN hlk hcd (v := .inl _) rfl hdec (hKk _ _ _ _ h)
    · next hcd =>
      split at h
      · next hf => exact g_get hx hb hts hCl hown hK hq hc hbN hlk hcd (rv_fr hf) hdec (hKk _ _ _ _ h)
      · next hf =>
        split at h
        · next h1 => exact g_get hx hb hts hCl hown hK hq hc hbN hlk hcd (rv_frd hf h1) hdec (hKk _ _ _ _ h)
        · cases h
  | putfield i =>
    unfold sI at h
    dsimp only at h
    clear hCv hCs hRi hRa hRv
    obtain ⟨C2, T2, N, hc, hbN, hlk, hfin⟩ := hX
    obtain ⟨v, k, j, r, rfl, hN⟩ := VR_inv h; clear h; have h := hN; clear hN
    · obtain ⟨n, fs, hq, rfl, hN⟩ := Obj_inv h; clear h; have h := hN; clear hN
      dsimp only at h
      split at h
      · next hcd =>
        have hty := hSh k a n fs C2 T2 N hq hc b 0 hcd
        exact g_put hx hb hts hCl hown hK hJ hq hc hbN hlk hfin hcd (v := .inl _) hty rfl rfl (by show Value.int (dset _ _ _ _ _ k 0 b) = _; rw [dset_eq]; simp [upd, rv]) (fun j2 c2 hj => by dsimp only; rw [dset_eq]; unfold pFv; split <;> simp [upd, hj]) (fun k' j' hne => pCe_dset hne) hdec (hKk _ _ _ _ h)
      · next hcd =>
        have hty := hSh k a n fs C2 T2 N hq hc b 1 hcd
        exact g_put hx hb hts hCl hown hK hJ hq hc hbN hlk hfin hcd (v := .inr (.inl _)) hty rfl rfl (by show Value.long (lset _ _ _ _ k b) = _; rw [lset_eq]; simp [vp_updL, rv]) (fun j2 c2 hj => by dsimp only; rw [lset_eq]; unfold pFv; split <;> simp [vp_updL, hj]) (fun k' j' hne => pCe_lset hne) hdec (hKk _ _ _ _ h)
      · next hcd =>
        have hty := hSh k a n fs C2 T2 N hq hc b 2 hcd
        split at h
        · next hch =>
          obtain ⟨hn, hf⟩ := char_nar hch
          exact g_put hx hb hts hCl hown hK hJ hq hc hbN hlk hfin hcd (v := .inl _) hty hn hf (by show Value.int (dset _ _ _ _ _ k 0 b) = _; rw [dset_eq]; simp [upd, rv]) (fun j2 c2 hj => by dsimp only; rw [dset_eq]; unfold pFv; split <;> simp [upd, hj]) (fun k' j' hne => pCe_dset hne) hdec (hKk _ _ _ _ h)
        · cases h
      · next cd y j2 hcd =>
        obtain ⟨ty, hty, hrf⟩ := hSh k a n fs C2 T2 N hq hc b (cd + 3) hcd
        split at h
        · next r2 hf hbq =>
          have hy : y = r2 := by rw [hf] at hbq; exact Nat.eq_of_beq_eq_true hbq
          subst hy
          exact g_put hx hb hts hCl hown hK hJ hq hc hbN hlk hfin hcd (v := .inr (.inr (y, 0))) hty (by rcases hrf with ⟨q, rfl⟩ | ⟨q, rfl⟩ <;> rfl) (by rcases hrf with ⟨q, rfl⟩ | ⟨q, rfl⟩ <;> rfl) (by show Value.ref (pFa ad un (pFr cd) (dset _ _ _ _ _ k 0 b)) = _; rw [dset_eq, hf]; simp [upd, rv, pFa]) (fun j2 c2 hj => by dsimp only; rw [dset_eq]; unfold pFv; split <;> simp [upd, hj]) (fun k' j' hne => pCe_dset hne) hdec (hKk _ _ _ _ h)
        · cases h
      · cases h
  | iaload =>
    unfold sI at h
    dsimp only at h
    clear hCv hCs hRi hRa hRv
    obtain ⟨k, j, i, r, rfl, hN⟩ := RI_inv h; clear h; have h := hN; clear hN
    obtain ⟨t, n, hN, ht, hn, hl3⟩ := pArr_inv (ad := ad) (un := un) (cA := cA) h; clear h; have h := hN; clear hN
    rcases (show t = 0 ∨ t = 1 ∨ t = 2 ∨ t = 3 by omega) with rfl | rfl | rfl | rfl
    · obtain ⟨hin, hN⟩ := In_inv h; clear h; have h := hN; clear hN; exact g_iald hx hb hK (hn (by omega)) hin hdec (hKk _ _ _ _ h)
    · cases h
    · cases h
    · cases h
  | baload =>
    unfold sI at h
    dsimp only at h
    clear hCv hCs hRi hRa hRv
    obtain ⟨k, j, i, r, rfl, hN⟩ := RI_inv h; clear h; have h := hN; clear hN
    obtain ⟨t, n, hN, ht, hn, hl3⟩ := pArr_inv (ad := ad) (un := un) (cA := cA) h; clear h; have h := hN; clear hN
    rcases (show t = 0 ∨ t = 1 ∨ t = 2 ∨ t = 3 by omega) with rfl | rfl | rfl | rfl
    · cases h
    · obtain ⟨hin, hN⟩ := In_inv h; clear h; have h := hN; clear hN; exact g_bald hx hb hK (hn (by omega)) hin hdec (hKk _ _ _ _ h)
    · obtain ⟨hin, hN⟩ := In_inv h; clear h; have h := hN; clear hN; exact g_zald hx hb hK (hn (by omega)) hin hdec (hKk _ _ _ _ h)
    · cases h
  | laload =>
    unfold sI at h
    dsimp only at h
    clear hCv hCs hRi hRa hRv
    obtain ⟨k, j, i, r, rfl, hN⟩ := RI_inv h; clear h; have h := hN; clear hN
    obtain ⟨t, n, hN, ht, hn, hl3⟩ := pArr_inv (ad := ad) (un := un) (cA := cA) h; clear h; have h := hN; clear hN
    rcases (show t = 0 ∨ t = 1 ∨ t = 2 ∨ t = 3 by omega) with rfl | rfl | rfl | rfl
    · cases h
    · cases h
    · cases h
    · obtain ⟨rfl, hn3⟩ := hl3 rfl; obtain ⟨hin, hN⟩ := In_inv h; clear h; have h := hN; clear hN; exact g_lald hx hb hK hn3 hin hdec (hKk _ _ _ _ h)
  | iastore =>
    unfold sI at h
    dsimp only at h
    clear hCv hCs hRi hRa hRv
    obtain ⟨k, j, i, x, r, rfl, hN⟩ := RII_inv h; clear h; have h := hN; clear hN
    obtain ⟨t, n, hN, ht, hn, hl3⟩ := pArr_inv (ad := ad) (un := un) (cA := cA) h; clear h; have h := hN; clear hN
    rcases (show t = 0 ∨ t = 1 ∨ t = 2 ∨ t = 3 by omega) with rfl | rfl | rfl | rfl
    · obtain ⟨hin, hN⟩ := In_inv h; clear h; have h := hN; clear hN; exact g_iast hx hb hK hJ (hn (by omega)) hin hdec (hKk _ _ _ _ h)
    · cases h
    · cases h
    · cases h
  | bastore =>
    unfold sI at h
    dsimp only at h
    clear hCv hCs hRi hRa hRv
    obtain ⟨k, j, i, x, r, rfl, hN⟩ := RII_inv h; clear h; have h := hN; clear hN
    obtain ⟨t, n, hN, ht, hn, hl3⟩ := pArr_inv (ad := ad) (un := un) (cA := cA) h; clear h; have h := hN; clear hN
    rcases (show t = 0 ∨ t = 1 ∨ t = 2 ∨ t = 3 by omega) with rfl | rfl | rfl | rfl
    · cases h
    · obtain ⟨hin, hN⟩ := In_inv h; clear h; have h := hN; clear hN; exact g_bast hx hb hK hJ (hn (by omega)) hin hdec (hKk _ _ _ _ h)
    · obtain ⟨hin, hN⟩ := In_inv h; clear h; have h := hN; clear hN; exact g_zast hx hb hK hJ (hn (by omega)) hin hdec (hKk _ _ _ _ h)
    · cases h
  | lastore =>
    unfold sI at h
    dsimp only at h
    clear hCv hCs hRi hRa hRv
    obtain ⟨k, j, i, x, r, rfl, hN⟩ := RIL_inv h; clear h; have h := hN; clear hN
    obtain ⟨t, n, hN, ht, hn, hl3⟩ := pArr_inv (ad := ad) (un := un) (cA := cA) h; clear h; have h := hN; clear hN
    rcases (show t = 0 ∨ t = 1 ∨ t = 2 ∨ t = 3 by omega) with rfl | rfl | rfl | rfl
    · cases h
    · cases h
    · cases h
    · obtain ⟨rfl, hn3⟩ := hl3 rfl; obtain ⟨hin, hN⟩ := In_inv h; clear h; have h := hN; clear hN; exact g_last hx hb hK hJ hn3 hin hdec (hKk _ _ _ _ h)
  | arraylength =>
    unfold sI at h
    dsimp only at h
    clear hCv hCs hRi hRa hRv
    obtain ⟨k, j, r, rfl, hN⟩ := R1_inv h; clear h; have h := hN; clear hN
    obtain ⟨t, n, hN, ht, hn, hl3⟩ := pArr_inv (ad := ad) (un := un) (cA := cA) h; clear h; have h := hN; clear hN
    by_cases h3 : t = 3
    · obtain ⟨rfl, hn3⟩ := hl3 h3; exact g_alenl hx hb hK hn3 hdec (hKk _ _ _ _ h)
    · exact g_alen hx hb hK ht (hn h3) hdec (hKk _ _ _ _ h)
  | aaload =>
    unfold sI at h
    dsimp only at h
    clear hCv hCs hRi hRa hRv
    obtain ⟨k, j, i, r, rfl, hN⟩ := RI_inv h; clear h; have h := hN; clear hN
    split at h
    · next hq => obtain ⟨hin, hN⟩ := In_inv h; clear h; have h := hN; clear hN; obtain ⟨y, hf, hN⟩ := pick_inv h; clear h; have h := hN; clear hN; exact g_aald4 hx hb hK hq hin hf hdec (hKk _ _ _ _ h)
    · next hq => obtain ⟨hin, hN⟩ := In_inv h; clear h; have h := hN; clear hN; exact g_aald5 hx hb hK hq hin hdec (hKk _ _ _ _ h)
    · cases h
  | invokevirtual i =>
    unfold sI at h
    dsimp only at h
    cases c' with
    | zero =>
      cases b with
      | zero =>
        obtain ⟨k, j, r, rfl, hN⟩ := R1_inv h; clear h; have h := hN; clear hN
        obtain ⟨n, fs, t, hq, rfl, ht, hN⟩ := Txt_inv h; clear h; have h := hN; clear hN
        split at h
        · next hr => exact (hStr rfl).1 rfl L r σ k n fs t hq ht hr (hKk _ _ _ _ h)
        · cases h
      | succ b =>
        obtain ⟨k, j, i, r, rfl, hN⟩ := RI_inv h; clear h; have h := hN; clear hN
        obtain ⟨n, fs, t, hq, rfl, ht, hN⟩ := Txt_inv h; clear h; have h := hN; clear hN
        split at h
        · next hr => obtain ⟨hin, hN⟩ := In_inv h; clear h; have h := hN; clear hN; exact (hStr rfl).2 (Nat.succ_ne_zero _) L r σ k n fs t i hq ht hr hin (hKk _ _ _ _ h)
        · cases h
    | succ c' =>
      obtain ⟨as, r, hst, hl, hr, hN⟩ := Tk_inv h; clear h; have h := hN; clear hN
      obtain ⟨hrc, hN⟩ := Recv_inv h; clear h; have h := hN; clear hN
      obtain ⟨d', hd, hN⟩ := Dep_inv h; clear h; have h := hN; clear hN
      rw [List.append_nil] at hrc h
      exact hCv _ _ _ _ _ _ _ as.reverse r d' rfl (by rw [List.reverse_reverse]; exact hst) (by rw [List.length_reverse]; exact hl.1) (fun v hv => hl.2 v (List.mem_reverse.mp hv)) hr hrc hd h
  | invokestatic i =>
    unfold sI at h
    dsimp only at h
    cases c' with
    | zero =>
      obtain ⟨n, dp, d0, sp, s0, ns, nd, r, hst, hs, hd0, h1, h2, h3, h4, h5, hN⟩ := Copy_inv (ad := ad) (un := un) (cA := cA) h; clear h; have h := hN; clear hN
      subst hst
      split at h
      · next hr => exact g_copy hx hb hml hown (hts _ (hX rfl)) (hts _ hCo.1) (hts _ hCo.2.1) (hts _ hCo.2.2) hK hJ hs hd0 h1 h2 h3 h4 h5 hRo.1 hRo.2 hr hdec (hKk _ _ _ _ h)
      · cases h
    | succ c' =>
      obtain ⟨as, r, hst, hl, hr, hN⟩ := Tk_inv h; clear h; have h := hN; clear hN
      obtain ⟨d', hd, hN⟩ := Dep_inv h; clear h; have h := hN; clear hN
      rw [List.append_nil] at h
      exact hCs _ _ _ _ _ _ _ as.reverse r d' rfl (by rw [List.reverse_reverse]; exact hst) (by rw [List.length_reverse]; exact hl.1) (fun v hv => hl.2 v (List.mem_reverse.mp hv)) hr hd h
  | ireturn =>
    unfold sI at h
    dsimp only at h
    obtain ⟨x, hst, hN⟩ := E1_inv h; clear h; have h := hN; clear hN; obtain ⟨hr, hN⟩ := Ret_inv h; clear h; have h := hN; clear hN; exact hRi x rfl hst hr h
  | areturn =>
    unfold sI at h
    dsimp only at h
    obtain ⟨k, j, hst, hN⟩ := ER_inv h; clear h; have h := hN; clear hN; exact hRa (k, j) rfl hst h
  | return_ =>
    unfold sI at h
    dsimp only at h
    obtain ⟨hst, hN⟩ := E0_inv h; clear h; have h := hN; clear hN; exact hRv rfl hst h
  | _ => exact absurd (show (none : Option ρ) = some o from h) (fun z => by cases z)
end PG4
end
section
def pRoom (d : Nat) : Room := { frames := d + 8, cells := 0, slots := 0, locals := 64 * (d + 8) }
abbrev pInf : Type := MethodName × ByteArray × Nat × Option FieldType
/-- what a call needs of the tables -/
def pXcall (I : List pInf) (tg : List Cond) (own : String) (x : pX) : Prop := match x with
  | (ins, a, b, c, w, _, _) => match ins with
    | .invokevirtual i => c = 0 ∨ ∃ (y : MethodName) (bytes : ByteArray) (maxL : Nat) (ret : Option FieldType) (n : Nat), I[a]? = some (y, bytes, maxL, ret) ∧ Cond.methodLink own i y ∈ tg ∧ Cond.instanceMethod y ∈ tg ∧ Cond.selects y.cls y y ∈ tg ∧ Cond.initialized y.cls ∈ tg ∧ Cond.code y bytes maxL ret ∈ tg ∧ (y.cls ≠ "java/lang/invoke/MethodHandle" ∧ y.cls ≠ "java/lang/invoke/VarHandle") ∧ (parseMethodDescriptor y.desc).map (fun d => d.parameters.length) = some n ∧ b = n + 1 ∧ w ≠ 0 ∧ (∃ q, vwCl[w - 1]? = some q ∧ q.1 = y.cls) ∧ b ≤ maxL ∧ maxL ≤ 40
    | .invokestatic i => c = 0 ∨ ∃ (y : MethodName) (bytes : ByteArray) (maxL : Nat) (ret : Option FieldType), I[a]? = some (y, bytes, maxL, ret) ∧ Cond.methodLink own i y ∈ tg ∧ Cond.static y ∈ tg ∧ Cond.initialized y.cls ∈ tg ∧ Cond.code y bytes maxL ret ∈ tg ∧ (y.cls ≠ "java/lang/invoke/MethodHandle" ∧ y.cls ≠ "java/lang/invoke/VarHandle") ∧ (parseMethodDescriptor y.desc).map (fun d => d.parameters.length) = some b ∧ b ≤ maxL ∧ maxL ≤ 40
    | _ => True
def pXret (ret : Option FieldType) (x : pX) : Prop := match x.1 with
  | .ireturn => (x.2.1 = 0 → ret = some .int) ∧ (x.2.1 = 1 → ret = some .boolean) ∧ (x.2.1 = 2 → ret = some .char)
  | .areturn => ∃ t, ret = some t ∧ ((∃ n, t = .object n) ∨ ∃ q, t = .array q)
  | .return_ => ret = none
  | _ => True
def pPok (P : List pM) (I : List pInf) (tg : List Cond) (Xs : String → pX → Prop) : Prop := ∀ (me : Nat) (M : pM), P[me]? = some M → ∃ (y : MethodName) (bytes : ByteArray) (maxL : Nat) (ret : Option FieldType), I[me]? = some (y, bytes, maxL, ret) ∧ plainName y.cls = true ∧
  ∀ (pc : Nat) (x : pX), pFind pc M.1 = some x → decode bytes pc = .ok (x.1, pLen x.1 x.2.2.1) ∧ pXex y.cls tg maxL pc x ∧ pXcall I tg y.cls x ∧ pXret ret x ∧ Xs y.cls x
theorem pBk_inv {ρ : Type} {o : ρ} {q : Option pRes} {g : Nat} {F : List pV → pSt → Option ρ} (h : pBk q g F = some o) : ∃ v σ, q = some (v, σ) ∧ F v.toList σ = some o := by
  unfold pBk at h
  split at h
  · unfold pB0 at h
    split at h
    · exact ⟨_, _, rfl, h⟩
    · cases h
  · unfold pB1 at h
    split at h
    · exact ⟨_, _, rfl, h⟩
    · cases h
  · unfold pB2 at h
    split at h
    · split at h
      · next e => subst e; exact ⟨_, _, rfl, h⟩
      · cases h
    · cases h
theorem lv_args_get {ad : Nat → Nat → Nat} : ∀ (as : List pV), (∀ v ∈ as, ∀ y, v ≠ .inr (.inl y)) → ∀ (i j : Nat) (v : pV), as[j]? = some v → (i + j, rv ad v) ∈ lv_args i (as.map (rv ad))
  | [], _, _, _, _, h => by cases h
  | a :: t, hc, i, 0, v, h => by
    cases h
    exact List.mem_cons_self
  | a :: t, hc, i, j + 1, v, h => by
    have h1 : (rv ad a).category = 1 := rv_cat1 (hc a List.mem_cons_self)
    have h2 := lv_args_get (ad := ad) t (fun v hv => hc v (List.mem_cons_of_mem _ hv)) (i + 1) j v h
    show _ ∈ (i, rv ad a) :: lv_args (if (rv ad a).category = 2 then i + 2 else i + 1) (t.map (rv ad))
    rw [if_neg (by omega), show i + (j + 1) = i + 1 + j by omega]
    exact List.mem_cons_of_mem _ h2
theorem lg_sl_len {ad : Nat → Nat → Nat} : ∀ (as : List pV), (∀ v ∈ as, ∀ y, v ≠ .inr (.inl y)) → (lg_sl (as.map (rv ad))).length = as.length
  | [], _ => rfl
  | a :: t, hc => by
    have h1 : (rv ad a).category = 1 := rv_cat1 (hc a List.mem_cons_self)
    have h2 := lg_sl_len (ad := ad) t (fun v hv => hc v (List.mem_cons_of_mem _ hv))
    unfold lg_sl at h2 ⊢
    rw [List.map_cons, List.flatMap_cons, if_neg (by omega), List.length_append, h2]
    simp
    omega
theorem pL0_lv {ad : Nat → Nat → Nat} {as : List pV} {ls : Array Slot} {n : Nat} (hc : ∀ v ∈ as, ∀ y, v ≠ .inr (.inl y)) (h : lv_has ls n (lv_args 0 (as.map (rv ad)))) : pLv ad ls n (pL0 as) := by
  refine ⟨h.1, h.2.1, fun i v hi _ => ?_⟩
  have hv : as[i]? = some v := by
    unfold pL0 at hi
    by_cases hl : i < as.length
    · rw [List.getElem?_append_left (by simpa using hl), List.getElem?_map] at hi
      cases ha : as[i]? with
      | none => rw [ha] at hi; cases hi
      | some w => rw [ha] at hi; simp at hi; rw [hi]
    · rw [List.getElem?_append_right (by simpa using hl)] at hi
      have hm := List.mem_of_getElem? hi
      simp at hm
  have := h.2.2 _ (lv_args_get as hc 0 i v hv)
  simpa using this
section PRUN
variable (l : Launch) (S : List pSh) (P : List pM) (T : pTx) (I : List pInf) (tg : List Cond) (ad : Nat → Nat → Nat) (un : Nat) (cA : Nat → ClassId) (dg : va_G) (A : Nat → Prop) (Z : State → Prop) (Xs : String → pX → Prop)
def pPc (as : List pV) (σ : pSt) : Array Value → State → Prop := va_Pc (as.map (rv ad)) (fun U => pWo S ad un cA dg σ U.heap ∧ va_K dg vwCl (pTys cA) U ∧ Z U)
def pQc (v : Option pV) (σ : pSt) : Array Value → State → Outcome → State → Prop := fun _ st oc t => oc = .returned (v.map (rv ad)) ∧ pWo S ad un cA dg σ t.heap ∧ va_F A st t
/-- what holds of the whole program -/
def pAll : Prop := (∀ w ∈ tg, goodWord w = true) ∧ pClOk tg ∧ pShOk S ∧ pAp S ad un cA A ∧ (Cond.native arraycopyName ∈ tg ∧ Cond.static arraycopyName ∈ tg ∧ Cond.initialized "java/lang/System" ∈ tg) ∧ pPok P I tg Xs ∧
  (∀ s U : State, s.WarmedH U.vm → s.heap.size ≤ U.heap.size → (∀ q : Nat, q < s.heap.size → ¬ A q → U.heap[q]? = s.heap[q]?) → Z s → Z U) ∧ (∀ (U : State) (g : JFrame) (mk : MethodId) (a : Array Value), Z U → Z (U.calling g mk a)) ∧
  ∀ (p : Program) (e : Env) (d : Nat) (s : State) (m : MethodId) (args : Array Value) (below : List Frame) (meth : Method) (c : Code) (Q : State → Prop) (nL : Nat) (cc : ByteArray) (own : String) (pc : Nat) (x : pX), p.tables.exec = Jvm.exec → c.code = cc → c.maxLocals = nL → s.vm.findClass own = some m.cls → (∀ w ∈ tg, w.before args s = true) → va_K dg vwCl (pTys cA) s → Z s → decode cc pc = .ok (x.1, pLen x.1 x.2.2.1) → Xs own x → pStr p l e (pRoom d) s m args below meth c Q S ad un cA dg A s.heap nL cc T pc x
variable {l S P T I tg ad un cA dg A Z Xs}
theorem pPc_blind (hZc : ∀ (U : State) (g : JFrame) (mk : MethodId) (a : Array Value), Z U → Z (U.calling g mk a)) {as : List pV} {σ : pSt} : FrameBlind (pPc S ad un cA dg Z as σ) := by
  intro a U g mk q
  obtain ⟨q0, q1, q2, q3⟩ := q
  exact ⟨q0, q1, va_K.moved (u := U) (U := U.calling g mk a) (Vm.Alike.refl U.vm) q2, hZc U g mk a q3⟩
/-- behind a call -/
theorem g_call {p : Program} {e : Env} {R : Room} {s : State} {m : MethodId} {args : Array Value} {below : List Frame} {meth : Method} {c : Code} {Q : State → Prop} {H H0 : Heap} {locs : List Loc} {nL pc : Nat} {L : pL} {ls : Array Slot} {st0 : List Value} {r : List pV} {v : Option pV} {σ' : pSt} {a : Array Value}
    (hr : va_Run p l e R s m args below meth c H locs 0 0 0 0 (F0 m pc ls st0) (r.map (rv ad)) (pQc S ad un cA dg A v σ' a) A) (hS : va_S A H0 H locs) (hL : pLv ad ls nL L) (kk : pG p l e R s m args below meth c Q S ad un cA dg A H0 nL (pc + 3) L (v.toList ++ r) σ') : W p l e R s m args below meth c H locs 0 0 Q (F0 m pc ls st0) := by
  intro T2 hT X
  obtain ⟨v', st₀, t, T', LL, h0, X', hLL, e1, e2, ⟨hv, hw, hz, hk⟩, stp⟩ := hr T2 hT X
  rw [h0] at hz hk
  have hv : v' = v.map (rv ad) := by injection hv
  subst hv
  obtain ⟨t2, a1, b1⟩ := kk T'.heap (locs ++ LL) ls (by rw [e1]; exact hw) ⟨Nat.le_trans hS.1 (by rw [e1]; exact hz), fun q h1 h2 => by rw [e1, hk q (Nat.lt_of_lt_of_le h1 hS.1) h2]; exact hS.2.1 q h1 h2, fun q hq => by
      rcases List.mem_append.mp hq with h | h
      · exact hS.2.2 q h
      · exact hLL q h⟩ hL T' rfl X'
  refine ⟨t2, stp t2 ?_, b1⟩
  have e3 : (v.toList ++ r).map (rv ad) = (v.map (rv ad)).toList ++ r.map (rv ad) := by cases v <;> simp
  rw [e3] at a1
  exact a1
theorem pFrame (hA : pAll l S P T I tg ad un cA dg A Z Xs) : ∀ (n me d pc : Nat) (L : pL) (st : List pV) (σ : pSt) (res : pRes), pr S P T n me d pc L st σ = some res → ∀ (y : MethodName) (bytes : ByteArray) (maxL : Nat) (ret : Option FieldType), I[me]? = some (y, bytes, maxL, ret) →
    ∀ (p : Program) (e : Env) (s : State) (m : MethodId) (args : Array Value) (below : List Frame) (meth : Method) (c : Code), p.tables.exec = Jvm.exec → c.code = bytes → meth.sig.returnType = ret → c.maxLocals = maxL → s.vm.findClass y.cls = some m.cls → (∀ w ∈ tg, w.before args s = true) → meth.locks = false → va_K dg vwCl (pTys cA) s → Z s →
    pG p l e (pRoom d) s m args below meth c (MQ below (pQc S ad un cA dg A res.1 res.2) args s 0 0 A) S ad un cA dg A s.heap maxL pc L st σ := by
  obtain ⟨hG, hCl, hSh, hJ, hCo, hPk, hZ, hZc, hXs⟩ := id hA
  intro n
  induction n with
  | zero => intro me d pc L st σ res h; cases h
  | succ n ih =>
    intro me d pc L st σ res h y bytes maxL ret hI p e s m args below meth c hx hb hr hml hown hts hlocks hK hZs
    unfold pr at h
    cases hM : P[me]? with
    | none => rw [hM] at h; cases h
    | some M =>
      rw [hM] at h
      dsimp only at h
      unfold pSt1 at h
      obtain ⟨y2, bytes2, maxL2, ret2, hI2, hpl, hall⟩ := hPk me M hM
      rw [hI] at hI2
      cases hI2
      cases hfx : pFind pc M.1 with
      | none => rw [hfx] at h; cases h
      | some x =>
        rw [hfx] at h
        dsimp only at h
        obtain ⟨hdec, hX, hXc, hXr, hXx⟩ := hall pc x hfx
        have hgood : ∀ ws : List Cond, (∀ w ∈ ws, w ∈ tg) → GoodIn tg ws := fun ws hw w h => ⟨hw w h, good_of_word (hG w (hw w h))⟩
        have hmet : ∀ (me' d' : Nat) (as : List pV) (v : Option pV) (σ' : pSt), pr S P T n me' d' 0 (pL0 as) [] σ = some (v, σ') → ∀ (y' : MethodName) (bytes' : ByteArray) (maxL' : Nat) (ret' : Option FieldType), I[me']? = some (y', bytes', maxL', ret') → (∀ v ∈ as, ∀ y, v ≠ .inr (.inl y)) → as.length ≤ maxL' → Met l y' (Cond.code y' bytes' maxL' ret' :: tg) (pRoom d') (pPc S ad un cA dg Z as σ) (pQc S ad un cA dg A v σ') 0 0 A := by
          intro me' d' as v σ' hrun y' bytes' maxL' ret' hI' hcat hlen
          have hpl' : plainName y'.cls = true := by
            cases n with
            | zero => cases hrun
            | succ n =>
              unfold pr at hrun
              cases hM' : P[me']? with
              | none => rw [hM'] at hrun; cases hrun
              | some M' =>
                obtain ⟨y3, b3, m3, r3, hI3, hp3, -⟩ := hPk me' M' hM'
                rw [hI'] at hI3
                cases hI3
                exact hp3
          refine Met.ofW (cc := bytes') (maxL := maxL') (ret := ret') hpl' rfl ?_
          intro p2 e2 s2 m2 args2 below2 meth2 c2 s₁ B hml2 hv
          obtain ⟨rfl, hW, hK2, hZ2⟩ := hv
          have hts2 := atoms_spec (ws := Cond.code y' bytes' maxL' ret' :: tg) B.pre
          have hl := lv_entry (as.map (rv ad)) (n := maxL') (by rw [lg_sl_len as hcat]; exact hlen)
          rw [lg_entry_eq]
          exact ih me' d' 0 (pL0 as) [] σ (v, σ') hrun y' bytes' maxL' ret' hI' p2 e2 s2 m2 _ below2 meth2 c2 B.exec B.bytes B.returns hml2 (findClass_of_methodNamed B.named) (fun w hw => hts2 w (List.mem_cons_of_mem _ hw)) B.notSynchronized hK2 hZ2 s2.heap [] _ hW va_S.rf (pL0_lv hcat hl)
        have hnw : nativeFrameWords "java/lang/System" "arraycopy" 5 = 7 := by decide +kernel
        have hRo : 1 ≤ (pRoom d).frames ∧ 8 + (nativeFrameWords "java/lang/System" "arraycopy" 5 + 11) ≤ (pRoom d).locals := by
          rw [hnw]
          refine ⟨?_, ?_⟩
          · show 1 ≤ d + 8
            omega
          · show 8 + (7 + 11) ≤ 64 * (d + 8)
            omega
        refine sound_step (d := d) hx hb hml hts hCl hown hK hJ hSh hCo hRo hdec hX (hXs p e d s m args below meth c _ maxL bytes y.cls pc x hx hb hml hown hts hK hZs hdec hXx) ?_ ?_ ?_ ?_ ?_ ?_ h
        · intro pc' L' st' σ' hk H locs ls hW hS hL
          exact ih me d pc' _ st' σ' res hk y bytes maxL ret hI p e s m args below meth c hx hb hr hml hown hts hlocks hK hZs H locs ls hW hS (hL.mask (pCut_sub M pc' L'))
        · intro i a b c' w gk z as r d' hxe hst hlen hcat hrm hrc hd hC H locs ls hW hS hL
          subst hxe
          obtain ⟨v, σ', hrun, hk⟩ := pBk_inv hC
          rcases hXc with hc0 | ⟨y', bytes', maxL', ret', nn, hI', w1, w2, w3, w4, w5, w6, w7, w8, w9, ⟨qc, w10, w10b⟩, w11, w12⟩
          · exact absurd hc0 (Nat.succ_ne_zero _)
          · rcases hrc with hw0 | ⟨ci, k, nk, fs, t, rfl, rfl, hq⟩
            · exact absurd hw0 w9
            · have hM' := hmet a d' _ v σ' hrun y' bytes' maxL' ret' hI' hcat (by rw [hlen]; exact w11)
              have hrest := Rm_sum (ad := ad) hrm
              refine g_call (v := v) (σ' := σ') (L := L) (r := r) (va_runV (As := t.map (rv ad)) (b := ad k 0) (C := y'.cls) ⟨hx, hb, hml, hown, hts⟩ hM' (cwV nn hts (hgood _ (fun q hq2 => ?_)) rfl rfl rfl ⟨rfl, w6.1, w6.2, w7⟩ ⟨?_, ?_⟩) ⟨pPc_blind hZc, ?_, ?_⟩ rfl ?_ hL.1 ?_ (lv_room hrest) hdec ⟨Nat.le_refl _, Nat.le_refl _⟩) hS hL ?_
              · unfold wsV at hq2
                simp only [List.cons_append, List.nil_append, List.mem_cons] at hq2
                rcases hq2 with rfl | rfl | rfl | rfl | rfl | h5
                · exact w1
                · exact w2
                · exact w3
                · exact w4
                · exact w5
                · exact h5
              · show d' + 8 + 1 ≤ d + 8
                omega
              · show 8 + (maxL' + 11) + 64 * (d' + 8) ≤ 64 * (d + 8)
                omega
              · rw [Nat.add_sub_cancel] at w10
                have := va_recv (q0 := 0) hK (hW.sing (pCe_obj hq σ)) w10 rfl
                rw [w10b] at this
                exact this
              · intro U hU hWm
                refine ⟨rfl, by rw [hU]; exact hW, va_K.moved hWm.alike hK, hZ s U hWm (by rw [hU]; exact hS.1) (fun q h1 h2 => by rw [hU]; exact hS.2.1 q h1 h2) hZs⟩
              · rw [List.length_map]
                have := hlen
                rw [List.length_cons] at this
                omega
              · rw [hst]
                simp [rv]
              · intro H1 locs1 ls1 hW1 hS1 hL1
                exact ih me d _ _ _ σ' res hk y bytes maxL ret hI p e s m args below meth c hx hb hr hml hown hts hlocks hK hZs H1 locs1 ls1 hW1 hS1 (hL1.mask (pCut_sub M _ _))
        · intro i a b c' w gk z as r d' hxe hst hlen hcat hrm hd hC H locs ls hW hS hL
          subst hxe
          obtain ⟨v, σ', hrun, hk⟩ := pBk_inv hC
          rcases hXc with hc0 | ⟨y', bytes', maxL', ret', hI', w1, w2, w4, w5, w6, w7, w11, w12⟩
          · exact absurd hc0 (Nat.succ_ne_zero _)
          · have hM' := hmet a d' _ v σ' hrun y' bytes' maxL' ret' hI' hcat (by rw [hlen]; exact w11)
            have hrest := Rm_sum (ad := ad) hrm
            refine g_call (v := v) (σ' := σ') (L := L) (r := r) (va_runS (As := as.map (rv ad)) ⟨hx, hb, hml, hown, hts⟩ hM' (va_cwS b hts (hgood _ (fun q hq2 => ?_)) rfl rfl rfl ⟨w6.1, w6.2, w7⟩ ⟨?_, ?_⟩) ⟨pPc_blind hZc, ?_⟩ rfl ?_ hL.1 ?_ (lv_room hrest) hdec ⟨Nat.le_refl _, Nat.le_refl _⟩) hS hL ?_
            · unfold va_wsS at hq2
              simp only [List.cons_append, List.nil_append, List.mem_cons] at hq2
              rcases hq2 with rfl | rfl | rfl | rfl | h5
              · exact w1
              · exact w2
              · exact w4
              · exact w5
              · exact h5
            · show d' + 8 + 1 ≤ d + 8
              omega
            · show 8 + (maxL' + 11) + 64 * (d' + 8) ≤ 64 * (d + 8)
              omega
            · intro U hU hWm
              refine ⟨rfl, by rw [hU]; exact hW, va_K.moved hWm.alike hK, hZ s U hWm (by rw [hU]; exact hS.1) (fun q h1 h2 => by rw [hU]; exact hS.2.1 q h1 h2) hZs⟩
            · rw [List.length_map]
              exact hlen
            · rw [hst]
              simp
            · intro H1 locs1 ls1 hW1 hS1 hL1
              exact ih me d _ _ _ σ' res hk y bytes maxL ret hI p e s m args below meth c hx hb hr hml hown hts hlocks hK hZs H1 locs1 ls1 hW1 hS1 (hL1.mask (pCut_sub M _ _))
        · intro v hx1 hst hrt hR H locs ls hW hS hL
          cases hR
          subst hst
          obtain ⟨ins, a, b, c', w, gk, z⟩ := x
          dsimp only at hx1
          subst hx1
          obtain ⟨r0, r1, r2⟩ := hXr
          have hq : ∀ t : State, t.heap = H → s.WarmedH t.vm → pQc S ad un cA dg A (some (.inl v)) σ args s (.returned (some (.int v))) t := fun t ht _ => ⟨rfl, by rw [ht]; exact hW, hS.F ht⟩
          rcases hrt with e0 | ⟨e0, hv⟩ | ⟨e0, hv⟩
          · exact W.zret (ty := .int) hx hb (by rw [hr]; exact r0 e0) rfl hq hS.2.2 hdec hlocks
          · exact W.zret (ty := .boolean) hx hb (by rw [hr]; exact r1 e0) (by show Value.int (v &&& 1) = _; rw [hv]) hq hS.2.2 hdec hlocks
          · exact W.zret (ty := .char) hx hb (by rw [hr]; exact r2 e0) (char_nar hv).1 hq hS.2.2 hdec hlocks
        · intro q hx1 hst hR H locs ls hW hS hL
          cases hR
          subst hst
          obtain ⟨ins, a, b, c', w, gk, z⟩ := x
          dsimp only at hx1
          subst hx1
          obtain ⟨t0, ht0, hrf⟩ := hXr
          exact W.aret (rt := t0) hx hb (by rw [hr]; exact ht0) hrf (Or.inr ⟨_, rfl⟩) (fun t ht _ => ⟨rfl, by rw [ht]; exact hW, hS.F ht⟩) hS.2.2 hdec hlocks
        · intro hx1 hst hR H locs ls hW hS hL
          cases hR
          subst hst
          obtain ⟨ins, a, b, c', w, gk, z⟩ := x
          dsimp only at hx1
          subst hx1
          exact W.vret hx hb (by rw [hr]; exact hXr) (fun t ht _ => ⟨rfl, by rw [ht]; exact hW, hS.F ht⟩) hS.2.2 hdec hlocks
/-- A METHOD'S CONTRACT out of its pure run -/
theorem pMet (hA : pAll l S P T I tg ad un cA dg A Z Xs) {me d : Nat} {as : List pV} {σ σ' : pSt} {v : Option pV} (h : ev S P T me d 0 (pL0 as) [] σ = some (v, σ')) {y : MethodName} {bytes : ByteArray} {maxL : Nat} {ret : Option FieldType} (hI : I[me]? = some (y, bytes, maxL, ret)) (hp : plainName y.cls = true) (hcat : ∀ v ∈ as, ∀ y, v ≠ .inr (.inl y)) (hlen : as.length ≤ maxL) : Met l y (Cond.code y bytes maxL ret :: tg) (pRoom d) (pPc S ad un cA dg Z as σ) (pQc S ad un cA dg A v σ') 0 0 A := by
  obtain ⟨n, hrun⟩ := (ev_iff S P T).mp h
  refine Met.ofW (cc := bytes) (maxL := maxL) (ret := ret) hp rfl ?_
  intro p2 e2 s2 m2 args2 below2 meth2 c2 s₁ B hml2 hv
  obtain ⟨rfl, hW, hK2, hZ2⟩ := hv
  have hts2 := atoms_spec (ws := Cond.code y bytes maxL ret :: tg) B.pre
  have hl := lv_entry (as.map (rv ad)) (n := maxL) (by rw [lg_sl_len as hcat]; exact hlen)
  rw [lg_entry_eq]
  exact pFrame hA n me d 0 (pL0 as) [] σ (v, σ') hrun y bytes maxL ret hI p2 e2 s2 m2 _ below2 meth2 c2 B.exec B.bytes B.returns hml2 (findClass_of_methodNamed B.named) (fun w hw => hts2 w (List.mem_cons_of_mem _ hw)) B.notSynchronized hK2 hZ2 s2.heap [] _ hW va_S.rf (pL0_lv hcat hl)
end PRUN
end

section
-- ===== PART A: goes FIRST, ahead of the names: the tables' words, and 'selects' of the private methods out of them =====
/-- a private method of a class that the tables say can be made, by its rows of tables_1 -/
def lw_okq (q : MethodName × Nat) : Prop := (q.1.cls ≠ "java/lang/invoke/MethodHandle" ∧ q.1.cls ≠ "java/lang/invoke/VarHandle") ∧ Cond.instantiable q.1.cls q.2 ∈ tables_1 ∧ Cond.privateMethod q.1 ∈ tables_1 ∧ Cond.instanceMethod q.1 ∈ tables_1
theorem lw_p0 : lw_okq (⟨"LoserKeepsTheBoard$Reader", "next", "()V"⟩, 9) := ⟨⟨by decide +kernel, by decide +kernel⟩, List.mem_of_getElem? (i := 47) (by decide +kernel), List.mem_of_getElem? (i := 144) (by decide +kernel), List.mem_of_getElem? (i := 145) (by decide +kernel)⟩
theorem lw_p1 : lw_okq (⟨"LoserKeepsTheBoard$Reader", "byteAt", "(I)I"⟩, 9) := ⟨⟨by decide +kernel, by decide +kernel⟩, List.mem_of_getElem? (i := 47) (by decide +kernel), List.mem_of_getElem? (i := 148) (by decide +kernel), List.mem_of_getElem? (i := 149) (by decide +kernel)⟩
theorem lw_p2 : lw_okq (⟨"LoserKeepsTheBoard$Reader", "readWord", "()V"⟩, 9) := ⟨⟨by decide +kernel, by decide +kernel⟩, List.mem_of_getElem? (i := 47) (by decide +kernel), List.mem_of_getElem? (i := 155) (by decide +kernel), List.mem_of_getElem? (i := 156) (by decide +kernel)⟩
theorem lw_p3 : lw_okq (⟨"LoserKeepsTheBoard$Reader", "stands", "(Ljava/lang/String;)Z"⟩, 9) := ⟨⟨by decide +kernel, by decide +kernel⟩, List.mem_of_getElem? (i := 47) (by decide +kernel), List.mem_of_getElem? (i := 160) (by decide +kernel), List.mem_of_getElem? (i := 161) (by decide +kernel)⟩
theorem lw_p4 : lw_okq (⟨"LoserKeepsTheBoard$Reader", "readNumber", "()V"⟩, 9) := ⟨⟨by decide +kernel, by decide +kernel⟩, List.mem_of_getElem? (i := 47) (by decide +kernel), List.mem_of_getElem? (i := 178) (by decide +kernel), List.mem_of_getElem? (i := 179) (by decide +kernel)⟩
theorem lw_p5 : lw_okq (⟨"LoserKeepsTheBoard$Reader", "expect", "(I)V"⟩, 9) := ⟨⟨by decide +kernel, by decide +kernel⟩, List.mem_of_getElem? (i := 47) (by decide +kernel), List.mem_of_getElem? (i := 185) (by decide +kernel), List.mem_of_getElem? (i := 186) (by decide +kernel)⟩
theorem lw_p6 : lw_okq (⟨"LoserKeepsTheBoard$Reader", "fails", "()V"⟩, 9) := ⟨⟨by decide +kernel, by decide +kernel⟩, List.mem_of_getElem? (i := 47) (by decide +kernel), List.mem_of_getElem? (i := 189) (by decide +kernel), List.mem_of_getElem? (i := 190) (by decide +kernel)⟩
theorem lw_p7 : lw_okq (⟨"LoserKeepsTheBoard$Reader", "readEither", "(I)V"⟩, 9) := ⟨⟨by decide +kernel, by decide +kernel⟩, List.mem_of_getElem? (i := 47) (by decide +kernel), List.mem_of_getElem? (i := 193) (by decide +kernel), List.mem_of_getElem? (i := 194) (by decide +kernel)⟩
theorem lw_p8 : lw_okq (⟨"LoserKeepsTheBoard$Reader", "readBoth", "(I)V"⟩, 9) := ⟨⟨by decide +kernel, by decide +kernel⟩, List.mem_of_getElem? (i := 47) (by decide +kernel), List.mem_of_getElem? (i := 197) (by decide +kernel), List.mem_of_getElem? (i := 198) (by decide +kernel)⟩
theorem lw_p9 : lw_okq (⟨"LoserKeepsTheBoard$Reader", "readNot", "(I)V"⟩, 9) := ⟨⟨by decide +kernel, by decide +kernel⟩, List.mem_of_getElem? (i := 47) (by decide +kernel), List.mem_of_getElem? (i := 201) (by decide +kernel), List.mem_of_getElem? (i := 202) (by decide +kernel)⟩
theorem lw_p10 : lw_okq (⟨"LoserKeepsTheBoard$Reader", "opens", "(I)Z"⟩, 9) := ⟨⟨by decide +kernel, by decide +kernel⟩, List.mem_of_getElem? (i := 47) (by decide +kernel), List.mem_of_getElem? (i := 205) (by decide +kernel), List.mem_of_getElem? (i := 206) (by decide +kernel)⟩
theorem lw_p11 : lw_okq (⟨"LoserKeepsTheBoard$Reader", "emit", "(I)V"⟩, 9) := ⟨⟨by decide +kernel, by decide +kernel⟩, List.mem_of_getElem? (i := 47) (by decide +kernel), List.mem_of_getElem? (i := 209) (by decide +kernel), List.mem_of_getElem? (i := 210) (by decide +kernel)⟩
theorem lw_p12 : lw_okq (⟨"LoserKeepsTheBoard$Reader", "readSum", "(I)V"⟩, 9) := ⟨⟨by decide +kernel, by decide +kernel⟩, List.mem_of_getElem? (i := 47) (by decide +kernel), List.mem_of_getElem? (i := 213) (by decide +kernel), List.mem_of_getElem? (i := 214) (by decide +kernel)⟩
theorem lw_p13 : lw_okq (⟨"LoserKeepsTheBoard$Reader", "readTerm", "(I)V"⟩, 9) := ⟨⟨by decide +kernel, by decide +kernel⟩, List.mem_of_getElem? (i := 47) (by decide +kernel), List.mem_of_getElem? (i := 217) (by decide +kernel), List.mem_of_getElem? (i := 218) (by decide +kernel)⟩
theorem lw_p14 : lw_okq (⟨"LoserKeepsTheBoard$Reader", "readOne", "(I)V"⟩, 9) := ⟨⟨by decide +kernel, by decide +kernel⟩, List.mem_of_getElem? (i := 47) (by decide +kernel), List.mem_of_getElem? (i := 221) (by decide +kernel), List.mem_of_getElem? (i := 222) (by decide +kernel)⟩
theorem lw_p15 : lw_okq (⟨"LoserKeepsTheBoard$Reader", "madeCode", "()[I"⟩, 9) := ⟨⟨by decide +kernel, by decide +kernel⟩, List.mem_of_getElem? (i := 47) (by decide +kernel), List.mem_of_getElem? (i := 227) (by decide +kernel), List.mem_of_getElem? (i := 228) (by decide +kernel)⟩
def lw_privs_1 : List (MethodName × Nat) := [(⟨"LoserKeepsTheBoard$Reader", "next", "()V"⟩, 9), (⟨"LoserKeepsTheBoard$Reader", "byteAt", "(I)I"⟩, 9), (⟨"LoserKeepsTheBoard$Reader", "readWord", "()V"⟩, 9), (⟨"LoserKeepsTheBoard$Reader", "stands", "(Ljava/lang/String;)Z"⟩, 9), (⟨"LoserKeepsTheBoard$Reader", "readNumber", "()V"⟩, 9), (⟨"LoserKeepsTheBoard$Reader", "expect", "(I)V"⟩, 9), (⟨"LoserKeepsTheBoard$Reader", "fails", "()V"⟩, 9), (⟨"LoserKeepsTheBoard$Reader", "readEither", "(I)V"⟩, 9), (⟨"LoserKeepsTheBoard$Reader", "readBoth", "(I)V"⟩, 9), (⟨"LoserKeepsTheBoard$Reader", "readNot", "(I)V"⟩, 9), (⟨"LoserKeepsTheBoard$Reader", "opens", "(I)Z"⟩, 9), (⟨"LoserKeepsTheBoard$Reader", "emit", "(I)V"⟩, 9), (⟨"LoserKeepsTheBoard$Reader", "readSum", "(I)V"⟩, 9), (⟨"LoserKeepsTheBoard$Reader", "readTerm", "(I)V"⟩, 9), (⟨"LoserKeepsTheBoard$Reader", "readOne", "(I)V"⟩, 9), (⟨"LoserKeepsTheBoard$Reader", "madeCode", "()[I"⟩, 9)]
theorem lw_r1 : ∀ q ∈ lw_privs_1, lw_okq q := List.forall_mem_cons.mpr ⟨lw_p0, List.forall_mem_cons.mpr ⟨lw_p1, List.forall_mem_cons.mpr ⟨lw_p2, List.forall_mem_cons.mpr ⟨lw_p3, List.forall_mem_cons.mpr ⟨lw_p4, List.forall_mem_cons.mpr ⟨lw_p5, List.forall_mem_cons.mpr ⟨lw_p6, List.forall_mem_cons.mpr ⟨lw_p7, List.forall_mem_cons.mpr ⟨lw_p8, List.forall_mem_cons.mpr ⟨lw_p9, List.forall_mem_cons.mpr ⟨lw_p10, List.forall_mem_cons.mpr ⟨lw_p11, List.forall_mem_cons.mpr ⟨lw_p12, List.forall_mem_cons.mpr ⟨lw_p13, List.forall_mem_cons.mpr ⟨lw_p14, List.forall_mem_cons.mpr ⟨lw_p15, fun _ h => absurd h List.not_mem_nil⟩⟩⟩⟩⟩⟩⟩⟩⟩⟩⟩⟩⟩⟩⟩⟩
theorem lw_p16 : lw_okq (⟨"LoserKeepsTheBoard", "setRound", "(I)I"⟩, 10) := ⟨⟨by decide +kernel, by decide +kernel⟩, List.mem_of_getElem? (i := 15) (by decide +kernel), List.mem_of_getElem? (i := 352) (by decide +kernel), List.mem_of_getElem? (i := 353) (by decide +kernel)⟩
theorem lw_p17 : lw_okq (⟨"LoserKeepsTheBoard", "setPlace", "(II)I"⟩, 10) := ⟨⟨by decide +kernel, by decide +kernel⟩, List.mem_of_getElem? (i := 15) (by decide +kernel), List.mem_of_getElem? (i := 359) (by decide +kernel), List.mem_of_getElem? (i := 360) (by decide +kernel)⟩
theorem lw_p18 : lw_okq (⟨"LoserKeepsTheBoard", "setOf", "([IIII)I"⟩, 10) := ⟨⟨by decide +kernel, by decide +kernel⟩, List.mem_of_getElem? (i := 15) (by decide +kernel), List.mem_of_getElem? (i := 376) (by decide +kernel), List.mem_of_getElem? (i := 377) (by decide +kernel)⟩
theorem lw_p19 : lw_okq (⟨"LoserKeepsTheBoard$Club", "nameValues", "(II)V"⟩, 10) := ⟨⟨by decide +kernel, by decide +kernel⟩, List.mem_of_getElem? (i := 250) (by decide +kernel), List.mem_of_getElem? (i := 416) (by decide +kernel), List.mem_of_getElem? (i := 417) (by decide +kernel)⟩
theorem lw_p20 : lw_okq (⟨"LoserKeepsTheBoard$Club", "throwsBy", "(ZII)Z"⟩, 10) := ⟨⟨by decide +kernel, by decide +kernel⟩, List.mem_of_getElem? (i := 250) (by decide +kernel), List.mem_of_getElem? (i := 435) (by decide +kernel), List.mem_of_getElem? (i := 436) (by decide +kernel)⟩
theorem lw_p21 : lw_okq (⟨"LoserKeepsTheBoard$Club", "playsBy", "(II)I"⟩, 10) := ⟨⟨by decide +kernel, by decide +kernel⟩, List.mem_of_getElem? (i := 250) (by decide +kernel), List.mem_of_getElem? (i := 440) (by decide +kernel), List.mem_of_getElem? (i := 441) (by decide +kernel)⟩
theorem lw_p22 : lw_okq (⟨"LoserKeepsTheBoard$Club", "tiresBy", "(IIZ)I"⟩, 10) := ⟨⟨by decide +kernel, by decide +kernel⟩, List.mem_of_getElem? (i := 250) (by decide +kernel), List.mem_of_getElem? (i := 448) (by decide +kernel), List.mem_of_getElem? (i := 449) (by decide +kernel)⟩
theorem lw_p23 : lw_okq (⟨"LoserKeepsTheBoard", "manyBehindGame", "(II)I"⟩, 10) := ⟨⟨by decide +kernel, by decide +kernel⟩, List.mem_of_getElem? (i := 15) (by decide +kernel), List.mem_of_getElem? (i := 457) (by decide +kernel), List.mem_of_getElem? (i := 458) (by decide +kernel)⟩
theorem lw_p24 : lw_okq (⟨"LoserKeepsTheBoard", "think", "()LLoserKeepsTheBoard$Club;"⟩, 10) := ⟨⟨by decide +kernel, by decide +kernel⟩, List.mem_of_getElem? (i := 15) (by decide +kernel), List.mem_of_getElem? (i := 461) (by decide +kernel), List.mem_of_getElem? (i := 462) (by decide +kernel)⟩
theorem lw_p25 : lw_okq (⟨"LoserKeepsTheBoard$Club", "loses", "(II)V"⟩, 10) := ⟨⟨by decide +kernel, by decide +kernel⟩, List.mem_of_getElem? (i := 250) (by decide +kernel), List.mem_of_getElem? (i := 475) (by decide +kernel), List.mem_of_getElem? (i := 476) (by decide +kernel)⟩
theorem lw_p26 : lw_okq (⟨"LoserKeepsTheBoard", "sheetAt", "(I)LLoserKeepsTheBoard$Sheet;"⟩, 10) := ⟨⟨by decide +kernel, by decide +kernel⟩, List.mem_of_getElem? (i := 15) (by decide +kernel), List.mem_of_getElem? (i := 500) (by decide +kernel), List.mem_of_getElem? (i := 501) (by decide +kernel)⟩
theorem lw_p27 : lw_okq (⟨"LoserKeepsTheBoard", "tellsGames", "(LLoserKeepsTheBoard$Sheet;)Z"⟩, 10) := ⟨⟨by decide +kernel, by decide +kernel⟩, List.mem_of_getElem? (i := 15) (by decide +kernel), List.mem_of_getElem? (i := 508) (by decide +kernel), List.mem_of_getElem? (i := 509) (by decide +kernel)⟩
theorem lw_p28 : lw_okq (⟨"LoserKeepsTheBoard", "keptApart", "()I"⟩, 10) := ⟨⟨by decide +kernel, by decide +kernel⟩, List.mem_of_getElem? (i := 15) (by decide +kernel), List.mem_of_getElem? (i := 536) (by decide +kernel), List.mem_of_getElem? (i := 537) (by decide +kernel)⟩
theorem lw_p29 : lw_okq (⟨"LoserKeepsTheBoard", "robinWithout", "(I)LLoserKeepsTheBoard$Club;"⟩, 10) := ⟨⟨by decide +kernel, by decide +kernel⟩, List.mem_of_getElem? (i := 15) (by decide +kernel), List.mem_of_getElem? (i := 540) (by decide +kernel), List.mem_of_getElem? (i := 541) (by decide +kernel)⟩
theorem lw_p30 : lw_okq (⟨"LoserKeepsTheBoard", "rings", "()I"⟩, 10) := ⟨⟨by decide +kernel, by decide +kernel⟩, List.mem_of_getElem? (i := 15) (by decide +kernel), List.mem_of_getElem? (i := 544) (by decide +kernel), List.mem_of_getElem? (i := 545) (by decide +kernel)⟩
theorem lw_p31 : lw_okq (⟨"LoserKeepsTheBoard", "isRing", "(III)Z"⟩, 10) := ⟨⟨by decide +kernel, by decide +kernel⟩, List.mem_of_getElem? (i := 15) (by decide +kernel), List.mem_of_getElem? (i := 548) (by decide +kernel), List.mem_of_getElem? (i := 549) (by decide +kernel)⟩
def lw_privs_2 : List (MethodName × Nat) := [(⟨"LoserKeepsTheBoard", "setRound", "(I)I"⟩, 10), (⟨"LoserKeepsTheBoard", "setPlace", "(II)I"⟩, 10), (⟨"LoserKeepsTheBoard", "setOf", "([IIII)I"⟩, 10), (⟨"LoserKeepsTheBoard$Club", "nameValues", "(II)V"⟩, 10), (⟨"LoserKeepsTheBoard$Club", "throwsBy", "(ZII)Z"⟩, 10), (⟨"LoserKeepsTheBoard$Club", "playsBy", "(II)I"⟩, 10), (⟨"LoserKeepsTheBoard$Club", "tiresBy", "(IIZ)I"⟩, 10), (⟨"LoserKeepsTheBoard", "manyBehindGame", "(II)I"⟩, 10), (⟨"LoserKeepsTheBoard", "think", "()LLoserKeepsTheBoard$Club;"⟩, 10), (⟨"LoserKeepsTheBoard$Club", "loses", "(II)V"⟩, 10), (⟨"LoserKeepsTheBoard", "sheetAt", "(I)LLoserKeepsTheBoard$Sheet;"⟩, 10), (⟨"LoserKeepsTheBoard", "tellsGames", "(LLoserKeepsTheBoard$Sheet;)Z"⟩, 10), (⟨"LoserKeepsTheBoard", "keptApart", "()I"⟩, 10), (⟨"LoserKeepsTheBoard", "robinWithout", "(I)LLoserKeepsTheBoard$Club;"⟩, 10), (⟨"LoserKeepsTheBoard", "rings", "()I"⟩, 10), (⟨"LoserKeepsTheBoard", "isRing", "(III)Z"⟩, 10)]
theorem lw_r2 : ∀ q ∈ lw_privs_2, lw_okq q := List.forall_mem_cons.mpr ⟨lw_p16, List.forall_mem_cons.mpr ⟨lw_p17, List.forall_mem_cons.mpr ⟨lw_p18, List.forall_mem_cons.mpr ⟨lw_p19, List.forall_mem_cons.mpr ⟨lw_p20, List.forall_mem_cons.mpr ⟨lw_p21, List.forall_mem_cons.mpr ⟨lw_p22, List.forall_mem_cons.mpr ⟨lw_p23, List.forall_mem_cons.mpr ⟨lw_p24, List.forall_mem_cons.mpr ⟨lw_p25, List.forall_mem_cons.mpr ⟨lw_p26, List.forall_mem_cons.mpr ⟨lw_p27, List.forall_mem_cons.mpr ⟨lw_p28, List.forall_mem_cons.mpr ⟨lw_p29, List.forall_mem_cons.mpr ⟨lw_p30, List.forall_mem_cons.mpr ⟨lw_p31, fun _ h => absurd h List.not_mem_nil⟩⟩⟩⟩⟩⟩⟩⟩⟩⟩⟩⟩⟩⟩⟩⟩
theorem lw_p32 : lw_okq (⟨"LoserKeepsTheBoard", "tryOrders", "(LLoserKeepsTheBoard$Club;IIII)V"⟩, 10) := ⟨⟨by decide +kernel, by decide +kernel⟩, List.mem_of_getElem? (i := 15) (by decide +kernel), List.mem_of_getElem? (i := 560) (by decide +kernel), List.mem_of_getElem? (i := 561) (by decide +kernel)⟩
theorem lw_p33 : lw_okq (⟨"LoserKeepsTheBoard", "thinkOn", "(LLoserKeepsTheBoard$Club;I)LLoserKeepsTheBoard$Club;"⟩, 10) := ⟨⟨by decide +kernel, by decide +kernel⟩, List.mem_of_getElem? (i := 15) (by decide +kernel), List.mem_of_getElem? (i := 564) (by decide +kernel), List.mem_of_getElem? (i := 565) (by decide +kernel)⟩
theorem lw_p34 : lw_okq (⟨"LoserKeepsTheBoard", "whoCouldHaveAll", "(LLoserKeepsTheBoard$Club;II)I"⟩, 10) := ⟨⟨by decide +kernel, by decide +kernel⟩, List.mem_of_getElem? (i := 15) (by decide +kernel), List.mem_of_getElem? (i := 572) (by decide +kernel), List.mem_of_getElem? (i := 573) (by decide +kernel)⟩
theorem lw_p35 : lw_okq (⟨"LoserKeepsTheBoard", "howManyFit", "(LLoserKeepsTheBoard$Sheet;II)I"⟩, 10) := ⟨⟨by decide +kernel, by decide +kernel⟩, List.mem_of_getElem? (i := 15) (by decide +kernel), List.mem_of_getElem? (i := 591) (by decide +kernel), List.mem_of_getElem? (i := 592) (by decide +kernel)⟩
theorem lw_p36 : lw_okq (⟨"LoserKeepsTheBoard", "fits", "(LLoserKeepsTheBoard$Sheet;III)Z"⟩, 10) := ⟨⟨by decide +kernel, by decide +kernel⟩, List.mem_of_getElem? (i := 15) (by decide +kernel), List.mem_of_getElem? (i := 595) (by decide +kernel), List.mem_of_getElem? (i := 596) (by decide +kernel)⟩
theorem lw_p37 : lw_okq (⟨"LoserKeepsTheBoard", "leastThatFits", "(LLoserKeepsTheBoard$Sheet;II)I"⟩, 10) := ⟨⟨by decide +kernel, by decide +kernel⟩, List.mem_of_getElem? (i := 15) (by decide +kernel), List.mem_of_getElem? (i := 599) (by decide +kernel), List.mem_of_getElem? (i := 600) (by decide +kernel)⟩
theorem lw_p38 : lw_okq (⟨"LoserKeepsTheBoard", "playersThatFit", "(LLoserKeepsTheBoard$Sheet;)I"⟩, 10) := ⟨⟨by decide +kernel, by decide +kernel⟩, List.mem_of_getElem? (i := 15) (by decide +kernel), List.mem_of_getElem? (i := 603) (by decide +kernel), List.mem_of_getElem? (i := 604) (by decide +kernel)⟩
theorem lw_p39 : lw_okq (⟨"LoserKeepsTheBoard", "bitsThatFit", "(LLoserKeepsTheBoard$Sheet;II)I"⟩, 10) := ⟨⟨by decide +kernel, by decide +kernel⟩, List.mem_of_getElem? (i := 15) (by decide +kernel), List.mem_of_getElem? (i := 607) (by decide +kernel), List.mem_of_getElem? (i := 608) (by decide +kernel)⟩
theorem lw_p40 : lw_okq (⟨"LoserKeepsTheBoard", "hasBehindDrawn", "(III)I"⟩, 10) := ⟨⟨by decide +kernel, by decide +kernel⟩, List.mem_of_getElem? (i := 15) (by decide +kernel), List.mem_of_getElem? (i := 628) (by decide +kernel), List.mem_of_getElem? (i := 629) (by decide +kernel)⟩
theorem lw_p41 : lw_okq (⟨"LoserKeepsTheBoardModel", "spell", "(IIIIIIIII)V"⟩, 41) := ⟨⟨by decide +kernel, by decide +kernel⟩, List.mem_of_getElem? (i := 687) (by decide +kernel), List.mem_of_getElem? (i := 693) (by decide +kernel), List.mem_of_getElem? (i := 694) (by decide +kernel)⟩
theorem lw_p42 : lw_okq (⟨"LoserKeepsTheBoardModel", "isOf", "(II)Z"⟩, 41) := ⟨⟨by decide +kernel, by decide +kernel⟩, List.mem_of_getElem? (i := 687) (by decide +kernel), List.mem_of_getElem? (i := 829) (by decide +kernel), List.mem_of_getElem? (i := 830) (by decide +kernel)⟩
theorem lw_p43 : lw_okq (⟨"LoserKeepsTheBoardModel", "isOne", "(I)Z"⟩, 41) := ⟨⟨by decide +kernel, by decide +kernel⟩, List.mem_of_getElem? (i := 687) (by decide +kernel), List.mem_of_getElem? (i := 837) (by decide +kernel), List.mem_of_getElem? (i := 838) (by decide +kernel)⟩
theorem lw_p44 : lw_okq (⟨"LoserKeepsTheBoardModel", "isValue", "(II)Z"⟩, 41) := ⟨⟨by decide +kernel, by decide +kernel⟩, List.mem_of_getElem? (i := 687) (by decide +kernel), List.mem_of_getElem? (i := 841) (by decide +kernel), List.mem_of_getElem? (i := 842) (by decide +kernel)⟩
theorem lw_p45 : lw_okq (⟨"LoserKeepsTheBoardModel", "whereIs", "(I)I"⟩, 41) := ⟨⟨by decide +kernel, by decide +kernel⟩, List.mem_of_getElem? (i := 687) (by decide +kernel), List.mem_of_getElem? (i := 852) (by decide +kernel), List.mem_of_getElem? (i := 853) (by decide +kernel)⟩
theorem lw_p46 : lw_okq (⟨"LoserKeepsTheBoardModel", "has", "(I)I"⟩, 41) := ⟨⟨by decide +kernel, by decide +kernel⟩, List.mem_of_getElem? (i := 687) (by decide +kernel), List.mem_of_getElem? (i := 856) (by decide +kernel), List.mem_of_getElem? (i := 857) (by decide +kernel)⟩
theorem lw_p47 : lw_okq (⟨"LoserKeepsTheBoardModel", "hasMany", "(I)I"⟩, 41) := ⟨⟨by decide +kernel, by decide +kernel⟩, List.mem_of_getElem? (i := 687) (by decide +kernel), List.mem_of_getElem? (i := 860) (by decide +kernel), List.mem_of_getElem? (i := 861) (by decide +kernel)⟩
def lw_privs_3 : List (MethodName × Nat) := [(⟨"LoserKeepsTheBoard", "tryOrders", "(LLoserKeepsTheBoard$Club;IIII)V"⟩, 10), (⟨"LoserKeepsTheBoard", "thinkOn", "(LLoserKeepsTheBoard$Club;I)LLoserKeepsTheBoard$Club;"⟩, 10), (⟨"LoserKeepsTheBoard", "whoCouldHaveAll", "(LLoserKeepsTheBoard$Club;II)I"⟩, 10), (⟨"LoserKeepsTheBoard", "howManyFit", "(LLoserKeepsTheBoard$Sheet;II)I"⟩, 10), (⟨"LoserKeepsTheBoard", "fits", "(LLoserKeepsTheBoard$Sheet;III)Z"⟩, 10), (⟨"LoserKeepsTheBoard", "leastThatFits", "(LLoserKeepsTheBoard$Sheet;II)I"⟩, 10), (⟨"LoserKeepsTheBoard", "playersThatFit", "(LLoserKeepsTheBoard$Sheet;)I"⟩, 10), (⟨"LoserKeepsTheBoard", "bitsThatFit", "(LLoserKeepsTheBoard$Sheet;II)I"⟩, 10), (⟨"LoserKeepsTheBoard", "hasBehindDrawn", "(III)I"⟩, 10), (⟨"LoserKeepsTheBoardModel", "spell", "(IIIIIIIII)V"⟩, 41), (⟨"LoserKeepsTheBoardModel", "isOf", "(II)Z"⟩, 41), (⟨"LoserKeepsTheBoardModel", "isOne", "(I)Z"⟩, 41), (⟨"LoserKeepsTheBoardModel", "isValue", "(II)Z"⟩, 41), (⟨"LoserKeepsTheBoardModel", "whereIs", "(I)I"⟩, 41), (⟨"LoserKeepsTheBoardModel", "has", "(I)I"⟩, 41), (⟨"LoserKeepsTheBoardModel", "hasMany", "(I)I"⟩, 41)]
theorem lw_r3 : ∀ q ∈ lw_privs_3, lw_okq q := List.forall_mem_cons.mpr ⟨lw_p32, List.forall_mem_cons.mpr ⟨lw_p33, List.forall_mem_cons.mpr ⟨lw_p34, List.forall_mem_cons.mpr ⟨lw_p35, List.forall_mem_cons.mpr ⟨lw_p36, List.forall_mem_cons.mpr ⟨lw_p37, List.forall_mem_cons.mpr ⟨lw_p38, List.forall_mem_cons.mpr ⟨lw_p39, List.forall_mem_cons.mpr ⟨lw_p40, List.forall_mem_cons.mpr ⟨lw_p41, List.forall_mem_cons.mpr ⟨lw_p42, List.forall_mem_cons.mpr ⟨lw_p43, List.forall_mem_cons.mpr ⟨lw_p44, List.forall_mem_cons.mpr ⟨lw_p45, List.forall_mem_cons.mpr ⟨lw_p46, List.forall_mem_cons.mpr ⟨lw_p47, fun _ h => absurd h List.not_mem_nil⟩⟩⟩⟩⟩⟩⟩⟩⟩⟩⟩⟩⟩⟩⟩⟩
theorem lw_p48 : lw_okq (⟨"LoserKeepsTheBoardModel", "lays", "(III)V"⟩, 41) := ⟨⟨by decide +kernel, by decide +kernel⟩, List.mem_of_getElem? (i := 687) (by decide +kernel), List.mem_of_getElem? (i := 867) (by decide +kernel), List.mem_of_getElem? (i := 868) (by decide +kernel)⟩
theorem lw_p49 : lw_okq (⟨"LoserKeepsTheBoardModel", "moves", "(II)V"⟩, 41) := ⟨⟨by decide +kernel, by decide +kernel⟩, List.mem_of_getElem? (i := 687) (by decide +kernel), List.mem_of_getElem? (i := 871) (by decide +kernel), List.mem_of_getElem? (i := 872) (by decide +kernel)⟩
theorem lw_p50 : lw_okq (⟨"LoserKeepsTheBoardModel", "read", "(II)I"⟩, 41) := ⟨⟨by decide +kernel, by decide +kernel⟩, List.mem_of_getElem? (i := 687) (by decide +kernel), List.mem_of_getElem? (i := 890) (by decide +kernel), List.mem_of_getElem? (i := 891) (by decide +kernel)⟩
theorem lw_p51 : lw_okq (⟨"LoserKeepsTheBoardModel", "next", "()V"⟩, 41) := ⟨⟨by decide +kernel, by decide +kernel⟩, List.mem_of_getElem? (i := 687) (by decide +kernel), List.mem_of_getElem? (i := 894) (by decide +kernel), List.mem_of_getElem? (i := 895) (by decide +kernel)⟩
theorem lw_p52 : lw_okq (⟨"LoserKeepsTheBoardModel", "byteAt", "(I)I"⟩, 41) := ⟨⟨by decide +kernel, by decide +kernel⟩, List.mem_of_getElem? (i := 687) (by decide +kernel), List.mem_of_getElem? (i := 898) (by decide +kernel), List.mem_of_getElem? (i := 899) (by decide +kernel)⟩
theorem lw_p53 : lw_okq (⟨"LoserKeepsTheBoardModel", "isWord", "(IIIIIIII)Z"⟩, 41) := ⟨⟨by decide +kernel, by decide +kernel⟩, List.mem_of_getElem? (i := 687) (by decide +kernel), List.mem_of_getElem? (i := 907) (by decide +kernel), List.mem_of_getElem? (i := 908) (by decide +kernel)⟩
theorem lw_p54 : lw_okq (⟨"LoserKeepsTheBoardModel", "isLetter", "(II)Z"⟩, 41) := ⟨⟨by decide +kernel, by decide +kernel⟩, List.mem_of_getElem? (i := 687) (by decide +kernel), List.mem_of_getElem? (i := 911) (by decide +kernel), List.mem_of_getElem? (i := 912) (by decide +kernel)⟩
theorem lw_p55 : lw_okq (⟨"LoserKeepsTheBoardModel", "part", "(Z)I"⟩, 41) := ⟨⟨by decide +kernel, by decide +kernel⟩, List.mem_of_getElem? (i := 687) (by decide +kernel), List.mem_of_getElem? (i := 915) (by decide +kernel), List.mem_of_getElem? (i := 916) (by decide +kernel)⟩
theorem lw_p56 : lw_okq (⟨"LoserKeepsTheBoardModel", "fail", "()V"⟩, 41) := ⟨⟨by decide +kernel, by decide +kernel⟩, List.mem_of_getElem? (i := 687) (by decide +kernel), List.mem_of_getElem? (i := 919) (by decide +kernel), List.mem_of_getElem? (i := 920) (by decide +kernel)⟩
theorem lw_p57 : lw_okq (⟨"LoserKeepsTheBoardModel", "either", "()I"⟩, 41) := ⟨⟨by decide +kernel, by decide +kernel⟩, List.mem_of_getElem? (i := 687) (by decide +kernel), List.mem_of_getElem? (i := 923) (by decide +kernel), List.mem_of_getElem? (i := 924) (by decide +kernel)⟩
theorem lw_p58 : lw_okq (⟨"LoserKeepsTheBoardModel", "both", "()I"⟩, 41) := ⟨⟨by decide +kernel, by decide +kernel⟩, List.mem_of_getElem? (i := 687) (by decide +kernel), List.mem_of_getElem? (i := 927) (by decide +kernel), List.mem_of_getElem? (i := 928) (by decide +kernel)⟩
theorem lw_p59 : lw_okq (⟨"LoserKeepsTheBoardModel", "not", "()I"⟩, 41) := ⟨⟨by decide +kernel, by decide +kernel⟩, List.mem_of_getElem? (i := 687) (by decide +kernel), List.mem_of_getElem? (i := 931) (by decide +kernel), List.mem_of_getElem? (i := 932) (by decide +kernel)⟩
theorem lw_p60 : lw_okq (⟨"LoserKeepsTheBoardModel", "opens", "()Z"⟩, 41) := ⟨⟨by decide +kernel, by decide +kernel⟩, List.mem_of_getElem? (i := 687) (by decide +kernel), List.mem_of_getElem? (i := 935) (by decide +kernel), List.mem_of_getElem? (i := 936) (by decide +kernel)⟩
theorem lw_p61 : lw_okq (⟨"LoserKeepsTheBoardModel", "added", "()I"⟩, 41) := ⟨⟨by decide +kernel, by decide +kernel⟩, List.mem_of_getElem? (i := 687) (by decide +kernel), List.mem_of_getElem? (i := 939) (by decide +kernel), List.mem_of_getElem? (i := 940) (by decide +kernel)⟩
theorem lw_p62 : lw_okq (⟨"LoserKeepsTheBoardModel", "term", "()I"⟩, 41) := ⟨⟨by decide +kernel, by decide +kernel⟩, List.mem_of_getElem? (i := 687) (by decide +kernel), List.mem_of_getElem? (i := 943) (by decide +kernel), List.mem_of_getElem? (i := 944) (by decide +kernel)⟩
theorem lw_p63 : lw_okq (⟨"LoserKeepsTheBoardModel", "atom", "()I"⟩, 41) := ⟨⟨by decide +kernel, by decide +kernel⟩, List.mem_of_getElem? (i := 687) (by decide +kernel), List.mem_of_getElem? (i := 947) (by decide +kernel), List.mem_of_getElem? (i := 948) (by decide +kernel)⟩
def lw_privs_4 : List (MethodName × Nat) := [(⟨"LoserKeepsTheBoardModel", "lays", "(III)V"⟩, 41), (⟨"LoserKeepsTheBoardModel", "moves", "(II)V"⟩, 41), (⟨"LoserKeepsTheBoardModel", "read", "(II)I"⟩, 41), (⟨"LoserKeepsTheBoardModel", "next", "()V"⟩, 41), (⟨"LoserKeepsTheBoardModel", "byteAt", "(I)I"⟩, 41), (⟨"LoserKeepsTheBoardModel", "isWord", "(IIIIIIII)Z"⟩, 41), (⟨"LoserKeepsTheBoardModel", "isLetter", "(II)Z"⟩, 41), (⟨"LoserKeepsTheBoardModel", "part", "(Z)I"⟩, 41), (⟨"LoserKeepsTheBoardModel", "fail", "()V"⟩, 41), (⟨"LoserKeepsTheBoardModel", "either", "()I"⟩, 41), (⟨"LoserKeepsTheBoardModel", "both", "()I"⟩, 41), (⟨"LoserKeepsTheBoardModel", "not", "()I"⟩, 41), (⟨"LoserKeepsTheBoardModel", "opens", "()Z"⟩, 41), (⟨"LoserKeepsTheBoardModel", "added", "()I"⟩, 41), (⟨"LoserKeepsTheBoardModel", "term", "()I"⟩, 41), (⟨"LoserKeepsTheBoardModel", "atom", "()I"⟩, 41)]
theorem lw_r4 : ∀ q ∈ lw_privs_4, lw_okq q := List.forall_mem_cons.mpr ⟨lw_p48, List.forall_mem_cons.mpr ⟨lw_p49, List.forall_mem_cons.mpr ⟨lw_p50, List.forall_mem_cons.mpr ⟨lw_p51, List.forall_mem_cons.mpr ⟨lw_p52, List.forall_mem_cons.mpr ⟨lw_p53, List.forall_mem_cons.mpr ⟨lw_p54, List.forall_mem_cons.mpr ⟨lw_p55, List.forall_mem_cons.mpr ⟨lw_p56, List.forall_mem_cons.mpr ⟨lw_p57, List.forall_mem_cons.mpr ⟨lw_p58, List.forall_mem_cons.mpr ⟨lw_p59, List.forall_mem_cons.mpr ⟨lw_p60, List.forall_mem_cons.mpr ⟨lw_p61, List.forall_mem_cons.mpr ⟨lw_p62, List.forall_mem_cons.mpr ⟨lw_p63, fun _ h => absurd h List.not_mem_nil⟩⟩⟩⟩⟩⟩⟩⟩⟩⟩⟩⟩⟩⟩⟩⟩
theorem lw_p64 : lw_okq (⟨"LoserKeepsTheBoardModel", "isSign", "(I)Z"⟩, 41) := ⟨⟨by decide +kernel, by decide +kernel⟩, List.mem_of_getElem? (i := 687) (by decide +kernel), List.mem_of_getElem? (i := 951) (by decide +kernel), List.mem_of_getElem? (i := 952) (by decide +kernel)⟩
theorem lw_p65 : lw_okq (⟨"LoserKeepsTheBoardModel", "name", "()I"⟩, 41) := ⟨⟨by decide +kernel, by decide +kernel⟩, List.mem_of_getElem? (i := 687) (by decide +kernel), List.mem_of_getElem? (i := 955) (by decide +kernel), List.mem_of_getElem? (i := 956) (by decide +kernel)⟩
theorem lw_p66 : lw_okq (⟨"LoserKeepsTheBoardModel", "areTwo", "(II)Z"⟩, 41) := ⟨⟨by decide +kernel, by decide +kernel⟩, List.mem_of_getElem? (i := 687) (by decide +kernel), List.mem_of_getElem? (i := 969) (by decide +kernel), List.mem_of_getElem? (i := 970) (by decide +kernel)⟩
theorem lw_p67 : lw_okq (⟨"LoserKeepsTheBoardModel", "powerOf", "(II)I"⟩, 41) := ⟨⟨by decide +kernel, by decide +kernel⟩, List.mem_of_getElem? (i := 687) (by decide +kernel), List.mem_of_getElem? (i := 973) (by decide +kernel), List.mem_of_getElem? (i := 974) (by decide +kernel)⟩
theorem lw_p68 : lw_okq (⟨"LoserKeepsTheBoardModel", "throwsIt", "(II)Z"⟩, 41) := ⟨⟨by decide +kernel, by decide +kernel⟩, List.mem_of_getElem? (i := 687) (by decide +kernel), List.mem_of_getElem? (i := 977) (by decide +kernel), List.mem_of_getElem? (i := 978) (by decide +kernel)⟩
theorem lw_p69 : lw_okq (⟨"LoserKeepsTheBoardModel", "says", "(III)I"⟩, 41) := ⟨⟨by decide +kernel, by decide +kernel⟩, List.mem_of_getElem? (i := 687) (by decide +kernel), List.mem_of_getElem? (i := 981) (by decide +kernel), List.mem_of_getElem? (i := 982) (by decide +kernel)⟩
theorem lw_p70 : lw_okq (⟨"LoserKeepsTheBoardModel", "playsOf", "(II)I"⟩, 41) := ⟨⟨by decide +kernel, by decide +kernel⟩, List.mem_of_getElem? (i := 687) (by decide +kernel), List.mem_of_getElem? (i := 988) (by decide +kernel), List.mem_of_getElem? (i := 989) (by decide +kernel)⟩
theorem lw_p71 : lw_okq (⟨"LoserKeepsTheBoardModel", "winnerOf", "(II)I"⟩, 41) := ⟨⟨by decide +kernel, by decide +kernel⟩, List.mem_of_getElem? (i := 687) (by decide +kernel), List.mem_of_getElem? (i := 992) (by decide +kernel), List.mem_of_getElem? (i := 993) (by decide +kernel)⟩
theorem lw_p72 : lw_okq (⟨"LoserKeepsTheBoardModel", "tiresOf", "(IIZ)I"⟩, 41) := ⟨⟨by decide +kernel, by decide +kernel⟩, List.mem_of_getElem? (i := 687) (by decide +kernel), List.mem_of_getElem? (i := 996) (by decide +kernel), List.mem_of_getElem? (i := 997) (by decide +kernel)⟩
theorem lw_p73 : lw_okq (⟨"LoserKeepsTheBoardModel", "hasBehind", "(II)I"⟩, 41) := ⟨⟨by decide +kernel, by decide +kernel⟩, List.mem_of_getElem? (i := 687) (by decide +kernel), List.mem_of_getElem? (i := 1000) (by decide +kernel), List.mem_of_getElem? (i := 1001) (by decide +kernel)⟩
theorem lw_p74 : lw_okq (⟨"LoserKeepsTheBoardModel", "laysAside", "()V"⟩, 41) := ⟨⟨by decide +kernel, by decide +kernel⟩, List.mem_of_getElem? (i := 687) (by decide +kernel), List.mem_of_getElem? (i := 1004) (by decide +kernel), List.mem_of_getElem? (i := 1005) (by decide +kernel)⟩
theorem lw_p75 : lw_okq (⟨"LoserKeepsTheBoardModel", "games", "(II)I"⟩, 41) := ⟨⟨by decide +kernel, by decide +kernel⟩, List.mem_of_getElem? (i := 687) (by decide +kernel), List.mem_of_getElem? (i := 1008) (by decide +kernel), List.mem_of_getElem? (i := 1009) (by decide +kernel)⟩
theorem lw_p76 : lw_okq (⟨"LoserKeepsTheBoardModel", "laysBack", "()V"⟩, 41) := ⟨⟨by decide +kernel, by decide +kernel⟩, List.mem_of_getElem? (i := 687) (by decide +kernel), List.mem_of_getElem? (i := 1012) (by decide +kernel), List.mem_of_getElem? (i := 1013) (by decide +kernel)⟩
theorem lw_p77 : lw_okq (⟨"LoserKeepsTheBoardModel", "eveningBad", "(I)I"⟩, 41) := ⟨⟨by decide +kernel, by decide +kernel⟩, List.mem_of_getElem? (i := 687) (by decide +kernel), List.mem_of_getElem? (i := 1028) (by decide +kernel), List.mem_of_getElem? (i := 1029) (by decide +kernel)⟩
theorem lw_p78 : lw_okq (⟨"LoserKeepsTheBoardModel", "goes", "(I)I"⟩, 41) := ⟨⟨by decide +kernel, by decide +kernel⟩, List.mem_of_getElem? (i := 687) (by decide +kernel), List.mem_of_getElem? (i := 1033) (by decide +kernel), List.mem_of_getElem? (i := 1034) (by decide +kernel)⟩
theorem lw_p79 : lw_okq (⟨"LoserKeepsTheBoardModel", "richest", "()I"⟩, 41) := ⟨⟨by decide +kernel, by decide +kernel⟩, List.mem_of_getElem? (i := 687) (by decide +kernel), List.mem_of_getElem? (i := 1037) (by decide +kernel), List.mem_of_getElem? (i := 1038) (by decide +kernel)⟩
def lw_privs_5 : List (MethodName × Nat) := [(⟨"LoserKeepsTheBoardModel", "isSign", "(I)Z"⟩, 41), (⟨"LoserKeepsTheBoardModel", "name", "()I"⟩, 41), (⟨"LoserKeepsTheBoardModel", "areTwo", "(II)Z"⟩, 41), (⟨"LoserKeepsTheBoardModel", "powerOf", "(II)I"⟩, 41), (⟨"LoserKeepsTheBoardModel", "throwsIt", "(II)Z"⟩, 41), (⟨"LoserKeepsTheBoardModel", "says", "(III)I"⟩, 41), (⟨"LoserKeepsTheBoardModel", "playsOf", "(II)I"⟩, 41), (⟨"LoserKeepsTheBoardModel", "winnerOf", "(II)I"⟩, 41), (⟨"LoserKeepsTheBoardModel", "tiresOf", "(IIZ)I"⟩, 41), (⟨"LoserKeepsTheBoardModel", "hasBehind", "(II)I"⟩, 41), (⟨"LoserKeepsTheBoardModel", "laysAside", "()V"⟩, 41), (⟨"LoserKeepsTheBoardModel", "games", "(II)I"⟩, 41), (⟨"LoserKeepsTheBoardModel", "laysBack", "()V"⟩, 41), (⟨"LoserKeepsTheBoardModel", "eveningBad", "(I)I"⟩, 41), (⟨"LoserKeepsTheBoardModel", "goes", "(I)I"⟩, 41), (⟨"LoserKeepsTheBoardModel", "richest", "()I"⟩, 41)]
theorem lw_r5 : ∀ q ∈ lw_privs_5, lw_okq q := List.forall_mem_cons.mpr ⟨lw_p64, List.forall_mem_cons.mpr ⟨lw_p65, List.forall_mem_cons.mpr ⟨lw_p66, List.forall_mem_cons.mpr ⟨lw_p67, List.forall_mem_cons.mpr ⟨lw_p68, List.forall_mem_cons.mpr ⟨lw_p69, List.forall_mem_cons.mpr ⟨lw_p70, List.forall_mem_cons.mpr ⟨lw_p71, List.forall_mem_cons.mpr ⟨lw_p72, List.forall_mem_cons.mpr ⟨lw_p73, List.forall_mem_cons.mpr ⟨lw_p74, List.forall_mem_cons.mpr ⟨lw_p75, List.forall_mem_cons.mpr ⟨lw_p76, List.forall_mem_cons.mpr ⟨lw_p77, List.forall_mem_cons.mpr ⟨lw_p78, List.forall_mem_cons.mpr ⟨lw_p79, fun _ h => absurd h List.not_mem_nil⟩⟩⟩⟩⟩⟩⟩⟩⟩⟩⟩⟩⟩⟩⟩⟩
theorem lw_p80 : lw_okq (⟨"LoserKeepsTheBoardModel", "apart", "()I"⟩, 41) := ⟨⟨by decide +kernel, by decide +kernel⟩, List.mem_of_getElem? (i := 687) (by decide +kernel), List.mem_of_getElem? (i := 1049) (by decide +kernel), List.mem_of_getElem? (i := 1050) (by decide +kernel)⟩
theorem lw_p81 : lw_okq (⟨"LoserKeepsTheBoardModel", "hallBehind", "(I)I"⟩, 41) := ⟨⟨by decide +kernel, by decide +kernel⟩, List.mem_of_getElem? (i := 687) (by decide +kernel), List.mem_of_getElem? (i := 1053) (by decide +kernel), List.mem_of_getElem? (i := 1054) (by decide +kernel)⟩
theorem lw_p82 : lw_okq (⟨"LoserKeepsTheBoardModel", "robins", "(I)V"⟩, 41) := ⟨⟨by decide +kernel, by decide +kernel⟩, List.mem_of_getElem? (i := 687) (by decide +kernel), List.mem_of_getElem? (i := 1057) (by decide +kernel), List.mem_of_getElem? (i := 1058) (by decide +kernel)⟩
theorem lw_p83 : lw_okq (⟨"LoserKeepsTheBoardModel", "ringMany", "()I"⟩, 41) := ⟨⟨by decide +kernel, by decide +kernel⟩, List.mem_of_getElem? (i := 687) (by decide +kernel), List.mem_of_getElem? (i := 1061) (by decide +kernel), List.mem_of_getElem? (i := 1062) (by decide +kernel)⟩
theorem lw_p84 : lw_okq (⟨"LoserKeepsTheBoardModel", "orders", "(III)V"⟩, 41) := ⟨⟨by decide +kernel, by decide +kernel⟩, List.mem_of_getElem? (i := 687) (by decide +kernel), List.mem_of_getElem? (i := 1073) (by decide +kernel), List.mem_of_getElem? (i := 1074) (by decide +kernel)⟩
theorem lw_p85 : lw_okq (⟨"LoserKeepsTheBoardModel", "tries", "(I)V"⟩, 41) := ⟨⟨by decide +kernel, by decide +kernel⟩, List.mem_of_getElem? (i := 687) (by decide +kernel), List.mem_of_getElem? (i := 1081) (by decide +kernel), List.mem_of_getElem? (i := 1082) (by decide +kernel)⟩
theorem lw_p86 : lw_okq (⟨"LoserKeepsTheBoardModel", "firstOther", "(II)I"⟩, 41) := ⟨⟨by decide +kernel, by decide +kernel⟩, List.mem_of_getElem? (i := 687) (by decide +kernel), List.mem_of_getElem? (i := 1093) (by decide +kernel), List.mem_of_getElem? (i := 1094) (by decide +kernel)⟩
theorem lw_p87 : lw_okq (⟨"LoserKeepsTheBoardModel", "likeSet", "(I)I"⟩, 41) := ⟨⟨by decide +kernel, by decide +kernel⟩, List.mem_of_getElem? (i := 687) (by decide +kernel), List.mem_of_getElem? (i := 1097) (by decide +kernel), List.mem_of_getElem? (i := 1098) (by decide +kernel)⟩
theorem lw_p88 : lw_okq (⟨"LoserKeepsTheBoardModel", "hasDrawn", "(III)I"⟩, 41) := ⟨⟨by decide +kernel, by decide +kernel⟩, List.mem_of_getElem? (i := 687) (by decide +kernel), List.mem_of_getElem? (i := 1115) (by decide +kernel), List.mem_of_getElem? (i := 1116) (by decide +kernel)⟩
def lw_privs_6 : List (MethodName × Nat) := [(⟨"LoserKeepsTheBoardModel", "apart", "()I"⟩, 41), (⟨"LoserKeepsTheBoardModel", "hallBehind", "(I)I"⟩, 41), (⟨"LoserKeepsTheBoardModel", "robins", "(I)V"⟩, 41), (⟨"LoserKeepsTheBoardModel", "ringMany", "()I"⟩, 41), (⟨"LoserKeepsTheBoardModel", "orders", "(III)V"⟩, 41), (⟨"LoserKeepsTheBoardModel", "tries", "(I)V"⟩, 41), (⟨"LoserKeepsTheBoardModel", "firstOther", "(II)I"⟩, 41), (⟨"LoserKeepsTheBoardModel", "likeSet", "(I)I"⟩, 41), (⟨"LoserKeepsTheBoardModel", "hasDrawn", "(III)I"⟩, 41)]
theorem lw_r6 : ∀ q ∈ lw_privs_6, lw_okq q := List.forall_mem_cons.mpr ⟨lw_p80, List.forall_mem_cons.mpr ⟨lw_p81, List.forall_mem_cons.mpr ⟨lw_p82, List.forall_mem_cons.mpr ⟨lw_p83, List.forall_mem_cons.mpr ⟨lw_p84, List.forall_mem_cons.mpr ⟨lw_p85, List.forall_mem_cons.mpr ⟨lw_p86, List.forall_mem_cons.mpr ⟨lw_p87, List.forall_mem_cons.mpr ⟨lw_p88, fun _ h => absurd h List.not_mem_nil⟩⟩⟩⟩⟩⟩⟩⟩⟩
def lw_privs : List (MethodName × Nat) := lw_privs_1 ++ (lw_privs_2 ++ (lw_privs_3 ++ (lw_privs_4 ++ (lw_privs_5 ++ (lw_privs_6)))))
def lw_tbl : List Cond := k2_sels lw_privs ++ tables_1
theorem lw_privs_ok : ∀ q ∈ lw_privs, lw_okq q := by
  show ∀ q ∈ lw_privs_1 ++ (lw_privs_2 ++ (lw_privs_3 ++ (lw_privs_4 ++ (lw_privs_5 ++ (lw_privs_6))))), lw_okq q
  exact List.forall_mem_append.mpr ⟨lw_r1, List.forall_mem_append.mpr ⟨lw_r2, List.forall_mem_append.mpr ⟨lw_r3, List.forall_mem_append.mpr ⟨lw_r4, List.forall_mem_append.mpr ⟨lw_r5, lw_r6⟩⟩⟩⟩⟩
-- ===== end of PART A; then your names; then what follows =====
end
section
def RX0 : String := "LoserKeepsTheBoard$Club"
def TX0 : u_T := fun k => match k with
  | 0 => ("LoserKeepsTheBoard$Club", "texts", "LLoserKeepsTheBoard$Texts;", true)
  | 1 => ("LoserKeepsTheBoard$Club", "kind", "[I", true)
  | 2 => ("LoserKeepsTheBoard$Club", "number", "[I", true)
  | 3 => ("LoserKeepsTheBoard$Club", "strong", "[I", true)
  | 4 => ("LoserKeepsTheBoard$Club", "won", "[I", true)
  | 5 => ("LoserKeepsTheBoard$Club", "has", "[I", true)
  | 6 => ("LoserKeepsTheBoard$Club", "hall", "I", false)
  | 7 => ("LoserKeepsTheBoard$Club", "many", "I", false)
  | 8 => ("LoserKeepsTheBoard$Club", "round", "I", false)
  | _ => ("LoserKeepsTheBoard$Club", "rule", "I", false)
def tyX0 : Nat → FieldType := fun k => match k with
  | 0 => .object "LoserKeepsTheBoard$Texts"
  | 1 => .array .int
  | 2 => .array .int
  | 3 => .array .int
  | 4 => .array .int
  | 5 => .array .int
  | 6 => .int
  | 7 => .int
  | 8 => .int
  | _ => .int
theorem nmX0 : ∀ a, a < 10 → ∀ b, b < 10 → a ≠ b → (TX0 a).2.1 ≠ (TX0 b).2.1 := by decide +kernel
theorem tyX0_ok : ∀ k, k < 10 → parseFieldDescriptor (TX0 k).2.2.1 = some (tyX0 k) := by decide +kernel
abbrev cX0_init : ByteArray := prog_2_method_1_code
def yX0_init : MethodName := ⟨RX0, "<init>", "(LLoserKeepsTheBoard$Texts;)V"⟩
abbrev cX0_takes : ByteArray := prog_2_method_2_code
def yX0_takes : MethodName := ⟨RX0, "takes", "(LLoserKeepsTheBoard$Club;)V"⟩
abbrev cX0_comes : ByteArray := prog_2_method_3_code
def yX0_comes : MethodName := ⟨RX0, "comes", "(II)I"⟩
abbrev cX0_isPlayer : ByteArray := prog_2_method_4_code
def yX0_isPlayer : MethodName := ⟨RX0, "isPlayer", "(I)Z"⟩
abbrev cX0_areTwo : ByteArray := prog_2_method_5_code
def yX0_areTwo : MethodName := ⟨RX0, "areTwo", "(II)Z"⟩
abbrev cX0_placeOf : ByteArray := prog_2_method_6_code
def yX0_placeOf : MethodName := ⟨RX0, "placeOf", "(I)I"⟩
abbrev cX0_bring : ByteArray := prog_2_method_7_code
def yX0_bring : MethodName := ⟨RX0, "bring", "(II)V"⟩
abbrev cX0_manyInHall : ByteArray := prog_2_method_8_code
def yX0_manyInHall : MethodName := ⟨RX0, "manyInHall", "()I"⟩
abbrev cX0_howMany : ByteArray := prog_2_method_9_code
def yX0_howMany : MethodName := ⟨RX0, "howMany", "(I)I"⟩
abbrev cX0_whoHasMost : ByteArray := prog_2_method_10_code
def yX0_whoHasMost : MethodName := ⟨RX0, "whoHasMost", "()I"⟩
abbrev cX0_whoHasAll : ByteArray := prog_2_method_11_code
def yX0_whoHasAll : MethodName := ⟨RX0, "whoHasAll", "()I"⟩
abbrev cX0_nameValues : ByteArray := prog_2_method_12_code
def yX0_nameValues : MethodName := ⟨RX0, "nameValues", "(II)V"⟩
abbrev cX0_playsBy : ByteArray := prog_2_method_13_code
def yX0_playsBy : MethodName := ⟨RX0, "playsBy", "(II)I"⟩
abbrev cX0_throwsBy : ByteArray := prog_2_method_14_code
def yX0_throwsBy : MethodName := ⟨RX0, "throwsBy", "(ZII)Z"⟩
abbrev cX0_tiresBy : ByteArray := prog_2_method_15_code
def yX0_tiresBy : MethodName := ⟨RX0, "tiresBy", "(IIZ)I"⟩
abbrev cX0_power : ByteArray := prog_2_method_16_code
def yX0_power : MethodName := ⟨RX0, "power", "(II)I"⟩
abbrev cX0_tiring : ByteArray := prog_2_method_17_code
def yX0_tiring : MethodName := ⟨RX0, "tiring", "(IIZ)I"⟩
abbrev cX0_winner : ByteArray := prog_2_method_18_code
def yX0_winner : MethodName := ⟨RX0, "winner", "(II)I"⟩
abbrev cX0_meet : ByteArray := prog_2_method_19_code
def yX0_meet : MethodName := ⟨RX0, "meet", "(II)I"⟩
abbrev cX0_loses : ByteArray := prog_2_method_20_code
def yX0_loses : MethodName := ⟨RX0, "loses", "(II)V"⟩
def RX1 : String := "LoserKeepsTheBoard$Reader"
def TX1 : u_T := fun k => match k with
  | 0 => ("LoserKeepsTheBoard$Reader", "tape", "[I", true)
  | 1 => ("LoserKeepsTheBoard$Reader", "size", "I", false)
  | 2 => ("LoserKeepsTheBoard$Reader", "fault", "I", false)
  | 3 => ("LoserKeepsTheBoard$Reader", "code", "[I", true)
  | 4 => ("LoserKeepsTheBoard$Reader", "codes", "I", false)
  | 5 => ("LoserKeepsTheBoard$Reader", "place", "I", false)
  | 6 => ("LoserKeepsTheBoard$Reader", "token", "I", false)
  | 7 => ("LoserKeepsTheBoard$Reader", "tokenFrom", "I", false)
  | _ => ("LoserKeepsTheBoard$Reader", "value", "I", false)
def tyX1 : Nat → FieldType := fun k => match k with
  | 0 => .array .int
  | 1 => .int
  | 2 => .int
  | 3 => .array .int
  | 4 => .int
  | 5 => .int
  | 6 => .int
  | 7 => .int
  | _ => .int
theorem nmX1 : ∀ a, a < 9 → ∀ b, b < 9 → a ≠ b → (TX1 a).2.1 ≠ (TX1 b).2.1 := by decide +kernel
theorem tyX1_ok : ∀ k, k < 9 → parseFieldDescriptor (TX1 k).2.2.1 = some (tyX1 k) := by decide +kernel
abbrev cX1_init : ByteArray := prog_3_method_1_code
def yX1_init : MethodName := ⟨RX1, "<init>", "()V"⟩
abbrev cX1_append : ByteArray := prog_3_method_2_code
def yX1_append : MethodName := ⟨RX1, "append", "(I)Z"⟩
abbrev cX1_write : ByteArray := prog_3_method_3_code
def yX1_write : MethodName := ⟨RX1, "write", "(Ljava/lang/String;)V"⟩
abbrev cX1_read : ByteArray := prog_3_method_4_code
def yX1_read : MethodName := ⟨RX1, "read", "()LLoserKeepsTheBoard$Text;"⟩
abbrev cX1_madeCode : ByteArray := prog_3_method_5_code
def yX1_madeCode : MethodName := ⟨RX1, "madeCode", "()[I"⟩
abbrev cX1_readEither : ByteArray := prog_3_method_6_code
def yX1_readEither : MethodName := ⟨RX1, "readEither", "(I)V"⟩
abbrev cX1_readBoth : ByteArray := prog_3_method_7_code
def yX1_readBoth : MethodName := ⟨RX1, "readBoth", "(I)V"⟩
abbrev cX1_readNot : ByteArray := prog_3_method_8_code
def yX1_readNot : MethodName := ⟨RX1, "readNot", "(I)V"⟩
abbrev cX1_readSum : ByteArray := prog_3_method_9_code
def yX1_readSum : MethodName := ⟨RX1, "readSum", "(I)V"⟩
abbrev cX1_readTerm : ByteArray := prog_3_method_10_code
def yX1_readTerm : MethodName := ⟨RX1, "readTerm", "(I)V"⟩
abbrev cX1_readOne : ByteArray := prog_3_method_11_code
def yX1_readOne : MethodName := ⟨RX1, "readOne", "(I)V"⟩
abbrev cX1_opens : ByteArray := prog_3_method_12_code
def yX1_opens : MethodName := ⟨RX1, "opens", "(I)Z"⟩
abbrev cX1_expect : ByteArray := prog_3_method_13_code
def yX1_expect : MethodName := ⟨RX1, "expect", "(I)V"⟩
abbrev cX1_fails : ByteArray := prog_3_method_14_code
def yX1_fails : MethodName := ⟨RX1, "fails", "()V"⟩
abbrev cX1_emit : ByteArray := prog_3_method_15_code
def yX1_emit : MethodName := ⟨RX1, "emit", "(I)V"⟩
abbrev cX1_byteAt : ByteArray := prog_3_method_16_code
def yX1_byteAt : MethodName := ⟨RX1, "byteAt", "(I)I"⟩
abbrev cX1_next : ByteArray := prog_3_method_17_code
def yX1_next : MethodName := ⟨RX1, "next", "()V"⟩
abbrev cX1_isLetter : ByteArray := prog_3_method_18_code
def yX1_isLetter : MethodName := ⟨RX1, "isLetter", "(I)Z"⟩
abbrev cX1_isDigit : ByteArray := prog_3_method_19_code
def yX1_isDigit : MethodName := ⟨RX1, "isDigit", "(I)Z"⟩
abbrev cX1_isSign : ByteArray := prog_3_method_20_code
def yX1_isSign : MethodName := ⟨RX1, "isSign", "(I)Z"⟩
abbrev cX1_readNumber : ByteArray := prog_3_method_21_code
def yX1_readNumber : MethodName := ⟨RX1, "readNumber", "()V"⟩
abbrev cX1_readWord : ByteArray := prog_3_method_22_code
def yX1_readWord : MethodName := ⟨RX1, "readWord", "()V"⟩
abbrev cX1_stands : ByteArray := prog_3_method_23_code
def yX1_stands : MethodName := ⟨RX1, "stands", "(Ljava/lang/String;)Z"⟩
def RX2 : String := "LoserKeepsTheBoard$Sheet"
def TX2 : u_T := fun k => match k with
  | 0 => ("LoserKeepsTheBoard$Sheet", "items", "[I", true)
  | 1 => ("LoserKeepsTheBoard$Sheet", "sort", "I", false)
  | _ => ("LoserKeepsTheBoard$Sheet", "size", "I", false)
def tyX2 : Nat → FieldType := fun k => match k with
  | 0 => .array .int
  | 1 => .int
  | _ => .int
theorem nmX2 : ∀ a, a < 3 → ∀ b, b < 3 → a ≠ b → (TX2 a).2.1 ≠ (TX2 b).2.1 := by decide +kernel
theorem tyX2_ok : ∀ k, k < 3 → parseFieldDescriptor (TX2 k).2.2.1 = some (tyX2 k) := by decide +kernel
abbrev cX2_init : ByteArray := prog_4_method_1_code
def yX2_init : MethodName := ⟨RX2, "<init>", "()V"⟩
abbrev cX2_isMissing : ByteArray := prog_4_method_2_code
def yX2_isMissing : MethodName := ⟨RX2, "isMissing", "()Z"⟩
abbrev cX2_becomes : ByteArray := prog_4_method_3_code
def yX2_becomes : MethodName := ⟨RX2, "becomes", "(II)V"⟩
abbrev cX2_holds : ByteArray := prog_4_method_4_code
def yX2_holds : MethodName := ⟨RX2, "holds", "(II)Z"⟩
abbrev cX2_item : ByteArray := prog_4_method_5_code
def yX2_item : MethodName := ⟨RX2, "item", "(I)I"⟩
abbrev cX2_put : ByteArray := prog_4_method_6_code
def yX2_put : MethodName := ⟨RX2, "put", "(II)V"⟩
def RX3 : String := "LoserKeepsTheBoard$Text"
def TX3 : u_T := fun k => match k with
  | 0 => ("LoserKeepsTheBoard$Text", "code", "[I", true)
  | _ => ("LoserKeepsTheBoard$Text", "ends", "[I", true)
def tyX3 : Nat → FieldType := fun k => match k with
  | 0 => .array .int
  | _ => .array .int
theorem nmX3 : ∀ a, a < 2 → ∀ b, b < 2 → a ≠ b → (TX3 a).2.1 ≠ (TX3 b).2.1 := by decide +kernel
theorem tyX3_ok : ∀ k, k < 2 → parseFieldDescriptor (TX3 k).2.2.1 = some (tyX3 k) := by decide +kernel
abbrev cX3_init : ByteArray := prog_5_method_1_code
def yX3_init : MethodName := ⟨RX3, "<init>", "([I[I)V"⟩
abbrev cX3_codeAt : ByteArray := prog_5_method_2_code
def yX3_codeAt : MethodName := ⟨RX3, "codeAt", "(I)I"⟩
abbrev cX3_endOf : ByteArray := prog_5_method_3_code
def yX3_endOf : MethodName := ⟨RX3, "endOf", "(I)I"⟩
def RX4 : String := "LoserKeepsTheBoard$Texts"
def TX4 : u_T := fun k => match k with
  | 0 => ("LoserKeepsTheBoard$Texts", "row", "[LLoserKeepsTheBoard$Text;", true)
  | 1 => ("LoserKeepsTheBoard$Texts", "values", "[I", true)
  | 2 => ("LoserKeepsTheBoard$Texts", "stack", "[I", true)
  | _ => ("LoserKeepsTheBoard$Texts", "many", "I", false)
def tyX4 : Nat → FieldType := fun k => match k with
  | 0 => .array (.object "LoserKeepsTheBoard$Text")
  | 1 => .array .int
  | 2 => .array .int
  | _ => .int
theorem nmX4 : ∀ a, a < 4 → ∀ b, b < 4 → a ≠ b → (TX4 a).2.1 ≠ (TX4 b).2.1 := by decide +kernel
theorem tyX4_ok : ∀ k, k < 4 → parseFieldDescriptor (TX4 k).2.2.1 = some (tyX4 k) := by decide +kernel
abbrev cX4_init : ByteArray := prog_6_method_1_code
def yX4_init : MethodName := ⟨RX4, "<init>", "()V"⟩
abbrev cX4_add : ByteArray := prog_6_method_2_code
def yX4_add : MethodName := ⟨RX4, "add", "(LLoserKeepsTheBoard$Text;)I"⟩
abbrev cX4_valueOf : ByteArray := prog_6_method_3_code
def yX4_valueOf : MethodName := ⟨RX4, "valueOf", "(II)I"⟩
abbrev cX4_joined : ByteArray := prog_6_method_4_code
def yX4_joined : MethodName := ⟨RX4, "joined", "(III)I"⟩
def RX5 : String := "LoserKeepsTheBoard"
def TX5 : u_T := fun k => match k with
  | 0 => ("LoserKeepsTheBoard", "texts", "LLoserKeepsTheBoard$Texts;", true)
  | 1 => ("LoserKeepsTheBoard", "reader", "LLoserKeepsTheBoard$Reader;", true)
  | 2 => ("LoserKeepsTheBoard", "now", "LLoserKeepsTheBoard$Club;", true)
  | 3 => ("LoserKeepsTheBoard", "kept", "LLoserKeepsTheBoard$Club;", true)
  | 4 => ("LoserKeepsTheBoard", "isKept", "Z", false)
  | 5 => ("LoserKeepsTheBoard", "thought", "LLoserKeepsTheBoard$Club;", true)
  | 6 => ("LoserKeepsTheBoard", "thoughts", "[LLoserKeepsTheBoard$Club;", true)
  | 7 => ("LoserKeepsTheBoard", "sheets", "[LLoserKeepsTheBoard$Sheet;", true)
  | 8 => ("LoserKeepsTheBoard", "mostByOrder", "I", false)
  | _ => ("LoserKeepsTheBoard", "firstOrder", "I", false)
def tyX5 : Nat → FieldType := fun k => match k with
  | 0 => .object "LoserKeepsTheBoard$Texts"
  | 1 => .object "LoserKeepsTheBoard$Reader"
  | 2 => .object "LoserKeepsTheBoard$Club"
  | 3 => .object "LoserKeepsTheBoard$Club"
  | 4 => .boolean
  | 5 => .object "LoserKeepsTheBoard$Club"
  | 6 => .array (.object "LoserKeepsTheBoard$Club")
  | 7 => .array (.object "LoserKeepsTheBoard$Sheet")
  | 8 => .int
  | _ => .int
theorem nmX5 : ∀ a, a < 10 → ∀ b, b < 10 → a ≠ b → (TX5 a).2.1 ≠ (TX5 b).2.1 := by decide +kernel
theorem tyX5_ok : ∀ k, k < 10 → parseFieldDescriptor (TX5 k).2.2.1 = some (tyX5 k) := by decide +kernel
abbrev cX5_init : ByteArray := prog_1_method_1_code
def yX5_init : MethodName := ⟨RX5, "<init>", "()V"⟩
abbrev cX5_set : ByteArray := prog_1_method_2_code
def yX5_set : MethodName := ⟨RX5, "set", "(III)I"⟩
abbrev cX5_setRound : ByteArray := prog_1_method_3_code
def yX5_setRound : MethodName := ⟨RX5, "setRound", "(I)I"⟩
abbrev cX5_setPlace : ByteArray := prog_1_method_4_code
def yX5_setPlace : MethodName := ⟨RX5, "setPlace", "(II)I"⟩
abbrev cX5_setOf : ByteArray := prog_1_method_5_code
def yX5_setOf : MethodName := ⟨RX5, "setOf", "([IIII)I"⟩
abbrev cX5_player : ByteArray := prog_1_method_6_code
def yX5_player : MethodName := ⟨RX5, "player", "(II)I"⟩
abbrev cX5_told : ByteArray := prog_1_method_7_code
def yX5_told : MethodName := ⟨RX5, "told", "(II)I"⟩
abbrev cX5_asks : ByteArray := prog_1_method_8_code
def yX5_asks : MethodName := ⟨RX5, "asks", "(III)I"⟩
abbrev cX5_manyBehindGame : ByteArray := prog_1_method_9_code
def yX5_manyBehindGame : MethodName := ⟨RX5, "manyBehindGame", "(II)I"⟩
abbrev cX5_feed : ByteArray := prog_1_method_10_code
def yX5_feed : MethodName := ⟨RX5, "feed", "(I)I"⟩
abbrev cX5_text : ByteArray := prog_1_method_11_code
def yX5_text : MethodName := ⟨RX5, "text", "()I"⟩
abbrev cX5_force : ByteArray := prog_1_method_12_code
def yX5_force : MethodName := ⟨RX5, "force", "(I)I"⟩
abbrev cX5_game : ByteArray := prog_1_method_13_code
def yX5_game : MethodName := ⟨RX5, "game", "(II)I"⟩
abbrev cX5_evening : ByteArray := prog_1_method_14_code
def yX5_evening : MethodName := ⟨RX5, "evening", "(II)I"⟩
abbrev cX5_play : ByteArray := prog_1_method_15_code
def yX5_play : MethodName := ⟨RX5, "play", "(I)I"⟩
abbrev cX5_tellsGames : ByteArray := prog_1_method_16_code
def yX5_tellsGames : MethodName := ⟨RX5, "tellsGames", "(LLoserKeepsTheBoard$Sheet;)Z"⟩
abbrev cX5_playTold : ByteArray := prog_1_method_17_code
def yX5_playTold : MethodName := ⟨RX5, "playTold", "(LLoserKeepsTheBoard$Club;LLoserKeepsTheBoard$Sheet;)I"⟩
abbrev cX5_robin : ByteArray := prog_1_method_18_code
def yX5_robin : MethodName := ⟨RX5, "robin", "(I)I"⟩
abbrev cX5_robinWithout : ByteArray := prog_1_method_19_code
def yX5_robinWithout : MethodName := ⟨RX5, "robinWithout", "(I)LLoserKeepsTheBoard$Club;"⟩
abbrev cX5_keptApart : ByteArray := prog_1_method_20_code
def yX5_keptApart : MethodName := ⟨RX5, "keptApart", "()I"⟩
abbrev cX5_rings : ByteArray := prog_1_method_21_code
def yX5_rings : MethodName := ⟨RX5, "rings", "()I"⟩
abbrev cX5_isRing : ByteArray := prog_1_method_22_code
def yX5_isRing : MethodName := ⟨RX5, "isRing", "(III)Z"⟩
abbrev cX5_best : ByteArray := prog_1_method_23_code
def yX5_best : MethodName := ⟨RX5, "best", "(II)I"⟩
abbrev cX5_order : ByteArray := prog_1_method_24_code
def yX5_order : MethodName := ⟨RX5, "order", "(II)I"⟩
abbrev cX5_tryOrders : ByteArray := prog_1_method_25_code
def yX5_tryOrders : MethodName := ⟨RX5, "tryOrders", "(LLoserKeepsTheBoard$Club;IIII)V"⟩
abbrev cX5_all : ByteArray := prog_1_method_26_code
def yX5_all : MethodName := ⟨RX5, "all", "(I)I"⟩
abbrev cX5_whoCouldHaveAll : ByteArray := prog_1_method_27_code
def yX5_whoCouldHaveAll : MethodName := ⟨RX5, "whoCouldHaveAll", "(LLoserKeepsTheBoard$Club;II)I"⟩
abbrev cX5_soon : ByteArray := prog_1_method_28_code
def yX5_soon : MethodName := ⟨RX5, "soon", "(II)I"⟩
abbrev cX5_tells : ByteArray := prog_1_method_29_code
def yX5_tells : MethodName := ⟨RX5, "tells", "(III)I"⟩
abbrev cX5_firstOtherwise : ByteArray := prog_1_method_30_code
def yX5_firstOtherwise : MethodName := ⟨RX5, "firstOtherwise", "(LLoserKeepsTheBoard$Club;LLoserKeepsTheBoard$Sheet;I)I"⟩
abbrev cX5_fits : ByteArray := prog_1_method_31_code
def yX5_fits : MethodName := ⟨RX5, "fits", "(LLoserKeepsTheBoard$Sheet;III)Z"⟩
abbrev cX5_howManyFit : ByteArray := prog_1_method_32_code
def yX5_howManyFit : MethodName := ⟨RX5, "howManyFit", "(LLoserKeepsTheBoard$Sheet;II)I"⟩
abbrev cX5_leastThatFits : ByteArray := prog_1_method_33_code
def yX5_leastThatFits : MethodName := ⟨RX5, "leastThatFits", "(LLoserKeepsTheBoard$Sheet;II)I"⟩
abbrev cX5_playersThatFit : ByteArray := prog_1_method_34_code
def yX5_playersThatFit : MethodName := ⟨RX5, "playersThatFit", "(LLoserKeepsTheBoard$Sheet;)I"⟩
abbrev cX5_bitsThatFit : ByteArray := prog_1_method_35_code
def yX5_bitsThatFit : MethodName := ⟨RX5, "bitsThatFit", "(LLoserKeepsTheBoard$Sheet;II)I"⟩
abbrev cX5_film : ByteArray := prog_1_method_36_code
def yX5_film : MethodName := ⟨RX5, "film", "(II)I"⟩
abbrev cX5_drawn : ByteArray := prog_1_method_37_code
def yX5_drawn : MethodName := ⟨RX5, "drawn", "(III)I"⟩
abbrev cX5_hasBehindDrawn : ByteArray := prog_1_method_38_code
def yX5_hasBehindDrawn : MethodName := ⟨RX5, "hasBehindDrawn", "(III)I"⟩
abbrev cX5_chance : ByteArray := prog_1_method_39_code
def yX5_chance : MethodName := ⟨RX5, "chance", "(IIIII)J"⟩
abbrev cX5_partOfLowest : ByteArray := prog_1_method_40_code
def yX5_partOfLowest : MethodName := ⟨RX5, "partOfLowest", "(III)I"⟩
abbrev cX5_image : ByteArray := prog_1_method_41_code
def yX5_image : MethodName := ⟨RX5, "image", "()I"⟩
abbrev cX5_back : ByteArray := prog_1_method_42_code
def yX5_back : MethodName := ⟨RX5, "back", "()I"⟩
abbrev cX5_count : ByteArray := prog_1_method_43_code
def yX5_count : MethodName := ⟨RX5, "count", "(I)I"⟩
abbrev cX5_sheet : ByteArray := prog_1_method_44_code
def yX5_sheet : MethodName := ⟨RX5, "sheet", "(III)I"⟩
abbrev cX5_cell : ByteArray := prog_1_method_45_code
def yX5_cell : MethodName := ⟨RX5, "cell", "(III)I"⟩
abbrev cX5_copy : ByteArray := prog_1_method_46_code
def yX5_copy : MethodName := ⟨RX5, "copy", "(IIIII)I"⟩
abbrev cX5_players : ByteArray := prog_1_method_47_code
def yX5_players : MethodName := ⟨RX5, "players", "(IIII)I"⟩
abbrev cX5_taken : ByteArray := prog_1_method_48_code
def yX5_taken : MethodName := ⟨RX5, "taken", "(II)I"⟩
abbrev cX5_sheetAt : ByteArray := prog_1_method_49_code
def yX5_sheetAt : MethodName := ⟨RX5, "sheetAt", "(I)LLoserKeepsTheBoard$Sheet;"⟩
abbrev cX5_think : ByteArray := prog_1_method_50_code
def yX5_think : MethodName := ⟨RX5, "think", "()LLoserKeepsTheBoard$Club;"⟩
abbrev cX5_thinkOn : ByteArray := prog_1_method_51_code
def yX5_thinkOn : MethodName := ⟨RX5, "thinkOn", "(LLoserKeepsTheBoard$Club;I)LLoserKeepsTheBoard$Club;"⟩
abbrev cX5_isWithin : ByteArray := prog_1_method_52_code
def yX5_isWithin : MethodName := ⟨RX5, "isWithin", "(III)Z"⟩
abbrev cX5_bounded : ByteArray := prog_1_method_53_code
def yX5_bounded : MethodName := ⟨RX5, "bounded", "(III)I"⟩
abbrev cX5_kindAbove : ByteArray := prog_1_method_54_code
def yX5_kindAbove : MethodName := ⟨RX5, "kindAbove", "(I)I"⟩
abbrev cX5_isOfKind : ByteArray := prog_1_method_55_code
def yX5_isOfKind : MethodName := ⟨RX5, "isOfKind", "(II)Z"⟩
def RX6 : String := "LoserKeepsTheBoardModel"
def TX6 : u_T := fun k => match k with
  | 0 => ("LoserKeepsTheBoardModel", "thrown", "I", false)
  | 1 => ("LoserKeepsTheBoardModel", "texts", "[I", true)
  | 2 => ("LoserKeepsTheBoardModel", "textSize", "[I", true)
  | 3 => ("LoserKeepsTheBoardModel", "textCount", "I", false)
  | 4 => ("LoserKeepsTheBoardModel", "rule", "I", false)
  | 5 => ("LoserKeepsTheBoardModel", "tape", "[I", true)
  | 6 => ("LoserKeepsTheBoardModel", "taped", "I", false)
  | 7 => ("LoserKeepsTheBoardModel", "roundNow", "I", false)
  | 8 => ("LoserKeepsTheBoardModel", "hall", "I", false)
  | 9 => ("LoserKeepsTheBoardModel", "kinds", "[I", true)
  | 10 => ("LoserKeepsTheBoardModel", "rows", "[I", true)
  | 11 => ("LoserKeepsTheBoardModel", "many", "I", false)
  | 12 => ("LoserKeepsTheBoardModel", "ofStrong", "I", false)
  | 13 => ("LoserKeepsTheBoardModel", "ofHas", "I", false)
  | 14 => ("LoserKeepsTheBoardModel", "ofNumber", "I", false)
  | 15 => ("LoserKeepsTheBoardModel", "ofTheirs", "I", false)
  | 16 => ("LoserKeepsTheBoardModel", "ofRound", "I", false)
  | 17 => ("LoserKeepsTheBoardModel", "ofStake", "I", false)
  | 18 => ("LoserKeepsTheBoardModel", "from", "I", false)
  | 19 => ("LoserKeepsTheBoardModel", "size", "I", false)
  | 20 => ("LoserKeepsTheBoardModel", "here", "I", false)
  | 21 => ("LoserKeepsTheBoardModel", "token", "I", false)
  | 22 => ("LoserKeepsTheBoardModel", "tokenAt", "I", false)
  | 23 => ("LoserKeepsTheBoardModel", "tokenWorth", "J", false)
  | 24 => ("LoserKeepsTheBoardModel", "open", "I", false)
  | 25 => ("LoserKeepsTheBoardModel", "bad", "Z", false)
  | 26 => ("LoserKeepsTheBoardModel", "fault", "I", false)
  | 27 => ("LoserKeepsTheBoardModel", "aside", "[I", true)
  | 28 => ("LoserKeepsTheBoardModel", "asideMany", "I", false)
  | 29 => ("LoserKeepsTheBoardModel", "bestDigits", "I", false)
  | 30 => ("LoserKeepsTheBoardModel", "bestMany", "I", false)
  | 31 => ("LoserKeepsTheBoardModel", "allSet", "I", false)
  | 32 => ("LoserKeepsTheBoardModel", "rowsKept", "[I", true)
  | 33 => ("LoserKeepsTheBoardModel", "hallKept", "I", false)
  | 34 => ("LoserKeepsTheBoardModel", "manyKept", "I", false)
  | 35 => ("LoserKeepsTheBoardModel", "roundKept", "I", false)
  | 36 => ("LoserKeepsTheBoardModel", "ruleKept", "I", false)
  | 37 => ("LoserKeepsTheBoardModel", "isThere", "[Z", true)
  | 38 => ("LoserKeepsTheBoardModel", "sorts", "[I", true)
  | 39 => ("LoserKeepsTheBoardModel", "sheetSize", "[I", true)
  | _ => ("LoserKeepsTheBoardModel", "items", "[I", true)
def tyX6 : Nat → FieldType := fun k => match k with
  | 0 => .int
  | 1 => .array .int
  | 2 => .array .int
  | 3 => .int
  | 4 => .int
  | 5 => .array .int
  | 6 => .int
  | 7 => .int
  | 8 => .int
  | 9 => .array .int
  | 10 => .array .int
  | 11 => .int
  | 12 => .int
  | 13 => .int
  | 14 => .int
  | 15 => .int
  | 16 => .int
  | 17 => .int
  | 18 => .int
  | 19 => .int
  | 20 => .int
  | 21 => .int
  | 22 => .int
  | 23 => .long
  | 24 => .int
  | 25 => .boolean
  | 26 => .int
  | 27 => .array .int
  | 28 => .int
  | 29 => .int
  | 30 => .int
  | 31 => .int
  | 32 => .array .int
  | 33 => .int
  | 34 => .int
  | 35 => .int
  | 36 => .int
  | 37 => .array .boolean
  | 38 => .array .int
  | 39 => .array .int
  | _ => .array .int
theorem nmX6 : ∀ a, a < 41 → ∀ b, b < 41 → a ≠ b → (TX6 a).2.1 ≠ (TX6 b).2.1 := by decide +kernel
theorem tyX6_ok : ∀ k, k < 41 → parseFieldDescriptor (TX6 k).2.2.1 = some (tyX6 k) := by decide +kernel
abbrev cX6_in : ByteArray := prog_8_method_2_code
def yX6_in : MethodName := ⟨RX6, "in", "(JJJ)Z"⟩
abbrev cX6_within : ByteArray := prog_8_method_3_code
def yX6_within : MethodName := ⟨RX6, "within", "(III)I"⟩
abbrev cX6_init : ByteArray := prog_8_method_4_code
def yX6_init : MethodName := ⟨RX6, "<init>", "()V"⟩
abbrev cX6_spell : ByteArray := prog_8_method_5_code
def yX6_spell : MethodName := ⟨RX6, "spell", "(IIIIIIIII)V"⟩
abbrev cX6_isOne : ByteArray := prog_8_method_6_code
def yX6_isOne : MethodName := ⟨RX6, "isOne", "(I)Z"⟩
abbrev cX6_areTwo : ByteArray := prog_8_method_7_code
def yX6_areTwo : MethodName := ⟨RX6, "areTwo", "(II)Z"⟩
abbrev cX6_isThing : ByteArray := prog_8_method_8_code
def yX6_isThing : MethodName := ⟨RX6, "isThing", "(I)Z"⟩
abbrev cX6_isOf : ByteArray := prog_8_method_9_code
def yX6_isOf : MethodName := ⟨RX6, "isOf", "(II)Z"⟩
abbrev cX6_isValue : ByteArray := prog_8_method_10_code
def yX6_isValue : MethodName := ⟨RX6, "isValue", "(II)Z"⟩
abbrev cX6_set : ByteArray := prog_8_method_11_code
def yX6_set : MethodName := ⟨RX6, "set", "(III)I"⟩
abbrev cX6_lays : ByteArray := prog_8_method_12_code
def yX6_lays : MethodName := ⟨RX6, "lays", "(III)V"⟩
abbrev cX6_moves : ByteArray := prog_8_method_13_code
def yX6_moves : MethodName := ⟨RX6, "moves", "(II)V"⟩
abbrev cX6_player : ByteArray := prog_8_method_14_code
def yX6_player : MethodName := ⟨RX6, "player", "(II)I"⟩
abbrev cX6_whereIs : ByteArray := prog_8_method_15_code
def yX6_whereIs : MethodName := ⟨RX6, "whereIs", "(I)I"⟩
abbrev cX6_bitsOf : ByteArray := prog_8_method_16_code
def yX6_bitsOf : MethodName := ⟨RX6, "bitsOf", "(I)I"⟩
abbrev cX6_has : ByteArray := prog_8_method_17_code
def yX6_has : MethodName := ⟨RX6, "has", "(I)I"⟩
abbrev cX6_hasMany : ByteArray := prog_8_method_18_code
def yX6_hasMany : MethodName := ⟨RX6, "hasMany", "(I)I"⟩
abbrev cX6_told : ByteArray := prog_8_method_19_code
def yX6_told : MethodName := ⟨RX6, "told", "(II)I"⟩
abbrev cX6_feed : ByteArray := prog_8_method_20_code
def yX6_feed : MethodName := ⟨RX6, "feed", "(I)I"⟩
abbrev cX6_byteAt : ByteArray := prog_8_method_21_code
def yX6_byteAt : MethodName := ⟨RX6, "byteAt", "(I)I"⟩
abbrev cX6_next : ByteArray := prog_8_method_22_code
def yX6_next : MethodName := ⟨RX6, "next", "()V"⟩
abbrev cX6_fail : ByteArray := prog_8_method_23_code
def yX6_fail : MethodName := ⟨RX6, "fail", "()V"⟩
abbrev cX6_isLetter : ByteArray := prog_8_method_24_code
def yX6_isLetter : MethodName := ⟨RX6, "isLetter", "(II)Z"⟩
abbrev cX6_isWord : ByteArray := prog_8_method_25_code
def yX6_isWord : MethodName := ⟨RX6, "isWord", "(IIIIIIII)Z"⟩
abbrev cX6_isSign : ByteArray := prog_8_method_26_code
def yX6_isSign : MethodName := ⟨RX6, "isSign", "(I)Z"⟩
abbrev cX6_opens : ByteArray := prog_8_method_27_code
def yX6_opens : MethodName := ⟨RX6, "opens", "()Z"⟩
abbrev cX6_name : ByteArray := prog_8_method_28_code
def yX6_name : MethodName := ⟨RX6, "name", "()I"⟩
abbrev cX6_atom : ByteArray := prog_8_method_29_code
def yX6_atom : MethodName := ⟨RX6, "atom", "()I"⟩
abbrev cX6_term : ByteArray := prog_8_method_30_code
def yX6_term : MethodName := ⟨RX6, "term", "()I"⟩
abbrev cX6_added : ByteArray := prog_8_method_31_code
def yX6_added : MethodName := ⟨RX6, "added", "()I"⟩
abbrev cX6_not : ByteArray := prog_8_method_32_code
def yX6_not : MethodName := ⟨RX6, "not", "()I"⟩
abbrev cX6_both : ByteArray := prog_8_method_33_code
def yX6_both : MethodName := ⟨RX6, "both", "()I"⟩
abbrev cX6_either : ByteArray := prog_8_method_34_code
def yX6_either : MethodName := ⟨RX6, "either", "()I"⟩
abbrev cX6_part : ByteArray := prog_8_method_35_code
def yX6_part : MethodName := ⟨RX6, "part", "(Z)I"⟩
abbrev cX6_read : ByteArray := prog_8_method_36_code
def yX6_read : MethodName := ⟨RX6, "read", "(II)I"⟩
abbrev cX6_text : ByteArray := prog_8_method_37_code
def yX6_text : MethodName := ⟨RX6, "text", "()I"⟩
abbrev cX6_force : ByteArray := prog_8_method_38_code
def yX6_force : MethodName := ⟨RX6, "force", "(I)I"⟩
abbrev cX6_says : ByteArray := prog_8_method_39_code
def yX6_says : MethodName := ⟨RX6, "says", "(III)I"⟩
abbrev cX6_throwsIt : ByteArray := prog_8_method_40_code
def yX6_throwsIt : MethodName := ⟨RX6, "throwsIt", "(II)Z"⟩
abbrev cX6_playsOf : ByteArray := prog_8_method_41_code
def yX6_playsOf : MethodName := ⟨RX6, "playsOf", "(II)I"⟩
abbrev cX6_powerOf : ByteArray := prog_8_method_42_code
def yX6_powerOf : MethodName := ⟨RX6, "powerOf", "(II)I"⟩
abbrev cX6_tiresOf : ByteArray := prog_8_method_43_code
def yX6_tiresOf : MethodName := ⟨RX6, "tiresOf", "(IIZ)I"⟩
abbrev cX6_winnerOf : ByteArray := prog_8_method_44_code
def yX6_winnerOf : MethodName := ⟨RX6, "winnerOf", "(II)I"⟩
abbrev cX6_games : ByteArray := prog_8_method_45_code
def yX6_games : MethodName := ⟨RX6, "games", "(II)I"⟩
abbrev cX6_laysAside : ByteArray := prog_8_method_46_code
def yX6_laysAside : MethodName := ⟨RX6, "laysAside", "()V"⟩
abbrev cX6_laysBack : ByteArray := prog_8_method_47_code
def yX6_laysBack : MethodName := ⟨RX6, "laysBack", "()V"⟩
abbrev cX6_asks : ByteArray := prog_8_method_48_code
def yX6_asks : MethodName := ⟨RX6, "asks", "(III)I"⟩
abbrev cX6_hasBehind : ByteArray := prog_8_method_49_code
def yX6_hasBehind : MethodName := ⟨RX6, "hasBehind", "(II)I"⟩
abbrev cX6_game : ByteArray := prog_8_method_50_code
def yX6_game : MethodName := ⟨RX6, "game", "(II)I"⟩
abbrev cX6_eveningBad : ByteArray := prog_8_method_51_code
def yX6_eveningBad : MethodName := ⟨RX6, "eveningBad", "(I)I"⟩
abbrev cX6_goes : ByteArray := prog_8_method_52_code
def yX6_goes : MethodName := ⟨RX6, "goes", "(I)I"⟩
abbrev cX6_richest : ByteArray := prog_8_method_53_code
def yX6_richest : MethodName := ⟨RX6, "richest", "()I"⟩
abbrev cX6_evening : ByteArray := prog_8_method_54_code
def yX6_evening : MethodName := ⟨RX6, "evening", "(II)I"⟩
abbrev cX6_play : ByteArray := prog_8_method_55_code
def yX6_play : MethodName := ⟨RX6, "play", "(I)I"⟩
abbrev cX6_robins : ByteArray := prog_8_method_56_code
def yX6_robins : MethodName := ⟨RX6, "robins", "(I)V"⟩
abbrev cX6_hallBehind : ByteArray := prog_8_method_57_code
def yX6_hallBehind : MethodName := ⟨RX6, "hallBehind", "(I)I"⟩
abbrev cX6_apart : ByteArray := prog_8_method_58_code
def yX6_apart : MethodName := ⟨RX6, "apart", "()I"⟩
abbrev cX6_ringMany : ByteArray := prog_8_method_59_code
def yX6_ringMany : MethodName := ⟨RX6, "ringMany", "()I"⟩
abbrev cX6_robin : ByteArray := prog_8_method_60_code
def yX6_robin : MethodName := ⟨RX6, "robin", "(I)I"⟩
abbrev cX6_best : ByteArray := prog_8_method_61_code
def yX6_best : MethodName := ⟨RX6, "best", "(II)I"⟩
abbrev cX6_orders : ByteArray := prog_8_method_62_code
def yX6_orders : MethodName := ⟨RX6, "orders", "(III)V"⟩
abbrev cX6_order : ByteArray := prog_8_method_63_code
def yX6_order : MethodName := ⟨RX6, "order", "(II)I"⟩
abbrev cX6_tries : ByteArray := prog_8_method_64_code
def yX6_tries : MethodName := ⟨RX6, "tries", "(I)V"⟩
abbrev cX6_all : ByteArray := prog_8_method_65_code
def yX6_all : MethodName := ⟨RX6, "all", "(I)I"⟩
abbrev cX6_soon : ByteArray := prog_8_method_66_code
def yX6_soon : MethodName := ⟨RX6, "soon", "(II)I"⟩
abbrev cX6_firstOther : ByteArray := prog_8_method_67_code
def yX6_firstOther : MethodName := ⟨RX6, "firstOther", "(II)I"⟩
abbrev cX6_likeSet : ByteArray := prog_8_method_68_code
def yX6_likeSet : MethodName := ⟨RX6, "likeSet", "(I)I"⟩
abbrev cX6_tells : ByteArray := prog_8_method_69_code
def yX6_tells : MethodName := ⟨RX6, "tells", "(III)I"⟩
abbrev cX6_film : ByteArray := prog_8_method_70_code
def yX6_film : MethodName := ⟨RX6, "film", "(II)I"⟩
abbrev cX6_hasDrawn : ByteArray := prog_8_method_71_code
def yX6_hasDrawn : MethodName := ⟨RX6, "hasDrawn", "(III)I"⟩
abbrev cX6_drawn : ByteArray := prog_8_method_72_code
def yX6_drawn : MethodName := ⟨RX6, "drawn", "(III)I"⟩
abbrev cX6_chance : ByteArray := prog_8_method_73_code
def yX6_chance : MethodName := ⟨RX6, "chance", "(IIIII)J"⟩
abbrev cX6_image : ByteArray := prog_8_method_74_code
def yX6_image : MethodName := ⟨RX6, "image", "()I"⟩
abbrev cX6_back : ByteArray := prog_8_method_75_code
def yX6_back : MethodName := ⟨RX6, "back", "()I"⟩
abbrev cX6_count : ByteArray := prog_8_method_76_code
def yX6_count : MethodName := ⟨RX6, "count", "(I)I"⟩
abbrev cX6_isSheet : ByteArray := prog_8_method_77_code
def yX6_isSheet : MethodName := ⟨RX6, "isSheet", "(I)Z"⟩
abbrev cX6_sheet : ByteArray := prog_8_method_78_code
def yX6_sheet : MethodName := ⟨RX6, "sheet", "(III)I"⟩
abbrev cX6_cell : ByteArray := prog_8_method_79_code
def yX6_cell : MethodName := ⟨RX6, "cell", "(III)I"⟩
abbrev cX6_copy : ByteArray := prog_8_method_80_code
def yX6_copy : MethodName := ⟨RX6, "copy", "(IIIII)I"⟩
abbrev cX6_players : ByteArray := prog_8_method_81_code
def yX6_players : MethodName := ⟨RX6, "players", "(IIII)I"⟩
abbrev cX6_over : ByteArray := prog_8_method_82_code
def yX6_over : MethodName := ⟨RX6, "over", "(I)I"⟩
abbrev cX6_taken : ByteArray := prog_8_method_83_code
def yX6_taken : MethodName := ⟨RX6, "taken", "(II)I"⟩
def RJ6 : String := "java/lang/Integer"
def TJ6 : u_T := fun k => match k with
  | _ => ("", "", "", false)
def tyJ6 : Nat → FieldType := fun k => match k with
  | _ => .int
theorem nmJ6 : ∀ a, a < 0 → ∀ b, b < 0 → a ≠ b → (TJ6 a).2.1 ≠ (TJ6 b).2.1 := by decide +kernel
theorem tyJ6_ok : ∀ k, k < 0 → parseFieldDescriptor (TJ6 k).2.2.1 = some (tyJ6 k) := by decide +kernel
abbrev cJ6_bitCount_0f7a4 : ByteArray := prog_9_method_49_code
def yJ6_bitCount_0f7a4 : MethodName := ⟨RJ6, "bitCount", "(I)I"⟩
def RJ0 : String := "java/lang/String"
def TJ0 : u_T := fun k => match k with
  | _ => ("", "", "", false)
def tyJ0 : Nat → FieldType := fun k => match k with
  | _ => .int
theorem nmJ0 : ∀ a, a < 0 → ∀ b, b < 0 → a ≠ b → (TJ0 a).2.1 ≠ (TJ0 b).2.1 := by decide +kernel
theorem tyJ0_ok : ∀ k, k < 0 → parseFieldDescriptor (TJ0 k).2.2.1 = some (tyJ0 k) := by decide +kernel
abbrev cJ0_length_8abf5 : ByteArray := prog_10_method_54_code
def yJ0_length_8abf5 : MethodName := ⟨RJ0, "length", "()I"⟩
abbrev cJ0_charAt_5068e : ByteArray := prog_10_method_56_code
def yJ0_charAt_5068e : MethodName := ⟨RJ0, "charAt", "(I)C"⟩
abbrev cJ0_coder_7d493 : ByteArray := prog_10_method_152_code
def yJ0_coder_7d493 : MethodName := ⟨RJ0, "coder", "()B"⟩
abbrev cJ0_isLatin1_aae02 : ByteArray := prog_10_method_154_code
def yJ0_isLatin1_aae02 : MethodName := ⟨RJ0, "isLatin1", "()Z"⟩
abbrev cJ0_checkIndex_df160 : ByteArray := prog_10_method_155_code
def yJ0_checkIndex_df160 : MethodName := ⟨RJ0, "checkIndex", "(II)V"⟩
def RJ1 : String := "java/lang/StringLatin1"
def TJ1 : u_T := fun k => match k with
  | _ => ("", "", "", false)
def tyJ1 : Nat → FieldType := fun k => match k with
  | _ => .int
theorem nmJ1 : ∀ a, a < 0 → ∀ b, b < 0 → a ≠ b → (TJ1 a).2.1 ≠ (TJ1 b).2.1 := by decide +kernel
theorem tyJ1_ok : ∀ k, k < 0 → parseFieldDescriptor (TJ1 k).2.2.1 = some (tyJ1 k) := by decide +kernel
abbrev cJ1_charAt_3b067 : ByteArray := prog_11_method_2_code
def yJ1_charAt_3b067 : MethodName := ⟨RJ1, "charAt", "([BI)C"⟩
def RJ2 : String := "java/lang/StringUTF16"
def TJ2 : u_T := fun k => match k with
  | _ => ("", "", "", false)
def tyJ2 : Nat → FieldType := fun k => match k with
  | _ => .int
theorem nmJ2 : ∀ a, a < 0 → ∀ b, b < 0 → a ≠ b → (TJ2 a).2.1 ≠ (TJ2 b).2.1 := by decide +kernel
theorem tyJ2_ok : ∀ k, k < 0 → parseFieldDescriptor (TJ2 k).2.2.1 = some (tyJ2 k) := by decide +kernel
abbrev cJ2_getChar_3b067 : ByteArray := prog_12_method_5_code
def yJ2_getChar_3b067 : MethodName := ⟨RJ2, "getChar", "([BI)C"⟩
abbrev cJ2_length_9d52b : ByteArray := prog_12_method_6_code
def yJ2_length_9d52b : MethodName := ⟨RJ2, "length", "([B)I"⟩
abbrev cJ2_charAt_3b067 : ByteArray := prog_12_method_83_code
def yJ2_charAt_3b067 : MethodName := ⟨RJ2, "charAt", "([BI)C"⟩
abbrev cJ2_checkIndex_2214a : ByteArray := prog_12_method_91_code
def yJ2_checkIndex_2214a : MethodName := ⟨RJ2, "checkIndex", "(I[B)V"⟩
def RJ10 : String := "java/lang/System"
def TJ10 : u_T := fun k => match k with
  | _ => ("", "", "", false)
def tyJ10 : Nat → FieldType := fun k => match k with
  | _ => .int
theorem nmJ10 : ∀ a, a < 0 → ∀ b, b < 0 → a ≠ b → (TJ10 a).2.1 ≠ (TJ10 b).2.1 := by decide +kernel
def RJ3 : String := "jdk/internal/util/Preconditions"
def TJ3 : u_T := fun k => match k with
  | _ => ("", "", "", false)
def tyJ3 : Nat → FieldType := fun k => match k with
  | _ => .int
theorem nmJ3 : ∀ a, a < 0 → ∀ b, b < 0 → a ≠ b → (TJ3 a).2.1 ≠ (TJ3 b).2.1 := by decide +kernel
theorem tyJ3_ok : ∀ k, k < 0 → parseFieldDescriptor (TJ3 k).2.2.1 = some (tyJ3 k) := by decide +kernel
abbrev cJ3_checkIndex_8e157 : ByteArray := prog_14_method_11_code
def yJ3_checkIndex_8e157 : MethodName := ⟨RJ3, "checkIndex", "(IILjava/util/function/BiFunction;)I"⟩
def RL : String := "LoserKeepsTheBoardLaw"
abbrev cL_law : ByteArray := code
def yL_law : MethodName := ⟨RL, "law", "([I)Z"⟩
end
section
theorem dX6_in_0 : decode cX6_in 0 = .ok (.lload_n 0, 1) := by decide +kernel
theorem dX6_in_1 : decode cX6_in 1 = .ok (.lload_n 2, 1) := by decide +kernel
theorem dX6_in_2 : decode cX6_in 2 = .ok (.lcmp, 1) := by decide +kernel
theorem dX6_in_3 : decode cX6_in 3 = .ok (.ifCond .lt 14, 3) := by decide +kernel
theorem dX6_in_6 : decode cX6_in 6 = .ok (.lload_n 0, 1) := by decide +kernel
theorem dX6_in_7 : decode cX6_in 7 = .ok (.lload 4, 2) := by decide +kernel
theorem dX6_in_9 : decode cX6_in 9 = .ok (.lcmp, 1) := by decide +kernel
theorem dX6_in_10 : decode cX6_in 10 = .ok (.ifCond .gt 7, 3) := by decide +kernel
theorem dX6_in_13 : decode cX6_in 13 = .ok (.iconst 1, 1) := by decide +kernel
theorem dX6_in_14 : decode cX6_in 14 = .ok (.goto 4, 3) := by decide +kernel
theorem dX6_in_17 : decode cX6_in 17 = .ok (.iconst 0, 1) := by decide +kernel
theorem dX6_in_18 : decode cX6_in 18 = .ok (.ireturn, 1) := by decide +kernel
theorem dX6_within_0 : decode cX6_within 0 = .ok (.iload_n 0, 1) := by decide +kernel
theorem dX6_within_1 : decode cX6_within 1 = .ok (.iload_n 1, 1) := by decide +kernel
theorem dX6_within_2 : decode cX6_within 2 = .ok (.if_icmp .ge 7, 3) := by decide +kernel
theorem dX6_within_5 : decode cX6_within 5 = .ok (.iload_n 1, 1) := by decide +kernel
theorem dX6_within_6 : decode cX6_within 6 = .ok (.goto 13, 3) := by decide +kernel
theorem dX6_within_9 : decode cX6_within 9 = .ok (.iload_n 0, 1) := by decide +kernel
theorem dX6_within_10 : decode cX6_within 10 = .ok (.iload_n 2, 1) := by decide +kernel
theorem dX6_within_11 : decode cX6_within 11 = .ok (.if_icmp .le 7, 3) := by decide +kernel
theorem dX6_within_14 : decode cX6_within 14 = .ok (.iload_n 2, 1) := by decide +kernel
theorem dX6_within_15 : decode cX6_within 15 = .ok (.goto 4, 3) := by decide +kernel
theorem dX6_within_18 : decode cX6_within 18 = .ok (.iload_n 0, 1) := by decide +kernel
theorem dX6_within_19 : decode cX6_within 19 = .ok (.ireturn, 1) := by decide +kernel
theorem dX6_init_0 : decode cX6_init 0 = .ok (.aload_n 0, 1) := by decide +kernel
theorem dX6_init_1 : decode cX6_init 1 = .ok (.invokespecial 7, 3) := by decide +kernel
theorem dX6_init_4 : decode cX6_init 4 = .ok (.aload_n 0, 1) := by decide +kernel
theorem dX6_init_5 : decode cX6_init 5 = .ok (.sipush 960, 3) := by decide +kernel
theorem dX6_init_8 : decode cX6_init 8 = .ok (.newarray .int, 2) := by decide +kernel
theorem dX6_init_10 : decode cX6_init 10 = .ok (.putfield 13, 3) := by decide +kernel
theorem dX6_init_13 : decode cX6_init 13 = .ok (.aload_n 0, 1) := by decide +kernel
theorem dX6_init_14 : decode cX6_init 14 = .ok (.bipush 6, 2) := by decide +kernel
theorem dX6_init_16 : decode cX6_init 16 = .ok (.newarray .int, 2) := by decide +kernel
theorem dX6_init_18 : decode cX6_init 18 = .ok (.putfield 17, 3) := by decide +kernel
theorem dX6_init_21 : decode cX6_init 21 = .ok (.aload_n 0, 1) := by decide +kernel
theorem dX6_init_22 : decode cX6_init 22 = .ok (.sipush 160, 3) := by decide +kernel
theorem dX6_init_25 : decode cX6_init 25 = .ok (.newarray .int, 2) := by decide +kernel
theorem dX6_init_27 : decode cX6_init 27 = .ok (.putfield 20, 3) := by decide +kernel
theorem dX6_init_30 : decode cX6_init 30 = .ok (.aload_n 0, 1) := by decide +kernel
theorem dX6_init_31 : decode cX6_init 31 = .ok (.sipush 255, 3) := by decide +kernel
theorem dX6_init_34 : decode cX6_init 34 = .ok (.putfield 23, 3) := by decide +kernel
theorem dX6_init_37 : decode cX6_init 37 = .ok (.aload_n 0, 1) := by decide +kernel
theorem dX6_init_38 : decode cX6_init 38 = .ok (.bipush 6, 2) := by decide +kernel
theorem dX6_init_40 : decode cX6_init 40 = .ok (.newarray .int, 2) := by decide +kernel
theorem dX6_init_42 : decode cX6_init 42 = .ok (.putfield 26, 3) := by decide +kernel
theorem dX6_init_45 : decode cX6_init 45 = .ok (.aload_n 0, 1) := by decide +kernel
theorem dX6_init_46 : decode cX6_init 46 = .ok (.bipush 24, 2) := by decide +kernel
theorem dX6_init_48 : decode cX6_init 48 = .ok (.newarray .int, 2) := by decide +kernel
theorem dX6_init_50 : decode cX6_init 50 = .ok (.putfield 29, 3) := by decide +kernel
theorem dX6_init_53 : decode cX6_init 53 = .ok (.aload_n 0, 1) := by decide +kernel
theorem dX6_init_54 : decode cX6_init 54 = .ok (.sipush 208, 3) := by decide +kernel
theorem dX6_init_57 : decode cX6_init 57 = .ok (.newarray .int, 2) := by decide +kernel
theorem dX6_init_59 : decode cX6_init 59 = .ok (.putfield 32, 3) := by decide +kernel
theorem dX6_init_62 : decode cX6_init 62 = .ok (.aload_n 0, 1) := by decide +kernel
theorem dX6_init_63 : decode cX6_init 63 = .ok (.bipush 24, 2) := by decide +kernel
theorem dX6_init_65 : decode cX6_init 65 = .ok (.newarray .int, 2) := by decide +kernel
theorem dX6_init_67 : decode cX6_init 67 = .ok (.putfield 35, 3) := by decide +kernel
theorem dX6_init_70 : decode cX6_init 70 = .ok (.aload_n 0, 1) := by decide +kernel
theorem dX6_init_71 : decode cX6_init 71 = .ok (.iconst (-1), 1) := by decide +kernel
theorem dX6_init_72 : decode cX6_init 72 = .ok (.putfield 38, 3) := by decide +kernel
theorem dX6_init_75 : decode cX6_init 75 = .ok (.aload_n 0, 1) := by decide +kernel
theorem dX6_init_76 : decode cX6_init 76 = .ok (.iconst 4, 1) := by decide +kernel
theorem dX6_init_77 : decode cX6_init 77 = .ok (.newarray .boolean, 2) := by decide +kernel
theorem dX6_init_79 : decode cX6_init 79 = .ok (.putfield 41, 3) := by decide +kernel
theorem dX6_init_82 : decode cX6_init 82 = .ok (.aload_n 0, 1) := by decide +kernel
theorem dX6_init_83 : decode cX6_init 83 = .ok (.iconst 4, 1) := by decide +kernel
theorem dX6_init_84 : decode cX6_init 84 = .ok (.newarray .int, 2) := by decide +kernel
theorem dX6_init_86 : decode cX6_init 86 = .ok (.putfield 45, 3) := by decide +kernel
theorem dX6_init_89 : decode cX6_init 89 = .ok (.aload_n 0, 1) := by decide +kernel
theorem dX6_init_90 : decode cX6_init 90 = .ok (.iconst 4, 1) := by decide +kernel
theorem dX6_init_91 : decode cX6_init 91 = .ok (.newarray .int, 2) := by decide +kernel
theorem dX6_init_93 : decode cX6_init 93 = .ok (.putfield 48, 3) := by decide +kernel
theorem dX6_init_96 : decode cX6_init 96 = .ok (.aload_n 0, 1) := by decide +kernel
theorem dX6_init_97 : decode cX6_init 97 = .ok (.sipush 160, 3) := by decide +kernel
theorem dX6_init_100 : decode cX6_init 100 = .ok (.newarray .int, 2) := by decide +kernel
theorem dX6_init_102 : decode cX6_init 102 = .ok (.putfield 51, 3) := by decide +kernel
theorem dX6_init_105 : decode cX6_init 105 = .ok (.aload_n 0, 1) := by decide +kernel
theorem dX6_init_106 : decode cX6_init 106 = .ok (.iconst 0, 1) := by decide +kernel
theorem dX6_init_107 : decode cX6_init 107 = .ok (.bipush 112, 2) := by decide +kernel
theorem dX6_init_109 : decode cX6_init 109 = .ok (.bipush 108, 2) := by decide +kernel
theorem dX6_init_111 : decode cX6_init 111 = .ok (.bipush 97, 2) := by decide +kernel
theorem dX6_init_113 : decode cX6_init 113 = .ok (.bipush 121, 2) := by decide +kernel
theorem dX6_init_115 : decode cX6_init 115 = .ok (.bipush 115, 2) := by decide +kernel
theorem dX6_init_117 : decode cX6_init 117 = .ok (.bipush 32, 2) := by decide +kernel
theorem dX6_init_119 : decode cX6_init 119 = .ok (.bipush 115, 2) := by decide +kernel
theorem dX6_init_121 : decode cX6_init 121 = .ok (.bipush 116, 2) := by decide +kernel
theorem dX6_init_123 : decode cX6_init 123 = .ok (.invokevirtual 54, 3) := by decide +kernel
theorem dX6_init_126 : decode cX6_init 126 = .ok (.aload_n 0, 1) := by decide +kernel
theorem dX6_init_127 : decode cX6_init 127 = .ok (.bipush 8, 2) := by decide +kernel
theorem dX6_init_129 : decode cX6_init 129 = .ok (.bipush 114, 2) := by decide +kernel
theorem dX6_init_131 : decode cX6_init 131 = .ok (.bipush 111, 2) := by decide +kernel
theorem dX6_init_133 : decode cX6_init 133 = .ok (.bipush 110, 2) := by decide +kernel
theorem dX6_init_135 : decode cX6_init 135 = .ok (.bipush 103, 2) := by decide +kernel
theorem dX6_init_137 : decode cX6_init 137 = .ok (.bipush 32, 2) := by decide +kernel
theorem dX6_init_139 : decode cX6_init 139 = .ok (.bipush 59, 2) := by decide +kernel
theorem dX6_init_141 : decode cX6_init 141 = .ok (.bipush 32, 2) := by decide +kernel
theorem dX6_init_143 : decode cX6_init 143 = .ok (.bipush 116, 2) := by decide +kernel
theorem dX6_init_145 : decode cX6_init 145 = .ok (.invokevirtual 54, 3) := by decide +kernel
theorem dX6_init_148 : decode cX6_init 148 = .ok (.aload_n 0, 1) := by decide +kernel
theorem dX6_init_149 : decode cX6_init 149 = .ok (.bipush 16, 2) := by decide +kernel
theorem dX6_init_151 : decode cX6_init 151 = .ok (.bipush 104, 2) := by decide +kernel
theorem dX6_init_153 : decode cX6_init 153 = .ok (.bipush 114, 2) := by decide +kernel
theorem dX6_init_155 : decode cX6_init 155 = .ok (.bipush 111, 2) := by decide +kernel
theorem dX6_init_157 : decode cX6_init 157 = .ok (.bipush 119, 2) := by decide +kernel
theorem dX6_init_159 : decode cX6_init 159 = .ok (.bipush 115, 2) := by decide +kernel
theorem dX6_init_161 : decode cX6_init 161 = .ok (.bipush 32, 2) := by decide +kernel
theorem dX6_init_163 : decode cX6_init 163 = .ok (.bipush 104, 2) := by decide +kernel
theorem dX6_init_165 : decode cX6_init 165 = .ok (.bipush 97, 2) := by decide +kernel
theorem dX6_init_167 : decode cX6_init 167 = .ok (.invokevirtual 54, 3) := by decide +kernel
theorem dX6_init_170 : decode cX6_init 170 = .ok (.aload_n 0, 1) := by decide +kernel
theorem dX6_init_171 : decode cX6_init 171 = .ok (.bipush 24, 2) := by decide +kernel
theorem dX6_init_173 : decode cX6_init 173 = .ok (.bipush 115, 2) := by decide +kernel
theorem dX6_init_175 : decode cX6_init 175 = .ok (.bipush 32, 2) := by decide +kernel
theorem dX6_init_177 : decode cX6_init 177 = .ok (.bipush 60, 2) := by decide +kernel
theorem dX6_init_179 : decode cX6_init 179 = .ok (.bipush 32, 2) := by decide +kernel
theorem dX6_init_181 : decode cX6_init 181 = .ok (.bipush 49, 2) := by decide +kernel
theorem dX6_init_183 : decode cX6_init 183 = .ok (.bipush 32, 2) := by decide +kernel
theorem dX6_init_185 : decode cX6_init 185 = .ok (.bipush 59, 2) := by decide +kernel
theorem dX6_init_187 : decode cX6_init 187 = .ok (.bipush 32, 2) := by decide +kernel
theorem dX6_init_189 : decode cX6_init 189 = .ok (.invokevirtual 54, 3) := by decide +kernel
theorem dX6_init_192 : decode cX6_init 192 = .ok (.aload_n 0, 1) := by decide +kernel
theorem dX6_init_193 : decode cX6_init 193 = .ok (.bipush 32, 2) := by decide +kernel
theorem dX6_init_195 : decode cX6_init 195 = .ok (.bipush 116, 2) := by decide +kernel
theorem dX6_init_197 : decode cX6_init 197 = .ok (.bipush 105, 2) := by decide +kernel
theorem dX6_init_199 : decode cX6_init 199 = .ok (.bipush 114, 2) := by decide +kernel
theorem dX6_init_201 : decode cX6_init 201 = .ok (.bipush 101, 2) := by decide +kernel
theorem dX6_init_203 : decode cX6_init 203 = .ok (.bipush 115, 2) := by decide +kernel
theorem dX6_init_205 : decode cX6_init 205 = .ok (.bipush 32, 2) := by decide +kernel
theorem dX6_init_207 : decode cX6_init 207 = .ok (.bipush 49, 2) := by decide +kernel
theorem dX6_init_209 : decode cX6_init 209 = .ok (.bipush 32, 2) := by decide +kernel
theorem dX6_init_211 : decode cX6_init 211 = .ok (.invokevirtual 54, 3) := by decide +kernel
theorem dX6_init_214 : decode cX6_init 214 = .ok (.aload_n 0, 1) := by decide +kernel
theorem dX6_init_215 : decode cX6_init 215 = .ok (.bipush 40, 2) := by decide +kernel
theorem dX6_init_217 : decode cX6_init 217 = .ok (.bipush 59, 2) := by decide +kernel
theorem dX6_init_219 : decode cX6_init 219 = .ok (.bipush 32, 2) := by decide +kernel
theorem dX6_init_221 : decode cX6_init 221 = .ok (.bipush 32, 2) := by decide +kernel
theorem dX6_init_223 : decode cX6_init 223 = .ok (.bipush 32, 2) := by decide +kernel
theorem dX6_init_225 : decode cX6_init 225 = .ok (.bipush 32, 2) := by decide +kernel
theorem dX6_init_227 : decode cX6_init 227 = .ok (.bipush 32, 2) := by decide +kernel
theorem dX6_init_229 : decode cX6_init 229 = .ok (.bipush 32, 2) := by decide +kernel
theorem dX6_init_231 : decode cX6_init 231 = .ok (.bipush 32, 2) := by decide +kernel
theorem dX6_init_233 : decode cX6_init 233 = .ok (.invokevirtual 54, 3) := by decide +kernel
theorem dX6_init_236 : decode cX6_init 236 = .ok (.aload_n 0, 1) := by decide +kernel
theorem dX6_init_237 : decode cX6_init 237 = .ok (.getfield 17, 3) := by decide +kernel
theorem dX6_init_240 : decode cX6_init 240 = .ok (.iconst 0, 1) := by decide +kernel
theorem dX6_init_241 : decode cX6_init 241 = .ok (.bipush 48, 2) := by decide +kernel
theorem dX6_init_243 : decode cX6_init 243 = .ok (.iastore, 1) := by decide +kernel
theorem dX6_init_244 : decode cX6_init 244 = .ok (.aload_n 0, 1) := by decide +kernel
theorem dX6_init_245 : decode cX6_init 245 = .ok (.iconst 1, 1) := by decide +kernel
theorem dX6_init_246 : decode cX6_init 246 = .ok (.putfield 58, 3) := by decide +kernel
theorem dX6_init_249 : decode cX6_init 249 = .ok (.return_, 1) := by decide +kernel
theorem dX6_spell_0 : decode cX6_spell 0 = .ok (.aload_n 0, 1) := by decide +kernel
theorem dX6_spell_1 : decode cX6_spell 1 = .ok (.getfield 13, 3) := by decide +kernel
theorem dX6_spell_4 : decode cX6_spell 4 = .ok (.iload_n 1, 1) := by decide +kernel
theorem dX6_spell_5 : decode cX6_spell 5 = .ok (.iload_n 2, 1) := by decide +kernel
theorem dX6_spell_6 : decode cX6_spell 6 = .ok (.iastore, 1) := by decide +kernel
theorem dX6_spell_7 : decode cX6_spell 7 = .ok (.aload_n 0, 1) := by decide +kernel
theorem dX6_spell_8 : decode cX6_spell 8 = .ok (.getfield 13, 3) := by decide +kernel
theorem dX6_spell_11 : decode cX6_spell 11 = .ok (.iload_n 1, 1) := by decide +kernel
theorem dX6_spell_12 : decode cX6_spell 12 = .ok (.iconst 1, 1) := by decide +kernel
theorem dX6_spell_13 : decode cX6_spell 13 = .ok (.iadd, 1) := by decide +kernel
theorem dX6_spell_14 : decode cX6_spell 14 = .ok (.iload_n 3, 1) := by decide +kernel
theorem dX6_spell_15 : decode cX6_spell 15 = .ok (.iastore, 1) := by decide +kernel
theorem dX6_spell_16 : decode cX6_spell 16 = .ok (.aload_n 0, 1) := by decide +kernel
theorem dX6_spell_17 : decode cX6_spell 17 = .ok (.getfield 13, 3) := by decide +kernel
theorem dX6_spell_20 : decode cX6_spell 20 = .ok (.iload_n 1, 1) := by decide +kernel
theorem dX6_spell_21 : decode cX6_spell 21 = .ok (.iconst 2, 1) := by decide +kernel
theorem dX6_spell_22 : decode cX6_spell 22 = .ok (.iadd, 1) := by decide +kernel
theorem dX6_spell_23 : decode cX6_spell 23 = .ok (.iload 4, 2) := by decide +kernel
theorem dX6_spell_25 : decode cX6_spell 25 = .ok (.iastore, 1) := by decide +kernel
theorem dX6_spell_26 : decode cX6_spell 26 = .ok (.aload_n 0, 1) := by decide +kernel
theorem dX6_spell_27 : decode cX6_spell 27 = .ok (.getfield 13, 3) := by decide +kernel
theorem dX6_spell_30 : decode cX6_spell 30 = .ok (.iload_n 1, 1) := by decide +kernel
theorem dX6_spell_31 : decode cX6_spell 31 = .ok (.iconst 3, 1) := by decide +kernel
theorem dX6_spell_32 : decode cX6_spell 32 = .ok (.iadd, 1) := by decide +kernel
theorem dX6_spell_33 : decode cX6_spell 33 = .ok (.iload 5, 2) := by decide +kernel
theorem dX6_spell_35 : decode cX6_spell 35 = .ok (.iastore, 1) := by decide +kernel
theorem dX6_spell_36 : decode cX6_spell 36 = .ok (.aload_n 0, 1) := by decide +kernel
theorem dX6_spell_37 : decode cX6_spell 37 = .ok (.getfield 13, 3) := by decide +kernel
theorem dX6_spell_40 : decode cX6_spell 40 = .ok (.iload_n 1, 1) := by decide +kernel
theorem dX6_spell_41 : decode cX6_spell 41 = .ok (.iconst 4, 1) := by decide +kernel
theorem dX6_spell_42 : decode cX6_spell 42 = .ok (.iadd, 1) := by decide +kernel
theorem dX6_spell_43 : decode cX6_spell 43 = .ok (.iload 6, 2) := by decide +kernel
theorem dX6_spell_45 : decode cX6_spell 45 = .ok (.iastore, 1) := by decide +kernel
theorem dX6_spell_46 : decode cX6_spell 46 = .ok (.aload_n 0, 1) := by decide +kernel
theorem dX6_spell_47 : decode cX6_spell 47 = .ok (.getfield 13, 3) := by decide +kernel
theorem dX6_spell_50 : decode cX6_spell 50 = .ok (.iload_n 1, 1) := by decide +kernel
theorem dX6_spell_51 : decode cX6_spell 51 = .ok (.iconst 5, 1) := by decide +kernel
theorem dX6_spell_52 : decode cX6_spell 52 = .ok (.iadd, 1) := by decide +kernel
theorem dX6_spell_53 : decode cX6_spell 53 = .ok (.iload 7, 2) := by decide +kernel
theorem dX6_spell_55 : decode cX6_spell 55 = .ok (.iastore, 1) := by decide +kernel
theorem dX6_spell_56 : decode cX6_spell 56 = .ok (.aload_n 0, 1) := by decide +kernel
theorem dX6_spell_57 : decode cX6_spell 57 = .ok (.getfield 13, 3) := by decide +kernel
theorem dX6_spell_60 : decode cX6_spell 60 = .ok (.iload_n 1, 1) := by decide +kernel
theorem dX6_spell_61 : decode cX6_spell 61 = .ok (.bipush 6, 2) := by decide +kernel
theorem dX6_spell_63 : decode cX6_spell 63 = .ok (.iadd, 1) := by decide +kernel
theorem dX6_spell_64 : decode cX6_spell 64 = .ok (.iload 8, 2) := by decide +kernel
theorem dX6_spell_66 : decode cX6_spell 66 = .ok (.iastore, 1) := by decide +kernel
theorem dX6_spell_67 : decode cX6_spell 67 = .ok (.aload_n 0, 1) := by decide +kernel
theorem dX6_spell_68 : decode cX6_spell 68 = .ok (.getfield 13, 3) := by decide +kernel
theorem dX6_spell_71 : decode cX6_spell 71 = .ok (.iload_n 1, 1) := by decide +kernel
theorem dX6_spell_72 : decode cX6_spell 72 = .ok (.bipush 7, 2) := by decide +kernel
theorem dX6_spell_74 : decode cX6_spell 74 = .ok (.iadd, 1) := by decide +kernel
theorem dX6_spell_75 : decode cX6_spell 75 = .ok (.iload 9, 2) := by decide +kernel
theorem dX6_spell_77 : decode cX6_spell 77 = .ok (.iastore, 1) := by decide +kernel
theorem dX6_spell_78 : decode cX6_spell 78 = .ok (.return_, 1) := by decide +kernel
theorem dX6_isOne_0 : decode cX6_isOne 0 = .ok (.iload_n 1, 1) := by decide +kernel
theorem dX6_isOne_1 : decode cX6_isOne 1 = .ok (.i2l, 1) := by decide +kernel
theorem dX6_isOne_2 : decode cX6_isOne 2 = .ok (.lconst 0, 1) := by decide +kernel
theorem dX6_isOne_3 : decode cX6_isOne 3 = .ok (.aload_n 0, 1) := by decide +kernel
theorem dX6_isOne_4 : decode cX6_isOne 4 = .ok (.getfield 61, 3) := by decide +kernel
theorem dX6_isOne_7 : decode cX6_isOne 7 = .ok (.iconst 1, 1) := by decide +kernel
theorem dX6_isOne_8 : decode cX6_isOne 8 = .ok (.isub, 1) := by decide +kernel
theorem dX6_isOne_9 : decode cX6_isOne 9 = .ok (.i2l, 1) := by decide +kernel
theorem dX6_isOne_10 : decode cX6_isOne 10 = .ok (.invokestatic 64, 3) := by decide +kernel
theorem dX6_isOne_13 : decode cX6_isOne 13 = .ok (.ireturn, 1) := by decide +kernel
theorem dX6_areTwo_0 : decode cX6_areTwo 0 = .ok (.aload_n 0, 1) := by decide +kernel
theorem dX6_areTwo_1 : decode cX6_areTwo 1 = .ok (.iload_n 1, 1) := by decide +kernel
theorem dX6_areTwo_2 : decode cX6_areTwo 2 = .ok (.invokevirtual 68, 3) := by decide +kernel
theorem dX6_areTwo_5 : decode cX6_areTwo 5 = .ok (.ifCond .eq 20, 3) := by decide +kernel
theorem dX6_areTwo_8 : decode cX6_areTwo 8 = .ok (.aload_n 0, 1) := by decide +kernel
theorem dX6_areTwo_9 : decode cX6_areTwo 9 = .ok (.iload_n 2, 1) := by decide +kernel
theorem dX6_areTwo_10 : decode cX6_areTwo 10 = .ok (.invokevirtual 68, 3) := by decide +kernel
theorem dX6_areTwo_13 : decode cX6_areTwo 13 = .ok (.ifCond .eq 12, 3) := by decide +kernel
theorem dX6_areTwo_16 : decode cX6_areTwo 16 = .ok (.iload_n 1, 1) := by decide +kernel
theorem dX6_areTwo_17 : decode cX6_areTwo 17 = .ok (.iload_n 2, 1) := by decide +kernel
theorem dX6_areTwo_18 : decode cX6_areTwo 18 = .ok (.if_icmp .eq 7, 3) := by decide +kernel
theorem dX6_areTwo_21 : decode cX6_areTwo 21 = .ok (.iconst 1, 1) := by decide +kernel
theorem dX6_areTwo_22 : decode cX6_areTwo 22 = .ok (.goto 4, 3) := by decide +kernel
theorem dX6_areTwo_25 : decode cX6_areTwo 25 = .ok (.iconst 0, 1) := by decide +kernel
theorem dX6_areTwo_26 : decode cX6_areTwo 26 = .ok (.ireturn, 1) := by decide +kernel
theorem dX6_isThing_0 : decode cX6_isThing 0 = .ok (.iload_n 0, 1) := by decide +kernel
theorem dX6_isThing_1 : decode cX6_isThing 1 = .ok (.i2l, 1) := by decide +kernel
theorem dX6_isThing_2 : decode cX6_isThing 2 = .ok (.lconst 0, 1) := by decide +kernel
theorem dX6_isThing_3 : decode cX6_isThing 3 = .ok (.ldc2_w 72, 3) := by decide +kernel
theorem dX6_isThing_6 : decode cX6_isThing 6 = .ok (.invokestatic 64, 3) := by decide +kernel
theorem dX6_isThing_9 : decode cX6_isThing 9 = .ok (.ireturn, 1) := by decide +kernel
theorem dX6_isOf_0 : decode cX6_isOf 0 = .ok (.iload_n 1, 1) := by decide +kernel
theorem dX6_isOf_1 : decode cX6_isOf 1 = .ok (.ifCond .eq 26, 3) := by decide +kernel
theorem dX6_isOf_4 : decode cX6_isOf 4 = .ok (.iload_n 1, 1) := by decide +kernel
theorem dX6_isOf_5 : decode cX6_isOf 5 = .ok (.iconst 1, 1) := by decide +kernel
theorem dX6_isOf_6 : decode cX6_isOf 6 = .ok (.if_icmp .ne 13, 3) := by decide +kernel
theorem dX6_isOf_9 : decode cX6_isOf 9 = .ok (.iload_n 2, 1) := by decide +kernel
theorem dX6_isOf_10 : decode cX6_isOf 10 = .ok (.invokestatic 74, 3) := by decide +kernel
theorem dX6_isOf_13 : decode cX6_isOf 13 = .ok (.ifCond .eq 18, 3) := by decide +kernel
theorem dX6_isOf_16 : decode cX6_isOf 16 = .ok (.goto 11, 3) := by decide +kernel
theorem dX6_isOf_19 : decode cX6_isOf 19 = .ok (.aload_n 0, 1) := by decide +kernel
theorem dX6_isOf_20 : decode cX6_isOf 20 = .ok (.iload_n 2, 1) := by decide +kernel
theorem dX6_isOf_21 : decode cX6_isOf 21 = .ok (.invokevirtual 68, 3) := by decide +kernel
theorem dX6_isOf_24 : decode cX6_isOf 24 = .ok (.ifCond .eq 7, 3) := by decide +kernel
theorem dX6_isOf_27 : decode cX6_isOf 27 = .ok (.iconst 1, 1) := by decide +kernel
theorem dX6_isOf_28 : decode cX6_isOf 28 = .ok (.goto 4, 3) := by decide +kernel
theorem dX6_isOf_31 : decode cX6_isOf 31 = .ok (.iconst 0, 1) := by decide +kernel
theorem dX6_isOf_32 : decode cX6_isOf 32 = .ok (.ireturn, 1) := by decide +kernel
theorem dX6_isValue_0 : decode cX6_isValue 0 = .ok (.iload_n 1, 1) := by decide +kernel
theorem dX6_isValue_1 : decode cX6_isValue 1 = .ok (.iconst 1, 1) := by decide +kernel
theorem dX6_isValue_2 : decode cX6_isValue 2 = .ok (.if_icmp .ne 22, 3) := by decide +kernel
theorem dX6_isValue_5 : decode cX6_isValue 5 = .ok (.iload_n 2, 1) := by decide +kernel
theorem dX6_isValue_6 : decode cX6_isValue 6 = .ok (.iconst (-1), 1) := by decide +kernel
theorem dX6_isValue_7 : decode cX6_isValue 7 = .ok (.if_icmp .eq 11, 3) := by decide +kernel
theorem dX6_isValue_10 : decode cX6_isValue 10 = .ok (.aload_n 0, 1) := by decide +kernel
theorem dX6_isValue_11 : decode cX6_isValue 11 = .ok (.iload_n 2, 1) := by decide +kernel
theorem dX6_isValue_12 : decode cX6_isValue 12 = .ok (.invokevirtual 68, 3) := by decide +kernel
theorem dX6_isValue_15 : decode cX6_isValue 15 = .ok (.ifCond .eq 7, 3) := by decide +kernel
theorem dX6_isValue_18 : decode cX6_isValue 18 = .ok (.iconst 1, 1) := by decide +kernel
theorem dX6_isValue_19 : decode cX6_isValue 19 = .ok (.goto 4, 3) := by decide +kernel
theorem dX6_isValue_22 : decode cX6_isValue 22 = .ok (.iconst 0, 1) := by decide +kernel
theorem dX6_isValue_23 : decode cX6_isValue 23 = .ok (.ireturn, 1) := by decide +kernel
theorem dX6_isValue_24 : decode cX6_isValue 24 = .ok (.iload_n 2, 1) := by decide +kernel
theorem dX6_isValue_25 : decode cX6_isValue 25 = .ok (.i2l, 1) := by decide +kernel
theorem dX6_isValue_26 : decode cX6_isValue 26 = .ok (.lconst 0, 1) := by decide +kernel
theorem dX6_isValue_27 : decode cX6_isValue 27 = .ok (.iload_n 1, 1) := by decide +kernel
theorem dX6_isValue_28 : decode cX6_isValue 28 = .ok (.ifCond .ne 9, 3) := by decide +kernel
theorem dX6_isValue_31 : decode cX6_isValue 31 = .ok (.ldc2_w 77, 3) := by decide +kernel
theorem dX6_isValue_34 : decode cX6_isValue 34 = .ok (.goto 17, 3) := by decide +kernel
theorem dX6_isValue_37 : decode cX6_isValue 37 = .ok (.iload_n 1, 1) := by decide +kernel
theorem dX6_isValue_38 : decode cX6_isValue 38 = .ok (.iconst 2, 1) := by decide +kernel
theorem dX6_isValue_39 : decode cX6_isValue 39 = .ok (.if_icmp .ne 9, 3) := by decide +kernel
theorem dX6_isValue_42 : decode cX6_isValue 42 = .ok (.ldc2_w 79, 3) := by decide +kernel
theorem dX6_isValue_45 : decode cX6_isValue 45 = .ok (.goto 6, 3) := by decide +kernel
theorem dX6_isValue_48 : decode cX6_isValue 48 = .ok (.ldc2_w 81, 3) := by decide +kernel
theorem dX6_isValue_51 : decode cX6_isValue 51 = .ok (.invokestatic 64, 3) := by decide +kernel
theorem dX6_isValue_54 : decode cX6_isValue 54 = .ok (.ireturn, 1) := by decide +kernel
theorem dX6_set_0 : decode cX6_set 0 = .ok (.iload_n 1, 1) := by decide +kernel
theorem dX6_set_1 : decode cX6_set 1 = .ok (.i2l, 1) := by decide +kernel
theorem dX6_set_2 : decode cX6_set 2 = .ok (.lconst 0, 1) := by decide +kernel
theorem dX6_set_3 : decode cX6_set 3 = .ok (.ldc2_w 83, 3) := by decide +kernel
theorem dX6_set_6 : decode cX6_set 6 = .ok (.invokestatic 64, 3) := by decide +kernel
theorem dX6_set_9 : decode cX6_set 9 = .ok (.ifCond .eq 21, 3) := by decide +kernel
theorem dX6_set_12 : decode cX6_set 12 = .ok (.aload_n 0, 1) := by decide +kernel
theorem dX6_set_13 : decode cX6_set 13 = .ok (.iload_n 1, 1) := by decide +kernel
theorem dX6_set_14 : decode cX6_set 14 = .ok (.iload_n 2, 1) := by decide +kernel
theorem dX6_set_15 : decode cX6_set 15 = .ok (.invokevirtual 85, 3) := by decide +kernel
theorem dX6_set_18 : decode cX6_set 18 = .ok (.ifCond .eq 12, 3) := by decide +kernel
theorem dX6_set_21 : decode cX6_set 21 = .ok (.aload_n 0, 1) := by decide +kernel
theorem dX6_set_22 : decode cX6_set 22 = .ok (.iload_n 1, 1) := by decide +kernel
theorem dX6_set_23 : decode cX6_set 23 = .ok (.iload_n 3, 1) := by decide +kernel
theorem dX6_set_24 : decode cX6_set 24 = .ok (.invokevirtual 89, 3) := by decide +kernel
theorem dX6_set_27 : decode cX6_set 27 = .ok (.ifCond .ne 7, 3) := by decide +kernel
theorem dX6_set_30 : decode cX6_set 30 = .ok (.sipush (-1000), 3) := by decide +kernel
theorem dX6_set_33 : decode cX6_set 33 = .ok (.ireturn, 1) := by decide +kernel
theorem dX6_set_34 : decode cX6_set 34 = .ok (.aload_n 0, 1) := by decide +kernel
theorem dX6_set_35 : decode cX6_set 35 = .ok (.iload_n 2, 1) := by decide +kernel
theorem dX6_set_36 : decode cX6_set 36 = .ok (.iload_n 1, 1) := by decide +kernel
theorem dX6_set_37 : decode cX6_set 37 = .ok (.invokevirtual 92, 3) := by decide +kernel
theorem dX6_set_40 : decode cX6_set 40 = .ok (.istore 4, 2) := by decide +kernel
theorem dX6_set_42 : decode cX6_set 42 = .ok (.aload_n 0, 1) := by decide +kernel
theorem dX6_set_43 : decode cX6_set 43 = .ok (.iload_n 1, 1) := by decide +kernel
theorem dX6_set_44 : decode cX6_set 44 = .ok (.iload_n 2, 1) := by decide +kernel
theorem dX6_set_45 : decode cX6_set 45 = .ok (.iload_n 3, 1) := by decide +kernel
theorem dX6_set_46 : decode cX6_set 46 = .ok (.invokevirtual 96, 3) := by decide +kernel
theorem dX6_set_49 : decode cX6_set 49 = .ok (.iload 4, 2) := by decide +kernel
theorem dX6_set_51 : decode cX6_set 51 = .ok (.ireturn, 1) := by decide +kernel
theorem dX6_lays_0 : decode cX6_lays 0 = .ok (.iload_n 1, 1) := by decide +kernel
theorem dX6_lays_1 : decode cX6_lays 1 = .ok (.ifCond .ne 11, 3) := by decide +kernel
theorem dX6_lays_4 : decode cX6_lays 4 = .ok (.aload_n 0, 1) := by decide +kernel
theorem dX6_lays_5 : decode cX6_lays 5 = .ok (.iload_n 3, 1) := by decide +kernel
theorem dX6_lays_6 : decode cX6_lays 6 = .ok (.putfield 100, 3) := by decide +kernel
theorem dX6_lays_9 : decode cX6_lays 9 = .ok (.goto 58, 3) := by decide +kernel
theorem dX6_lays_12 : decode cX6_lays 12 = .ok (.iload_n 1, 1) := by decide +kernel
theorem dX6_lays_13 : decode cX6_lays 13 = .ok (.iconst 1, 1) := by decide +kernel
theorem dX6_lays_14 : decode cX6_lays 14 = .ok (.if_icmp .ne 12, 3) := by decide +kernel
theorem dX6_lays_17 : decode cX6_lays 17 = .ok (.aload_n 0, 1) := by decide +kernel
theorem dX6_lays_18 : decode cX6_lays 18 = .ok (.iload_n 2, 1) := by decide +kernel
theorem dX6_lays_19 : decode cX6_lays 19 = .ok (.iload_n 3, 1) := by decide +kernel
theorem dX6_lays_20 : decode cX6_lays 20 = .ok (.invokevirtual 103, 3) := by decide +kernel
theorem dX6_lays_23 : decode cX6_lays 23 = .ok (.goto 44, 3) := by decide +kernel
theorem dX6_lays_26 : decode cX6_lays 26 = .ok (.iload_n 1, 1) := by decide +kernel
theorem dX6_lays_27 : decode cX6_lays 27 = .ok (.iconst 4, 1) := by decide +kernel
theorem dX6_lays_28 : decode cX6_lays 28 = .ok (.if_icmp .ge 19, 3) := by decide +kernel
theorem dX6_lays_31 : decode cX6_lays 31 = .ok (.aload_n 0, 1) := by decide +kernel
theorem dX6_lays_32 : decode cX6_lays 32 = .ok (.getfield 29, 3) := by decide +kernel
theorem dX6_lays_35 : decode cX6_lays 35 = .ok (.iconst 4, 1) := by decide +kernel
theorem dX6_lays_36 : decode cX6_lays 36 = .ok (.iload_n 2, 1) := by decide +kernel
theorem dX6_lays_37 : decode cX6_lays 37 = .ok (.imul, 1) := by decide +kernel
theorem dX6_lays_38 : decode cX6_lays 38 = .ok (.iload_n 1, 1) := by decide +kernel
theorem dX6_lays_39 : decode cX6_lays 39 = .ok (.iadd, 1) := by decide +kernel
theorem dX6_lays_40 : decode cX6_lays 40 = .ok (.iconst 2, 1) := by decide +kernel
theorem dX6_lays_41 : decode cX6_lays 41 = .ok (.isub, 1) := by decide +kernel
theorem dX6_lays_42 : decode cX6_lays 42 = .ok (.iload_n 3, 1) := by decide +kernel
theorem dX6_lays_43 : decode cX6_lays 43 = .ok (.iastore, 1) := by decide +kernel
theorem dX6_lays_44 : decode cX6_lays 44 = .ok (.goto 23, 3) := by decide +kernel
theorem dX6_lays_47 : decode cX6_lays 47 = .ok (.iload_n 1, 1) := by decide +kernel
theorem dX6_lays_48 : decode cX6_lays 48 = .ok (.iconst 4, 1) := by decide +kernel
theorem dX6_lays_49 : decode cX6_lays 49 = .ok (.if_icmp .ne 13, 3) := by decide +kernel
theorem dX6_lays_52 : decode cX6_lays 52 = .ok (.aload_n 0, 1) := by decide +kernel
theorem dX6_lays_53 : decode cX6_lays 53 = .ok (.getfield 26, 3) := by decide +kernel
theorem dX6_lays_56 : decode cX6_lays 56 = .ok (.iload_n 2, 1) := by decide +kernel
theorem dX6_lays_57 : decode cX6_lays 57 = .ok (.iload_n 3, 1) := by decide +kernel
theorem dX6_lays_58 : decode cX6_lays 58 = .ok (.iastore, 1) := by decide +kernel
theorem dX6_lays_59 : decode cX6_lays 59 = .ok (.goto 8, 3) := by decide +kernel
theorem dX6_lays_62 : decode cX6_lays 62 = .ok (.aload_n 0, 1) := by decide +kernel
theorem dX6_lays_63 : decode cX6_lays 63 = .ok (.iload_n 3, 1) := by decide +kernel
theorem dX6_lays_64 : decode cX6_lays 64 = .ok (.putfield 107, 3) := by decide +kernel
theorem dX6_lays_67 : decode cX6_lays 67 = .ok (.return_, 1) := by decide +kernel
theorem dX6_moves_0 : decode cX6_moves 0 = .ok (.iconst 1, 1) := by decide +kernel
theorem dX6_moves_1 : decode cX6_moves 1 = .ok (.iload_n 1, 1) := by decide +kernel
theorem dX6_moves_2 : decode cX6_moves 2 = .ok (.ishl, 1) := by decide +kernel
theorem dX6_moves_3 : decode cX6_moves 3 = .ok (.istore_n 3, 1) := by decide +kernel
theorem dX6_moves_4 : decode cX6_moves 4 = .ok (.aload_n 0, 1) := by decide +kernel
theorem dX6_moves_5 : decode cX6_moves 5 = .ok (.dup, 1) := by decide +kernel
theorem dX6_moves_6 : decode cX6_moves 6 = .ok (.getfield 23, 3) := by decide +kernel
theorem dX6_moves_9 : decode cX6_moves 9 = .ok (.iload_n 3, 1) := by decide +kernel
theorem dX6_moves_10 : decode cX6_moves 10 = .ok (.iconst (-1), 1) := by decide +kernel
theorem dX6_moves_11 : decode cX6_moves 11 = .ok (.ixor, 1) := by decide +kernel
theorem dX6_moves_12 : decode cX6_moves 12 = .ok (.iand, 1) := by decide +kernel
theorem dX6_moves_13 : decode cX6_moves 13 = .ok (.putfield 23, 3) := by decide +kernel
theorem dX6_moves_16 : decode cX6_moves 16 = .ok (.iconst 0, 1) := by decide +kernel
theorem dX6_moves_17 : decode cX6_moves 17 = .ok (.istore 4, 2) := by decide +kernel
theorem dX6_moves_19 : decode cX6_moves 19 = .ok (.iload 4, 2) := by decide +kernel
theorem dX6_moves_21 : decode cX6_moves 21 = .ok (.aload_n 0, 1) := by decide +kernel
theorem dX6_moves_22 : decode cX6_moves 22 = .ok (.getfield 61, 3) := by decide +kernel
theorem dX6_moves_25 : decode cX6_moves 25 = .ok (.if_icmp .ge 26, 3) := by decide +kernel
theorem dX6_moves_28 : decode cX6_moves 28 = .ok (.aload_n 0, 1) := by decide +kernel
theorem dX6_moves_29 : decode cX6_moves 29 = .ok (.getfield 29, 3) := by decide +kernel
theorem dX6_moves_32 : decode cX6_moves 32 = .ok (.iconst 4, 1) := by decide +kernel
theorem dX6_moves_33 : decode cX6_moves 33 = .ok (.iload 4, 2) := by decide +kernel
theorem dX6_moves_35 : decode cX6_moves 35 = .ok (.imul, 1) := by decide +kernel
theorem dX6_moves_36 : decode cX6_moves 36 = .ok (.iconst 3, 1) := by decide +kernel
theorem dX6_moves_37 : decode cX6_moves 37 = .ok (.iadd, 1) := by decide +kernel
theorem dX6_moves_38 : decode cX6_moves 38 = .ok (.dup2, 1) := by decide +kernel
theorem dX6_moves_39 : decode cX6_moves 39 = .ok (.iaload, 1) := by decide +kernel
theorem dX6_moves_40 : decode cX6_moves 40 = .ok (.iload_n 3, 1) := by decide +kernel
theorem dX6_moves_41 : decode cX6_moves 41 = .ok (.iconst (-1), 1) := by decide +kernel
theorem dX6_moves_42 : decode cX6_moves 42 = .ok (.ixor, 1) := by decide +kernel
theorem dX6_moves_43 : decode cX6_moves 43 = .ok (.iand, 1) := by decide +kernel
theorem dX6_moves_44 : decode cX6_moves 44 = .ok (.iastore, 1) := by decide +kernel
theorem dX6_moves_45 : decode cX6_moves 45 = .ok (.iinc 4 1, 3) := by decide +kernel
theorem dX6_moves_48 : decode cX6_moves 48 = .ok (.goto (-29), 3) := by decide +kernel
theorem dX6_moves_51 : decode cX6_moves 51 = .ok (.iload_n 2, 1) := by decide +kernel
theorem dX6_moves_52 : decode cX6_moves 52 = .ok (.iconst (-1), 1) := by decide +kernel
theorem dX6_moves_53 : decode cX6_moves 53 = .ok (.if_icmp .ne 16, 3) := by decide +kernel
theorem dX6_moves_56 : decode cX6_moves 56 = .ok (.aload_n 0, 1) := by decide +kernel
theorem dX6_moves_57 : decode cX6_moves 57 = .ok (.dup, 1) := by decide +kernel
theorem dX6_moves_58 : decode cX6_moves 58 = .ok (.getfield 23, 3) := by decide +kernel
theorem dX6_moves_61 : decode cX6_moves 61 = .ok (.iload_n 3, 1) := by decide +kernel
theorem dX6_moves_62 : decode cX6_moves 62 = .ok (.ior, 1) := by decide +kernel
theorem dX6_moves_63 : decode cX6_moves 63 = .ok (.putfield 23, 3) := by decide +kernel
theorem dX6_moves_66 : decode cX6_moves 66 = .ok (.goto 17, 3) := by decide +kernel
theorem dX6_moves_69 : decode cX6_moves 69 = .ok (.aload_n 0, 1) := by decide +kernel
theorem dX6_moves_70 : decode cX6_moves 70 = .ok (.getfield 29, 3) := by decide +kernel
theorem dX6_moves_73 : decode cX6_moves 73 = .ok (.iconst 4, 1) := by decide +kernel
theorem dX6_moves_74 : decode cX6_moves 74 = .ok (.iload_n 2, 1) := by decide +kernel
theorem dX6_moves_75 : decode cX6_moves 75 = .ok (.imul, 1) := by decide +kernel
theorem dX6_moves_76 : decode cX6_moves 76 = .ok (.iconst 3, 1) := by decide +kernel
theorem dX6_moves_77 : decode cX6_moves 77 = .ok (.iadd, 1) := by decide +kernel
theorem dX6_moves_78 : decode cX6_moves 78 = .ok (.dup2, 1) := by decide +kernel
theorem dX6_moves_79 : decode cX6_moves 79 = .ok (.iaload, 1) := by decide +kernel
theorem dX6_moves_80 : decode cX6_moves 80 = .ok (.iload_n 3, 1) := by decide +kernel
theorem dX6_moves_81 : decode cX6_moves 81 = .ok (.ior, 1) := by decide +kernel
theorem dX6_moves_82 : decode cX6_moves 82 = .ok (.iastore, 1) := by decide +kernel
theorem dX6_moves_83 : decode cX6_moves 83 = .ok (.return_, 1) := by decide +kernel
theorem dX6_player_0 : decode cX6_player 0 = .ok (.iload_n 1, 1) := by decide +kernel
theorem dX6_player_1 : decode cX6_player 1 = .ok (.i2l, 1) := by decide +kernel
theorem dX6_player_2 : decode cX6_player 2 = .ok (.lconst 0, 1) := by decide +kernel
theorem dX6_player_3 : decode cX6_player 3 = .ok (.ldc2_w 110, 3) := by decide +kernel
theorem dX6_player_6 : decode cX6_player 6 = .ok (.invokestatic 64, 3) := by decide +kernel
theorem dX6_player_9 : decode cX6_player 9 = .ok (.ifCond .eq 15, 3) := by decide +kernel
theorem dX6_player_12 : decode cX6_player 12 = .ok (.iload_n 2, 1) := by decide +kernel
theorem dX6_player_13 : decode cX6_player 13 = .ok (.i2l, 1) := by decide +kernel
theorem dX6_player_14 : decode cX6_player 14 = .ok (.lconst 0, 1) := by decide +kernel
theorem dX6_player_15 : decode cX6_player 15 = .ok (.ldc2_w 79, 3) := by decide +kernel
theorem dX6_player_18 : decode cX6_player 18 = .ok (.invokestatic 64, 3) := by decide +kernel
theorem dX6_player_21 : decode cX6_player 21 = .ok (.ifCond .ne 6, 3) := by decide +kernel
theorem dX6_player_24 : decode cX6_player 24 = .ok (.bipush (-2), 2) := by decide +kernel
theorem dX6_player_26 : decode cX6_player 26 = .ok (.ireturn, 1) := by decide +kernel
theorem dX6_player_27 : decode cX6_player 27 = .ok (.aload_n 0, 1) := by decide +kernel
theorem dX6_player_28 : decode cX6_player 28 = .ok (.getfield 61, 3) := by decide +kernel
theorem dX6_player_31 : decode cX6_player 31 = .ok (.bipush 6, 2) := by decide +kernel
theorem dX6_player_33 : decode cX6_player 33 = .ok (.if_icmp .ne 6, 3) := by decide +kernel
theorem dX6_player_36 : decode cX6_player 36 = .ok (.bipush (-4), 2) := by decide +kernel
theorem dX6_player_38 : decode cX6_player 38 = .ok (.ireturn, 1) := by decide +kernel
theorem dX6_player_39 : decode cX6_player 39 = .ok (.aload_n 0, 1) := by decide +kernel
theorem dX6_player_40 : decode cX6_player 40 = .ok (.getfield 26, 3) := by decide +kernel
theorem dX6_player_43 : decode cX6_player 43 = .ok (.aload_n 0, 1) := by decide +kernel
theorem dX6_player_44 : decode cX6_player 44 = .ok (.getfield 61, 3) := by decide +kernel
theorem dX6_player_47 : decode cX6_player 47 = .ok (.iload_n 1, 1) := by decide +kernel
theorem dX6_player_48 : decode cX6_player 48 = .ok (.iastore, 1) := by decide +kernel
theorem dX6_player_49 : decode cX6_player 49 = .ok (.aload_n 0, 1) := by decide +kernel
theorem dX6_player_50 : decode cX6_player 50 = .ok (.getfield 29, 3) := by decide +kernel
theorem dX6_player_53 : decode cX6_player 53 = .ok (.iconst 4, 1) := by decide +kernel
theorem dX6_player_54 : decode cX6_player 54 = .ok (.aload_n 0, 1) := by decide +kernel
theorem dX6_player_55 : decode cX6_player 55 = .ok (.getfield 61, 3) := by decide +kernel
theorem dX6_player_58 : decode cX6_player 58 = .ok (.imul, 1) := by decide +kernel
theorem dX6_player_59 : decode cX6_player 59 = .ok (.iload_n 2, 1) := by decide +kernel
theorem dX6_player_60 : decode cX6_player 60 = .ok (.iastore, 1) := by decide +kernel
theorem dX6_player_61 : decode cX6_player 61 = .ok (.aload_n 0, 1) := by decide +kernel
theorem dX6_player_62 : decode cX6_player 62 = .ok (.getfield 29, 3) := by decide +kernel
theorem dX6_player_65 : decode cX6_player 65 = .ok (.iconst 4, 1) := by decide +kernel
theorem dX6_player_66 : decode cX6_player 66 = .ok (.aload_n 0, 1) := by decide +kernel
theorem dX6_player_67 : decode cX6_player 67 = .ok (.getfield 61, 3) := by decide +kernel
theorem dX6_player_70 : decode cX6_player 70 = .ok (.imul, 1) := by decide +kernel
theorem dX6_player_71 : decode cX6_player 71 = .ok (.iconst 1, 1) := by decide +kernel
theorem dX6_player_72 : decode cX6_player 72 = .ok (.iadd, 1) := by decide +kernel
theorem dX6_player_73 : decode cX6_player 73 = .ok (.bipush 50, 2) := by decide +kernel
theorem dX6_player_75 : decode cX6_player 75 = .ok (.iastore, 1) := by decide +kernel
theorem dX6_player_76 : decode cX6_player 76 = .ok (.aload_n 0, 1) := by decide +kernel
theorem dX6_player_77 : decode cX6_player 77 = .ok (.getfield 29, 3) := by decide +kernel
theorem dX6_player_80 : decode cX6_player 80 = .ok (.iconst 4, 1) := by decide +kernel
theorem dX6_player_81 : decode cX6_player 81 = .ok (.aload_n 0, 1) := by decide +kernel
theorem dX6_player_82 : decode cX6_player 82 = .ok (.getfield 61, 3) := by decide +kernel
theorem dX6_player_85 : decode cX6_player 85 = .ok (.imul, 1) := by decide +kernel
theorem dX6_player_86 : decode cX6_player 86 = .ok (.iconst 2, 1) := by decide +kernel
theorem dX6_player_87 : decode cX6_player 87 = .ok (.iadd, 1) := by decide +kernel
theorem dX6_player_88 : decode cX6_player 88 = .ok (.iconst 0, 1) := by decide +kernel
theorem dX6_player_89 : decode cX6_player 89 = .ok (.iastore, 1) := by decide +kernel
theorem dX6_player_90 : decode cX6_player 90 = .ok (.aload_n 0, 1) := by decide +kernel
theorem dX6_player_91 : decode cX6_player 91 = .ok (.getfield 29, 3) := by decide +kernel
theorem dX6_player_94 : decode cX6_player 94 = .ok (.iconst 4, 1) := by decide +kernel
theorem dX6_player_95 : decode cX6_player 95 = .ok (.aload_n 0, 1) := by decide +kernel
theorem dX6_player_96 : decode cX6_player 96 = .ok (.getfield 61, 3) := by decide +kernel
theorem dX6_player_99 : decode cX6_player 99 = .ok (.imul, 1) := by decide +kernel
theorem dX6_player_100 : decode cX6_player 100 = .ok (.iconst 3, 1) := by decide +kernel
theorem dX6_player_101 : decode cX6_player 101 = .ok (.iadd, 1) := by decide +kernel
theorem dX6_player_102 : decode cX6_player 102 = .ok (.iconst 0, 1) := by decide +kernel
theorem dX6_player_103 : decode cX6_player 103 = .ok (.iastore, 1) := by decide +kernel
theorem dX6_player_104 : decode cX6_player 104 = .ok (.aload_n 0, 1) := by decide +kernel
theorem dX6_player_105 : decode cX6_player 105 = .ok (.dup, 1) := by decide +kernel
theorem dX6_player_106 : decode cX6_player 106 = .ok (.getfield 61, 3) := by decide +kernel
theorem dX6_player_109 : decode cX6_player 109 = .ok (.iconst 1, 1) := by decide +kernel
theorem dX6_player_110 : decode cX6_player 110 = .ok (.iadd, 1) := by decide +kernel
theorem dX6_player_111 : decode cX6_player 111 = .ok (.putfield 61, 3) := by decide +kernel
theorem dX6_player_114 : decode cX6_player 114 = .ok (.aload_n 0, 1) := by decide +kernel
theorem dX6_player_115 : decode cX6_player 115 = .ok (.getfield 61, 3) := by decide +kernel
theorem dX6_player_118 : decode cX6_player 118 = .ok (.iconst 1, 1) := by decide +kernel
theorem dX6_player_119 : decode cX6_player 119 = .ok (.isub, 1) := by decide +kernel
theorem dX6_player_120 : decode cX6_player 120 = .ok (.ireturn, 1) := by decide +kernel
theorem dX6_whereIs_0 : decode cX6_whereIs 0 = .ok (.iconst 0, 1) := by decide +kernel
theorem dX6_whereIs_1 : decode cX6_whereIs 1 = .ok (.istore_n 2, 1) := by decide +kernel
theorem dX6_whereIs_2 : decode cX6_whereIs 2 = .ok (.iload_n 2, 1) := by decide +kernel
theorem dX6_whereIs_3 : decode cX6_whereIs 3 = .ok (.aload_n 0, 1) := by decide +kernel
theorem dX6_whereIs_4 : decode cX6_whereIs 4 = .ok (.getfield 61, 3) := by decide +kernel
theorem dX6_whereIs_7 : decode cX6_whereIs 7 = .ok (.if_icmp .ge 29, 3) := by decide +kernel
theorem dX6_whereIs_10 : decode cX6_whereIs 10 = .ok (.aload_n 0, 1) := by decide +kernel
theorem dX6_whereIs_11 : decode cX6_whereIs 11 = .ok (.getfield 29, 3) := by decide +kernel
theorem dX6_whereIs_14 : decode cX6_whereIs 14 = .ok (.iconst 4, 1) := by decide +kernel
theorem dX6_whereIs_15 : decode cX6_whereIs 15 = .ok (.iload_n 2, 1) := by decide +kernel
theorem dX6_whereIs_16 : decode cX6_whereIs 16 = .ok (.imul, 1) := by decide +kernel
theorem dX6_whereIs_17 : decode cX6_whereIs 17 = .ok (.iconst 3, 1) := by decide +kernel
theorem dX6_whereIs_18 : decode cX6_whereIs 18 = .ok (.iadd, 1) := by decide +kernel
theorem dX6_whereIs_19 : decode cX6_whereIs 19 = .ok (.iaload, 1) := by decide +kernel
theorem dX6_whereIs_20 : decode cX6_whereIs 20 = .ok (.iload_n 1, 1) := by decide +kernel
theorem dX6_whereIs_21 : decode cX6_whereIs 21 = .ok (.ishr, 1) := by decide +kernel
theorem dX6_whereIs_22 : decode cX6_whereIs 22 = .ok (.iconst 1, 1) := by decide +kernel
theorem dX6_whereIs_23 : decode cX6_whereIs 23 = .ok (.iand, 1) := by decide +kernel
theorem dX6_whereIs_24 : decode cX6_whereIs 24 = .ok (.iconst 1, 1) := by decide +kernel
theorem dX6_whereIs_25 : decode cX6_whereIs 25 = .ok (.if_icmp .ne 5, 3) := by decide +kernel
theorem dX6_whereIs_28 : decode cX6_whereIs 28 = .ok (.iload_n 2, 1) := by decide +kernel
theorem dX6_whereIs_29 : decode cX6_whereIs 29 = .ok (.ireturn, 1) := by decide +kernel
theorem dX6_whereIs_30 : decode cX6_whereIs 30 = .ok (.iinc 2 1, 3) := by decide +kernel
theorem dX6_whereIs_33 : decode cX6_whereIs 33 = .ok (.goto (-31), 3) := by decide +kernel
theorem dX6_whereIs_36 : decode cX6_whereIs 36 = .ok (.iconst (-1), 1) := by decide +kernel
theorem dX6_whereIs_37 : decode cX6_whereIs 37 = .ok (.ireturn, 1) := by decide +kernel
theorem dX6_bitsOf_0 : decode cX6_bitsOf 0 = .ok (.iconst 0, 1) := by decide +kernel
theorem dX6_bitsOf_1 : decode cX6_bitsOf 1 = .ok (.istore_n 1, 1) := by decide +kernel
theorem dX6_bitsOf_2 : decode cX6_bitsOf 2 = .ok (.iload_n 0, 1) := by decide +kernel
theorem dX6_bitsOf_3 : decode cX6_bitsOf 3 = .ok (.istore_n 2, 1) := by decide +kernel
theorem dX6_bitsOf_4 : decode cX6_bitsOf 4 = .ok (.iload_n 2, 1) := by decide +kernel
theorem dX6_bitsOf_5 : decode cX6_bitsOf 5 = .ok (.ifCond .eq 15, 3) := by decide +kernel
theorem dX6_bitsOf_8 : decode cX6_bitsOf 8 = .ok (.iinc 1 1, 3) := by decide +kernel
theorem dX6_bitsOf_11 : decode cX6_bitsOf 11 = .ok (.iload_n 2, 1) := by decide +kernel
theorem dX6_bitsOf_12 : decode cX6_bitsOf 12 = .ok (.iload_n 2, 1) := by decide +kernel
theorem dX6_bitsOf_13 : decode cX6_bitsOf 13 = .ok (.iconst 1, 1) := by decide +kernel
theorem dX6_bitsOf_14 : decode cX6_bitsOf 14 = .ok (.isub, 1) := by decide +kernel
theorem dX6_bitsOf_15 : decode cX6_bitsOf 15 = .ok (.iand, 1) := by decide +kernel
theorem dX6_bitsOf_16 : decode cX6_bitsOf 16 = .ok (.istore_n 2, 1) := by decide +kernel
theorem dX6_bitsOf_17 : decode cX6_bitsOf 17 = .ok (.goto (-13), 3) := by decide +kernel
theorem dX6_bitsOf_20 : decode cX6_bitsOf 20 = .ok (.iload_n 1, 1) := by decide +kernel
theorem dX6_bitsOf_21 : decode cX6_bitsOf 21 = .ok (.ireturn, 1) := by decide +kernel
theorem dX6_has_0 : decode cX6_has 0 = .ok (.aload_n 0, 1) := by decide +kernel
theorem dX6_has_1 : decode cX6_has 1 = .ok (.getfield 29, 3) := by decide +kernel
theorem dX6_has_4 : decode cX6_has 4 = .ok (.iconst 4, 1) := by decide +kernel
theorem dX6_has_5 : decode cX6_has 5 = .ok (.iload_n 1, 1) := by decide +kernel
theorem dX6_has_6 : decode cX6_has 6 = .ok (.imul, 1) := by decide +kernel
theorem dX6_has_7 : decode cX6_has 7 = .ok (.iconst 3, 1) := by decide +kernel
theorem dX6_has_8 : decode cX6_has 8 = .ok (.iadd, 1) := by decide +kernel
theorem dX6_has_9 : decode cX6_has 9 = .ok (.iaload, 1) := by decide +kernel
theorem dX6_has_10 : decode cX6_has 10 = .ok (.ireturn, 1) := by decide +kernel
theorem dX6_hasMany_0 : decode cX6_hasMany 0 = .ok (.aload_n 0, 1) := by decide +kernel
theorem dX6_hasMany_1 : decode cX6_hasMany 1 = .ok (.iload_n 1, 1) := by decide +kernel
theorem dX6_hasMany_2 : decode cX6_hasMany 2 = .ok (.invokevirtual 112, 3) := by decide +kernel
theorem dX6_hasMany_5 : decode cX6_hasMany 5 = .ok (.invokestatic 116, 3) := by decide +kernel
theorem dX6_hasMany_8 : decode cX6_hasMany 8 = .ok (.ireturn, 1) := by decide +kernel
theorem dX6_told_0 : decode cX6_told 0 = .ok (.iload_n 2, 1) := by decide +kernel
theorem dX6_told_1 : decode cX6_told 1 = .ok (.i2l, 1) := by decide +kernel
theorem dX6_told_2 : decode cX6_told 2 = .ok (.lconst 0, 1) := by decide +kernel
theorem dX6_told_3 : decode cX6_told 3 = .ok (.ldc2_w 72, 3) := by decide +kernel
theorem dX6_told_6 : decode cX6_told 6 = .ok (.invokestatic 64, 3) := by decide +kernel
theorem dX6_told_9 : decode cX6_told 9 = .ok (.ifCond .eq 12, 3) := by decide +kernel
theorem dX6_told_12 : decode cX6_told 12 = .ok (.aload_n 0, 1) := by decide +kernel
theorem dX6_told_13 : decode cX6_told 13 = .ok (.iload_n 2, 1) := by decide +kernel
theorem dX6_told_14 : decode cX6_told 14 = .ok (.iload_n 1, 1) := by decide +kernel
theorem dX6_told_15 : decode cX6_told 15 = .ok (.invokevirtual 85, 3) := by decide +kernel
theorem dX6_told_18 : decode cX6_told 18 = .ok (.ifCond .ne 7, 3) := by decide +kernel
theorem dX6_told_21 : decode cX6_told 21 = .ok (.sipush (-1000), 3) := by decide +kernel
theorem dX6_told_24 : decode cX6_told 24 = .ok (.ireturn, 1) := by decide +kernel
theorem dX6_told_25 : decode cX6_told 25 = .ok (.iload_n 2, 1) := by decide +kernel
theorem dX6_told_26 : decode cX6_told 26 = .ok (.iconst 4, 1) := by decide +kernel
theorem dX6_told_27 : decode cX6_told 27 = .ok (.if_icmp .ge 40, 3) := by decide +kernel
theorem dX6_told_30 : decode cX6_told 30 = .ok (.iload_n 2, 1) := by decide +kernel
theorem dX6_told_31 : decode cX6_told 31 = .ok (.ifCond .ne 10, 3) := by decide +kernel
theorem dX6_told_34 : decode cX6_told 34 = .ok (.aload_n 0, 1) := by decide +kernel
theorem dX6_told_35 : decode cX6_told 35 = .ok (.getfield 100, 3) := by decide +kernel
theorem dX6_told_38 : decode cX6_told 38 = .ok (.goto 28, 3) := by decide +kernel
theorem dX6_told_41 : decode cX6_told 41 = .ok (.iload_n 2, 1) := by decide +kernel
theorem dX6_told_42 : decode cX6_told 42 = .ok (.iconst 1, 1) := by decide +kernel
theorem dX6_told_43 : decode cX6_told 43 = .ok (.if_icmp .ne 11, 3) := by decide +kernel
theorem dX6_told_46 : decode cX6_told 46 = .ok (.aload_n 0, 1) := by decide +kernel
theorem dX6_told_47 : decode cX6_told 47 = .ok (.iload_n 1, 1) := by decide +kernel
theorem dX6_told_48 : decode cX6_told 48 = .ok (.invokevirtual 119, 3) := by decide +kernel
theorem dX6_told_51 : decode cX6_told 51 = .ok (.goto 15, 3) := by decide +kernel
theorem dX6_told_54 : decode cX6_told 54 = .ok (.aload_n 0, 1) := by decide +kernel
theorem dX6_told_55 : decode cX6_told 55 = .ok (.getfield 29, 3) := by decide +kernel
theorem dX6_told_58 : decode cX6_told 58 = .ok (.iconst 4, 1) := by decide +kernel
theorem dX6_told_59 : decode cX6_told 59 = .ok (.iload_n 1, 1) := by decide +kernel
theorem dX6_told_60 : decode cX6_told 60 = .ok (.imul, 1) := by decide +kernel
theorem dX6_told_61 : decode cX6_told 61 = .ok (.iload_n 2, 1) := by decide +kernel
theorem dX6_told_62 : decode cX6_told 62 = .ok (.iadd, 1) := by decide +kernel
theorem dX6_told_63 : decode cX6_told 63 = .ok (.iconst 2, 1) := by decide +kernel
theorem dX6_told_64 : decode cX6_told 64 = .ok (.isub, 1) := by decide +kernel
theorem dX6_told_65 : decode cX6_told 65 = .ok (.iaload, 1) := by decide +kernel
theorem dX6_told_66 : decode cX6_told 66 = .ok (.ireturn, 1) := by decide +kernel
theorem dX6_told_67 : decode cX6_told 67 = .ok (.iload_n 2, 1) := by decide +kernel
theorem dX6_told_68 : decode cX6_told 68 = .ok (.iconst 4, 1) := by decide +kernel
theorem dX6_told_69 : decode cX6_told 69 = .ok (.if_icmp .ne 12, 3) := by decide +kernel
theorem dX6_told_72 : decode cX6_told 72 = .ok (.aload_n 0, 1) := by decide +kernel
theorem dX6_told_73 : decode cX6_told 73 = .ok (.getfield 26, 3) := by decide +kernel
theorem dX6_told_76 : decode cX6_told 76 = .ok (.iload_n 1, 1) := by decide +kernel
theorem dX6_told_77 : decode cX6_told 77 = .ok (.iaload, 1) := by decide +kernel
theorem dX6_told_78 : decode cX6_told 78 = .ok (.goto 40, 3) := by decide +kernel
theorem dX6_told_81 : decode cX6_told 81 = .ok (.iload_n 2, 1) := by decide +kernel
theorem dX6_told_82 : decode cX6_told 82 = .ok (.iconst 5, 1) := by decide +kernel
theorem dX6_told_83 : decode cX6_told 83 = .ok (.if_icmp .ne 16, 3) := by decide +kernel
theorem dX6_told_86 : decode cX6_told 86 = .ok (.aload_n 0, 1) := by decide +kernel
theorem dX6_told_87 : decode cX6_told 87 = .ok (.getfield 29, 3) := by decide +kernel
theorem dX6_told_90 : decode cX6_told 90 = .ok (.iconst 4, 1) := by decide +kernel
theorem dX6_told_91 : decode cX6_told 91 = .ok (.iload_n 1, 1) := by decide +kernel
theorem dX6_told_92 : decode cX6_told 92 = .ok (.imul, 1) := by decide +kernel
theorem dX6_told_93 : decode cX6_told 93 = .ok (.iconst 2, 1) := by decide +kernel
theorem dX6_told_94 : decode cX6_told 94 = .ok (.iadd, 1) := by decide +kernel
theorem dX6_told_95 : decode cX6_told 95 = .ok (.iaload, 1) := by decide +kernel
theorem dX6_told_96 : decode cX6_told 96 = .ok (.goto 22, 3) := by decide +kernel
theorem dX6_told_99 : decode cX6_told 99 = .ok (.iload_n 2, 1) := by decide +kernel
theorem dX6_told_100 : decode cX6_told 100 = .ok (.bipush 6, 2) := by decide +kernel
theorem dX6_told_102 : decode cX6_told 102 = .ok (.if_icmp .ne 11, 3) := by decide +kernel
theorem dX6_told_105 : decode cX6_told 105 = .ok (.aload_n 0, 1) := by decide +kernel
theorem dX6_told_106 : decode cX6_told 106 = .ok (.iload_n 1, 1) := by decide +kernel
theorem dX6_told_107 : decode cX6_told 107 = .ok (.invokevirtual 112, 3) := by decide +kernel
theorem dX6_told_110 : decode cX6_told 110 = .ok (.goto 8, 3) := by decide +kernel
theorem dX6_told_113 : decode cX6_told 113 = .ok (.aload_n 0, 1) := by decide +kernel
theorem dX6_told_114 : decode cX6_told 114 = .ok (.iload_n 1, 1) := by decide +kernel
theorem dX6_told_115 : decode cX6_told 115 = .ok (.invokevirtual 122, 3) := by decide +kernel
theorem dX6_told_118 : decode cX6_told 118 = .ok (.ireturn, 1) := by decide +kernel
theorem dX6_feed_0 : decode cX6_feed 0 = .ok (.iload_n 1, 1) := by decide +kernel
theorem dX6_feed_1 : decode cX6_feed 1 = .ok (.i2l, 1) := by decide +kernel
theorem dX6_feed_2 : decode cX6_feed 2 = .ok (.lconst 0, 1) := by decide +kernel
theorem dX6_feed_3 : decode cX6_feed 3 = .ok (.ldc2_w 125, 3) := by decide +kernel
theorem dX6_feed_6 : decode cX6_feed 6 = .ok (.invokestatic 64, 3) := by decide +kernel
theorem dX6_feed_9 : decode cX6_feed 9 = .ok (.ifCond .ne 6, 3) := by decide +kernel
theorem dX6_feed_12 : decode cX6_feed 12 = .ok (.bipush (-2), 2) := by decide +kernel
theorem dX6_feed_14 : decode cX6_feed 14 = .ok (.ireturn, 1) := by decide +kernel
theorem dX6_feed_15 : decode cX6_feed 15 = .ok (.aload_n 0, 1) := by decide +kernel
theorem dX6_feed_16 : decode cX6_feed 16 = .ok (.getfield 127, 3) := by decide +kernel
theorem dX6_feed_19 : decode cX6_feed 19 = .ok (.sipush 160, 3) := by decide +kernel
theorem dX6_feed_22 : decode cX6_feed 22 = .ok (.if_icmp .ne 6, 3) := by decide +kernel
theorem dX6_feed_25 : decode cX6_feed 25 = .ok (.bipush (-4), 2) := by decide +kernel
theorem dX6_feed_27 : decode cX6_feed 27 = .ok (.ireturn, 1) := by decide +kernel
theorem dX6_feed_28 : decode cX6_feed 28 = .ok (.aload_n 0, 1) := by decide +kernel
theorem dX6_feed_29 : decode cX6_feed 29 = .ok (.getfield 20, 3) := by decide +kernel
theorem dX6_feed_32 : decode cX6_feed 32 = .ok (.aload_n 0, 1) := by decide +kernel
theorem dX6_feed_33 : decode cX6_feed 33 = .ok (.getfield 127, 3) := by decide +kernel
theorem dX6_feed_36 : decode cX6_feed 36 = .ok (.iload_n 1, 1) := by decide +kernel
theorem dX6_feed_37 : decode cX6_feed 37 = .ok (.iastore, 1) := by decide +kernel
theorem dX6_feed_38 : decode cX6_feed 38 = .ok (.aload_n 0, 1) := by decide +kernel
theorem dX6_feed_39 : decode cX6_feed 39 = .ok (.dup, 1) := by decide +kernel
theorem dX6_feed_40 : decode cX6_feed 40 = .ok (.getfield 127, 3) := by decide +kernel
theorem dX6_feed_43 : decode cX6_feed 43 = .ok (.iconst 1, 1) := by decide +kernel
theorem dX6_feed_44 : decode cX6_feed 44 = .ok (.iadd, 1) := by decide +kernel
theorem dX6_feed_45 : decode cX6_feed 45 = .ok (.putfield 127, 3) := by decide +kernel
theorem dX6_feed_48 : decode cX6_feed 48 = .ok (.aload_n 0, 1) := by decide +kernel
theorem dX6_feed_49 : decode cX6_feed 49 = .ok (.getfield 127, 3) := by decide +kernel
theorem dX6_feed_52 : decode cX6_feed 52 = .ok (.ireturn, 1) := by decide +kernel
theorem dX6_byteAt_0 : decode cX6_byteAt 0 = .ok (.iload_n 1, 1) := by decide +kernel
theorem dX6_byteAt_1 : decode cX6_byteAt 1 = .ok (.aload_n 0, 1) := by decide +kernel
theorem dX6_byteAt_2 : decode cX6_byteAt 2 = .ok (.getfield 130, 3) := by decide +kernel
theorem dX6_byteAt_5 : decode cX6_byteAt 5 = .ok (.if_icmp .ge 17, 3) := by decide +kernel
theorem dX6_byteAt_8 : decode cX6_byteAt 8 = .ok (.aload_n 0, 1) := by decide +kernel
theorem dX6_byteAt_9 : decode cX6_byteAt 9 = .ok (.getfield 13, 3) := by decide +kernel
theorem dX6_byteAt_12 : decode cX6_byteAt 12 = .ok (.aload_n 0, 1) := by decide +kernel
theorem dX6_byteAt_13 : decode cX6_byteAt 13 = .ok (.getfield 133, 3) := by decide +kernel
theorem dX6_byteAt_16 : decode cX6_byteAt 16 = .ok (.iload_n 1, 1) := by decide +kernel
theorem dX6_byteAt_17 : decode cX6_byteAt 17 = .ok (.iadd, 1) := by decide +kernel
theorem dX6_byteAt_18 : decode cX6_byteAt 18 = .ok (.iaload, 1) := by decide +kernel
theorem dX6_byteAt_19 : decode cX6_byteAt 19 = .ok (.goto 4, 3) := by decide +kernel
theorem dX6_byteAt_22 : decode cX6_byteAt 22 = .ok (.iconst (-1), 1) := by decide +kernel
theorem dX6_byteAt_23 : decode cX6_byteAt 23 = .ok (.ireturn, 1) := by decide +kernel
theorem dX6_next_0 : decode cX6_next 0 = .ok (.aload_n 0, 1) := by decide +kernel
theorem dX6_next_1 : decode cX6_next 1 = .ok (.aload_n 0, 1) := by decide +kernel
theorem dX6_next_2 : decode cX6_next 2 = .ok (.getfield 136, 3) := by decide +kernel
theorem dX6_next_5 : decode cX6_next 5 = .ok (.invokevirtual 139, 3) := by decide +kernel
theorem dX6_next_8 : decode cX6_next 8 = .ok (.bipush 32, 2) := by decide +kernel
theorem dX6_next_10 : decode cX6_next 10 = .ok (.if_icmp .eq 16, 3) := by decide +kernel
theorem dX6_next_13 : decode cX6_next 13 = .ok (.aload_n 0, 1) := by decide +kernel
theorem dX6_next_14 : decode cX6_next 14 = .ok (.aload_n 0, 1) := by decide +kernel
theorem dX6_next_15 : decode cX6_next 15 = .ok (.getfield 136, 3) := by decide +kernel
theorem dX6_next_18 : decode cX6_next 18 = .ok (.invokevirtual 139, 3) := by decide +kernel
theorem dX6_next_21 : decode cX6_next 21 = .ok (.bipush 10, 2) := by decide +kernel
theorem dX6_next_23 : decode cX6_next 23 = .ok (.if_icmp .ne 16, 3) := by decide +kernel
theorem dX6_next_26 : decode cX6_next 26 = .ok (.aload_n 0, 1) := by decide +kernel
theorem dX6_next_27 : decode cX6_next 27 = .ok (.dup, 1) := by decide +kernel
theorem dX6_next_28 : decode cX6_next 28 = .ok (.getfield 136, 3) := by decide +kernel
theorem dX6_next_31 : decode cX6_next 31 = .ok (.iconst 1, 1) := by decide +kernel
theorem dX6_next_32 : decode cX6_next 32 = .ok (.iadd, 1) := by decide +kernel
theorem dX6_next_33 : decode cX6_next 33 = .ok (.putfield 136, 3) := by decide +kernel
theorem dX6_next_36 : decode cX6_next 36 = .ok (.goto (-36), 3) := by decide +kernel
theorem dX6_next_39 : decode cX6_next 39 = .ok (.aload_n 0, 1) := by decide +kernel
theorem dX6_next_40 : decode cX6_next 40 = .ok (.aload_n 0, 1) := by decide +kernel
theorem dX6_next_41 : decode cX6_next 41 = .ok (.getfield 136, 3) := by decide +kernel
theorem dX6_next_44 : decode cX6_next 44 = .ok (.putfield 142, 3) := by decide +kernel
theorem dX6_next_47 : decode cX6_next 47 = .ok (.aload_n 0, 1) := by decide +kernel
theorem dX6_next_48 : decode cX6_next 48 = .ok (.aload_n 0, 1) := by decide +kernel
theorem dX6_next_49 : decode cX6_next 49 = .ok (.getfield 136, 3) := by decide +kernel
theorem dX6_next_52 : decode cX6_next 52 = .ok (.invokevirtual 139, 3) := by decide +kernel
theorem dX6_next_55 : decode cX6_next 55 = .ok (.istore_n 1, 1) := by decide +kernel
theorem dX6_next_56 : decode cX6_next 56 = .ok (.aload_n 0, 1) := by decide +kernel
theorem dX6_next_57 : decode cX6_next 57 = .ok (.iconst 4, 1) := by decide +kernel
theorem dX6_next_58 : decode cX6_next 58 = .ok (.putfield 145, 3) := by decide +kernel
theorem dX6_next_61 : decode cX6_next 61 = .ok (.iload_n 1, 1) := by decide +kernel
theorem dX6_next_62 : decode cX6_next 62 = .ok (.ifCond .ge 19, 3) := by decide +kernel
theorem dX6_next_65 : decode cX6_next 65 = .ok (.aload_n 0, 1) := by decide +kernel
theorem dX6_next_66 : decode cX6_next 66 = .ok (.iconst 0, 1) := by decide +kernel
theorem dX6_next_67 : decode cX6_next 67 = .ok (.putfield 145, 3) := by decide +kernel
theorem dX6_next_70 : decode cX6_next 70 = .ok (.aload_n 0, 1) := by decide +kernel
theorem dX6_next_71 : decode cX6_next 71 = .ok (.aload_n 0, 1) := by decide +kernel
theorem dX6_next_72 : decode cX6_next 72 = .ok (.getfield 130, 3) := by decide +kernel
theorem dX6_next_75 : decode cX6_next 75 = .ok (.putfield 142, 3) := by decide +kernel
theorem dX6_next_78 : decode cX6_next 78 = .ok (.goto 243, 3) := by decide +kernel
theorem dX6_next_81 : decode cX6_next 81 = .ok (.iload_n 1, 1) := by decide +kernel
theorem dX6_next_82 : decode cX6_next 82 = .ok (.i2l, 1) := by decide +kernel
theorem dX6_next_83 : decode cX6_next 83 = .ok (.ldc2_w 148, 3) := by decide +kernel
theorem dX6_next_86 : decode cX6_next 86 = .ok (.ldc2_w 150, 3) := by decide +kernel
theorem dX6_next_89 : decode cX6_next 89 = .ok (.invokestatic 64, 3) := by decide +kernel
theorem dX6_next_92 : decode cX6_next 92 = .ok (.ifCond .eq 42, 3) := by decide +kernel
theorem dX6_next_95 : decode cX6_next 95 = .ok (.aload_n 0, 1) := by decide +kernel
theorem dX6_next_96 : decode cX6_next 96 = .ok (.iconst 1, 1) := by decide +kernel
theorem dX6_next_97 : decode cX6_next 97 = .ok (.putfield 145, 3) := by decide +kernel
theorem dX6_next_100 : decode cX6_next 100 = .ok (.aload_n 0, 1) := by decide +kernel
theorem dX6_next_101 : decode cX6_next 101 = .ok (.aload_n 0, 1) := by decide +kernel
theorem dX6_next_102 : decode cX6_next 102 = .ok (.getfield 136, 3) := by decide +kernel
theorem dX6_next_105 : decode cX6_next 105 = .ok (.invokevirtual 139, 3) := by decide +kernel
theorem dX6_next_108 : decode cX6_next 108 = .ok (.i2l, 1) := by decide +kernel
theorem dX6_next_109 : decode cX6_next 109 = .ok (.ldc2_w 148, 3) := by decide +kernel
theorem dX6_next_112 : decode cX6_next 112 = .ok (.ldc2_w 150, 3) := by decide +kernel
theorem dX6_next_115 : decode cX6_next 115 = .ok (.invokestatic 64, 3) := by decide +kernel
theorem dX6_next_118 : decode cX6_next 118 = .ok (.ifCond .eq 203, 3) := by decide +kernel
theorem dX6_next_121 : decode cX6_next 121 = .ok (.aload_n 0, 1) := by decide +kernel
theorem dX6_next_122 : decode cX6_next 122 = .ok (.dup, 1) := by decide +kernel
theorem dX6_next_123 : decode cX6_next 123 = .ok (.getfield 136, 3) := by decide +kernel
theorem dX6_next_126 : decode cX6_next 126 = .ok (.iconst 1, 1) := by decide +kernel
theorem dX6_next_127 : decode cX6_next 127 = .ok (.iadd, 1) := by decide +kernel
theorem dX6_next_128 : decode cX6_next 128 = .ok (.putfield 136, 3) := by decide +kernel
theorem dX6_next_131 : decode cX6_next 131 = .ok (.goto (-31), 3) := by decide +kernel
theorem dX6_next_134 : decode cX6_next 134 = .ok (.iload_n 1, 1) := by decide +kernel
theorem dX6_next_135 : decode cX6_next 135 = .ok (.i2l, 1) := by decide +kernel
theorem dX6_next_136 : decode cX6_next 136 = .ok (.ldc2_w 152, 3) := by decide +kernel
theorem dX6_next_139 : decode cX6_next 139 = .ok (.ldc2_w 154, 3) := by decide +kernel
theorem dX6_next_142 : decode cX6_next 142 = .ok (.invokestatic 64, 3) := by decide +kernel
theorem dX6_next_145 : decode cX6_next 145 = .ok (.ifCond .eq 107, 3) := by decide +kernel
theorem dX6_next_148 : decode cX6_next 148 = .ok (.aload_n 0, 1) := by decide +kernel
theorem dX6_next_149 : decode cX6_next 149 = .ok (.iconst 2, 1) := by decide +kernel
theorem dX6_next_150 : decode cX6_next 150 = .ok (.putfield 145, 3) := by decide +kernel
theorem dX6_next_153 : decode cX6_next 153 = .ok (.aload_n 0, 1) := by decide +kernel
theorem dX6_next_154 : decode cX6_next 154 = .ok (.lconst 0, 1) := by decide +kernel
theorem dX6_next_155 : decode cX6_next 155 = .ok (.putfield 156, 3) := by decide +kernel
theorem dX6_next_158 : decode cX6_next 158 = .ok (.iconst 0, 1) := by decide +kernel
theorem dX6_next_159 : decode cX6_next 159 = .ok (.istore_n 2, 1) := by decide +kernel
theorem dX6_next_160 : decode cX6_next 160 = .ok (.aload_n 0, 1) := by decide +kernel
theorem dX6_next_161 : decode cX6_next 161 = .ok (.aload_n 0, 1) := by decide +kernel
theorem dX6_next_162 : decode cX6_next 162 = .ok (.getfield 136, 3) := by decide +kernel
theorem dX6_next_165 : decode cX6_next 165 = .ok (.invokevirtual 139, 3) := by decide +kernel
theorem dX6_next_168 : decode cX6_next 168 = .ok (.i2l, 1) := by decide +kernel
theorem dX6_next_169 : decode cX6_next 169 = .ok (.ldc2_w 152, 3) := by decide +kernel
theorem dX6_next_172 : decode cX6_next 172 = .ok (.ldc2_w 154, 3) := by decide +kernel
theorem dX6_next_175 : decode cX6_next 175 = .ok (.invokestatic 64, 3) := by decide +kernel
theorem dX6_next_178 : decode cX6_next 178 = .ok (.ifCond .eq 57, 3) := by decide +kernel
theorem dX6_next_181 : decode cX6_next 181 = .ok (.aload_n 0, 1) := by decide +kernel
theorem dX6_next_182 : decode cX6_next 182 = .ok (.iload_n 2, 1) := by decide +kernel
theorem dX6_next_183 : decode cX6_next 183 = .ok (.iconst 4, 1) := by decide +kernel
theorem dX6_next_184 : decode cX6_next 184 = .ok (.if_icmp .ge 28, 3) := by decide +kernel
theorem dX6_next_187 : decode cX6_next 187 = .ok (.ldc2_w 160, 3) := by decide +kernel
theorem dX6_next_190 : decode cX6_next 190 = .ok (.aload_n 0, 1) := by decide +kernel
theorem dX6_next_191 : decode cX6_next 191 = .ok (.getfield 156, 3) := by decide +kernel
theorem dX6_next_194 : decode cX6_next 194 = .ok (.lmul, 1) := by decide +kernel
theorem dX6_next_195 : decode cX6_next 195 = .ok (.aload_n 0, 1) := by decide +kernel
theorem dX6_next_196 : decode cX6_next 196 = .ok (.aload_n 0, 1) := by decide +kernel
theorem dX6_next_197 : decode cX6_next 197 = .ok (.getfield 136, 3) := by decide +kernel
theorem dX6_next_200 : decode cX6_next 200 = .ok (.invokevirtual 139, 3) := by decide +kernel
theorem dX6_next_203 : decode cX6_next 203 = .ok (.i2l, 1) := by decide +kernel
theorem dX6_next_204 : decode cX6_next 204 = .ok (.ladd, 1) := by decide +kernel
theorem dX6_next_205 : decode cX6_next 205 = .ok (.ldc2_w 152, 3) := by decide +kernel
theorem dX6_next_208 : decode cX6_next 208 = .ok (.lsub, 1) := by decide +kernel
theorem dX6_next_209 : decode cX6_next 209 = .ok (.goto 7, 3) := by decide +kernel
theorem dX6_next_212 : decode cX6_next 212 = .ok (.aload_n 0, 1) := by decide +kernel
theorem dX6_next_213 : decode cX6_next 213 = .ok (.getfield 156, 3) := by decide +kernel
theorem dX6_next_216 : decode cX6_next 216 = .ok (.putfield 156, 3) := by decide +kernel
theorem dX6_next_219 : decode cX6_next 219 = .ok (.iinc 2 1, 3) := by decide +kernel
theorem dX6_next_222 : decode cX6_next 222 = .ok (.aload_n 0, 1) := by decide +kernel
theorem dX6_next_223 : decode cX6_next 223 = .ok (.dup, 1) := by decide +kernel
theorem dX6_next_224 : decode cX6_next 224 = .ok (.getfield 136, 3) := by decide +kernel
theorem dX6_next_227 : decode cX6_next 227 = .ok (.iconst 1, 1) := by decide +kernel
theorem dX6_next_228 : decode cX6_next 228 = .ok (.iadd, 1) := by decide +kernel
theorem dX6_next_229 : decode cX6_next 229 = .ok (.putfield 136, 3) := by decide +kernel
theorem dX6_next_232 : decode cX6_next 232 = .ok (.goto (-72), 3) := by decide +kernel
theorem dX6_next_235 : decode cX6_next 235 = .ok (.aload_n 0, 1) := by decide +kernel
theorem dX6_next_236 : decode cX6_next 236 = .ok (.iload_n 2, 1) := by decide +kernel
theorem dX6_next_237 : decode cX6_next 237 = .ok (.iconst 4, 1) := by decide +kernel
theorem dX6_next_238 : decode cX6_next 238 = .ok (.if_icmp .le 7, 3) := by decide +kernel
theorem dX6_next_241 : decode cX6_next 241 = .ok (.iconst 4, 1) := by decide +kernel
theorem dX6_next_242 : decode cX6_next 242 = .ok (.goto 4, 3) := by decide +kernel
theorem dX6_next_245 : decode cX6_next 245 = .ok (.iconst 2, 1) := by decide +kernel
theorem dX6_next_246 : decode cX6_next 246 = .ok (.putfield 145, 3) := by decide +kernel
theorem dX6_next_249 : decode cX6_next 249 = .ok (.goto 72, 3) := by decide +kernel
theorem dX6_next_252 : decode cX6_next 252 = .ok (.iload_n 1, 1) := by decide +kernel
theorem dX6_next_253 : decode cX6_next 253 = .ok (.bipush 40, 2) := by decide +kernel
theorem dX6_next_255 : decode cX6_next 255 = .ok (.if_icmp .eq 45, 3) := by decide +kernel
theorem dX6_next_258 : decode cX6_next 258 = .ok (.iload_n 1, 1) := by decide +kernel
theorem dX6_next_259 : decode cX6_next 259 = .ok (.bipush 41, 2) := by decide +kernel
theorem dX6_next_261 : decode cX6_next 261 = .ok (.if_icmp .eq 39, 3) := by decide +kernel
theorem dX6_next_264 : decode cX6_next 264 = .ok (.iload_n 1, 1) := by decide +kernel
theorem dX6_next_265 : decode cX6_next 265 = .ok (.bipush 59, 2) := by decide +kernel
theorem dX6_next_267 : decode cX6_next 267 = .ok (.if_icmp .eq 33, 3) := by decide +kernel
theorem dX6_next_270 : decode cX6_next 270 = .ok (.iload_n 1, 1) := by decide +kernel
theorem dX6_next_271 : decode cX6_next 271 = .ok (.bipush 43, 2) := by decide +kernel
theorem dX6_next_273 : decode cX6_next 273 = .ok (.if_icmp .eq 27, 3) := by decide +kernel
theorem dX6_next_276 : decode cX6_next 276 = .ok (.iload_n 1, 1) := by decide +kernel
theorem dX6_next_277 : decode cX6_next 277 = .ok (.bipush 45, 2) := by decide +kernel
theorem dX6_next_279 : decode cX6_next 279 = .ok (.if_icmp .eq 21, 3) := by decide +kernel
theorem dX6_next_282 : decode cX6_next 282 = .ok (.iload_n 1, 1) := by decide +kernel
theorem dX6_next_283 : decode cX6_next 283 = .ok (.bipush 42, 2) := by decide +kernel
theorem dX6_next_285 : decode cX6_next 285 = .ok (.if_icmp .eq 15, 3) := by decide +kernel
theorem dX6_next_288 : decode cX6_next 288 = .ok (.iload_n 1, 1) := by decide +kernel
theorem dX6_next_289 : decode cX6_next 289 = .ok (.bipush 60, 2) := by decide +kernel
theorem dX6_next_291 : decode cX6_next 291 = .ok (.if_icmp .eq 9, 3) := by decide +kernel
theorem dX6_next_294 : decode cX6_next 294 = .ok (.iload_n 1, 1) := by decide +kernel
theorem dX6_next_295 : decode cX6_next 295 = .ok (.bipush 61, 2) := by decide +kernel
theorem dX6_next_297 : decode cX6_next 297 = .ok (.if_icmp .ne 24, 3) := by decide +kernel
theorem dX6_next_300 : decode cX6_next 300 = .ok (.aload_n 0, 1) := by decide +kernel
theorem dX6_next_301 : decode cX6_next 301 = .ok (.iconst 3, 1) := by decide +kernel
theorem dX6_next_302 : decode cX6_next 302 = .ok (.putfield 145, 3) := by decide +kernel
theorem dX6_next_305 : decode cX6_next 305 = .ok (.aload_n 0, 1) := by decide +kernel
theorem dX6_next_306 : decode cX6_next 306 = .ok (.iload_n 1, 1) := by decide +kernel
theorem dX6_next_307 : decode cX6_next 307 = .ok (.i2l, 1) := by decide +kernel
theorem dX6_next_308 : decode cX6_next 308 = .ok (.putfield 156, 3) := by decide +kernel
theorem dX6_next_311 : decode cX6_next 311 = .ok (.aload_n 0, 1) := by decide +kernel
theorem dX6_next_312 : decode cX6_next 312 = .ok (.dup, 1) := by decide +kernel
theorem dX6_next_313 : decode cX6_next 313 = .ok (.getfield 136, 3) := by decide +kernel
theorem dX6_next_316 : decode cX6_next 316 = .ok (.iconst 1, 1) := by decide +kernel
theorem dX6_next_317 : decode cX6_next 317 = .ok (.iadd, 1) := by decide +kernel
theorem dX6_next_318 : decode cX6_next 318 = .ok (.putfield 136, 3) := by decide +kernel
theorem dX6_next_321 : decode cX6_next 321 = .ok (.return_, 1) := by decide +kernel
theorem dX6_fail_0 : decode cX6_fail 0 = .ok (.aload_n 0, 1) := by decide +kernel
theorem dX6_fail_1 : decode cX6_fail 1 = .ok (.getfield 162, 3) := by decide +kernel
theorem dX6_fail_4 : decode cX6_fail 4 = .ok (.ifCond .ne 16, 3) := by decide +kernel
theorem dX6_fail_7 : decode cX6_fail 7 = .ok (.aload_n 0, 1) := by decide +kernel
theorem dX6_fail_8 : decode cX6_fail 8 = .ok (.iconst 1, 1) := by decide +kernel
theorem dX6_fail_9 : decode cX6_fail 9 = .ok (.putfield 162, 3) := by decide +kernel
theorem dX6_fail_12 : decode cX6_fail 12 = .ok (.aload_n 0, 1) := by decide +kernel
theorem dX6_fail_13 : decode cX6_fail 13 = .ok (.aload_n 0, 1) := by decide +kernel
theorem dX6_fail_14 : decode cX6_fail 14 = .ok (.getfield 142, 3) := by decide +kernel
theorem dX6_fail_17 : decode cX6_fail 17 = .ok (.putfield 166, 3) := by decide +kernel
theorem dX6_fail_20 : decode cX6_fail 20 = .ok (.return_, 1) := by decide +kernel
theorem dX6_isLetter_0 : decode cX6_isLetter 0 = .ok (.aload_n 0, 1) := by decide +kernel
theorem dX6_isLetter_1 : decode cX6_isLetter 1 = .ok (.getfield 142, 3) := by decide +kernel
theorem dX6_isLetter_4 : decode cX6_isLetter 4 = .ok (.iload_n 1, 1) := by decide +kernel
theorem dX6_isLetter_5 : decode cX6_isLetter 5 = .ok (.iadd, 1) := by decide +kernel
theorem dX6_isLetter_6 : decode cX6_isLetter 6 = .ok (.aload_n 0, 1) := by decide +kernel
theorem dX6_isLetter_7 : decode cX6_isLetter 7 = .ok (.getfield 136, 3) := by decide +kernel
theorem dX6_isLetter_10 : decode cX6_isLetter 10 = .ok (.if_icmp .ge 25, 3) := by decide +kernel
theorem dX6_isLetter_13 : decode cX6_isLetter 13 = .ok (.aload_n 0, 1) := by decide +kernel
theorem dX6_isLetter_14 : decode cX6_isLetter 14 = .ok (.aload_n 0, 1) := by decide +kernel
theorem dX6_isLetter_15 : decode cX6_isLetter 15 = .ok (.getfield 142, 3) := by decide +kernel
theorem dX6_isLetter_18 : decode cX6_isLetter 18 = .ok (.iload_n 1, 1) := by decide +kernel
theorem dX6_isLetter_19 : decode cX6_isLetter 19 = .ok (.iadd, 1) := by decide +kernel
theorem dX6_isLetter_20 : decode cX6_isLetter 20 = .ok (.invokevirtual 139, 3) := by decide +kernel
theorem dX6_isLetter_23 : decode cX6_isLetter 23 = .ok (.iload_n 2, 1) := by decide +kernel
theorem dX6_isLetter_24 : decode cX6_isLetter 24 = .ok (.if_icmp .ne 7, 3) := by decide +kernel
theorem dX6_isLetter_27 : decode cX6_isLetter 27 = .ok (.iconst 1, 1) := by decide +kernel
theorem dX6_isLetter_28 : decode cX6_isLetter 28 = .ok (.goto 16, 3) := by decide +kernel
theorem dX6_isLetter_31 : decode cX6_isLetter 31 = .ok (.iconst 0, 1) := by decide +kernel
theorem dX6_isLetter_32 : decode cX6_isLetter 32 = .ok (.goto 12, 3) := by decide +kernel
theorem dX6_isLetter_35 : decode cX6_isLetter 35 = .ok (.iload_n 2, 1) := by decide +kernel
theorem dX6_isLetter_36 : decode cX6_isLetter 36 = .ok (.ifCond .ne 7, 3) := by decide +kernel
theorem dX6_isLetter_39 : decode cX6_isLetter 39 = .ok (.iconst 1, 1) := by decide +kernel
theorem dX6_isLetter_40 : decode cX6_isLetter 40 = .ok (.goto 4, 3) := by decide +kernel
theorem dX6_isLetter_43 : decode cX6_isLetter 43 = .ok (.iconst 0, 1) := by decide +kernel
theorem dX6_isLetter_44 : decode cX6_isLetter 44 = .ok (.ireturn, 1) := by decide +kernel
theorem dX6_isWord_0 : decode cX6_isWord 0 = .ok (.aload_n 0, 1) := by decide +kernel
theorem dX6_isWord_1 : decode cX6_isWord 1 = .ok (.getfield 162, 3) := by decide +kernel
theorem dX6_isWord_4 : decode cX6_isWord 4 = .ok (.ifCond .ne 108, 3) := by decide +kernel
theorem dX6_isWord_7 : decode cX6_isWord 7 = .ok (.aload_n 0, 1) := by decide +kernel
theorem dX6_isWord_8 : decode cX6_isWord 8 = .ok (.getfield 145, 3) := by decide +kernel
theorem dX6_isWord_11 : decode cX6_isWord 11 = .ok (.iconst 1, 1) := by decide +kernel
theorem dX6_isWord_12 : decode cX6_isWord 12 = .ok (.if_icmp .ne 100, 3) := by decide +kernel
theorem dX6_isWord_15 : decode cX6_isWord 15 = .ok (.aload_n 0, 1) := by decide +kernel
theorem dX6_isWord_16 : decode cX6_isWord 16 = .ok (.getfield 136, 3) := by decide +kernel
theorem dX6_isWord_19 : decode cX6_isWord 19 = .ok (.aload_n 0, 1) := by decide +kernel
theorem dX6_isWord_20 : decode cX6_isWord 20 = .ok (.getfield 142, 3) := by decide +kernel
theorem dX6_isWord_23 : decode cX6_isWord 23 = .ok (.bipush 8, 2) := by decide +kernel
theorem dX6_isWord_25 : decode cX6_isWord 25 = .ok (.iadd, 1) := by decide +kernel
theorem dX6_isWord_26 : decode cX6_isWord 26 = .ok (.if_icmp .gt 86, 3) := by decide +kernel
theorem dX6_isWord_29 : decode cX6_isWord 29 = .ok (.aload_n 0, 1) := by decide +kernel
theorem dX6_isWord_30 : decode cX6_isWord 30 = .ok (.iconst 0, 1) := by decide +kernel
theorem dX6_isWord_31 : decode cX6_isWord 31 = .ok (.iload_n 1, 1) := by decide +kernel
theorem dX6_isWord_32 : decode cX6_isWord 32 = .ok (.invokevirtual 169, 3) := by decide +kernel
theorem dX6_isWord_35 : decode cX6_isWord 35 = .ok (.ifCond .eq 77, 3) := by decide +kernel
theorem dX6_isWord_38 : decode cX6_isWord 38 = .ok (.aload_n 0, 1) := by decide +kernel
theorem dX6_isWord_39 : decode cX6_isWord 39 = .ok (.iconst 1, 1) := by decide +kernel
theorem dX6_isWord_40 : decode cX6_isWord 40 = .ok (.iload_n 2, 1) := by decide +kernel
theorem dX6_isWord_41 : decode cX6_isWord 41 = .ok (.invokevirtual 169, 3) := by decide +kernel
theorem dX6_isWord_44 : decode cX6_isWord 44 = .ok (.ifCond .eq 68, 3) := by decide +kernel
theorem dX6_isWord_47 : decode cX6_isWord 47 = .ok (.aload_n 0, 1) := by decide +kernel
theorem dX6_isWord_48 : decode cX6_isWord 48 = .ok (.iconst 2, 1) := by decide +kernel
theorem dX6_isWord_49 : decode cX6_isWord 49 = .ok (.iload_n 3, 1) := by decide +kernel
theorem dX6_isWord_50 : decode cX6_isWord 50 = .ok (.invokevirtual 169, 3) := by decide +kernel
theorem dX6_isWord_53 : decode cX6_isWord 53 = .ok (.ifCond .eq 59, 3) := by decide +kernel
theorem dX6_isWord_56 : decode cX6_isWord 56 = .ok (.aload_n 0, 1) := by decide +kernel
theorem dX6_isWord_57 : decode cX6_isWord 57 = .ok (.iconst 3, 1) := by decide +kernel
theorem dX6_isWord_58 : decode cX6_isWord 58 = .ok (.iload 4, 2) := by decide +kernel
theorem dX6_isWord_60 : decode cX6_isWord 60 = .ok (.invokevirtual 169, 3) := by decide +kernel
theorem dX6_isWord_63 : decode cX6_isWord 63 = .ok (.ifCond .eq 49, 3) := by decide +kernel
theorem dX6_isWord_66 : decode cX6_isWord 66 = .ok (.aload_n 0, 1) := by decide +kernel
theorem dX6_isWord_67 : decode cX6_isWord 67 = .ok (.iconst 4, 1) := by decide +kernel
theorem dX6_isWord_68 : decode cX6_isWord 68 = .ok (.iload 5, 2) := by decide +kernel
theorem dX6_isWord_70 : decode cX6_isWord 70 = .ok (.invokevirtual 169, 3) := by decide +kernel
theorem dX6_isWord_73 : decode cX6_isWord 73 = .ok (.ifCond .eq 39, 3) := by decide +kernel
theorem dX6_isWord_76 : decode cX6_isWord 76 = .ok (.aload_n 0, 1) := by decide +kernel
theorem dX6_isWord_77 : decode cX6_isWord 77 = .ok (.iconst 5, 1) := by decide +kernel
theorem dX6_isWord_78 : decode cX6_isWord 78 = .ok (.iload 6, 2) := by decide +kernel
theorem dX6_isWord_80 : decode cX6_isWord 80 = .ok (.invokevirtual 169, 3) := by decide +kernel
theorem dX6_isWord_83 : decode cX6_isWord 83 = .ok (.ifCond .eq 29, 3) := by decide +kernel
theorem dX6_isWord_86 : decode cX6_isWord 86 = .ok (.aload_n 0, 1) := by decide +kernel
theorem dX6_isWord_87 : decode cX6_isWord 87 = .ok (.bipush 6, 2) := by decide +kernel
theorem dX6_isWord_89 : decode cX6_isWord 89 = .ok (.iload 7, 2) := by decide +kernel
theorem dX6_isWord_91 : decode cX6_isWord 91 = .ok (.invokevirtual 169, 3) := by decide +kernel
theorem dX6_isWord_94 : decode cX6_isWord 94 = .ok (.ifCond .eq 18, 3) := by decide +kernel
theorem dX6_isWord_97 : decode cX6_isWord 97 = .ok (.aload_n 0, 1) := by decide +kernel
theorem dX6_isWord_98 : decode cX6_isWord 98 = .ok (.bipush 7, 2) := by decide +kernel
theorem dX6_isWord_100 : decode cX6_isWord 100 = .ok (.iload 8, 2) := by decide +kernel
theorem dX6_isWord_102 : decode cX6_isWord 102 = .ok (.invokevirtual 169, 3) := by decide +kernel
theorem dX6_isWord_105 : decode cX6_isWord 105 = .ok (.ifCond .eq 7, 3) := by decide +kernel
theorem dX6_isWord_108 : decode cX6_isWord 108 = .ok (.iconst 1, 1) := by decide +kernel
theorem dX6_isWord_109 : decode cX6_isWord 109 = .ok (.goto 4, 3) := by decide +kernel
theorem dX6_isWord_112 : decode cX6_isWord 112 = .ok (.iconst 0, 1) := by decide +kernel
theorem dX6_isWord_113 : decode cX6_isWord 113 = .ok (.ireturn, 1) := by decide +kernel
theorem dX6_isSign_0 : decode cX6_isSign 0 = .ok (.aload_n 0, 1) := by decide +kernel
theorem dX6_isSign_1 : decode cX6_isSign 1 = .ok (.getfield 162, 3) := by decide +kernel
theorem dX6_isSign_4 : decode cX6_isSign 4 = .ok (.ifCond .ne 25, 3) := by decide +kernel
theorem dX6_isSign_7 : decode cX6_isSign 7 = .ok (.aload_n 0, 1) := by decide +kernel
theorem dX6_isSign_8 : decode cX6_isSign 8 = .ok (.getfield 145, 3) := by decide +kernel
theorem dX6_isSign_11 : decode cX6_isSign 11 = .ok (.iconst 3, 1) := by decide +kernel
theorem dX6_isSign_12 : decode cX6_isSign 12 = .ok (.if_icmp .ne 17, 3) := by decide +kernel
theorem dX6_isSign_15 : decode cX6_isSign 15 = .ok (.aload_n 0, 1) := by decide +kernel
theorem dX6_isSign_16 : decode cX6_isSign 16 = .ok (.getfield 156, 3) := by decide +kernel
theorem dX6_isSign_19 : decode cX6_isSign 19 = .ok (.iload_n 1, 1) := by decide +kernel
theorem dX6_isSign_20 : decode cX6_isSign 20 = .ok (.i2l, 1) := by decide +kernel
theorem dX6_isSign_21 : decode cX6_isSign 21 = .ok (.lcmp, 1) := by decide +kernel
theorem dX6_isSign_22 : decode cX6_isSign 22 = .ok (.ifCond .ne 7, 3) := by decide +kernel
theorem dX6_isSign_25 : decode cX6_isSign 25 = .ok (.iconst 1, 1) := by decide +kernel
theorem dX6_isSign_26 : decode cX6_isSign 26 = .ok (.goto 4, 3) := by decide +kernel
theorem dX6_isSign_29 : decode cX6_isSign 29 = .ok (.iconst 0, 1) := by decide +kernel
theorem dX6_isSign_30 : decode cX6_isSign 30 = .ok (.ireturn, 1) := by decide +kernel
theorem dX6_opens_0 : decode cX6_opens 0 = .ok (.aload_n 0, 1) := by decide +kernel
theorem dX6_opens_1 : decode cX6_opens 1 = .ok (.getfield 172, 3) := by decide +kernel
theorem dX6_opens_4 : decode cX6_opens 4 = .ok (.iconst 5, 1) := by decide +kernel
theorem dX6_opens_5 : decode cX6_opens 5 = .ok (.if_icmp .ne 9, 3) := by decide +kernel
theorem dX6_opens_8 : decode cX6_opens 8 = .ok (.aload_n 0, 1) := by decide +kernel
theorem dX6_opens_9 : decode cX6_opens 9 = .ok (.invokevirtual 175, 3) := by decide +kernel
theorem dX6_opens_12 : decode cX6_opens 12 = .ok (.iconst 0, 1) := by decide +kernel
theorem dX6_opens_13 : decode cX6_opens 13 = .ok (.ireturn, 1) := by decide +kernel
theorem dX6_opens_14 : decode cX6_opens 14 = .ok (.aload_n 0, 1) := by decide +kernel
theorem dX6_opens_15 : decode cX6_opens 15 = .ok (.dup, 1) := by decide +kernel
theorem dX6_opens_16 : decode cX6_opens 16 = .ok (.getfield 172, 3) := by decide +kernel
theorem dX6_opens_19 : decode cX6_opens 19 = .ok (.iconst 1, 1) := by decide +kernel
theorem dX6_opens_20 : decode cX6_opens 20 = .ok (.iadd, 1) := by decide +kernel
theorem dX6_opens_21 : decode cX6_opens 21 = .ok (.putfield 172, 3) := by decide +kernel
theorem dX6_opens_24 : decode cX6_opens 24 = .ok (.aload_n 0, 1) := by decide +kernel
theorem dX6_opens_25 : decode cX6_opens 25 = .ok (.invokevirtual 178, 3) := by decide +kernel
theorem dX6_opens_28 : decode cX6_opens 28 = .ok (.iconst 1, 1) := by decide +kernel
theorem dX6_opens_29 : decode cX6_opens 29 = .ok (.ireturn, 1) := by decide +kernel
theorem dX6_name_0 : decode cX6_name 0 = .ok (.aload_n 0, 1) := by decide +kernel
theorem dX6_name_1 : decode cX6_name 1 = .ok (.bipush 115, 2) := by decide +kernel
theorem dX6_name_3 : decode cX6_name 3 = .ok (.bipush 116, 2) := by decide +kernel
theorem dX6_name_5 : decode cX6_name 5 = .ok (.bipush 114, 2) := by decide +kernel
theorem dX6_name_7 : decode cX6_name 7 = .ok (.bipush 111, 2) := by decide +kernel
theorem dX6_name_9 : decode cX6_name 9 = .ok (.bipush 110, 2) := by decide +kernel
theorem dX6_name_11 : decode cX6_name 11 = .ok (.bipush 103, 2) := by decide +kernel
theorem dX6_name_13 : decode cX6_name 13 = .ok (.iconst 0, 1) := by decide +kernel
theorem dX6_name_14 : decode cX6_name 14 = .ok (.iconst 0, 1) := by decide +kernel
theorem dX6_name_15 : decode cX6_name 15 = .ok (.invokevirtual 181, 3) := by decide +kernel
theorem dX6_name_18 : decode cX6_name 18 = .ok (.ifCond .eq 8, 3) := by decide +kernel
theorem dX6_name_21 : decode cX6_name 21 = .ok (.aload_n 0, 1) := by decide +kernel
theorem dX6_name_22 : decode cX6_name 22 = .ok (.getfield 185, 3) := by decide +kernel
theorem dX6_name_25 : decode cX6_name 25 = .ok (.ireturn, 1) := by decide +kernel
theorem dX6_name_26 : decode cX6_name 26 = .ok (.aload_n 0, 1) := by decide +kernel
theorem dX6_name_27 : decode cX6_name 27 = .ok (.bipush 104, 2) := by decide +kernel
theorem dX6_name_29 : decode cX6_name 29 = .ok (.bipush 97, 2) := by decide +kernel
theorem dX6_name_31 : decode cX6_name 31 = .ok (.bipush 115, 2) := by decide +kernel
theorem dX6_name_33 : decode cX6_name 33 = .ok (.iconst 0, 1) := by decide +kernel
theorem dX6_name_34 : decode cX6_name 34 = .ok (.iconst 0, 1) := by decide +kernel
theorem dX6_name_35 : decode cX6_name 35 = .ok (.iconst 0, 1) := by decide +kernel
theorem dX6_name_36 : decode cX6_name 36 = .ok (.iconst 0, 1) := by decide +kernel
theorem dX6_name_37 : decode cX6_name 37 = .ok (.iconst 0, 1) := by decide +kernel
theorem dX6_name_38 : decode cX6_name 38 = .ok (.invokevirtual 181, 3) := by decide +kernel
theorem dX6_name_41 : decode cX6_name 41 = .ok (.ifCond .eq 8, 3) := by decide +kernel
theorem dX6_name_44 : decode cX6_name 44 = .ok (.aload_n 0, 1) := by decide +kernel
theorem dX6_name_45 : decode cX6_name 45 = .ok (.getfield 188, 3) := by decide +kernel
theorem dX6_name_48 : decode cX6_name 48 = .ok (.ireturn, 1) := by decide +kernel
theorem dX6_name_49 : decode cX6_name 49 = .ok (.aload_n 0, 1) := by decide +kernel
theorem dX6_name_50 : decode cX6_name 50 = .ok (.bipush 110, 2) := by decide +kernel
theorem dX6_name_52 : decode cX6_name 52 = .ok (.bipush 117, 2) := by decide +kernel
theorem dX6_name_54 : decode cX6_name 54 = .ok (.bipush 109, 2) := by decide +kernel
theorem dX6_name_56 : decode cX6_name 56 = .ok (.bipush 98, 2) := by decide +kernel
theorem dX6_name_58 : decode cX6_name 58 = .ok (.bipush 101, 2) := by decide +kernel
theorem dX6_name_60 : decode cX6_name 60 = .ok (.bipush 114, 2) := by decide +kernel
theorem dX6_name_62 : decode cX6_name 62 = .ok (.iconst 0, 1) := by decide +kernel
theorem dX6_name_63 : decode cX6_name 63 = .ok (.iconst 0, 1) := by decide +kernel
theorem dX6_name_64 : decode cX6_name 64 = .ok (.invokevirtual 181, 3) := by decide +kernel
theorem dX6_name_67 : decode cX6_name 67 = .ok (.ifCond .eq 8, 3) := by decide +kernel
theorem dX6_name_70 : decode cX6_name 70 = .ok (.aload_n 0, 1) := by decide +kernel
theorem dX6_name_71 : decode cX6_name 71 = .ok (.getfield 191, 3) := by decide +kernel
theorem dX6_name_74 : decode cX6_name 74 = .ok (.ireturn, 1) := by decide +kernel
theorem dX6_name_75 : decode cX6_name 75 = .ok (.aload_n 0, 1) := by decide +kernel
theorem dX6_name_76 : decode cX6_name 76 = .ok (.bipush 116, 2) := by decide +kernel
theorem dX6_name_78 : decode cX6_name 78 = .ok (.bipush 104, 2) := by decide +kernel
theorem dX6_name_80 : decode cX6_name 80 = .ok (.bipush 101, 2) := by decide +kernel
theorem dX6_name_82 : decode cX6_name 82 = .ok (.bipush 105, 2) := by decide +kernel
theorem dX6_name_84 : decode cX6_name 84 = .ok (.bipush 114, 2) := by decide +kernel
theorem dX6_name_86 : decode cX6_name 86 = .ok (.bipush 115, 2) := by decide +kernel
theorem dX6_name_88 : decode cX6_name 88 = .ok (.iconst 0, 1) := by decide +kernel
theorem dX6_name_89 : decode cX6_name 89 = .ok (.iconst 0, 1) := by decide +kernel
theorem dX6_name_90 : decode cX6_name 90 = .ok (.invokevirtual 181, 3) := by decide +kernel
theorem dX6_name_93 : decode cX6_name 93 = .ok (.ifCond .eq 8, 3) := by decide +kernel
theorem dX6_name_96 : decode cX6_name 96 = .ok (.aload_n 0, 1) := by decide +kernel
theorem dX6_name_97 : decode cX6_name 97 = .ok (.getfield 194, 3) := by decide +kernel
theorem dX6_name_100 : decode cX6_name 100 = .ok (.ireturn, 1) := by decide +kernel
theorem dX6_name_101 : decode cX6_name 101 = .ok (.aload_n 0, 1) := by decide +kernel
theorem dX6_name_102 : decode cX6_name 102 = .ok (.bipush 114, 2) := by decide +kernel
theorem dX6_name_104 : decode cX6_name 104 = .ok (.bipush 111, 2) := by decide +kernel
theorem dX6_name_106 : decode cX6_name 106 = .ok (.bipush 117, 2) := by decide +kernel
theorem dX6_name_108 : decode cX6_name 108 = .ok (.bipush 110, 2) := by decide +kernel
theorem dX6_name_110 : decode cX6_name 110 = .ok (.bipush 100, 2) := by decide +kernel
theorem dX6_name_112 : decode cX6_name 112 = .ok (.iconst 0, 1) := by decide +kernel
theorem dX6_name_113 : decode cX6_name 113 = .ok (.iconst 0, 1) := by decide +kernel
theorem dX6_name_114 : decode cX6_name 114 = .ok (.iconst 0, 1) := by decide +kernel
theorem dX6_name_115 : decode cX6_name 115 = .ok (.invokevirtual 181, 3) := by decide +kernel
theorem dX6_name_118 : decode cX6_name 118 = .ok (.ifCond .eq 8, 3) := by decide +kernel
theorem dX6_name_121 : decode cX6_name 121 = .ok (.aload_n 0, 1) := by decide +kernel
theorem dX6_name_122 : decode cX6_name 122 = .ok (.getfield 197, 3) := by decide +kernel
theorem dX6_name_125 : decode cX6_name 125 = .ok (.ireturn, 1) := by decide +kernel
theorem dX6_name_126 : decode cX6_name 126 = .ok (.aload_n 0, 1) := by decide +kernel
theorem dX6_name_127 : decode cX6_name 127 = .ok (.bipush 115, 2) := by decide +kernel
theorem dX6_name_129 : decode cX6_name 129 = .ok (.bipush 116, 2) := by decide +kernel
theorem dX6_name_131 : decode cX6_name 131 = .ok (.bipush 97, 2) := by decide +kernel
theorem dX6_name_133 : decode cX6_name 133 = .ok (.bipush 107, 2) := by decide +kernel
theorem dX6_name_135 : decode cX6_name 135 = .ok (.bipush 101, 2) := by decide +kernel
theorem dX6_name_137 : decode cX6_name 137 = .ok (.iconst 0, 1) := by decide +kernel
theorem dX6_name_138 : decode cX6_name 138 = .ok (.iconst 0, 1) := by decide +kernel
theorem dX6_name_139 : decode cX6_name 139 = .ok (.iconst 0, 1) := by decide +kernel
theorem dX6_name_140 : decode cX6_name 140 = .ok (.invokevirtual 181, 3) := by decide +kernel
theorem dX6_name_143 : decode cX6_name 143 = .ok (.ifCond .eq 8, 3) := by decide +kernel
theorem dX6_name_146 : decode cX6_name 146 = .ok (.aload_n 0, 1) := by decide +kernel
theorem dX6_name_147 : decode cX6_name 147 = .ok (.getfield 200, 3) := by decide +kernel
theorem dX6_name_150 : decode cX6_name 150 = .ok (.ireturn, 1) := by decide +kernel
theorem dX6_name_151 : decode cX6_name 151 = .ok (.aload_n 0, 1) := by decide +kernel
theorem dX6_name_152 : decode cX6_name 152 = .ok (.invokevirtual 175, 3) := by decide +kernel
theorem dX6_name_155 : decode cX6_name 155 = .ok (.iconst 0, 1) := by decide +kernel
theorem dX6_name_156 : decode cX6_name 156 = .ok (.ireturn, 1) := by decide +kernel
theorem dX6_atom_0 : decode cX6_atom 0 = .ok (.iconst 0, 1) := by decide +kernel
theorem dX6_atom_1 : decode cX6_atom 1 = .ok (.istore_n 1, 1) := by decide +kernel
theorem dX6_atom_2 : decode cX6_atom 2 = .ok (.aload_n 0, 1) := by decide +kernel
theorem dX6_atom_3 : decode cX6_atom 3 = .ok (.bipush 45, 2) := by decide +kernel
theorem dX6_atom_5 : decode cX6_atom 5 = .ok (.invokevirtual 203, 3) := by decide +kernel
theorem dX6_atom_8 : decode cX6_atom 8 = .ok (.ifCond .eq 29, 3) := by decide +kernel
theorem dX6_atom_11 : decode cX6_atom 11 = .ok (.aload_n 0, 1) := by decide +kernel
theorem dX6_atom_12 : decode cX6_atom 12 = .ok (.invokevirtual 206, 3) := by decide +kernel
theorem dX6_atom_15 : decode cX6_atom 15 = .ok (.ifCond .eq 146, 3) := by decide +kernel
theorem dX6_atom_18 : decode cX6_atom 18 = .ok (.aload_n 0, 1) := by decide +kernel
theorem dX6_atom_19 : decode cX6_atom 19 = .ok (.invokevirtual 210, 3) := by decide +kernel
theorem dX6_atom_22 : decode cX6_atom 22 = .ok (.ineg, 1) := by decide +kernel
theorem dX6_atom_23 : decode cX6_atom 23 = .ok (.istore_n 1, 1) := by decide +kernel
theorem dX6_atom_24 : decode cX6_atom 24 = .ok (.aload_n 0, 1) := by decide +kernel
theorem dX6_atom_25 : decode cX6_atom 25 = .ok (.dup, 1) := by decide +kernel
theorem dX6_atom_26 : decode cX6_atom 26 = .ok (.getfield 172, 3) := by decide +kernel
theorem dX6_atom_29 : decode cX6_atom 29 = .ok (.iconst 1, 1) := by decide +kernel
theorem dX6_atom_30 : decode cX6_atom 30 = .ok (.isub, 1) := by decide +kernel
theorem dX6_atom_31 : decode cX6_atom 31 = .ok (.putfield 172, 3) := by decide +kernel
theorem dX6_atom_34 : decode cX6_atom 34 = .ok (.goto 127, 3) := by decide +kernel
theorem dX6_atom_37 : decode cX6_atom 37 = .ok (.aload_n 0, 1) := by decide +kernel
theorem dX6_atom_38 : decode cX6_atom 38 = .ok (.bipush 40, 2) := by decide +kernel
theorem dX6_atom_40 : decode cX6_atom 40 = .ok (.invokevirtual 203, 3) := by decide +kernel
theorem dX6_atom_43 : decode cX6_atom 43 = .ok (.ifCond .eq 52, 3) := by decide +kernel
theorem dX6_atom_46 : decode cX6_atom 46 = .ok (.aload_n 0, 1) := by decide +kernel
theorem dX6_atom_47 : decode cX6_atom 47 = .ok (.invokevirtual 206, 3) := by decide +kernel
theorem dX6_atom_50 : decode cX6_atom 50 = .ok (.ifCond .eq 111, 3) := by decide +kernel
theorem dX6_atom_53 : decode cX6_atom 53 = .ok (.aload_n 0, 1) := by decide +kernel
theorem dX6_atom_54 : decode cX6_atom 54 = .ok (.invokevirtual 214, 3) := by decide +kernel
theorem dX6_atom_57 : decode cX6_atom 57 = .ok (.istore_n 1, 1) := by decide +kernel
theorem dX6_atom_58 : decode cX6_atom 58 = .ok (.aload_n 0, 1) := by decide +kernel
theorem dX6_atom_59 : decode cX6_atom 59 = .ok (.bipush 41, 2) := by decide +kernel
theorem dX6_atom_61 : decode cX6_atom 61 = .ok (.invokevirtual 203, 3) := by decide +kernel
theorem dX6_atom_64 : decode cX6_atom 64 = .ok (.ifCond .ne 7, 3) := by decide +kernel
theorem dX6_atom_67 : decode cX6_atom 67 = .ok (.aload_n 0, 1) := by decide +kernel
theorem dX6_atom_68 : decode cX6_atom 68 = .ok (.invokevirtual 175, 3) := by decide +kernel
theorem dX6_atom_71 : decode cX6_atom 71 = .ok (.aload_n 0, 1) := by decide +kernel
theorem dX6_atom_72 : decode cX6_atom 72 = .ok (.dup, 1) := by decide +kernel
theorem dX6_atom_73 : decode cX6_atom 73 = .ok (.getfield 172, 3) := by decide +kernel
theorem dX6_atom_76 : decode cX6_atom 76 = .ok (.iconst 1, 1) := by decide +kernel
theorem dX6_atom_77 : decode cX6_atom 77 = .ok (.isub, 1) := by decide +kernel
theorem dX6_atom_78 : decode cX6_atom 78 = .ok (.putfield 172, 3) := by decide +kernel
theorem dX6_atom_81 : decode cX6_atom 81 = .ok (.aload_n 0, 1) := by decide +kernel
theorem dX6_atom_82 : decode cX6_atom 82 = .ok (.getfield 162, 3) := by decide +kernel
theorem dX6_atom_85 : decode cX6_atom 85 = .ok (.ifCond .ne 76, 3) := by decide +kernel
theorem dX6_atom_88 : decode cX6_atom 88 = .ok (.aload_n 0, 1) := by decide +kernel
theorem dX6_atom_89 : decode cX6_atom 89 = .ok (.invokevirtual 178, 3) := by decide +kernel
theorem dX6_atom_92 : decode cX6_atom 92 = .ok (.goto 69, 3) := by decide +kernel
theorem dX6_atom_95 : decode cX6_atom 95 = .ok (.aload_n 0, 1) := by decide +kernel
theorem dX6_atom_96 : decode cX6_atom 96 = .ok (.getfield 162, 3) := by decide +kernel
theorem dX6_atom_99 : decode cX6_atom 99 = .ok (.ifCond .ne 24, 3) := by decide +kernel
theorem dX6_atom_102 : decode cX6_atom 102 = .ok (.aload_n 0, 1) := by decide +kernel
theorem dX6_atom_103 : decode cX6_atom 103 = .ok (.getfield 145, 3) := by decide +kernel
theorem dX6_atom_106 : decode cX6_atom 106 = .ok (.iconst 2, 1) := by decide +kernel
theorem dX6_atom_107 : decode cX6_atom 107 = .ok (.if_icmp .ne 16, 3) := by decide +kernel
theorem dX6_atom_110 : decode cX6_atom 110 = .ok (.aload_n 0, 1) := by decide +kernel
theorem dX6_atom_111 : decode cX6_atom 111 = .ok (.getfield 156, 3) := by decide +kernel
theorem dX6_atom_114 : decode cX6_atom 114 = .ok (.l2i, 1) := by decide +kernel
theorem dX6_atom_115 : decode cX6_atom 115 = .ok (.istore_n 1, 1) := by decide +kernel
theorem dX6_atom_116 : decode cX6_atom 116 = .ok (.aload_n 0, 1) := by decide +kernel
theorem dX6_atom_117 : decode cX6_atom 117 = .ok (.invokevirtual 178, 3) := by decide +kernel
theorem dX6_atom_120 : decode cX6_atom 120 = .ok (.goto 41, 3) := by decide +kernel
theorem dX6_atom_123 : decode cX6_atom 123 = .ok (.aload_n 0, 1) := by decide +kernel
theorem dX6_atom_124 : decode cX6_atom 124 = .ok (.getfield 162, 3) := by decide +kernel
theorem dX6_atom_127 : decode cX6_atom 127 = .ok (.ifCond .ne 30, 3) := by decide +kernel
theorem dX6_atom_130 : decode cX6_atom 130 = .ok (.aload_n 0, 1) := by decide +kernel
theorem dX6_atom_131 : decode cX6_atom 131 = .ok (.getfield 145, 3) := by decide +kernel
theorem dX6_atom_134 : decode cX6_atom 134 = .ok (.iconst 1, 1) := by decide +kernel
theorem dX6_atom_135 : decode cX6_atom 135 = .ok (.if_icmp .ne 22, 3) := by decide +kernel
theorem dX6_atom_138 : decode cX6_atom 138 = .ok (.aload_n 0, 1) := by decide +kernel
theorem dX6_atom_139 : decode cX6_atom 139 = .ok (.invokevirtual 217, 3) := by decide +kernel
theorem dX6_atom_142 : decode cX6_atom 142 = .ok (.istore_n 1, 1) := by decide +kernel
theorem dX6_atom_143 : decode cX6_atom 143 = .ok (.aload_n 0, 1) := by decide +kernel
theorem dX6_atom_144 : decode cX6_atom 144 = .ok (.getfield 162, 3) := by decide +kernel
theorem dX6_atom_147 : decode cX6_atom 147 = .ok (.ifCond .ne 14, 3) := by decide +kernel
theorem dX6_atom_150 : decode cX6_atom 150 = .ok (.aload_n 0, 1) := by decide +kernel
theorem dX6_atom_151 : decode cX6_atom 151 = .ok (.invokevirtual 178, 3) := by decide +kernel
theorem dX6_atom_154 : decode cX6_atom 154 = .ok (.goto 7, 3) := by decide +kernel
theorem dX6_atom_157 : decode cX6_atom 157 = .ok (.aload_n 0, 1) := by decide +kernel
theorem dX6_atom_158 : decode cX6_atom 158 = .ok (.invokevirtual 175, 3) := by decide +kernel
theorem dX6_atom_161 : decode cX6_atom 161 = .ok (.iload_n 1, 1) := by decide +kernel
theorem dX6_atom_162 : decode cX6_atom 162 = .ok (.ireturn, 1) := by decide +kernel
theorem dX6_term_0 : decode cX6_term 0 = .ok (.aload_n 0, 1) := by decide +kernel
theorem dX6_term_1 : decode cX6_term 1 = .ok (.invokevirtual 210, 3) := by decide +kernel
theorem dX6_term_4 : decode cX6_term 4 = .ok (.istore_n 1, 1) := by decide +kernel
theorem dX6_term_5 : decode cX6_term 5 = .ok (.aload_n 0, 1) := by decide +kernel
theorem dX6_term_6 : decode cX6_term 6 = .ok (.bipush 42, 2) := by decide +kernel
theorem dX6_term_8 : decode cX6_term 8 = .ok (.invokevirtual 203, 3) := by decide +kernel
theorem dX6_term_11 : decode cX6_term 11 = .ok (.ifCond .eq 17, 3) := by decide +kernel
theorem dX6_term_14 : decode cX6_term 14 = .ok (.aload_n 0, 1) := by decide +kernel
theorem dX6_term_15 : decode cX6_term 15 = .ok (.invokevirtual 178, 3) := by decide +kernel
theorem dX6_term_18 : decode cX6_term 18 = .ok (.iload_n 1, 1) := by decide +kernel
theorem dX6_term_19 : decode cX6_term 19 = .ok (.aload_n 0, 1) := by decide +kernel
theorem dX6_term_20 : decode cX6_term 20 = .ok (.invokevirtual 210, 3) := by decide +kernel
theorem dX6_term_23 : decode cX6_term 23 = .ok (.imul, 1) := by decide +kernel
theorem dX6_term_24 : decode cX6_term 24 = .ok (.istore_n 1, 1) := by decide +kernel
theorem dX6_term_25 : decode cX6_term 25 = .ok (.goto (-20), 3) := by decide +kernel
theorem dX6_term_28 : decode cX6_term 28 = .ok (.iload_n 1, 1) := by decide +kernel
theorem dX6_term_29 : decode cX6_term 29 = .ok (.ireturn, 1) := by decide +kernel
theorem dX6_added_0 : decode cX6_added 0 = .ok (.aload_n 0, 1) := by decide +kernel
theorem dX6_added_1 : decode cX6_added 1 = .ok (.invokevirtual 220, 3) := by decide +kernel
theorem dX6_added_4 : decode cX6_added 4 = .ok (.istore_n 1, 1) := by decide +kernel
theorem dX6_added_5 : decode cX6_added 5 = .ok (.aload_n 0, 1) := by decide +kernel
theorem dX6_added_6 : decode cX6_added 6 = .ok (.bipush 43, 2) := by decide +kernel
theorem dX6_added_8 : decode cX6_added 8 = .ok (.invokevirtual 203, 3) := by decide +kernel
theorem dX6_added_11 : decode cX6_added 11 = .ok (.ifCond .ne 12, 3) := by decide +kernel
theorem dX6_added_14 : decode cX6_added 14 = .ok (.aload_n 0, 1) := by decide +kernel
theorem dX6_added_15 : decode cX6_added 15 = .ok (.bipush 45, 2) := by decide +kernel
theorem dX6_added_17 : decode cX6_added 17 = .ok (.invokevirtual 203, 3) := by decide +kernel
theorem dX6_added_20 : decode cX6_added 20 = .ok (.ifCond .eq 46, 3) := by decide +kernel
theorem dX6_added_23 : decode cX6_added 23 = .ok (.aload_n 0, 1) := by decide +kernel
theorem dX6_added_24 : decode cX6_added 24 = .ok (.getfield 156, 3) := by decide +kernel
theorem dX6_added_27 : decode cX6_added 27 = .ok (.ldc2_w 223, 3) := by decide +kernel
theorem dX6_added_30 : decode cX6_added 30 = .ok (.lcmp, 1) := by decide +kernel
theorem dX6_added_31 : decode cX6_added 31 = .ok (.ifCond .ne 7, 3) := by decide +kernel
theorem dX6_added_34 : decode cX6_added 34 = .ok (.iconst 1, 1) := by decide +kernel
theorem dX6_added_35 : decode cX6_added 35 = .ok (.goto 4, 3) := by decide +kernel
theorem dX6_added_38 : decode cX6_added 38 = .ok (.iconst 0, 1) := by decide +kernel
theorem dX6_added_39 : decode cX6_added 39 = .ok (.istore_n 2, 1) := by decide +kernel
theorem dX6_added_40 : decode cX6_added 40 = .ok (.aload_n 0, 1) := by decide +kernel
theorem dX6_added_41 : decode cX6_added 41 = .ok (.invokevirtual 178, 3) := by decide +kernel
theorem dX6_added_44 : decode cX6_added 44 = .ok (.aload_n 0, 1) := by decide +kernel
theorem dX6_added_45 : decode cX6_added 45 = .ok (.invokevirtual 220, 3) := by decide +kernel
theorem dX6_added_48 : decode cX6_added 48 = .ok (.istore_n 3, 1) := by decide +kernel
theorem dX6_added_49 : decode cX6_added 49 = .ok (.iload_n 2, 1) := by decide +kernel
theorem dX6_added_50 : decode cX6_added 50 = .ok (.ifCond .eq 9, 3) := by decide +kernel
theorem dX6_added_53 : decode cX6_added 53 = .ok (.iload_n 1, 1) := by decide +kernel
theorem dX6_added_54 : decode cX6_added 54 = .ok (.iload_n 3, 1) := by decide +kernel
theorem dX6_added_55 : decode cX6_added 55 = .ok (.iadd, 1) := by decide +kernel
theorem dX6_added_56 : decode cX6_added 56 = .ok (.goto 6, 3) := by decide +kernel
theorem dX6_added_59 : decode cX6_added 59 = .ok (.iload_n 1, 1) := by decide +kernel
theorem dX6_added_60 : decode cX6_added 60 = .ok (.iload_n 3, 1) := by decide +kernel
theorem dX6_added_61 : decode cX6_added 61 = .ok (.isub, 1) := by decide +kernel
theorem dX6_added_62 : decode cX6_added 62 = .ok (.istore_n 1, 1) := by decide +kernel
theorem dX6_added_63 : decode cX6_added 63 = .ok (.goto (-58), 3) := by decide +kernel
theorem dX6_added_66 : decode cX6_added 66 = .ok (.iload_n 1, 1) := by decide +kernel
theorem dX6_added_67 : decode cX6_added 67 = .ok (.ireturn, 1) := by decide +kernel
theorem dX6_not_0 : decode cX6_not 0 = .ok (.aload_n 0, 1) := by decide +kernel
theorem dX6_not_1 : decode cX6_not 1 = .ok (.bipush 110, 2) := by decide +kernel
theorem dX6_not_3 : decode cX6_not 3 = .ok (.bipush 111, 2) := by decide +kernel
theorem dX6_not_5 : decode cX6_not 5 = .ok (.bipush 116, 2) := by decide +kernel
theorem dX6_not_7 : decode cX6_not 7 = .ok (.iconst 0, 1) := by decide +kernel
theorem dX6_not_8 : decode cX6_not 8 = .ok (.iconst 0, 1) := by decide +kernel
theorem dX6_not_9 : decode cX6_not 9 = .ok (.iconst 0, 1) := by decide +kernel
theorem dX6_not_10 : decode cX6_not 10 = .ok (.iconst 0, 1) := by decide +kernel
theorem dX6_not_11 : decode cX6_not 11 = .ok (.iconst 0, 1) := by decide +kernel
theorem dX6_not_12 : decode cX6_not 12 = .ok (.invokevirtual 181, 3) := by decide +kernel
theorem dX6_not_15 : decode cX6_not 15 = .ok (.ifCond .eq 37, 3) := by decide +kernel
theorem dX6_not_18 : decode cX6_not 18 = .ok (.aload_n 0, 1) := by decide +kernel
theorem dX6_not_19 : decode cX6_not 19 = .ok (.invokevirtual 206, 3) := by decide +kernel
theorem dX6_not_22 : decode cX6_not 22 = .ok (.ifCond .ne 5, 3) := by decide +kernel
theorem dX6_not_25 : decode cX6_not 25 = .ok (.iconst 0, 1) := by decide +kernel
theorem dX6_not_26 : decode cX6_not 26 = .ok (.ireturn, 1) := by decide +kernel
theorem dX6_not_27 : decode cX6_not 27 = .ok (.aload_n 0, 1) := by decide +kernel
theorem dX6_not_28 : decode cX6_not 28 = .ok (.invokevirtual 225, 3) := by decide +kernel
theorem dX6_not_31 : decode cX6_not 31 = .ok (.istore_n 1, 1) := by decide +kernel
theorem dX6_not_32 : decode cX6_not 32 = .ok (.aload_n 0, 1) := by decide +kernel
theorem dX6_not_33 : decode cX6_not 33 = .ok (.dup, 1) := by decide +kernel
theorem dX6_not_34 : decode cX6_not 34 = .ok (.getfield 172, 3) := by decide +kernel
theorem dX6_not_37 : decode cX6_not 37 = .ok (.iconst 1, 1) := by decide +kernel
theorem dX6_not_38 : decode cX6_not 38 = .ok (.isub, 1) := by decide +kernel
theorem dX6_not_39 : decode cX6_not 39 = .ok (.putfield 172, 3) := by decide +kernel
theorem dX6_not_42 : decode cX6_not 42 = .ok (.iload_n 1, 1) := by decide +kernel
theorem dX6_not_43 : decode cX6_not 43 = .ok (.ifCond .ne 7, 3) := by decide +kernel
theorem dX6_not_46 : decode cX6_not 46 = .ok (.iconst 1, 1) := by decide +kernel
theorem dX6_not_47 : decode cX6_not 47 = .ok (.goto 4, 3) := by decide +kernel
theorem dX6_not_50 : decode cX6_not 50 = .ok (.iconst 0, 1) := by decide +kernel
theorem dX6_not_51 : decode cX6_not 51 = .ok (.ireturn, 1) := by decide +kernel
theorem dX6_not_52 : decode cX6_not 52 = .ok (.aload_n 0, 1) := by decide +kernel
theorem dX6_not_53 : decode cX6_not 53 = .ok (.invokevirtual 228, 3) := by decide +kernel
theorem dX6_not_56 : decode cX6_not 56 = .ok (.istore_n 1, 1) := by decide +kernel
theorem dX6_not_57 : decode cX6_not 57 = .ok (.aload_n 0, 1) := by decide +kernel
theorem dX6_not_58 : decode cX6_not 58 = .ok (.bipush 60, 2) := by decide +kernel
theorem dX6_not_60 : decode cX6_not 60 = .ok (.invokevirtual 203, 3) := by decide +kernel
theorem dX6_not_63 : decode cX6_not 63 = .ok (.ifCond .ne 14, 3) := by decide +kernel
theorem dX6_not_66 : decode cX6_not 66 = .ok (.aload_n 0, 1) := by decide +kernel
theorem dX6_not_67 : decode cX6_not 67 = .ok (.bipush 61, 2) := by decide +kernel
theorem dX6_not_69 : decode cX6_not 69 = .ok (.invokevirtual 203, 3) := by decide +kernel
theorem dX6_not_72 : decode cX6_not 72 = .ok (.ifCond .ne 5, 3) := by decide +kernel
theorem dX6_not_75 : decode cX6_not 75 = .ok (.iload_n 1, 1) := by decide +kernel
theorem dX6_not_76 : decode cX6_not 76 = .ok (.ireturn, 1) := by decide +kernel
theorem dX6_not_77 : decode cX6_not 77 = .ok (.aload_n 0, 1) := by decide +kernel
theorem dX6_not_78 : decode cX6_not 78 = .ok (.getfield 156, 3) := by decide +kernel
theorem dX6_not_81 : decode cX6_not 81 = .ok (.ldc2_w 231, 3) := by decide +kernel
theorem dX6_not_84 : decode cX6_not 84 = .ok (.lcmp, 1) := by decide +kernel
theorem dX6_not_85 : decode cX6_not 85 = .ok (.ifCond .ne 7, 3) := by decide +kernel
theorem dX6_not_88 : decode cX6_not 88 = .ok (.iconst 1, 1) := by decide +kernel
theorem dX6_not_89 : decode cX6_not 89 = .ok (.goto 4, 3) := by decide +kernel
theorem dX6_not_92 : decode cX6_not 92 = .ok (.iconst 0, 1) := by decide +kernel
theorem dX6_not_93 : decode cX6_not 93 = .ok (.istore_n 2, 1) := by decide +kernel
theorem dX6_not_94 : decode cX6_not 94 = .ok (.aload_n 0, 1) := by decide +kernel
theorem dX6_not_95 : decode cX6_not 95 = .ok (.invokevirtual 178, 3) := by decide +kernel
theorem dX6_not_98 : decode cX6_not 98 = .ok (.aload_n 0, 1) := by decide +kernel
theorem dX6_not_99 : decode cX6_not 99 = .ok (.invokevirtual 228, 3) := by decide +kernel
theorem dX6_not_102 : decode cX6_not 102 = .ok (.istore_n 3, 1) := by decide +kernel
theorem dX6_not_103 : decode cX6_not 103 = .ok (.iload_n 2, 1) := by decide +kernel
theorem dX6_not_104 : decode cX6_not 104 = .ok (.ifCond .eq 11, 3) := by decide +kernel
theorem dX6_not_107 : decode cX6_not 107 = .ok (.iload_n 1, 1) := by decide +kernel
theorem dX6_not_108 : decode cX6_not 108 = .ok (.iload_n 3, 1) := by decide +kernel
theorem dX6_not_109 : decode cX6_not 109 = .ok (.if_icmp .ge 15, 3) := by decide +kernel
theorem dX6_not_112 : decode cX6_not 112 = .ok (.goto 8, 3) := by decide +kernel
theorem dX6_not_115 : decode cX6_not 115 = .ok (.iload_n 1, 1) := by decide +kernel
theorem dX6_not_116 : decode cX6_not 116 = .ok (.iload_n 3, 1) := by decide +kernel
theorem dX6_not_117 : decode cX6_not 117 = .ok (.if_icmp .ne 7, 3) := by decide +kernel
theorem dX6_not_120 : decode cX6_not 120 = .ok (.iconst 1, 1) := by decide +kernel
theorem dX6_not_121 : decode cX6_not 121 = .ok (.goto 4, 3) := by decide +kernel
theorem dX6_not_124 : decode cX6_not 124 = .ok (.iconst 0, 1) := by decide +kernel
theorem dX6_not_125 : decode cX6_not 125 = .ok (.ireturn, 1) := by decide +kernel
theorem dX6_both_0 : decode cX6_both 0 = .ok (.aload_n 0, 1) := by decide +kernel
theorem dX6_both_1 : decode cX6_both 1 = .ok (.invokevirtual 225, 3) := by decide +kernel
theorem dX6_both_4 : decode cX6_both 4 = .ok (.istore_n 1, 1) := by decide +kernel
theorem dX6_both_5 : decode cX6_both 5 = .ok (.aload_n 0, 1) := by decide +kernel
theorem dX6_both_6 : decode cX6_both 6 = .ok (.bipush 97, 2) := by decide +kernel
theorem dX6_both_8 : decode cX6_both 8 = .ok (.bipush 110, 2) := by decide +kernel
theorem dX6_both_10 : decode cX6_both 10 = .ok (.bipush 100, 2) := by decide +kernel
theorem dX6_both_12 : decode cX6_both 12 = .ok (.iconst 0, 1) := by decide +kernel
theorem dX6_both_13 : decode cX6_both 13 = .ok (.iconst 0, 1) := by decide +kernel
theorem dX6_both_14 : decode cX6_both 14 = .ok (.iconst 0, 1) := by decide +kernel
theorem dX6_both_15 : decode cX6_both 15 = .ok (.iconst 0, 1) := by decide +kernel
theorem dX6_both_16 : decode cX6_both 16 = .ok (.iconst 0, 1) := by decide +kernel
theorem dX6_both_17 : decode cX6_both 17 = .ok (.invokevirtual 181, 3) := by decide +kernel
theorem dX6_both_20 : decode cX6_both 20 = .ok (.ifCond .eq 29, 3) := by decide +kernel
theorem dX6_both_23 : decode cX6_both 23 = .ok (.aload_n 0, 1) := by decide +kernel
theorem dX6_both_24 : decode cX6_both 24 = .ok (.invokevirtual 178, 3) := by decide +kernel
theorem dX6_both_27 : decode cX6_both 27 = .ok (.aload_n 0, 1) := by decide +kernel
theorem dX6_both_28 : decode cX6_both 28 = .ok (.invokevirtual 225, 3) := by decide +kernel
theorem dX6_both_31 : decode cX6_both 31 = .ok (.istore_n 2, 1) := by decide +kernel
theorem dX6_both_32 : decode cX6_both 32 = .ok (.iload_n 1, 1) := by decide +kernel
theorem dX6_both_33 : decode cX6_both 33 = .ok (.ifCond .eq 11, 3) := by decide +kernel
theorem dX6_both_36 : decode cX6_both 36 = .ok (.iload_n 2, 1) := by decide +kernel
theorem dX6_both_37 : decode cX6_both 37 = .ok (.ifCond .eq 7, 3) := by decide +kernel
theorem dX6_both_40 : decode cX6_both 40 = .ok (.iconst 1, 1) := by decide +kernel
theorem dX6_both_41 : decode cX6_both 41 = .ok (.goto 4, 3) := by decide +kernel
theorem dX6_both_44 : decode cX6_both 44 = .ok (.iconst 0, 1) := by decide +kernel
theorem dX6_both_45 : decode cX6_both 45 = .ok (.istore_n 1, 1) := by decide +kernel
theorem dX6_both_46 : decode cX6_both 46 = .ok (.goto (-41), 3) := by decide +kernel
theorem dX6_both_49 : decode cX6_both 49 = .ok (.iload_n 1, 1) := by decide +kernel
theorem dX6_both_50 : decode cX6_both 50 = .ok (.ireturn, 1) := by decide +kernel
theorem dX6_either_0 : decode cX6_either 0 = .ok (.aload_n 0, 1) := by decide +kernel
theorem dX6_either_1 : decode cX6_either 1 = .ok (.invokevirtual 233, 3) := by decide +kernel
theorem dX6_either_4 : decode cX6_either 4 = .ok (.istore_n 1, 1) := by decide +kernel
theorem dX6_either_5 : decode cX6_either 5 = .ok (.aload_n 0, 1) := by decide +kernel
theorem dX6_either_6 : decode cX6_either 6 = .ok (.bipush 111, 2) := by decide +kernel
theorem dX6_either_8 : decode cX6_either 8 = .ok (.bipush 114, 2) := by decide +kernel
theorem dX6_either_10 : decode cX6_either 10 = .ok (.iconst 0, 1) := by decide +kernel
theorem dX6_either_11 : decode cX6_either 11 = .ok (.iconst 0, 1) := by decide +kernel
theorem dX6_either_12 : decode cX6_either 12 = .ok (.iconst 0, 1) := by decide +kernel
theorem dX6_either_13 : decode cX6_either 13 = .ok (.iconst 0, 1) := by decide +kernel
theorem dX6_either_14 : decode cX6_either 14 = .ok (.iconst 0, 1) := by decide +kernel
theorem dX6_either_15 : decode cX6_either 15 = .ok (.iconst 0, 1) := by decide +kernel
theorem dX6_either_16 : decode cX6_either 16 = .ok (.invokevirtual 181, 3) := by decide +kernel
theorem dX6_either_19 : decode cX6_either 19 = .ok (.ifCond .eq 29, 3) := by decide +kernel
theorem dX6_either_22 : decode cX6_either 22 = .ok (.aload_n 0, 1) := by decide +kernel
theorem dX6_either_23 : decode cX6_either 23 = .ok (.invokevirtual 178, 3) := by decide +kernel
theorem dX6_either_26 : decode cX6_either 26 = .ok (.aload_n 0, 1) := by decide +kernel
theorem dX6_either_27 : decode cX6_either 27 = .ok (.invokevirtual 233, 3) := by decide +kernel
theorem dX6_either_30 : decode cX6_either 30 = .ok (.istore_n 2, 1) := by decide +kernel
theorem dX6_either_31 : decode cX6_either 31 = .ok (.iload_n 1, 1) := by decide +kernel
theorem dX6_either_32 : decode cX6_either 32 = .ok (.ifCond .ne 7, 3) := by decide +kernel
theorem dX6_either_35 : decode cX6_either 35 = .ok (.iload_n 2, 1) := by decide +kernel
theorem dX6_either_36 : decode cX6_either 36 = .ok (.ifCond .eq 7, 3) := by decide +kernel
theorem dX6_either_39 : decode cX6_either 39 = .ok (.iconst 1, 1) := by decide +kernel
theorem dX6_either_40 : decode cX6_either 40 = .ok (.goto 4, 3) := by decide +kernel
theorem dX6_either_43 : decode cX6_either 43 = .ok (.iconst 0, 1) := by decide +kernel
theorem dX6_either_44 : decode cX6_either 44 = .ok (.istore_n 1, 1) := by decide +kernel
theorem dX6_either_45 : decode cX6_either 45 = .ok (.goto (-40), 3) := by decide +kernel
theorem dX6_either_48 : decode cX6_either 48 = .ok (.iload_n 1, 1) := by decide +kernel
theorem dX6_either_49 : decode cX6_either 49 = .ok (.ireturn, 1) := by decide +kernel
theorem dX6_part_0 : decode cX6_part 0 = .ok (.iload_n 1, 1) := by decide +kernel
theorem dX6_part_1 : decode cX6_part 1 = .ok (.ifCond .ne 7, 3) := by decide +kernel
theorem dX6_part_4 : decode cX6_part 4 = .ok (.aload_n 0, 1) := by decide +kernel
theorem dX6_part_5 : decode cX6_part 5 = .ok (.invokevirtual 175, 3) := by decide +kernel
theorem dX6_part_8 : decode cX6_part 8 = .ok (.aload_n 0, 1) := by decide +kernel
theorem dX6_part_9 : decode cX6_part 9 = .ok (.getfield 162, 3) := by decide +kernel
theorem dX6_part_12 : decode cX6_part 12 = .ok (.ifCond .ne 7, 3) := by decide +kernel
theorem dX6_part_15 : decode cX6_part 15 = .ok (.aload_n 0, 1) := by decide +kernel
theorem dX6_part_16 : decode cX6_part 16 = .ok (.invokevirtual 178, 3) := by decide +kernel
theorem dX6_part_19 : decode cX6_part 19 = .ok (.aload_n 0, 1) := by decide +kernel
theorem dX6_part_20 : decode cX6_part 20 = .ok (.getfield 162, 3) := by decide +kernel
theorem dX6_part_23 : decode cX6_part 23 = .ok (.ifCond .eq 7, 3) := by decide +kernel
theorem dX6_part_26 : decode cX6_part 26 = .ok (.iconst 0, 1) := by decide +kernel
theorem dX6_part_27 : decode cX6_part 27 = .ok (.goto 7, 3) := by decide +kernel
theorem dX6_part_30 : decode cX6_part 30 = .ok (.aload_n 0, 1) := by decide +kernel
theorem dX6_part_31 : decode cX6_part 31 = .ok (.invokevirtual 214, 3) := by decide +kernel
theorem dX6_part_34 : decode cX6_part 34 = .ok (.istore_n 2, 1) := by decide +kernel
theorem dX6_part_35 : decode cX6_part 35 = .ok (.aload_n 0, 1) := by decide +kernel
theorem dX6_part_36 : decode cX6_part 36 = .ok (.bipush 59, 2) := by decide +kernel
theorem dX6_part_38 : decode cX6_part 38 = .ok (.invokevirtual 203, 3) := by decide +kernel
theorem dX6_part_41 : decode cX6_part 41 = .ok (.ifCond .ne 7, 3) := by decide +kernel
theorem dX6_part_44 : decode cX6_part 44 = .ok (.aload_n 0, 1) := by decide +kernel
theorem dX6_part_45 : decode cX6_part 45 = .ok (.invokevirtual 175, 3) := by decide +kernel
theorem dX6_part_48 : decode cX6_part 48 = .ok (.aload_n 0, 1) := by decide +kernel
theorem dX6_part_49 : decode cX6_part 49 = .ok (.getfield 162, 3) := by decide +kernel
theorem dX6_part_52 : decode cX6_part 52 = .ok (.ifCond .ne 7, 3) := by decide +kernel
theorem dX6_part_55 : decode cX6_part 55 = .ok (.aload_n 0, 1) := by decide +kernel
theorem dX6_part_56 : decode cX6_part 56 = .ok (.invokevirtual 178, 3) := by decide +kernel
theorem dX6_part_59 : decode cX6_part 59 = .ok (.iload_n 2, 1) := by decide +kernel
theorem dX6_part_60 : decode cX6_part 60 = .ok (.ireturn, 1) := by decide +kernel
theorem dX6_read_0 : decode cX6_read 0 = .ok (.aload_n 0, 1) := by decide +kernel
theorem dX6_read_1 : decode cX6_read 1 = .ok (.sipush 160, 3) := by decide +kernel
theorem dX6_read_4 : decode cX6_read 4 = .ok (.iload_n 1, 1) := by decide +kernel
theorem dX6_read_5 : decode cX6_read 5 = .ok (.imul, 1) := by decide +kernel
theorem dX6_read_6 : decode cX6_read 6 = .ok (.putfield 133, 3) := by decide +kernel
theorem dX6_read_9 : decode cX6_read 9 = .ok (.aload_n 0, 1) := by decide +kernel
theorem dX6_read_10 : decode cX6_read 10 = .ok (.aload_n 0, 1) := by decide +kernel
theorem dX6_read_11 : decode cX6_read 11 = .ok (.getfield 17, 3) := by decide +kernel
theorem dX6_read_14 : decode cX6_read 14 = .ok (.iload_n 1, 1) := by decide +kernel
theorem dX6_read_15 : decode cX6_read 15 = .ok (.iaload, 1) := by decide +kernel
theorem dX6_read_16 : decode cX6_read 16 = .ok (.putfield 130, 3) := by decide +kernel
theorem dX6_read_19 : decode cX6_read 19 = .ok (.aload_n 0, 1) := by decide +kernel
theorem dX6_read_20 : decode cX6_read 20 = .ok (.iconst 0, 1) := by decide +kernel
theorem dX6_read_21 : decode cX6_read 21 = .ok (.putfield 136, 3) := by decide +kernel
theorem dX6_read_24 : decode cX6_read 24 = .ok (.aload_n 0, 1) := by decide +kernel
theorem dX6_read_25 : decode cX6_read 25 = .ok (.iconst 0, 1) := by decide +kernel
theorem dX6_read_26 : decode cX6_read 26 = .ok (.putfield 172, 3) := by decide +kernel
theorem dX6_read_29 : decode cX6_read 29 = .ok (.aload_n 0, 1) := by decide +kernel
theorem dX6_read_30 : decode cX6_read 30 = .ok (.iconst 0, 1) := by decide +kernel
theorem dX6_read_31 : decode cX6_read 31 = .ok (.putfield 162, 3) := by decide +kernel
theorem dX6_read_34 : decode cX6_read 34 = .ok (.aload_n 0, 1) := by decide +kernel
theorem dX6_read_35 : decode cX6_read 35 = .ok (.invokevirtual 178, 3) := by decide +kernel
theorem dX6_read_38 : decode cX6_read 38 = .ok (.aload_n 0, 1) := by decide +kernel
theorem dX6_read_39 : decode cX6_read 39 = .ok (.aload_n 0, 1) := by decide +kernel
theorem dX6_read_40 : decode cX6_read 40 = .ok (.bipush 112, 2) := by decide +kernel
theorem dX6_read_42 : decode cX6_read 42 = .ok (.bipush 108, 2) := by decide +kernel
theorem dX6_read_44 : decode cX6_read 44 = .ok (.bipush 97, 2) := by decide +kernel
theorem dX6_read_46 : decode cX6_read 46 = .ok (.bipush 121, 2) := by decide +kernel
theorem dX6_read_48 : decode cX6_read 48 = .ok (.bipush 115, 2) := by decide +kernel
theorem dX6_read_50 : decode cX6_read 50 = .ok (.iconst 0, 1) := by decide +kernel
theorem dX6_read_51 : decode cX6_read 51 = .ok (.iconst 0, 1) := by decide +kernel
theorem dX6_read_52 : decode cX6_read 52 = .ok (.iconst 0, 1) := by decide +kernel
theorem dX6_read_53 : decode cX6_read 53 = .ok (.invokevirtual 181, 3) := by decide +kernel
theorem dX6_read_56 : decode cX6_read 56 = .ok (.invokevirtual 236, 3) := by decide +kernel
theorem dX6_read_59 : decode cX6_read 59 = .ok (.istore_n 3, 1) := by decide +kernel
theorem dX6_read_60 : decode cX6_read 60 = .ok (.aload_n 0, 1) := by decide +kernel
theorem dX6_read_61 : decode cX6_read 61 = .ok (.getfield 162, 3) := by decide +kernel
theorem dX6_read_64 : decode cX6_read 64 = .ok (.ifCond .eq 7, 3) := by decide +kernel
theorem dX6_read_67 : decode cX6_read 67 = .ok (.iconst 0, 1) := by decide +kernel
theorem dX6_read_68 : decode cX6_read 68 = .ok (.goto 25, 3) := by decide +kernel
theorem dX6_read_71 : decode cX6_read 71 = .ok (.aload_n 0, 1) := by decide +kernel
theorem dX6_read_72 : decode cX6_read 72 = .ok (.aload_n 0, 1) := by decide +kernel
theorem dX6_read_73 : decode cX6_read 73 = .ok (.bipush 116, 2) := by decide +kernel
theorem dX6_read_75 : decode cX6_read 75 = .ok (.bipush 104, 2) := by decide +kernel
theorem dX6_read_77 : decode cX6_read 77 = .ok (.bipush 114, 2) := by decide +kernel
theorem dX6_read_79 : decode cX6_read 79 = .ok (.bipush 111, 2) := by decide +kernel
theorem dX6_read_81 : decode cX6_read 81 = .ok (.bipush 119, 2) := by decide +kernel
theorem dX6_read_83 : decode cX6_read 83 = .ok (.bipush 115, 2) := by decide +kernel
theorem dX6_read_85 : decode cX6_read 85 = .ok (.iconst 0, 1) := by decide +kernel
theorem dX6_read_86 : decode cX6_read 86 = .ok (.iconst 0, 1) := by decide +kernel
theorem dX6_read_87 : decode cX6_read 87 = .ok (.invokevirtual 181, 3) := by decide +kernel
theorem dX6_read_90 : decode cX6_read 90 = .ok (.invokevirtual 236, 3) := by decide +kernel
theorem dX6_read_93 : decode cX6_read 93 = .ok (.istore 4, 2) := by decide +kernel
theorem dX6_read_95 : decode cX6_read 95 = .ok (.aload_n 0, 1) := by decide +kernel
theorem dX6_read_96 : decode cX6_read 96 = .ok (.getfield 162, 3) := by decide +kernel
theorem dX6_read_99 : decode cX6_read 99 = .ok (.ifCond .eq 7, 3) := by decide +kernel
theorem dX6_read_102 : decode cX6_read 102 = .ok (.iconst 0, 1) := by decide +kernel
theorem dX6_read_103 : decode cX6_read 103 = .ok (.goto 24, 3) := by decide +kernel
theorem dX6_read_106 : decode cX6_read 106 = .ok (.aload_n 0, 1) := by decide +kernel
theorem dX6_read_107 : decode cX6_read 107 = .ok (.aload_n 0, 1) := by decide +kernel
theorem dX6_read_108 : decode cX6_read 108 = .ok (.bipush 116, 2) := by decide +kernel
theorem dX6_read_110 : decode cX6_read 110 = .ok (.bipush 105, 2) := by decide +kernel
theorem dX6_read_112 : decode cX6_read 112 = .ok (.bipush 114, 2) := by decide +kernel
theorem dX6_read_114 : decode cX6_read 114 = .ok (.bipush 101, 2) := by decide +kernel
theorem dX6_read_116 : decode cX6_read 116 = .ok (.bipush 115, 2) := by decide +kernel
theorem dX6_read_118 : decode cX6_read 118 = .ok (.iconst 0, 1) := by decide +kernel
theorem dX6_read_119 : decode cX6_read 119 = .ok (.iconst 0, 1) := by decide +kernel
theorem dX6_read_120 : decode cX6_read 120 = .ok (.iconst 0, 1) := by decide +kernel
theorem dX6_read_121 : decode cX6_read 121 = .ok (.invokevirtual 181, 3) := by decide +kernel
theorem dX6_read_124 : decode cX6_read 124 = .ok (.invokevirtual 236, 3) := by decide +kernel
theorem dX6_read_127 : decode cX6_read 127 = .ok (.istore 5, 2) := by decide +kernel
theorem dX6_read_129 : decode cX6_read 129 = .ok (.aload_n 0, 1) := by decide +kernel
theorem dX6_read_130 : decode cX6_read 130 = .ok (.getfield 162, 3) := by decide +kernel
theorem dX6_read_133 : decode cX6_read 133 = .ok (.ifCond .ne 14, 3) := by decide +kernel
theorem dX6_read_136 : decode cX6_read 136 = .ok (.aload_n 0, 1) := by decide +kernel
theorem dX6_read_137 : decode cX6_read 137 = .ok (.getfield 145, 3) := by decide +kernel
theorem dX6_read_140 : decode cX6_read 140 = .ok (.ifCond .eq 7, 3) := by decide +kernel
theorem dX6_read_143 : decode cX6_read 143 = .ok (.aload_n 0, 1) := by decide +kernel
theorem dX6_read_144 : decode cX6_read 144 = .ok (.invokevirtual 175, 3) := by decide +kernel
theorem dX6_read_147 : decode cX6_read 147 = .ok (.iload_n 2, 1) := by decide +kernel
theorem dX6_read_148 : decode cX6_read 148 = .ok (.ifCond .ne 7, 3) := by decide +kernel
theorem dX6_read_151 : decode cX6_read 151 = .ok (.iload_n 3, 1) := by decide +kernel
theorem dX6_read_152 : decode cX6_read 152 = .ok (.goto 15, 3) := by decide +kernel
theorem dX6_read_155 : decode cX6_read 155 = .ok (.iload_n 2, 1) := by decide +kernel
theorem dX6_read_156 : decode cX6_read 156 = .ok (.iconst 1, 1) := by decide +kernel
theorem dX6_read_157 : decode cX6_read 157 = .ok (.if_icmp .ne 8, 3) := by decide +kernel
theorem dX6_read_160 : decode cX6_read 160 = .ok (.iload 4, 2) := by decide +kernel
theorem dX6_read_162 : decode cX6_read 162 = .ok (.goto 5, 3) := by decide +kernel
theorem dX6_read_165 : decode cX6_read 165 = .ok (.iload 5, 2) := by decide +kernel
theorem dX6_read_167 : decode cX6_read 167 = .ok (.ireturn, 1) := by decide +kernel
theorem dX6_text_0 : decode cX6_text 0 = .ok (.aload_n 0, 1) := by decide +kernel
theorem dX6_text_1 : decode cX6_text 1 = .ok (.getfield 58, 3) := by decide +kernel
theorem dX6_text_4 : decode cX6_text 4 = .ok (.bipush 6, 2) := by decide +kernel
theorem dX6_text_6 : decode cX6_text 6 = .ok (.if_icmp .ne 6, 3) := by decide +kernel
theorem dX6_text_9 : decode cX6_text 9 = .ok (.bipush (-4), 2) := by decide +kernel
theorem dX6_text_11 : decode cX6_text 11 = .ok (.ireturn, 1) := by decide +kernel
theorem dX6_text_12 : decode cX6_text 12 = .ok (.iconst 0, 1) := by decide +kernel
theorem dX6_text_13 : decode cX6_text 13 = .ok (.istore_n 1, 1) := by decide +kernel
theorem dX6_text_14 : decode cX6_text 14 = .ok (.iload_n 1, 1) := by decide +kernel
theorem dX6_text_15 : decode cX6_text 15 = .ok (.aload_n 0, 1) := by decide +kernel
theorem dX6_text_16 : decode cX6_text 16 = .ok (.getfield 127, 3) := by decide +kernel
theorem dX6_text_19 : decode cX6_text 19 = .ok (.if_icmp .ge 30, 3) := by decide +kernel
theorem dX6_text_22 : decode cX6_text 22 = .ok (.aload_n 0, 1) := by decide +kernel
theorem dX6_text_23 : decode cX6_text 23 = .ok (.getfield 13, 3) := by decide +kernel
theorem dX6_text_26 : decode cX6_text 26 = .ok (.sipush 160, 3) := by decide +kernel
theorem dX6_text_29 : decode cX6_text 29 = .ok (.aload_n 0, 1) := by decide +kernel
theorem dX6_text_30 : decode cX6_text 30 = .ok (.getfield 58, 3) := by decide +kernel
theorem dX6_text_33 : decode cX6_text 33 = .ok (.imul, 1) := by decide +kernel
theorem dX6_text_34 : decode cX6_text 34 = .ok (.iload_n 1, 1) := by decide +kernel
theorem dX6_text_35 : decode cX6_text 35 = .ok (.iadd, 1) := by decide +kernel
theorem dX6_text_36 : decode cX6_text 36 = .ok (.aload_n 0, 1) := by decide +kernel
theorem dX6_text_37 : decode cX6_text 37 = .ok (.getfield 20, 3) := by decide +kernel
theorem dX6_text_40 : decode cX6_text 40 = .ok (.iload_n 1, 1) := by decide +kernel
theorem dX6_text_41 : decode cX6_text 41 = .ok (.iaload, 1) := by decide +kernel
theorem dX6_text_42 : decode cX6_text 42 = .ok (.iastore, 1) := by decide +kernel
theorem dX6_text_43 : decode cX6_text 43 = .ok (.iinc 1 1, 3) := by decide +kernel
theorem dX6_text_46 : decode cX6_text 46 = .ok (.goto (-32), 3) := by decide +kernel
theorem dX6_text_49 : decode cX6_text 49 = .ok (.aload_n 0, 1) := by decide +kernel
theorem dX6_text_50 : decode cX6_text 50 = .ok (.getfield 17, 3) := by decide +kernel
theorem dX6_text_53 : decode cX6_text 53 = .ok (.aload_n 0, 1) := by decide +kernel
theorem dX6_text_54 : decode cX6_text 54 = .ok (.getfield 58, 3) := by decide +kernel
theorem dX6_text_57 : decode cX6_text 57 = .ok (.aload_n 0, 1) := by decide +kernel
theorem dX6_text_58 : decode cX6_text 58 = .ok (.getfield 127, 3) := by decide +kernel
theorem dX6_text_61 : decode cX6_text 61 = .ok (.iastore, 1) := by decide +kernel
theorem dX6_text_62 : decode cX6_text 62 = .ok (.aload_n 0, 1) := by decide +kernel
theorem dX6_text_63 : decode cX6_text 63 = .ok (.iconst 0, 1) := by decide +kernel
theorem dX6_text_64 : decode cX6_text 64 = .ok (.putfield 127, 3) := by decide +kernel
theorem dX6_text_67 : decode cX6_text 67 = .ok (.aload_n 0, 1) := by decide +kernel
theorem dX6_text_68 : decode cX6_text 68 = .ok (.aload_n 0, 1) := by decide +kernel
theorem dX6_text_69 : decode cX6_text 69 = .ok (.getfield 58, 3) := by decide +kernel
theorem dX6_text_72 : decode cX6_text 72 = .ok (.iconst 0, 1) := by decide +kernel
theorem dX6_text_73 : decode cX6_text 73 = .ok (.invokevirtual 240, 3) := by decide +kernel
theorem dX6_text_76 : decode cX6_text 76 = .ok (.istore_n 1, 1) := by decide +kernel
theorem dX6_text_77 : decode cX6_text 77 = .ok (.aload_n 0, 1) := by decide +kernel
theorem dX6_text_78 : decode cX6_text 78 = .ok (.getfield 162, 3) := by decide +kernel
theorem dX6_text_81 : decode cX6_text 81 = .ok (.ifCond .eq 11, 3) := by decide +kernel
theorem dX6_text_84 : decode cX6_text 84 = .ok (.bipush (-100), 2) := by decide +kernel
theorem dX6_text_86 : decode cX6_text 86 = .ok (.aload_n 0, 1) := by decide +kernel
theorem dX6_text_87 : decode cX6_text 87 = .ok (.getfield 166, 3) := by decide +kernel
theorem dX6_text_90 : decode cX6_text 90 = .ok (.isub, 1) := by decide +kernel
theorem dX6_text_91 : decode cX6_text 91 = .ok (.ireturn, 1) := by decide +kernel
theorem dX6_text_92 : decode cX6_text 92 = .ok (.aload_n 0, 1) := by decide +kernel
theorem dX6_text_93 : decode cX6_text 93 = .ok (.dup, 1) := by decide +kernel
theorem dX6_text_94 : decode cX6_text 94 = .ok (.getfield 58, 3) := by decide +kernel
theorem dX6_text_97 : decode cX6_text 97 = .ok (.iconst 1, 1) := by decide +kernel
theorem dX6_text_98 : decode cX6_text 98 = .ok (.iadd, 1) := by decide +kernel
theorem dX6_text_99 : decode cX6_text 99 = .ok (.putfield 58, 3) := by decide +kernel
theorem dX6_text_102 : decode cX6_text 102 = .ok (.aload_n 0, 1) := by decide +kernel
theorem dX6_text_103 : decode cX6_text 103 = .ok (.getfield 58, 3) := by decide +kernel
theorem dX6_text_106 : decode cX6_text 106 = .ok (.iconst 1, 1) := by decide +kernel
theorem dX6_text_107 : decode cX6_text 107 = .ok (.isub, 1) := by decide +kernel
theorem dX6_text_108 : decode cX6_text 108 = .ok (.ireturn, 1) := by decide +kernel
theorem dX6_force_0 : decode cX6_force 0 = .ok (.iload_n 1, 1) := by decide +kernel
theorem dX6_force_1 : decode cX6_force 1 = .ok (.i2l, 1) := by decide +kernel
theorem dX6_force_2 : decode cX6_force 2 = .ok (.lconst 0, 1) := by decide +kernel
theorem dX6_force_3 : decode cX6_force 3 = .ok (.aload_n 0, 1) := by decide +kernel
theorem dX6_force_4 : decode cX6_force 4 = .ok (.getfield 58, 3) := by decide +kernel
theorem dX6_force_7 : decode cX6_force 7 = .ok (.iconst 1, 1) := by decide +kernel
theorem dX6_force_8 : decode cX6_force 8 = .ok (.isub, 1) := by decide +kernel
theorem dX6_force_9 : decode cX6_force 9 = .ok (.i2l, 1) := by decide +kernel
theorem dX6_force_10 : decode cX6_force 10 = .ok (.invokestatic 64, 3) := by decide +kernel
theorem dX6_force_13 : decode cX6_force 13 = .ok (.ifCond .ne 6, 3) := by decide +kernel
theorem dX6_force_16 : decode cX6_force 16 = .ok (.bipush (-2), 2) := by decide +kernel
theorem dX6_force_18 : decode cX6_force 18 = .ok (.ireturn, 1) := by decide +kernel
theorem dX6_force_19 : decode cX6_force 19 = .ok (.aload_n 0, 1) := by decide +kernel
theorem dX6_force_20 : decode cX6_force 20 = .ok (.getfield 107, 3) := by decide +kernel
theorem dX6_force_23 : decode cX6_force 23 = .ok (.istore_n 2, 1) := by decide +kernel
theorem dX6_force_24 : decode cX6_force 24 = .ok (.aload_n 0, 1) := by decide +kernel
theorem dX6_force_25 : decode cX6_force 25 = .ok (.iload_n 1, 1) := by decide +kernel
theorem dX6_force_26 : decode cX6_force 26 = .ok (.putfield 107, 3) := by decide +kernel
theorem dX6_force_29 : decode cX6_force 29 = .ok (.iload_n 2, 1) := by decide +kernel
theorem dX6_force_30 : decode cX6_force 30 = .ok (.ireturn, 1) := by decide +kernel
theorem dX6_says_0 : decode cX6_says 0 = .ok (.aload_n 0, 1) := by decide +kernel
theorem dX6_says_1 : decode cX6_says 1 = .ok (.aload_n 0, 1) := by decide +kernel
theorem dX6_says_2 : decode cX6_says 2 = .ok (.getfield 29, 3) := by decide +kernel
theorem dX6_says_5 : decode cX6_says 5 = .ok (.iconst 4, 1) := by decide +kernel
theorem dX6_says_6 : decode cX6_says 6 = .ok (.iload_n 2, 1) := by decide +kernel
theorem dX6_says_7 : decode cX6_says 7 = .ok (.imul, 1) := by decide +kernel
theorem dX6_says_8 : decode cX6_says 8 = .ok (.iconst 1, 1) := by decide +kernel
theorem dX6_says_9 : decode cX6_says 9 = .ok (.iadd, 1) := by decide +kernel
theorem dX6_says_10 : decode cX6_says 10 = .ok (.iaload, 1) := by decide +kernel
theorem dX6_says_11 : decode cX6_says 11 = .ok (.putfield 185, 3) := by decide +kernel
theorem dX6_says_14 : decode cX6_says 14 = .ok (.aload_n 0, 1) := by decide +kernel
theorem dX6_says_15 : decode cX6_says 15 = .ok (.aload_n 0, 1) := by decide +kernel
theorem dX6_says_16 : decode cX6_says 16 = .ok (.iload_n 2, 1) := by decide +kernel
theorem dX6_says_17 : decode cX6_says 17 = .ok (.invokevirtual 122, 3) := by decide +kernel
theorem dX6_says_20 : decode cX6_says 20 = .ok (.putfield 188, 3) := by decide +kernel
theorem dX6_says_23 : decode cX6_says 23 = .ok (.aload_n 0, 1) := by decide +kernel
theorem dX6_says_24 : decode cX6_says 24 = .ok (.aload_n 0, 1) := by decide +kernel
theorem dX6_says_25 : decode cX6_says 25 = .ok (.getfield 29, 3) := by decide +kernel
theorem dX6_says_28 : decode cX6_says 28 = .ok (.iconst 4, 1) := by decide +kernel
theorem dX6_says_29 : decode cX6_says 29 = .ok (.iload_n 2, 1) := by decide +kernel
theorem dX6_says_30 : decode cX6_says 30 = .ok (.imul, 1) := by decide +kernel
theorem dX6_says_31 : decode cX6_says 31 = .ok (.iaload, 1) := by decide +kernel
theorem dX6_says_32 : decode cX6_says 32 = .ok (.putfield 191, 3) := by decide +kernel
theorem dX6_says_35 : decode cX6_says 35 = .ok (.aload_n 0, 1) := by decide +kernel
theorem dX6_says_36 : decode cX6_says 36 = .ok (.aload_n 0, 1) := by decide +kernel
theorem dX6_says_37 : decode cX6_says 37 = .ok (.getfield 29, 3) := by decide +kernel
theorem dX6_says_40 : decode cX6_says 40 = .ok (.iconst 4, 1) := by decide +kernel
theorem dX6_says_41 : decode cX6_says 41 = .ok (.iload_n 3, 1) := by decide +kernel
theorem dX6_says_42 : decode cX6_says 42 = .ok (.imul, 1) := by decide +kernel
theorem dX6_says_43 : decode cX6_says 43 = .ok (.iconst 1, 1) := by decide +kernel
theorem dX6_says_44 : decode cX6_says 44 = .ok (.iadd, 1) := by decide +kernel
theorem dX6_says_45 : decode cX6_says 45 = .ok (.iaload, 1) := by decide +kernel
theorem dX6_says_46 : decode cX6_says 46 = .ok (.putfield 194, 3) := by decide +kernel
theorem dX6_says_49 : decode cX6_says 49 = .ok (.aload_n 0, 1) := by decide +kernel
theorem dX6_says_50 : decode cX6_says 50 = .ok (.aload_n 0, 1) := by decide +kernel
theorem dX6_says_51 : decode cX6_says 51 = .ok (.getfield 100, 3) := by decide +kernel
theorem dX6_says_54 : decode cX6_says 54 = .ok (.putfield 197, 3) := by decide +kernel
theorem dX6_says_57 : decode cX6_says 57 = .ok (.aload_n 0, 1) := by decide +kernel
theorem dX6_says_58 : decode cX6_says 58 = .ok (.aload_n 0, 1) := by decide +kernel
theorem dX6_says_59 : decode cX6_says 59 = .ok (.getfield 23, 3) := by decide +kernel
theorem dX6_says_62 : decode cX6_says 62 = .ok (.invokestatic 116, 3) := by decide +kernel
theorem dX6_says_65 : decode cX6_says 65 = .ok (.aload_n 0, 1) := by decide +kernel
theorem dX6_says_66 : decode cX6_says 66 = .ok (.iload_n 3, 1) := by decide +kernel
theorem dX6_says_67 : decode cX6_says 67 = .ok (.invokevirtual 122, 3) := by decide +kernel
theorem dX6_says_70 : decode cX6_says 70 = .ok (.iadd, 1) := by decide +kernel
theorem dX6_says_71 : decode cX6_says 71 = .ok (.putfield 200, 3) := by decide +kernel
theorem dX6_says_74 : decode cX6_says 74 = .ok (.aload_n 0, 1) := by decide +kernel
theorem dX6_says_75 : decode cX6_says 75 = .ok (.aload_n 0, 1) := by decide +kernel
theorem dX6_says_76 : decode cX6_says 76 = .ok (.getfield 107, 3) := by decide +kernel
theorem dX6_says_79 : decode cX6_says 79 = .ok (.iload_n 1, 1) := by decide +kernel
theorem dX6_says_80 : decode cX6_says 80 = .ok (.invokevirtual 240, 3) := by decide +kernel
theorem dX6_says_83 : decode cX6_says 83 = .ok (.istore 4, 2) := by decide +kernel
theorem dX6_says_85 : decode cX6_says 85 = .ok (.iload_n 1, 1) := by decide +kernel
theorem dX6_says_86 : decode cX6_says 86 = .ok (.ifCond .ne 14, 3) := by decide +kernel
theorem dX6_says_89 : decode cX6_says 89 = .ok (.iload 4, 2) := by decide +kernel
theorem dX6_says_91 : decode cX6_says 91 = .ok (.iconst 0, 1) := by decide +kernel
theorem dX6_says_92 : decode cX6_says 92 = .ok (.bipush 99, 2) := by decide +kernel
theorem dX6_says_94 : decode cX6_says 94 = .ok (.invokestatic 243, 3) := by decide +kernel
theorem dX6_says_97 : decode cX6_says 97 = .ok (.goto 22, 3) := by decide +kernel
theorem dX6_says_100 : decode cX6_says 100 = .ok (.iload_n 1, 1) := by decide +kernel
theorem dX6_says_101 : decode cX6_says 101 = .ok (.iconst 2, 1) := by decide +kernel
theorem dX6_says_102 : decode cX6_says 102 = .ok (.if_icmp .ne 15, 3) := by decide +kernel
theorem dX6_says_105 : decode cX6_says 105 = .ok (.iload 4, 2) := by decide +kernel
theorem dX6_says_107 : decode cX6_says 107 = .ok (.bipush (-9), 2) := by decide +kernel
theorem dX6_says_109 : decode cX6_says 109 = .ok (.bipush 9, 2) := by decide +kernel
theorem dX6_says_111 : decode cX6_says 111 = .ok (.invokestatic 243, 3) := by decide +kernel
theorem dX6_says_114 : decode cX6_says 114 = .ok (.goto 5, 3) := by decide +kernel
theorem dX6_says_117 : decode cX6_says 117 = .ok (.iload 4, 2) := by decide +kernel
theorem dX6_says_119 : decode cX6_says 119 = .ok (.ireturn, 1) := by decide +kernel
theorem dX6_throwsIt_0 : decode cX6_throwsIt 0 = .ok (.aload_n 0, 1) := by decide +kernel
theorem dX6_throwsIt_1 : decode cX6_throwsIt 1 = .ok (.getfield 26, 3) := by decide +kernel
theorem dX6_throwsIt_4 : decode cX6_throwsIt 4 = .ok (.iload_n 1, 1) := by decide +kernel
theorem dX6_throwsIt_5 : decode cX6_throwsIt 5 = .ok (.iaload, 1) := by decide +kernel
theorem dX6_throwsIt_6 : decode cX6_throwsIt 6 = .ok (.istore_n 3, 1) := by decide +kernel
theorem dX6_throwsIt_7 : decode cX6_throwsIt 7 = .ok (.iload_n 3, 1) := by decide +kernel
theorem dX6_throwsIt_8 : decode cX6_throwsIt 8 = .ok (.iconst 2, 1) := by decide +kernel
theorem dX6_throwsIt_9 : decode cX6_throwsIt 9 = .ok (.if_icmp .eq 8, 3) := by decide +kernel
theorem dX6_throwsIt_12 : decode cX6_throwsIt 12 = .ok (.iload_n 3, 1) := by decide +kernel
theorem dX6_throwsIt_13 : decode cX6_throwsIt 13 = .ok (.iconst 4, 1) := by decide +kernel
theorem dX6_throwsIt_14 : decode cX6_throwsIt 14 = .ok (.if_icmp .ne 5, 3) := by decide +kernel
theorem dX6_throwsIt_17 : decode cX6_throwsIt 17 = .ok (.iconst 0, 1) := by decide +kernel
theorem dX6_throwsIt_18 : decode cX6_throwsIt 18 = .ok (.ireturn, 1) := by decide +kernel
theorem dX6_throwsIt_19 : decode cX6_throwsIt 19 = .ok (.aload_n 0, 1) := by decide +kernel
theorem dX6_throwsIt_20 : decode cX6_throwsIt 20 = .ok (.iconst 1, 1) := by decide +kernel
theorem dX6_throwsIt_21 : decode cX6_throwsIt 21 = .ok (.iload_n 1, 1) := by decide +kernel
theorem dX6_throwsIt_22 : decode cX6_throwsIt 22 = .ok (.iload_n 2, 1) := by decide +kernel
theorem dX6_throwsIt_23 : decode cX6_throwsIt 23 = .ok (.invokevirtual 247, 3) := by decide +kernel
theorem dX6_throwsIt_26 : decode cX6_throwsIt 26 = .ok (.ifCond .eq 7, 3) := by decide +kernel
theorem dX6_throwsIt_29 : decode cX6_throwsIt 29 = .ok (.iconst 1, 1) := by decide +kernel
theorem dX6_throwsIt_30 : decode cX6_throwsIt 30 = .ok (.goto 4, 3) := by decide +kernel
theorem dX6_throwsIt_33 : decode cX6_throwsIt 33 = .ok (.iconst 0, 1) := by decide +kernel
theorem dX6_throwsIt_34 : decode cX6_throwsIt 34 = .ok (.istore 4, 2) := by decide +kernel
theorem dX6_throwsIt_36 : decode cX6_throwsIt 36 = .ok (.iload 4, 2) := by decide +kernel
theorem dX6_throwsIt_38 : decode cX6_throwsIt 38 = .ok (.ifCond .eq 16, 3) := by decide +kernel
theorem dX6_throwsIt_41 : decode cX6_throwsIt 41 = .ok (.aload_n 0, 1) := by decide +kernel
theorem dX6_throwsIt_42 : decode cX6_throwsIt 42 = .ok (.iload_n 1, 1) := by decide +kernel
theorem dX6_throwsIt_43 : decode cX6_throwsIt 43 = .ok (.invokevirtual 122, 3) := by decide +kernel
theorem dX6_throwsIt_46 : decode cX6_throwsIt 46 = .ok (.iconst 4, 1) := by decide +kernel
theorem dX6_throwsIt_47 : decode cX6_throwsIt 47 = .ok (.if_icmp .ge 7, 3) := by decide +kernel
theorem dX6_throwsIt_50 : decode cX6_throwsIt 50 = .ok (.iconst 1, 1) := by decide +kernel
theorem dX6_throwsIt_51 : decode cX6_throwsIt 51 = .ok (.goto 4, 3) := by decide +kernel
theorem dX6_throwsIt_54 : decode cX6_throwsIt 54 = .ok (.iconst 0, 1) := by decide +kernel
theorem dX6_throwsIt_55 : decode cX6_throwsIt 55 = .ok (.istore 5, 2) := by decide +kernel
theorem dX6_throwsIt_57 : decode cX6_throwsIt 57 = .ok (.iload_n 3, 1) := by decide +kernel
theorem dX6_throwsIt_58 : decode cX6_throwsIt 58 = .ok (.iconst 1, 1) := by decide +kernel
theorem dX6_throwsIt_59 : decode cX6_throwsIt 59 = .ok (.if_icmp .ne 8, 3) := by decide +kernel
theorem dX6_throwsIt_62 : decode cX6_throwsIt 62 = .ok (.iload 5, 2) := by decide +kernel
theorem dX6_throwsIt_64 : decode cX6_throwsIt 64 = .ok (.goto 31, 3) := by decide +kernel
theorem dX6_throwsIt_67 : decode cX6_throwsIt 67 = .ok (.iload_n 3, 1) := by decide +kernel
theorem dX6_throwsIt_68 : decode cX6_throwsIt 68 = .ok (.iconst 3, 1) := by decide +kernel
theorem dX6_throwsIt_69 : decode cX6_throwsIt 69 = .ok (.if_icmp .ne 24, 3) := by decide +kernel
theorem dX6_throwsIt_72 : decode cX6_throwsIt 72 = .ok (.iload 5, 2) := by decide +kernel
theorem dX6_throwsIt_74 : decode cX6_throwsIt 74 = .ok (.ifCond .ne 11, 3) := by decide +kernel
theorem dX6_throwsIt_77 : decode cX6_throwsIt 77 = .ok (.aload_n 0, 1) := by decide +kernel
theorem dX6_throwsIt_78 : decode cX6_throwsIt 78 = .ok (.iload_n 2, 1) := by decide +kernel
theorem dX6_throwsIt_79 : decode cX6_throwsIt 79 = .ok (.invokevirtual 112, 3) := by decide +kernel
theorem dX6_throwsIt_82 : decode cX6_throwsIt 82 = .ok (.ifCond .eq 7, 3) := by decide +kernel
theorem dX6_throwsIt_85 : decode cX6_throwsIt 85 = .ok (.iconst 1, 1) := by decide +kernel
theorem dX6_throwsIt_86 : decode cX6_throwsIt 86 = .ok (.goto 9, 3) := by decide +kernel
theorem dX6_throwsIt_89 : decode cX6_throwsIt 89 = .ok (.iconst 0, 1) := by decide +kernel
theorem dX6_throwsIt_90 : decode cX6_throwsIt 90 = .ok (.goto 5, 3) := by decide +kernel
theorem dX6_throwsIt_93 : decode cX6_throwsIt 93 = .ok (.iload 4, 2) := by decide +kernel
theorem dX6_throwsIt_95 : decode cX6_throwsIt 95 = .ok (.ireturn, 1) := by decide +kernel
theorem dX6_playsOf_0 : decode cX6_playsOf 0 = .ok (.aload_n 0, 1) := by decide +kernel
theorem dX6_playsOf_1 : decode cX6_playsOf 1 = .ok (.getfield 26, 3) := by decide +kernel
theorem dX6_playsOf_4 : decode cX6_playsOf 4 = .ok (.iload_n 1, 1) := by decide +kernel
theorem dX6_playsOf_5 : decode cX6_playsOf 5 = .ok (.iaload, 1) := by decide +kernel
theorem dX6_playsOf_6 : decode cX6_playsOf 6 = .ok (.istore_n 3, 1) := by decide +kernel
theorem dX6_playsOf_7 : decode cX6_playsOf 7 = .ok (.iload_n 3, 1) := by decide +kernel
theorem dX6_playsOf_8 : decode cX6_playsOf 8 = .ok (.iconst 5, 1) := by decide +kernel
theorem dX6_playsOf_9 : decode cX6_playsOf 9 = .ok (.if_icmp .ne 5, 3) := by decide +kernel
theorem dX6_playsOf_12 : decode cX6_playsOf 12 = .ok (.iconst 0, 1) := by decide +kernel
theorem dX6_playsOf_13 : decode cX6_playsOf 13 = .ok (.ireturn, 1) := by decide +kernel
theorem dX6_playsOf_14 : decode cX6_playsOf 14 = .ok (.aload_n 0, 1) := by decide +kernel
theorem dX6_playsOf_15 : decode cX6_playsOf 15 = .ok (.iconst 0, 1) := by decide +kernel
theorem dX6_playsOf_16 : decode cX6_playsOf 16 = .ok (.iload_n 1, 1) := by decide +kernel
theorem dX6_playsOf_17 : decode cX6_playsOf 17 = .ok (.iload_n 2, 1) := by decide +kernel
theorem dX6_playsOf_18 : decode cX6_playsOf 18 = .ok (.invokevirtual 247, 3) := by decide +kernel
theorem dX6_playsOf_21 : decode cX6_playsOf 21 = .ok (.istore 4, 2) := by decide +kernel
theorem dX6_playsOf_23 : decode cX6_playsOf 23 = .ok (.aload_n 0, 1) := by decide +kernel
theorem dX6_playsOf_24 : decode cX6_playsOf 24 = .ok (.getfield 29, 3) := by decide +kernel
theorem dX6_playsOf_27 : decode cX6_playsOf 27 = .ok (.iconst 4, 1) := by decide +kernel
theorem dX6_playsOf_28 : decode cX6_playsOf 28 = .ok (.iload_n 1, 1) := by decide +kernel
theorem dX6_playsOf_29 : decode cX6_playsOf 29 = .ok (.imul, 1) := by decide +kernel
theorem dX6_playsOf_30 : decode cX6_playsOf 30 = .ok (.iaload, 1) := by decide +kernel
theorem dX6_playsOf_31 : decode cX6_playsOf 31 = .ok (.istore 5, 2) := by decide +kernel
theorem dX6_playsOf_33 : decode cX6_playsOf 33 = .ok (.iload_n 3, 1) := by decide +kernel
theorem dX6_playsOf_34 : decode cX6_playsOf 34 = .ok (.iconst 1, 1) := by decide +kernel
theorem dX6_playsOf_35 : decode cX6_playsOf 35 = .ok (.if_icmp .ne 10, 3) := by decide +kernel
theorem dX6_playsOf_38 : decode cX6_playsOf 38 = .ok (.iconst 2, 1) := by decide +kernel
theorem dX6_playsOf_39 : decode cX6_playsOf 39 = .ok (.iload 4, 2) := by decide +kernel
theorem dX6_playsOf_41 : decode cX6_playsOf 41 = .ok (.imul, 1) := by decide +kernel
theorem dX6_playsOf_42 : decode cX6_playsOf 42 = .ok (.goto 75, 3) := by decide +kernel
theorem dX6_playsOf_45 : decode cX6_playsOf 45 = .ok (.iload_n 3, 1) := by decide +kernel
theorem dX6_playsOf_46 : decode cX6_playsOf 46 = .ok (.iconst 3, 1) := by decide +kernel
theorem dX6_playsOf_47 : decode cX6_playsOf 47 = .ok (.if_icmp .ne 25, 3) := by decide +kernel
theorem dX6_playsOf_50 : decode cX6_playsOf 50 = .ok (.iconst 2, 1) := by decide +kernel
theorem dX6_playsOf_51 : decode cX6_playsOf 51 = .ok (.iload 4, 2) := by decide +kernel
theorem dX6_playsOf_53 : decode cX6_playsOf 53 = .ok (.imul, 1) := by decide +kernel
theorem dX6_playsOf_54 : decode cX6_playsOf 54 = .ok (.aload_n 0, 1) := by decide +kernel
theorem dX6_playsOf_55 : decode cX6_playsOf 55 = .ok (.iload_n 1, 1) := by decide +kernel
theorem dX6_playsOf_56 : decode cX6_playsOf 56 = .ok (.invokevirtual 112, 3) := by decide +kernel
theorem dX6_playsOf_59 : decode cX6_playsOf 59 = .ok (.ifCond .ne 8, 3) := by decide +kernel
theorem dX6_playsOf_62 : decode cX6_playsOf 62 = .ok (.iload 5, 2) := by decide +kernel
theorem dX6_playsOf_64 : decode cX6_playsOf 64 = .ok (.goto 4, 3) := by decide +kernel
theorem dX6_playsOf_67 : decode cX6_playsOf 67 = .ok (.iconst 0, 1) := by decide +kernel
theorem dX6_playsOf_68 : decode cX6_playsOf 68 = .ok (.iadd, 1) := by decide +kernel
theorem dX6_playsOf_69 : decode cX6_playsOf 69 = .ok (.goto 48, 3) := by decide +kernel
theorem dX6_playsOf_72 : decode cX6_playsOf 72 = .ok (.iload_n 3, 1) := by decide +kernel
theorem dX6_playsOf_73 : decode cX6_playsOf 73 = .ok (.iconst 2, 1) := by decide +kernel
theorem dX6_playsOf_74 : decode cX6_playsOf 74 = .ok (.if_icmp .ne 10, 3) := by decide +kernel
theorem dX6_playsOf_77 : decode cX6_playsOf 77 = .ok (.iload 4, 2) := by decide +kernel
theorem dX6_playsOf_79 : decode cX6_playsOf 79 = .ok (.iconst 2, 1) := by decide +kernel
theorem dX6_playsOf_80 : decode cX6_playsOf 80 = .ok (.idiv, 1) := by decide +kernel
theorem dX6_playsOf_81 : decode cX6_playsOf 81 = .ok (.goto 36, 3) := by decide +kernel
theorem dX6_playsOf_84 : decode cX6_playsOf 84 = .ok (.iload_n 3, 1) := by decide +kernel
theorem dX6_playsOf_85 : decode cX6_playsOf 85 = .ok (.iconst 4, 1) := by decide +kernel
theorem dX6_playsOf_86 : decode cX6_playsOf 86 = .ok (.if_icmp .ne 29, 3) := by decide +kernel
theorem dX6_playsOf_89 : decode cX6_playsOf 89 = .ok (.iload 4, 2) := by decide +kernel
theorem dX6_playsOf_91 : decode cX6_playsOf 91 = .ok (.iconst 2, 1) := by decide +kernel
theorem dX6_playsOf_92 : decode cX6_playsOf 92 = .ok (.idiv, 1) := by decide +kernel
theorem dX6_playsOf_93 : decode cX6_playsOf 93 = .ok (.aload_n 0, 1) := by decide +kernel
theorem dX6_playsOf_94 : decode cX6_playsOf 94 = .ok (.getfield 100, 3) := by decide +kernel
theorem dX6_playsOf_97 : decode cX6_playsOf 97 = .ok (.bipush 10, 2) := by decide +kernel
theorem dX6_playsOf_99 : decode cX6_playsOf 99 = .ok (.irem, 1) := by decide +kernel
theorem dX6_playsOf_100 : decode cX6_playsOf 100 = .ok (.iload 5, 2) := by decide +kernel
theorem dX6_playsOf_102 : decode cX6_playsOf 102 = .ok (.if_icmp .ne 8, 3) := by decide +kernel
theorem dX6_playsOf_105 : decode cX6_playsOf 105 = .ok (.bipush 50, 2) := by decide +kernel
theorem dX6_playsOf_107 : decode cX6_playsOf 107 = .ok (.goto 4, 3) := by decide +kernel
theorem dX6_playsOf_110 : decode cX6_playsOf 110 = .ok (.iconst 0, 1) := by decide +kernel
theorem dX6_playsOf_111 : decode cX6_playsOf 111 = .ok (.iadd, 1) := by decide +kernel
theorem dX6_playsOf_112 : decode cX6_playsOf 112 = .ok (.goto 5, 3) := by decide +kernel
theorem dX6_playsOf_115 : decode cX6_playsOf 115 = .ok (.iload 4, 2) := by decide +kernel
theorem dX6_playsOf_117 : decode cX6_playsOf 117 = .ok (.istore 6, 2) := by decide +kernel
theorem dX6_playsOf_119 : decode cX6_playsOf 119 = .ok (.iload 6, 2) := by decide +kernel
theorem dX6_playsOf_121 : decode cX6_playsOf 121 = .ok (.iconst 0, 1) := by decide +kernel
theorem dX6_playsOf_122 : decode cX6_playsOf 122 = .ok (.sipush 999, 3) := by decide +kernel
theorem dX6_playsOf_125 : decode cX6_playsOf 125 = .ok (.invokestatic 243, 3) := by decide +kernel
theorem dX6_playsOf_128 : decode cX6_playsOf 128 = .ok (.ireturn, 1) := by decide +kernel
theorem dX6_powerOf_0 : decode cX6_powerOf 0 = .ok (.aload_n 0, 1) := by decide +kernel
theorem dX6_powerOf_1 : decode cX6_powerOf 1 = .ok (.iload_n 1, 1) := by decide +kernel
theorem dX6_powerOf_2 : decode cX6_powerOf 2 = .ok (.iload_n 2, 1) := by decide +kernel
theorem dX6_powerOf_3 : decode cX6_powerOf 3 = .ok (.invokevirtual 250, 3) := by decide +kernel
theorem dX6_powerOf_6 : decode cX6_powerOf 6 = .ok (.ifCond .eq 7, 3) := by decide +kernel
theorem dX6_powerOf_9 : decode cX6_powerOf 9 = .ok (.iconst (-1), 1) := by decide +kernel
theorem dX6_powerOf_10 : decode cX6_powerOf 10 = .ok (.goto 9, 3) := by decide +kernel
theorem dX6_powerOf_13 : decode cX6_powerOf 13 = .ok (.aload_n 0, 1) := by decide +kernel
theorem dX6_powerOf_14 : decode cX6_powerOf 14 = .ok (.iload_n 1, 1) := by decide +kernel
theorem dX6_powerOf_15 : decode cX6_powerOf 15 = .ok (.iload_n 2, 1) := by decide +kernel
theorem dX6_powerOf_16 : decode cX6_powerOf 16 = .ok (.invokevirtual 253, 3) := by decide +kernel
theorem dX6_powerOf_19 : decode cX6_powerOf 19 = .ok (.ireturn, 1) := by decide +kernel
theorem dX6_tiresOf_0 : decode cX6_tiresOf 0 = .ok (.aload_n 0, 1) := by decide +kernel
theorem dX6_tiresOf_1 : decode cX6_tiresOf 1 = .ok (.getfield 26, 3) := by decide +kernel
theorem dX6_tiresOf_4 : decode cX6_tiresOf 4 = .ok (.iload_n 1, 1) := by decide +kernel
theorem dX6_tiresOf_5 : decode cX6_tiresOf 5 = .ok (.iaload, 1) := by decide +kernel
theorem dX6_tiresOf_6 : decode cX6_tiresOf 6 = .ok (.istore 4, 2) := by decide +kernel
theorem dX6_tiresOf_8 : decode cX6_tiresOf 8 = .ok (.iload 4, 2) := by decide +kernel
theorem dX6_tiresOf_10 : decode cX6_tiresOf 10 = .ok (.iconst 5, 1) := by decide +kernel
theorem dX6_tiresOf_11 : decode cX6_tiresOf 11 = .ok (.if_icmp .ne 5, 3) := by decide +kernel
theorem dX6_tiresOf_14 : decode cX6_tiresOf 14 = .ok (.iconst 0, 1) := by decide +kernel
theorem dX6_tiresOf_15 : decode cX6_tiresOf 15 = .ok (.ireturn, 1) := by decide +kernel
theorem dX6_tiresOf_16 : decode cX6_tiresOf 16 = .ok (.aload_n 0, 1) := by decide +kernel
theorem dX6_tiresOf_17 : decode cX6_tiresOf 17 = .ok (.iconst 2, 1) := by decide +kernel
theorem dX6_tiresOf_18 : decode cX6_tiresOf 18 = .ok (.iload_n 1, 1) := by decide +kernel
theorem dX6_tiresOf_19 : decode cX6_tiresOf 19 = .ok (.iload_n 2, 1) := by decide +kernel
theorem dX6_tiresOf_20 : decode cX6_tiresOf 20 = .ok (.invokevirtual 247, 3) := by decide +kernel
theorem dX6_tiresOf_23 : decode cX6_tiresOf 23 = .ok (.istore 5, 2) := by decide +kernel
theorem dX6_tiresOf_25 : decode cX6_tiresOf 25 = .ok (.iload_n 3, 1) := by decide +kernel
theorem dX6_tiresOf_26 : decode cX6_tiresOf 26 = .ok (.ifCond .eq 7, 3) := by decide +kernel
theorem dX6_tiresOf_29 : decode cX6_tiresOf 29 = .ok (.iconst 0, 1) := by decide +kernel
theorem dX6_tiresOf_30 : decode cX6_tiresOf 30 = .ok (.goto 5, 3) := by decide +kernel
theorem dX6_tiresOf_33 : decode cX6_tiresOf 33 = .ok (.iload 5, 2) := by decide +kernel
theorem dX6_tiresOf_35 : decode cX6_tiresOf 35 = .ok (.istore 6, 2) := by decide +kernel
theorem dX6_tiresOf_37 : decode cX6_tiresOf 37 = .ok (.iload 4, 2) := by decide +kernel
theorem dX6_tiresOf_39 : decode cX6_tiresOf 39 = .ok (.iconst 1, 1) := by decide +kernel
theorem dX6_tiresOf_40 : decode cX6_tiresOf 40 = .ok (.if_icmp .ne 8, 3) := by decide +kernel
theorem dX6_tiresOf_43 : decode cX6_tiresOf 43 = .ok (.iload 6, 2) := by decide +kernel
theorem dX6_tiresOf_45 : decode cX6_tiresOf 45 = .ok (.goto 44, 3) := by decide +kernel
theorem dX6_tiresOf_48 : decode cX6_tiresOf 48 = .ok (.iload 4, 2) := by decide +kernel
theorem dX6_tiresOf_50 : decode cX6_tiresOf 50 = .ok (.iconst 3, 1) := by decide +kernel
theorem dX6_tiresOf_51 : decode cX6_tiresOf 51 = .ok (.if_icmp .ne 10, 3) := by decide +kernel
theorem dX6_tiresOf_54 : decode cX6_tiresOf 54 = .ok (.iload 6, 2) := by decide +kernel
theorem dX6_tiresOf_56 : decode cX6_tiresOf 56 = .ok (.iconst 1, 1) := by decide +kernel
theorem dX6_tiresOf_57 : decode cX6_tiresOf 57 = .ok (.iadd, 1) := by decide +kernel
theorem dX6_tiresOf_58 : decode cX6_tiresOf 58 = .ok (.goto 31, 3) := by decide +kernel
theorem dX6_tiresOf_61 : decode cX6_tiresOf 61 = .ok (.iload 4, 2) := by decide +kernel
theorem dX6_tiresOf_63 : decode cX6_tiresOf 63 = .ok (.iconst 2, 1) := by decide +kernel
theorem dX6_tiresOf_64 : decode cX6_tiresOf 64 = .ok (.if_icmp .ne 9, 3) := by decide +kernel
theorem dX6_tiresOf_67 : decode cX6_tiresOf 67 = .ok (.iload 5, 2) := by decide +kernel
theorem dX6_tiresOf_69 : decode cX6_tiresOf 69 = .ok (.ineg, 1) := by decide +kernel
theorem dX6_tiresOf_70 : decode cX6_tiresOf 70 = .ok (.goto 19, 3) := by decide +kernel
theorem dX6_tiresOf_73 : decode cX6_tiresOf 73 = .ok (.iload 4, 2) := by decide +kernel
theorem dX6_tiresOf_75 : decode cX6_tiresOf 75 = .ok (.iconst 4, 1) := by decide +kernel
theorem dX6_tiresOf_76 : decode cX6_tiresOf 76 = .ok (.if_icmp .ne 11, 3) := by decide +kernel
theorem dX6_tiresOf_79 : decode cX6_tiresOf 79 = .ok (.iload 5, 2) := by decide +kernel
theorem dX6_tiresOf_81 : decode cX6_tiresOf 81 = .ok (.ineg, 1) := by decide +kernel
theorem dX6_tiresOf_82 : decode cX6_tiresOf 82 = .ok (.iconst 3, 1) := by decide +kernel
theorem dX6_tiresOf_83 : decode cX6_tiresOf 83 = .ok (.isub, 1) := by decide +kernel
theorem dX6_tiresOf_84 : decode cX6_tiresOf 84 = .ok (.goto 5, 3) := by decide +kernel
theorem dX6_tiresOf_87 : decode cX6_tiresOf 87 = .ok (.iload 5, 2) := by decide +kernel
theorem dX6_tiresOf_89 : decode cX6_tiresOf 89 = .ok (.bipush (-99), 2) := by decide +kernel
theorem dX6_tiresOf_91 : decode cX6_tiresOf 91 = .ok (.bipush 99, 2) := by decide +kernel
theorem dX6_tiresOf_93 : decode cX6_tiresOf 93 = .ok (.invokestatic 243, 3) := by decide +kernel
theorem dX6_tiresOf_96 : decode cX6_tiresOf 96 = .ok (.ireturn, 1) := by decide +kernel
theorem dX6_winnerOf_0 : decode cX6_winnerOf 0 = .ok (.aload_n 0, 1) := by decide +kernel
theorem dX6_winnerOf_1 : decode cX6_winnerOf 1 = .ok (.iload_n 1, 1) := by decide +kernel
theorem dX6_winnerOf_2 : decode cX6_winnerOf 2 = .ok (.iload_n 2, 1) := by decide +kernel
theorem dX6_winnerOf_3 : decode cX6_winnerOf 3 = .ok (.invokevirtual 256, 3) := by decide +kernel
theorem dX6_winnerOf_6 : decode cX6_winnerOf 6 = .ok (.istore_n 3, 1) := by decide +kernel
theorem dX6_winnerOf_7 : decode cX6_winnerOf 7 = .ok (.aload_n 0, 1) := by decide +kernel
theorem dX6_winnerOf_8 : decode cX6_winnerOf 8 = .ok (.iload_n 2, 1) := by decide +kernel
theorem dX6_winnerOf_9 : decode cX6_winnerOf 9 = .ok (.iload_n 1, 1) := by decide +kernel
theorem dX6_winnerOf_10 : decode cX6_winnerOf 10 = .ok (.invokevirtual 256, 3) := by decide +kernel
theorem dX6_winnerOf_13 : decode cX6_winnerOf 13 = .ok (.istore 4, 2) := by decide +kernel
theorem dX6_winnerOf_15 : decode cX6_winnerOf 15 = .ok (.iload_n 3, 1) := by decide +kernel
theorem dX6_winnerOf_16 : decode cX6_winnerOf 16 = .ok (.iload 4, 2) := by decide +kernel
theorem dX6_winnerOf_18 : decode cX6_winnerOf 18 = .ok (.if_icmp .le 7, 3) := by decide +kernel
theorem dX6_winnerOf_21 : decode cX6_winnerOf 21 = .ok (.iload_n 1, 1) := by decide +kernel
theorem dX6_winnerOf_22 : decode cX6_winnerOf 22 = .ok (.goto 14, 3) := by decide +kernel
theorem dX6_winnerOf_25 : decode cX6_winnerOf 25 = .ok (.iload 4, 2) := by decide +kernel
theorem dX6_winnerOf_27 : decode cX6_winnerOf 27 = .ok (.iload_n 3, 1) := by decide +kernel
theorem dX6_winnerOf_28 : decode cX6_winnerOf 28 = .ok (.if_icmp .le 7, 3) := by decide +kernel
theorem dX6_winnerOf_31 : decode cX6_winnerOf 31 = .ok (.iload_n 2, 1) := by decide +kernel
theorem dX6_winnerOf_32 : decode cX6_winnerOf 32 = .ok (.goto 4, 3) := by decide +kernel
theorem dX6_winnerOf_35 : decode cX6_winnerOf 35 = .ok (.iconst (-1), 1) := by decide +kernel
theorem dX6_winnerOf_36 : decode cX6_winnerOf 36 = .ok (.ireturn, 1) := by decide +kernel
theorem dX6_games_0 : decode cX6_games 0 = .ok (.aload_n 0, 1) := by decide +kernel
theorem dX6_games_1 : decode cX6_games 1 = .ok (.iload_n 1, 1) := by decide +kernel
theorem dX6_games_2 : decode cX6_games 2 = .ok (.iload_n 2, 1) := by decide +kernel
theorem dX6_games_3 : decode cX6_games 3 = .ok (.invokevirtual 259, 3) := by decide +kernel
theorem dX6_games_6 : decode cX6_games 6 = .ok (.istore_n 3, 1) := by decide +kernel
theorem dX6_games_7 : decode cX6_games 7 = .ok (.aload_n 0, 1) := by decide +kernel
theorem dX6_games_8 : decode cX6_games 8 = .ok (.iload_n 1, 1) := by decide +kernel
theorem dX6_games_9 : decode cX6_games 9 = .ok (.iload_n 2, 1) := by decide +kernel
theorem dX6_games_10 : decode cX6_games 10 = .ok (.iload_n 3, 1) := by decide +kernel
theorem dX6_games_11 : decode cX6_games 11 = .ok (.iload_n 1, 1) := by decide +kernel
theorem dX6_games_12 : decode cX6_games 12 = .ok (.if_icmp .ne 7, 3) := by decide +kernel
theorem dX6_games_15 : decode cX6_games 15 = .ok (.iconst 1, 1) := by decide +kernel
theorem dX6_games_16 : decode cX6_games 16 = .ok (.goto 4, 3) := by decide +kernel
theorem dX6_games_19 : decode cX6_games 19 = .ok (.iconst 0, 1) := by decide +kernel
theorem dX6_games_20 : decode cX6_games 20 = .ok (.invokevirtual 262, 3) := by decide +kernel
theorem dX6_games_23 : decode cX6_games 23 = .ok (.istore 4, 2) := by decide +kernel
theorem dX6_games_25 : decode cX6_games 25 = .ok (.aload_n 0, 1) := by decide +kernel
theorem dX6_games_26 : decode cX6_games 26 = .ok (.iload_n 2, 1) := by decide +kernel
theorem dX6_games_27 : decode cX6_games 27 = .ok (.iload_n 1, 1) := by decide +kernel
theorem dX6_games_28 : decode cX6_games 28 = .ok (.iload_n 3, 1) := by decide +kernel
theorem dX6_games_29 : decode cX6_games 29 = .ok (.iload_n 2, 1) := by decide +kernel
theorem dX6_games_30 : decode cX6_games 30 = .ok (.if_icmp .ne 7, 3) := by decide +kernel
theorem dX6_games_33 : decode cX6_games 33 = .ok (.iconst 1, 1) := by decide +kernel
theorem dX6_games_34 : decode cX6_games 34 = .ok (.goto 4, 3) := by decide +kernel
theorem dX6_games_37 : decode cX6_games 37 = .ok (.iconst 0, 1) := by decide +kernel
theorem dX6_games_38 : decode cX6_games 38 = .ok (.invokevirtual 262, 3) := by decide +kernel
theorem dX6_games_41 : decode cX6_games 41 = .ok (.istore 5, 2) := by decide +kernel
theorem dX6_games_43 : decode cX6_games 43 = .ok (.aload_n 0, 1) := by decide +kernel
theorem dX6_games_44 : decode cX6_games 44 = .ok (.iload_n 1, 1) := by decide +kernel
theorem dX6_games_45 : decode cX6_games 45 = .ok (.invokevirtual 112, 3) := by decide +kernel
theorem dX6_games_48 : decode cX6_games 48 = .ok (.aload_n 0, 1) := by decide +kernel
theorem dX6_games_49 : decode cX6_games 49 = .ok (.iload_n 2, 1) := by decide +kernel
theorem dX6_games_50 : decode cX6_games 50 = .ok (.invokevirtual 112, 3) := by decide +kernel
theorem dX6_games_53 : decode cX6_games 53 = .ok (.ior, 1) := by decide +kernel
theorem dX6_games_54 : decode cX6_games 54 = .ok (.aload_n 0, 1) := by decide +kernel
theorem dX6_games_55 : decode cX6_games 55 = .ok (.getfield 23, 3) := by decide +kernel
theorem dX6_games_58 : decode cX6_games 58 = .ok (.ior, 1) := by decide +kernel
theorem dX6_games_59 : decode cX6_games 59 = .ok (.istore 6, 2) := by decide +kernel
theorem dX6_games_61 : decode cX6_games 61 = .ok (.aload_n 0, 1) := by decide +kernel
theorem dX6_games_62 : decode cX6_games 62 = .ok (.getfield 29, 3) := by decide +kernel
theorem dX6_games_65 : decode cX6_games 65 = .ok (.iconst 4, 1) := by decide +kernel
theorem dX6_games_66 : decode cX6_games 66 = .ok (.iload_n 1, 1) := by decide +kernel
theorem dX6_games_67 : decode cX6_games 67 = .ok (.imul, 1) := by decide +kernel
theorem dX6_games_68 : decode cX6_games 68 = .ok (.iconst 3, 1) := by decide +kernel
theorem dX6_games_69 : decode cX6_games 69 = .ok (.iadd, 1) := by decide +kernel
theorem dX6_games_70 : decode cX6_games 70 = .ok (.iconst 0, 1) := by decide +kernel
theorem dX6_games_71 : decode cX6_games 71 = .ok (.iastore, 1) := by decide +kernel
theorem dX6_games_72 : decode cX6_games 72 = .ok (.aload_n 0, 1) := by decide +kernel
theorem dX6_games_73 : decode cX6_games 73 = .ok (.getfield 29, 3) := by decide +kernel
theorem dX6_games_76 : decode cX6_games 76 = .ok (.iconst 4, 1) := by decide +kernel
theorem dX6_games_77 : decode cX6_games 77 = .ok (.iload_n 2, 1) := by decide +kernel
theorem dX6_games_78 : decode cX6_games 78 = .ok (.imul, 1) := by decide +kernel
theorem dX6_games_79 : decode cX6_games 79 = .ok (.iconst 3, 1) := by decide +kernel
theorem dX6_games_80 : decode cX6_games 80 = .ok (.iadd, 1) := by decide +kernel
theorem dX6_games_81 : decode cX6_games 81 = .ok (.iconst 0, 1) := by decide +kernel
theorem dX6_games_82 : decode cX6_games 82 = .ok (.iastore, 1) := by decide +kernel
theorem dX6_games_83 : decode cX6_games 83 = .ok (.aload_n 0, 1) := by decide +kernel
theorem dX6_games_84 : decode cX6_games 84 = .ok (.iload_n 3, 1) := by decide +kernel
theorem dX6_games_85 : decode cX6_games 85 = .ok (.iconst (-1), 1) := by decide +kernel
theorem dX6_games_86 : decode cX6_games 86 = .ok (.if_icmp .ne 8, 3) := by decide +kernel
theorem dX6_games_89 : decode cX6_games 89 = .ok (.iload 6, 2) := by decide +kernel
theorem dX6_games_91 : decode cX6_games 91 = .ok (.goto 4, 3) := by decide +kernel
theorem dX6_games_94 : decode cX6_games 94 = .ok (.iconst 0, 1) := by decide +kernel
theorem dX6_games_95 : decode cX6_games 95 = .ok (.putfield 23, 3) := by decide +kernel
theorem dX6_games_98 : decode cX6_games 98 = .ok (.iload_n 3, 1) := by decide +kernel
theorem dX6_games_99 : decode cX6_games 99 = .ok (.iconst (-1), 1) := by decide +kernel
theorem dX6_games_100 : decode cX6_games 100 = .ok (.if_icmp .eq 57, 3) := by decide +kernel
theorem dX6_games_103 : decode cX6_games 103 = .ok (.iload_n 3, 1) := by decide +kernel
theorem dX6_games_104 : decode cX6_games 104 = .ok (.iload_n 1, 1) := by decide +kernel
theorem dX6_games_105 : decode cX6_games 105 = .ok (.if_icmp .ne 7, 3) := by decide +kernel
theorem dX6_games_108 : decode cX6_games 108 = .ok (.iload_n 2, 1) := by decide +kernel
theorem dX6_games_109 : decode cX6_games 109 = .ok (.goto 4, 3) := by decide +kernel
theorem dX6_games_112 : decode cX6_games 112 = .ok (.iload_n 1, 1) := by decide +kernel
theorem dX6_games_113 : decode cX6_games 113 = .ok (.istore 7, 2) := by decide +kernel
theorem dX6_games_115 : decode cX6_games 115 = .ok (.aload_n 0, 1) := by decide +kernel
theorem dX6_games_116 : decode cX6_games 116 = .ok (.getfield 29, 3) := by decide +kernel
theorem dX6_games_119 : decode cX6_games 119 = .ok (.iconst 4, 1) := by decide +kernel
theorem dX6_games_120 : decode cX6_games 120 = .ok (.iload 7, 2) := by decide +kernel
theorem dX6_games_122 : decode cX6_games 122 = .ok (.imul, 1) := by decide +kernel
theorem dX6_games_123 : decode cX6_games 123 = .ok (.iconst 3, 1) := by decide +kernel
theorem dX6_games_124 : decode cX6_games 124 = .ok (.iadd, 1) := by decide +kernel
theorem dX6_games_125 : decode cX6_games 125 = .ok (.iload 6, 2) := by decide +kernel
theorem dX6_games_127 : decode cX6_games 127 = .ok (.iastore, 1) := by decide +kernel
theorem dX6_games_128 : decode cX6_games 128 = .ok (.aload_n 0, 1) := by decide +kernel
theorem dX6_games_129 : decode cX6_games 129 = .ok (.getfield 29, 3) := by decide +kernel
theorem dX6_games_132 : decode cX6_games 132 = .ok (.iconst 4, 1) := by decide +kernel
theorem dX6_games_133 : decode cX6_games 133 = .ok (.iload_n 3, 1) := by decide +kernel
theorem dX6_games_134 : decode cX6_games 134 = .ok (.imul, 1) := by decide +kernel
theorem dX6_games_135 : decode cX6_games 135 = .ok (.iconst 2, 1) := by decide +kernel
theorem dX6_games_136 : decode cX6_games 136 = .ok (.iadd, 1) := by decide +kernel
theorem dX6_games_137 : decode cX6_games 137 = .ok (.aload_n 0, 1) := by decide +kernel
theorem dX6_games_138 : decode cX6_games 138 = .ok (.getfield 29, 3) := by decide +kernel
theorem dX6_games_141 : decode cX6_games 141 = .ok (.iconst 4, 1) := by decide +kernel
theorem dX6_games_142 : decode cX6_games 142 = .ok (.iload_n 3, 1) := by decide +kernel
theorem dX6_games_143 : decode cX6_games 143 = .ok (.imul, 1) := by decide +kernel
theorem dX6_games_144 : decode cX6_games 144 = .ok (.iconst 2, 1) := by decide +kernel
theorem dX6_games_145 : decode cX6_games 145 = .ok (.iadd, 1) := by decide +kernel
theorem dX6_games_146 : decode cX6_games 146 = .ok (.iaload, 1) := by decide +kernel
theorem dX6_games_147 : decode cX6_games 147 = .ok (.iconst 1, 1) := by decide +kernel
theorem dX6_games_148 : decode cX6_games 148 = .ok (.iadd, 1) := by decide +kernel
theorem dX6_games_149 : decode cX6_games 149 = .ok (.iconst 0, 1) := by decide +kernel
theorem dX6_games_150 : decode cX6_games 150 = .ok (.sipush 999, 3) := by decide +kernel
theorem dX6_games_153 : decode cX6_games 153 = .ok (.invokestatic 243, 3) := by decide +kernel
theorem dX6_games_156 : decode cX6_games 156 = .ok (.iastore, 1) := by decide +kernel
theorem dX6_games_157 : decode cX6_games 157 = .ok (.aload_n 0, 1) := by decide +kernel
theorem dX6_games_158 : decode cX6_games 158 = .ok (.getfield 29, 3) := by decide +kernel
theorem dX6_games_161 : decode cX6_games 161 = .ok (.iconst 4, 1) := by decide +kernel
theorem dX6_games_162 : decode cX6_games 162 = .ok (.iload_n 1, 1) := by decide +kernel
theorem dX6_games_163 : decode cX6_games 163 = .ok (.imul, 1) := by decide +kernel
theorem dX6_games_164 : decode cX6_games 164 = .ok (.iconst 1, 1) := by decide +kernel
theorem dX6_games_165 : decode cX6_games 165 = .ok (.iadd, 1) := by decide +kernel
theorem dX6_games_166 : decode cX6_games 166 = .ok (.aload_n 0, 1) := by decide +kernel
theorem dX6_games_167 : decode cX6_games 167 = .ok (.getfield 29, 3) := by decide +kernel
theorem dX6_games_170 : decode cX6_games 170 = .ok (.iconst 4, 1) := by decide +kernel
theorem dX6_games_171 : decode cX6_games 171 = .ok (.iload_n 1, 1) := by decide +kernel
theorem dX6_games_172 : decode cX6_games 172 = .ok (.imul, 1) := by decide +kernel
theorem dX6_games_173 : decode cX6_games 173 = .ok (.iconst 1, 1) := by decide +kernel
theorem dX6_games_174 : decode cX6_games 174 = .ok (.iadd, 1) := by decide +kernel
theorem dX6_games_175 : decode cX6_games 175 = .ok (.iaload, 1) := by decide +kernel
theorem dX6_games_176 : decode cX6_games 176 = .ok (.iload 4, 2) := by decide +kernel
theorem dX6_games_178 : decode cX6_games 178 = .ok (.isub, 1) := by decide +kernel
theorem dX6_games_179 : decode cX6_games 179 = .ok (.iconst 0, 1) := by decide +kernel
theorem dX6_games_180 : decode cX6_games 180 = .ok (.bipush 99, 2) := by decide +kernel
theorem dX6_games_182 : decode cX6_games 182 = .ok (.invokestatic 243, 3) := by decide +kernel
theorem dX6_games_185 : decode cX6_games 185 = .ok (.iastore, 1) := by decide +kernel
theorem dX6_games_186 : decode cX6_games 186 = .ok (.aload_n 0, 1) := by decide +kernel
theorem dX6_games_187 : decode cX6_games 187 = .ok (.getfield 29, 3) := by decide +kernel
theorem dX6_games_190 : decode cX6_games 190 = .ok (.iconst 4, 1) := by decide +kernel
theorem dX6_games_191 : decode cX6_games 191 = .ok (.iload_n 2, 1) := by decide +kernel
theorem dX6_games_192 : decode cX6_games 192 = .ok (.imul, 1) := by decide +kernel
theorem dX6_games_193 : decode cX6_games 193 = .ok (.iconst 1, 1) := by decide +kernel
theorem dX6_games_194 : decode cX6_games 194 = .ok (.iadd, 1) := by decide +kernel
theorem dX6_games_195 : decode cX6_games 195 = .ok (.aload_n 0, 1) := by decide +kernel
theorem dX6_games_196 : decode cX6_games 196 = .ok (.getfield 29, 3) := by decide +kernel
theorem dX6_games_199 : decode cX6_games 199 = .ok (.iconst 4, 1) := by decide +kernel
theorem dX6_games_200 : decode cX6_games 200 = .ok (.iload_n 2, 1) := by decide +kernel
theorem dX6_games_201 : decode cX6_games 201 = .ok (.imul, 1) := by decide +kernel
theorem dX6_games_202 : decode cX6_games 202 = .ok (.iconst 1, 1) := by decide +kernel
theorem dX6_games_203 : decode cX6_games 203 = .ok (.iadd, 1) := by decide +kernel
theorem dX6_games_204 : decode cX6_games 204 = .ok (.iaload, 1) := by decide +kernel
theorem dX6_games_205 : decode cX6_games 205 = .ok (.iload 5, 2) := by decide +kernel
theorem dX6_games_207 : decode cX6_games 207 = .ok (.isub, 1) := by decide +kernel
theorem dX6_games_208 : decode cX6_games 208 = .ok (.iconst 0, 1) := by decide +kernel
theorem dX6_games_209 : decode cX6_games 209 = .ok (.bipush 99, 2) := by decide +kernel
theorem dX6_games_211 : decode cX6_games 211 = .ok (.invokestatic 243, 3) := by decide +kernel
theorem dX6_games_214 : decode cX6_games 214 = .ok (.iastore, 1) := by decide +kernel
theorem dX6_games_215 : decode cX6_games 215 = .ok (.aload_n 0, 1) := by decide +kernel
theorem dX6_games_216 : decode cX6_games 216 = .ok (.dup, 1) := by decide +kernel
theorem dX6_games_217 : decode cX6_games 217 = .ok (.getfield 100, 3) := by decide +kernel
theorem dX6_games_220 : decode cX6_games 220 = .ok (.iconst 1, 1) := by decide +kernel
theorem dX6_games_221 : decode cX6_games 221 = .ok (.iadd, 1) := by decide +kernel
theorem dX6_games_222 : decode cX6_games 222 = .ok (.putfield 100, 3) := by decide +kernel
theorem dX6_games_225 : decode cX6_games 225 = .ok (.iload_n 3, 1) := by decide +kernel
theorem dX6_games_226 : decode cX6_games 226 = .ok (.ireturn, 1) := by decide +kernel
theorem dX6_laysAside_0 : decode cX6_laysAside 0 = .ok (.iconst 0, 1) := by decide +kernel
theorem dX6_laysAside_1 : decode cX6_laysAside 1 = .ok (.istore_n 1, 1) := by decide +kernel
theorem dX6_laysAside_2 : decode cX6_laysAside 2 = .ok (.iload_n 1, 1) := by decide +kernel
theorem dX6_laysAside_3 : decode cX6_laysAside 3 = .ok (.bipush 24, 2) := by decide +kernel
theorem dX6_laysAside_5 : decode cX6_laysAside 5 = .ok (.if_icmp .ge 29, 3) := by decide +kernel
theorem dX6_laysAside_8 : decode cX6_laysAside 8 = .ok (.aload_n 0, 1) := by decide +kernel
theorem dX6_laysAside_9 : decode cX6_laysAside 9 = .ok (.getfield 32, 3) := by decide +kernel
theorem dX6_laysAside_12 : decode cX6_laysAside 12 = .ok (.bipush 26, 2) := by decide +kernel
theorem dX6_laysAside_14 : decode cX6_laysAside 14 = .ok (.aload_n 0, 1) := by decide +kernel
theorem dX6_laysAside_15 : decode cX6_laysAside 15 = .ok (.getfield 266, 3) := by decide +kernel
theorem dX6_laysAside_18 : decode cX6_laysAside 18 = .ok (.imul, 1) := by decide +kernel
theorem dX6_laysAside_19 : decode cX6_laysAside 19 = .ok (.iload_n 1, 1) := by decide +kernel
theorem dX6_laysAside_20 : decode cX6_laysAside 20 = .ok (.iadd, 1) := by decide +kernel
theorem dX6_laysAside_21 : decode cX6_laysAside 21 = .ok (.aload_n 0, 1) := by decide +kernel
theorem dX6_laysAside_22 : decode cX6_laysAside 22 = .ok (.getfield 29, 3) := by decide +kernel
theorem dX6_laysAside_25 : decode cX6_laysAside 25 = .ok (.iload_n 1, 1) := by decide +kernel
theorem dX6_laysAside_26 : decode cX6_laysAside 26 = .ok (.iaload, 1) := by decide +kernel
theorem dX6_laysAside_27 : decode cX6_laysAside 27 = .ok (.iastore, 1) := by decide +kernel
theorem dX6_laysAside_28 : decode cX6_laysAside 28 = .ok (.iinc 1 1, 3) := by decide +kernel
theorem dX6_laysAside_31 : decode cX6_laysAside 31 = .ok (.goto (-29), 3) := by decide +kernel
theorem dX6_laysAside_34 : decode cX6_laysAside 34 = .ok (.aload_n 0, 1) := by decide +kernel
theorem dX6_laysAside_35 : decode cX6_laysAside 35 = .ok (.getfield 32, 3) := by decide +kernel
theorem dX6_laysAside_38 : decode cX6_laysAside 38 = .ok (.bipush 26, 2) := by decide +kernel
theorem dX6_laysAside_40 : decode cX6_laysAside 40 = .ok (.aload_n 0, 1) := by decide +kernel
theorem dX6_laysAside_41 : decode cX6_laysAside 41 = .ok (.getfield 266, 3) := by decide +kernel
theorem dX6_laysAside_44 : decode cX6_laysAside 44 = .ok (.imul, 1) := by decide +kernel
theorem dX6_laysAside_45 : decode cX6_laysAside 45 = .ok (.bipush 24, 2) := by decide +kernel
theorem dX6_laysAside_47 : decode cX6_laysAside 47 = .ok (.iadd, 1) := by decide +kernel
theorem dX6_laysAside_48 : decode cX6_laysAside 48 = .ok (.aload_n 0, 1) := by decide +kernel
theorem dX6_laysAside_49 : decode cX6_laysAside 49 = .ok (.getfield 23, 3) := by decide +kernel
theorem dX6_laysAside_52 : decode cX6_laysAside 52 = .ok (.iastore, 1) := by decide +kernel
theorem dX6_laysAside_53 : decode cX6_laysAside 53 = .ok (.aload_n 0, 1) := by decide +kernel
theorem dX6_laysAside_54 : decode cX6_laysAside 54 = .ok (.getfield 32, 3) := by decide +kernel
theorem dX6_laysAside_57 : decode cX6_laysAside 57 = .ok (.bipush 26, 2) := by decide +kernel
theorem dX6_laysAside_59 : decode cX6_laysAside 59 = .ok (.aload_n 0, 1) := by decide +kernel
theorem dX6_laysAside_60 : decode cX6_laysAside 60 = .ok (.getfield 266, 3) := by decide +kernel
theorem dX6_laysAside_63 : decode cX6_laysAside 63 = .ok (.imul, 1) := by decide +kernel
theorem dX6_laysAside_64 : decode cX6_laysAside 64 = .ok (.bipush 25, 2) := by decide +kernel
theorem dX6_laysAside_66 : decode cX6_laysAside 66 = .ok (.iadd, 1) := by decide +kernel
theorem dX6_laysAside_67 : decode cX6_laysAside 67 = .ok (.aload_n 0, 1) := by decide +kernel
theorem dX6_laysAside_68 : decode cX6_laysAside 68 = .ok (.getfield 100, 3) := by decide +kernel
theorem dX6_laysAside_71 : decode cX6_laysAside 71 = .ok (.iastore, 1) := by decide +kernel
theorem dX6_laysAside_72 : decode cX6_laysAside 72 = .ok (.aload_n 0, 1) := by decide +kernel
theorem dX6_laysAside_73 : decode cX6_laysAside 73 = .ok (.dup, 1) := by decide +kernel
theorem dX6_laysAside_74 : decode cX6_laysAside 74 = .ok (.getfield 266, 3) := by decide +kernel
theorem dX6_laysAside_77 : decode cX6_laysAside 77 = .ok (.iconst 1, 1) := by decide +kernel
theorem dX6_laysAside_78 : decode cX6_laysAside 78 = .ok (.iadd, 1) := by decide +kernel
theorem dX6_laysAside_79 : decode cX6_laysAside 79 = .ok (.putfield 266, 3) := by decide +kernel
theorem dX6_laysAside_82 : decode cX6_laysAside 82 = .ok (.return_, 1) := by decide +kernel
theorem dX6_laysBack_0 : decode cX6_laysBack 0 = .ok (.aload_n 0, 1) := by decide +kernel
theorem dX6_laysBack_1 : decode cX6_laysBack 1 = .ok (.dup, 1) := by decide +kernel
theorem dX6_laysBack_2 : decode cX6_laysBack 2 = .ok (.getfield 266, 3) := by decide +kernel
theorem dX6_laysBack_5 : decode cX6_laysBack 5 = .ok (.iconst 1, 1) := by decide +kernel
theorem dX6_laysBack_6 : decode cX6_laysBack 6 = .ok (.isub, 1) := by decide +kernel
theorem dX6_laysBack_7 : decode cX6_laysBack 7 = .ok (.putfield 266, 3) := by decide +kernel
theorem dX6_laysBack_10 : decode cX6_laysBack 10 = .ok (.iconst 0, 1) := by decide +kernel
theorem dX6_laysBack_11 : decode cX6_laysBack 11 = .ok (.istore_n 1, 1) := by decide +kernel
theorem dX6_laysBack_12 : decode cX6_laysBack 12 = .ok (.iload_n 1, 1) := by decide +kernel
theorem dX6_laysBack_13 : decode cX6_laysBack 13 = .ok (.bipush 24, 2) := by decide +kernel
theorem dX6_laysBack_15 : decode cX6_laysBack 15 = .ok (.if_icmp .ge 29, 3) := by decide +kernel
theorem dX6_laysBack_18 : decode cX6_laysBack 18 = .ok (.aload_n 0, 1) := by decide +kernel
theorem dX6_laysBack_19 : decode cX6_laysBack 19 = .ok (.getfield 29, 3) := by decide +kernel
theorem dX6_laysBack_22 : decode cX6_laysBack 22 = .ok (.iload_n 1, 1) := by decide +kernel
theorem dX6_laysBack_23 : decode cX6_laysBack 23 = .ok (.aload_n 0, 1) := by decide +kernel
theorem dX6_laysBack_24 : decode cX6_laysBack 24 = .ok (.getfield 32, 3) := by decide +kernel
theorem dX6_laysBack_27 : decode cX6_laysBack 27 = .ok (.bipush 26, 2) := by decide +kernel
theorem dX6_laysBack_29 : decode cX6_laysBack 29 = .ok (.aload_n 0, 1) := by decide +kernel
theorem dX6_laysBack_30 : decode cX6_laysBack 30 = .ok (.getfield 266, 3) := by decide +kernel
theorem dX6_laysBack_33 : decode cX6_laysBack 33 = .ok (.imul, 1) := by decide +kernel
theorem dX6_laysBack_34 : decode cX6_laysBack 34 = .ok (.iload_n 1, 1) := by decide +kernel
theorem dX6_laysBack_35 : decode cX6_laysBack 35 = .ok (.iadd, 1) := by decide +kernel
theorem dX6_laysBack_36 : decode cX6_laysBack 36 = .ok (.iaload, 1) := by decide +kernel
theorem dX6_laysBack_37 : decode cX6_laysBack 37 = .ok (.iastore, 1) := by decide +kernel
theorem dX6_laysBack_38 : decode cX6_laysBack 38 = .ok (.iinc 1 1, 3) := by decide +kernel
theorem dX6_laysBack_41 : decode cX6_laysBack 41 = .ok (.goto (-29), 3) := by decide +kernel
theorem dX6_laysBack_44 : decode cX6_laysBack 44 = .ok (.aload_n 0, 1) := by decide +kernel
theorem dX6_laysBack_45 : decode cX6_laysBack 45 = .ok (.aload_n 0, 1) := by decide +kernel
theorem dX6_laysBack_46 : decode cX6_laysBack 46 = .ok (.getfield 32, 3) := by decide +kernel
theorem dX6_laysBack_49 : decode cX6_laysBack 49 = .ok (.bipush 26, 2) := by decide +kernel
theorem dX6_laysBack_51 : decode cX6_laysBack 51 = .ok (.aload_n 0, 1) := by decide +kernel
theorem dX6_laysBack_52 : decode cX6_laysBack 52 = .ok (.getfield 266, 3) := by decide +kernel
theorem dX6_laysBack_55 : decode cX6_laysBack 55 = .ok (.imul, 1) := by decide +kernel
theorem dX6_laysBack_56 : decode cX6_laysBack 56 = .ok (.bipush 24, 2) := by decide +kernel
theorem dX6_laysBack_58 : decode cX6_laysBack 58 = .ok (.iadd, 1) := by decide +kernel
theorem dX6_laysBack_59 : decode cX6_laysBack 59 = .ok (.iaload, 1) := by decide +kernel
theorem dX6_laysBack_60 : decode cX6_laysBack 60 = .ok (.putfield 23, 3) := by decide +kernel
theorem dX6_laysBack_63 : decode cX6_laysBack 63 = .ok (.aload_n 0, 1) := by decide +kernel
theorem dX6_laysBack_64 : decode cX6_laysBack 64 = .ok (.aload_n 0, 1) := by decide +kernel
theorem dX6_laysBack_65 : decode cX6_laysBack 65 = .ok (.getfield 32, 3) := by decide +kernel
theorem dX6_laysBack_68 : decode cX6_laysBack 68 = .ok (.bipush 26, 2) := by decide +kernel
theorem dX6_laysBack_70 : decode cX6_laysBack 70 = .ok (.aload_n 0, 1) := by decide +kernel
theorem dX6_laysBack_71 : decode cX6_laysBack 71 = .ok (.getfield 266, 3) := by decide +kernel
theorem dX6_laysBack_74 : decode cX6_laysBack 74 = .ok (.imul, 1) := by decide +kernel
theorem dX6_laysBack_75 : decode cX6_laysBack 75 = .ok (.bipush 25, 2) := by decide +kernel
theorem dX6_laysBack_77 : decode cX6_laysBack 77 = .ok (.iadd, 1) := by decide +kernel
theorem dX6_laysBack_78 : decode cX6_laysBack 78 = .ok (.iaload, 1) := by decide +kernel
theorem dX6_laysBack_79 : decode cX6_laysBack 79 = .ok (.putfield 100, 3) := by decide +kernel
theorem dX6_laysBack_82 : decode cX6_laysBack 82 = .ok (.return_, 1) := by decide +kernel
theorem dX6_asks_0 : decode cX6_asks 0 = .ok (.aload_n 0, 1) := by decide +kernel
theorem dX6_asks_1 : decode cX6_asks 1 = .ok (.iload_n 1, 1) := by decide +kernel
theorem dX6_asks_2 : decode cX6_asks 2 = .ok (.iload_n 2, 1) := by decide +kernel
theorem dX6_asks_3 : decode cX6_asks 3 = .ok (.invokevirtual 269, 3) := by decide +kernel
theorem dX6_asks_6 : decode cX6_asks 6 = .ok (.ifCond .eq 15, 3) := by decide +kernel
theorem dX6_asks_9 : decode cX6_asks 9 = .ok (.iload_n 3, 1) := by decide +kernel
theorem dX6_asks_10 : decode cX6_asks 10 = .ok (.i2l, 1) := by decide +kernel
theorem dX6_asks_11 : decode cX6_asks 11 = .ok (.lconst 0, 1) := by decide +kernel
theorem dX6_asks_12 : decode cX6_asks 12 = .ok (.ldc2_w 110, 3) := by decide +kernel
theorem dX6_asks_15 : decode cX6_asks 15 = .ok (.invokestatic 64, 3) := by decide +kernel
theorem dX6_asks_18 : decode cX6_asks 18 = .ok (.ifCond .ne 7, 3) := by decide +kernel
theorem dX6_asks_21 : decode cX6_asks 21 = .ok (.sipush (-1000), 3) := by decide +kernel
theorem dX6_asks_24 : decode cX6_asks 24 = .ok (.ireturn, 1) := by decide +kernel
theorem dX6_asks_25 : decode cX6_asks 25 = .ok (.iload_n 3, 1) := by decide +kernel
theorem dX6_asks_26 : decode cX6_asks 26 = .ok (.iconst 2, 1) := by decide +kernel
theorem dX6_asks_27 : decode cX6_asks 27 = .ok (.if_icmp .ge 23, 3) := by decide +kernel
theorem dX6_asks_30 : decode cX6_asks 30 = .ok (.iload_n 3, 1) := by decide +kernel
theorem dX6_asks_31 : decode cX6_asks 31 = .ok (.ifCond .ne 12, 3) := by decide +kernel
theorem dX6_asks_34 : decode cX6_asks 34 = .ok (.aload_n 0, 1) := by decide +kernel
theorem dX6_asks_35 : decode cX6_asks 35 = .ok (.iload_n 1, 1) := by decide +kernel
theorem dX6_asks_36 : decode cX6_asks 36 = .ok (.iload_n 2, 1) := by decide +kernel
theorem dX6_asks_37 : decode cX6_asks 37 = .ok (.invokevirtual 256, 3) := by decide +kernel
theorem dX6_asks_40 : decode cX6_asks 40 = .ok (.goto 9, 3) := by decide +kernel
theorem dX6_asks_43 : decode cX6_asks 43 = .ok (.aload_n 0, 1) := by decide +kernel
theorem dX6_asks_44 : decode cX6_asks 44 = .ok (.iload_n 2, 1) := by decide +kernel
theorem dX6_asks_45 : decode cX6_asks 45 = .ok (.iload_n 1, 1) := by decide +kernel
theorem dX6_asks_46 : decode cX6_asks 46 = .ok (.invokevirtual 256, 3) := by decide +kernel
theorem dX6_asks_49 : decode cX6_asks 49 = .ok (.ireturn, 1) := by decide +kernel
theorem dX6_asks_50 : decode cX6_asks 50 = .ok (.iload_n 3, 1) := by decide +kernel
theorem dX6_asks_51 : decode cX6_asks 51 = .ok (.iconst 5, 1) := by decide +kernel
theorem dX6_asks_52 : decode cX6_asks 52 = .ok (.if_icmp .ge 34, 3) := by decide +kernel
theorem dX6_asks_55 : decode cX6_asks 55 = .ok (.iload_n 3, 1) := by decide +kernel
theorem dX6_asks_56 : decode cX6_asks 56 = .ok (.iconst 4, 1) := by decide +kernel
theorem dX6_asks_57 : decode cX6_asks 57 = .ok (.if_icmp .ne 12, 3) := by decide +kernel
theorem dX6_asks_60 : decode cX6_asks 60 = .ok (.aload_n 0, 1) := by decide +kernel
theorem dX6_asks_61 : decode cX6_asks 61 = .ok (.iload_n 1, 1) := by decide +kernel
theorem dX6_asks_62 : decode cX6_asks 62 = .ok (.iload_n 2, 1) := by decide +kernel
theorem dX6_asks_63 : decode cX6_asks 63 = .ok (.invokevirtual 259, 3) := by decide +kernel
theorem dX6_asks_66 : decode cX6_asks 66 = .ok (.goto 19, 3) := by decide +kernel
theorem dX6_asks_69 : decode cX6_asks 69 = .ok (.aload_n 0, 1) := by decide +kernel
theorem dX6_asks_70 : decode cX6_asks 70 = .ok (.iload_n 1, 1) := by decide +kernel
theorem dX6_asks_71 : decode cX6_asks 71 = .ok (.iload_n 2, 1) := by decide +kernel
theorem dX6_asks_72 : decode cX6_asks 72 = .ok (.iload_n 3, 1) := by decide +kernel
theorem dX6_asks_73 : decode cX6_asks 73 = .ok (.iconst 2, 1) := by decide +kernel
theorem dX6_asks_74 : decode cX6_asks 74 = .ok (.if_icmp .ne 7, 3) := by decide +kernel
theorem dX6_asks_77 : decode cX6_asks 77 = .ok (.iconst 1, 1) := by decide +kernel
theorem dX6_asks_78 : decode cX6_asks 78 = .ok (.goto 4, 3) := by decide +kernel
theorem dX6_asks_81 : decode cX6_asks 81 = .ok (.iconst 0, 1) := by decide +kernel
theorem dX6_asks_82 : decode cX6_asks 82 = .ok (.invokevirtual 262, 3) := by decide +kernel
theorem dX6_asks_85 : decode cX6_asks 85 = .ok (.ireturn, 1) := by decide +kernel
theorem dX6_asks_86 : decode cX6_asks 86 = .ok (.aload_n 0, 1) := by decide +kernel
theorem dX6_asks_87 : decode cX6_asks 87 = .ok (.iload_n 1, 1) := by decide +kernel
theorem dX6_asks_88 : decode cX6_asks 88 = .ok (.iload_n 2, 1) := by decide +kernel
theorem dX6_asks_89 : decode cX6_asks 89 = .ok (.invokevirtual 272, 3) := by decide +kernel
theorem dX6_asks_92 : decode cX6_asks 92 = .ok (.ireturn, 1) := by decide +kernel
theorem dX6_hasBehind_0 : decode cX6_hasBehind 0 = .ok (.aload_n 0, 1) := by decide +kernel
theorem dX6_hasBehind_1 : decode cX6_hasBehind 1 = .ok (.invokevirtual 275, 3) := by decide +kernel
theorem dX6_hasBehind_4 : decode cX6_hasBehind 4 = .ok (.aload_n 0, 1) := by decide +kernel
theorem dX6_hasBehind_5 : decode cX6_hasBehind 5 = .ok (.iload_n 1, 1) := by decide +kernel
theorem dX6_hasBehind_6 : decode cX6_hasBehind 6 = .ok (.iload_n 2, 1) := by decide +kernel
theorem dX6_hasBehind_7 : decode cX6_hasBehind 7 = .ok (.invokevirtual 278, 3) := by decide +kernel
theorem dX6_hasBehind_10 : decode cX6_hasBehind 10 = .ok (.pop, 1) := by decide +kernel
theorem dX6_hasBehind_11 : decode cX6_hasBehind 11 = .ok (.aload_n 0, 1) := by decide +kernel
theorem dX6_hasBehind_12 : decode cX6_hasBehind 12 = .ok (.iload_n 1, 1) := by decide +kernel
theorem dX6_hasBehind_13 : decode cX6_hasBehind 13 = .ok (.invokevirtual 122, 3) := by decide +kernel
theorem dX6_hasBehind_16 : decode cX6_hasBehind 16 = .ok (.istore_n 3, 1) := by decide +kernel
theorem dX6_hasBehind_17 : decode cX6_hasBehind 17 = .ok (.aload_n 0, 1) := by decide +kernel
theorem dX6_hasBehind_18 : decode cX6_hasBehind 18 = .ok (.invokevirtual 281, 3) := by decide +kernel
theorem dX6_hasBehind_21 : decode cX6_hasBehind 21 = .ok (.iload_n 3, 1) := by decide +kernel
theorem dX6_hasBehind_22 : decode cX6_hasBehind 22 = .ok (.ireturn, 1) := by decide +kernel
theorem dX6_game_0 : decode cX6_game 0 = .ok (.aload_n 0, 1) := by decide +kernel
theorem dX6_game_1 : decode cX6_game 1 = .ok (.iload_n 1, 1) := by decide +kernel
theorem dX6_game_2 : decode cX6_game 2 = .ok (.iload_n 2, 1) := by decide +kernel
theorem dX6_game_3 : decode cX6_game 3 = .ok (.invokevirtual 269, 3) := by decide +kernel
theorem dX6_game_6 : decode cX6_game 6 = .ok (.ifCond .ne 6, 3) := by decide +kernel
theorem dX6_game_9 : decode cX6_game 9 = .ok (.bipush (-2), 2) := by decide +kernel
theorem dX6_game_11 : decode cX6_game 11 = .ok (.ireturn, 1) := by decide +kernel
theorem dX6_game_12 : decode cX6_game 12 = .ok (.aload_n 0, 1) := by decide +kernel
theorem dX6_game_13 : decode cX6_game 13 = .ok (.getfield 100, 3) := by decide +kernel
theorem dX6_game_16 : decode cX6_game 16 = .ok (.sipush 999, 3) := by decide +kernel
theorem dX6_game_19 : decode cX6_game 19 = .ok (.if_icmp .ne 8, 3) := by decide +kernel
theorem dX6_game_22 : decode cX6_game 22 = .ok (.bipush (-3), 2) := by decide +kernel
theorem dX6_game_24 : decode cX6_game 24 = .ok (.goto 9, 3) := by decide +kernel
theorem dX6_game_27 : decode cX6_game 27 = .ok (.aload_n 0, 1) := by decide +kernel
theorem dX6_game_28 : decode cX6_game 28 = .ok (.iload_n 1, 1) := by decide +kernel
theorem dX6_game_29 : decode cX6_game 29 = .ok (.iload_n 2, 1) := by decide +kernel
theorem dX6_game_30 : decode cX6_game 30 = .ok (.invokevirtual 278, 3) := by decide +kernel
theorem dX6_game_33 : decode cX6_game 33 = .ok (.ireturn, 1) := by decide +kernel
theorem dX6_eveningBad_0 : decode cX6_eveningBad 0 = .ok (.aload_n 0, 1) := by decide +kernel
theorem dX6_eveningBad_1 : decode cX6_eveningBad 1 = .ok (.getfield 41, 3) := by decide +kernel
theorem dX6_eveningBad_4 : decode cX6_eveningBad 4 = .ok (.iload_n 1, 1) := by decide +kernel
theorem dX6_eveningBad_5 : decode cX6_eveningBad 5 = .ok (.baload, 1) := by decide +kernel
theorem dX6_eveningBad_6 : decode cX6_eveningBad 6 = .ok (.ifCond .ne 6, 3) := by decide +kernel
theorem dX6_eveningBad_9 : decode cX6_eveningBad 9 = .ok (.bipush (-11), 2) := by decide +kernel
theorem dX6_eveningBad_11 : decode cX6_eveningBad 11 = .ok (.ireturn, 1) := by decide +kernel
theorem dX6_eveningBad_12 : decode cX6_eveningBad 12 = .ok (.iconst 0, 1) := by decide +kernel
theorem dX6_eveningBad_13 : decode cX6_eveningBad 13 = .ok (.istore_n 2, 1) := by decide +kernel
theorem dX6_eveningBad_14 : decode cX6_eveningBad 14 = .ok (.iload_n 2, 1) := by decide +kernel
theorem dX6_eveningBad_15 : decode cX6_eveningBad 15 = .ok (.aload_n 0, 1) := by decide +kernel
theorem dX6_eveningBad_16 : decode cX6_eveningBad 16 = .ok (.getfield 48, 3) := by decide +kernel
theorem dX6_eveningBad_19 : decode cX6_eveningBad 19 = .ok (.iload_n 1, 1) := by decide +kernel
theorem dX6_eveningBad_20 : decode cX6_eveningBad 20 = .ok (.iaload, 1) := by decide +kernel
theorem dX6_eveningBad_21 : decode cX6_eveningBad 21 = .ok (.if_icmp .ge 51, 3) := by decide +kernel
theorem dX6_eveningBad_24 : decode cX6_eveningBad 24 = .ok (.aload_n 0, 1) := by decide +kernel
theorem dX6_eveningBad_25 : decode cX6_eveningBad 25 = .ok (.getfield 51, 3) := by decide +kernel
theorem dX6_eveningBad_28 : decode cX6_eveningBad 28 = .ok (.bipush 40, 2) := by decide +kernel
theorem dX6_eveningBad_30 : decode cX6_eveningBad 30 = .ok (.iload_n 1, 1) := by decide +kernel
theorem dX6_eveningBad_31 : decode cX6_eveningBad 31 = .ok (.imul, 1) := by decide +kernel
theorem dX6_eveningBad_32 : decode cX6_eveningBad 32 = .ok (.iload_n 2, 1) := by decide +kernel
theorem dX6_eveningBad_33 : decode cX6_eveningBad 33 = .ok (.iadd, 1) := by decide +kernel
theorem dX6_eveningBad_34 : decode cX6_eveningBad 34 = .ok (.iaload, 1) := by decide +kernel
theorem dX6_eveningBad_35 : decode cX6_eveningBad 35 = .ok (.istore_n 3, 1) := by decide +kernel
theorem dX6_eveningBad_36 : decode cX6_eveningBad 36 = .ok (.iload_n 3, 1) := by decide +kernel
theorem dX6_eveningBad_37 : decode cX6_eveningBad 37 = .ok (.i2l, 1) := by decide +kernel
theorem dX6_eveningBad_38 : decode cX6_eveningBad 38 = .ok (.lconst 0, 1) := by decide +kernel
theorem dX6_eveningBad_39 : decode cX6_eveningBad 39 = .ok (.ldc2_w 284, 3) := by decide +kernel
theorem dX6_eveningBad_42 : decode cX6_eveningBad 42 = .ok (.invokestatic 64, 3) := by decide +kernel
theorem dX6_eveningBad_45 : decode cX6_eveningBad 45 = .ok (.ifCond .eq 18, 3) := by decide +kernel
theorem dX6_eveningBad_48 : decode cX6_eveningBad 48 = .ok (.aload_n 0, 1) := by decide +kernel
theorem dX6_eveningBad_49 : decode cX6_eveningBad 49 = .ok (.iload_n 3, 1) := by decide +kernel
theorem dX6_eveningBad_50 : decode cX6_eveningBad 50 = .ok (.bipush 10, 2) := by decide +kernel
theorem dX6_eveningBad_52 : decode cX6_eveningBad 52 = .ok (.idiv, 1) := by decide +kernel
theorem dX6_eveningBad_53 : decode cX6_eveningBad 53 = .ok (.iload_n 3, 1) := by decide +kernel
theorem dX6_eveningBad_54 : decode cX6_eveningBad 54 = .ok (.bipush 10, 2) := by decide +kernel
theorem dX6_eveningBad_56 : decode cX6_eveningBad 56 = .ok (.irem, 1) := by decide +kernel
theorem dX6_eveningBad_57 : decode cX6_eveningBad 57 = .ok (.invokevirtual 269, 3) := by decide +kernel
theorem dX6_eveningBad_60 : decode cX6_eveningBad 60 = .ok (.ifCond .ne 6, 3) := by decide +kernel
theorem dX6_eveningBad_63 : decode cX6_eveningBad 63 = .ok (.bipush (-2), 2) := by decide +kernel
theorem dX6_eveningBad_65 : decode cX6_eveningBad 65 = .ok (.ireturn, 1) := by decide +kernel
theorem dX6_eveningBad_66 : decode cX6_eveningBad 66 = .ok (.iinc 2 1, 3) := by decide +kernel
theorem dX6_eveningBad_69 : decode cX6_eveningBad 69 = .ok (.goto (-55), 3) := by decide +kernel
theorem dX6_eveningBad_72 : decode cX6_eveningBad 72 = .ok (.iconst 0, 1) := by decide +kernel
theorem dX6_eveningBad_73 : decode cX6_eveningBad 73 = .ok (.ireturn, 1) := by decide +kernel
theorem dX6_goes_0 : decode cX6_goes 0 = .ok (.iconst 0, 1) := by decide +kernel
theorem dX6_goes_1 : decode cX6_goes 1 = .ok (.istore_n 2, 1) := by decide +kernel
theorem dX6_goes_2 : decode cX6_goes 2 = .ok (.iconst 0, 1) := by decide +kernel
theorem dX6_goes_3 : decode cX6_goes 3 = .ok (.istore_n 3, 1) := by decide +kernel
theorem dX6_goes_4 : decode cX6_goes 4 = .ok (.iload_n 3, 1) := by decide +kernel
theorem dX6_goes_5 : decode cX6_goes 5 = .ok (.aload_n 0, 1) := by decide +kernel
theorem dX6_goes_6 : decode cX6_goes 6 = .ok (.getfield 48, 3) := by decide +kernel
theorem dX6_goes_9 : decode cX6_goes 9 = .ok (.iload_n 1, 1) := by decide +kernel
theorem dX6_goes_10 : decode cX6_goes 10 = .ok (.iaload, 1) := by decide +kernel
theorem dX6_goes_11 : decode cX6_goes 11 = .ok (.if_icmp .ge 48, 3) := by decide +kernel
theorem dX6_goes_14 : decode cX6_goes 14 = .ok (.aload_n 0, 1) := by decide +kernel
theorem dX6_goes_15 : decode cX6_goes 15 = .ok (.getfield 51, 3) := by decide +kernel
theorem dX6_goes_18 : decode cX6_goes 18 = .ok (.bipush 40, 2) := by decide +kernel
theorem dX6_goes_20 : decode cX6_goes 20 = .ok (.iload_n 1, 1) := by decide +kernel
theorem dX6_goes_21 : decode cX6_goes 21 = .ok (.imul, 1) := by decide +kernel
theorem dX6_goes_22 : decode cX6_goes 22 = .ok (.iload_n 3, 1) := by decide +kernel
theorem dX6_goes_23 : decode cX6_goes 23 = .ok (.iadd, 1) := by decide +kernel
theorem dX6_goes_24 : decode cX6_goes 24 = .ok (.iaload, 1) := by decide +kernel
theorem dX6_goes_25 : decode cX6_goes 25 = .ok (.istore 4, 2) := by decide +kernel
theorem dX6_goes_27 : decode cX6_goes 27 = .ok (.iload_n 2, 1) := by decide +kernel
theorem dX6_goes_28 : decode cX6_goes 28 = .ok (.aload_n 0, 1) := by decide +kernel
theorem dX6_goes_29 : decode cX6_goes 29 = .ok (.iload 4, 2) := by decide +kernel
theorem dX6_goes_31 : decode cX6_goes 31 = .ok (.bipush 10, 2) := by decide +kernel
theorem dX6_goes_33 : decode cX6_goes 33 = .ok (.idiv, 1) := by decide +kernel
theorem dX6_goes_34 : decode cX6_goes 34 = .ok (.iload 4, 2) := by decide +kernel
theorem dX6_goes_36 : decode cX6_goes 36 = .ok (.bipush 10, 2) := by decide +kernel
theorem dX6_goes_38 : decode cX6_goes 38 = .ok (.irem, 1) := by decide +kernel
theorem dX6_goes_39 : decode cX6_goes 39 = .ok (.invokevirtual 278, 3) := by decide +kernel
theorem dX6_goes_42 : decode cX6_goes 42 = .ok (.iconst (-1), 1) := by decide +kernel
theorem dX6_goes_43 : decode cX6_goes 43 = .ok (.if_icmp .ne 7, 3) := by decide +kernel
theorem dX6_goes_46 : decode cX6_goes 46 = .ok (.iconst 1, 1) := by decide +kernel
theorem dX6_goes_47 : decode cX6_goes 47 = .ok (.goto 4, 3) := by decide +kernel
theorem dX6_goes_50 : decode cX6_goes 50 = .ok (.iconst 0, 1) := by decide +kernel
theorem dX6_goes_51 : decode cX6_goes 51 = .ok (.iadd, 1) := by decide +kernel
theorem dX6_goes_52 : decode cX6_goes 52 = .ok (.istore_n 2, 1) := by decide +kernel
theorem dX6_goes_53 : decode cX6_goes 53 = .ok (.iinc 3 1, 3) := by decide +kernel
theorem dX6_goes_56 : decode cX6_goes 56 = .ok (.goto (-52), 3) := by decide +kernel
theorem dX6_goes_59 : decode cX6_goes 59 = .ok (.iload_n 2, 1) := by decide +kernel
theorem dX6_goes_60 : decode cX6_goes 60 = .ok (.ireturn, 1) := by decide +kernel
theorem dX6_richest_0 : decode cX6_richest 0 = .ok (.iconst (-1), 1) := by decide +kernel
theorem dX6_richest_1 : decode cX6_richest 1 = .ok (.istore_n 1, 1) := by decide +kernel
theorem dX6_richest_2 : decode cX6_richest 2 = .ok (.iconst 0, 1) := by decide +kernel
theorem dX6_richest_3 : decode cX6_richest 3 = .ok (.istore_n 2, 1) := by decide +kernel
theorem dX6_richest_4 : decode cX6_richest 4 = .ok (.iload_n 2, 1) := by decide +kernel
theorem dX6_richest_5 : decode cX6_richest 5 = .ok (.aload_n 0, 1) := by decide +kernel
theorem dX6_richest_6 : decode cX6_richest 6 = .ok (.getfield 61, 3) := by decide +kernel
theorem dX6_richest_9 : decode cX6_richest 9 = .ok (.if_icmp .ge 37, 3) := by decide +kernel
theorem dX6_richest_12 : decode cX6_richest 12 = .ok (.aload_n 0, 1) := by decide +kernel
theorem dX6_richest_13 : decode cX6_richest 13 = .ok (.iload_n 2, 1) := by decide +kernel
theorem dX6_richest_14 : decode cX6_richest 14 = .ok (.invokevirtual 112, 3) := by decide +kernel
theorem dX6_richest_17 : decode cX6_richest 17 = .ok (.ifCond .eq 23, 3) := by decide +kernel
theorem dX6_richest_20 : decode cX6_richest 20 = .ok (.iload_n 1, 1) := by decide +kernel
theorem dX6_richest_21 : decode cX6_richest 21 = .ok (.iconst (-1), 1) := by decide +kernel
theorem dX6_richest_22 : decode cX6_richest 22 = .ok (.if_icmp .eq 16, 3) := by decide +kernel
theorem dX6_richest_25 : decode cX6_richest 25 = .ok (.aload_n 0, 1) := by decide +kernel
theorem dX6_richest_26 : decode cX6_richest 26 = .ok (.iload_n 2, 1) := by decide +kernel
theorem dX6_richest_27 : decode cX6_richest 27 = .ok (.invokevirtual 122, 3) := by decide +kernel
theorem dX6_richest_30 : decode cX6_richest 30 = .ok (.aload_n 0, 1) := by decide +kernel
theorem dX6_richest_31 : decode cX6_richest 31 = .ok (.iload_n 1, 1) := by decide +kernel
theorem dX6_richest_32 : decode cX6_richest 32 = .ok (.invokevirtual 122, 3) := by decide +kernel
theorem dX6_richest_35 : decode cX6_richest 35 = .ok (.if_icmp .le 5, 3) := by decide +kernel
theorem dX6_richest_38 : decode cX6_richest 38 = .ok (.iload_n 2, 1) := by decide +kernel
theorem dX6_richest_39 : decode cX6_richest 39 = .ok (.istore_n 1, 1) := by decide +kernel
theorem dX6_richest_40 : decode cX6_richest 40 = .ok (.iinc 2 1, 3) := by decide +kernel
theorem dX6_richest_43 : decode cX6_richest 43 = .ok (.goto (-39), 3) := by decide +kernel
theorem dX6_richest_46 : decode cX6_richest 46 = .ok (.iload_n 1, 1) := by decide +kernel
theorem dX6_richest_47 : decode cX6_richest 47 = .ok (.ireturn, 1) := by decide +kernel
theorem dX6_evening_0 : decode cX6_evening 0 = .ok (.iload_n 1, 1) := by decide +kernel
theorem dX6_evening_1 : decode cX6_evening 1 = .ok (.invokestatic 286, 3) := by decide +kernel
theorem dX6_evening_4 : decode cX6_evening 4 = .ok (.ifCond .eq 29, 3) := by decide +kernel
theorem dX6_evening_7 : decode cX6_evening 7 = .ok (.iload_n 2, 1) := by decide +kernel
theorem dX6_evening_8 : decode cX6_evening 8 = .ok (.i2l, 1) := by decide +kernel
theorem dX6_evening_9 : decode cX6_evening 9 = .ok (.lconst 0, 1) := by decide +kernel
theorem dX6_evening_10 : decode cX6_evening 10 = .ok (.ldc2_w 289, 3) := by decide +kernel
theorem dX6_evening_13 : decode cX6_evening 13 = .ok (.invokestatic 64, 3) := by decide +kernel
theorem dX6_evening_16 : decode cX6_evening 16 = .ok (.ifCond .eq 17, 3) := by decide +kernel
theorem dX6_evening_19 : decode cX6_evening 19 = .ok (.iload_n 2, 1) := by decide +kernel
theorem dX6_evening_20 : decode cX6_evening 20 = .ok (.bipush 6, 2) := by decide +kernel
theorem dX6_evening_22 : decode cX6_evening 22 = .ok (.if_icmp .ge 14, 3) := by decide +kernel
theorem dX6_evening_25 : decode cX6_evening 25 = .ok (.aload_n 0, 1) := by decide +kernel
theorem dX6_evening_26 : decode cX6_evening 26 = .ok (.iload_n 2, 1) := by decide +kernel
theorem dX6_evening_27 : decode cX6_evening 27 = .ok (.invokevirtual 68, 3) := by decide +kernel
theorem dX6_evening_30 : decode cX6_evening 30 = .ok (.ifCond .ne 6, 3) := by decide +kernel
theorem dX6_evening_33 : decode cX6_evening 33 = .ok (.bipush (-2), 2) := by decide +kernel
theorem dX6_evening_35 : decode cX6_evening 35 = .ok (.ireturn, 1) := by decide +kernel
theorem dX6_evening_36 : decode cX6_evening 36 = .ok (.aload_n 0, 1) := by decide +kernel
theorem dX6_evening_37 : decode cX6_evening 37 = .ok (.iload_n 1, 1) := by decide +kernel
theorem dX6_evening_38 : decode cX6_evening 38 = .ok (.invokevirtual 291, 3) := by decide +kernel
theorem dX6_evening_41 : decode cX6_evening 41 = .ok (.istore_n 3, 1) := by decide +kernel
theorem dX6_evening_42 : decode cX6_evening 42 = .ok (.iload_n 3, 1) := by decide +kernel
theorem dX6_evening_43 : decode cX6_evening 43 = .ok (.ifCond .eq 5, 3) := by decide +kernel
theorem dX6_evening_46 : decode cX6_evening 46 = .ok (.iload_n 3, 1) := by decide +kernel
theorem dX6_evening_47 : decode cX6_evening 47 = .ok (.ireturn, 1) := by decide +kernel
theorem dX6_evening_48 : decode cX6_evening 48 = .ok (.aload_n 0, 1) := by decide +kernel
theorem dX6_evening_49 : decode cX6_evening 49 = .ok (.invokevirtual 275, 3) := by decide +kernel
theorem dX6_evening_52 : decode cX6_evening 52 = .ok (.aload_n 0, 1) := by decide +kernel
theorem dX6_evening_53 : decode cX6_evening 53 = .ok (.iload_n 1, 1) := by decide +kernel
theorem dX6_evening_54 : decode cX6_evening 54 = .ok (.invokevirtual 294, 3) := by decide +kernel
theorem dX6_evening_57 : decode cX6_evening 57 = .ok (.istore 4, 2) := by decide +kernel
theorem dX6_evening_59 : decode cX6_evening 59 = .ok (.iload_n 2, 1) := by decide +kernel
theorem dX6_evening_60 : decode cX6_evening 60 = .ok (.bipush 6, 2) := by decide +kernel
theorem dX6_evening_62 : decode cX6_evening 62 = .ok (.if_icmp .ge 11, 3) := by decide +kernel
theorem dX6_evening_65 : decode cX6_evening 65 = .ok (.aload_n 0, 1) := by decide +kernel
theorem dX6_evening_66 : decode cX6_evening 66 = .ok (.iload_n 2, 1) := by decide +kernel
theorem dX6_evening_67 : decode cX6_evening 67 = .ok (.invokevirtual 122, 3) := by decide +kernel
theorem dX6_evening_70 : decode cX6_evening 70 = .ok (.goto 34, 3) := by decide +kernel
theorem dX6_evening_73 : decode cX6_evening 73 = .ok (.iload_n 2, 1) := by decide +kernel
theorem dX6_evening_74 : decode cX6_evening 74 = .ok (.bipush 6, 2) := by decide +kernel
theorem dX6_evening_76 : decode cX6_evening 76 = .ok (.if_icmp .ne 13, 3) := by decide +kernel
theorem dX6_evening_79 : decode cX6_evening 79 = .ok (.aload_n 0, 1) := by decide +kernel
theorem dX6_evening_80 : decode cX6_evening 80 = .ok (.getfield 23, 3) := by decide +kernel
theorem dX6_evening_83 : decode cX6_evening 83 = .ok (.invokestatic 116, 3) := by decide +kernel
theorem dX6_evening_86 : decode cX6_evening 86 = .ok (.goto 18, 3) := by decide +kernel
theorem dX6_evening_89 : decode cX6_evening 89 = .ok (.iload_n 2, 1) := by decide +kernel
theorem dX6_evening_90 : decode cX6_evening 90 = .ok (.bipush 7, 2) := by decide +kernel
theorem dX6_evening_92 : decode cX6_evening 92 = .ok (.if_icmp .ne 8, 3) := by decide +kernel
theorem dX6_evening_95 : decode cX6_evening 95 = .ok (.iload 4, 2) := by decide +kernel
theorem dX6_evening_97 : decode cX6_evening 97 = .ok (.goto 7, 3) := by decide +kernel
theorem dX6_evening_100 : decode cX6_evening 100 = .ok (.aload_n 0, 1) := by decide +kernel
theorem dX6_evening_101 : decode cX6_evening 101 = .ok (.invokevirtual 297, 3) := by decide +kernel
theorem dX6_evening_104 : decode cX6_evening 104 = .ok (.istore 5, 2) := by decide +kernel
theorem dX6_evening_106 : decode cX6_evening 106 = .ok (.aload_n 0, 1) := by decide +kernel
theorem dX6_evening_107 : decode cX6_evening 107 = .ok (.invokevirtual 281, 3) := by decide +kernel
theorem dX6_evening_110 : decode cX6_evening 110 = .ok (.iload 5, 2) := by decide +kernel
theorem dX6_evening_112 : decode cX6_evening 112 = .ok (.ireturn, 1) := by decide +kernel
theorem dX6_play_0 : decode cX6_play 0 = .ok (.iload_n 1, 1) := by decide +kernel
theorem dX6_play_1 : decode cX6_play 1 = .ok (.invokestatic 286, 3) := by decide +kernel
theorem dX6_play_4 : decode cX6_play 4 = .ok (.ifCond .ne 6, 3) := by decide +kernel
theorem dX6_play_7 : decode cX6_play 7 = .ok (.bipush (-2), 2) := by decide +kernel
theorem dX6_play_9 : decode cX6_play 9 = .ok (.ireturn, 1) := by decide +kernel
theorem dX6_play_10 : decode cX6_play 10 = .ok (.aload_n 0, 1) := by decide +kernel
theorem dX6_play_11 : decode cX6_play 11 = .ok (.iload_n 1, 1) := by decide +kernel
theorem dX6_play_12 : decode cX6_play 12 = .ok (.invokevirtual 291, 3) := by decide +kernel
theorem dX6_play_15 : decode cX6_play 15 = .ok (.istore_n 2, 1) := by decide +kernel
theorem dX6_play_16 : decode cX6_play 16 = .ok (.iload_n 2, 1) := by decide +kernel
theorem dX6_play_17 : decode cX6_play 17 = .ok (.ifCond .eq 5, 3) := by decide +kernel
theorem dX6_play_20 : decode cX6_play 20 = .ok (.iload_n 2, 1) := by decide +kernel
theorem dX6_play_21 : decode cX6_play 21 = .ok (.ireturn, 1) := by decide +kernel
theorem dX6_play_22 : decode cX6_play 22 = .ok (.aload_n 0, 1) := by decide +kernel
theorem dX6_play_23 : decode cX6_play 23 = .ok (.getfield 100, 3) := by decide +kernel
theorem dX6_play_26 : decode cX6_play 26 = .ok (.aload_n 0, 1) := by decide +kernel
theorem dX6_play_27 : decode cX6_play 27 = .ok (.getfield 48, 3) := by decide +kernel
theorem dX6_play_30 : decode cX6_play 30 = .ok (.iload_n 1, 1) := by decide +kernel
theorem dX6_play_31 : decode cX6_play 31 = .ok (.iaload, 1) := by decide +kernel
theorem dX6_play_32 : decode cX6_play 32 = .ok (.iadd, 1) := by decide +kernel
theorem dX6_play_33 : decode cX6_play 33 = .ok (.sipush 999, 3) := by decide +kernel
theorem dX6_play_36 : decode cX6_play 36 = .ok (.if_icmp .le 8, 3) := by decide +kernel
theorem dX6_play_39 : decode cX6_play 39 = .ok (.bipush (-3), 2) := by decide +kernel
theorem dX6_play_41 : decode cX6_play 41 = .ok (.goto 8, 3) := by decide +kernel
theorem dX6_play_44 : decode cX6_play 44 = .ok (.aload_n 0, 1) := by decide +kernel
theorem dX6_play_45 : decode cX6_play 45 = .ok (.iload_n 1, 1) := by decide +kernel
theorem dX6_play_46 : decode cX6_play 46 = .ok (.invokevirtual 294, 3) := by decide +kernel
theorem dX6_play_49 : decode cX6_play 49 = .ok (.ireturn, 1) := by decide +kernel
theorem dX6_robins_0 : decode cX6_robins 0 = .ok (.iconst 0, 1) := by decide +kernel
theorem dX6_robins_1 : decode cX6_robins 1 = .ok (.istore_n 2, 1) := by decide +kernel
theorem dX6_robins_2 : decode cX6_robins 2 = .ok (.iload_n 2, 1) := by decide +kernel
theorem dX6_robins_3 : decode cX6_robins 3 = .ok (.aload_n 0, 1) := by decide +kernel
theorem dX6_robins_4 : decode cX6_robins 4 = .ok (.getfield 61, 3) := by decide +kernel
theorem dX6_robins_7 : decode cX6_robins 7 = .ok (.if_icmp .ge 44, 3) := by decide +kernel
theorem dX6_robins_10 : decode cX6_robins 10 = .ok (.iload_n 2, 1) := by decide +kernel
theorem dX6_robins_11 : decode cX6_robins 11 = .ok (.iconst 1, 1) := by decide +kernel
theorem dX6_robins_12 : decode cX6_robins 12 = .ok (.iadd, 1) := by decide +kernel
theorem dX6_robins_13 : decode cX6_robins 13 = .ok (.istore_n 3, 1) := by decide +kernel
theorem dX6_robins_14 : decode cX6_robins 14 = .ok (.iload_n 3, 1) := by decide +kernel
theorem dX6_robins_15 : decode cX6_robins 15 = .ok (.aload_n 0, 1) := by decide +kernel
theorem dX6_robins_16 : decode cX6_robins 16 = .ok (.getfield 61, 3) := by decide +kernel
theorem dX6_robins_19 : decode cX6_robins 19 = .ok (.if_icmp .ge 26, 3) := by decide +kernel
theorem dX6_robins_22 : decode cX6_robins 22 = .ok (.bipush 10, 2) := by decide +kernel
theorem dX6_robins_24 : decode cX6_robins 24 = .ok (.iload_n 2, 1) := by decide +kernel
theorem dX6_robins_25 : decode cX6_robins 25 = .ok (.imul, 1) := by decide +kernel
theorem dX6_robins_26 : decode cX6_robins 26 = .ok (.iload_n 3, 1) := by decide +kernel
theorem dX6_robins_27 : decode cX6_robins 27 = .ok (.iadd, 1) := by decide +kernel
theorem dX6_robins_28 : decode cX6_robins 28 = .ok (.iload_n 1, 1) := by decide +kernel
theorem dX6_robins_29 : decode cX6_robins 29 = .ok (.if_icmp .eq 10, 3) := by decide +kernel
theorem dX6_robins_32 : decode cX6_robins 32 = .ok (.aload_n 0, 1) := by decide +kernel
theorem dX6_robins_33 : decode cX6_robins 33 = .ok (.iload_n 2, 1) := by decide +kernel
theorem dX6_robins_34 : decode cX6_robins 34 = .ok (.iload_n 3, 1) := by decide +kernel
theorem dX6_robins_35 : decode cX6_robins 35 = .ok (.invokevirtual 278, 3) := by decide +kernel
theorem dX6_robins_38 : decode cX6_robins 38 = .ok (.pop, 1) := by decide +kernel
theorem dX6_robins_39 : decode cX6_robins 39 = .ok (.iinc 3 1, 3) := by decide +kernel
theorem dX6_robins_42 : decode cX6_robins 42 = .ok (.goto (-28), 3) := by decide +kernel
theorem dX6_robins_45 : decode cX6_robins 45 = .ok (.iinc 2 1, 3) := by decide +kernel
theorem dX6_robins_48 : decode cX6_robins 48 = .ok (.goto (-46), 3) := by decide +kernel
theorem dX6_robins_51 : decode cX6_robins 51 = .ok (.return_, 1) := by decide +kernel
theorem dX6_hallBehind_0 : decode cX6_hallBehind 0 = .ok (.aload_n 0, 1) := by decide +kernel
theorem dX6_hallBehind_1 : decode cX6_hallBehind 1 = .ok (.invokevirtual 275, 3) := by decide +kernel
theorem dX6_hallBehind_4 : decode cX6_hallBehind 4 = .ok (.aload_n 0, 1) := by decide +kernel
theorem dX6_hallBehind_5 : decode cX6_hallBehind 5 = .ok (.iload_n 1, 1) := by decide +kernel
theorem dX6_hallBehind_6 : decode cX6_hallBehind 6 = .ok (.invokevirtual 300, 3) := by decide +kernel
theorem dX6_hallBehind_9 : decode cX6_hallBehind 9 = .ok (.aload_n 0, 1) := by decide +kernel
theorem dX6_hallBehind_10 : decode cX6_hallBehind 10 = .ok (.getfield 23, 3) := by decide +kernel
theorem dX6_hallBehind_13 : decode cX6_hallBehind 13 = .ok (.invokestatic 116, 3) := by decide +kernel
theorem dX6_hallBehind_16 : decode cX6_hallBehind 16 = .ok (.istore_n 2, 1) := by decide +kernel
theorem dX6_hallBehind_17 : decode cX6_hallBehind 17 = .ok (.aload_n 0, 1) := by decide +kernel
theorem dX6_hallBehind_18 : decode cX6_hallBehind 18 = .ok (.invokevirtual 281, 3) := by decide +kernel
theorem dX6_hallBehind_21 : decode cX6_hallBehind 21 = .ok (.iload_n 2, 1) := by decide +kernel
theorem dX6_hallBehind_22 : decode cX6_hallBehind 22 = .ok (.ireturn, 1) := by decide +kernel
theorem dX6_apart_0 : decode cX6_apart 0 = .ok (.iconst (-1), 1) := by decide +kernel
theorem dX6_apart_1 : decode cX6_apart 1 = .ok (.istore_n 1, 1) := by decide +kernel
theorem dX6_apart_2 : decode cX6_apart 2 = .ok (.aload_n 0, 1) := by decide +kernel
theorem dX6_apart_3 : decode cX6_apart 3 = .ok (.iconst (-1), 1) := by decide +kernel
theorem dX6_apart_4 : decode cX6_apart 4 = .ok (.invokevirtual 304, 3) := by decide +kernel
theorem dX6_apart_7 : decode cX6_apart 7 = .ok (.istore_n 2, 1) := by decide +kernel
theorem dX6_apart_8 : decode cX6_apart 8 = .ok (.iconst 0, 1) := by decide +kernel
theorem dX6_apart_9 : decode cX6_apart 9 = .ok (.istore_n 3, 1) := by decide +kernel
theorem dX6_apart_10 : decode cX6_apart 10 = .ok (.iload_n 3, 1) := by decide +kernel
theorem dX6_apart_11 : decode cX6_apart 11 = .ok (.aload_n 0, 1) := by decide +kernel
theorem dX6_apart_12 : decode cX6_apart 12 = .ok (.getfield 61, 3) := by decide +kernel
theorem dX6_apart_15 : decode cX6_apart 15 = .ok (.if_icmp .ge 59, 3) := by decide +kernel
theorem dX6_apart_18 : decode cX6_apart 18 = .ok (.iload_n 3, 1) := by decide +kernel
theorem dX6_apart_19 : decode cX6_apart 19 = .ok (.iconst 1, 1) := by decide +kernel
theorem dX6_apart_20 : decode cX6_apart 20 = .ok (.iadd, 1) := by decide +kernel
theorem dX6_apart_21 : decode cX6_apart 21 = .ok (.istore 4, 2) := by decide +kernel
theorem dX6_apart_23 : decode cX6_apart 23 = .ok (.iload 4, 2) := by decide +kernel
theorem dX6_apart_25 : decode cX6_apart 25 = .ok (.aload_n 0, 1) := by decide +kernel
theorem dX6_apart_26 : decode cX6_apart 26 = .ok (.getfield 61, 3) := by decide +kernel
theorem dX6_apart_29 : decode cX6_apart 29 = .ok (.if_icmp .ge 39, 3) := by decide +kernel
theorem dX6_apart_32 : decode cX6_apart 32 = .ok (.aload_n 0, 1) := by decide +kernel
theorem dX6_apart_33 : decode cX6_apart 33 = .ok (.bipush 10, 2) := by decide +kernel
theorem dX6_apart_35 : decode cX6_apart 35 = .ok (.iload_n 3, 1) := by decide +kernel
theorem dX6_apart_36 : decode cX6_apart 36 = .ok (.imul, 1) := by decide +kernel
theorem dX6_apart_37 : decode cX6_apart 37 = .ok (.iload 4, 2) := by decide +kernel
theorem dX6_apart_39 : decode cX6_apart 39 = .ok (.iadd, 1) := by decide +kernel
theorem dX6_apart_40 : decode cX6_apart 40 = .ok (.invokevirtual 304, 3) := by decide +kernel
theorem dX6_apart_43 : decode cX6_apart 43 = .ok (.istore 5, 2) := by decide +kernel
theorem dX6_apart_45 : decode cX6_apart 45 = .ok (.iload 5, 2) := by decide +kernel
theorem dX6_apart_47 : decode cX6_apart 47 = .ok (.iload_n 2, 1) := by decide +kernel
theorem dX6_apart_48 : decode cX6_apart 48 = .ok (.if_icmp .ge 14, 3) := by decide +kernel
theorem dX6_apart_51 : decode cX6_apart 51 = .ok (.bipush 10, 2) := by decide +kernel
theorem dX6_apart_53 : decode cX6_apart 53 = .ok (.iload_n 3, 1) := by decide +kernel
theorem dX6_apart_54 : decode cX6_apart 54 = .ok (.imul, 1) := by decide +kernel
theorem dX6_apart_55 : decode cX6_apart 55 = .ok (.iload 4, 2) := by decide +kernel
theorem dX6_apart_57 : decode cX6_apart 57 = .ok (.iadd, 1) := by decide +kernel
theorem dX6_apart_58 : decode cX6_apart 58 = .ok (.istore_n 1, 1) := by decide +kernel
theorem dX6_apart_59 : decode cX6_apart 59 = .ok (.iload 5, 2) := by decide +kernel
theorem dX6_apart_61 : decode cX6_apart 61 = .ok (.istore_n 2, 1) := by decide +kernel
theorem dX6_apart_62 : decode cX6_apart 62 = .ok (.iinc 4 1, 3) := by decide +kernel
theorem dX6_apart_65 : decode cX6_apart 65 = .ok (.goto (-42), 3) := by decide +kernel
theorem dX6_apart_68 : decode cX6_apart 68 = .ok (.iinc 3 1, 3) := by decide +kernel
theorem dX6_apart_71 : decode cX6_apart 71 = .ok (.goto (-61), 3) := by decide +kernel
theorem dX6_apart_74 : decode cX6_apart 74 = .ok (.iload_n 1, 1) := by decide +kernel
theorem dX6_apart_75 : decode cX6_apart 75 = .ok (.ireturn, 1) := by decide +kernel
theorem dX6_ringMany_0 : decode cX6_ringMany 0 = .ok (.iconst 0, 1) := by decide +kernel
theorem dX6_ringMany_1 : decode cX6_ringMany 1 = .ok (.istore_n 1, 1) := by decide +kernel
theorem dX6_ringMany_2 : decode cX6_ringMany 2 = .ok (.iconst 0, 1) := by decide +kernel
theorem dX6_ringMany_3 : decode cX6_ringMany 3 = .ok (.istore_n 2, 1) := by decide +kernel
theorem dX6_ringMany_4 : decode cX6_ringMany 4 = .ok (.iload_n 2, 1) := by decide +kernel
theorem dX6_ringMany_5 : decode cX6_ringMany 5 = .ok (.aload_n 0, 1) := by decide +kernel
theorem dX6_ringMany_6 : decode cX6_ringMany 6 = .ok (.getfield 61, 3) := by decide +kernel
theorem dX6_ringMany_9 : decode cX6_ringMany 9 = .ok (.if_icmp .ge 119, 3) := by decide +kernel
theorem dX6_ringMany_12 : decode cX6_ringMany 12 = .ok (.iload_n 2, 1) := by decide +kernel
theorem dX6_ringMany_13 : decode cX6_ringMany 13 = .ok (.iconst 1, 1) := by decide +kernel
theorem dX6_ringMany_14 : decode cX6_ringMany 14 = .ok (.iadd, 1) := by decide +kernel
theorem dX6_ringMany_15 : decode cX6_ringMany 15 = .ok (.istore_n 3, 1) := by decide +kernel
theorem dX6_ringMany_16 : decode cX6_ringMany 16 = .ok (.iload_n 3, 1) := by decide +kernel
theorem dX6_ringMany_17 : decode cX6_ringMany 17 = .ok (.aload_n 0, 1) := by decide +kernel
theorem dX6_ringMany_18 : decode cX6_ringMany 18 = .ok (.getfield 61, 3) := by decide +kernel
theorem dX6_ringMany_21 : decode cX6_ringMany 21 = .ok (.if_icmp .ge 101, 3) := by decide +kernel
theorem dX6_ringMany_24 : decode cX6_ringMany 24 = .ok (.iload_n 3, 1) := by decide +kernel
theorem dX6_ringMany_25 : decode cX6_ringMany 25 = .ok (.iconst 1, 1) := by decide +kernel
theorem dX6_ringMany_26 : decode cX6_ringMany 26 = .ok (.iadd, 1) := by decide +kernel
theorem dX6_ringMany_27 : decode cX6_ringMany 27 = .ok (.istore 4, 2) := by decide +kernel
theorem dX6_ringMany_29 : decode cX6_ringMany 29 = .ok (.iload 4, 2) := by decide +kernel
theorem dX6_ringMany_31 : decode cX6_ringMany 31 = .ok (.aload_n 0, 1) := by decide +kernel
theorem dX6_ringMany_32 : decode cX6_ringMany 32 = .ok (.getfield 61, 3) := by decide +kernel
theorem dX6_ringMany_35 : decode cX6_ringMany 35 = .ok (.if_icmp .ge 81, 3) := by decide +kernel
theorem dX6_ringMany_38 : decode cX6_ringMany 38 = .ok (.aload_n 0, 1) := by decide +kernel
theorem dX6_ringMany_39 : decode cX6_ringMany 39 = .ok (.iload_n 2, 1) := by decide +kernel
theorem dX6_ringMany_40 : decode cX6_ringMany 40 = .ok (.iload_n 3, 1) := by decide +kernel
theorem dX6_ringMany_41 : decode cX6_ringMany 41 = .ok (.invokevirtual 259, 3) := by decide +kernel
theorem dX6_ringMany_44 : decode cX6_ringMany 44 = .ok (.istore 5, 2) := by decide +kernel
theorem dX6_ringMany_46 : decode cX6_ringMany 46 = .ok (.aload_n 0, 1) := by decide +kernel
theorem dX6_ringMany_47 : decode cX6_ringMany 47 = .ok (.iload_n 3, 1) := by decide +kernel
theorem dX6_ringMany_48 : decode cX6_ringMany 48 = .ok (.iload 4, 2) := by decide +kernel
theorem dX6_ringMany_50 : decode cX6_ringMany 50 = .ok (.invokevirtual 259, 3) := by decide +kernel
theorem dX6_ringMany_53 : decode cX6_ringMany 53 = .ok (.istore 6, 2) := by decide +kernel
theorem dX6_ringMany_55 : decode cX6_ringMany 55 = .ok (.aload_n 0, 1) := by decide +kernel
theorem dX6_ringMany_56 : decode cX6_ringMany 56 = .ok (.iload_n 2, 1) := by decide +kernel
theorem dX6_ringMany_57 : decode cX6_ringMany 57 = .ok (.iload 4, 2) := by decide +kernel
theorem dX6_ringMany_59 : decode cX6_ringMany 59 = .ok (.invokevirtual 259, 3) := by decide +kernel
theorem dX6_ringMany_62 : decode cX6_ringMany 62 = .ok (.istore 7, 2) := by decide +kernel
theorem dX6_ringMany_64 : decode cX6_ringMany 64 = .ok (.iload_n 1, 1) := by decide +kernel
theorem dX6_ringMany_65 : decode cX6_ringMany 65 = .ok (.iload 5, 2) := by decide +kernel
theorem dX6_ringMany_67 : decode cX6_ringMany 67 = .ok (.iload_n 2, 1) := by decide +kernel
theorem dX6_ringMany_68 : decode cX6_ringMany 68 = .ok (.if_icmp .ne 16, 3) := by decide +kernel
theorem dX6_ringMany_71 : decode cX6_ringMany 71 = .ok (.iload 6, 2) := by decide +kernel
theorem dX6_ringMany_73 : decode cX6_ringMany 73 = .ok (.iload_n 3, 1) := by decide +kernel
theorem dX6_ringMany_74 : decode cX6_ringMany 74 = .ok (.if_icmp .ne 10, 3) := by decide +kernel
theorem dX6_ringMany_77 : decode cX6_ringMany 77 = .ok (.iload 7, 2) := by decide +kernel
theorem dX6_ringMany_79 : decode cX6_ringMany 79 = .ok (.iload 4, 2) := by decide +kernel
theorem dX6_ringMany_81 : decode cX6_ringMany 81 = .ok (.if_icmp .eq 22, 3) := by decide +kernel
theorem dX6_ringMany_84 : decode cX6_ringMany 84 = .ok (.iload 5, 2) := by decide +kernel
theorem dX6_ringMany_86 : decode cX6_ringMany 86 = .ok (.iload_n 3, 1) := by decide +kernel
theorem dX6_ringMany_87 : decode cX6_ringMany 87 = .ok (.if_icmp .ne 20, 3) := by decide +kernel
theorem dX6_ringMany_90 : decode cX6_ringMany 90 = .ok (.iload 6, 2) := by decide +kernel
theorem dX6_ringMany_92 : decode cX6_ringMany 92 = .ok (.iload 4, 2) := by decide +kernel
theorem dX6_ringMany_94 : decode cX6_ringMany 94 = .ok (.if_icmp .ne 13, 3) := by decide +kernel
theorem dX6_ringMany_97 : decode cX6_ringMany 97 = .ok (.iload 7, 2) := by decide +kernel
theorem dX6_ringMany_99 : decode cX6_ringMany 99 = .ok (.iload_n 2, 1) := by decide +kernel
theorem dX6_ringMany_100 : decode cX6_ringMany 100 = .ok (.if_icmp .ne 7, 3) := by decide +kernel
theorem dX6_ringMany_103 : decode cX6_ringMany 103 = .ok (.iconst 1, 1) := by decide +kernel
theorem dX6_ringMany_104 : decode cX6_ringMany 104 = .ok (.goto 4, 3) := by decide +kernel
theorem dX6_ringMany_107 : decode cX6_ringMany 107 = .ok (.iconst 0, 1) := by decide +kernel
theorem dX6_ringMany_108 : decode cX6_ringMany 108 = .ok (.iadd, 1) := by decide +kernel
theorem dX6_ringMany_109 : decode cX6_ringMany 109 = .ok (.istore_n 1, 1) := by decide +kernel
theorem dX6_ringMany_110 : decode cX6_ringMany 110 = .ok (.iinc 4 1, 3) := by decide +kernel
theorem dX6_ringMany_113 : decode cX6_ringMany 113 = .ok (.goto (-84), 3) := by decide +kernel
theorem dX6_ringMany_116 : decode cX6_ringMany 116 = .ok (.iinc 3 1, 3) := by decide +kernel
theorem dX6_ringMany_119 : decode cX6_ringMany 119 = .ok (.goto (-103), 3) := by decide +kernel
theorem dX6_ringMany_122 : decode cX6_ringMany 122 = .ok (.iinc 2 1, 3) := by decide +kernel
theorem dX6_ringMany_125 : decode cX6_ringMany 125 = .ok (.goto (-121), 3) := by decide +kernel
theorem dX6_ringMany_128 : decode cX6_ringMany 128 = .ok (.iload_n 1, 1) := by decide +kernel
theorem dX6_ringMany_129 : decode cX6_ringMany 129 = .ok (.ireturn, 1) := by decide +kernel
theorem dX6_robin_0 : decode cX6_robin 0 = .ok (.iload_n 1, 1) := by decide +kernel
theorem dX6_robin_1 : decode cX6_robin 1 = .ok (.i2l, 1) := by decide +kernel
theorem dX6_robin_2 : decode cX6_robin 2 = .ok (.lconst 0, 1) := by decide +kernel
theorem dX6_robin_3 : decode cX6_robin 3 = .ok (.ldc2_w 289, 3) := by decide +kernel
theorem dX6_robin_6 : decode cX6_robin 6 = .ok (.invokestatic 64, 3) := by decide +kernel
theorem dX6_robin_9 : decode cX6_robin 9 = .ok (.ifCond .eq 17, 3) := by decide +kernel
theorem dX6_robin_12 : decode cX6_robin 12 = .ok (.iload_n 1, 1) := by decide +kernel
theorem dX6_robin_13 : decode cX6_robin 13 = .ok (.bipush 6, 2) := by decide +kernel
theorem dX6_robin_15 : decode cX6_robin 15 = .ok (.if_icmp .ge 14, 3) := by decide +kernel
theorem dX6_robin_18 : decode cX6_robin 18 = .ok (.aload_n 0, 1) := by decide +kernel
theorem dX6_robin_19 : decode cX6_robin 19 = .ok (.iload_n 1, 1) := by decide +kernel
theorem dX6_robin_20 : decode cX6_robin 20 = .ok (.invokevirtual 68, 3) := by decide +kernel
theorem dX6_robin_23 : decode cX6_robin 23 = .ok (.ifCond .ne 6, 3) := by decide +kernel
theorem dX6_robin_26 : decode cX6_robin 26 = .ok (.bipush (-2), 2) := by decide +kernel
theorem dX6_robin_28 : decode cX6_robin 28 = .ok (.ireturn, 1) := by decide +kernel
theorem dX6_robin_29 : decode cX6_robin 29 = .ok (.iload_n 1, 1) := by decide +kernel
theorem dX6_robin_30 : decode cX6_robin 30 = .ok (.bipush 6, 2) := by decide +kernel
theorem dX6_robin_32 : decode cX6_robin 32 = .ok (.if_icmp .le 21, 3) := by decide +kernel
theorem dX6_robin_35 : decode cX6_robin 35 = .ok (.iload_n 1, 1) := by decide +kernel
theorem dX6_robin_36 : decode cX6_robin 36 = .ok (.bipush 7, 2) := by decide +kernel
theorem dX6_robin_38 : decode cX6_robin 38 = .ok (.if_icmp .ne 10, 3) := by decide +kernel
theorem dX6_robin_41 : decode cX6_robin 41 = .ok (.aload_n 0, 1) := by decide +kernel
theorem dX6_robin_42 : decode cX6_robin 42 = .ok (.invokevirtual 307, 3) := by decide +kernel
theorem dX6_robin_45 : decode cX6_robin 45 = .ok (.goto 7, 3) := by decide +kernel
theorem dX6_robin_48 : decode cX6_robin 48 = .ok (.aload_n 0, 1) := by decide +kernel
theorem dX6_robin_49 : decode cX6_robin 49 = .ok (.invokevirtual 310, 3) := by decide +kernel
theorem dX6_robin_52 : decode cX6_robin 52 = .ok (.ireturn, 1) := by decide +kernel
theorem dX6_robin_53 : decode cX6_robin 53 = .ok (.aload_n 0, 1) := by decide +kernel
theorem dX6_robin_54 : decode cX6_robin 54 = .ok (.invokevirtual 275, 3) := by decide +kernel
theorem dX6_robin_57 : decode cX6_robin 57 = .ok (.aload_n 0, 1) := by decide +kernel
theorem dX6_robin_58 : decode cX6_robin 58 = .ok (.iconst (-1), 1) := by decide +kernel
theorem dX6_robin_59 : decode cX6_robin 59 = .ok (.invokevirtual 300, 3) := by decide +kernel
theorem dX6_robin_62 : decode cX6_robin 62 = .ok (.iload_n 1, 1) := by decide +kernel
theorem dX6_robin_63 : decode cX6_robin 63 = .ok (.bipush 6, 2) := by decide +kernel
theorem dX6_robin_65 : decode cX6_robin 65 = .ok (.if_icmp .ne 10, 3) := by decide +kernel
theorem dX6_robin_68 : decode cX6_robin 68 = .ok (.aload_n 0, 1) := by decide +kernel
theorem dX6_robin_69 : decode cX6_robin 69 = .ok (.getfield 23, 3) := by decide +kernel
theorem dX6_robin_72 : decode cX6_robin 72 = .ok (.goto 8, 3) := by decide +kernel
theorem dX6_robin_75 : decode cX6_robin 75 = .ok (.aload_n 0, 1) := by decide +kernel
theorem dX6_robin_76 : decode cX6_robin 76 = .ok (.iload_n 1, 1) := by decide +kernel
theorem dX6_robin_77 : decode cX6_robin 77 = .ok (.invokevirtual 112, 3) := by decide +kernel
theorem dX6_robin_80 : decode cX6_robin 80 = .ok (.istore_n 2, 1) := by decide +kernel
theorem dX6_robin_81 : decode cX6_robin 81 = .ok (.aload_n 0, 1) := by decide +kernel
theorem dX6_robin_82 : decode cX6_robin 82 = .ok (.invokevirtual 281, 3) := by decide +kernel
theorem dX6_robin_85 : decode cX6_robin 85 = .ok (.iload_n 2, 1) := by decide +kernel
theorem dX6_robin_86 : decode cX6_robin 86 = .ok (.ireturn, 1) := by decide +kernel
theorem dX6_best_0 : decode cX6_best 0 = .ok (.aload_n 0, 1) := by decide +kernel
theorem dX6_best_1 : decode cX6_best 1 = .ok (.iload_n 1, 1) := by decide +kernel
theorem dX6_best_2 : decode cX6_best 2 = .ok (.invokevirtual 68, 3) := by decide +kernel
theorem dX6_best_5 : decode cX6_best 5 = .ok (.ifCond .eq 13, 3) := by decide +kernel
theorem dX6_best_8 : decode cX6_best 8 = .ok (.iload_n 2, 1) := by decide +kernel
theorem dX6_best_9 : decode cX6_best 9 = .ok (.i2l, 1) := by decide +kernel
theorem dX6_best_10 : decode cX6_best 10 = .ok (.lconst 0, 1) := by decide +kernel
theorem dX6_best_11 : decode cX6_best 11 = .ok (.lconst 1, 1) := by decide +kernel
theorem dX6_best_12 : decode cX6_best 12 = .ok (.invokestatic 64, 3) := by decide +kernel
theorem dX6_best_15 : decode cX6_best 15 = .ok (.ifCond .ne 6, 3) := by decide +kernel
theorem dX6_best_18 : decode cX6_best 18 = .ok (.bipush (-2), 2) := by decide +kernel
theorem dX6_best_20 : decode cX6_best 20 = .ok (.ireturn, 1) := by decide +kernel
theorem dX6_best_21 : decode cX6_best 21 = .ok (.iconst (-1), 1) := by decide +kernel
theorem dX6_best_22 : decode cX6_best 22 = .ok (.istore_n 3, 1) := by decide +kernel
theorem dX6_best_23 : decode cX6_best 23 = .ok (.iconst (-1), 1) := by decide +kernel
theorem dX6_best_24 : decode cX6_best 24 = .ok (.istore 4, 2) := by decide +kernel
theorem dX6_best_26 : decode cX6_best 26 = .ok (.iconst 0, 1) := by decide +kernel
theorem dX6_best_27 : decode cX6_best 27 = .ok (.istore 5, 2) := by decide +kernel
theorem dX6_best_29 : decode cX6_best 29 = .ok (.iload 5, 2) := by decide +kernel
theorem dX6_best_31 : decode cX6_best 31 = .ok (.aload_n 0, 1) := by decide +kernel
theorem dX6_best_32 : decode cX6_best 32 = .ok (.getfield 61, 3) := by decide +kernel
theorem dX6_best_35 : decode cX6_best 35 = .ok (.if_icmp .ge 42, 3) := by decide +kernel
theorem dX6_best_38 : decode cX6_best 38 = .ok (.iload 5, 2) := by decide +kernel
theorem dX6_best_40 : decode cX6_best 40 = .ok (.iload_n 1, 1) := by decide +kernel
theorem dX6_best_41 : decode cX6_best 41 = .ok (.if_icmp .ne 7, 3) := by decide +kernel
theorem dX6_best_44 : decode cX6_best 44 = .ok (.iconst (-1), 1) := by decide +kernel
theorem dX6_best_45 : decode cX6_best 45 = .ok (.goto 10, 3) := by decide +kernel
theorem dX6_best_48 : decode cX6_best 48 = .ok (.aload_n 0, 1) := by decide +kernel
theorem dX6_best_49 : decode cX6_best 49 = .ok (.iload_n 1, 1) := by decide +kernel
theorem dX6_best_50 : decode cX6_best 50 = .ok (.iload 5, 2) := by decide +kernel
theorem dX6_best_52 : decode cX6_best 52 = .ok (.invokevirtual 272, 3) := by decide +kernel
theorem dX6_best_55 : decode cX6_best 55 = .ok (.istore 6, 2) := by decide +kernel
theorem dX6_best_57 : decode cX6_best 57 = .ok (.iload 6, 2) := by decide +kernel
theorem dX6_best_59 : decode cX6_best 59 = .ok (.iload 4, 2) := by decide +kernel
theorem dX6_best_61 : decode cX6_best 61 = .ok (.if_icmp .le 10, 3) := by decide +kernel
theorem dX6_best_64 : decode cX6_best 64 = .ok (.iload 5, 2) := by decide +kernel
theorem dX6_best_66 : decode cX6_best 66 = .ok (.istore_n 3, 1) := by decide +kernel
theorem dX6_best_67 : decode cX6_best 67 = .ok (.iload 6, 2) := by decide +kernel
theorem dX6_best_69 : decode cX6_best 69 = .ok (.istore 4, 2) := by decide +kernel
theorem dX6_best_71 : decode cX6_best 71 = .ok (.iinc 5 1, 3) := by decide +kernel
theorem dX6_best_74 : decode cX6_best 74 = .ok (.goto (-45), 3) := by decide +kernel
theorem dX6_best_77 : decode cX6_best 77 = .ok (.iload_n 2, 1) := by decide +kernel
theorem dX6_best_78 : decode cX6_best 78 = .ok (.ifCond .ne 7, 3) := by decide +kernel
theorem dX6_best_81 : decode cX6_best 81 = .ok (.iload_n 3, 1) := by decide +kernel
theorem dX6_best_82 : decode cX6_best 82 = .ok (.goto 5, 3) := by decide +kernel
theorem dX6_best_85 : decode cX6_best 85 = .ok (.iload 4, 2) := by decide +kernel
theorem dX6_best_87 : decode cX6_best 87 = .ok (.ireturn, 1) := by decide +kernel
theorem dX6_orders_0 : decode cX6_orders 0 = .ok (.iload_n 2, 1) := by decide +kernel
theorem dX6_orders_1 : decode cX6_orders 1 = .ok (.ifCond .ne 39, 3) := by decide +kernel
theorem dX6_orders_4 : decode cX6_orders 4 = .ok (.aload_n 0, 1) := by decide +kernel
theorem dX6_orders_5 : decode cX6_orders 5 = .ok (.iload_n 1, 1) := by decide +kernel
theorem dX6_orders_6 : decode cX6_orders 6 = .ok (.invokevirtual 122, 3) := by decide +kernel
theorem dX6_orders_9 : decode cX6_orders 9 = .ok (.istore 4, 2) := by decide +kernel
theorem dX6_orders_11 : decode cX6_orders 11 = .ok (.aload_n 0, 1) := by decide +kernel
theorem dX6_orders_12 : decode cX6_orders 12 = .ok (.getfield 313, 3) := by decide +kernel
theorem dX6_orders_15 : decode cX6_orders 15 = .ok (.iconst (-1), 1) := by decide +kernel
theorem dX6_orders_16 : decode cX6_orders 16 = .ok (.if_icmp .eq 12, 3) := by decide +kernel
theorem dX6_orders_19 : decode cX6_orders 19 = .ok (.iload 4, 2) := by decide +kernel
theorem dX6_orders_21 : decode cX6_orders 21 = .ok (.aload_n 0, 1) := by decide +kernel
theorem dX6_orders_22 : decode cX6_orders 22 = .ok (.getfield 316, 3) := by decide +kernel
theorem dX6_orders_25 : decode cX6_orders 25 = .ok (.if_icmp .le 14, 3) := by decide +kernel
theorem dX6_orders_28 : decode cX6_orders 28 = .ok (.aload_n 0, 1) := by decide +kernel
theorem dX6_orders_29 : decode cX6_orders 29 = .ok (.iload_n 3, 1) := by decide +kernel
theorem dX6_orders_30 : decode cX6_orders 30 = .ok (.putfield 313, 3) := by decide +kernel
theorem dX6_orders_33 : decode cX6_orders 33 = .ok (.aload_n 0, 1) := by decide +kernel
theorem dX6_orders_34 : decode cX6_orders 34 = .ok (.iload 4, 2) := by decide +kernel
theorem dX6_orders_36 : decode cX6_orders 36 = .ok (.putfield 316, 3) := by decide +kernel
theorem dX6_orders_39 : decode cX6_orders 39 = .ok (.return_, 1) := by decide +kernel
theorem dX6_orders_40 : decode cX6_orders 40 = .ok (.iconst 0, 1) := by decide +kernel
theorem dX6_orders_41 : decode cX6_orders 41 = .ok (.istore 4, 2) := by decide +kernel
theorem dX6_orders_43 : decode cX6_orders 43 = .ok (.iload 4, 2) := by decide +kernel
theorem dX6_orders_45 : decode cX6_orders 45 = .ok (.aload_n 0, 1) := by decide +kernel
theorem dX6_orders_46 : decode cX6_orders 46 = .ok (.getfield 61, 3) := by decide +kernel
theorem dX6_orders_49 : decode cX6_orders 49 = .ok (.if_icmp .ge 57, 3) := by decide +kernel
theorem dX6_orders_52 : decode cX6_orders 52 = .ok (.iload_n 2, 1) := by decide +kernel
theorem dX6_orders_53 : decode cX6_orders 53 = .ok (.iload 4, 2) := by decide +kernel
theorem dX6_orders_55 : decode cX6_orders 55 = .ok (.ishr, 1) := by decide +kernel
theorem dX6_orders_56 : decode cX6_orders 56 = .ok (.iconst 1, 1) := by decide +kernel
theorem dX6_orders_57 : decode cX6_orders 57 = .ok (.iand, 1) := by decide +kernel
theorem dX6_orders_58 : decode cX6_orders 58 = .ok (.iconst 1, 1) := by decide +kernel
theorem dX6_orders_59 : decode cX6_orders 59 = .ok (.if_icmp .ne 41, 3) := by decide +kernel
theorem dX6_orders_62 : decode cX6_orders 62 = .ok (.aload_n 0, 1) := by decide +kernel
theorem dX6_orders_63 : decode cX6_orders 63 = .ok (.invokevirtual 275, 3) := by decide +kernel
theorem dX6_orders_66 : decode cX6_orders 66 = .ok (.aload_n 0, 1) := by decide +kernel
theorem dX6_orders_67 : decode cX6_orders 67 = .ok (.iload_n 1, 1) := by decide +kernel
theorem dX6_orders_68 : decode cX6_orders 68 = .ok (.iload 4, 2) := by decide +kernel
theorem dX6_orders_70 : decode cX6_orders 70 = .ok (.invokevirtual 278, 3) := by decide +kernel
theorem dX6_orders_73 : decode cX6_orders 73 = .ok (.pop, 1) := by decide +kernel
theorem dX6_orders_74 : decode cX6_orders 74 = .ok (.aload_n 0, 1) := by decide +kernel
theorem dX6_orders_75 : decode cX6_orders 75 = .ok (.iload_n 1, 1) := by decide +kernel
theorem dX6_orders_76 : decode cX6_orders 76 = .ok (.iload_n 2, 1) := by decide +kernel
theorem dX6_orders_77 : decode cX6_orders 77 = .ok (.iconst 1, 1) := by decide +kernel
theorem dX6_orders_78 : decode cX6_orders 78 = .ok (.iload 4, 2) := by decide +kernel
theorem dX6_orders_80 : decode cX6_orders 80 = .ok (.ishl, 1) := by decide +kernel
theorem dX6_orders_81 : decode cX6_orders 81 = .ok (.iconst (-1), 1) := by decide +kernel
theorem dX6_orders_82 : decode cX6_orders 82 = .ok (.ixor, 1) := by decide +kernel
theorem dX6_orders_83 : decode cX6_orders 83 = .ok (.iand, 1) := by decide +kernel
theorem dX6_orders_84 : decode cX6_orders 84 = .ok (.bipush 10, 2) := by decide +kernel
theorem dX6_orders_86 : decode cX6_orders 86 = .ok (.iload_n 3, 1) := by decide +kernel
theorem dX6_orders_87 : decode cX6_orders 87 = .ok (.imul, 1) := by decide +kernel
theorem dX6_orders_88 : decode cX6_orders 88 = .ok (.iload 4, 2) := by decide +kernel
theorem dX6_orders_90 : decode cX6_orders 90 = .ok (.iadd, 1) := by decide +kernel
theorem dX6_orders_91 : decode cX6_orders 91 = .ok (.iconst 1, 1) := by decide +kernel
theorem dX6_orders_92 : decode cX6_orders 92 = .ok (.iadd, 1) := by decide +kernel
theorem dX6_orders_93 : decode cX6_orders 93 = .ok (.invokevirtual 319, 3) := by decide +kernel
theorem dX6_orders_96 : decode cX6_orders 96 = .ok (.aload_n 0, 1) := by decide +kernel
theorem dX6_orders_97 : decode cX6_orders 97 = .ok (.invokevirtual 281, 3) := by decide +kernel
theorem dX6_orders_100 : decode cX6_orders 100 = .ok (.iinc 4 1, 3) := by decide +kernel
theorem dX6_orders_103 : decode cX6_orders 103 = .ok (.goto (-60), 3) := by decide +kernel
theorem dX6_orders_106 : decode cX6_orders 106 = .ok (.return_, 1) := by decide +kernel
theorem dX6_order_0 : decode cX6_order 0 = .ok (.aload_n 0, 1) := by decide +kernel
theorem dX6_order_1 : decode cX6_order 1 = .ok (.iload_n 1, 1) := by decide +kernel
theorem dX6_order_2 : decode cX6_order 2 = .ok (.invokevirtual 68, 3) := by decide +kernel
theorem dX6_order_5 : decode cX6_order 5 = .ok (.ifCond .eq 13, 3) := by decide +kernel
theorem dX6_order_8 : decode cX6_order 8 = .ok (.iload_n 2, 1) := by decide +kernel
theorem dX6_order_9 : decode cX6_order 9 = .ok (.i2l, 1) := by decide +kernel
theorem dX6_order_10 : decode cX6_order 10 = .ok (.lconst 0, 1) := by decide +kernel
theorem dX6_order_11 : decode cX6_order 11 = .ok (.lconst 1, 1) := by decide +kernel
theorem dX6_order_12 : decode cX6_order 12 = .ok (.invokestatic 64, 3) := by decide +kernel
theorem dX6_order_15 : decode cX6_order 15 = .ok (.ifCond .ne 6, 3) := by decide +kernel
theorem dX6_order_18 : decode cX6_order 18 = .ok (.bipush (-2), 2) := by decide +kernel
theorem dX6_order_20 : decode cX6_order 20 = .ok (.ireturn, 1) := by decide +kernel
theorem dX6_order_21 : decode cX6_order 21 = .ok (.aload_n 0, 1) := by decide +kernel
theorem dX6_order_22 : decode cX6_order 22 = .ok (.iconst (-1), 1) := by decide +kernel
theorem dX6_order_23 : decode cX6_order 23 = .ok (.putfield 313, 3) := by decide +kernel
theorem dX6_order_26 : decode cX6_order 26 = .ok (.aload_n 0, 1) := by decide +kernel
theorem dX6_order_27 : decode cX6_order 27 = .ok (.iconst 0, 1) := by decide +kernel
theorem dX6_order_28 : decode cX6_order 28 = .ok (.putfield 316, 3) := by decide +kernel
theorem dX6_order_31 : decode cX6_order 31 = .ok (.aload_n 0, 1) := by decide +kernel
theorem dX6_order_32 : decode cX6_order 32 = .ok (.iload_n 1, 1) := by decide +kernel
theorem dX6_order_33 : decode cX6_order 33 = .ok (.iconst 1, 1) := by decide +kernel
theorem dX6_order_34 : decode cX6_order 34 = .ok (.aload_n 0, 1) := by decide +kernel
theorem dX6_order_35 : decode cX6_order 35 = .ok (.getfield 61, 3) := by decide +kernel
theorem dX6_order_38 : decode cX6_order 38 = .ok (.ishl, 1) := by decide +kernel
theorem dX6_order_39 : decode cX6_order 39 = .ok (.iconst 1, 1) := by decide +kernel
theorem dX6_order_40 : decode cX6_order 40 = .ok (.isub, 1) := by decide +kernel
theorem dX6_order_41 : decode cX6_order 41 = .ok (.iconst 1, 1) := by decide +kernel
theorem dX6_order_42 : decode cX6_order 42 = .ok (.iload_n 1, 1) := by decide +kernel
theorem dX6_order_43 : decode cX6_order 43 = .ok (.ishl, 1) := by decide +kernel
theorem dX6_order_44 : decode cX6_order 44 = .ok (.iconst (-1), 1) := by decide +kernel
theorem dX6_order_45 : decode cX6_order 45 = .ok (.ixor, 1) := by decide +kernel
theorem dX6_order_46 : decode cX6_order 46 = .ok (.iand, 1) := by decide +kernel
theorem dX6_order_47 : decode cX6_order 47 = .ok (.iconst 0, 1) := by decide +kernel
theorem dX6_order_48 : decode cX6_order 48 = .ok (.invokevirtual 319, 3) := by decide +kernel
theorem dX6_order_51 : decode cX6_order 51 = .ok (.iload_n 2, 1) := by decide +kernel
theorem dX6_order_52 : decode cX6_order 52 = .ok (.ifCond .ne 10, 3) := by decide +kernel
theorem dX6_order_55 : decode cX6_order 55 = .ok (.aload_n 0, 1) := by decide +kernel
theorem dX6_order_56 : decode cX6_order 56 = .ok (.getfield 313, 3) := by decide +kernel
theorem dX6_order_59 : decode cX6_order 59 = .ok (.goto 7, 3) := by decide +kernel
theorem dX6_order_62 : decode cX6_order 62 = .ok (.aload_n 0, 1) := by decide +kernel
theorem dX6_order_63 : decode cX6_order 63 = .ok (.getfield 316, 3) := by decide +kernel
theorem dX6_order_66 : decode cX6_order 66 = .ok (.ireturn, 1) := by decide +kernel
theorem dX6_tries_0 : decode cX6_tries 0 = .ok (.iconst 0, 1) := by decide +kernel
theorem dX6_tries_1 : decode cX6_tries 1 = .ok (.istore_n 2, 1) := by decide +kernel
theorem dX6_tries_2 : decode cX6_tries 2 = .ok (.iload_n 2, 1) := by decide +kernel
theorem dX6_tries_3 : decode cX6_tries 3 = .ok (.aload_n 0, 1) := by decide +kernel
theorem dX6_tries_4 : decode cX6_tries 4 = .ok (.getfield 61, 3) := by decide +kernel
theorem dX6_tries_7 : decode cX6_tries 7 = .ok (.if_icmp .ge 36, 3) := by decide +kernel
theorem dX6_tries_10 : decode cX6_tries 10 = .ok (.aload_n 0, 1) := by decide +kernel
theorem dX6_tries_11 : decode cX6_tries 11 = .ok (.dup, 1) := by decide +kernel
theorem dX6_tries_12 : decode cX6_tries 12 = .ok (.getfield 322, 3) := by decide +kernel
theorem dX6_tries_15 : decode cX6_tries 15 = .ok (.aload_n 0, 1) := by decide +kernel
theorem dX6_tries_16 : decode cX6_tries 16 = .ok (.iload_n 2, 1) := by decide +kernel
theorem dX6_tries_17 : decode cX6_tries 17 = .ok (.invokevirtual 112, 3) := by decide +kernel
theorem dX6_tries_20 : decode cX6_tries 20 = .ok (.sipush 255, 3) := by decide +kernel
theorem dX6_tries_23 : decode cX6_tries 23 = .ok (.if_icmp .ne 7, 3) := by decide +kernel
theorem dX6_tries_26 : decode cX6_tries 26 = .ok (.iconst 1, 1) := by decide +kernel
theorem dX6_tries_27 : decode cX6_tries 27 = .ok (.goto 4, 3) := by decide +kernel
theorem dX6_tries_30 : decode cX6_tries 30 = .ok (.iconst 0, 1) := by decide +kernel
theorem dX6_tries_31 : decode cX6_tries 31 = .ok (.iload_n 2, 1) := by decide +kernel
theorem dX6_tries_32 : decode cX6_tries 32 = .ok (.ishl, 1) := by decide +kernel
theorem dX6_tries_33 : decode cX6_tries 33 = .ok (.ior, 1) := by decide +kernel
theorem dX6_tries_34 : decode cX6_tries 34 = .ok (.putfield 322, 3) := by decide +kernel
theorem dX6_tries_37 : decode cX6_tries 37 = .ok (.iinc 2 1, 3) := by decide +kernel
theorem dX6_tries_40 : decode cX6_tries 40 = .ok (.goto (-38), 3) := by decide +kernel
theorem dX6_tries_43 : decode cX6_tries 43 = .ok (.iload_n 1, 1) := by decide +kernel
theorem dX6_tries_44 : decode cX6_tries 44 = .ok (.ifCond .ne 4, 3) := by decide +kernel
theorem dX6_tries_47 : decode cX6_tries 47 = .ok (.return_, 1) := by decide +kernel
theorem dX6_tries_48 : decode cX6_tries 48 = .ok (.iconst 0, 1) := by decide +kernel
theorem dX6_tries_49 : decode cX6_tries 49 = .ok (.istore_n 2, 1) := by decide +kernel
theorem dX6_tries_50 : decode cX6_tries 50 = .ok (.iload_n 2, 1) := by decide +kernel
theorem dX6_tries_51 : decode cX6_tries 51 = .ok (.aload_n 0, 1) := by decide +kernel
theorem dX6_tries_52 : decode cX6_tries 52 = .ok (.getfield 61, 3) := by decide +kernel
theorem dX6_tries_55 : decode cX6_tries 55 = .ok (.if_icmp .ge 49, 3) := by decide +kernel
theorem dX6_tries_58 : decode cX6_tries 58 = .ok (.iload_n 2, 1) := by decide +kernel
theorem dX6_tries_59 : decode cX6_tries 59 = .ok (.iconst 1, 1) := by decide +kernel
theorem dX6_tries_60 : decode cX6_tries 60 = .ok (.iadd, 1) := by decide +kernel
theorem dX6_tries_61 : decode cX6_tries 61 = .ok (.istore_n 3, 1) := by decide +kernel
theorem dX6_tries_62 : decode cX6_tries 62 = .ok (.iload_n 3, 1) := by decide +kernel
theorem dX6_tries_63 : decode cX6_tries 63 = .ok (.aload_n 0, 1) := by decide +kernel
theorem dX6_tries_64 : decode cX6_tries 64 = .ok (.getfield 61, 3) := by decide +kernel
theorem dX6_tries_67 : decode cX6_tries 67 = .ok (.if_icmp .ge 31, 3) := by decide +kernel
theorem dX6_tries_70 : decode cX6_tries 70 = .ok (.aload_n 0, 1) := by decide +kernel
theorem dX6_tries_71 : decode cX6_tries 71 = .ok (.invokevirtual 275, 3) := by decide +kernel
theorem dX6_tries_74 : decode cX6_tries 74 = .ok (.aload_n 0, 1) := by decide +kernel
theorem dX6_tries_75 : decode cX6_tries 75 = .ok (.iload_n 2, 1) := by decide +kernel
theorem dX6_tries_76 : decode cX6_tries 76 = .ok (.iload_n 3, 1) := by decide +kernel
theorem dX6_tries_77 : decode cX6_tries 77 = .ok (.invokevirtual 278, 3) := by decide +kernel
theorem dX6_tries_80 : decode cX6_tries 80 = .ok (.pop, 1) := by decide +kernel
theorem dX6_tries_81 : decode cX6_tries 81 = .ok (.aload_n 0, 1) := by decide +kernel
theorem dX6_tries_82 : decode cX6_tries 82 = .ok (.iload_n 1, 1) := by decide +kernel
theorem dX6_tries_83 : decode cX6_tries 83 = .ok (.iconst 1, 1) := by decide +kernel
theorem dX6_tries_84 : decode cX6_tries 84 = .ok (.isub, 1) := by decide +kernel
theorem dX6_tries_85 : decode cX6_tries 85 = .ok (.invokevirtual 325, 3) := by decide +kernel
theorem dX6_tries_88 : decode cX6_tries 88 = .ok (.aload_n 0, 1) := by decide +kernel
theorem dX6_tries_89 : decode cX6_tries 89 = .ok (.invokevirtual 281, 3) := by decide +kernel
theorem dX6_tries_92 : decode cX6_tries 92 = .ok (.iinc 3 1, 3) := by decide +kernel
theorem dX6_tries_95 : decode cX6_tries 95 = .ok (.goto (-33), 3) := by decide +kernel
theorem dX6_tries_98 : decode cX6_tries 98 = .ok (.iinc 2 1, 3) := by decide +kernel
theorem dX6_tries_101 : decode cX6_tries 101 = .ok (.goto (-51), 3) := by decide +kernel
theorem dX6_tries_104 : decode cX6_tries 104 = .ok (.return_, 1) := by decide +kernel
theorem dX6_all_0 : decode cX6_all 0 = .ok (.iload_n 1, 1) := by decide +kernel
theorem dX6_all_1 : decode cX6_all 1 = .ok (.i2l, 1) := by decide +kernel
theorem dX6_all_2 : decode cX6_all 2 = .ok (.lconst 0, 1) := by decide +kernel
theorem dX6_all_3 : decode cX6_all 3 = .ok (.ldc2_w 83, 3) := by decide +kernel
theorem dX6_all_6 : decode cX6_all 6 = .ok (.invokestatic 64, 3) := by decide +kernel
theorem dX6_all_9 : decode cX6_all 9 = .ok (.ifCond .ne 6, 3) := by decide +kernel
theorem dX6_all_12 : decode cX6_all 12 = .ok (.bipush (-2), 2) := by decide +kernel
theorem dX6_all_14 : decode cX6_all 14 = .ok (.ireturn, 1) := by decide +kernel
theorem dX6_all_15 : decode cX6_all 15 = .ok (.iload_n 1, 1) := by decide +kernel
theorem dX6_all_16 : decode cX6_all 16 = .ok (.iconst 3, 1) := by decide +kernel
theorem dX6_all_17 : decode cX6_all 17 = .ok (.if_icmp .ne 14, 3) := by decide +kernel
theorem dX6_all_20 : decode cX6_all 20 = .ok (.aload_n 0, 1) := by decide +kernel
theorem dX6_all_21 : decode cX6_all 21 = .ok (.getfield 61, 3) := by decide +kernel
theorem dX6_all_24 : decode cX6_all 24 = .ok (.iconst 4, 1) := by decide +kernel
theorem dX6_all_25 : decode cX6_all 25 = .ok (.if_icmp .le 6, 3) := by decide +kernel
theorem dX6_all_28 : decode cX6_all 28 = .ok (.bipush (-3), 2) := by decide +kernel
theorem dX6_all_30 : decode cX6_all 30 = .ok (.ireturn, 1) := by decide +kernel
theorem dX6_all_31 : decode cX6_all 31 = .ok (.aload_n 0, 1) := by decide +kernel
theorem dX6_all_32 : decode cX6_all 32 = .ok (.iconst 0, 1) := by decide +kernel
theorem dX6_all_33 : decode cX6_all 33 = .ok (.putfield 322, 3) := by decide +kernel
theorem dX6_all_36 : decode cX6_all 36 = .ok (.aload_n 0, 1) := by decide +kernel
theorem dX6_all_37 : decode cX6_all 37 = .ok (.iload_n 1, 1) := by decide +kernel
theorem dX6_all_38 : decode cX6_all 38 = .ok (.invokevirtual 325, 3) := by decide +kernel
theorem dX6_all_41 : decode cX6_all 41 = .ok (.aload_n 0, 1) := by decide +kernel
theorem dX6_all_42 : decode cX6_all 42 = .ok (.getfield 322, 3) := by decide +kernel
theorem dX6_all_45 : decode cX6_all 45 = .ok (.ireturn, 1) := by decide +kernel
theorem dX6_soon_0 : decode cX6_soon 0 = .ok (.aload_n 0, 1) := by decide +kernel
theorem dX6_soon_1 : decode cX6_soon 1 = .ok (.iload_n 1, 1) := by decide +kernel
theorem dX6_soon_2 : decode cX6_soon 2 = .ok (.iload_n 2, 1) := by decide +kernel
theorem dX6_soon_3 : decode cX6_soon 3 = .ok (.invokevirtual 269, 3) := by decide +kernel
theorem dX6_soon_6 : decode cX6_soon 6 = .ok (.ifCond .ne 6, 3) := by decide +kernel
theorem dX6_soon_9 : decode cX6_soon 9 = .ok (.bipush (-2), 2) := by decide +kernel
theorem dX6_soon_11 : decode cX6_soon 11 = .ok (.ireturn, 1) := by decide +kernel
theorem dX6_soon_12 : decode cX6_soon 12 = .ok (.aload_n 0, 1) := by decide +kernel
theorem dX6_soon_13 : decode cX6_soon 13 = .ok (.invokevirtual 275, 3) := by decide +kernel
theorem dX6_soon_16 : decode cX6_soon 16 = .ok (.iconst 0, 1) := by decide +kernel
theorem dX6_soon_17 : decode cX6_soon 17 = .ok (.istore_n 3, 1) := by decide +kernel
theorem dX6_soon_18 : decode cX6_soon 18 = .ok (.iload_n 3, 1) := by decide +kernel
theorem dX6_soon_19 : decode cX6_soon 19 = .ok (.bipush 20, 2) := by decide +kernel
theorem dX6_soon_21 : decode cX6_soon 21 = .ok (.if_icmp .gt 24, 3) := by decide +kernel
theorem dX6_soon_24 : decode cX6_soon 24 = .ok (.aload_n 0, 1) := by decide +kernel
theorem dX6_soon_25 : decode cX6_soon 25 = .ok (.iload_n 1, 1) := by decide +kernel
theorem dX6_soon_26 : decode cX6_soon 26 = .ok (.invokevirtual 112, 3) := by decide +kernel
theorem dX6_soon_29 : decode cX6_soon 29 = .ok (.ifCond .eq 16, 3) := by decide +kernel
theorem dX6_soon_32 : decode cX6_soon 32 = .ok (.aload_n 0, 1) := by decide +kernel
theorem dX6_soon_33 : decode cX6_soon 33 = .ok (.iload_n 1, 1) := by decide +kernel
theorem dX6_soon_34 : decode cX6_soon 34 = .ok (.iload_n 2, 1) := by decide +kernel
theorem dX6_soon_35 : decode cX6_soon 35 = .ok (.invokevirtual 278, 3) := by decide +kernel
theorem dX6_soon_38 : decode cX6_soon 38 = .ok (.pop, 1) := by decide +kernel
theorem dX6_soon_39 : decode cX6_soon 39 = .ok (.iinc 3 1, 3) := by decide +kernel
theorem dX6_soon_42 : decode cX6_soon 42 = .ok (.goto (-24), 3) := by decide +kernel
theorem dX6_soon_45 : decode cX6_soon 45 = .ok (.aload_n 0, 1) := by decide +kernel
theorem dX6_soon_46 : decode cX6_soon 46 = .ok (.invokevirtual 281, 3) := by decide +kernel
theorem dX6_soon_49 : decode cX6_soon 49 = .ok (.iload_n 3, 1) := by decide +kernel
theorem dX6_soon_50 : decode cX6_soon 50 = .ok (.bipush 20, 2) := by decide +kernel
theorem dX6_soon_52 : decode cX6_soon 52 = .ok (.if_icmp .le 7, 3) := by decide +kernel
theorem dX6_soon_55 : decode cX6_soon 55 = .ok (.iconst (-1), 1) := by decide +kernel
theorem dX6_soon_56 : decode cX6_soon 56 = .ok (.goto 4, 3) := by decide +kernel
theorem dX6_soon_59 : decode cX6_soon 59 = .ok (.iload_n 3, 1) := by decide +kernel
theorem dX6_soon_60 : decode cX6_soon 60 = .ok (.ireturn, 1) := by decide +kernel
theorem dX6_firstOther_0 : decode cX6_firstOther 0 = .ok (.iconst 0, 1) := by decide +kernel
theorem dX6_firstOther_1 : decode cX6_firstOther 1 = .ok (.istore_n 3, 1) := by decide +kernel
theorem dX6_firstOther_2 : decode cX6_firstOther 2 = .ok (.iload_n 3, 1) := by decide +kernel
theorem dX6_firstOther_3 : decode cX6_firstOther 3 = .ok (.aload_n 0, 1) := by decide +kernel
theorem dX6_firstOther_4 : decode cX6_firstOther 4 = .ok (.getfield 61, 3) := by decide +kernel
theorem dX6_firstOther_7 : decode cX6_firstOther 7 = .ok (.if_icmp .ge 40, 3) := by decide +kernel
theorem dX6_firstOther_10 : decode cX6_firstOther 10 = .ok (.iload_n 3, 1) := by decide +kernel
theorem dX6_firstOther_11 : decode cX6_firstOther 11 = .ok (.iload_n 2, 1) := by decide +kernel
theorem dX6_firstOther_12 : decode cX6_firstOther 12 = .ok (.if_icmp .ne 7, 3) := by decide +kernel
theorem dX6_firstOther_15 : decode cX6_firstOther 15 = .ok (.iconst 0, 1) := by decide +kernel
theorem dX6_firstOther_16 : decode cX6_firstOther 16 = .ok (.goto 9, 3) := by decide +kernel
theorem dX6_firstOther_19 : decode cX6_firstOther 19 = .ok (.aload_n 0, 1) := by decide +kernel
theorem dX6_firstOther_20 : decode cX6_firstOther 20 = .ok (.iload_n 2, 1) := by decide +kernel
theorem dX6_firstOther_21 : decode cX6_firstOther 21 = .ok (.iload_n 3, 1) := by decide +kernel
theorem dX6_firstOther_22 : decode cX6_firstOther 22 = .ok (.invokevirtual 256, 3) := by decide +kernel
theorem dX6_firstOther_25 : decode cX6_firstOther 25 = .ok (.aload_n 0, 1) := by decide +kernel
theorem dX6_firstOther_26 : decode cX6_firstOther 26 = .ok (.getfield 51, 3) := by decide +kernel
theorem dX6_firstOther_29 : decode cX6_firstOther 29 = .ok (.bipush 40, 2) := by decide +kernel
theorem dX6_firstOther_31 : decode cX6_firstOther 31 = .ok (.iload_n 1, 1) := by decide +kernel
theorem dX6_firstOther_32 : decode cX6_firstOther 32 = .ok (.imul, 1) := by decide +kernel
theorem dX6_firstOther_33 : decode cX6_firstOther 33 = .ok (.iload_n 3, 1) := by decide +kernel
theorem dX6_firstOther_34 : decode cX6_firstOther 34 = .ok (.iadd, 1) := by decide +kernel
theorem dX6_firstOther_35 : decode cX6_firstOther 35 = .ok (.iaload, 1) := by decide +kernel
theorem dX6_firstOther_36 : decode cX6_firstOther 36 = .ok (.if_icmp .eq 5, 3) := by decide +kernel
theorem dX6_firstOther_39 : decode cX6_firstOther 39 = .ok (.iload_n 3, 1) := by decide +kernel
theorem dX6_firstOther_40 : decode cX6_firstOther 40 = .ok (.ireturn, 1) := by decide +kernel
theorem dX6_firstOther_41 : decode cX6_firstOther 41 = .ok (.iinc 3 1, 3) := by decide +kernel
theorem dX6_firstOther_44 : decode cX6_firstOther 44 = .ok (.goto (-42), 3) := by decide +kernel
theorem dX6_firstOther_47 : decode cX6_firstOther 47 = .ok (.iconst (-1), 1) := by decide +kernel
theorem dX6_firstOther_48 : decode cX6_firstOther 48 = .ok (.ireturn, 1) := by decide +kernel
theorem dX6_likeSet_0 : decode cX6_likeSet 0 = .ok (.iconst 0, 1) := by decide +kernel
theorem dX6_likeSet_1 : decode cX6_likeSet 1 = .ok (.istore_n 2, 1) := by decide +kernel
theorem dX6_likeSet_2 : decode cX6_likeSet 2 = .ok (.iconst 0, 1) := by decide +kernel
theorem dX6_likeSet_3 : decode cX6_likeSet 3 = .ok (.istore_n 3, 1) := by decide +kernel
theorem dX6_likeSet_4 : decode cX6_likeSet 4 = .ok (.iload_n 3, 1) := by decide +kernel
theorem dX6_likeSet_5 : decode cX6_likeSet 5 = .ok (.aload_n 0, 1) := by decide +kernel
theorem dX6_likeSet_6 : decode cX6_likeSet 6 = .ok (.getfield 61, 3) := by decide +kernel
theorem dX6_likeSet_9 : decode cX6_likeSet 9 = .ok (.if_icmp .ge 29, 3) := by decide +kernel
theorem dX6_likeSet_12 : decode cX6_likeSet 12 = .ok (.iload_n 2, 1) := by decide +kernel
theorem dX6_likeSet_13 : decode cX6_likeSet 13 = .ok (.aload_n 0, 1) := by decide +kernel
theorem dX6_likeSet_14 : decode cX6_likeSet 14 = .ok (.iload_n 1, 1) := by decide +kernel
theorem dX6_likeSet_15 : decode cX6_likeSet 15 = .ok (.iload_n 3, 1) := by decide +kernel
theorem dX6_likeSet_16 : decode cX6_likeSet 16 = .ok (.invokevirtual 328, 3) := by decide +kernel
theorem dX6_likeSet_19 : decode cX6_likeSet 19 = .ok (.iconst (-1), 1) := by decide +kernel
theorem dX6_likeSet_20 : decode cX6_likeSet 20 = .ok (.if_icmp .ne 7, 3) := by decide +kernel
theorem dX6_likeSet_23 : decode cX6_likeSet 23 = .ok (.iconst 1, 1) := by decide +kernel
theorem dX6_likeSet_24 : decode cX6_likeSet 24 = .ok (.goto 4, 3) := by decide +kernel
theorem dX6_likeSet_27 : decode cX6_likeSet 27 = .ok (.iconst 0, 1) := by decide +kernel
theorem dX6_likeSet_28 : decode cX6_likeSet 28 = .ok (.iload_n 3, 1) := by decide +kernel
theorem dX6_likeSet_29 : decode cX6_likeSet 29 = .ok (.ishl, 1) := by decide +kernel
theorem dX6_likeSet_30 : decode cX6_likeSet 30 = .ok (.ior, 1) := by decide +kernel
theorem dX6_likeSet_31 : decode cX6_likeSet 31 = .ok (.istore_n 2, 1) := by decide +kernel
theorem dX6_likeSet_32 : decode cX6_likeSet 32 = .ok (.iinc 3 1, 3) := by decide +kernel
theorem dX6_likeSet_35 : decode cX6_likeSet 35 = .ok (.goto (-31), 3) := by decide +kernel
theorem dX6_likeSet_38 : decode cX6_likeSet 38 = .ok (.iload_n 2, 1) := by decide +kernel
theorem dX6_likeSet_39 : decode cX6_likeSet 39 = .ok (.ireturn, 1) := by decide +kernel
theorem dX6_tells_0 : decode cX6_tells 0 = .ok (.iload_n 1, 1) := by decide +kernel
theorem dX6_tells_1 : decode cX6_tells 1 = .ok (.invokestatic 286, 3) := by decide +kernel
theorem dX6_tells_4 : decode cX6_tells 4 = .ok (.ifCond .eq 23, 3) := by decide +kernel
theorem dX6_tells_7 : decode cX6_tells 7 = .ok (.aload_n 0, 1) := by decide +kernel
theorem dX6_tells_8 : decode cX6_tells 8 = .ok (.iload_n 2, 1) := by decide +kernel
theorem dX6_tells_9 : decode cX6_tells 9 = .ok (.invokevirtual 68, 3) := by decide +kernel
theorem dX6_tells_12 : decode cX6_tells 12 = .ok (.ifCond .eq 15, 3) := by decide +kernel
theorem dX6_tells_15 : decode cX6_tells 15 = .ok (.iload_n 3, 1) := by decide +kernel
theorem dX6_tells_16 : decode cX6_tells 16 = .ok (.i2l, 1) := by decide +kernel
theorem dX6_tells_17 : decode cX6_tells 17 = .ok (.lconst 0, 1) := by decide +kernel
theorem dX6_tells_18 : decode cX6_tells 18 = .ok (.ldc2_w 289, 3) := by decide +kernel
theorem dX6_tells_21 : decode cX6_tells 21 = .ok (.invokestatic 64, 3) := by decide +kernel
theorem dX6_tells_24 : decode cX6_tells 24 = .ok (.ifCond .ne 6, 3) := by decide +kernel
theorem dX6_tells_27 : decode cX6_tells 27 = .ok (.bipush (-2), 2) := by decide +kernel
theorem dX6_tells_29 : decode cX6_tells 29 = .ok (.ireturn, 1) := by decide +kernel
theorem dX6_tells_30 : decode cX6_tells 30 = .ok (.aload_n 0, 1) := by decide +kernel
theorem dX6_tells_31 : decode cX6_tells 31 = .ok (.getfield 41, 3) := by decide +kernel
theorem dX6_tells_34 : decode cX6_tells 34 = .ok (.iload_n 1, 1) := by decide +kernel
theorem dX6_tells_35 : decode cX6_tells 35 = .ok (.baload, 1) := by decide +kernel
theorem dX6_tells_36 : decode cX6_tells 36 = .ok (.ifCond .ne 6, 3) := by decide +kernel
theorem dX6_tells_39 : decode cX6_tells 39 = .ok (.bipush (-11), 2) := by decide +kernel
theorem dX6_tells_41 : decode cX6_tells 41 = .ok (.ireturn, 1) := by decide +kernel
theorem dX6_tells_42 : decode cX6_tells 42 = .ok (.aload_n 0, 1) := by decide +kernel
theorem dX6_tells_43 : decode cX6_tells 43 = .ok (.getfield 48, 3) := by decide +kernel
theorem dX6_tells_46 : decode cX6_tells 46 = .ok (.iload_n 1, 1) := by decide +kernel
theorem dX6_tells_47 : decode cX6_tells 47 = .ok (.iaload, 1) := by decide +kernel
theorem dX6_tells_48 : decode cX6_tells 48 = .ok (.aload_n 0, 1) := by decide +kernel
theorem dX6_tells_49 : decode cX6_tells 49 = .ok (.getfield 61, 3) := by decide +kernel
theorem dX6_tells_52 : decode cX6_tells 52 = .ok (.if_icmp .eq 6, 3) := by decide +kernel
theorem dX6_tells_55 : decode cX6_tells 55 = .ok (.bipush (-2), 2) := by decide +kernel
theorem dX6_tells_57 : decode cX6_tells 57 = .ok (.ireturn, 1) := by decide +kernel
theorem dX6_tells_58 : decode cX6_tells 58 = .ok (.iload_n 3, 1) := by decide +kernel
theorem dX6_tells_59 : decode cX6_tells 59 = .ok (.ifCond .eq 9, 3) := by decide +kernel
theorem dX6_tells_62 : decode cX6_tells 62 = .ok (.iload_n 3, 1) := by decide +kernel
theorem dX6_tells_63 : decode cX6_tells 63 = .ok (.bipush 8, 2) := by decide +kernel
theorem dX6_tells_65 : decode cX6_tells 65 = .ok (.if_icmp .ne 22, 3) := by decide +kernel
theorem dX6_tells_68 : decode cX6_tells 68 = .ok (.iload_n 3, 1) := by decide +kernel
theorem dX6_tells_69 : decode cX6_tells 69 = .ok (.ifCond .ne 12, 3) := by decide +kernel
theorem dX6_tells_72 : decode cX6_tells 72 = .ok (.aload_n 0, 1) := by decide +kernel
theorem dX6_tells_73 : decode cX6_tells 73 = .ok (.iload_n 1, 1) := by decide +kernel
theorem dX6_tells_74 : decode cX6_tells 74 = .ok (.iload_n 2, 1) := by decide +kernel
theorem dX6_tells_75 : decode cX6_tells 75 = .ok (.invokevirtual 328, 3) := by decide +kernel
theorem dX6_tells_78 : decode cX6_tells 78 = .ok (.goto 8, 3) := by decide +kernel
theorem dX6_tells_81 : decode cX6_tells 81 = .ok (.aload_n 0, 1) := by decide +kernel
theorem dX6_tells_82 : decode cX6_tells 82 = .ok (.iload_n 1, 1) := by decide +kernel
theorem dX6_tells_83 : decode cX6_tells 83 = .ok (.invokevirtual 331, 3) := by decide +kernel
theorem dX6_tells_86 : decode cX6_tells 86 = .ok (.ireturn, 1) := by decide +kernel
theorem dX6_tells_87 : decode cX6_tells 87 = .ok (.iload_n 3, 1) := by decide +kernel
theorem dX6_tells_88 : decode cX6_tells 88 = .ok (.iconst 1, 1) := by decide +kernel
theorem dX6_tells_89 : decode cX6_tells 89 = .ok (.if_icmp .ne 7, 3) := by decide +kernel
theorem dX6_tells_92 : decode cX6_tells 92 = .ok (.iconst 4, 1) := by decide +kernel
theorem dX6_tells_93 : decode cX6_tells 93 = .ok (.goto 32, 3) := by decide +kernel
theorem dX6_tells_96 : decode cX6_tells 96 = .ok (.iload_n 3, 1) := by decide +kernel
theorem dX6_tells_97 : decode cX6_tells 97 = .ok (.iconst 2, 1) := by decide +kernel
theorem dX6_tells_98 : decode cX6_tells 98 = .ok (.if_icmp .ne 7, 3) := by decide +kernel
theorem dX6_tells_101 : decode cX6_tells 101 = .ok (.iconst 2, 1) := by decide +kernel
theorem dX6_tells_102 : decode cX6_tells 102 = .ok (.goto 23, 3) := by decide +kernel
theorem dX6_tells_105 : decode cX6_tells 105 = .ok (.iload_n 3, 1) := by decide +kernel
theorem dX6_tells_106 : decode cX6_tells 106 = .ok (.iconst 5, 1) := by decide +kernel
theorem dX6_tells_107 : decode cX6_tells 107 = .ok (.if_icmp .ge 7, 3) := by decide +kernel
theorem dX6_tells_110 : decode cX6_tells 110 = .ok (.iconst 3, 1) := by decide +kernel
theorem dX6_tells_111 : decode cX6_tells 111 = .ok (.goto 14, 3) := by decide +kernel
theorem dX6_tells_114 : decode cX6_tells 114 = .ok (.iload_n 3, 1) := by decide +kernel
theorem dX6_tells_115 : decode cX6_tells 115 = .ok (.bipush 7, 2) := by decide +kernel
theorem dX6_tells_117 : decode cX6_tells 117 = .ok (.if_icmp .ge 7, 3) := by decide +kernel
theorem dX6_tells_120 : decode cX6_tells 120 = .ok (.iconst 0, 1) := by decide +kernel
theorem dX6_tells_121 : decode cX6_tells 121 = .ok (.goto 4, 3) := by decide +kernel
theorem dX6_tells_124 : decode cX6_tells 124 = .ok (.iconst 5, 1) := by decide +kernel
theorem dX6_tells_125 : decode cX6_tells 125 = .ok (.istore 4, 2) := by decide +kernel
theorem dX6_tells_127 : decode cX6_tells 127 = .ok (.iload 4, 2) := by decide +kernel
theorem dX6_tells_129 : decode cX6_tells 129 = .ok (.iconst 5, 1) := by decide +kernel
theorem dX6_tells_130 : decode cX6_tells 130 = .ok (.if_icmp .ne 10, 3) := by decide +kernel
theorem dX6_tells_133 : decode cX6_tells 133 = .ok (.aload_n 0, 1) := by decide +kernel
theorem dX6_tells_134 : decode cX6_tells 134 = .ok (.getfield 107, 3) := by decide +kernel
theorem dX6_tells_137 : decode cX6_tells 137 = .ok (.goto 10, 3) := by decide +kernel
theorem dX6_tells_140 : decode cX6_tells 140 = .ok (.aload_n 0, 1) := by decide +kernel
theorem dX6_tells_141 : decode cX6_tells 141 = .ok (.iload_n 2, 1) := by decide +kernel
theorem dX6_tells_142 : decode cX6_tells 142 = .ok (.iload 4, 2) := by decide +kernel
theorem dX6_tells_144 : decode cX6_tells 144 = .ok (.invokevirtual 92, 3) := by decide +kernel
theorem dX6_tells_147 : decode cX6_tells 147 = .ok (.istore 5, 2) := by decide +kernel
theorem dX6_tells_149 : decode cX6_tells 149 = .ok (.iload 4, 2) := by decide +kernel
theorem dX6_tells_151 : decode cX6_tells 151 = .ok (.iconst 5, 1) := by decide +kernel
theorem dX6_tells_152 : decode cX6_tells 152 = .ok (.if_icmp .ne 12, 3) := by decide +kernel
theorem dX6_tells_155 : decode cX6_tells 155 = .ok (.aload_n 0, 1) := by decide +kernel
theorem dX6_tells_156 : decode cX6_tells 156 = .ok (.getfield 58, 3) := by decide +kernel
theorem dX6_tells_159 : decode cX6_tells 159 = .ok (.iconst 1, 1) := by decide +kernel
theorem dX6_tells_160 : decode cX6_tells 160 = .ok (.isub, 1) := by decide +kernel
theorem dX6_tells_161 : decode cX6_tells 161 = .ok (.goto 26, 3) := by decide +kernel
theorem dX6_tells_164 : decode cX6_tells 164 = .ok (.iload 4, 2) := by decide +kernel
theorem dX6_tells_166 : decode cX6_tells 166 = .ok (.iconst 4, 1) := by decide +kernel
theorem dX6_tells_167 : decode cX6_tells 167 = .ok (.if_icmp .ne 7, 3) := by decide +kernel
theorem dX6_tells_170 : decode cX6_tells 170 = .ok (.iconst 5, 1) := by decide +kernel
theorem dX6_tells_171 : decode cX6_tells 171 = .ok (.goto 16, 3) := by decide +kernel
theorem dX6_tells_174 : decode cX6_tells 174 = .ok (.iload 4, 2) := by decide +kernel
theorem dX6_tells_176 : decode cX6_tells 176 = .ok (.iconst 2, 1) := by decide +kernel
theorem dX6_tells_177 : decode cX6_tells 177 = .ok (.if_icmp .ne 8, 3) := by decide +kernel
theorem dX6_tells_180 : decode cX6_tells 180 = .ok (.bipush 9, 2) := by decide +kernel
theorem dX6_tells_182 : decode cX6_tells 182 = .ok (.goto 5, 3) := by decide +kernel
theorem dX6_tells_185 : decode cX6_tells 185 = .ok (.bipush 99, 2) := by decide +kernel
theorem dX6_tells_187 : decode cX6_tells 187 = .ok (.istore 6, 2) := by decide +kernel
theorem dX6_tells_189 : decode cX6_tells 189 = .ok (.iconst 0, 1) := by decide +kernel
theorem dX6_tells_190 : decode cX6_tells 190 = .ok (.istore 7, 2) := by decide +kernel
theorem dX6_tells_192 : decode cX6_tells 192 = .ok (.iconst 0, 1) := by decide +kernel
theorem dX6_tells_193 : decode cX6_tells 193 = .ok (.istore 8, 2) := by decide +kernel
theorem dX6_tells_195 : decode cX6_tells 195 = .ok (.iconst (-1), 1) := by decide +kernel
theorem dX6_tells_196 : decode cX6_tells 196 = .ok (.istore 9, 2) := by decide +kernel
theorem dX6_tells_198 : decode cX6_tells 198 = .ok (.iload 6, 2) := by decide +kernel
theorem dX6_tells_200 : decode cX6_tells 200 = .ok (.istore 10, 2) := by decide +kernel
theorem dX6_tells_202 : decode cX6_tells 202 = .ok (.iload 10, 2) := by decide +kernel
theorem dX6_tells_204 : decode cX6_tells 204 = .ok (.ifCond .lt 55, 3) := by decide +kernel
theorem dX6_tells_207 : decode cX6_tells 207 = .ok (.aload_n 0, 1) := by decide +kernel
theorem dX6_tells_208 : decode cX6_tells 208 = .ok (.iload 4, 2) := by decide +kernel
theorem dX6_tells_210 : decode cX6_tells 210 = .ok (.iload_n 2, 1) := by decide +kernel
theorem dX6_tells_211 : decode cX6_tells 211 = .ok (.iload 10, 2) := by decide +kernel
theorem dX6_tells_213 : decode cX6_tells 213 = .ok (.invokevirtual 96, 3) := by decide +kernel
theorem dX6_tells_216 : decode cX6_tells 216 = .ok (.aload_n 0, 1) := by decide +kernel
theorem dX6_tells_217 : decode cX6_tells 217 = .ok (.iload_n 1, 1) := by decide +kernel
theorem dX6_tells_218 : decode cX6_tells 218 = .ok (.iload_n 2, 1) := by decide +kernel
theorem dX6_tells_219 : decode cX6_tells 219 = .ok (.invokevirtual 328, 3) := by decide +kernel
theorem dX6_tells_222 : decode cX6_tells 222 = .ok (.iconst (-1), 1) := by decide +kernel
theorem dX6_tells_223 : decode cX6_tells 223 = .ok (.if_icmp .ne 30, 3) := by decide +kernel
theorem dX6_tells_226 : decode cX6_tells 226 = .ok (.iload 7, 2) := by decide +kernel
theorem dX6_tells_228 : decode cX6_tells 228 = .ok (.iload 10, 2) := by decide +kernel
theorem dX6_tells_230 : decode cX6_tells 230 = .ok (.bipush 10, 2) := by decide +kernel
theorem dX6_tells_232 : decode cX6_tells 232 = .ok (.if_icmp .ge 10, 3) := by decide +kernel
theorem dX6_tells_235 : decode cX6_tells 235 = .ok (.iconst 1, 1) := by decide +kernel
theorem dX6_tells_236 : decode cX6_tells 236 = .ok (.iload 10, 2) := by decide +kernel
theorem dX6_tells_238 : decode cX6_tells 238 = .ok (.ishl, 1) := by decide +kernel
theorem dX6_tells_239 : decode cX6_tells 239 = .ok (.goto 4, 3) := by decide +kernel
theorem dX6_tells_242 : decode cX6_tells 242 = .ok (.iconst 0, 1) := by decide +kernel
theorem dX6_tells_243 : decode cX6_tells 243 = .ok (.ior, 1) := by decide +kernel
theorem dX6_tells_244 : decode cX6_tells 244 = .ok (.istore 7, 2) := by decide +kernel
theorem dX6_tells_246 : decode cX6_tells 246 = .ok (.iinc 8 1, 3) := by decide +kernel
theorem dX6_tells_249 : decode cX6_tells 249 = .ok (.iload 10, 2) := by decide +kernel
theorem dX6_tells_251 : decode cX6_tells 251 = .ok (.istore 9, 2) := by decide +kernel
theorem dX6_tells_253 : decode cX6_tells 253 = .ok (.iinc 10 (-1), 3) := by decide +kernel
theorem dX6_tells_256 : decode cX6_tells 256 = .ok (.goto (-54), 3) := by decide +kernel
theorem dX6_tells_259 : decode cX6_tells 259 = .ok (.aload_n 0, 1) := by decide +kernel
theorem dX6_tells_260 : decode cX6_tells 260 = .ok (.iload 4, 2) := by decide +kernel
theorem dX6_tells_262 : decode cX6_tells 262 = .ok (.iload_n 2, 1) := by decide +kernel
theorem dX6_tells_263 : decode cX6_tells 263 = .ok (.iload 5, 2) := by decide +kernel
theorem dX6_tells_265 : decode cX6_tells 265 = .ok (.invokevirtual 96, 3) := by decide +kernel
theorem dX6_tells_268 : decode cX6_tells 268 = .ok (.iload_n 3, 1) := by decide +kernel
theorem dX6_tells_269 : decode cX6_tells 269 = .ok (.iconst 3, 1) := by decide +kernel
theorem dX6_tells_270 : decode cX6_tells 270 = .ok (.if_icmp .eq 8, 3) := by decide +kernel
theorem dX6_tells_273 : decode cX6_tells 273 = .ok (.iload_n 3, 1) := by decide +kernel
theorem dX6_tells_274 : decode cX6_tells 274 = .ok (.iconst 5, 1) := by decide +kernel
theorem dX6_tells_275 : decode cX6_tells 275 = .ok (.if_icmp .ne 8, 3) := by decide +kernel
theorem dX6_tells_278 : decode cX6_tells 278 = .ok (.iload 8, 2) := by decide +kernel
theorem dX6_tells_280 : decode cX6_tells 280 = .ok (.goto 21, 3) := by decide +kernel
theorem dX6_tells_283 : decode cX6_tells 283 = .ok (.iload_n 3, 1) := by decide +kernel
theorem dX6_tells_284 : decode cX6_tells 284 = .ok (.iconst 4, 1) := by decide +kernel
theorem dX6_tells_285 : decode cX6_tells 285 = .ok (.if_icmp .eq 9, 3) := by decide +kernel
theorem dX6_tells_288 : decode cX6_tells 288 = .ok (.iload_n 3, 1) := by decide +kernel
theorem dX6_tells_289 : decode cX6_tells 289 = .ok (.bipush 6, 2) := by decide +kernel
theorem dX6_tells_291 : decode cX6_tells 291 = .ok (.if_icmp .ne 8, 3) := by decide +kernel
theorem dX6_tells_294 : decode cX6_tells 294 = .ok (.iload 9, 2) := by decide +kernel
theorem dX6_tells_296 : decode cX6_tells 296 = .ok (.goto 5, 3) := by decide +kernel
theorem dX6_tells_299 : decode cX6_tells 299 = .ok (.iload 7, 2) := by decide +kernel
theorem dX6_tells_301 : decode cX6_tells 301 = .ok (.ireturn, 1) := by decide +kernel
theorem dX6_film_0 : decode cX6_film 0 = .ok (.iload_n 1, 1) := by decide +kernel
theorem dX6_film_1 : decode cX6_film 1 = .ok (.invokestatic 286, 3) := by decide +kernel
theorem dX6_film_4 : decode cX6_film 4 = .ok (.ifCond .eq 11, 3) := by decide +kernel
theorem dX6_film_7 : decode cX6_film 7 = .ok (.aload_n 0, 1) := by decide +kernel
theorem dX6_film_8 : decode cX6_film 8 = .ok (.iload_n 2, 1) := by decide +kernel
theorem dX6_film_9 : decode cX6_film 9 = .ok (.invokevirtual 68, 3) := by decide +kernel
theorem dX6_film_12 : decode cX6_film 12 = .ok (.ifCond .ne 6, 3) := by decide +kernel
theorem dX6_film_15 : decode cX6_film 15 = .ok (.bipush (-2), 2) := by decide +kernel
theorem dX6_film_17 : decode cX6_film 17 = .ok (.ireturn, 1) := by decide +kernel
theorem dX6_film_18 : decode cX6_film 18 = .ok (.aload_n 0, 1) := by decide +kernel
theorem dX6_film_19 : decode cX6_film 19 = .ok (.iload_n 1, 1) := by decide +kernel
theorem dX6_film_20 : decode cX6_film 20 = .ok (.iconst 1, 1) := by decide +kernel
theorem dX6_film_21 : decode cX6_film 21 = .ok (.aload_n 0, 1) := by decide +kernel
theorem dX6_film_22 : decode cX6_film 22 = .ok (.getfield 61, 3) := by decide +kernel
theorem dX6_film_25 : decode cX6_film 25 = .ok (.invokevirtual 334, 3) := by decide +kernel
theorem dX6_film_28 : decode cX6_film 28 = .ok (.pop, 1) := by decide +kernel
theorem dX6_film_29 : decode cX6_film 29 = .ok (.iconst 0, 1) := by decide +kernel
theorem dX6_film_30 : decode cX6_film 30 = .ok (.istore_n 3, 1) := by decide +kernel
theorem dX6_film_31 : decode cX6_film 31 = .ok (.iload_n 3, 1) := by decide +kernel
theorem dX6_film_32 : decode cX6_film 32 = .ok (.aload_n 0, 1) := by decide +kernel
theorem dX6_film_33 : decode cX6_film 33 = .ok (.getfield 61, 3) := by decide +kernel
theorem dX6_film_36 : decode cX6_film 36 = .ok (.if_icmp .ge 35, 3) := by decide +kernel
theorem dX6_film_39 : decode cX6_film 39 = .ok (.aload_n 0, 1) := by decide +kernel
theorem dX6_film_40 : decode cX6_film 40 = .ok (.getfield 51, 3) := by decide +kernel
theorem dX6_film_43 : decode cX6_film 43 = .ok (.bipush 40, 2) := by decide +kernel
theorem dX6_film_45 : decode cX6_film 45 = .ok (.iload_n 1, 1) := by decide +kernel
theorem dX6_film_46 : decode cX6_film 46 = .ok (.imul, 1) := by decide +kernel
theorem dX6_film_47 : decode cX6_film 47 = .ok (.iload_n 3, 1) := by decide +kernel
theorem dX6_film_48 : decode cX6_film 48 = .ok (.iadd, 1) := by decide +kernel
theorem dX6_film_49 : decode cX6_film 49 = .ok (.iload_n 3, 1) := by decide +kernel
theorem dX6_film_50 : decode cX6_film 50 = .ok (.iload_n 2, 1) := by decide +kernel
theorem dX6_film_51 : decode cX6_film 51 = .ok (.if_icmp .ne 7, 3) := by decide +kernel
theorem dX6_film_54 : decode cX6_film 54 = .ok (.iconst 0, 1) := by decide +kernel
theorem dX6_film_55 : decode cX6_film 55 = .ok (.goto 9, 3) := by decide +kernel
theorem dX6_film_58 : decode cX6_film 58 = .ok (.aload_n 0, 1) := by decide +kernel
theorem dX6_film_59 : decode cX6_film 59 = .ok (.iload_n 2, 1) := by decide +kernel
theorem dX6_film_60 : decode cX6_film 60 = .ok (.iload_n 3, 1) := by decide +kernel
theorem dX6_film_61 : decode cX6_film 61 = .ok (.invokevirtual 256, 3) := by decide +kernel
theorem dX6_film_64 : decode cX6_film 64 = .ok (.iastore, 1) := by decide +kernel
theorem dX6_film_65 : decode cX6_film 65 = .ok (.iinc 3 1, 3) := by decide +kernel
theorem dX6_film_68 : decode cX6_film 68 = .ok (.goto (-37), 3) := by decide +kernel
theorem dX6_film_71 : decode cX6_film 71 = .ok (.aload_n 0, 1) := by decide +kernel
theorem dX6_film_72 : decode cX6_film 72 = .ok (.getfield 61, 3) := by decide +kernel
theorem dX6_film_75 : decode cX6_film 75 = .ok (.ireturn, 1) := by decide +kernel
theorem dX6_hasDrawn_0 : decode cX6_hasDrawn 0 = .ok (.aload_n 0, 1) := by decide +kernel
theorem dX6_hasDrawn_1 : decode cX6_hasDrawn 1 = .ok (.invokevirtual 275, 3) := by decide +kernel
theorem dX6_hasDrawn_4 : decode cX6_hasDrawn 4 = .ok (.iload_n 1, 1) := by decide +kernel
theorem dX6_hasDrawn_5 : decode cX6_hasDrawn 5 = .ok (.istore 4, 2) := by decide +kernel
theorem dX6_hasDrawn_7 : decode cX6_hasDrawn 7 = .ok (.iconst 0, 1) := by decide +kernel
theorem dX6_hasDrawn_8 : decode cX6_hasDrawn 8 = .ok (.istore 5, 2) := by decide +kernel
theorem dX6_hasDrawn_10 : decode cX6_hasDrawn 10 = .ok (.iload 5, 2) := by decide +kernel
theorem dX6_hasDrawn_12 : decode cX6_hasDrawn 12 = .ok (.iload_n 3, 1) := by decide +kernel
theorem dX6_hasDrawn_13 : decode cX6_hasDrawn 13 = .ok (.if_icmp .ge 74, 3) := by decide +kernel
theorem dX6_hasDrawn_16 : decode cX6_hasDrawn 16 = .ok (.aload_n 0, 1) := by decide +kernel
theorem dX6_hasDrawn_17 : decode cX6_hasDrawn 17 = .ok (.getfield 61, 3) := by decide +kernel
theorem dX6_hasDrawn_20 : decode cX6_hasDrawn 20 = .ok (.iconst 1, 1) := by decide +kernel
theorem dX6_hasDrawn_21 : decode cX6_hasDrawn 21 = .ok (.if_icmp .le 66, 3) := by decide +kernel
theorem dX6_hasDrawn_24 : decode cX6_hasDrawn 24 = .ok (.iload 4, 2) := by decide +kernel
theorem dX6_hasDrawn_26 : decode cX6_hasDrawn 26 = .ok (.ldc_w 337, 3) := by decide +kernel
theorem dX6_hasDrawn_29 : decode cX6_hasDrawn 29 = .ok (.imul, 1) := by decide +kernel
theorem dX6_hasDrawn_30 : decode cX6_hasDrawn 30 = .ok (.sipush 12345, 3) := by decide +kernel
theorem dX6_hasDrawn_33 : decode cX6_hasDrawn 33 = .ok (.iadd, 1) := by decide +kernel
theorem dX6_hasDrawn_34 : decode cX6_hasDrawn 34 = .ok (.istore 4, 2) := by decide +kernel
theorem dX6_hasDrawn_36 : decode cX6_hasDrawn 36 = .ok (.iload 4, 2) := by decide +kernel
theorem dX6_hasDrawn_38 : decode cX6_hasDrawn 38 = .ok (.bipush 9, 2) := by decide +kernel
theorem dX6_hasDrawn_40 : decode cX6_hasDrawn 40 = .ok (.iushr, 1) := by decide +kernel
theorem dX6_hasDrawn_41 : decode cX6_hasDrawn 41 = .ok (.aload_n 0, 1) := by decide +kernel
theorem dX6_hasDrawn_42 : decode cX6_hasDrawn 42 = .ok (.getfield 61, 3) := by decide +kernel
theorem dX6_hasDrawn_45 : decode cX6_hasDrawn 45 = .ok (.irem, 1) := by decide +kernel
theorem dX6_hasDrawn_46 : decode cX6_hasDrawn 46 = .ok (.istore 6, 2) := by decide +kernel
theorem dX6_hasDrawn_48 : decode cX6_hasDrawn 48 = .ok (.iload 6, 2) := by decide +kernel
theorem dX6_hasDrawn_50 : decode cX6_hasDrawn 50 = .ok (.iconst 1, 1) := by decide +kernel
theorem dX6_hasDrawn_51 : decode cX6_hasDrawn 51 = .ok (.iadd, 1) := by decide +kernel
theorem dX6_hasDrawn_52 : decode cX6_hasDrawn 52 = .ok (.iload 4, 2) := by decide +kernel
theorem dX6_hasDrawn_54 : decode cX6_hasDrawn 54 = .ok (.bipush 17, 2) := by decide +kernel
theorem dX6_hasDrawn_56 : decode cX6_hasDrawn 56 = .ok (.iushr, 1) := by decide +kernel
theorem dX6_hasDrawn_57 : decode cX6_hasDrawn 57 = .ok (.aload_n 0, 1) := by decide +kernel
theorem dX6_hasDrawn_58 : decode cX6_hasDrawn 58 = .ok (.getfield 61, 3) := by decide +kernel
theorem dX6_hasDrawn_61 : decode cX6_hasDrawn 61 = .ok (.iconst 1, 1) := by decide +kernel
theorem dX6_hasDrawn_62 : decode cX6_hasDrawn 62 = .ok (.isub, 1) := by decide +kernel
theorem dX6_hasDrawn_63 : decode cX6_hasDrawn 63 = .ok (.irem, 1) := by decide +kernel
theorem dX6_hasDrawn_64 : decode cX6_hasDrawn 64 = .ok (.iadd, 1) := by decide +kernel
theorem dX6_hasDrawn_65 : decode cX6_hasDrawn 65 = .ok (.aload_n 0, 1) := by decide +kernel
theorem dX6_hasDrawn_66 : decode cX6_hasDrawn 66 = .ok (.getfield 61, 3) := by decide +kernel
theorem dX6_hasDrawn_69 : decode cX6_hasDrawn 69 = .ok (.irem, 1) := by decide +kernel
theorem dX6_hasDrawn_70 : decode cX6_hasDrawn 70 = .ok (.istore 7, 2) := by decide +kernel
theorem dX6_hasDrawn_72 : decode cX6_hasDrawn 72 = .ok (.aload_n 0, 1) := by decide +kernel
theorem dX6_hasDrawn_73 : decode cX6_hasDrawn 73 = .ok (.iload 6, 2) := by decide +kernel
theorem dX6_hasDrawn_75 : decode cX6_hasDrawn 75 = .ok (.iload 7, 2) := by decide +kernel
theorem dX6_hasDrawn_77 : decode cX6_hasDrawn 77 = .ok (.invokevirtual 278, 3) := by decide +kernel
theorem dX6_hasDrawn_80 : decode cX6_hasDrawn 80 = .ok (.pop, 1) := by decide +kernel
theorem dX6_hasDrawn_81 : decode cX6_hasDrawn 81 = .ok (.iinc 5 1, 3) := by decide +kernel
theorem dX6_hasDrawn_84 : decode cX6_hasDrawn 84 = .ok (.goto (-74), 3) := by decide +kernel
theorem dX6_hasDrawn_87 : decode cX6_hasDrawn 87 = .ok (.aload_n 0, 1) := by decide +kernel
theorem dX6_hasDrawn_88 : decode cX6_hasDrawn 88 = .ok (.iload_n 2, 1) := by decide +kernel
theorem dX6_hasDrawn_89 : decode cX6_hasDrawn 89 = .ok (.invokevirtual 112, 3) := by decide +kernel
theorem dX6_hasDrawn_92 : decode cX6_hasDrawn 92 = .ok (.istore 5, 2) := by decide +kernel
theorem dX6_hasDrawn_94 : decode cX6_hasDrawn 94 = .ok (.aload_n 0, 1) := by decide +kernel
theorem dX6_hasDrawn_95 : decode cX6_hasDrawn 95 = .ok (.invokevirtual 281, 3) := by decide +kernel
theorem dX6_hasDrawn_98 : decode cX6_hasDrawn 98 = .ok (.iload 5, 2) := by decide +kernel
theorem dX6_hasDrawn_100 : decode cX6_hasDrawn 100 = .ok (.ireturn, 1) := by decide +kernel
theorem dX6_drawn_0 : decode cX6_drawn 0 = .ok (.aload_n 0, 1) := by decide +kernel
theorem dX6_drawn_1 : decode cX6_drawn 1 = .ok (.iload_n 2, 1) := by decide +kernel
theorem dX6_drawn_2 : decode cX6_drawn 2 = .ok (.invokevirtual 68, 3) := by decide +kernel
theorem dX6_drawn_5 : decode cX6_drawn 5 = .ok (.ifCond .eq 25, 3) := by decide +kernel
theorem dX6_drawn_8 : decode cX6_drawn 8 = .ok (.iload_n 3, 1) := by decide +kernel
theorem dX6_drawn_9 : decode cX6_drawn 9 = .ok (.i2l, 1) := by decide +kernel
theorem dX6_drawn_10 : decode cX6_drawn 10 = .ok (.lconst 0, 1) := by decide +kernel
theorem dX6_drawn_11 : decode cX6_drawn 11 = .ok (.ldc2_w 231, 3) := by decide +kernel
theorem dX6_drawn_14 : decode cX6_drawn 14 = .ok (.invokestatic 64, 3) := by decide +kernel
theorem dX6_drawn_17 : decode cX6_drawn 17 = .ok (.ifCond .eq 13, 3) := by decide +kernel
theorem dX6_drawn_20 : decode cX6_drawn 20 = .ok (.aload_n 0, 1) := by decide +kernel
theorem dX6_drawn_21 : decode cX6_drawn 21 = .ok (.iload_n 1, 1) := by decide +kernel
theorem dX6_drawn_22 : decode cX6_drawn 22 = .ok (.iload_n 2, 1) := by decide +kernel
theorem dX6_drawn_23 : decode cX6_drawn 23 = .ok (.iload_n 3, 1) := by decide +kernel
theorem dX6_drawn_24 : decode cX6_drawn 24 = .ok (.invokevirtual 338, 3) := by decide +kernel
theorem dX6_drawn_27 : decode cX6_drawn 27 = .ok (.goto 5, 3) := by decide +kernel
theorem dX6_drawn_30 : decode cX6_drawn 30 = .ok (.bipush (-2), 2) := by decide +kernel
theorem dX6_drawn_32 : decode cX6_drawn 32 = .ok (.ireturn, 1) := by decide +kernel
theorem dX6_chance_0 : decode cX6_chance 0 = .ok (.iload_n 2, 1) := by decide +kernel
theorem dX6_chance_1 : decode cX6_chance 1 = .ok (.i2l, 1) := by decide +kernel
theorem dX6_chance_2 : decode cX6_chance 2 = .ok (.lconst 1, 1) := by decide +kernel
theorem dX6_chance_3 : decode cX6_chance 3 = .ok (.ldc2_w 341, 3) := by decide +kernel
theorem dX6_chance_6 : decode cX6_chance 6 = .ok (.invokestatic 64, 3) := by decide +kernel
theorem dX6_chance_9 : decode cX6_chance 9 = .ok (.ifCond .eq 35, 3) := by decide +kernel
theorem dX6_chance_12 : decode cX6_chance 12 = .ok (.aload_n 0, 1) := by decide +kernel
theorem dX6_chance_13 : decode cX6_chance 13 = .ok (.iload_n 3, 1) := by decide +kernel
theorem dX6_chance_14 : decode cX6_chance 14 = .ok (.invokevirtual 68, 3) := by decide +kernel
theorem dX6_chance_17 : decode cX6_chance 17 = .ok (.ifCond .eq 27, 3) := by decide +kernel
theorem dX6_chance_20 : decode cX6_chance 20 = .ok (.iload 4, 2) := by decide +kernel
theorem dX6_chance_22 : decode cX6_chance 22 = .ok (.i2l, 1) := by decide +kernel
theorem dX6_chance_23 : decode cX6_chance 23 = .ok (.lconst 0, 1) := by decide +kernel
theorem dX6_chance_24 : decode cX6_chance 24 = .ok (.ldc2_w 289, 3) := by decide +kernel
theorem dX6_chance_27 : decode cX6_chance 27 = .ok (.invokestatic 64, 3) := by decide +kernel
theorem dX6_chance_30 : decode cX6_chance 30 = .ok (.ifCond .eq 14, 3) := by decide +kernel
theorem dX6_chance_33 : decode cX6_chance 33 = .ok (.iload 5, 2) := by decide +kernel
theorem dX6_chance_35 : decode cX6_chance 35 = .ok (.i2l, 1) := by decide +kernel
theorem dX6_chance_36 : decode cX6_chance 36 = .ok (.lconst 0, 1) := by decide +kernel
theorem dX6_chance_37 : decode cX6_chance 37 = .ok (.lconst 1, 1) := by decide +kernel
theorem dX6_chance_38 : decode cX6_chance 38 = .ok (.invokestatic 64, 3) := by decide +kernel
theorem dX6_chance_41 : decode cX6_chance 41 = .ok (.ifCond .ne 7, 3) := by decide +kernel
theorem dX6_chance_44 : decode cX6_chance 44 = .ok (.ldc2_w 343, 3) := by decide +kernel
theorem dX6_chance_47 : decode cX6_chance 47 = .ok (.lreturn, 1) := by decide +kernel
theorem dX6_chance_48 : decode cX6_chance 48 = .ok (.lconst 0, 1) := by decide +kernel
theorem dX6_chance_49 : decode cX6_chance 49 = .ok (.lstore 6, 2) := by decide +kernel
theorem dX6_chance_51 : decode cX6_chance 51 = .ok (.iconst 0, 1) := by decide +kernel
theorem dX6_chance_52 : decode cX6_chance 52 = .ok (.istore 8, 2) := by decide +kernel
theorem dX6_chance_54 : decode cX6_chance 54 = .ok (.iload 8, 2) := by decide +kernel
theorem dX6_chance_56 : decode cX6_chance 56 = .ok (.iload_n 2, 1) := by decide +kernel
theorem dX6_chance_57 : decode cX6_chance 57 = .ok (.if_icmp .ge 38, 3) := by decide +kernel
theorem dX6_chance_60 : decode cX6_chance 60 = .ok (.lload 6, 2) := by decide +kernel
theorem dX6_chance_62 : decode cX6_chance 62 = .ok (.aload_n 0, 1) := by decide +kernel
theorem dX6_chance_63 : decode cX6_chance 63 = .ok (.iload_n 1, 1) := by decide +kernel
theorem dX6_chance_64 : decode cX6_chance 64 = .ok (.iload 8, 2) := by decide +kernel
theorem dX6_chance_66 : decode cX6_chance 66 = .ok (.iadd, 1) := by decide +kernel
theorem dX6_chance_67 : decode cX6_chance 67 = .ok (.iload_n 3, 1) := by decide +kernel
theorem dX6_chance_68 : decode cX6_chance 68 = .ok (.bipush 6, 2) := by decide +kernel
theorem dX6_chance_70 : decode cX6_chance 70 = .ok (.invokevirtual 338, 3) := by decide +kernel
theorem dX6_chance_73 : decode cX6_chance 73 = .ok (.invokestatic 116, 3) := by decide +kernel
theorem dX6_chance_76 : decode cX6_chance 76 = .ok (.iload 4, 2) := by decide +kernel
theorem dX6_chance_78 : decode cX6_chance 78 = .ok (.if_icmp .lt 7, 3) := by decide +kernel
theorem dX6_chance_81 : decode cX6_chance 81 = .ok (.lconst 1, 1) := by decide +kernel
theorem dX6_chance_82 : decode cX6_chance 82 = .ok (.goto 4, 3) := by decide +kernel
theorem dX6_chance_85 : decode cX6_chance 85 = .ok (.lconst 0, 1) := by decide +kernel
theorem dX6_chance_86 : decode cX6_chance 86 = .ok (.ladd, 1) := by decide +kernel
theorem dX6_chance_87 : decode cX6_chance 87 = .ok (.lstore 6, 2) := by decide +kernel
theorem dX6_chance_89 : decode cX6_chance 89 = .ok (.iinc 8 1, 3) := by decide +kernel
theorem dX6_chance_92 : decode cX6_chance 92 = .ok (.goto (-38), 3) := by decide +kernel
theorem dX6_chance_95 : decode cX6_chance 95 = .ok (.lload 6, 2) := by decide +kernel
theorem dX6_chance_97 : decode cX6_chance 97 = .ok (.lstore 8, 2) := by decide +kernel
theorem dX6_chance_99 : decode cX6_chance 99 = .ok (.iload_n 2, 1) := by decide +kernel
theorem dX6_chance_100 : decode cX6_chance 100 = .ok (.i2l, 1) := by decide +kernel
theorem dX6_chance_101 : decode cX6_chance 101 = .ok (.lstore 10, 2) := by decide +kernel
theorem dX6_chance_103 : decode cX6_chance 103 = .ok (.lload 10, 2) := by decide +kernel
theorem dX6_chance_105 : decode cX6_chance 105 = .ok (.lconst 0, 1) := by decide +kernel
theorem dX6_chance_106 : decode cX6_chance 106 = .ok (.lcmp, 1) := by decide +kernel
theorem dX6_chance_107 : decode cX6_chance 107 = .ok (.ifCond .eq 21, 3) := by decide +kernel
theorem dX6_chance_110 : decode cX6_chance 110 = .ok (.lload 8, 2) := by decide +kernel
theorem dX6_chance_112 : decode cX6_chance 112 = .ok (.lload 10, 2) := by decide +kernel
theorem dX6_chance_114 : decode cX6_chance 114 = .ok (.lrem, 1) := by decide +kernel
theorem dX6_chance_115 : decode cX6_chance 115 = .ok (.lstore 12, 2) := by decide +kernel
theorem dX6_chance_117 : decode cX6_chance 117 = .ok (.lload 10, 2) := by decide +kernel
theorem dX6_chance_119 : decode cX6_chance 119 = .ok (.lstore 8, 2) := by decide +kernel
theorem dX6_chance_121 : decode cX6_chance 121 = .ok (.lload 12, 2) := by decide +kernel
theorem dX6_chance_123 : decode cX6_chance 123 = .ok (.lstore 10, 2) := by decide +kernel
theorem dX6_chance_125 : decode cX6_chance 125 = .ok (.goto (-22), 3) := by decide +kernel
theorem dX6_chance_128 : decode cX6_chance 128 = .ok (.iload 5, 2) := by decide +kernel
theorem dX6_chance_130 : decode cX6_chance 130 = .ok (.ifCond .ne 11, 3) := by decide +kernel
theorem dX6_chance_133 : decode cX6_chance 133 = .ok (.lload 6, 2) := by decide +kernel
theorem dX6_chance_135 : decode cX6_chance 135 = .ok (.lload 8, 2) := by decide +kernel
theorem dX6_chance_137 : decode cX6_chance 137 = .ok (.ldiv, 1) := by decide +kernel
theorem dX6_chance_138 : decode cX6_chance 138 = .ok (.goto 8, 3) := by decide +kernel
theorem dX6_chance_141 : decode cX6_chance 141 = .ok (.iload_n 2, 1) := by decide +kernel
theorem dX6_chance_142 : decode cX6_chance 142 = .ok (.i2l, 1) := by decide +kernel
theorem dX6_chance_143 : decode cX6_chance 143 = .ok (.lload 8, 2) := by decide +kernel
theorem dX6_chance_145 : decode cX6_chance 145 = .ok (.ldiv, 1) := by decide +kernel
theorem dX6_chance_146 : decode cX6_chance 146 = .ok (.lreturn, 1) := by decide +kernel
theorem dX6_image_0 : decode cX6_image 0 = .ok (.iconst 0, 1) := by decide +kernel
theorem dX6_image_1 : decode cX6_image 1 = .ok (.istore_n 1, 1) := by decide +kernel
theorem dX6_image_2 : decode cX6_image 2 = .ok (.iload_n 1, 1) := by decide +kernel
theorem dX6_image_3 : decode cX6_image 3 = .ok (.bipush 24, 2) := by decide +kernel
theorem dX6_image_5 : decode cX6_image 5 = .ok (.if_icmp .ge 21, 3) := by decide +kernel
theorem dX6_image_8 : decode cX6_image 8 = .ok (.aload_n 0, 1) := by decide +kernel
theorem dX6_image_9 : decode cX6_image 9 = .ok (.getfield 35, 3) := by decide +kernel
theorem dX6_image_12 : decode cX6_image 12 = .ok (.iload_n 1, 1) := by decide +kernel
theorem dX6_image_13 : decode cX6_image 13 = .ok (.aload_n 0, 1) := by decide +kernel
theorem dX6_image_14 : decode cX6_image 14 = .ok (.getfield 29, 3) := by decide +kernel
theorem dX6_image_17 : decode cX6_image 17 = .ok (.iload_n 1, 1) := by decide +kernel
theorem dX6_image_18 : decode cX6_image 18 = .ok (.iaload, 1) := by decide +kernel
theorem dX6_image_19 : decode cX6_image 19 = .ok (.iastore, 1) := by decide +kernel
theorem dX6_image_20 : decode cX6_image 20 = .ok (.iinc 1 1, 3) := by decide +kernel
theorem dX6_image_23 : decode cX6_image 23 = .ok (.goto (-21), 3) := by decide +kernel
theorem dX6_image_26 : decode cX6_image 26 = .ok (.aload_n 0, 1) := by decide +kernel
theorem dX6_image_27 : decode cX6_image 27 = .ok (.aload_n 0, 1) := by decide +kernel
theorem dX6_image_28 : decode cX6_image 28 = .ok (.getfield 23, 3) := by decide +kernel
theorem dX6_image_31 : decode cX6_image 31 = .ok (.putfield 345, 3) := by decide +kernel
theorem dX6_image_34 : decode cX6_image 34 = .ok (.aload_n 0, 1) := by decide +kernel
theorem dX6_image_35 : decode cX6_image 35 = .ok (.aload_n 0, 1) := by decide +kernel
theorem dX6_image_36 : decode cX6_image 36 = .ok (.getfield 61, 3) := by decide +kernel
theorem dX6_image_39 : decode cX6_image 39 = .ok (.putfield 38, 3) := by decide +kernel
theorem dX6_image_42 : decode cX6_image 42 = .ok (.aload_n 0, 1) := by decide +kernel
theorem dX6_image_43 : decode cX6_image 43 = .ok (.aload_n 0, 1) := by decide +kernel
theorem dX6_image_44 : decode cX6_image 44 = .ok (.getfield 100, 3) := by decide +kernel
theorem dX6_image_47 : decode cX6_image 47 = .ok (.putfield 348, 3) := by decide +kernel
theorem dX6_image_50 : decode cX6_image 50 = .ok (.aload_n 0, 1) := by decide +kernel
theorem dX6_image_51 : decode cX6_image 51 = .ok (.aload_n 0, 1) := by decide +kernel
theorem dX6_image_52 : decode cX6_image 52 = .ok (.getfield 107, 3) := by decide +kernel
theorem dX6_image_55 : decode cX6_image 55 = .ok (.putfield 351, 3) := by decide +kernel
theorem dX6_image_58 : decode cX6_image 58 = .ok (.aload_n 0, 1) := by decide +kernel
theorem dX6_image_59 : decode cX6_image 59 = .ok (.getfield 61, 3) := by decide +kernel
theorem dX6_image_62 : decode cX6_image 62 = .ok (.ireturn, 1) := by decide +kernel
theorem dX6_back_0 : decode cX6_back 0 = .ok (.aload_n 0, 1) := by decide +kernel
theorem dX6_back_1 : decode cX6_back 1 = .ok (.getfield 38, 3) := by decide +kernel
theorem dX6_back_4 : decode cX6_back 4 = .ok (.iconst (-1), 1) := by decide +kernel
theorem dX6_back_5 : decode cX6_back 5 = .ok (.if_icmp .ne 6, 3) := by decide +kernel
theorem dX6_back_8 : decode cX6_back 8 = .ok (.bipush (-3), 2) := by decide +kernel
theorem dX6_back_10 : decode cX6_back 10 = .ok (.ireturn, 1) := by decide +kernel
theorem dX6_back_11 : decode cX6_back 11 = .ok (.iconst 0, 1) := by decide +kernel
theorem dX6_back_12 : decode cX6_back 12 = .ok (.istore_n 1, 1) := by decide +kernel
theorem dX6_back_13 : decode cX6_back 13 = .ok (.iload_n 1, 1) := by decide +kernel
theorem dX6_back_14 : decode cX6_back 14 = .ok (.bipush 24, 2) := by decide +kernel
theorem dX6_back_16 : decode cX6_back 16 = .ok (.if_icmp .ge 21, 3) := by decide +kernel
theorem dX6_back_19 : decode cX6_back 19 = .ok (.aload_n 0, 1) := by decide +kernel
theorem dX6_back_20 : decode cX6_back 20 = .ok (.getfield 29, 3) := by decide +kernel
theorem dX6_back_23 : decode cX6_back 23 = .ok (.iload_n 1, 1) := by decide +kernel
theorem dX6_back_24 : decode cX6_back 24 = .ok (.aload_n 0, 1) := by decide +kernel
theorem dX6_back_25 : decode cX6_back 25 = .ok (.getfield 35, 3) := by decide +kernel
theorem dX6_back_28 : decode cX6_back 28 = .ok (.iload_n 1, 1) := by decide +kernel
theorem dX6_back_29 : decode cX6_back 29 = .ok (.iaload, 1) := by decide +kernel
theorem dX6_back_30 : decode cX6_back 30 = .ok (.iastore, 1) := by decide +kernel
theorem dX6_back_31 : decode cX6_back 31 = .ok (.iinc 1 1, 3) := by decide +kernel
theorem dX6_back_34 : decode cX6_back 34 = .ok (.goto (-21), 3) := by decide +kernel
theorem dX6_back_37 : decode cX6_back 37 = .ok (.aload_n 0, 1) := by decide +kernel
theorem dX6_back_38 : decode cX6_back 38 = .ok (.aload_n 0, 1) := by decide +kernel
theorem dX6_back_39 : decode cX6_back 39 = .ok (.getfield 345, 3) := by decide +kernel
theorem dX6_back_42 : decode cX6_back 42 = .ok (.putfield 23, 3) := by decide +kernel
theorem dX6_back_45 : decode cX6_back 45 = .ok (.aload_n 0, 1) := by decide +kernel
theorem dX6_back_46 : decode cX6_back 46 = .ok (.aload_n 0, 1) := by decide +kernel
theorem dX6_back_47 : decode cX6_back 47 = .ok (.getfield 38, 3) := by decide +kernel
theorem dX6_back_50 : decode cX6_back 50 = .ok (.putfield 61, 3) := by decide +kernel
theorem dX6_back_53 : decode cX6_back 53 = .ok (.aload_n 0, 1) := by decide +kernel
theorem dX6_back_54 : decode cX6_back 54 = .ok (.aload_n 0, 1) := by decide +kernel
theorem dX6_back_55 : decode cX6_back 55 = .ok (.getfield 348, 3) := by decide +kernel
theorem dX6_back_58 : decode cX6_back 58 = .ok (.putfield 100, 3) := by decide +kernel
theorem dX6_back_61 : decode cX6_back 61 = .ok (.aload_n 0, 1) := by decide +kernel
theorem dX6_back_62 : decode cX6_back 62 = .ok (.aload_n 0, 1) := by decide +kernel
theorem dX6_back_63 : decode cX6_back 63 = .ok (.getfield 351, 3) := by decide +kernel
theorem dX6_back_66 : decode cX6_back 66 = .ok (.putfield 107, 3) := by decide +kernel
theorem dX6_back_69 : decode cX6_back 69 = .ok (.aload_n 0, 1) := by decide +kernel
theorem dX6_back_70 : decode cX6_back 70 = .ok (.getfield 61, 3) := by decide +kernel
theorem dX6_back_73 : decode cX6_back 73 = .ok (.ireturn, 1) := by decide +kernel
theorem dX6_count_0 : decode cX6_count 0 = .ok (.iload_n 1, 1) := by decide +kernel
theorem dX6_count_1 : decode cX6_count 1 = .ok (.i2l, 1) := by decide +kernel
theorem dX6_count_2 : decode cX6_count 2 = .ok (.lconst 0, 1) := by decide +kernel
theorem dX6_count_3 : decode cX6_count 3 = .ok (.ldc2_w 110, 3) := by decide +kernel
theorem dX6_count_6 : decode cX6_count 6 = .ok (.invokestatic 64, 3) := by decide +kernel
theorem dX6_count_9 : decode cX6_count 9 = .ok (.ifCond .ne 6, 3) := by decide +kernel
theorem dX6_count_12 : decode cX6_count 12 = .ok (.bipush (-2), 2) := by decide +kernel
theorem dX6_count_14 : decode cX6_count 14 = .ok (.ireturn, 1) := by decide +kernel
theorem dX6_count_15 : decode cX6_count 15 = .ok (.iload_n 1, 1) := by decide +kernel
theorem dX6_count_16 : decode cX6_count 16 = .ok (.ifCond .ne 10, 3) := by decide +kernel
theorem dX6_count_19 : decode cX6_count 19 = .ok (.aload_n 0, 1) := by decide +kernel
theorem dX6_count_20 : decode cX6_count 20 = .ok (.getfield 61, 3) := by decide +kernel
theorem dX6_count_23 : decode cX6_count 23 = .ok (.goto 58, 3) := by decide +kernel
theorem dX6_count_26 : decode cX6_count 26 = .ok (.iload_n 1, 1) := by decide +kernel
theorem dX6_count_27 : decode cX6_count 27 = .ok (.iconst 1, 1) := by decide +kernel
theorem dX6_count_28 : decode cX6_count 28 = .ok (.if_icmp .ne 13, 3) := by decide +kernel
theorem dX6_count_31 : decode cX6_count 31 = .ok (.aload_n 0, 1) := by decide +kernel
theorem dX6_count_32 : decode cX6_count 32 = .ok (.getfield 23, 3) := by decide +kernel
theorem dX6_count_35 : decode cX6_count 35 = .ok (.invokestatic 116, 3) := by decide +kernel
theorem dX6_count_38 : decode cX6_count 38 = .ok (.goto 43, 3) := by decide +kernel
theorem dX6_count_41 : decode cX6_count 41 = .ok (.iload_n 1, 1) := by decide +kernel
theorem dX6_count_42 : decode cX6_count 42 = .ok (.iconst 2, 1) := by decide +kernel
theorem dX6_count_43 : decode cX6_count 43 = .ok (.if_icmp .ne 10, 3) := by decide +kernel
theorem dX6_count_46 : decode cX6_count 46 = .ok (.aload_n 0, 1) := by decide +kernel
theorem dX6_count_47 : decode cX6_count 47 = .ok (.getfield 100, 3) := by decide +kernel
theorem dX6_count_50 : decode cX6_count 50 = .ok (.goto 31, 3) := by decide +kernel
theorem dX6_count_53 : decode cX6_count 53 = .ok (.iload_n 1, 1) := by decide +kernel
theorem dX6_count_54 : decode cX6_count 54 = .ok (.iconst 3, 1) := by decide +kernel
theorem dX6_count_55 : decode cX6_count 55 = .ok (.if_icmp .ne 10, 3) := by decide +kernel
theorem dX6_count_58 : decode cX6_count 58 = .ok (.aload_n 0, 1) := by decide +kernel
theorem dX6_count_59 : decode cX6_count 59 = .ok (.getfield 58, 3) := by decide +kernel
theorem dX6_count_62 : decode cX6_count 62 = .ok (.goto 19, 3) := by decide +kernel
theorem dX6_count_65 : decode cX6_count 65 = .ok (.iload_n 1, 1) := by decide +kernel
theorem dX6_count_66 : decode cX6_count 66 = .ok (.iconst 4, 1) := by decide +kernel
theorem dX6_count_67 : decode cX6_count 67 = .ok (.if_icmp .ne 10, 3) := by decide +kernel
theorem dX6_count_70 : decode cX6_count 70 = .ok (.aload_n 0, 1) := by decide +kernel
theorem dX6_count_71 : decode cX6_count 71 = .ok (.getfield 127, 3) := by decide +kernel
theorem dX6_count_74 : decode cX6_count 74 = .ok (.goto 7, 3) := by decide +kernel
theorem dX6_count_77 : decode cX6_count 77 = .ok (.aload_n 0, 1) := by decide +kernel
theorem dX6_count_78 : decode cX6_count 78 = .ok (.getfield 107, 3) := by decide +kernel
theorem dX6_count_81 : decode cX6_count 81 = .ok (.ireturn, 1) := by decide +kernel
theorem dX6_isSheet_0 : decode cX6_isSheet 0 = .ok (.iload_n 0, 1) := by decide +kernel
theorem dX6_isSheet_1 : decode cX6_isSheet 1 = .ok (.i2l, 1) := by decide +kernel
theorem dX6_isSheet_2 : decode cX6_isSheet 2 = .ok (.lconst 0, 1) := by decide +kernel
theorem dX6_isSheet_3 : decode cX6_isSheet 3 = .ok (.ldc2_w 83, 3) := by decide +kernel
theorem dX6_isSheet_6 : decode cX6_isSheet 6 = .ok (.invokestatic 64, 3) := by decide +kernel
theorem dX6_isSheet_9 : decode cX6_isSheet 9 = .ok (.ireturn, 1) := by decide +kernel
theorem dX6_sheet_0 : decode cX6_sheet 0 = .ok (.iload_n 1, 1) := by decide +kernel
theorem dX6_sheet_1 : decode cX6_sheet 1 = .ok (.invokestatic 286, 3) := by decide +kernel
theorem dX6_sheet_4 : decode cX6_sheet 4 = .ok (.ifCond .eq 27, 3) := by decide +kernel
theorem dX6_sheet_7 : decode cX6_sheet 7 = .ok (.iload_n 2, 1) := by decide +kernel
theorem dX6_sheet_8 : decode cX6_sheet 8 = .ok (.i2l, 1) := by decide +kernel
theorem dX6_sheet_9 : decode cX6_sheet 9 = .ok (.ldc2_w 354, 3) := by decide +kernel
theorem dX6_sheet_12 : decode cX6_sheet 12 = .ok (.ldc2_w 356, 3) := by decide +kernel
theorem dX6_sheet_15 : decode cX6_sheet 15 = .ok (.invokestatic 64, 3) := by decide +kernel
theorem dX6_sheet_18 : decode cX6_sheet 18 = .ok (.ifCond .eq 13, 3) := by decide +kernel
theorem dX6_sheet_21 : decode cX6_sheet 21 = .ok (.iload_n 2, 1) := by decide +kernel
theorem dX6_sheet_22 : decode cX6_sheet 22 = .ok (.ifCond .lt 12, 3) := by decide +kernel
theorem dX6_sheet_25 : decode cX6_sheet 25 = .ok (.iload_n 3, 1) := by decide +kernel
theorem dX6_sheet_26 : decode cX6_sheet 26 = .ok (.bipush 40, 2) := by decide +kernel
theorem dX6_sheet_28 : decode cX6_sheet 28 = .ok (.if_icmp .le 6, 3) := by decide +kernel
theorem dX6_sheet_31 : decode cX6_sheet 31 = .ok (.bipush (-2), 2) := by decide +kernel
theorem dX6_sheet_33 : decode cX6_sheet 33 = .ok (.ireturn, 1) := by decide +kernel
theorem dX6_sheet_34 : decode cX6_sheet 34 = .ok (.iload_n 2, 1) := by decide +kernel
theorem dX6_sheet_35 : decode cX6_sheet 35 = .ok (.ifCond .lt 10, 3) := by decide +kernel
theorem dX6_sheet_38 : decode cX6_sheet 38 = .ok (.iload_n 3, 1) := by decide +kernel
theorem dX6_sheet_39 : decode cX6_sheet 39 = .ok (.ifCond .ge 6, 3) := by decide +kernel
theorem dX6_sheet_42 : decode cX6_sheet 42 = .ok (.bipush (-14), 2) := by decide +kernel
theorem dX6_sheet_44 : decode cX6_sheet 44 = .ok (.ireturn, 1) := by decide +kernel
theorem dX6_sheet_45 : decode cX6_sheet 45 = .ok (.aload_n 0, 1) := by decide +kernel
theorem dX6_sheet_46 : decode cX6_sheet 46 = .ok (.getfield 41, 3) := by decide +kernel
theorem dX6_sheet_49 : decode cX6_sheet 49 = .ok (.iload_n 1, 1) := by decide +kernel
theorem dX6_sheet_50 : decode cX6_sheet 50 = .ok (.iload_n 2, 1) := by decide +kernel
theorem dX6_sheet_51 : decode cX6_sheet 51 = .ok (.ifCond .lt 7, 3) := by decide +kernel
theorem dX6_sheet_54 : decode cX6_sheet 54 = .ok (.iconst 1, 1) := by decide +kernel
theorem dX6_sheet_55 : decode cX6_sheet 55 = .ok (.goto 4, 3) := by decide +kernel
theorem dX6_sheet_58 : decode cX6_sheet 58 = .ok (.iconst 0, 1) := by decide +kernel
theorem dX6_sheet_59 : decode cX6_sheet 59 = .ok (.bastore, 1) := by decide +kernel
theorem dX6_sheet_60 : decode cX6_sheet 60 = .ok (.aload_n 0, 1) := by decide +kernel
theorem dX6_sheet_61 : decode cX6_sheet 61 = .ok (.getfield 45, 3) := by decide +kernel
theorem dX6_sheet_64 : decode cX6_sheet 64 = .ok (.iload_n 1, 1) := by decide +kernel
theorem dX6_sheet_65 : decode cX6_sheet 65 = .ok (.iload_n 2, 1) := by decide +kernel
theorem dX6_sheet_66 : decode cX6_sheet 66 = .ok (.iastore, 1) := by decide +kernel
theorem dX6_sheet_67 : decode cX6_sheet 67 = .ok (.aload_n 0, 1) := by decide +kernel
theorem dX6_sheet_68 : decode cX6_sheet 68 = .ok (.getfield 48, 3) := by decide +kernel
theorem dX6_sheet_71 : decode cX6_sheet 71 = .ok (.iload_n 1, 1) := by decide +kernel
theorem dX6_sheet_72 : decode cX6_sheet 72 = .ok (.iload_n 3, 1) := by decide +kernel
theorem dX6_sheet_73 : decode cX6_sheet 73 = .ok (.iastore, 1) := by decide +kernel
theorem dX6_sheet_74 : decode cX6_sheet 74 = .ok (.iconst 0, 1) := by decide +kernel
theorem dX6_sheet_75 : decode cX6_sheet 75 = .ok (.istore 4, 2) := by decide +kernel
theorem dX6_sheet_77 : decode cX6_sheet 77 = .ok (.iload 4, 2) := by decide +kernel
theorem dX6_sheet_79 : decode cX6_sheet 79 = .ok (.iload_n 3, 1) := by decide +kernel
theorem dX6_sheet_80 : decode cX6_sheet 80 = .ok (.if_icmp .ge 26, 3) := by decide +kernel
theorem dX6_sheet_83 : decode cX6_sheet 83 = .ok (.iload_n 2, 1) := by decide +kernel
theorem dX6_sheet_84 : decode cX6_sheet 84 = .ok (.ifCond .lt 22, 3) := by decide +kernel
theorem dX6_sheet_87 : decode cX6_sheet 87 = .ok (.aload_n 0, 1) := by decide +kernel
theorem dX6_sheet_88 : decode cX6_sheet 88 = .ok (.getfield 51, 3) := by decide +kernel
theorem dX6_sheet_91 : decode cX6_sheet 91 = .ok (.bipush 40, 2) := by decide +kernel
theorem dX6_sheet_93 : decode cX6_sheet 93 = .ok (.iload_n 1, 1) := by decide +kernel
theorem dX6_sheet_94 : decode cX6_sheet 94 = .ok (.imul, 1) := by decide +kernel
theorem dX6_sheet_95 : decode cX6_sheet 95 = .ok (.iload 4, 2) := by decide +kernel
theorem dX6_sheet_97 : decode cX6_sheet 97 = .ok (.iadd, 1) := by decide +kernel
theorem dX6_sheet_98 : decode cX6_sheet 98 = .ok (.iconst 0, 1) := by decide +kernel
theorem dX6_sheet_99 : decode cX6_sheet 99 = .ok (.iastore, 1) := by decide +kernel
theorem dX6_sheet_100 : decode cX6_sheet 100 = .ok (.iinc 4 1, 3) := by decide +kernel
theorem dX6_sheet_103 : decode cX6_sheet 103 = .ok (.goto (-26), 3) := by decide +kernel
theorem dX6_sheet_106 : decode cX6_sheet 106 = .ok (.iconst 1, 1) := by decide +kernel
theorem dX6_sheet_107 : decode cX6_sheet 107 = .ok (.ireturn, 1) := by decide +kernel
theorem dX6_cell_0 : decode cX6_cell 0 = .ok (.iload_n 1, 1) := by decide +kernel
theorem dX6_cell_1 : decode cX6_cell 1 = .ok (.invokestatic 286, 3) := by decide +kernel
theorem dX6_cell_4 : decode cX6_cell 4 = .ok (.ifCond .ne 6, 3) := by decide +kernel
theorem dX6_cell_7 : decode cX6_cell 7 = .ok (.bipush (-2), 2) := by decide +kernel
theorem dX6_cell_9 : decode cX6_cell 9 = .ok (.ireturn, 1) := by decide +kernel
theorem dX6_cell_10 : decode cX6_cell 10 = .ok (.aload_n 0, 1) := by decide +kernel
theorem dX6_cell_11 : decode cX6_cell 11 = .ok (.getfield 41, 3) := by decide +kernel
theorem dX6_cell_14 : decode cX6_cell 14 = .ok (.iload_n 1, 1) := by decide +kernel
theorem dX6_cell_15 : decode cX6_cell 15 = .ok (.baload, 1) := by decide +kernel
theorem dX6_cell_16 : decode cX6_cell 16 = .ok (.ifCond .ne 6, 3) := by decide +kernel
theorem dX6_cell_19 : decode cX6_cell 19 = .ok (.bipush (-11), 2) := by decide +kernel
theorem dX6_cell_21 : decode cX6_cell 21 = .ok (.ireturn, 1) := by decide +kernel
theorem dX6_cell_22 : decode cX6_cell 22 = .ok (.iload_n 2, 1) := by decide +kernel
theorem dX6_cell_23 : decode cX6_cell 23 = .ok (.i2l, 1) := by decide +kernel
theorem dX6_cell_24 : decode cX6_cell 24 = .ok (.lconst 0, 1) := by decide +kernel
theorem dX6_cell_25 : decode cX6_cell 25 = .ok (.aload_n 0, 1) := by decide +kernel
theorem dX6_cell_26 : decode cX6_cell 26 = .ok (.getfield 48, 3) := by decide +kernel
theorem dX6_cell_29 : decode cX6_cell 29 = .ok (.iload_n 1, 1) := by decide +kernel
theorem dX6_cell_30 : decode cX6_cell 30 = .ok (.iaload, 1) := by decide +kernel
theorem dX6_cell_31 : decode cX6_cell 31 = .ok (.iconst 1, 1) := by decide +kernel
theorem dX6_cell_32 : decode cX6_cell 32 = .ok (.isub, 1) := by decide +kernel
theorem dX6_cell_33 : decode cX6_cell 33 = .ok (.i2l, 1) := by decide +kernel
theorem dX6_cell_34 : decode cX6_cell 34 = .ok (.invokestatic 64, 3) := by decide +kernel
theorem dX6_cell_37 : decode cX6_cell 37 = .ok (.ifCond .ne 6, 3) := by decide +kernel
theorem dX6_cell_40 : decode cX6_cell 40 = .ok (.bipush (-12), 2) := by decide +kernel
theorem dX6_cell_42 : decode cX6_cell 42 = .ok (.ireturn, 1) := by decide +kernel
theorem dX6_cell_43 : decode cX6_cell 43 = .ok (.aload_n 0, 1) := by decide +kernel
theorem dX6_cell_44 : decode cX6_cell 44 = .ok (.getfield 51, 3) := by decide +kernel
theorem dX6_cell_47 : decode cX6_cell 47 = .ok (.bipush 40, 2) := by decide +kernel
theorem dX6_cell_49 : decode cX6_cell 49 = .ok (.iload_n 1, 1) := by decide +kernel
theorem dX6_cell_50 : decode cX6_cell 50 = .ok (.imul, 1) := by decide +kernel
theorem dX6_cell_51 : decode cX6_cell 51 = .ok (.iload_n 2, 1) := by decide +kernel
theorem dX6_cell_52 : decode cX6_cell 52 = .ok (.iadd, 1) := by decide +kernel
theorem dX6_cell_53 : decode cX6_cell 53 = .ok (.aload_n 0, 1) := by decide +kernel
theorem dX6_cell_54 : decode cX6_cell 54 = .ok (.getfield 45, 3) := by decide +kernel
theorem dX6_cell_57 : decode cX6_cell 57 = .ok (.iload_n 1, 1) := by decide +kernel
theorem dX6_cell_58 : decode cX6_cell 58 = .ok (.iaload, 1) := by decide +kernel
theorem dX6_cell_59 : decode cX6_cell 59 = .ok (.ifCond .ne 8, 3) := by decide +kernel
theorem dX6_cell_62 : decode cX6_cell 62 = .ok (.iload_n 3, 1) := by decide +kernel
theorem dX6_cell_63 : decode cX6_cell 63 = .ok (.i2b, 1) := by decide +kernel
theorem dX6_cell_64 : decode cX6_cell 64 = .ok (.goto 19, 3) := by decide +kernel
theorem dX6_cell_67 : decode cX6_cell 67 = .ok (.aload_n 0, 1) := by decide +kernel
theorem dX6_cell_68 : decode cX6_cell 68 = .ok (.getfield 45, 3) := by decide +kernel
theorem dX6_cell_71 : decode cX6_cell 71 = .ok (.iload_n 1, 1) := by decide +kernel
theorem dX6_cell_72 : decode cX6_cell 72 = .ok (.iaload, 1) := by decide +kernel
theorem dX6_cell_73 : decode cX6_cell 73 = .ok (.iconst 1, 1) := by decide +kernel
theorem dX6_cell_74 : decode cX6_cell 74 = .ok (.if_icmp .ne 8, 3) := by decide +kernel
theorem dX6_cell_77 : decode cX6_cell 77 = .ok (.iload_n 3, 1) := by decide +kernel
theorem dX6_cell_78 : decode cX6_cell 78 = .ok (.i2s, 1) := by decide +kernel
theorem dX6_cell_79 : decode cX6_cell 79 = .ok (.goto 4, 3) := by decide +kernel
theorem dX6_cell_82 : decode cX6_cell 82 = .ok (.iload_n 3, 1) := by decide +kernel
theorem dX6_cell_83 : decode cX6_cell 83 = .ok (.iastore, 1) := by decide +kernel
theorem dX6_cell_84 : decode cX6_cell 84 = .ok (.iconst 1, 1) := by decide +kernel
theorem dX6_cell_85 : decode cX6_cell 85 = .ok (.ireturn, 1) := by decide +kernel
theorem dX6_copy_0 : decode cX6_copy 0 = .ok (.iload_n 1, 1) := by decide +kernel
theorem dX6_copy_1 : decode cX6_copy 1 = .ok (.invokestatic 286, 3) := by decide +kernel
theorem dX6_copy_4 : decode cX6_copy 4 = .ok (.ifCond .eq 10, 3) := by decide +kernel
theorem dX6_copy_7 : decode cX6_copy 7 = .ok (.iload_n 3, 1) := by decide +kernel
theorem dX6_copy_8 : decode cX6_copy 8 = .ok (.invokestatic 286, 3) := by decide +kernel
theorem dX6_copy_11 : decode cX6_copy 11 = .ok (.ifCond .ne 6, 3) := by decide +kernel
theorem dX6_copy_14 : decode cX6_copy 14 = .ok (.bipush (-2), 2) := by decide +kernel
theorem dX6_copy_16 : decode cX6_copy 16 = .ok (.ireturn, 1) := by decide +kernel
theorem dX6_copy_17 : decode cX6_copy 17 = .ok (.aload_n 0, 1) := by decide +kernel
theorem dX6_copy_18 : decode cX6_copy 18 = .ok (.getfield 41, 3) := by decide +kernel
theorem dX6_copy_21 : decode cX6_copy 21 = .ok (.iload_n 1, 1) := by decide +kernel
theorem dX6_copy_22 : decode cX6_copy 22 = .ok (.baload, 1) := by decide +kernel
theorem dX6_copy_23 : decode cX6_copy 23 = .ok (.ifCond .eq 12, 3) := by decide +kernel
theorem dX6_copy_26 : decode cX6_copy 26 = .ok (.aload_n 0, 1) := by decide +kernel
theorem dX6_copy_27 : decode cX6_copy 27 = .ok (.getfield 41, 3) := by decide +kernel
theorem dX6_copy_30 : decode cX6_copy 30 = .ok (.iload_n 3, 1) := by decide +kernel
theorem dX6_copy_31 : decode cX6_copy 31 = .ok (.baload, 1) := by decide +kernel
theorem dX6_copy_32 : decode cX6_copy 32 = .ok (.ifCond .ne 6, 3) := by decide +kernel
theorem dX6_copy_35 : decode cX6_copy 35 = .ok (.bipush (-11), 2) := by decide +kernel
theorem dX6_copy_37 : decode cX6_copy 37 = .ok (.ireturn, 1) := by decide +kernel
theorem dX6_copy_38 : decode cX6_copy 38 = .ok (.aload_n 0, 1) := by decide +kernel
theorem dX6_copy_39 : decode cX6_copy 39 = .ok (.getfield 45, 3) := by decide +kernel
theorem dX6_copy_42 : decode cX6_copy 42 = .ok (.iload_n 1, 1) := by decide +kernel
theorem dX6_copy_43 : decode cX6_copy 43 = .ok (.iaload, 1) := by decide +kernel
theorem dX6_copy_44 : decode cX6_copy 44 = .ok (.aload_n 0, 1) := by decide +kernel
theorem dX6_copy_45 : decode cX6_copy 45 = .ok (.getfield 45, 3) := by decide +kernel
theorem dX6_copy_48 : decode cX6_copy 48 = .ok (.iload_n 3, 1) := by decide +kernel
theorem dX6_copy_49 : decode cX6_copy 49 = .ok (.iaload, 1) := by decide +kernel
theorem dX6_copy_50 : decode cX6_copy 50 = .ok (.if_icmp .eq 6, 3) := by decide +kernel
theorem dX6_copy_53 : decode cX6_copy 53 = .ok (.bipush (-13), 2) := by decide +kernel
theorem dX6_copy_55 : decode cX6_copy 55 = .ok (.ireturn, 1) := by decide +kernel
theorem dX6_copy_56 : decode cX6_copy 56 = .ok (.iload 5, 2) := by decide +kernel
theorem dX6_copy_58 : decode cX6_copy 58 = .ok (.ifCond .lt 39, 3) := by decide +kernel
theorem dX6_copy_61 : decode cX6_copy 61 = .ok (.iload_n 2, 1) := by decide +kernel
theorem dX6_copy_62 : decode cX6_copy 62 = .ok (.ifCond .lt 35, 3) := by decide +kernel
theorem dX6_copy_65 : decode cX6_copy 65 = .ok (.iload 4, 2) := by decide +kernel
theorem dX6_copy_67 : decode cX6_copy 67 = .ok (.ifCond .lt 30, 3) := by decide +kernel
theorem dX6_copy_70 : decode cX6_copy 70 = .ok (.iload_n 2, 1) := by decide +kernel
theorem dX6_copy_71 : decode cX6_copy 71 = .ok (.aload_n 0, 1) := by decide +kernel
theorem dX6_copy_72 : decode cX6_copy 72 = .ok (.getfield 48, 3) := by decide +kernel
theorem dX6_copy_75 : decode cX6_copy 75 = .ok (.iload_n 1, 1) := by decide +kernel
theorem dX6_copy_76 : decode cX6_copy 76 = .ok (.iaload, 1) := by decide +kernel
theorem dX6_copy_77 : decode cX6_copy 77 = .ok (.iload 5, 2) := by decide +kernel
theorem dX6_copy_79 : decode cX6_copy 79 = .ok (.isub, 1) := by decide +kernel
theorem dX6_copy_80 : decode cX6_copy 80 = .ok (.if_icmp .gt 17, 3) := by decide +kernel
theorem dX6_copy_83 : decode cX6_copy 83 = .ok (.iload 4, 2) := by decide +kernel
theorem dX6_copy_85 : decode cX6_copy 85 = .ok (.aload_n 0, 1) := by decide +kernel
theorem dX6_copy_86 : decode cX6_copy 86 = .ok (.getfield 48, 3) := by decide +kernel
theorem dX6_copy_89 : decode cX6_copy 89 = .ok (.iload_n 3, 1) := by decide +kernel
theorem dX6_copy_90 : decode cX6_copy 90 = .ok (.iaload, 1) := by decide +kernel
theorem dX6_copy_91 : decode cX6_copy 91 = .ok (.iload 5, 2) := by decide +kernel
theorem dX6_copy_93 : decode cX6_copy 93 = .ok (.isub, 1) := by decide +kernel
theorem dX6_copy_94 : decode cX6_copy 94 = .ok (.if_icmp .le 6, 3) := by decide +kernel
theorem dX6_copy_97 : decode cX6_copy 97 = .ok (.bipush (-12), 2) := by decide +kernel
theorem dX6_copy_99 : decode cX6_copy 99 = .ok (.ireturn, 1) := by decide +kernel
theorem dX6_copy_100 : decode cX6_copy 100 = .ok (.iload_n 1, 1) := by decide +kernel
theorem dX6_copy_101 : decode cX6_copy 101 = .ok (.iload_n 3, 1) := by decide +kernel
theorem dX6_copy_102 : decode cX6_copy 102 = .ok (.if_icmp .ne 13, 3) := by decide +kernel
theorem dX6_copy_105 : decode cX6_copy 105 = .ok (.iload_n 2, 1) := by decide +kernel
theorem dX6_copy_106 : decode cX6_copy 106 = .ok (.iload 4, 2) := by decide +kernel
theorem dX6_copy_108 : decode cX6_copy 108 = .ok (.if_icmp .ge 7, 3) := by decide +kernel
theorem dX6_copy_111 : decode cX6_copy 111 = .ok (.iconst 1, 1) := by decide +kernel
theorem dX6_copy_112 : decode cX6_copy 112 = .ok (.goto 4, 3) := by decide +kernel
theorem dX6_copy_115 : decode cX6_copy 115 = .ok (.iconst 0, 1) := by decide +kernel
theorem dX6_copy_116 : decode cX6_copy 116 = .ok (.istore 6, 2) := by decide +kernel
theorem dX6_copy_118 : decode cX6_copy 118 = .ok (.iconst 0, 1) := by decide +kernel
theorem dX6_copy_119 : decode cX6_copy 119 = .ok (.istore 7, 2) := by decide +kernel
theorem dX6_copy_121 : decode cX6_copy 121 = .ok (.iload 7, 2) := by decide +kernel
theorem dX6_copy_123 : decode cX6_copy 123 = .ok (.iload 5, 2) := by decide +kernel
theorem dX6_copy_125 : decode cX6_copy 125 = .ok (.if_icmp .ge 57, 3) := by decide +kernel
theorem dX6_copy_128 : decode cX6_copy 128 = .ok (.iload 6, 2) := by decide +kernel
theorem dX6_copy_130 : decode cX6_copy 130 = .ok (.ifCond .eq 13, 3) := by decide +kernel
theorem dX6_copy_133 : decode cX6_copy 133 = .ok (.iload 5, 2) := by decide +kernel
theorem dX6_copy_135 : decode cX6_copy 135 = .ok (.iconst 1, 1) := by decide +kernel
theorem dX6_copy_136 : decode cX6_copy 136 = .ok (.isub, 1) := by decide +kernel
theorem dX6_copy_137 : decode cX6_copy 137 = .ok (.iload 7, 2) := by decide +kernel
theorem dX6_copy_139 : decode cX6_copy 139 = .ok (.isub, 1) := by decide +kernel
theorem dX6_copy_140 : decode cX6_copy 140 = .ok (.goto 5, 3) := by decide +kernel
theorem dX6_copy_143 : decode cX6_copy 143 = .ok (.iload 7, 2) := by decide +kernel
theorem dX6_copy_145 : decode cX6_copy 145 = .ok (.istore 8, 2) := by decide +kernel
theorem dX6_copy_147 : decode cX6_copy 147 = .ok (.aload_n 0, 1) := by decide +kernel
theorem dX6_copy_148 : decode cX6_copy 148 = .ok (.getfield 51, 3) := by decide +kernel
theorem dX6_copy_151 : decode cX6_copy 151 = .ok (.bipush 40, 2) := by decide +kernel
theorem dX6_copy_153 : decode cX6_copy 153 = .ok (.iload_n 3, 1) := by decide +kernel
theorem dX6_copy_154 : decode cX6_copy 154 = .ok (.imul, 1) := by decide +kernel
theorem dX6_copy_155 : decode cX6_copy 155 = .ok (.iload 4, 2) := by decide +kernel
theorem dX6_copy_157 : decode cX6_copy 157 = .ok (.iadd, 1) := by decide +kernel
theorem dX6_copy_158 : decode cX6_copy 158 = .ok (.iload 8, 2) := by decide +kernel
theorem dX6_copy_160 : decode cX6_copy 160 = .ok (.iadd, 1) := by decide +kernel
theorem dX6_copy_161 : decode cX6_copy 161 = .ok (.aload_n 0, 1) := by decide +kernel
theorem dX6_copy_162 : decode cX6_copy 162 = .ok (.getfield 51, 3) := by decide +kernel
theorem dX6_copy_165 : decode cX6_copy 165 = .ok (.bipush 40, 2) := by decide +kernel
theorem dX6_copy_167 : decode cX6_copy 167 = .ok (.iload_n 1, 1) := by decide +kernel
theorem dX6_copy_168 : decode cX6_copy 168 = .ok (.imul, 1) := by decide +kernel
theorem dX6_copy_169 : decode cX6_copy 169 = .ok (.iload_n 2, 1) := by decide +kernel
theorem dX6_copy_170 : decode cX6_copy 170 = .ok (.iadd, 1) := by decide +kernel
theorem dX6_copy_171 : decode cX6_copy 171 = .ok (.iload 8, 2) := by decide +kernel
theorem dX6_copy_173 : decode cX6_copy 173 = .ok (.iadd, 1) := by decide +kernel
theorem dX6_copy_174 : decode cX6_copy 174 = .ok (.iaload, 1) := by decide +kernel
theorem dX6_copy_175 : decode cX6_copy 175 = .ok (.iastore, 1) := by decide +kernel
theorem dX6_copy_176 : decode cX6_copy 176 = .ok (.iinc 7 1, 3) := by decide +kernel
theorem dX6_copy_179 : decode cX6_copy 179 = .ok (.goto (-58), 3) := by decide +kernel
theorem dX6_copy_182 : decode cX6_copy 182 = .ok (.iload 5, 2) := by decide +kernel
theorem dX6_copy_184 : decode cX6_copy 184 = .ok (.ireturn, 1) := by decide +kernel
theorem dX6_players_0 : decode cX6_players 0 = .ok (.iload_n 1, 1) := by decide +kernel
theorem dX6_players_1 : decode cX6_players 1 = .ok (.invokestatic 286, 3) := by decide +kernel
theorem dX6_players_4 : decode cX6_players 4 = .ok (.ifCond .eq 28, 3) := by decide +kernel
theorem dX6_players_7 : decode cX6_players 7 = .ok (.iload_n 2, 1) := by decide +kernel
theorem dX6_players_8 : decode cX6_players 8 = .ok (.i2l, 1) := by decide +kernel
theorem dX6_players_9 : decode cX6_players 9 = .ok (.lconst 0, 1) := by decide +kernel
theorem dX6_players_10 : decode cX6_players 10 = .ok (.ldc2_w 356, 3) := by decide +kernel
theorem dX6_players_13 : decode cX6_players 13 = .ok (.invokestatic 64, 3) := by decide +kernel
theorem dX6_players_16 : decode cX6_players 16 = .ok (.ifCond .eq 16, 3) := by decide +kernel
theorem dX6_players_19 : decode cX6_players 19 = .ok (.iload 4, 2) := by decide +kernel
theorem dX6_players_21 : decode cX6_players 21 = .ok (.i2l, 1) := by decide +kernel
theorem dX6_players_22 : decode cX6_players 22 = .ok (.lconst 0, 1) := by decide +kernel
theorem dX6_players_23 : decode cX6_players 23 = .ok (.ldc2_w 358, 3) := by decide +kernel
theorem dX6_players_26 : decode cX6_players 26 = .ok (.invokestatic 64, 3) := by decide +kernel
theorem dX6_players_29 : decode cX6_players 29 = .ok (.ifCond .ne 6, 3) := by decide +kernel
theorem dX6_players_32 : decode cX6_players 32 = .ok (.bipush (-2), 2) := by decide +kernel
theorem dX6_players_34 : decode cX6_players 34 = .ok (.ireturn, 1) := by decide +kernel
theorem dX6_players_35 : decode cX6_players 35 = .ok (.aload_n 0, 1) := by decide +kernel
theorem dX6_players_36 : decode cX6_players 36 = .ok (.getfield 41, 3) := by decide +kernel
theorem dX6_players_39 : decode cX6_players 39 = .ok (.iload_n 1, 1) := by decide +kernel
theorem dX6_players_40 : decode cX6_players 40 = .ok (.baload, 1) := by decide +kernel
theorem dX6_players_41 : decode cX6_players 41 = .ok (.ifCond .eq 16, 3) := by decide +kernel
theorem dX6_players_44 : decode cX6_players 44 = .ok (.aload_n 0, 1) := by decide +kernel
theorem dX6_players_45 : decode cX6_players 45 = .ok (.getfield 45, 3) := by decide +kernel
theorem dX6_players_48 : decode cX6_players 48 = .ok (.iload_n 1, 1) := by decide +kernel
theorem dX6_players_49 : decode cX6_players 49 = .ok (.iaload, 1) := by decide +kernel
theorem dX6_players_50 : decode cX6_players 50 = .ok (.iload_n 2, 1) := by decide +kernel
theorem dX6_players_51 : decode cX6_players 51 = .ok (.if_icmp .eq 6, 3) := by decide +kernel
theorem dX6_players_54 : decode cX6_players 54 = .ok (.bipush (-13), 2) := by decide +kernel
theorem dX6_players_56 : decode cX6_players 56 = .ok (.ireturn, 1) := by decide +kernel
theorem dX6_players_57 : decode cX6_players 57 = .ok (.aload_n 0, 1) := by decide +kernel
theorem dX6_players_58 : decode cX6_players 58 = .ok (.getfield 41, 3) := by decide +kernel
theorem dX6_players_61 : decode cX6_players 61 = .ok (.iload_n 1, 1) := by decide +kernel
theorem dX6_players_62 : decode cX6_players 62 = .ok (.baload, 1) := by decide +kernel
theorem dX6_players_63 : decode cX6_players 63 = .ok (.ifCond .ne 6, 3) := by decide +kernel
theorem dX6_players_66 : decode cX6_players 66 = .ok (.bipush (-11), 2) := by decide +kernel
theorem dX6_players_68 : decode cX6_players 68 = .ok (.ireturn, 1) := by decide +kernel
theorem dX6_players_69 : decode cX6_players 69 = .ok (.iconst 0, 1) := by decide +kernel
theorem dX6_players_70 : decode cX6_players 70 = .ok (.istore 5, 2) := by decide +kernel
theorem dX6_players_72 : decode cX6_players 72 = .ok (.iconst 0, 1) := by decide +kernel
theorem dX6_players_73 : decode cX6_players 73 = .ok (.istore 6, 2) := by decide +kernel
theorem dX6_players_75 : decode cX6_players 75 = .ok (.iload 6, 2) := by decide +kernel
theorem dX6_players_77 : decode cX6_players 77 = .ok (.iload 4, 2) := by decide +kernel
theorem dX6_players_79 : decode cX6_players 79 = .ok (.if_icmp .ge 79, 3) := by decide +kernel
theorem dX6_players_82 : decode cX6_players 82 = .ok (.iload_n 3, 1) := by decide +kernel
theorem dX6_players_83 : decode cX6_players 83 = .ok (.ifCond .lt 20, 3) := by decide +kernel
theorem dX6_players_86 : decode cX6_players 86 = .ok (.iload_n 3, 1) := by decide +kernel
theorem dX6_players_87 : decode cX6_players 87 = .ok (.aload_n 0, 1) := by decide +kernel
theorem dX6_players_88 : decode cX6_players 88 = .ok (.getfield 48, 3) := by decide +kernel
theorem dX6_players_91 : decode cX6_players 91 = .ok (.iload_n 1, 1) := by decide +kernel
theorem dX6_players_92 : decode cX6_players 92 = .ok (.iaload, 1) := by decide +kernel
theorem dX6_players_93 : decode cX6_players 93 = .ok (.iconst 2, 1) := by decide +kernel
theorem dX6_players_94 : decode cX6_players 94 = .ok (.iload 6, 2) := by decide +kernel
theorem dX6_players_96 : decode cX6_players 96 = .ok (.imul, 1) := by decide +kernel
theorem dX6_players_97 : decode cX6_players 97 = .ok (.isub, 1) := by decide +kernel
theorem dX6_players_98 : decode cX6_players 98 = .ok (.iconst 2, 1) := by decide +kernel
theorem dX6_players_99 : decode cX6_players 99 = .ok (.isub, 1) := by decide +kernel
theorem dX6_players_100 : decode cX6_players 100 = .ok (.if_icmp .le 6, 3) := by decide +kernel
theorem dX6_players_103 : decode cX6_players 103 = .ok (.bipush (-12), 2) := by decide +kernel
theorem dX6_players_105 : decode cX6_players 105 = .ok (.ireturn, 1) := by decide +kernel
theorem dX6_players_106 : decode cX6_players 106 = .ok (.bipush 40, 2) := by decide +kernel
theorem dX6_players_108 : decode cX6_players 108 = .ok (.iload_n 1, 1) := by decide +kernel
theorem dX6_players_109 : decode cX6_players 109 = .ok (.imul, 1) := by decide +kernel
theorem dX6_players_110 : decode cX6_players 110 = .ok (.iload_n 3, 1) := by decide +kernel
theorem dX6_players_111 : decode cX6_players 111 = .ok (.iadd, 1) := by decide +kernel
theorem dX6_players_112 : decode cX6_players 112 = .ok (.iconst 2, 1) := by decide +kernel
theorem dX6_players_113 : decode cX6_players 113 = .ok (.iload 6, 2) := by decide +kernel
theorem dX6_players_115 : decode cX6_players 115 = .ok (.imul, 1) := by decide +kernel
theorem dX6_players_116 : decode cX6_players 116 = .ok (.iadd, 1) := by decide +kernel
theorem dX6_players_117 : decode cX6_players 117 = .ok (.istore 7, 2) := by decide +kernel
theorem dX6_players_119 : decode cX6_players 119 = .ok (.iload 5, 2) := by decide +kernel
theorem dX6_players_121 : decode cX6_players 121 = .ok (.aload_n 0, 1) := by decide +kernel
theorem dX6_players_122 : decode cX6_players 122 = .ok (.aload_n 0, 1) := by decide +kernel
theorem dX6_players_123 : decode cX6_players 123 = .ok (.getfield 51, 3) := by decide +kernel
theorem dX6_players_126 : decode cX6_players 126 = .ok (.iload 7, 2) := by decide +kernel
theorem dX6_players_128 : decode cX6_players 128 = .ok (.iaload, 1) := by decide +kernel
theorem dX6_players_129 : decode cX6_players 129 = .ok (.aload_n 0, 1) := by decide +kernel
theorem dX6_players_130 : decode cX6_players 130 = .ok (.getfield 51, 3) := by decide +kernel
theorem dX6_players_133 : decode cX6_players 133 = .ok (.iload 7, 2) := by decide +kernel
theorem dX6_players_135 : decode cX6_players 135 = .ok (.iconst 1, 1) := by decide +kernel
theorem dX6_players_136 : decode cX6_players 136 = .ok (.iadd, 1) := by decide +kernel
theorem dX6_players_137 : decode cX6_players 137 = .ok (.iaload, 1) := by decide +kernel
theorem dX6_players_138 : decode cX6_players 138 = .ok (.invokevirtual 360, 3) := by decide +kernel
theorem dX6_players_141 : decode cX6_players 141 = .ok (.ifCond .lt 7, 3) := by decide +kernel
theorem dX6_players_144 : decode cX6_players 144 = .ok (.iconst 1, 1) := by decide +kernel
theorem dX6_players_145 : decode cX6_players 145 = .ok (.goto 4, 3) := by decide +kernel
theorem dX6_players_148 : decode cX6_players 148 = .ok (.iconst 0, 1) := by decide +kernel
theorem dX6_players_149 : decode cX6_players 149 = .ok (.iadd, 1) := by decide +kernel
theorem dX6_players_150 : decode cX6_players 150 = .ok (.istore 5, 2) := by decide +kernel
theorem dX6_players_152 : decode cX6_players 152 = .ok (.iinc 6 1, 3) := by decide +kernel
theorem dX6_players_155 : decode cX6_players 155 = .ok (.goto (-80), 3) := by decide +kernel
theorem dX6_players_158 : decode cX6_players 158 = .ok (.iload 5, 2) := by decide +kernel
theorem dX6_players_160 : decode cX6_players 160 = .ok (.ireturn, 1) := by decide +kernel
theorem dX6_over_0 : decode cX6_over 0 = .ok (.iload_n 0, 1) := by decide +kernel
theorem dX6_over_1 : decode cX6_over 1 = .ok (.ifCond .ne 7, 3) := by decide +kernel
theorem dX6_over_4 : decode cX6_over 4 = .ok (.iconst (-1), 1) := by decide +kernel
theorem dX6_over_5 : decode cX6_over 5 = .ok (.goto 22, 3) := by decide +kernel
theorem dX6_over_8 : decode cX6_over 8 = .ok (.iload_n 0, 1) := by decide +kernel
theorem dX6_over_9 : decode cX6_over 9 = .ok (.iconst 3, 1) := by decide +kernel
theorem dX6_over_10 : decode cX6_over 10 = .ok (.if_icmp .ne 7, 3) := by decide +kernel
theorem dX6_over_13 : decode cX6_over 13 = .ok (.iconst 1, 1) := by decide +kernel
theorem dX6_over_14 : decode cX6_over 14 = .ok (.goto 13, 3) := by decide +kernel
theorem dX6_over_17 : decode cX6_over 17 = .ok (.iload_n 0, 1) := by decide +kernel
theorem dX6_over_18 : decode cX6_over 18 = .ok (.iconst 4, 1) := by decide +kernel
theorem dX6_over_19 : decode cX6_over 19 = .ok (.if_icmp .ne 7, 3) := by decide +kernel
theorem dX6_over_22 : decode cX6_over 22 = .ok (.iconst 2, 1) := by decide +kernel
theorem dX6_over_23 : decode cX6_over 23 = .ok (.goto 4, 3) := by decide +kernel
theorem dX6_over_26 : decode cX6_over 26 = .ok (.iconst 0, 1) := by decide +kernel
theorem dX6_over_27 : decode cX6_over 27 = .ok (.ireturn, 1) := by decide +kernel
theorem dX6_taken_0 : decode cX6_taken 0 = .ok (.iload_n 2, 1) := by decide +kernel
theorem dX6_taken_1 : decode cX6_taken 1 = .ok (.i2l, 1) := by decide +kernel
theorem dX6_taken_2 : decode cX6_taken 2 = .ok (.lconst 0, 1) := by decide +kernel
theorem dX6_taken_3 : decode cX6_taken 3 = .ok (.ldc2_w 110, 3) := by decide +kernel
theorem dX6_taken_6 : decode cX6_taken 6 = .ok (.invokestatic 64, 3) := by decide +kernel
theorem dX6_taken_9 : decode cX6_taken 9 = .ok (.ifCond .ne 6, 3) := by decide +kernel
theorem dX6_taken_12 : decode cX6_taken 12 = .ok (.bipush (-2), 2) := by decide +kernel
theorem dX6_taken_14 : decode cX6_taken 14 = .ok (.ireturn, 1) := by decide +kernel
theorem dX6_taken_15 : decode cX6_taken 15 = .ok (.aload_n 0, 1) := by decide +kernel
theorem dX6_taken_16 : decode cX6_taken 16 = .ok (.iload_n 1, 1) := by decide +kernel
theorem dX6_taken_17 : decode cX6_taken 17 = .ok (.invokevirtual 68, 3) := by decide +kernel
theorem dX6_taken_20 : decode cX6_taken 20 = .ok (.ifCond .ne 6, 3) := by decide +kernel
theorem dX6_taken_23 : decode cX6_taken 23 = .ok (.bipush (-11), 2) := by decide +kernel
theorem dX6_taken_25 : decode cX6_taken 25 = .ok (.ireturn, 1) := by decide +kernel
theorem dX6_taken_26 : decode cX6_taken 26 = .ok (.aload_n 0, 1) := by decide +kernel
theorem dX6_taken_27 : decode cX6_taken 27 = .ok (.getfield 26, 3) := by decide +kernel
theorem dX6_taken_30 : decode cX6_taken 30 = .ok (.iload_n 1, 1) := by decide +kernel
theorem dX6_taken_31 : decode cX6_taken 31 = .ok (.iaload, 1) := by decide +kernel
theorem dX6_taken_32 : decode cX6_taken 32 = .ok (.istore_n 3, 1) := by decide +kernel
theorem dX6_taken_33 : decode cX6_taken 33 = .ok (.iload_n 3, 1) := by decide +kernel
theorem dX6_taken_34 : decode cX6_taken 34 = .ok (.iconst (-1), 1) := by decide +kernel
theorem dX6_taken_35 : decode cX6_taken 35 = .ok (.if_icmp .eq 16, 3) := by decide +kernel
theorem dX6_taken_38 : decode cX6_taken 38 = .ok (.iload_n 3, 1) := by decide +kernel
theorem dX6_taken_39 : decode cX6_taken 39 = .ok (.iload_n 2, 1) := by decide +kernel
theorem dX6_taken_40 : decode cX6_taken 40 = .ok (.if_icmp .eq 11, 3) := by decide +kernel
theorem dX6_taken_43 : decode cX6_taken 43 = .ok (.iload_n 3, 1) := by decide +kernel
theorem dX6_taken_44 : decode cX6_taken 44 = .ok (.invokestatic 363, 3) := by decide +kernel
theorem dX6_taken_47 : decode cX6_taken 47 = .ok (.istore_n 3, 1) := by decide +kernel
theorem dX6_taken_48 : decode cX6_taken 48 = .ok (.goto (-15), 3) := by decide +kernel
theorem dX6_taken_51 : decode cX6_taken 51 = .ok (.iload_n 3, 1) := by decide +kernel
theorem dX6_taken_52 : decode cX6_taken 52 = .ok (.iload_n 2, 1) := by decide +kernel
theorem dX6_taken_53 : decode cX6_taken 53 = .ok (.if_icmp .ne 14, 3) := by decide +kernel
theorem dX6_taken_56 : decode cX6_taken 56 = .ok (.aload_n 0, 1) := by decide +kernel
theorem dX6_taken_57 : decode cX6_taken 57 = .ok (.getfield 29, 3) := by decide +kernel
theorem dX6_taken_60 : decode cX6_taken 60 = .ok (.iconst 4, 1) := by decide +kernel
theorem dX6_taken_61 : decode cX6_taken 61 = .ok (.iload_n 1, 1) := by decide +kernel
theorem dX6_taken_62 : decode cX6_taken 62 = .ok (.imul, 1) := by decide +kernel
theorem dX6_taken_63 : decode cX6_taken 63 = .ok (.iaload, 1) := by decide +kernel
theorem dX6_taken_64 : decode cX6_taken 64 = .ok (.goto 5, 3) := by decide +kernel
theorem dX6_taken_67 : decode cX6_taken 67 = .ok (.bipush (-13), 2) := by decide +kernel
theorem dX6_taken_69 : decode cX6_taken 69 = .ok (.ireturn, 1) := by decide +kernel
end
section
theorem dX0_init_0 : decode cX0_init 0 = .ok (.aload_n 0, 1) := by decide +kernel
theorem dX0_init_1 : decode cX0_init 1 = .ok (.invokespecial 3, 3) := by decide +kernel
theorem dX0_init_4 : decode cX0_init 4 = .ok (.aload_n 0, 1) := by decide +kernel
theorem dX0_init_5 : decode cX0_init 5 = .ok (.bipush 6, 2) := by decide +kernel
theorem dX0_init_7 : decode cX0_init 7 = .ok (.newarray .int, 2) := by decide +kernel
theorem dX0_init_9 : decode cX0_init 9 = .ok (.putfield 9, 3) := by decide +kernel
theorem dX0_init_12 : decode cX0_init 12 = .ok (.aload_n 0, 1) := by decide +kernel
theorem dX0_init_13 : decode cX0_init 13 = .ok (.bipush 6, 2) := by decide +kernel
theorem dX0_init_15 : decode cX0_init 15 = .ok (.newarray .int, 2) := by decide +kernel
theorem dX0_init_17 : decode cX0_init 17 = .ok (.putfield 15, 3) := by decide +kernel
theorem dX0_init_20 : decode cX0_init 20 = .ok (.aload_n 0, 1) := by decide +kernel
theorem dX0_init_21 : decode cX0_init 21 = .ok (.bipush 6, 2) := by decide +kernel
theorem dX0_init_23 : decode cX0_init 23 = .ok (.newarray .int, 2) := by decide +kernel
theorem dX0_init_25 : decode cX0_init 25 = .ok (.putfield 18, 3) := by decide +kernel
theorem dX0_init_28 : decode cX0_init 28 = .ok (.aload_n 0, 1) := by decide +kernel
theorem dX0_init_29 : decode cX0_init 29 = .ok (.bipush 6, 2) := by decide +kernel
theorem dX0_init_31 : decode cX0_init 31 = .ok (.newarray .int, 2) := by decide +kernel
theorem dX0_init_33 : decode cX0_init 33 = .ok (.putfield 21, 3) := by decide +kernel
theorem dX0_init_36 : decode cX0_init 36 = .ok (.aload_n 0, 1) := by decide +kernel
theorem dX0_init_37 : decode cX0_init 37 = .ok (.bipush 6, 2) := by decide +kernel
theorem dX0_init_39 : decode cX0_init 39 = .ok (.newarray .int, 2) := by decide +kernel
theorem dX0_init_41 : decode cX0_init 41 = .ok (.putfield 24, 3) := by decide +kernel
theorem dX0_init_44 : decode cX0_init 44 = .ok (.aload_n 0, 1) := by decide +kernel
theorem dX0_init_45 : decode cX0_init 45 = .ok (.sipush 255, 3) := by decide +kernel
theorem dX0_init_48 : decode cX0_init 48 = .ok (.putfield 27, 3) := by decide +kernel
theorem dX0_init_51 : decode cX0_init 51 = .ok (.aload_n 0, 1) := by decide +kernel
theorem dX0_init_52 : decode cX0_init 52 = .ok (.iconst 0, 1) := by decide +kernel
theorem dX0_init_53 : decode cX0_init 53 = .ok (.putfield 31, 3) := by decide +kernel
theorem dX0_init_56 : decode cX0_init 56 = .ok (.aload_n 0, 1) := by decide +kernel
theorem dX0_init_57 : decode cX0_init 57 = .ok (.iconst 0, 1) := by decide +kernel
theorem dX0_init_58 : decode cX0_init 58 = .ok (.putfield 34, 3) := by decide +kernel
theorem dX0_init_61 : decode cX0_init 61 = .ok (.aload_n 0, 1) := by decide +kernel
theorem dX0_init_62 : decode cX0_init 62 = .ok (.iconst 0, 1) := by decide +kernel
theorem dX0_init_63 : decode cX0_init 63 = .ok (.putfield 37, 3) := by decide +kernel
theorem dX0_init_66 : decode cX0_init 66 = .ok (.aload_n 0, 1) := by decide +kernel
theorem dX0_init_67 : decode cX0_init 67 = .ok (.aload_n 1, 1) := by decide +kernel
theorem dX0_init_68 : decode cX0_init 68 = .ok (.putfield 40, 3) := by decide +kernel
theorem dX0_init_71 : decode cX0_init 71 = .ok (.return_, 1) := by decide +kernel
theorem dX0_takes_0 : decode cX0_takes 0 = .ok (.aload_n 1, 1) := by decide +kernel
theorem dX0_takes_1 : decode cX0_takes 1 = .ok (.ifnonnull 4, 3) := by decide +kernel
theorem dX0_takes_4 : decode cX0_takes 4 = .ok (.return_, 1) := by decide +kernel
theorem dX0_takes_5 : decode cX0_takes 5 = .ok (.iconst 0, 1) := by decide +kernel
theorem dX0_takes_6 : decode cX0_takes 6 = .ok (.istore_n 2, 1) := by decide +kernel
theorem dX0_takes_7 : decode cX0_takes 7 = .ok (.iload_n 2, 1) := by decide +kernel
theorem dX0_takes_8 : decode cX0_takes 8 = .ok (.bipush 6, 2) := by decide +kernel
theorem dX0_takes_10 : decode cX0_takes 10 = .ok (.if_icmp .ge 69, 3) := by decide +kernel
theorem dX0_takes_13 : decode cX0_takes 13 = .ok (.aload_n 0, 1) := by decide +kernel
theorem dX0_takes_14 : decode cX0_takes 14 = .ok (.getfield 9, 3) := by decide +kernel
theorem dX0_takes_17 : decode cX0_takes 17 = .ok (.iload_n 2, 1) := by decide +kernel
theorem dX0_takes_18 : decode cX0_takes 18 = .ok (.aload_n 1, 1) := by decide +kernel
theorem dX0_takes_19 : decode cX0_takes 19 = .ok (.getfield 9, 3) := by decide +kernel
theorem dX0_takes_22 : decode cX0_takes 22 = .ok (.iload_n 2, 1) := by decide +kernel
theorem dX0_takes_23 : decode cX0_takes 23 = .ok (.iaload, 1) := by decide +kernel
theorem dX0_takes_24 : decode cX0_takes 24 = .ok (.iastore, 1) := by decide +kernel
theorem dX0_takes_25 : decode cX0_takes 25 = .ok (.aload_n 0, 1) := by decide +kernel
theorem dX0_takes_26 : decode cX0_takes 26 = .ok (.getfield 15, 3) := by decide +kernel
theorem dX0_takes_29 : decode cX0_takes 29 = .ok (.iload_n 2, 1) := by decide +kernel
theorem dX0_takes_30 : decode cX0_takes 30 = .ok (.aload_n 1, 1) := by decide +kernel
theorem dX0_takes_31 : decode cX0_takes 31 = .ok (.getfield 15, 3) := by decide +kernel
theorem dX0_takes_34 : decode cX0_takes 34 = .ok (.iload_n 2, 1) := by decide +kernel
theorem dX0_takes_35 : decode cX0_takes 35 = .ok (.iaload, 1) := by decide +kernel
theorem dX0_takes_36 : decode cX0_takes 36 = .ok (.iastore, 1) := by decide +kernel
theorem dX0_takes_37 : decode cX0_takes 37 = .ok (.aload_n 0, 1) := by decide +kernel
theorem dX0_takes_38 : decode cX0_takes 38 = .ok (.getfield 18, 3) := by decide +kernel
theorem dX0_takes_41 : decode cX0_takes 41 = .ok (.iload_n 2, 1) := by decide +kernel
theorem dX0_takes_42 : decode cX0_takes 42 = .ok (.aload_n 1, 1) := by decide +kernel
theorem dX0_takes_43 : decode cX0_takes 43 = .ok (.getfield 18, 3) := by decide +kernel
theorem dX0_takes_46 : decode cX0_takes 46 = .ok (.iload_n 2, 1) := by decide +kernel
theorem dX0_takes_47 : decode cX0_takes 47 = .ok (.iaload, 1) := by decide +kernel
theorem dX0_takes_48 : decode cX0_takes 48 = .ok (.iastore, 1) := by decide +kernel
theorem dX0_takes_49 : decode cX0_takes 49 = .ok (.aload_n 0, 1) := by decide +kernel
theorem dX0_takes_50 : decode cX0_takes 50 = .ok (.getfield 21, 3) := by decide +kernel
theorem dX0_takes_53 : decode cX0_takes 53 = .ok (.iload_n 2, 1) := by decide +kernel
theorem dX0_takes_54 : decode cX0_takes 54 = .ok (.aload_n 1, 1) := by decide +kernel
theorem dX0_takes_55 : decode cX0_takes 55 = .ok (.getfield 21, 3) := by decide +kernel
theorem dX0_takes_58 : decode cX0_takes 58 = .ok (.iload_n 2, 1) := by decide +kernel
theorem dX0_takes_59 : decode cX0_takes 59 = .ok (.iaload, 1) := by decide +kernel
theorem dX0_takes_60 : decode cX0_takes 60 = .ok (.iastore, 1) := by decide +kernel
theorem dX0_takes_61 : decode cX0_takes 61 = .ok (.aload_n 0, 1) := by decide +kernel
theorem dX0_takes_62 : decode cX0_takes 62 = .ok (.getfield 24, 3) := by decide +kernel
theorem dX0_takes_65 : decode cX0_takes 65 = .ok (.iload_n 2, 1) := by decide +kernel
theorem dX0_takes_66 : decode cX0_takes 66 = .ok (.aload_n 1, 1) := by decide +kernel
theorem dX0_takes_67 : decode cX0_takes 67 = .ok (.getfield 24, 3) := by decide +kernel
theorem dX0_takes_70 : decode cX0_takes 70 = .ok (.iload_n 2, 1) := by decide +kernel
theorem dX0_takes_71 : decode cX0_takes 71 = .ok (.iaload, 1) := by decide +kernel
theorem dX0_takes_72 : decode cX0_takes 72 = .ok (.iastore, 1) := by decide +kernel
theorem dX0_takes_73 : decode cX0_takes 73 = .ok (.iinc 2 1, 3) := by decide +kernel
theorem dX0_takes_76 : decode cX0_takes 76 = .ok (.goto (-69), 3) := by decide +kernel
theorem dX0_takes_79 : decode cX0_takes 79 = .ok (.aload_n 0, 1) := by decide +kernel
theorem dX0_takes_80 : decode cX0_takes 80 = .ok (.aload_n 1, 1) := by decide +kernel
theorem dX0_takes_81 : decode cX0_takes 81 = .ok (.getfield 27, 3) := by decide +kernel
theorem dX0_takes_84 : decode cX0_takes 84 = .ok (.putfield 27, 3) := by decide +kernel
theorem dX0_takes_87 : decode cX0_takes 87 = .ok (.aload_n 0, 1) := by decide +kernel
theorem dX0_takes_88 : decode cX0_takes 88 = .ok (.aload_n 1, 1) := by decide +kernel
theorem dX0_takes_89 : decode cX0_takes 89 = .ok (.getfield 31, 3) := by decide +kernel
theorem dX0_takes_92 : decode cX0_takes 92 = .ok (.putfield 31, 3) := by decide +kernel
theorem dX0_takes_95 : decode cX0_takes 95 = .ok (.aload_n 0, 1) := by decide +kernel
theorem dX0_takes_96 : decode cX0_takes 96 = .ok (.aload_n 1, 1) := by decide +kernel
theorem dX0_takes_97 : decode cX0_takes 97 = .ok (.getfield 34, 3) := by decide +kernel
theorem dX0_takes_100 : decode cX0_takes 100 = .ok (.putfield 34, 3) := by decide +kernel
theorem dX0_takes_103 : decode cX0_takes 103 = .ok (.aload_n 0, 1) := by decide +kernel
theorem dX0_takes_104 : decode cX0_takes 104 = .ok (.aload_n 1, 1) := by decide +kernel
theorem dX0_takes_105 : decode cX0_takes 105 = .ok (.getfield 37, 3) := by decide +kernel
theorem dX0_takes_108 : decode cX0_takes 108 = .ok (.putfield 37, 3) := by decide +kernel
theorem dX0_takes_111 : decode cX0_takes 111 = .ok (.return_, 1) := by decide +kernel
theorem dX0_comes_0 : decode cX0_comes 0 = .ok (.iload_n 1, 1) := by decide +kernel
theorem dX0_comes_1 : decode cX0_comes 1 = .ok (.iconst 0, 1) := by decide +kernel
theorem dX0_comes_2 : decode cX0_comes 2 = .ok (.iconst 5, 1) := by decide +kernel
theorem dX0_comes_3 : decode cX0_comes 3 = .ok (.invokestatic 44, 3) := by decide +kernel
theorem dX0_comes_6 : decode cX0_comes 6 = .ok (.ifCond .eq 13, 3) := by decide +kernel
theorem dX0_comes_9 : decode cX0_comes 9 = .ok (.iload_n 2, 1) := by decide +kernel
theorem dX0_comes_10 : decode cX0_comes 10 = .ok (.iconst 0, 1) := by decide +kernel
theorem dX0_comes_11 : decode cX0_comes 11 = .ok (.bipush 9, 2) := by decide +kernel
theorem dX0_comes_13 : decode cX0_comes 13 = .ok (.invokestatic 44, 3) := by decide +kernel
theorem dX0_comes_16 : decode cX0_comes 16 = .ok (.ifCond .ne 6, 3) := by decide +kernel
theorem dX0_comes_19 : decode cX0_comes 19 = .ok (.bipush (-2), 2) := by decide +kernel
theorem dX0_comes_21 : decode cX0_comes 21 = .ok (.ireturn, 1) := by decide +kernel
theorem dX0_comes_22 : decode cX0_comes 22 = .ok (.aload_n 0, 1) := by decide +kernel
theorem dX0_comes_23 : decode cX0_comes 23 = .ok (.getfield 31, 3) := by decide +kernel
theorem dX0_comes_26 : decode cX0_comes 26 = .ok (.ifCond .lt 12, 3) := by decide +kernel
theorem dX0_comes_29 : decode cX0_comes 29 = .ok (.aload_n 0, 1) := by decide +kernel
theorem dX0_comes_30 : decode cX0_comes 30 = .ok (.getfield 31, 3) := by decide +kernel
theorem dX0_comes_33 : decode cX0_comes 33 = .ok (.bipush 6, 2) := by decide +kernel
theorem dX0_comes_35 : decode cX0_comes 35 = .ok (.if_icmp .lt 6, 3) := by decide +kernel
theorem dX0_comes_38 : decode cX0_comes 38 = .ok (.bipush (-4), 2) := by decide +kernel
theorem dX0_comes_40 : decode cX0_comes 40 = .ok (.ireturn, 1) := by decide +kernel
theorem dX0_comes_41 : decode cX0_comes 41 = .ok (.aload_n 0, 1) := by decide +kernel
theorem dX0_comes_42 : decode cX0_comes 42 = .ok (.getfield 9, 3) := by decide +kernel
theorem dX0_comes_45 : decode cX0_comes 45 = .ok (.aload_n 0, 1) := by decide +kernel
theorem dX0_comes_46 : decode cX0_comes 46 = .ok (.getfield 31, 3) := by decide +kernel
theorem dX0_comes_49 : decode cX0_comes 49 = .ok (.iload_n 1, 1) := by decide +kernel
theorem dX0_comes_50 : decode cX0_comes 50 = .ok (.iastore, 1) := by decide +kernel
theorem dX0_comes_51 : decode cX0_comes 51 = .ok (.aload_n 0, 1) := by decide +kernel
theorem dX0_comes_52 : decode cX0_comes 52 = .ok (.getfield 15, 3) := by decide +kernel
theorem dX0_comes_55 : decode cX0_comes 55 = .ok (.aload_n 0, 1) := by decide +kernel
theorem dX0_comes_56 : decode cX0_comes 56 = .ok (.getfield 31, 3) := by decide +kernel
theorem dX0_comes_59 : decode cX0_comes 59 = .ok (.iload_n 2, 1) := by decide +kernel
theorem dX0_comes_60 : decode cX0_comes 60 = .ok (.iastore, 1) := by decide +kernel
theorem dX0_comes_61 : decode cX0_comes 61 = .ok (.aload_n 0, 1) := by decide +kernel
theorem dX0_comes_62 : decode cX0_comes 62 = .ok (.getfield 18, 3) := by decide +kernel
theorem dX0_comes_65 : decode cX0_comes 65 = .ok (.aload_n 0, 1) := by decide +kernel
theorem dX0_comes_66 : decode cX0_comes 66 = .ok (.getfield 31, 3) := by decide +kernel
theorem dX0_comes_69 : decode cX0_comes 69 = .ok (.bipush 50, 2) := by decide +kernel
theorem dX0_comes_71 : decode cX0_comes 71 = .ok (.iastore, 1) := by decide +kernel
theorem dX0_comes_72 : decode cX0_comes 72 = .ok (.aload_n 0, 1) := by decide +kernel
theorem dX0_comes_73 : decode cX0_comes 73 = .ok (.getfield 21, 3) := by decide +kernel
theorem dX0_comes_76 : decode cX0_comes 76 = .ok (.aload_n 0, 1) := by decide +kernel
theorem dX0_comes_77 : decode cX0_comes 77 = .ok (.getfield 31, 3) := by decide +kernel
theorem dX0_comes_80 : decode cX0_comes 80 = .ok (.iconst 0, 1) := by decide +kernel
theorem dX0_comes_81 : decode cX0_comes 81 = .ok (.iastore, 1) := by decide +kernel
theorem dX0_comes_82 : decode cX0_comes 82 = .ok (.aload_n 0, 1) := by decide +kernel
theorem dX0_comes_83 : decode cX0_comes 83 = .ok (.getfield 24, 3) := by decide +kernel
theorem dX0_comes_86 : decode cX0_comes 86 = .ok (.aload_n 0, 1) := by decide +kernel
theorem dX0_comes_87 : decode cX0_comes 87 = .ok (.getfield 31, 3) := by decide +kernel
theorem dX0_comes_90 : decode cX0_comes 90 = .ok (.iconst 0, 1) := by decide +kernel
theorem dX0_comes_91 : decode cX0_comes 91 = .ok (.iastore, 1) := by decide +kernel
theorem dX0_comes_92 : decode cX0_comes 92 = .ok (.aload_n 0, 1) := by decide +kernel
theorem dX0_comes_93 : decode cX0_comes 93 = .ok (.dup, 1) := by decide +kernel
theorem dX0_comes_94 : decode cX0_comes 94 = .ok (.getfield 31, 3) := by decide +kernel
theorem dX0_comes_97 : decode cX0_comes 97 = .ok (.iconst 1, 1) := by decide +kernel
theorem dX0_comes_98 : decode cX0_comes 98 = .ok (.iadd, 1) := by decide +kernel
theorem dX0_comes_99 : decode cX0_comes 99 = .ok (.putfield 31, 3) := by decide +kernel
theorem dX0_comes_102 : decode cX0_comes 102 = .ok (.aload_n 0, 1) := by decide +kernel
theorem dX0_comes_103 : decode cX0_comes 103 = .ok (.getfield 31, 3) := by decide +kernel
theorem dX0_comes_106 : decode cX0_comes 106 = .ok (.iconst 1, 1) := by decide +kernel
theorem dX0_comes_107 : decode cX0_comes 107 = .ok (.isub, 1) := by decide +kernel
theorem dX0_comes_108 : decode cX0_comes 108 = .ok (.ireturn, 1) := by decide +kernel
theorem dX0_isPlayer_0 : decode cX0_isPlayer 0 = .ok (.iload_n 1, 1) := by decide +kernel
theorem dX0_isPlayer_1 : decode cX0_isPlayer 1 = .ok (.ifCond .lt 21, 3) := by decide +kernel
theorem dX0_isPlayer_4 : decode cX0_isPlayer 4 = .ok (.iload_n 1, 1) := by decide +kernel
theorem dX0_isPlayer_5 : decode cX0_isPlayer 5 = .ok (.aload_n 0, 1) := by decide +kernel
theorem dX0_isPlayer_6 : decode cX0_isPlayer 6 = .ok (.getfield 31, 3) := by decide +kernel
theorem dX0_isPlayer_9 : decode cX0_isPlayer 9 = .ok (.if_icmp .ge 13, 3) := by decide +kernel
theorem dX0_isPlayer_12 : decode cX0_isPlayer 12 = .ok (.iload_n 1, 1) := by decide +kernel
theorem dX0_isPlayer_13 : decode cX0_isPlayer 13 = .ok (.bipush 6, 2) := by decide +kernel
theorem dX0_isPlayer_15 : decode cX0_isPlayer 15 = .ok (.if_icmp .ge 7, 3) := by decide +kernel
theorem dX0_isPlayer_18 : decode cX0_isPlayer 18 = .ok (.iconst 1, 1) := by decide +kernel
theorem dX0_isPlayer_19 : decode cX0_isPlayer 19 = .ok (.goto 4, 3) := by decide +kernel
theorem dX0_isPlayer_22 : decode cX0_isPlayer 22 = .ok (.iconst 0, 1) := by decide +kernel
theorem dX0_isPlayer_23 : decode cX0_isPlayer 23 = .ok (.ireturn, 1) := by decide +kernel
theorem dX0_areTwo_0 : decode cX0_areTwo 0 = .ok (.iload_n 1, 1) := by decide +kernel
theorem dX0_areTwo_1 : decode cX0_areTwo 1 = .ok (.ifCond .lt 21, 3) := by decide +kernel
theorem dX0_areTwo_4 : decode cX0_areTwo 4 = .ok (.iload_n 1, 1) := by decide +kernel
theorem dX0_areTwo_5 : decode cX0_areTwo 5 = .ok (.aload_n 0, 1) := by decide +kernel
theorem dX0_areTwo_6 : decode cX0_areTwo 6 = .ok (.getfield 31, 3) := by decide +kernel
theorem dX0_areTwo_9 : decode cX0_areTwo 9 = .ok (.if_icmp .ge 13, 3) := by decide +kernel
theorem dX0_areTwo_12 : decode cX0_areTwo 12 = .ok (.iload_n 1, 1) := by decide +kernel
theorem dX0_areTwo_13 : decode cX0_areTwo 13 = .ok (.bipush 6, 2) := by decide +kernel
theorem dX0_areTwo_15 : decode cX0_areTwo 15 = .ok (.if_icmp .ge 7, 3) := by decide +kernel
theorem dX0_areTwo_18 : decode cX0_areTwo 18 = .ok (.iconst 1, 1) := by decide +kernel
theorem dX0_areTwo_19 : decode cX0_areTwo 19 = .ok (.goto 4, 3) := by decide +kernel
theorem dX0_areTwo_22 : decode cX0_areTwo 22 = .ok (.iconst 0, 1) := by decide +kernel
theorem dX0_areTwo_23 : decode cX0_areTwo 23 = .ok (.istore_n 3, 1) := by decide +kernel
theorem dX0_areTwo_24 : decode cX0_areTwo 24 = .ok (.iload_n 3, 1) := by decide +kernel
theorem dX0_areTwo_25 : decode cX0_areTwo 25 = .ok (.ifCond .eq 30, 3) := by decide +kernel
theorem dX0_areTwo_28 : decode cX0_areTwo 28 = .ok (.iload_n 2, 1) := by decide +kernel
theorem dX0_areTwo_29 : decode cX0_areTwo 29 = .ok (.ifCond .lt 26, 3) := by decide +kernel
theorem dX0_areTwo_32 : decode cX0_areTwo 32 = .ok (.iload_n 2, 1) := by decide +kernel
theorem dX0_areTwo_33 : decode cX0_areTwo 33 = .ok (.aload_n 0, 1) := by decide +kernel
theorem dX0_areTwo_34 : decode cX0_areTwo 34 = .ok (.getfield 31, 3) := by decide +kernel
theorem dX0_areTwo_37 : decode cX0_areTwo 37 = .ok (.if_icmp .ge 18, 3) := by decide +kernel
theorem dX0_areTwo_40 : decode cX0_areTwo 40 = .ok (.iload_n 2, 1) := by decide +kernel
theorem dX0_areTwo_41 : decode cX0_areTwo 41 = .ok (.bipush 6, 2) := by decide +kernel
theorem dX0_areTwo_43 : decode cX0_areTwo 43 = .ok (.if_icmp .ge 12, 3) := by decide +kernel
theorem dX0_areTwo_46 : decode cX0_areTwo 46 = .ok (.iload_n 1, 1) := by decide +kernel
theorem dX0_areTwo_47 : decode cX0_areTwo 47 = .ok (.iload_n 2, 1) := by decide +kernel
theorem dX0_areTwo_48 : decode cX0_areTwo 48 = .ok (.if_icmp .eq 7, 3) := by decide +kernel
theorem dX0_areTwo_51 : decode cX0_areTwo 51 = .ok (.iconst 1, 1) := by decide +kernel
theorem dX0_areTwo_52 : decode cX0_areTwo 52 = .ok (.goto 4, 3) := by decide +kernel
theorem dX0_areTwo_55 : decode cX0_areTwo 55 = .ok (.iconst 0, 1) := by decide +kernel
theorem dX0_areTwo_56 : decode cX0_areTwo 56 = .ok (.ireturn, 1) := by decide +kernel
theorem dX0_placeOf_0 : decode cX0_placeOf 0 = .ok (.iconst 0, 1) := by decide +kernel
theorem dX0_placeOf_1 : decode cX0_placeOf 1 = .ok (.istore_n 2, 1) := by decide +kernel
theorem dX0_placeOf_2 : decode cX0_placeOf 2 = .ok (.iload_n 2, 1) := by decide +kernel
theorem dX0_placeOf_3 : decode cX0_placeOf 3 = .ok (.bipush 6, 2) := by decide +kernel
theorem dX0_placeOf_5 : decode cX0_placeOf 5 = .ok (.if_icmp .ge 24, 3) := by decide +kernel
theorem dX0_placeOf_8 : decode cX0_placeOf 8 = .ok (.aload_n 0, 1) := by decide +kernel
theorem dX0_placeOf_9 : decode cX0_placeOf 9 = .ok (.getfield 24, 3) := by decide +kernel
theorem dX0_placeOf_12 : decode cX0_placeOf 12 = .ok (.iload_n 2, 1) := by decide +kernel
theorem dX0_placeOf_13 : decode cX0_placeOf 13 = .ok (.iaload, 1) := by decide +kernel
theorem dX0_placeOf_14 : decode cX0_placeOf 14 = .ok (.iload_n 1, 1) := by decide +kernel
theorem dX0_placeOf_15 : decode cX0_placeOf 15 = .ok (.ishr, 1) := by decide +kernel
theorem dX0_placeOf_16 : decode cX0_placeOf 16 = .ok (.iconst 1, 1) := by decide +kernel
theorem dX0_placeOf_17 : decode cX0_placeOf 17 = .ok (.iand, 1) := by decide +kernel
theorem dX0_placeOf_18 : decode cX0_placeOf 18 = .ok (.ifCond .eq 5, 3) := by decide +kernel
theorem dX0_placeOf_21 : decode cX0_placeOf 21 = .ok (.iload_n 2, 1) := by decide +kernel
theorem dX0_placeOf_22 : decode cX0_placeOf 22 = .ok (.ireturn, 1) := by decide +kernel
theorem dX0_placeOf_23 : decode cX0_placeOf 23 = .ok (.iinc 2 1, 3) := by decide +kernel
theorem dX0_placeOf_26 : decode cX0_placeOf 26 = .ok (.goto (-24), 3) := by decide +kernel
theorem dX0_placeOf_29 : decode cX0_placeOf 29 = .ok (.iconst (-1), 1) := by decide +kernel
theorem dX0_placeOf_30 : decode cX0_placeOf 30 = .ok (.ireturn, 1) := by decide +kernel
theorem dX0_bring_0 : decode cX0_bring 0 = .ok (.iconst 1, 1) := by decide +kernel
theorem dX0_bring_1 : decode cX0_bring 1 = .ok (.iload_n 1, 1) := by decide +kernel
theorem dX0_bring_2 : decode cX0_bring 2 = .ok (.ishl, 1) := by decide +kernel
theorem dX0_bring_3 : decode cX0_bring 3 = .ok (.istore_n 3, 1) := by decide +kernel
theorem dX0_bring_4 : decode cX0_bring 4 = .ok (.aload_n 0, 1) := by decide +kernel
theorem dX0_bring_5 : decode cX0_bring 5 = .ok (.dup, 1) := by decide +kernel
theorem dX0_bring_6 : decode cX0_bring 6 = .ok (.getfield 27, 3) := by decide +kernel
theorem dX0_bring_9 : decode cX0_bring 9 = .ok (.iload_n 3, 1) := by decide +kernel
theorem dX0_bring_10 : decode cX0_bring 10 = .ok (.iconst (-1), 1) := by decide +kernel
theorem dX0_bring_11 : decode cX0_bring 11 = .ok (.ixor, 1) := by decide +kernel
theorem dX0_bring_12 : decode cX0_bring 12 = .ok (.iand, 1) := by decide +kernel
theorem dX0_bring_13 : decode cX0_bring 13 = .ok (.putfield 27, 3) := by decide +kernel
theorem dX0_bring_16 : decode cX0_bring 16 = .ok (.iconst 0, 1) := by decide +kernel
theorem dX0_bring_17 : decode cX0_bring 17 = .ok (.istore 4, 2) := by decide +kernel
theorem dX0_bring_19 : decode cX0_bring 19 = .ok (.iload 4, 2) := by decide +kernel
theorem dX0_bring_21 : decode cX0_bring 21 = .ok (.bipush 6, 2) := by decide +kernel
theorem dX0_bring_23 : decode cX0_bring 23 = .ok (.if_icmp .ge 22, 3) := by decide +kernel
theorem dX0_bring_26 : decode cX0_bring 26 = .ok (.aload_n 0, 1) := by decide +kernel
theorem dX0_bring_27 : decode cX0_bring 27 = .ok (.getfield 24, 3) := by decide +kernel
theorem dX0_bring_30 : decode cX0_bring 30 = .ok (.iload 4, 2) := by decide +kernel
theorem dX0_bring_32 : decode cX0_bring 32 = .ok (.dup2, 1) := by decide +kernel
theorem dX0_bring_33 : decode cX0_bring 33 = .ok (.iaload, 1) := by decide +kernel
theorem dX0_bring_34 : decode cX0_bring 34 = .ok (.iload_n 3, 1) := by decide +kernel
theorem dX0_bring_35 : decode cX0_bring 35 = .ok (.iconst (-1), 1) := by decide +kernel
theorem dX0_bring_36 : decode cX0_bring 36 = .ok (.ixor, 1) := by decide +kernel
theorem dX0_bring_37 : decode cX0_bring 37 = .ok (.iand, 1) := by decide +kernel
theorem dX0_bring_38 : decode cX0_bring 38 = .ok (.iastore, 1) := by decide +kernel
theorem dX0_bring_39 : decode cX0_bring 39 = .ok (.iinc 4 1, 3) := by decide +kernel
theorem dX0_bring_42 : decode cX0_bring 42 = .ok (.goto (-23), 3) := by decide +kernel
theorem dX0_bring_45 : decode cX0_bring 45 = .ok (.aload_n 0, 1) := by decide +kernel
theorem dX0_bring_46 : decode cX0_bring 46 = .ok (.iload_n 2, 1) := by decide +kernel
theorem dX0_bring_47 : decode cX0_bring 47 = .ok (.invokevirtual 48, 3) := by decide +kernel
theorem dX0_bring_50 : decode cX0_bring 50 = .ok (.ifCond .eq 16, 3) := by decide +kernel
theorem dX0_bring_53 : decode cX0_bring 53 = .ok (.aload_n 0, 1) := by decide +kernel
theorem dX0_bring_54 : decode cX0_bring 54 = .ok (.getfield 24, 3) := by decide +kernel
theorem dX0_bring_57 : decode cX0_bring 57 = .ok (.iload_n 2, 1) := by decide +kernel
theorem dX0_bring_58 : decode cX0_bring 58 = .ok (.dup2, 1) := by decide +kernel
theorem dX0_bring_59 : decode cX0_bring 59 = .ok (.iaload, 1) := by decide +kernel
theorem dX0_bring_60 : decode cX0_bring 60 = .ok (.iload_n 3, 1) := by decide +kernel
theorem dX0_bring_61 : decode cX0_bring 61 = .ok (.ior, 1) := by decide +kernel
theorem dX0_bring_62 : decode cX0_bring 62 = .ok (.iastore, 1) := by decide +kernel
theorem dX0_bring_63 : decode cX0_bring 63 = .ok (.goto 13, 3) := by decide +kernel
theorem dX0_bring_66 : decode cX0_bring 66 = .ok (.aload_n 0, 1) := by decide +kernel
theorem dX0_bring_67 : decode cX0_bring 67 = .ok (.dup, 1) := by decide +kernel
theorem dX0_bring_68 : decode cX0_bring 68 = .ok (.getfield 27, 3) := by decide +kernel
theorem dX0_bring_71 : decode cX0_bring 71 = .ok (.iload_n 3, 1) := by decide +kernel
theorem dX0_bring_72 : decode cX0_bring 72 = .ok (.ior, 1) := by decide +kernel
theorem dX0_bring_73 : decode cX0_bring 73 = .ok (.putfield 27, 3) := by decide +kernel
theorem dX0_bring_76 : decode cX0_bring 76 = .ok (.return_, 1) := by decide +kernel
theorem dX0_manyInHall_0 : decode cX0_manyInHall 0 = .ok (.aload_n 0, 1) := by decide +kernel
theorem dX0_manyInHall_1 : decode cX0_manyInHall 1 = .ok (.getfield 27, 3) := by decide +kernel
theorem dX0_manyInHall_4 : decode cX0_manyInHall 4 = .ok (.invokestatic 52, 3) := by decide +kernel
theorem dX0_manyInHall_7 : decode cX0_manyInHall 7 = .ok (.ireturn, 1) := by decide +kernel
theorem dX0_howMany_0 : decode cX0_howMany 0 = .ok (.aload_n 0, 1) := by decide +kernel
theorem dX0_howMany_1 : decode cX0_howMany 1 = .ok (.iload_n 1, 1) := by decide +kernel
theorem dX0_howMany_2 : decode cX0_howMany 2 = .ok (.invokevirtual 48, 3) := by decide +kernel
theorem dX0_howMany_5 : decode cX0_howMany 5 = .ok (.ifCond .eq 15, 3) := by decide +kernel
theorem dX0_howMany_8 : decode cX0_howMany 8 = .ok (.aload_n 0, 1) := by decide +kernel
theorem dX0_howMany_9 : decode cX0_howMany 9 = .ok (.getfield 24, 3) := by decide +kernel
theorem dX0_howMany_12 : decode cX0_howMany 12 = .ok (.iload_n 1, 1) := by decide +kernel
theorem dX0_howMany_13 : decode cX0_howMany 13 = .ok (.iaload, 1) := by decide +kernel
theorem dX0_howMany_14 : decode cX0_howMany 14 = .ok (.invokestatic 52, 3) := by decide +kernel
theorem dX0_howMany_17 : decode cX0_howMany 17 = .ok (.goto 4, 3) := by decide +kernel
theorem dX0_howMany_20 : decode cX0_howMany 20 = .ok (.iconst 0, 1) := by decide +kernel
theorem dX0_howMany_21 : decode cX0_howMany 21 = .ok (.ireturn, 1) := by decide +kernel
theorem dX0_whoHasMost_0 : decode cX0_whoHasMost 0 = .ok (.iconst 0, 1) := by decide +kernel
theorem dX0_whoHasMost_1 : decode cX0_whoHasMost 1 = .ok (.istore_n 1, 1) := by decide +kernel
theorem dX0_whoHasMost_2 : decode cX0_whoHasMost 2 = .ok (.iconst (-1), 1) := by decide +kernel
theorem dX0_whoHasMost_3 : decode cX0_whoHasMost 3 = .ok (.istore_n 2, 1) := by decide +kernel
theorem dX0_whoHasMost_4 : decode cX0_whoHasMost 4 = .ok (.iconst 0, 1) := by decide +kernel
theorem dX0_whoHasMost_5 : decode cX0_whoHasMost 5 = .ok (.istore_n 3, 1) := by decide +kernel
theorem dX0_whoHasMost_6 : decode cX0_whoHasMost 6 = .ok (.iload_n 3, 1) := by decide +kernel
theorem dX0_whoHasMost_7 : decode cX0_whoHasMost 7 = .ok (.aload_n 0, 1) := by decide +kernel
theorem dX0_whoHasMost_8 : decode cX0_whoHasMost 8 = .ok (.getfield 31, 3) := by decide +kernel
theorem dX0_whoHasMost_11 : decode cX0_whoHasMost 11 = .ok (.if_icmp .ge 26, 3) := by decide +kernel
theorem dX0_whoHasMost_14 : decode cX0_whoHasMost 14 = .ok (.aload_n 0, 1) := by decide +kernel
theorem dX0_whoHasMost_15 : decode cX0_whoHasMost 15 = .ok (.iload_n 3, 1) := by decide +kernel
theorem dX0_whoHasMost_16 : decode cX0_whoHasMost 16 = .ok (.invokevirtual 58, 3) := by decide +kernel
theorem dX0_whoHasMost_19 : decode cX0_whoHasMost 19 = .ok (.iload_n 1, 1) := by decide +kernel
theorem dX0_whoHasMost_20 : decode cX0_whoHasMost 20 = .ok (.if_icmp .le 11, 3) := by decide +kernel
theorem dX0_whoHasMost_23 : decode cX0_whoHasMost 23 = .ok (.aload_n 0, 1) := by decide +kernel
theorem dX0_whoHasMost_24 : decode cX0_whoHasMost 24 = .ok (.iload_n 3, 1) := by decide +kernel
theorem dX0_whoHasMost_25 : decode cX0_whoHasMost 25 = .ok (.invokevirtual 58, 3) := by decide +kernel
theorem dX0_whoHasMost_28 : decode cX0_whoHasMost 28 = .ok (.istore_n 1, 1) := by decide +kernel
theorem dX0_whoHasMost_29 : decode cX0_whoHasMost 29 = .ok (.iload_n 3, 1) := by decide +kernel
theorem dX0_whoHasMost_30 : decode cX0_whoHasMost 30 = .ok (.istore_n 2, 1) := by decide +kernel
theorem dX0_whoHasMost_31 : decode cX0_whoHasMost 31 = .ok (.iinc 3 1, 3) := by decide +kernel
theorem dX0_whoHasMost_34 : decode cX0_whoHasMost 34 = .ok (.goto (-28), 3) := by decide +kernel
theorem dX0_whoHasMost_37 : decode cX0_whoHasMost 37 = .ok (.iload_n 2, 1) := by decide +kernel
theorem dX0_whoHasMost_38 : decode cX0_whoHasMost 38 = .ok (.ireturn, 1) := by decide +kernel
theorem dX0_whoHasAll_0 : decode cX0_whoHasAll 0 = .ok (.iconst 0, 1) := by decide +kernel
theorem dX0_whoHasAll_1 : decode cX0_whoHasAll 1 = .ok (.istore_n 1, 1) := by decide +kernel
theorem dX0_whoHasAll_2 : decode cX0_whoHasAll 2 = .ok (.iconst 0, 1) := by decide +kernel
theorem dX0_whoHasAll_3 : decode cX0_whoHasAll 3 = .ok (.istore_n 2, 1) := by decide +kernel
theorem dX0_whoHasAll_4 : decode cX0_whoHasAll 4 = .ok (.iload_n 2, 1) := by decide +kernel
theorem dX0_whoHasAll_5 : decode cX0_whoHasAll 5 = .ok (.aload_n 0, 1) := by decide +kernel
theorem dX0_whoHasAll_6 : decode cX0_whoHasAll 6 = .ok (.getfield 31, 3) := by decide +kernel
theorem dX0_whoHasAll_9 : decode cX0_whoHasAll 9 = .ok (.if_icmp .ge 25, 3) := by decide +kernel
theorem dX0_whoHasAll_12 : decode cX0_whoHasAll 12 = .ok (.aload_n 0, 1) := by decide +kernel
theorem dX0_whoHasAll_13 : decode cX0_whoHasAll 13 = .ok (.iload_n 2, 1) := by decide +kernel
theorem dX0_whoHasAll_14 : decode cX0_whoHasAll 14 = .ok (.invokevirtual 58, 3) := by decide +kernel
theorem dX0_whoHasAll_17 : decode cX0_whoHasAll 17 = .ok (.bipush 8, 2) := by decide +kernel
theorem dX0_whoHasAll_19 : decode cX0_whoHasAll 19 = .ok (.if_icmp .ne 9, 3) := by decide +kernel
theorem dX0_whoHasAll_22 : decode cX0_whoHasAll 22 = .ok (.iload_n 1, 1) := by decide +kernel
theorem dX0_whoHasAll_23 : decode cX0_whoHasAll 23 = .ok (.iconst 1, 1) := by decide +kernel
theorem dX0_whoHasAll_24 : decode cX0_whoHasAll 24 = .ok (.iload_n 2, 1) := by decide +kernel
theorem dX0_whoHasAll_25 : decode cX0_whoHasAll 25 = .ok (.ishl, 1) := by decide +kernel
theorem dX0_whoHasAll_26 : decode cX0_whoHasAll 26 = .ok (.ior, 1) := by decide +kernel
theorem dX0_whoHasAll_27 : decode cX0_whoHasAll 27 = .ok (.istore_n 1, 1) := by decide +kernel
theorem dX0_whoHasAll_28 : decode cX0_whoHasAll 28 = .ok (.iinc 2 1, 3) := by decide +kernel
theorem dX0_whoHasAll_31 : decode cX0_whoHasAll 31 = .ok (.goto (-27), 3) := by decide +kernel
theorem dX0_whoHasAll_34 : decode cX0_whoHasAll 34 = .ok (.iload_n 1, 1) := by decide +kernel
theorem dX0_whoHasAll_35 : decode cX0_whoHasAll 35 = .ok (.ireturn, 1) := by decide +kernel
theorem dX0_nameValues_0 : decode cX0_nameValues 0 = .ok (.aload_n 0, 1) := by decide +kernel
theorem dX0_nameValues_1 : decode cX0_nameValues 1 = .ok (.getfield 40, 3) := by decide +kernel
theorem dX0_nameValues_4 : decode cX0_nameValues 4 = .ok (.getfield 61, 3) := by decide +kernel
theorem dX0_nameValues_7 : decode cX0_nameValues 7 = .ok (.astore_n 3, 1) := by decide +kernel
theorem dX0_nameValues_8 : decode cX0_nameValues 8 = .ok (.aload_n 3, 1) := by decide +kernel
theorem dX0_nameValues_9 : decode cX0_nameValues 9 = .ok (.iconst 0, 1) := by decide +kernel
theorem dX0_nameValues_10 : decode cX0_nameValues 10 = .ok (.aload_n 0, 1) := by decide +kernel
theorem dX0_nameValues_11 : decode cX0_nameValues 11 = .ok (.getfield 18, 3) := by decide +kernel
theorem dX0_nameValues_14 : decode cX0_nameValues 14 = .ok (.iload_n 1, 1) := by decide +kernel
theorem dX0_nameValues_15 : decode cX0_nameValues 15 = .ok (.iaload, 1) := by decide +kernel
theorem dX0_nameValues_16 : decode cX0_nameValues 16 = .ok (.iastore, 1) := by decide +kernel
theorem dX0_nameValues_17 : decode cX0_nameValues 17 = .ok (.aload_n 3, 1) := by decide +kernel
theorem dX0_nameValues_18 : decode cX0_nameValues 18 = .ok (.iconst 1, 1) := by decide +kernel
theorem dX0_nameValues_19 : decode cX0_nameValues 19 = .ok (.aload_n 0, 1) := by decide +kernel
theorem dX0_nameValues_20 : decode cX0_nameValues 20 = .ok (.getfield 24, 3) := by decide +kernel
theorem dX0_nameValues_23 : decode cX0_nameValues 23 = .ok (.iload_n 1, 1) := by decide +kernel
theorem dX0_nameValues_24 : decode cX0_nameValues 24 = .ok (.iaload, 1) := by decide +kernel
theorem dX0_nameValues_25 : decode cX0_nameValues 25 = .ok (.invokestatic 52, 3) := by decide +kernel
theorem dX0_nameValues_28 : decode cX0_nameValues 28 = .ok (.iastore, 1) := by decide +kernel
theorem dX0_nameValues_29 : decode cX0_nameValues 29 = .ok (.aload_n 3, 1) := by decide +kernel
theorem dX0_nameValues_30 : decode cX0_nameValues 30 = .ok (.iconst 2, 1) := by decide +kernel
theorem dX0_nameValues_31 : decode cX0_nameValues 31 = .ok (.aload_n 0, 1) := by decide +kernel
theorem dX0_nameValues_32 : decode cX0_nameValues 32 = .ok (.getfield 15, 3) := by decide +kernel
theorem dX0_nameValues_35 : decode cX0_nameValues 35 = .ok (.iload_n 1, 1) := by decide +kernel
theorem dX0_nameValues_36 : decode cX0_nameValues 36 = .ok (.iaload, 1) := by decide +kernel
theorem dX0_nameValues_37 : decode cX0_nameValues 37 = .ok (.iastore, 1) := by decide +kernel
theorem dX0_nameValues_38 : decode cX0_nameValues 38 = .ok (.aload_n 3, 1) := by decide +kernel
theorem dX0_nameValues_39 : decode cX0_nameValues 39 = .ok (.iconst 3, 1) := by decide +kernel
theorem dX0_nameValues_40 : decode cX0_nameValues 40 = .ok (.aload_n 0, 1) := by decide +kernel
theorem dX0_nameValues_41 : decode cX0_nameValues 41 = .ok (.getfield 18, 3) := by decide +kernel
theorem dX0_nameValues_44 : decode cX0_nameValues 44 = .ok (.iload_n 2, 1) := by decide +kernel
theorem dX0_nameValues_45 : decode cX0_nameValues 45 = .ok (.iaload, 1) := by decide +kernel
theorem dX0_nameValues_46 : decode cX0_nameValues 46 = .ok (.iastore, 1) := by decide +kernel
theorem dX0_nameValues_47 : decode cX0_nameValues 47 = .ok (.aload_n 3, 1) := by decide +kernel
theorem dX0_nameValues_48 : decode cX0_nameValues 48 = .ok (.iconst 4, 1) := by decide +kernel
theorem dX0_nameValues_49 : decode cX0_nameValues 49 = .ok (.aload_n 0, 1) := by decide +kernel
theorem dX0_nameValues_50 : decode cX0_nameValues 50 = .ok (.getfield 34, 3) := by decide +kernel
theorem dX0_nameValues_53 : decode cX0_nameValues 53 = .ok (.iastore, 1) := by decide +kernel
theorem dX0_nameValues_54 : decode cX0_nameValues 54 = .ok (.aload_n 3, 1) := by decide +kernel
theorem dX0_nameValues_55 : decode cX0_nameValues 55 = .ok (.iconst 5, 1) := by decide +kernel
theorem dX0_nameValues_56 : decode cX0_nameValues 56 = .ok (.aload_n 0, 1) := by decide +kernel
theorem dX0_nameValues_57 : decode cX0_nameValues 57 = .ok (.getfield 24, 3) := by decide +kernel
theorem dX0_nameValues_60 : decode cX0_nameValues 60 = .ok (.iload_n 2, 1) := by decide +kernel
theorem dX0_nameValues_61 : decode cX0_nameValues 61 = .ok (.iaload, 1) := by decide +kernel
theorem dX0_nameValues_62 : decode cX0_nameValues 62 = .ok (.aload_n 0, 1) := by decide +kernel
theorem dX0_nameValues_63 : decode cX0_nameValues 63 = .ok (.getfield 27, 3) := by decide +kernel
theorem dX0_nameValues_66 : decode cX0_nameValues 66 = .ok (.ior, 1) := by decide +kernel
theorem dX0_nameValues_67 : decode cX0_nameValues 67 = .ok (.invokestatic 52, 3) := by decide +kernel
theorem dX0_nameValues_70 : decode cX0_nameValues 70 = .ok (.iastore, 1) := by decide +kernel
theorem dX0_nameValues_71 : decode cX0_nameValues 71 = .ok (.return_, 1) := by decide +kernel
theorem dX0_playsBy_0 : decode cX0_playsBy 0 = .ok (.aload_n 0, 1) := by decide +kernel
theorem dX0_playsBy_1 : decode cX0_playsBy 1 = .ok (.getfield 9, 3) := by decide +kernel
theorem dX0_playsBy_4 : decode cX0_playsBy 4 = .ok (.iload_n 2, 1) := by decide +kernel
theorem dX0_playsBy_5 : decode cX0_playsBy 5 = .ok (.iaload, 1) := by decide +kernel
theorem dX0_playsBy_6 : decode cX0_playsBy 6 = .ok (.tableswitch 99 1 5 #[34, 38, 42, 68, 97], 34) := by decide +kernel
theorem dX0_playsBy_40 : decode cX0_playsBy 40 = .ok (.iconst 2, 1) := by decide +kernel
theorem dX0_playsBy_41 : decode cX0_playsBy 41 = .ok (.iload_n 1, 1) := by decide +kernel
theorem dX0_playsBy_42 : decode cX0_playsBy 42 = .ok (.imul, 1) := by decide +kernel
theorem dX0_playsBy_43 : decode cX0_playsBy 43 = .ok (.ireturn, 1) := by decide +kernel
theorem dX0_playsBy_44 : decode cX0_playsBy 44 = .ok (.iload_n 1, 1) := by decide +kernel
theorem dX0_playsBy_45 : decode cX0_playsBy 45 = .ok (.iconst 2, 1) := by decide +kernel
theorem dX0_playsBy_46 : decode cX0_playsBy 46 = .ok (.idiv, 1) := by decide +kernel
theorem dX0_playsBy_47 : decode cX0_playsBy 47 = .ok (.ireturn, 1) := by decide +kernel
theorem dX0_playsBy_48 : decode cX0_playsBy 48 = .ok (.aload_n 0, 1) := by decide +kernel
theorem dX0_playsBy_49 : decode cX0_playsBy 49 = .ok (.getfield 24, 3) := by decide +kernel
theorem dX0_playsBy_52 : decode cX0_playsBy 52 = .ok (.iload_n 2, 1) := by decide +kernel
theorem dX0_playsBy_53 : decode cX0_playsBy 53 = .ok (.iaload, 1) := by decide +kernel
theorem dX0_playsBy_54 : decode cX0_playsBy 54 = .ok (.ifCond .ne 16, 3) := by decide +kernel
theorem dX0_playsBy_57 : decode cX0_playsBy 57 = .ok (.iconst 2, 1) := by decide +kernel
theorem dX0_playsBy_58 : decode cX0_playsBy 58 = .ok (.iload_n 1, 1) := by decide +kernel
theorem dX0_playsBy_59 : decode cX0_playsBy 59 = .ok (.imul, 1) := by decide +kernel
theorem dX0_playsBy_60 : decode cX0_playsBy 60 = .ok (.aload_n 0, 1) := by decide +kernel
theorem dX0_playsBy_61 : decode cX0_playsBy 61 = .ok (.getfield 15, 3) := by decide +kernel
theorem dX0_playsBy_64 : decode cX0_playsBy 64 = .ok (.iload_n 2, 1) := by decide +kernel
theorem dX0_playsBy_65 : decode cX0_playsBy 65 = .ok (.iaload, 1) := by decide +kernel
theorem dX0_playsBy_66 : decode cX0_playsBy 66 = .ok (.iadd, 1) := by decide +kernel
theorem dX0_playsBy_67 : decode cX0_playsBy 67 = .ok (.goto 6, 3) := by decide +kernel
theorem dX0_playsBy_70 : decode cX0_playsBy 70 = .ok (.iconst 2, 1) := by decide +kernel
theorem dX0_playsBy_71 : decode cX0_playsBy 71 = .ok (.iload_n 1, 1) := by decide +kernel
theorem dX0_playsBy_72 : decode cX0_playsBy 72 = .ok (.imul, 1) := by decide +kernel
theorem dX0_playsBy_73 : decode cX0_playsBy 73 = .ok (.ireturn, 1) := by decide +kernel
theorem dX0_playsBy_74 : decode cX0_playsBy 74 = .ok (.aload_n 0, 1) := by decide +kernel
theorem dX0_playsBy_75 : decode cX0_playsBy 75 = .ok (.getfield 34, 3) := by decide +kernel
theorem dX0_playsBy_78 : decode cX0_playsBy 78 = .ok (.bipush 10, 2) := by decide +kernel
theorem dX0_playsBy_80 : decode cX0_playsBy 80 = .ok (.irem, 1) := by decide +kernel
theorem dX0_playsBy_81 : decode cX0_playsBy 81 = .ok (.aload_n 0, 1) := by decide +kernel
theorem dX0_playsBy_82 : decode cX0_playsBy 82 = .ok (.getfield 15, 3) := by decide +kernel
theorem dX0_playsBy_85 : decode cX0_playsBy 85 = .ok (.iload_n 2, 1) := by decide +kernel
theorem dX0_playsBy_86 : decode cX0_playsBy 86 = .ok (.iaload, 1) := by decide +kernel
theorem dX0_playsBy_87 : decode cX0_playsBy 87 = .ok (.if_icmp .ne 12, 3) := by decide +kernel
theorem dX0_playsBy_90 : decode cX0_playsBy 90 = .ok (.iload_n 1, 1) := by decide +kernel
theorem dX0_playsBy_91 : decode cX0_playsBy 91 = .ok (.iconst 2, 1) := by decide +kernel
theorem dX0_playsBy_92 : decode cX0_playsBy 92 = .ok (.idiv, 1) := by decide +kernel
theorem dX0_playsBy_93 : decode cX0_playsBy 93 = .ok (.bipush 50, 2) := by decide +kernel
theorem dX0_playsBy_95 : decode cX0_playsBy 95 = .ok (.iadd, 1) := by decide +kernel
theorem dX0_playsBy_96 : decode cX0_playsBy 96 = .ok (.goto 6, 3) := by decide +kernel
theorem dX0_playsBy_99 : decode cX0_playsBy 99 = .ok (.iload_n 1, 1) := by decide +kernel
theorem dX0_playsBy_100 : decode cX0_playsBy 100 = .ok (.iconst 2, 1) := by decide +kernel
theorem dX0_playsBy_101 : decode cX0_playsBy 101 = .ok (.idiv, 1) := by decide +kernel
theorem dX0_playsBy_102 : decode cX0_playsBy 102 = .ok (.ireturn, 1) := by decide +kernel
theorem dX0_playsBy_103 : decode cX0_playsBy 103 = .ok (.iconst 0, 1) := by decide +kernel
theorem dX0_playsBy_104 : decode cX0_playsBy 104 = .ok (.ireturn, 1) := by decide +kernel
theorem dX0_playsBy_105 : decode cX0_playsBy 105 = .ok (.iload_n 1, 1) := by decide +kernel
theorem dX0_playsBy_106 : decode cX0_playsBy 106 = .ok (.ireturn, 1) := by decide +kernel
theorem dX0_throwsBy_0 : decode cX0_throwsBy 0 = .ok (.aload_n 0, 1) := by decide +kernel
theorem dX0_throwsBy_1 : decode cX0_throwsBy 1 = .ok (.getfield 9, 3) := by decide +kernel
theorem dX0_throwsBy_4 : decode cX0_throwsBy 4 = .ok (.iload_n 2, 1) := by decide +kernel
theorem dX0_throwsBy_5 : decode cX0_throwsBy 5 = .ok (.iaload, 1) := by decide +kernel
theorem dX0_throwsBy_6 : decode cX0_throwsBy 6 = .ok (.tableswitch 87 1 4 #[30, 53, 55, 53], 30) := by decide +kernel
theorem dX0_throwsBy_36 : decode cX0_throwsBy 36 = .ok (.iload_n 1, 1) := by decide +kernel
theorem dX0_throwsBy_37 : decode cX0_throwsBy 37 = .ok (.ifCond .eq 20, 3) := by decide +kernel
theorem dX0_throwsBy_40 : decode cX0_throwsBy 40 = .ok (.aload_n 0, 1) := by decide +kernel
theorem dX0_throwsBy_41 : decode cX0_throwsBy 41 = .ok (.getfield 24, 3) := by decide +kernel
theorem dX0_throwsBy_44 : decode cX0_throwsBy 44 = .ok (.iload_n 2, 1) := by decide +kernel
theorem dX0_throwsBy_45 : decode cX0_throwsBy 45 = .ok (.iaload, 1) := by decide +kernel
theorem dX0_throwsBy_46 : decode cX0_throwsBy 46 = .ok (.invokestatic 52, 3) := by decide +kernel
theorem dX0_throwsBy_49 : decode cX0_throwsBy 49 = .ok (.iconst 4, 1) := by decide +kernel
theorem dX0_throwsBy_50 : decode cX0_throwsBy 50 = .ok (.if_icmp .ge 7, 3) := by decide +kernel
theorem dX0_throwsBy_53 : decode cX0_throwsBy 53 = .ok (.iconst 1, 1) := by decide +kernel
theorem dX0_throwsBy_54 : decode cX0_throwsBy 54 = .ok (.goto 4, 3) := by decide +kernel
theorem dX0_throwsBy_57 : decode cX0_throwsBy 57 = .ok (.iconst 0, 1) := by decide +kernel
theorem dX0_throwsBy_58 : decode cX0_throwsBy 58 = .ok (.ireturn, 1) := by decide +kernel
theorem dX0_throwsBy_59 : decode cX0_throwsBy 59 = .ok (.iconst 0, 1) := by decide +kernel
theorem dX0_throwsBy_60 : decode cX0_throwsBy 60 = .ok (.ireturn, 1) := by decide +kernel
theorem dX0_throwsBy_61 : decode cX0_throwsBy 61 = .ok (.iload_n 1, 1) := by decide +kernel
theorem dX0_throwsBy_62 : decode cX0_throwsBy 62 = .ok (.ifCond .eq 16, 3) := by decide +kernel
theorem dX0_throwsBy_65 : decode cX0_throwsBy 65 = .ok (.aload_n 0, 1) := by decide +kernel
theorem dX0_throwsBy_66 : decode cX0_throwsBy 66 = .ok (.getfield 24, 3) := by decide +kernel
theorem dX0_throwsBy_69 : decode cX0_throwsBy 69 = .ok (.iload_n 2, 1) := by decide +kernel
theorem dX0_throwsBy_70 : decode cX0_throwsBy 70 = .ok (.iaload, 1) := by decide +kernel
theorem dX0_throwsBy_71 : decode cX0_throwsBy 71 = .ok (.invokestatic 52, 3) := by decide +kernel
theorem dX0_throwsBy_74 : decode cX0_throwsBy 74 = .ok (.iconst 4, 1) := by decide +kernel
theorem dX0_throwsBy_75 : decode cX0_throwsBy 75 = .ok (.if_icmp .lt 12, 3) := by decide +kernel
theorem dX0_throwsBy_78 : decode cX0_throwsBy 78 = .ok (.aload_n 0, 1) := by decide +kernel
theorem dX0_throwsBy_79 : decode cX0_throwsBy 79 = .ok (.getfield 24, 3) := by decide +kernel
theorem dX0_throwsBy_82 : decode cX0_throwsBy 82 = .ok (.iload_n 3, 1) := by decide +kernel
theorem dX0_throwsBy_83 : decode cX0_throwsBy 83 = .ok (.iaload, 1) := by decide +kernel
theorem dX0_throwsBy_84 : decode cX0_throwsBy 84 = .ok (.ifCond .eq 7, 3) := by decide +kernel
theorem dX0_throwsBy_87 : decode cX0_throwsBy 87 = .ok (.iconst 1, 1) := by decide +kernel
theorem dX0_throwsBy_88 : decode cX0_throwsBy 88 = .ok (.goto 4, 3) := by decide +kernel
theorem dX0_throwsBy_91 : decode cX0_throwsBy 91 = .ok (.iconst 0, 1) := by decide +kernel
theorem dX0_throwsBy_92 : decode cX0_throwsBy 92 = .ok (.ireturn, 1) := by decide +kernel
theorem dX0_throwsBy_93 : decode cX0_throwsBy 93 = .ok (.iload_n 1, 1) := by decide +kernel
theorem dX0_throwsBy_94 : decode cX0_throwsBy 94 = .ok (.ireturn, 1) := by decide +kernel
theorem dX0_tiresBy_0 : decode cX0_tiresBy 0 = .ok (.aload_n 0, 1) := by decide +kernel
theorem dX0_tiresBy_1 : decode cX0_tiresBy 1 = .ok (.getfield 9, 3) := by decide +kernel
theorem dX0_tiresBy_4 : decode cX0_tiresBy 4 = .ok (.iload_n 2, 1) := by decide +kernel
theorem dX0_tiresBy_5 : decode cX0_tiresBy 5 = .ok (.iaload, 1) := by decide +kernel
theorem dX0_tiresBy_6 : decode cX0_tiresBy 6 = .ok (.tableswitch 66 1 5 #[34, 44, 47, 59, 64], 34) := by decide +kernel
theorem dX0_tiresBy_40 : decode cX0_tiresBy 40 = .ok (.iload_n 3, 1) := by decide +kernel
theorem dX0_tiresBy_41 : decode cX0_tiresBy 41 = .ok (.ifCond .eq 7, 3) := by decide +kernel
theorem dX0_tiresBy_44 : decode cX0_tiresBy 44 = .ok (.iconst 0, 1) := by decide +kernel
theorem dX0_tiresBy_45 : decode cX0_tiresBy 45 = .ok (.goto 4, 3) := by decide +kernel
theorem dX0_tiresBy_48 : decode cX0_tiresBy 48 = .ok (.iload_n 1, 1) := by decide +kernel
theorem dX0_tiresBy_49 : decode cX0_tiresBy 49 = .ok (.ireturn, 1) := by decide +kernel
theorem dX0_tiresBy_50 : decode cX0_tiresBy 50 = .ok (.iload_n 1, 1) := by decide +kernel
theorem dX0_tiresBy_51 : decode cX0_tiresBy 51 = .ok (.ineg, 1) := by decide +kernel
theorem dX0_tiresBy_52 : decode cX0_tiresBy 52 = .ok (.ireturn, 1) := by decide +kernel
theorem dX0_tiresBy_53 : decode cX0_tiresBy 53 = .ok (.iload_n 3, 1) := by decide +kernel
theorem dX0_tiresBy_54 : decode cX0_tiresBy 54 = .ok (.ifCond .eq 7, 3) := by decide +kernel
theorem dX0_tiresBy_57 : decode cX0_tiresBy 57 = .ok (.iconst 1, 1) := by decide +kernel
theorem dX0_tiresBy_58 : decode cX0_tiresBy 58 = .ok (.goto 6, 3) := by decide +kernel
theorem dX0_tiresBy_61 : decode cX0_tiresBy 61 = .ok (.iload_n 1, 1) := by decide +kernel
theorem dX0_tiresBy_62 : decode cX0_tiresBy 62 = .ok (.iconst 1, 1) := by decide +kernel
theorem dX0_tiresBy_63 : decode cX0_tiresBy 63 = .ok (.iadd, 1) := by decide +kernel
theorem dX0_tiresBy_64 : decode cX0_tiresBy 64 = .ok (.ireturn, 1) := by decide +kernel
theorem dX0_tiresBy_65 : decode cX0_tiresBy 65 = .ok (.iload_n 1, 1) := by decide +kernel
theorem dX0_tiresBy_66 : decode cX0_tiresBy 66 = .ok (.ineg, 1) := by decide +kernel
theorem dX0_tiresBy_67 : decode cX0_tiresBy 67 = .ok (.iconst 3, 1) := by decide +kernel
theorem dX0_tiresBy_68 : decode cX0_tiresBy 68 = .ok (.isub, 1) := by decide +kernel
theorem dX0_tiresBy_69 : decode cX0_tiresBy 69 = .ok (.ireturn, 1) := by decide +kernel
theorem dX0_tiresBy_70 : decode cX0_tiresBy 70 = .ok (.iconst 0, 1) := by decide +kernel
theorem dX0_tiresBy_71 : decode cX0_tiresBy 71 = .ok (.ireturn, 1) := by decide +kernel
theorem dX0_tiresBy_72 : decode cX0_tiresBy 72 = .ok (.iload_n 1, 1) := by decide +kernel
theorem dX0_tiresBy_73 : decode cX0_tiresBy 73 = .ok (.ireturn, 1) := by decide +kernel
theorem dX0_power_0 : decode cX0_power 0 = .ok (.aload_n 0, 1) := by decide +kernel
theorem dX0_power_1 : decode cX0_power 1 = .ok (.iload_n 1, 1) := by decide +kernel
theorem dX0_power_2 : decode cX0_power 2 = .ok (.iload_n 2, 1) := by decide +kernel
theorem dX0_power_3 : decode cX0_power 3 = .ok (.invokevirtual 66, 3) := by decide +kernel
theorem dX0_power_6 : decode cX0_power 6 = .ok (.ifCond .ne 5, 3) := by decide +kernel
theorem dX0_power_9 : decode cX0_power 9 = .ok (.iconst 0, 1) := by decide +kernel
theorem dX0_power_10 : decode cX0_power 10 = .ok (.ireturn, 1) := by decide +kernel
theorem dX0_power_11 : decode cX0_power 11 = .ok (.aload_n 0, 1) := by decide +kernel
theorem dX0_power_12 : decode cX0_power 12 = .ok (.iload_n 1, 1) := by decide +kernel
theorem dX0_power_13 : decode cX0_power 13 = .ok (.iload_n 2, 1) := by decide +kernel
theorem dX0_power_14 : decode cX0_power 14 = .ok (.invokevirtual 70, 3) := by decide +kernel
theorem dX0_power_17 : decode cX0_power 17 = .ok (.aload_n 0, 1) := by decide +kernel
theorem dX0_power_18 : decode cX0_power 18 = .ok (.aload_n 0, 1) := by decide +kernel
theorem dX0_power_19 : decode cX0_power 19 = .ok (.getfield 40, 3) := by decide +kernel
theorem dX0_power_22 : decode cX0_power 22 = .ok (.aload_n 0, 1) := by decide +kernel
theorem dX0_power_23 : decode cX0_power 23 = .ok (.getfield 37, 3) := by decide +kernel
theorem dX0_power_26 : decode cX0_power 26 = .ok (.iconst 1, 1) := by decide +kernel
theorem dX0_power_27 : decode cX0_power 27 = .ok (.invokevirtual 74, 3) := by decide +kernel
theorem dX0_power_30 : decode cX0_power 30 = .ok (.ifCond .eq 7, 3) := by decide +kernel
theorem dX0_power_33 : decode cX0_power 33 = .ok (.iconst 1, 1) := by decide +kernel
theorem dX0_power_34 : decode cX0_power 34 = .ok (.goto 4, 3) := by decide +kernel
theorem dX0_power_37 : decode cX0_power 37 = .ok (.iconst 0, 1) := by decide +kernel
theorem dX0_power_38 : decode cX0_power 38 = .ok (.iload_n 1, 1) := by decide +kernel
theorem dX0_power_39 : decode cX0_power 39 = .ok (.iload_n 2, 1) := by decide +kernel
theorem dX0_power_40 : decode cX0_power 40 = .ok (.invokevirtual 78, 3) := by decide +kernel
theorem dX0_power_43 : decode cX0_power 43 = .ok (.ifCond .eq 5, 3) := by decide +kernel
theorem dX0_power_46 : decode cX0_power 46 = .ok (.iconst (-1), 1) := by decide +kernel
theorem dX0_power_47 : decode cX0_power 47 = .ok (.ireturn, 1) := by decide +kernel
theorem dX0_power_48 : decode cX0_power 48 = .ok (.aload_n 0, 1) := by decide +kernel
theorem dX0_power_49 : decode cX0_power 49 = .ok (.getfield 40, 3) := by decide +kernel
theorem dX0_power_52 : decode cX0_power 52 = .ok (.aload_n 0, 1) := by decide +kernel
theorem dX0_power_53 : decode cX0_power 53 = .ok (.getfield 37, 3) := by decide +kernel
theorem dX0_power_56 : decode cX0_power 56 = .ok (.iconst 0, 1) := by decide +kernel
theorem dX0_power_57 : decode cX0_power 57 = .ok (.invokevirtual 74, 3) := by decide +kernel
theorem dX0_power_60 : decode cX0_power 60 = .ok (.iconst 0, 1) := by decide +kernel
theorem dX0_power_61 : decode cX0_power 61 = .ok (.bipush 99, 2) := by decide +kernel
theorem dX0_power_63 : decode cX0_power 63 = .ok (.invokestatic 82, 3) := by decide +kernel
theorem dX0_power_66 : decode cX0_power 66 = .ok (.istore_n 3, 1) := by decide +kernel
theorem dX0_power_67 : decode cX0_power 67 = .ok (.aload_n 0, 1) := by decide +kernel
theorem dX0_power_68 : decode cX0_power 68 = .ok (.iload_n 3, 1) := by decide +kernel
theorem dX0_power_69 : decode cX0_power 69 = .ok (.iload_n 1, 1) := by decide +kernel
theorem dX0_power_70 : decode cX0_power 70 = .ok (.invokevirtual 86, 3) := by decide +kernel
theorem dX0_power_73 : decode cX0_power 73 = .ok (.iconst 0, 1) := by decide +kernel
theorem dX0_power_74 : decode cX0_power 74 = .ok (.sipush 999, 3) := by decide +kernel
theorem dX0_power_77 : decode cX0_power 77 = .ok (.invokestatic 82, 3) := by decide +kernel
theorem dX0_power_80 : decode cX0_power 80 = .ok (.ireturn, 1) := by decide +kernel
theorem dX0_tiring_0 : decode cX0_tiring 0 = .ok (.aload_n 0, 1) := by decide +kernel
theorem dX0_tiring_1 : decode cX0_tiring 1 = .ok (.iload_n 1, 1) := by decide +kernel
theorem dX0_tiring_2 : decode cX0_tiring 2 = .ok (.iload_n 2, 1) := by decide +kernel
theorem dX0_tiring_3 : decode cX0_tiring 3 = .ok (.invokevirtual 66, 3) := by decide +kernel
theorem dX0_tiring_6 : decode cX0_tiring 6 = .ok (.ifCond .ne 5, 3) := by decide +kernel
theorem dX0_tiring_9 : decode cX0_tiring 9 = .ok (.iconst 0, 1) := by decide +kernel
theorem dX0_tiring_10 : decode cX0_tiring 10 = .ok (.ireturn, 1) := by decide +kernel
theorem dX0_tiring_11 : decode cX0_tiring 11 = .ok (.aload_n 0, 1) := by decide +kernel
theorem dX0_tiring_12 : decode cX0_tiring 12 = .ok (.iload_n 1, 1) := by decide +kernel
theorem dX0_tiring_13 : decode cX0_tiring 13 = .ok (.iload_n 2, 1) := by decide +kernel
theorem dX0_tiring_14 : decode cX0_tiring 14 = .ok (.invokevirtual 70, 3) := by decide +kernel
theorem dX0_tiring_17 : decode cX0_tiring 17 = .ok (.aload_n 0, 1) := by decide +kernel
theorem dX0_tiring_18 : decode cX0_tiring 18 = .ok (.getfield 40, 3) := by decide +kernel
theorem dX0_tiring_21 : decode cX0_tiring 21 = .ok (.aload_n 0, 1) := by decide +kernel
theorem dX0_tiring_22 : decode cX0_tiring 22 = .ok (.getfield 37, 3) := by decide +kernel
theorem dX0_tiring_25 : decode cX0_tiring 25 = .ok (.iconst 2, 1) := by decide +kernel
theorem dX0_tiring_26 : decode cX0_tiring 26 = .ok (.invokevirtual 74, 3) := by decide +kernel
theorem dX0_tiring_29 : decode cX0_tiring 29 = .ok (.bipush (-9), 2) := by decide +kernel
theorem dX0_tiring_31 : decode cX0_tiring 31 = .ok (.bipush 9, 2) := by decide +kernel
theorem dX0_tiring_33 : decode cX0_tiring 33 = .ok (.invokestatic 82, 3) := by decide +kernel
theorem dX0_tiring_36 : decode cX0_tiring 36 = .ok (.istore 4, 2) := by decide +kernel
theorem dX0_tiring_38 : decode cX0_tiring 38 = .ok (.aload_n 0, 1) := by decide +kernel
theorem dX0_tiring_39 : decode cX0_tiring 39 = .ok (.iload 4, 2) := by decide +kernel
theorem dX0_tiring_41 : decode cX0_tiring 41 = .ok (.iload_n 1, 1) := by decide +kernel
theorem dX0_tiring_42 : decode cX0_tiring 42 = .ok (.iload_n 3, 1) := by decide +kernel
theorem dX0_tiring_43 : decode cX0_tiring 43 = .ok (.invokevirtual 89, 3) := by decide +kernel
theorem dX0_tiring_46 : decode cX0_tiring 46 = .ok (.bipush (-99), 2) := by decide +kernel
theorem dX0_tiring_48 : decode cX0_tiring 48 = .ok (.bipush 99, 2) := by decide +kernel
theorem dX0_tiring_50 : decode cX0_tiring 50 = .ok (.invokestatic 82, 3) := by decide +kernel
theorem dX0_tiring_53 : decode cX0_tiring 53 = .ok (.ireturn, 1) := by decide +kernel
theorem dX0_winner_0 : decode cX0_winner 0 = .ok (.aload_n 0, 1) := by decide +kernel
theorem dX0_winner_1 : decode cX0_winner 1 = .ok (.iload_n 1, 1) := by decide +kernel
theorem dX0_winner_2 : decode cX0_winner 2 = .ok (.iload_n 2, 1) := by decide +kernel
theorem dX0_winner_3 : decode cX0_winner 3 = .ok (.invokevirtual 93, 3) := by decide +kernel
theorem dX0_winner_6 : decode cX0_winner 6 = .ok (.aload_n 0, 1) := by decide +kernel
theorem dX0_winner_7 : decode cX0_winner 7 = .ok (.iload_n 2, 1) := by decide +kernel
theorem dX0_winner_8 : decode cX0_winner 8 = .ok (.iload_n 1, 1) := by decide +kernel
theorem dX0_winner_9 : decode cX0_winner 9 = .ok (.invokevirtual 93, 3) := by decide +kernel
theorem dX0_winner_12 : decode cX0_winner 12 = .ok (.isub, 1) := by decide +kernel
theorem dX0_winner_13 : decode cX0_winner 13 = .ok (.istore_n 3, 1) := by decide +kernel
theorem dX0_winner_14 : decode cX0_winner 14 = .ok (.iload_n 3, 1) := by decide +kernel
theorem dX0_winner_15 : decode cX0_winner 15 = .ok (.ifCond .ne 7, 3) := by decide +kernel
theorem dX0_winner_18 : decode cX0_winner 18 = .ok (.iconst (-1), 1) := by decide +kernel
theorem dX0_winner_19 : decode cX0_winner 19 = .ok (.goto 12, 3) := by decide +kernel
theorem dX0_winner_22 : decode cX0_winner 22 = .ok (.iload_n 3, 1) := by decide +kernel
theorem dX0_winner_23 : decode cX0_winner 23 = .ok (.ifCond .le 7, 3) := by decide +kernel
theorem dX0_winner_26 : decode cX0_winner 26 = .ok (.iload_n 1, 1) := by decide +kernel
theorem dX0_winner_27 : decode cX0_winner 27 = .ok (.goto 4, 3) := by decide +kernel
theorem dX0_winner_30 : decode cX0_winner 30 = .ok (.iload_n 2, 1) := by decide +kernel
theorem dX0_winner_31 : decode cX0_winner 31 = .ok (.ireturn, 1) := by decide +kernel
theorem dX0_meet_0 : decode cX0_meet 0 = .ok (.aload_n 0, 1) := by decide +kernel
theorem dX0_meet_1 : decode cX0_meet 1 = .ok (.iload_n 1, 1) := by decide +kernel
theorem dX0_meet_2 : decode cX0_meet 2 = .ok (.iload_n 2, 1) := by decide +kernel
theorem dX0_meet_3 : decode cX0_meet 3 = .ok (.invokevirtual 66, 3) := by decide +kernel
theorem dX0_meet_6 : decode cX0_meet 6 = .ok (.ifCond .ne 5, 3) := by decide +kernel
theorem dX0_meet_9 : decode cX0_meet 9 = .ok (.iconst (-1), 1) := by decide +kernel
theorem dX0_meet_10 : decode cX0_meet 10 = .ok (.ireturn, 1) := by decide +kernel
theorem dX0_meet_11 : decode cX0_meet 11 = .ok (.aload_n 0, 1) := by decide +kernel
theorem dX0_meet_12 : decode cX0_meet 12 = .ok (.iload_n 1, 1) := by decide +kernel
theorem dX0_meet_13 : decode cX0_meet 13 = .ok (.iload_n 2, 1) := by decide +kernel
theorem dX0_meet_14 : decode cX0_meet 14 = .ok (.invokevirtual 96, 3) := by decide +kernel
theorem dX0_meet_17 : decode cX0_meet 17 = .ok (.istore_n 3, 1) := by decide +kernel
theorem dX0_meet_18 : decode cX0_meet 18 = .ok (.aload_n 0, 1) := by decide +kernel
theorem dX0_meet_19 : decode cX0_meet 19 = .ok (.iload_n 1, 1) := by decide +kernel
theorem dX0_meet_20 : decode cX0_meet 20 = .ok (.iload_n 2, 1) := by decide +kernel
theorem dX0_meet_21 : decode cX0_meet 21 = .ok (.iload_n 3, 1) := by decide +kernel
theorem dX0_meet_22 : decode cX0_meet 22 = .ok (.iload_n 1, 1) := by decide +kernel
theorem dX0_meet_23 : decode cX0_meet 23 = .ok (.if_icmp .ne 7, 3) := by decide +kernel
theorem dX0_meet_26 : decode cX0_meet 26 = .ok (.iconst 1, 1) := by decide +kernel
theorem dX0_meet_27 : decode cX0_meet 27 = .ok (.goto 4, 3) := by decide +kernel
theorem dX0_meet_30 : decode cX0_meet 30 = .ok (.iconst 0, 1) := by decide +kernel
theorem dX0_meet_31 : decode cX0_meet 31 = .ok (.invokevirtual 99, 3) := by decide +kernel
theorem dX0_meet_34 : decode cX0_meet 34 = .ok (.istore 4, 2) := by decide +kernel
theorem dX0_meet_36 : decode cX0_meet 36 = .ok (.aload_n 0, 1) := by decide +kernel
theorem dX0_meet_37 : decode cX0_meet 37 = .ok (.iload_n 2, 1) := by decide +kernel
theorem dX0_meet_38 : decode cX0_meet 38 = .ok (.iload_n 1, 1) := by decide +kernel
theorem dX0_meet_39 : decode cX0_meet 39 = .ok (.iload_n 3, 1) := by decide +kernel
theorem dX0_meet_40 : decode cX0_meet 40 = .ok (.iload_n 2, 1) := by decide +kernel
theorem dX0_meet_41 : decode cX0_meet 41 = .ok (.if_icmp .ne 7, 3) := by decide +kernel
theorem dX0_meet_44 : decode cX0_meet 44 = .ok (.iconst 1, 1) := by decide +kernel
theorem dX0_meet_45 : decode cX0_meet 45 = .ok (.goto 4, 3) := by decide +kernel
theorem dX0_meet_48 : decode cX0_meet 48 = .ok (.iconst 0, 1) := by decide +kernel
theorem dX0_meet_49 : decode cX0_meet 49 = .ok (.invokevirtual 99, 3) := by decide +kernel
theorem dX0_meet_52 : decode cX0_meet 52 = .ok (.istore 5, 2) := by decide +kernel
theorem dX0_meet_54 : decode cX0_meet 54 = .ok (.iload_n 3, 1) := by decide +kernel
theorem dX0_meet_55 : decode cX0_meet 55 = .ok (.iconst (-1), 1) := by decide +kernel
theorem dX0_meet_56 : decode cX0_meet 56 = .ok (.if_icmp .ne 42, 3) := by decide +kernel
theorem dX0_meet_59 : decode cX0_meet 59 = .ok (.aload_n 0, 1) := by decide +kernel
theorem dX0_meet_60 : decode cX0_meet 60 = .ok (.dup, 1) := by decide +kernel
theorem dX0_meet_61 : decode cX0_meet 61 = .ok (.getfield 27, 3) := by decide +kernel
theorem dX0_meet_64 : decode cX0_meet 64 = .ok (.aload_n 0, 1) := by decide +kernel
theorem dX0_meet_65 : decode cX0_meet 65 = .ok (.getfield 24, 3) := by decide +kernel
theorem dX0_meet_68 : decode cX0_meet 68 = .ok (.iload_n 1, 1) := by decide +kernel
theorem dX0_meet_69 : decode cX0_meet 69 = .ok (.iaload, 1) := by decide +kernel
theorem dX0_meet_70 : decode cX0_meet 70 = .ok (.aload_n 0, 1) := by decide +kernel
theorem dX0_meet_71 : decode cX0_meet 71 = .ok (.getfield 24, 3) := by decide +kernel
theorem dX0_meet_74 : decode cX0_meet 74 = .ok (.iload_n 2, 1) := by decide +kernel
theorem dX0_meet_75 : decode cX0_meet 75 = .ok (.iaload, 1) := by decide +kernel
theorem dX0_meet_76 : decode cX0_meet 76 = .ok (.ior, 1) := by decide +kernel
theorem dX0_meet_77 : decode cX0_meet 77 = .ok (.ior, 1) := by decide +kernel
theorem dX0_meet_78 : decode cX0_meet 78 = .ok (.putfield 27, 3) := by decide +kernel
theorem dX0_meet_81 : decode cX0_meet 81 = .ok (.aload_n 0, 1) := by decide +kernel
theorem dX0_meet_82 : decode cX0_meet 82 = .ok (.getfield 24, 3) := by decide +kernel
theorem dX0_meet_85 : decode cX0_meet 85 = .ok (.iload_n 1, 1) := by decide +kernel
theorem dX0_meet_86 : decode cX0_meet 86 = .ok (.iconst 0, 1) := by decide +kernel
theorem dX0_meet_87 : decode cX0_meet 87 = .ok (.iastore, 1) := by decide +kernel
theorem dX0_meet_88 : decode cX0_meet 88 = .ok (.aload_n 0, 1) := by decide +kernel
theorem dX0_meet_89 : decode cX0_meet 89 = .ok (.getfield 24, 3) := by decide +kernel
theorem dX0_meet_92 : decode cX0_meet 92 = .ok (.iload_n 2, 1) := by decide +kernel
theorem dX0_meet_93 : decode cX0_meet 93 = .ok (.iconst 0, 1) := by decide +kernel
theorem dX0_meet_94 : decode cX0_meet 94 = .ok (.iastore, 1) := by decide +kernel
theorem dX0_meet_95 : decode cX0_meet 95 = .ok (.goto 23, 3) := by decide +kernel
theorem dX0_meet_98 : decode cX0_meet 98 = .ok (.iload_n 3, 1) := by decide +kernel
theorem dX0_meet_99 : decode cX0_meet 99 = .ok (.iload_n 1, 1) := by decide +kernel
theorem dX0_meet_100 : decode cX0_meet 100 = .ok (.if_icmp .ne 12, 3) := by decide +kernel
theorem dX0_meet_103 : decode cX0_meet 103 = .ok (.aload_n 0, 1) := by decide +kernel
theorem dX0_meet_104 : decode cX0_meet 104 = .ok (.iload_n 2, 1) := by decide +kernel
theorem dX0_meet_105 : decode cX0_meet 105 = .ok (.iload_n 1, 1) := by decide +kernel
theorem dX0_meet_106 : decode cX0_meet 106 = .ok (.invokevirtual 102, 3) := by decide +kernel
theorem dX0_meet_109 : decode cX0_meet 109 = .ok (.goto 9, 3) := by decide +kernel
theorem dX0_meet_112 : decode cX0_meet 112 = .ok (.aload_n 0, 1) := by decide +kernel
theorem dX0_meet_113 : decode cX0_meet 113 = .ok (.iload_n 1, 1) := by decide +kernel
theorem dX0_meet_114 : decode cX0_meet 114 = .ok (.iload_n 2, 1) := by decide +kernel
theorem dX0_meet_115 : decode cX0_meet 115 = .ok (.invokevirtual 102, 3) := by decide +kernel
theorem dX0_meet_118 : decode cX0_meet 118 = .ok (.aload_n 0, 1) := by decide +kernel
theorem dX0_meet_119 : decode cX0_meet 119 = .ok (.getfield 18, 3) := by decide +kernel
theorem dX0_meet_122 : decode cX0_meet 122 = .ok (.iload_n 1, 1) := by decide +kernel
theorem dX0_meet_123 : decode cX0_meet 123 = .ok (.aload_n 0, 1) := by decide +kernel
theorem dX0_meet_124 : decode cX0_meet 124 = .ok (.getfield 18, 3) := by decide +kernel
theorem dX0_meet_127 : decode cX0_meet 127 = .ok (.iload_n 1, 1) := by decide +kernel
theorem dX0_meet_128 : decode cX0_meet 128 = .ok (.iaload, 1) := by decide +kernel
theorem dX0_meet_129 : decode cX0_meet 129 = .ok (.iload 4, 2) := by decide +kernel
theorem dX0_meet_131 : decode cX0_meet 131 = .ok (.isub, 1) := by decide +kernel
theorem dX0_meet_132 : decode cX0_meet 132 = .ok (.iconst 0, 1) := by decide +kernel
theorem dX0_meet_133 : decode cX0_meet 133 = .ok (.bipush 99, 2) := by decide +kernel
theorem dX0_meet_135 : decode cX0_meet 135 = .ok (.invokestatic 82, 3) := by decide +kernel
theorem dX0_meet_138 : decode cX0_meet 138 = .ok (.iastore, 1) := by decide +kernel
theorem dX0_meet_139 : decode cX0_meet 139 = .ok (.aload_n 0, 1) := by decide +kernel
theorem dX0_meet_140 : decode cX0_meet 140 = .ok (.getfield 18, 3) := by decide +kernel
theorem dX0_meet_143 : decode cX0_meet 143 = .ok (.iload_n 2, 1) := by decide +kernel
theorem dX0_meet_144 : decode cX0_meet 144 = .ok (.aload_n 0, 1) := by decide +kernel
theorem dX0_meet_145 : decode cX0_meet 145 = .ok (.getfield 18, 3) := by decide +kernel
theorem dX0_meet_148 : decode cX0_meet 148 = .ok (.iload_n 2, 1) := by decide +kernel
theorem dX0_meet_149 : decode cX0_meet 149 = .ok (.iaload, 1) := by decide +kernel
theorem dX0_meet_150 : decode cX0_meet 150 = .ok (.iload 5, 2) := by decide +kernel
theorem dX0_meet_152 : decode cX0_meet 152 = .ok (.isub, 1) := by decide +kernel
theorem dX0_meet_153 : decode cX0_meet 153 = .ok (.iconst 0, 1) := by decide +kernel
theorem dX0_meet_154 : decode cX0_meet 154 = .ok (.bipush 99, 2) := by decide +kernel
theorem dX0_meet_156 : decode cX0_meet 156 = .ok (.invokestatic 82, 3) := by decide +kernel
theorem dX0_meet_159 : decode cX0_meet 159 = .ok (.iastore, 1) := by decide +kernel
theorem dX0_meet_160 : decode cX0_meet 160 = .ok (.aload_n 0, 1) := by decide +kernel
theorem dX0_meet_161 : decode cX0_meet 161 = .ok (.dup, 1) := by decide +kernel
theorem dX0_meet_162 : decode cX0_meet 162 = .ok (.getfield 34, 3) := by decide +kernel
theorem dX0_meet_165 : decode cX0_meet 165 = .ok (.iconst 1, 1) := by decide +kernel
theorem dX0_meet_166 : decode cX0_meet 166 = .ok (.iadd, 1) := by decide +kernel
theorem dX0_meet_167 : decode cX0_meet 167 = .ok (.putfield 34, 3) := by decide +kernel
theorem dX0_meet_170 : decode cX0_meet 170 = .ok (.iload_n 3, 1) := by decide +kernel
theorem dX0_meet_171 : decode cX0_meet 171 = .ok (.ireturn, 1) := by decide +kernel
theorem dX0_loses_0 : decode cX0_loses 0 = .ok (.aload_n 0, 1) := by decide +kernel
theorem dX0_loses_1 : decode cX0_loses 1 = .ok (.getfield 24, 3) := by decide +kernel
theorem dX0_loses_4 : decode cX0_loses 4 = .ok (.iload_n 1, 1) := by decide +kernel
theorem dX0_loses_5 : decode cX0_loses 5 = .ok (.dup2, 1) := by decide +kernel
theorem dX0_loses_6 : decode cX0_loses 6 = .ok (.iaload, 1) := by decide +kernel
theorem dX0_loses_7 : decode cX0_loses 7 = .ok (.aload_n 0, 1) := by decide +kernel
theorem dX0_loses_8 : decode cX0_loses 8 = .ok (.getfield 24, 3) := by decide +kernel
theorem dX0_loses_11 : decode cX0_loses 11 = .ok (.iload_n 2, 1) := by decide +kernel
theorem dX0_loses_12 : decode cX0_loses 12 = .ok (.iaload, 1) := by decide +kernel
theorem dX0_loses_13 : decode cX0_loses 13 = .ok (.aload_n 0, 1) := by decide +kernel
theorem dX0_loses_14 : decode cX0_loses 14 = .ok (.getfield 27, 3) := by decide +kernel
theorem dX0_loses_17 : decode cX0_loses 17 = .ok (.ior, 1) := by decide +kernel
theorem dX0_loses_18 : decode cX0_loses 18 = .ok (.ior, 1) := by decide +kernel
theorem dX0_loses_19 : decode cX0_loses 19 = .ok (.iastore, 1) := by decide +kernel
theorem dX0_loses_20 : decode cX0_loses 20 = .ok (.aload_n 0, 1) := by decide +kernel
theorem dX0_loses_21 : decode cX0_loses 21 = .ok (.getfield 24, 3) := by decide +kernel
theorem dX0_loses_24 : decode cX0_loses 24 = .ok (.iload_n 2, 1) := by decide +kernel
theorem dX0_loses_25 : decode cX0_loses 25 = .ok (.iconst 0, 1) := by decide +kernel
theorem dX0_loses_26 : decode cX0_loses 26 = .ok (.iastore, 1) := by decide +kernel
theorem dX0_loses_27 : decode cX0_loses 27 = .ok (.aload_n 0, 1) := by decide +kernel
theorem dX0_loses_28 : decode cX0_loses 28 = .ok (.iconst 0, 1) := by decide +kernel
theorem dX0_loses_29 : decode cX0_loses 29 = .ok (.putfield 27, 3) := by decide +kernel
theorem dX0_loses_32 : decode cX0_loses 32 = .ok (.aload_n 0, 1) := by decide +kernel
theorem dX0_loses_33 : decode cX0_loses 33 = .ok (.getfield 21, 3) := by decide +kernel
theorem dX0_loses_36 : decode cX0_loses 36 = .ok (.iload_n 2, 1) := by decide +kernel
theorem dX0_loses_37 : decode cX0_loses 37 = .ok (.aload_n 0, 1) := by decide +kernel
theorem dX0_loses_38 : decode cX0_loses 38 = .ok (.getfield 21, 3) := by decide +kernel
theorem dX0_loses_41 : decode cX0_loses 41 = .ok (.iload_n 2, 1) := by decide +kernel
theorem dX0_loses_42 : decode cX0_loses 42 = .ok (.iaload, 1) := by decide +kernel
theorem dX0_loses_43 : decode cX0_loses 43 = .ok (.iconst 1, 1) := by decide +kernel
theorem dX0_loses_44 : decode cX0_loses 44 = .ok (.iadd, 1) := by decide +kernel
theorem dX0_loses_45 : decode cX0_loses 45 = .ok (.iconst 0, 1) := by decide +kernel
theorem dX0_loses_46 : decode cX0_loses 46 = .ok (.sipush 999, 3) := by decide +kernel
theorem dX0_loses_49 : decode cX0_loses 49 = .ok (.invokestatic 82, 3) := by decide +kernel
theorem dX0_loses_52 : decode cX0_loses 52 = .ok (.iastore, 1) := by decide +kernel
theorem dX0_loses_53 : decode cX0_loses 53 = .ok (.return_, 1) := by decide +kernel
theorem dX1_init_0 : decode cX1_init 0 = .ok (.aload_n 0, 1) := by decide +kernel
theorem dX1_init_1 : decode cX1_init 1 = .ok (.invokespecial 3, 3) := by decide +kernel
theorem dX1_init_4 : decode cX1_init 4 = .ok (.aload_n 0, 1) := by decide +kernel
theorem dX1_init_5 : decode cX1_init 5 = .ok (.sipush 160, 3) := by decide +kernel
theorem dX1_init_8 : decode cX1_init 8 = .ok (.newarray .int, 2) := by decide +kernel
theorem dX1_init_10 : decode cX1_init 10 = .ok (.putfield 9, 3) := by decide +kernel
theorem dX1_init_13 : decode cX1_init 13 = .ok (.aload_n 0, 1) := by decide +kernel
theorem dX1_init_14 : decode cX1_init 14 = .ok (.iconst 0, 1) := by decide +kernel
theorem dX1_init_15 : decode cX1_init 15 = .ok (.putfield 15, 3) := by decide +kernel
theorem dX1_init_18 : decode cX1_init 18 = .ok (.aload_n 0, 1) := by decide +kernel
theorem dX1_init_19 : decode cX1_init 19 = .ok (.iconst (-1), 1) := by decide +kernel
theorem dX1_init_20 : decode cX1_init 20 = .ok (.putfield 19, 3) := by decide +kernel
theorem dX1_init_23 : decode cX1_init 23 = .ok (.aload_n 0, 1) := by decide +kernel
theorem dX1_init_24 : decode cX1_init 24 = .ok (.sipush 160, 3) := by decide +kernel
theorem dX1_init_27 : decode cX1_init 27 = .ok (.newarray .int, 2) := by decide +kernel
theorem dX1_init_29 : decode cX1_init 29 = .ok (.putfield 22, 3) := by decide +kernel
theorem dX1_init_32 : decode cX1_init 32 = .ok (.aload_n 0, 1) := by decide +kernel
theorem dX1_init_33 : decode cX1_init 33 = .ok (.iconst 0, 1) := by decide +kernel
theorem dX1_init_34 : decode cX1_init 34 = .ok (.putfield 25, 3) := by decide +kernel
theorem dX1_init_37 : decode cX1_init 37 = .ok (.aload_n 0, 1) := by decide +kernel
theorem dX1_init_38 : decode cX1_init 38 = .ok (.iconst 0, 1) := by decide +kernel
theorem dX1_init_39 : decode cX1_init 39 = .ok (.putfield 28, 3) := by decide +kernel
theorem dX1_init_42 : decode cX1_init 42 = .ok (.aload_n 0, 1) := by decide +kernel
theorem dX1_init_43 : decode cX1_init 43 = .ok (.bipush 9, 2) := by decide +kernel
theorem dX1_init_45 : decode cX1_init 45 = .ok (.putfield 31, 3) := by decide +kernel
theorem dX1_init_48 : decode cX1_init 48 = .ok (.aload_n 0, 1) := by decide +kernel
theorem dX1_init_49 : decode cX1_init 49 = .ok (.iconst 0, 1) := by decide +kernel
theorem dX1_init_50 : decode cX1_init 50 = .ok (.putfield 34, 3) := by decide +kernel
theorem dX1_init_53 : decode cX1_init 53 = .ok (.aload_n 0, 1) := by decide +kernel
theorem dX1_init_54 : decode cX1_init 54 = .ok (.iconst 0, 1) := by decide +kernel
theorem dX1_init_55 : decode cX1_init 55 = .ok (.putfield 37, 3) := by decide +kernel
theorem dX1_init_58 : decode cX1_init 58 = .ok (.return_, 1) := by decide +kernel
theorem dX1_append_0 : decode cX1_append 0 = .ok (.aload_n 0, 1) := by decide +kernel
theorem dX1_append_1 : decode cX1_append 1 = .ok (.getfield 15, 3) := by decide +kernel
theorem dX1_append_4 : decode cX1_append 4 = .ok (.ifCond .lt 13, 3) := by decide +kernel
theorem dX1_append_7 : decode cX1_append 7 = .ok (.aload_n 0, 1) := by decide +kernel
theorem dX1_append_8 : decode cX1_append 8 = .ok (.getfield 15, 3) := by decide +kernel
theorem dX1_append_11 : decode cX1_append 11 = .ok (.sipush 160, 3) := by decide +kernel
theorem dX1_append_14 : decode cX1_append 14 = .ok (.if_icmp .lt 5, 3) := by decide +kernel
theorem dX1_append_17 : decode cX1_append 17 = .ok (.iconst 0, 1) := by decide +kernel
theorem dX1_append_18 : decode cX1_append 18 = .ok (.ireturn, 1) := by decide +kernel
theorem dX1_append_19 : decode cX1_append 19 = .ok (.aload_n 0, 1) := by decide +kernel
theorem dX1_append_20 : decode cX1_append 20 = .ok (.getfield 9, 3) := by decide +kernel
theorem dX1_append_23 : decode cX1_append 23 = .ok (.aload_n 0, 1) := by decide +kernel
theorem dX1_append_24 : decode cX1_append 24 = .ok (.getfield 15, 3) := by decide +kernel
theorem dX1_append_27 : decode cX1_append 27 = .ok (.iload_n 1, 1) := by decide +kernel
theorem dX1_append_28 : decode cX1_append 28 = .ok (.iastore, 1) := by decide +kernel
theorem dX1_append_29 : decode cX1_append 29 = .ok (.aload_n 0, 1) := by decide +kernel
theorem dX1_append_30 : decode cX1_append 30 = .ok (.dup, 1) := by decide +kernel
theorem dX1_append_31 : decode cX1_append 31 = .ok (.getfield 15, 3) := by decide +kernel
theorem dX1_append_34 : decode cX1_append 34 = .ok (.iconst 1, 1) := by decide +kernel
theorem dX1_append_35 : decode cX1_append 35 = .ok (.iadd, 1) := by decide +kernel
theorem dX1_append_36 : decode cX1_append 36 = .ok (.putfield 15, 3) := by decide +kernel
theorem dX1_append_39 : decode cX1_append 39 = .ok (.iconst 1, 1) := by decide +kernel
theorem dX1_append_40 : decode cX1_append 40 = .ok (.ireturn, 1) := by decide +kernel
theorem dX1_write_0 : decode cX1_write 0 = .ok (.iconst 0, 1) := by decide +kernel
theorem dX1_write_1 : decode cX1_write 1 = .ok (.istore_n 2, 1) := by decide +kernel
theorem dX1_write_2 : decode cX1_write 2 = .ok (.iload_n 2, 1) := by decide +kernel
theorem dX1_write_3 : decode cX1_write 3 = .ok (.aload_n 1, 1) := by decide +kernel
theorem dX1_write_4 : decode cX1_write 4 = .ok (.invokevirtual 40, 3) := by decide +kernel
theorem dX1_write_7 : decode cX1_write 7 = .ok (.if_icmp .ge 19, 3) := by decide +kernel
theorem dX1_write_10 : decode cX1_write 10 = .ok (.aload_n 0, 1) := by decide +kernel
theorem dX1_write_11 : decode cX1_write 11 = .ok (.aload_n 1, 1) := by decide +kernel
theorem dX1_write_12 : decode cX1_write 12 = .ok (.iload_n 2, 1) := by decide +kernel
theorem dX1_write_13 : decode cX1_write 13 = .ok (.invokevirtual 46, 3) := by decide +kernel
theorem dX1_write_16 : decode cX1_write 16 = .ok (.invokevirtual 50, 3) := by decide +kernel
theorem dX1_write_19 : decode cX1_write 19 = .ok (.pop, 1) := by decide +kernel
theorem dX1_write_20 : decode cX1_write 20 = .ok (.iinc 2 1, 3) := by decide +kernel
theorem dX1_write_23 : decode cX1_write 23 = .ok (.goto (-21), 3) := by decide +kernel
theorem dX1_write_26 : decode cX1_write 26 = .ok (.return_, 1) := by decide +kernel
theorem dX1_read_0 : decode cX1_read 0 = .ok (.aload_n 0, 1) := by decide +kernel
theorem dX1_read_1 : decode cX1_read 1 = .ok (.iconst (-1), 1) := by decide +kernel
theorem dX1_read_2 : decode cX1_read 2 = .ok (.putfield 19, 3) := by decide +kernel
theorem dX1_read_5 : decode cX1_read 5 = .ok (.aload_n 0, 1) := by decide +kernel
theorem dX1_read_6 : decode cX1_read 6 = .ok (.iconst 0, 1) := by decide +kernel
theorem dX1_read_7 : decode cX1_read 7 = .ok (.putfield 25, 3) := by decide +kernel
theorem dX1_read_10 : decode cX1_read 10 = .ok (.aload_n 0, 1) := by decide +kernel
theorem dX1_read_11 : decode cX1_read 11 = .ok (.iconst 0, 1) := by decide +kernel
theorem dX1_read_12 : decode cX1_read 12 = .ok (.putfield 28, 3) := by decide +kernel
theorem dX1_read_15 : decode cX1_read 15 = .ok (.iconst 3, 1) := by decide +kernel
theorem dX1_read_16 : decode cX1_read 16 = .ok (.newarray .int, 2) := by decide +kernel
theorem dX1_read_18 : decode cX1_read 18 = .ok (.astore_n 1, 1) := by decide +kernel
theorem dX1_read_19 : decode cX1_read 19 = .ok (.aload_n 0, 1) := by decide +kernel
theorem dX1_read_20 : decode cX1_read 20 = .ok (.invokevirtual 54, 3) := by decide +kernel
theorem dX1_read_23 : decode cX1_read 23 = .ok (.iconst 0, 1) := by decide +kernel
theorem dX1_read_24 : decode cX1_read 24 = .ok (.istore_n 2, 1) := by decide +kernel
theorem dX1_read_25 : decode cX1_read 25 = .ok (.iload_n 2, 1) := by decide +kernel
theorem dX1_read_26 : decode cX1_read 26 = .ok (.iconst 3, 1) := by decide +kernel
theorem dX1_read_27 : decode cX1_read 27 = .ok (.if_icmp .ge 34, 3) := by decide +kernel
theorem dX1_read_30 : decode cX1_read 30 = .ok (.aload_n 0, 1) := by decide +kernel
theorem dX1_read_31 : decode cX1_read 31 = .ok (.iconst 1, 1) := by decide +kernel
theorem dX1_read_32 : decode cX1_read 32 = .ok (.iload_n 2, 1) := by decide +kernel
theorem dX1_read_33 : decode cX1_read 33 = .ok (.iadd, 1) := by decide +kernel
theorem dX1_read_34 : decode cX1_read 34 = .ok (.invokevirtual 57, 3) := by decide +kernel
theorem dX1_read_37 : decode cX1_read 37 = .ok (.aload_n 0, 1) := by decide +kernel
theorem dX1_read_38 : decode cX1_read 38 = .ok (.iconst 0, 1) := by decide +kernel
theorem dX1_read_39 : decode cX1_read 39 = .ok (.invokevirtual 61, 3) := by decide +kernel
theorem dX1_read_42 : decode cX1_read 42 = .ok (.aload_n 0, 1) := by decide +kernel
theorem dX1_read_43 : decode cX1_read 43 = .ok (.bipush 59, 2) := by decide +kernel
theorem dX1_read_45 : decode cX1_read 45 = .ok (.invokevirtual 57, 3) := by decide +kernel
theorem dX1_read_48 : decode cX1_read 48 = .ok (.aload_n 1, 1) := by decide +kernel
theorem dX1_read_49 : decode cX1_read 49 = .ok (.iload_n 2, 1) := by decide +kernel
theorem dX1_read_50 : decode cX1_read 50 = .ok (.aload_n 0, 1) := by decide +kernel
theorem dX1_read_51 : decode cX1_read 51 = .ok (.getfield 25, 3) := by decide +kernel
theorem dX1_read_54 : decode cX1_read 54 = .ok (.iastore, 1) := by decide +kernel
theorem dX1_read_55 : decode cX1_read 55 = .ok (.iinc 2 1, 3) := by decide +kernel
theorem dX1_read_58 : decode cX1_read 58 = .ok (.goto (-33), 3) := by decide +kernel
theorem dX1_read_61 : decode cX1_read 61 = .ok (.aload_n 0, 1) := by decide +kernel
theorem dX1_read_62 : decode cX1_read 62 = .ok (.bipush 8, 2) := by decide +kernel
theorem dX1_read_64 : decode cX1_read 64 = .ok (.invokevirtual 57, 3) := by decide +kernel
theorem dX1_read_67 : decode cX1_read 67 = .ok (.aload_n 0, 1) := by decide +kernel
theorem dX1_read_68 : decode cX1_read 68 = .ok (.iconst 0, 1) := by decide +kernel
theorem dX1_read_69 : decode cX1_read 69 = .ok (.putfield 15, 3) := by decide +kernel
theorem dX1_read_72 : decode cX1_read 72 = .ok (.aload_n 0, 1) := by decide +kernel
theorem dX1_read_73 : decode cX1_read 73 = .ok (.getfield 19, 3) := by decide +kernel
theorem dX1_read_76 : decode cX1_read 76 = .ok (.iconst (-1), 1) := by decide +kernel
theorem dX1_read_77 : decode cX1_read 77 = .ok (.if_icmp .ne 18, 3) := by decide +kernel
theorem dX1_read_80 : decode cX1_read 80 = .ok (.new 64, 3) := by decide +kernel
theorem dX1_read_83 : decode cX1_read 83 = .ok (.dup, 1) := by decide +kernel
theorem dX1_read_84 : decode cX1_read 84 = .ok (.aload_n 0, 1) := by decide +kernel
theorem dX1_read_85 : decode cX1_read 85 = .ok (.invokevirtual 66, 3) := by decide +kernel
theorem dX1_read_88 : decode cX1_read 88 = .ok (.aload_n 1, 1) := by decide +kernel
theorem dX1_read_89 : decode cX1_read 89 = .ok (.invokespecial 70, 3) := by decide +kernel
theorem dX1_read_92 : decode cX1_read 92 = .ok (.goto 4, 3) := by decide +kernel
theorem dX1_read_95 : decode cX1_read 95 = .ok (.aconst_null, 1) := by decide +kernel
theorem dX1_read_96 : decode cX1_read 96 = .ok (.areturn, 1) := by decide +kernel
theorem dX1_madeCode_0 : decode cX1_madeCode 0 = .ok (.aload_n 0, 1) := by decide +kernel
theorem dX1_madeCode_1 : decode cX1_madeCode 1 = .ok (.getfield 25, 3) := by decide +kernel
theorem dX1_madeCode_4 : decode cX1_madeCode 4 = .ok (.iconst 0, 1) := by decide +kernel
theorem dX1_madeCode_5 : decode cX1_madeCode 5 = .ok (.sipush 160, 3) := by decide +kernel
theorem dX1_madeCode_8 : decode cX1_madeCode 8 = .ok (.invokestatic 73, 3) := by decide +kernel
theorem dX1_madeCode_11 : decode cX1_madeCode 11 = .ok (.newarray .int, 2) := by decide +kernel
theorem dX1_madeCode_13 : decode cX1_madeCode 13 = .ok (.astore_n 1, 1) := by decide +kernel
theorem dX1_madeCode_14 : decode cX1_madeCode 14 = .ok (.iconst 0, 1) := by decide +kernel
theorem dX1_madeCode_15 : decode cX1_madeCode 15 = .ok (.istore_n 2, 1) := by decide +kernel
theorem dX1_madeCode_16 : decode cX1_madeCode 16 = .ok (.iload_n 2, 1) := by decide +kernel
theorem dX1_madeCode_17 : decode cX1_madeCode 17 = .ok (.aload_n 1, 1) := by decide +kernel
theorem dX1_madeCode_18 : decode cX1_madeCode 18 = .ok (.arraylength, 1) := by decide +kernel
theorem dX1_madeCode_19 : decode cX1_madeCode 19 = .ok (.if_icmp .ge 25, 3) := by decide +kernel
theorem dX1_madeCode_22 : decode cX1_madeCode 22 = .ok (.iload_n 2, 1) := by decide +kernel
theorem dX1_madeCode_23 : decode cX1_madeCode 23 = .ok (.sipush 160, 3) := by decide +kernel
theorem dX1_madeCode_26 : decode cX1_madeCode 26 = .ok (.if_icmp .ge 18, 3) := by decide +kernel
theorem dX1_madeCode_29 : decode cX1_madeCode 29 = .ok (.aload_n 1, 1) := by decide +kernel
theorem dX1_madeCode_30 : decode cX1_madeCode 30 = .ok (.iload_n 2, 1) := by decide +kernel
theorem dX1_madeCode_31 : decode cX1_madeCode 31 = .ok (.aload_n 0, 1) := by decide +kernel
theorem dX1_madeCode_32 : decode cX1_madeCode 32 = .ok (.getfield 22, 3) := by decide +kernel
theorem dX1_madeCode_35 : decode cX1_madeCode 35 = .ok (.iload_n 2, 1) := by decide +kernel
theorem dX1_madeCode_36 : decode cX1_madeCode 36 = .ok (.iaload, 1) := by decide +kernel
theorem dX1_madeCode_37 : decode cX1_madeCode 37 = .ok (.iastore, 1) := by decide +kernel
theorem dX1_madeCode_38 : decode cX1_madeCode 38 = .ok (.iinc 2 1, 3) := by decide +kernel
theorem dX1_madeCode_41 : decode cX1_madeCode 41 = .ok (.goto (-25), 3) := by decide +kernel
theorem dX1_madeCode_44 : decode cX1_madeCode 44 = .ok (.aload_n 1, 1) := by decide +kernel
theorem dX1_madeCode_45 : decode cX1_madeCode 45 = .ok (.areturn, 1) := by decide +kernel
theorem dX1_readEither_0 : decode cX1_readEither 0 = .ok (.aload_n 0, 1) := by decide +kernel
theorem dX1_readEither_1 : decode cX1_readEither 1 = .ok (.iload_n 1, 1) := by decide +kernel
theorem dX1_readEither_2 : decode cX1_readEither 2 = .ok (.invokevirtual 77, 3) := by decide +kernel
theorem dX1_readEither_5 : decode cX1_readEither 5 = .ok (.iconst 0, 1) := by decide +kernel
theorem dX1_readEither_6 : decode cX1_readEither 6 = .ok (.istore_n 2, 1) := by decide +kernel
theorem dX1_readEither_7 : decode cX1_readEither 7 = .ok (.iload_n 2, 1) := by decide +kernel
theorem dX1_readEither_8 : decode cX1_readEither 8 = .ok (.sipush 160, 3) := by decide +kernel
theorem dX1_readEither_11 : decode cX1_readEither 11 = .ok (.if_icmp .ge 32, 3) := by decide +kernel
theorem dX1_readEither_14 : decode cX1_readEither 14 = .ok (.aload_n 0, 1) := by decide +kernel
theorem dX1_readEither_15 : decode cX1_readEither 15 = .ok (.getfield 31, 3) := by decide +kernel
theorem dX1_readEither_18 : decode cX1_readEither 18 = .ok (.iconst 4, 1) := by decide +kernel
theorem dX1_readEither_19 : decode cX1_readEither 19 = .ok (.if_icmp .ne 24, 3) := by decide +kernel
theorem dX1_readEither_22 : decode cX1_readEither 22 = .ok (.aload_n 0, 1) := by decide +kernel
theorem dX1_readEither_23 : decode cX1_readEither 23 = .ok (.invokevirtual 54, 3) := by decide +kernel
theorem dX1_readEither_26 : decode cX1_readEither 26 = .ok (.aload_n 0, 1) := by decide +kernel
theorem dX1_readEither_27 : decode cX1_readEither 27 = .ok (.iload_n 1, 1) := by decide +kernel
theorem dX1_readEither_28 : decode cX1_readEither 28 = .ok (.invokevirtual 77, 3) := by decide +kernel
theorem dX1_readEither_31 : decode cX1_readEither 31 = .ok (.aload_n 0, 1) := by decide +kernel
theorem dX1_readEither_32 : decode cX1_readEither 32 = .ok (.bipush (-18), 2) := by decide +kernel
theorem dX1_readEither_34 : decode cX1_readEither 34 = .ok (.invokevirtual 80, 3) := by decide +kernel
theorem dX1_readEither_37 : decode cX1_readEither 37 = .ok (.iinc 2 1, 3) := by decide +kernel
theorem dX1_readEither_40 : decode cX1_readEither 40 = .ok (.goto (-33), 3) := by decide +kernel
theorem dX1_readEither_43 : decode cX1_readEither 43 = .ok (.return_, 1) := by decide +kernel
theorem dX1_readBoth_0 : decode cX1_readBoth 0 = .ok (.aload_n 0, 1) := by decide +kernel
theorem dX1_readBoth_1 : decode cX1_readBoth 1 = .ok (.iload_n 1, 1) := by decide +kernel
theorem dX1_readBoth_2 : decode cX1_readBoth 2 = .ok (.invokevirtual 83, 3) := by decide +kernel
theorem dX1_readBoth_5 : decode cX1_readBoth 5 = .ok (.iconst 0, 1) := by decide +kernel
theorem dX1_readBoth_6 : decode cX1_readBoth 6 = .ok (.istore_n 2, 1) := by decide +kernel
theorem dX1_readBoth_7 : decode cX1_readBoth 7 = .ok (.iload_n 2, 1) := by decide +kernel
theorem dX1_readBoth_8 : decode cX1_readBoth 8 = .ok (.sipush 160, 3) := by decide +kernel
theorem dX1_readBoth_11 : decode cX1_readBoth 11 = .ok (.if_icmp .ge 32, 3) := by decide +kernel
theorem dX1_readBoth_14 : decode cX1_readBoth 14 = .ok (.aload_n 0, 1) := by decide +kernel
theorem dX1_readBoth_15 : decode cX1_readBoth 15 = .ok (.getfield 31, 3) := by decide +kernel
theorem dX1_readBoth_18 : decode cX1_readBoth 18 = .ok (.iconst 5, 1) := by decide +kernel
theorem dX1_readBoth_19 : decode cX1_readBoth 19 = .ok (.if_icmp .ne 24, 3) := by decide +kernel
theorem dX1_readBoth_22 : decode cX1_readBoth 22 = .ok (.aload_n 0, 1) := by decide +kernel
theorem dX1_readBoth_23 : decode cX1_readBoth 23 = .ok (.invokevirtual 54, 3) := by decide +kernel
theorem dX1_readBoth_26 : decode cX1_readBoth 26 = .ok (.aload_n 0, 1) := by decide +kernel
theorem dX1_readBoth_27 : decode cX1_readBoth 27 = .ok (.iload_n 1, 1) := by decide +kernel
theorem dX1_readBoth_28 : decode cX1_readBoth 28 = .ok (.invokevirtual 83, 3) := by decide +kernel
theorem dX1_readBoth_31 : decode cX1_readBoth 31 = .ok (.aload_n 0, 1) := by decide +kernel
theorem dX1_readBoth_32 : decode cX1_readBoth 32 = .ok (.bipush (-17), 2) := by decide +kernel
theorem dX1_readBoth_34 : decode cX1_readBoth 34 = .ok (.invokevirtual 80, 3) := by decide +kernel
theorem dX1_readBoth_37 : decode cX1_readBoth 37 = .ok (.iinc 2 1, 3) := by decide +kernel
theorem dX1_readBoth_40 : decode cX1_readBoth 40 = .ok (.goto (-33), 3) := by decide +kernel
theorem dX1_readBoth_43 : decode cX1_readBoth 43 = .ok (.return_, 1) := by decide +kernel
theorem dX1_readNot_0 : decode cX1_readNot 0 = .ok (.aload_n 0, 1) := by decide +kernel
theorem dX1_readNot_1 : decode cX1_readNot 1 = .ok (.getfield 31, 3) := by decide +kernel
theorem dX1_readNot_4 : decode cX1_readNot 4 = .ok (.bipush 6, 2) := by decide +kernel
theorem dX1_readNot_6 : decode cX1_readNot 6 = .ok (.if_icmp .ne 29, 3) := by decide +kernel
theorem dX1_readNot_9 : decode cX1_readNot 9 = .ok (.aload_n 0, 1) := by decide +kernel
theorem dX1_readNot_10 : decode cX1_readNot 10 = .ok (.iload_n 1, 1) := by decide +kernel
theorem dX1_readNot_11 : decode cX1_readNot 11 = .ok (.invokevirtual 86, 3) := by decide +kernel
theorem dX1_readNot_14 : decode cX1_readNot 14 = .ok (.ifCond .eq 21, 3) := by decide +kernel
theorem dX1_readNot_17 : decode cX1_readNot 17 = .ok (.aload_n 0, 1) := by decide +kernel
theorem dX1_readNot_18 : decode cX1_readNot 18 = .ok (.invokevirtual 54, 3) := by decide +kernel
theorem dX1_readNot_21 : decode cX1_readNot 21 = .ok (.aload_n 0, 1) := by decide +kernel
theorem dX1_readNot_22 : decode cX1_readNot 22 = .ok (.iload_n 1, 1) := by decide +kernel
theorem dX1_readNot_23 : decode cX1_readNot 23 = .ok (.iconst 1, 1) := by decide +kernel
theorem dX1_readNot_24 : decode cX1_readNot 24 = .ok (.iadd, 1) := by decide +kernel
theorem dX1_readNot_25 : decode cX1_readNot 25 = .ok (.invokevirtual 83, 3) := by decide +kernel
theorem dX1_readNot_28 : decode cX1_readNot 28 = .ok (.aload_n 0, 1) := by decide +kernel
theorem dX1_readNot_29 : decode cX1_readNot 29 = .ok (.bipush (-19), 2) := by decide +kernel
theorem dX1_readNot_31 : decode cX1_readNot 31 = .ok (.invokevirtual 80, 3) := by decide +kernel
theorem dX1_readNot_34 : decode cX1_readNot 34 = .ok (.return_, 1) := by decide +kernel
theorem dX1_readNot_35 : decode cX1_readNot 35 = .ok (.aload_n 0, 1) := by decide +kernel
theorem dX1_readNot_36 : decode cX1_readNot 36 = .ok (.iload_n 1, 1) := by decide +kernel
theorem dX1_readNot_37 : decode cX1_readNot 37 = .ok (.invokevirtual 89, 3) := by decide +kernel
theorem dX1_readNot_40 : decode cX1_readNot 40 = .ok (.aload_n 0, 1) := by decide +kernel
theorem dX1_readNot_41 : decode cX1_readNot 41 = .ok (.getfield 31, 3) := by decide +kernel
theorem dX1_readNot_44 : decode cX1_readNot 44 = .ok (.bipush 60, 2) := by decide +kernel
theorem dX1_readNot_46 : decode cX1_readNot 46 = .ok (.if_icmp .eq 12, 3) := by decide +kernel
theorem dX1_readNot_49 : decode cX1_readNot 49 = .ok (.aload_n 0, 1) := by decide +kernel
theorem dX1_readNot_50 : decode cX1_readNot 50 = .ok (.getfield 31, 3) := by decide +kernel
theorem dX1_readNot_53 : decode cX1_readNot 53 = .ok (.bipush 61, 2) := by decide +kernel
theorem dX1_readNot_55 : decode cX1_readNot 55 = .ok (.if_icmp .ne 34, 3) := by decide +kernel
theorem dX1_readNot_58 : decode cX1_readNot 58 = .ok (.aload_n 0, 1) := by decide +kernel
theorem dX1_readNot_59 : decode cX1_readNot 59 = .ok (.getfield 31, 3) := by decide +kernel
theorem dX1_readNot_62 : decode cX1_readNot 62 = .ok (.istore_n 2, 1) := by decide +kernel
theorem dX1_readNot_63 : decode cX1_readNot 63 = .ok (.aload_n 0, 1) := by decide +kernel
theorem dX1_readNot_64 : decode cX1_readNot 64 = .ok (.invokevirtual 54, 3) := by decide +kernel
theorem dX1_readNot_67 : decode cX1_readNot 67 = .ok (.aload_n 0, 1) := by decide +kernel
theorem dX1_readNot_68 : decode cX1_readNot 68 = .ok (.iload_n 1, 1) := by decide +kernel
theorem dX1_readNot_69 : decode cX1_readNot 69 = .ok (.invokevirtual 89, 3) := by decide +kernel
theorem dX1_readNot_72 : decode cX1_readNot 72 = .ok (.aload_n 0, 1) := by decide +kernel
theorem dX1_readNot_73 : decode cX1_readNot 73 = .ok (.iload_n 2, 1) := by decide +kernel
theorem dX1_readNot_74 : decode cX1_readNot 74 = .ok (.bipush 60, 2) := by decide +kernel
theorem dX1_readNot_76 : decode cX1_readNot 76 = .ok (.if_icmp .ne 8, 3) := by decide +kernel
theorem dX1_readNot_79 : decode cX1_readNot 79 = .ok (.bipush (-15), 2) := by decide +kernel
theorem dX1_readNot_81 : decode cX1_readNot 81 = .ok (.goto 5, 3) := by decide +kernel
theorem dX1_readNot_84 : decode cX1_readNot 84 = .ok (.bipush (-16), 2) := by decide +kernel
theorem dX1_readNot_86 : decode cX1_readNot 86 = .ok (.invokevirtual 80, 3) := by decide +kernel
theorem dX1_readNot_89 : decode cX1_readNot 89 = .ok (.return_, 1) := by decide +kernel
theorem dX1_readSum_0 : decode cX1_readSum 0 = .ok (.aload_n 0, 1) := by decide +kernel
theorem dX1_readSum_1 : decode cX1_readSum 1 = .ok (.iload_n 1, 1) := by decide +kernel
theorem dX1_readSum_2 : decode cX1_readSum 2 = .ok (.invokevirtual 92, 3) := by decide +kernel
theorem dX1_readSum_5 : decode cX1_readSum 5 = .ok (.iconst 0, 1) := by decide +kernel
theorem dX1_readSum_6 : decode cX1_readSum 6 = .ok (.istore_n 2, 1) := by decide +kernel
theorem dX1_readSum_7 : decode cX1_readSum 7 = .ok (.iload_n 2, 1) := by decide +kernel
theorem dX1_readSum_8 : decode cX1_readSum 8 = .ok (.sipush 160, 3) := by decide +kernel
theorem dX1_readSum_11 : decode cX1_readSum 11 = .ok (.if_icmp .ge 58, 3) := by decide +kernel
theorem dX1_readSum_14 : decode cX1_readSum 14 = .ok (.aload_n 0, 1) := by decide +kernel
theorem dX1_readSum_15 : decode cX1_readSum 15 = .ok (.getfield 31, 3) := by decide +kernel
theorem dX1_readSum_18 : decode cX1_readSum 18 = .ok (.bipush 43, 2) := by decide +kernel
theorem dX1_readSum_20 : decode cX1_readSum 20 = .ok (.if_icmp .eq 12, 3) := by decide +kernel
theorem dX1_readSum_23 : decode cX1_readSum 23 = .ok (.aload_n 0, 1) := by decide +kernel
theorem dX1_readSum_24 : decode cX1_readSum 24 = .ok (.getfield 31, 3) := by decide +kernel
theorem dX1_readSum_27 : decode cX1_readSum 27 = .ok (.bipush 45, 2) := by decide +kernel
theorem dX1_readSum_29 : decode cX1_readSum 29 = .ok (.if_icmp .ne 40, 3) := by decide +kernel
theorem dX1_readSum_32 : decode cX1_readSum 32 = .ok (.aload_n 0, 1) := by decide +kernel
theorem dX1_readSum_33 : decode cX1_readSum 33 = .ok (.getfield 31, 3) := by decide +kernel
theorem dX1_readSum_36 : decode cX1_readSum 36 = .ok (.istore_n 3, 1) := by decide +kernel
theorem dX1_readSum_37 : decode cX1_readSum 37 = .ok (.aload_n 0, 1) := by decide +kernel
theorem dX1_readSum_38 : decode cX1_readSum 38 = .ok (.invokevirtual 54, 3) := by decide +kernel
theorem dX1_readSum_41 : decode cX1_readSum 41 = .ok (.aload_n 0, 1) := by decide +kernel
theorem dX1_readSum_42 : decode cX1_readSum 42 = .ok (.iload_n 1, 1) := by decide +kernel
theorem dX1_readSum_43 : decode cX1_readSum 43 = .ok (.invokevirtual 92, 3) := by decide +kernel
theorem dX1_readSum_46 : decode cX1_readSum 46 = .ok (.aload_n 0, 1) := by decide +kernel
theorem dX1_readSum_47 : decode cX1_readSum 47 = .ok (.iload_n 3, 1) := by decide +kernel
theorem dX1_readSum_48 : decode cX1_readSum 48 = .ok (.bipush 43, 2) := by decide +kernel
theorem dX1_readSum_50 : decode cX1_readSum 50 = .ok (.if_icmp .ne 8, 3) := by decide +kernel
theorem dX1_readSum_53 : decode cX1_readSum 53 = .ok (.bipush (-11), 2) := by decide +kernel
theorem dX1_readSum_55 : decode cX1_readSum 55 = .ok (.goto 5, 3) := by decide +kernel
theorem dX1_readSum_58 : decode cX1_readSum 58 = .ok (.bipush (-12), 2) := by decide +kernel
theorem dX1_readSum_60 : decode cX1_readSum 60 = .ok (.invokevirtual 80, 3) := by decide +kernel
theorem dX1_readSum_63 : decode cX1_readSum 63 = .ok (.iinc 2 1, 3) := by decide +kernel
theorem dX1_readSum_66 : decode cX1_readSum 66 = .ok (.goto (-59), 3) := by decide +kernel
theorem dX1_readSum_69 : decode cX1_readSum 69 = .ok (.return_, 1) := by decide +kernel
theorem dX1_readTerm_0 : decode cX1_readTerm 0 = .ok (.aload_n 0, 1) := by decide +kernel
theorem dX1_readTerm_1 : decode cX1_readTerm 1 = .ok (.iload_n 1, 1) := by decide +kernel
theorem dX1_readTerm_2 : decode cX1_readTerm 2 = .ok (.invokevirtual 95, 3) := by decide +kernel
theorem dX1_readTerm_5 : decode cX1_readTerm 5 = .ok (.iconst 0, 1) := by decide +kernel
theorem dX1_readTerm_6 : decode cX1_readTerm 6 = .ok (.istore_n 2, 1) := by decide +kernel
theorem dX1_readTerm_7 : decode cX1_readTerm 7 = .ok (.iload_n 2, 1) := by decide +kernel
theorem dX1_readTerm_8 : decode cX1_readTerm 8 = .ok (.sipush 160, 3) := by decide +kernel
theorem dX1_readTerm_11 : decode cX1_readTerm 11 = .ok (.if_icmp .ge 33, 3) := by decide +kernel
theorem dX1_readTerm_14 : decode cX1_readTerm 14 = .ok (.aload_n 0, 1) := by decide +kernel
theorem dX1_readTerm_15 : decode cX1_readTerm 15 = .ok (.getfield 31, 3) := by decide +kernel
theorem dX1_readTerm_18 : decode cX1_readTerm 18 = .ok (.bipush 42, 2) := by decide +kernel
theorem dX1_readTerm_20 : decode cX1_readTerm 20 = .ok (.if_icmp .ne 24, 3) := by decide +kernel
theorem dX1_readTerm_23 : decode cX1_readTerm 23 = .ok (.aload_n 0, 1) := by decide +kernel
theorem dX1_readTerm_24 : decode cX1_readTerm 24 = .ok (.invokevirtual 54, 3) := by decide +kernel
theorem dX1_readTerm_27 : decode cX1_readTerm 27 = .ok (.aload_n 0, 1) := by decide +kernel
theorem dX1_readTerm_28 : decode cX1_readTerm 28 = .ok (.iload_n 1, 1) := by decide +kernel
theorem dX1_readTerm_29 : decode cX1_readTerm 29 = .ok (.invokevirtual 95, 3) := by decide +kernel
theorem dX1_readTerm_32 : decode cX1_readTerm 32 = .ok (.aload_n 0, 1) := by decide +kernel
theorem dX1_readTerm_33 : decode cX1_readTerm 33 = .ok (.bipush (-13), 2) := by decide +kernel
theorem dX1_readTerm_35 : decode cX1_readTerm 35 = .ok (.invokevirtual 80, 3) := by decide +kernel
theorem dX1_readTerm_38 : decode cX1_readTerm 38 = .ok (.iinc 2 1, 3) := by decide +kernel
theorem dX1_readTerm_41 : decode cX1_readTerm 41 = .ok (.goto (-34), 3) := by decide +kernel
theorem dX1_readTerm_44 : decode cX1_readTerm 44 = .ok (.return_, 1) := by decide +kernel
theorem dX1_readOne_0 : decode cX1_readOne 0 = .ok (.aload_n 0, 1) := by decide +kernel
theorem dX1_readOne_1 : decode cX1_readOne 1 = .ok (.getfield 31, 3) := by decide +kernel
theorem dX1_readOne_4 : decode cX1_readOne 4 = .ok (.bipush 7, 2) := by decide +kernel
theorem dX1_readOne_6 : decode cX1_readOne 6 = .ok (.if_icmp .ne 18, 3) := by decide +kernel
theorem dX1_readOne_9 : decode cX1_readOne 9 = .ok (.aload_n 0, 1) := by decide +kernel
theorem dX1_readOne_10 : decode cX1_readOne 10 = .ok (.aload_n 0, 1) := by decide +kernel
theorem dX1_readOne_11 : decode cX1_readOne 11 = .ok (.getfield 37, 3) := by decide +kernel
theorem dX1_readOne_14 : decode cX1_readOne 14 = .ok (.invokevirtual 80, 3) := by decide +kernel
theorem dX1_readOne_17 : decode cX1_readOne 17 = .ok (.aload_n 0, 1) := by decide +kernel
theorem dX1_readOne_18 : decode cX1_readOne 18 = .ok (.invokevirtual 54, 3) := by decide +kernel
theorem dX1_readOne_21 : decode cX1_readOne 21 = .ok (.goto 117, 3) := by decide +kernel
theorem dX1_readOne_24 : decode cX1_readOne 24 = .ok (.aload_n 0, 1) := by decide +kernel
theorem dX1_readOne_25 : decode cX1_readOne 25 = .ok (.getfield 31, 3) := by decide +kernel
theorem dX1_readOne_28 : decode cX1_readOne 28 = .ok (.bipush 10, 2) := by decide +kernel
theorem dX1_readOne_30 : decode cX1_readOne 30 = .ok (.if_icmp .lt 30, 3) := by decide +kernel
theorem dX1_readOne_33 : decode cX1_readOne 33 = .ok (.aload_n 0, 1) := by decide +kernel
theorem dX1_readOne_34 : decode cX1_readOne 34 = .ok (.getfield 31, 3) := by decide +kernel
theorem dX1_readOne_37 : decode cX1_readOne 37 = .ok (.bipush 16, 2) := by decide +kernel
theorem dX1_readOne_39 : decode cX1_readOne 39 = .ok (.if_icmp .ge 21, 3) := by decide +kernel
theorem dX1_readOne_42 : decode cX1_readOne 42 = .ok (.aload_n 0, 1) := by decide +kernel
theorem dX1_readOne_43 : decode cX1_readOne 43 = .ok (.bipush 9, 2) := by decide +kernel
theorem dX1_readOne_45 : decode cX1_readOne 45 = .ok (.aload_n 0, 1) := by decide +kernel
theorem dX1_readOne_46 : decode cX1_readOne 46 = .ok (.getfield 31, 3) := by decide +kernel
theorem dX1_readOne_49 : decode cX1_readOne 49 = .ok (.isub, 1) := by decide +kernel
theorem dX1_readOne_50 : decode cX1_readOne 50 = .ok (.invokevirtual 80, 3) := by decide +kernel
theorem dX1_readOne_53 : decode cX1_readOne 53 = .ok (.aload_n 0, 1) := by decide +kernel
theorem dX1_readOne_54 : decode cX1_readOne 54 = .ok (.invokevirtual 54, 3) := by decide +kernel
theorem dX1_readOne_57 : decode cX1_readOne 57 = .ok (.goto 81, 3) := by decide +kernel
theorem dX1_readOne_60 : decode cX1_readOne 60 = .ok (.aload_n 0, 1) := by decide +kernel
theorem dX1_readOne_61 : decode cX1_readOne 61 = .ok (.getfield 31, 3) := by decide +kernel
theorem dX1_readOne_64 : decode cX1_readOne 64 = .ok (.bipush 45, 2) := by decide +kernel
theorem dX1_readOne_66 : decode cX1_readOne 66 = .ok (.if_icmp .ne 31, 3) := by decide +kernel
theorem dX1_readOne_69 : decode cX1_readOne 69 = .ok (.aload_n 0, 1) := by decide +kernel
theorem dX1_readOne_70 : decode cX1_readOne 70 = .ok (.iload_n 1, 1) := by decide +kernel
theorem dX1_readOne_71 : decode cX1_readOne 71 = .ok (.invokevirtual 86, 3) := by decide +kernel
theorem dX1_readOne_74 : decode cX1_readOne 74 = .ok (.ifCond .eq 23, 3) := by decide +kernel
theorem dX1_readOne_77 : decode cX1_readOne 77 = .ok (.aload_n 0, 1) := by decide +kernel
theorem dX1_readOne_78 : decode cX1_readOne 78 = .ok (.invokevirtual 54, 3) := by decide +kernel
theorem dX1_readOne_81 : decode cX1_readOne 81 = .ok (.aload_n 0, 1) := by decide +kernel
theorem dX1_readOne_82 : decode cX1_readOne 82 = .ok (.iload_n 1, 1) := by decide +kernel
theorem dX1_readOne_83 : decode cX1_readOne 83 = .ok (.iconst 1, 1) := by decide +kernel
theorem dX1_readOne_84 : decode cX1_readOne 84 = .ok (.iadd, 1) := by decide +kernel
theorem dX1_readOne_85 : decode cX1_readOne 85 = .ok (.invokevirtual 95, 3) := by decide +kernel
theorem dX1_readOne_88 : decode cX1_readOne 88 = .ok (.aload_n 0, 1) := by decide +kernel
theorem dX1_readOne_89 : decode cX1_readOne 89 = .ok (.bipush (-14), 2) := by decide +kernel
theorem dX1_readOne_91 : decode cX1_readOne 91 = .ok (.invokevirtual 80, 3) := by decide +kernel
theorem dX1_readOne_94 : decode cX1_readOne 94 = .ok (.goto 44, 3) := by decide +kernel
theorem dX1_readOne_97 : decode cX1_readOne 97 = .ok (.aload_n 0, 1) := by decide +kernel
theorem dX1_readOne_98 : decode cX1_readOne 98 = .ok (.getfield 31, 3) := by decide +kernel
theorem dX1_readOne_101 : decode cX1_readOne 101 = .ok (.bipush 40, 2) := by decide +kernel
theorem dX1_readOne_103 : decode cX1_readOne 103 = .ok (.if_icmp .ne 31, 3) := by decide +kernel
theorem dX1_readOne_106 : decode cX1_readOne 106 = .ok (.aload_n 0, 1) := by decide +kernel
theorem dX1_readOne_107 : decode cX1_readOne 107 = .ok (.iload_n 1, 1) := by decide +kernel
theorem dX1_readOne_108 : decode cX1_readOne 108 = .ok (.invokevirtual 86, 3) := by decide +kernel
theorem dX1_readOne_111 : decode cX1_readOne 111 = .ok (.ifCond .eq 23, 3) := by decide +kernel
theorem dX1_readOne_114 : decode cX1_readOne 114 = .ok (.aload_n 0, 1) := by decide +kernel
theorem dX1_readOne_115 : decode cX1_readOne 115 = .ok (.invokevirtual 54, 3) := by decide +kernel
theorem dX1_readOne_118 : decode cX1_readOne 118 = .ok (.aload_n 0, 1) := by decide +kernel
theorem dX1_readOne_119 : decode cX1_readOne 119 = .ok (.iload_n 1, 1) := by decide +kernel
theorem dX1_readOne_120 : decode cX1_readOne 120 = .ok (.iconst 1, 1) := by decide +kernel
theorem dX1_readOne_121 : decode cX1_readOne 121 = .ok (.iadd, 1) := by decide +kernel
theorem dX1_readOne_122 : decode cX1_readOne 122 = .ok (.invokevirtual 61, 3) := by decide +kernel
theorem dX1_readOne_125 : decode cX1_readOne 125 = .ok (.aload_n 0, 1) := by decide +kernel
theorem dX1_readOne_126 : decode cX1_readOne 126 = .ok (.bipush 41, 2) := by decide +kernel
theorem dX1_readOne_128 : decode cX1_readOne 128 = .ok (.invokevirtual 57, 3) := by decide +kernel
theorem dX1_readOne_131 : decode cX1_readOne 131 = .ok (.goto 7, 3) := by decide +kernel
theorem dX1_readOne_134 : decode cX1_readOne 134 = .ok (.aload_n 0, 1) := by decide +kernel
theorem dX1_readOne_135 : decode cX1_readOne 135 = .ok (.invokevirtual 98, 3) := by decide +kernel
theorem dX1_readOne_138 : decode cX1_readOne 138 = .ok (.return_, 1) := by decide +kernel
theorem dX1_opens_0 : decode cX1_opens 0 = .ok (.iload_n 1, 1) := by decide +kernel
theorem dX1_opens_1 : decode cX1_opens 1 = .ok (.iconst 5, 1) := by decide +kernel
theorem dX1_opens_2 : decode cX1_opens 2 = .ok (.if_icmp .ge 7, 3) := by decide +kernel
theorem dX1_opens_5 : decode cX1_opens 5 = .ok (.iconst 1, 1) := by decide +kernel
theorem dX1_opens_6 : decode cX1_opens 6 = .ok (.goto 4, 3) := by decide +kernel
theorem dX1_opens_9 : decode cX1_opens 9 = .ok (.iconst 0, 1) := by decide +kernel
theorem dX1_opens_10 : decode cX1_opens 10 = .ok (.ireturn, 1) := by decide +kernel
theorem dX1_expect_0 : decode cX1_expect 0 = .ok (.aload_n 0, 1) := by decide +kernel
theorem dX1_expect_1 : decode cX1_expect 1 = .ok (.getfield 31, 3) := by decide +kernel
theorem dX1_expect_4 : decode cX1_expect 4 = .ok (.iload_n 1, 1) := by decide +kernel
theorem dX1_expect_5 : decode cX1_expect 5 = .ok (.if_icmp .eq 10, 3) := by decide +kernel
theorem dX1_expect_8 : decode cX1_expect 8 = .ok (.aload_n 0, 1) := by decide +kernel
theorem dX1_expect_9 : decode cX1_expect 9 = .ok (.invokevirtual 98, 3) := by decide +kernel
theorem dX1_expect_12 : decode cX1_expect 12 = .ok (.goto 7, 3) := by decide +kernel
theorem dX1_expect_15 : decode cX1_expect 15 = .ok (.aload_n 0, 1) := by decide +kernel
theorem dX1_expect_16 : decode cX1_expect 16 = .ok (.invokevirtual 54, 3) := by decide +kernel
theorem dX1_expect_19 : decode cX1_expect 19 = .ok (.return_, 1) := by decide +kernel
theorem dX1_fails_0 : decode cX1_fails 0 = .ok (.aload_n 0, 1) := by decide +kernel
theorem dX1_fails_1 : decode cX1_fails 1 = .ok (.getfield 19, 3) := by decide +kernel
theorem dX1_fails_4 : decode cX1_fails 4 = .ok (.iconst (-1), 1) := by decide +kernel
theorem dX1_fails_5 : decode cX1_fails 5 = .ok (.if_icmp .ne 11, 3) := by decide +kernel
theorem dX1_fails_8 : decode cX1_fails 8 = .ok (.aload_n 0, 1) := by decide +kernel
theorem dX1_fails_9 : decode cX1_fails 9 = .ok (.aload_n 0, 1) := by decide +kernel
theorem dX1_fails_10 : decode cX1_fails 10 = .ok (.getfield 34, 3) := by decide +kernel
theorem dX1_fails_13 : decode cX1_fails 13 = .ok (.putfield 19, 3) := by decide +kernel
theorem dX1_fails_16 : decode cX1_fails 16 = .ok (.aload_n 0, 1) := by decide +kernel
theorem dX1_fails_17 : decode cX1_fails 17 = .ok (.bipush 9, 2) := by decide +kernel
theorem dX1_fails_19 : decode cX1_fails 19 = .ok (.putfield 31, 3) := by decide +kernel
theorem dX1_fails_22 : decode cX1_fails 22 = .ok (.return_, 1) := by decide +kernel
theorem dX1_emit_0 : decode cX1_emit 0 = .ok (.aload_n 0, 1) := by decide +kernel
theorem dX1_emit_1 : decode cX1_emit 1 = .ok (.getfield 25, 3) := by decide +kernel
theorem dX1_emit_4 : decode cX1_emit 4 = .ok (.ifCond .lt 33, 3) := by decide +kernel
theorem dX1_emit_7 : decode cX1_emit 7 = .ok (.aload_n 0, 1) := by decide +kernel
theorem dX1_emit_8 : decode cX1_emit 8 = .ok (.getfield 25, 3) := by decide +kernel
theorem dX1_emit_11 : decode cX1_emit 11 = .ok (.sipush 160, 3) := by decide +kernel
theorem dX1_emit_14 : decode cX1_emit 14 = .ok (.if_icmp .ge 23, 3) := by decide +kernel
theorem dX1_emit_17 : decode cX1_emit 17 = .ok (.aload_n 0, 1) := by decide +kernel
theorem dX1_emit_18 : decode cX1_emit 18 = .ok (.getfield 22, 3) := by decide +kernel
theorem dX1_emit_21 : decode cX1_emit 21 = .ok (.aload_n 0, 1) := by decide +kernel
theorem dX1_emit_22 : decode cX1_emit 22 = .ok (.getfield 25, 3) := by decide +kernel
theorem dX1_emit_25 : decode cX1_emit 25 = .ok (.iload_n 1, 1) := by decide +kernel
theorem dX1_emit_26 : decode cX1_emit 26 = .ok (.iastore, 1) := by decide +kernel
theorem dX1_emit_27 : decode cX1_emit 27 = .ok (.aload_n 0, 1) := by decide +kernel
theorem dX1_emit_28 : decode cX1_emit 28 = .ok (.dup, 1) := by decide +kernel
theorem dX1_emit_29 : decode cX1_emit 29 = .ok (.getfield 25, 3) := by decide +kernel
theorem dX1_emit_32 : decode cX1_emit 32 = .ok (.iconst 1, 1) := by decide +kernel
theorem dX1_emit_33 : decode cX1_emit 33 = .ok (.iadd, 1) := by decide +kernel
theorem dX1_emit_34 : decode cX1_emit 34 = .ok (.putfield 25, 3) := by decide +kernel
theorem dX1_emit_37 : decode cX1_emit 37 = .ok (.return_, 1) := by decide +kernel
theorem dX1_byteAt_0 : decode cX1_byteAt 0 = .ok (.iload_n 1, 1) := by decide +kernel
theorem dX1_byteAt_1 : decode cX1_byteAt 1 = .ok (.ifCond .lt 27, 3) := by decide +kernel
theorem dX1_byteAt_4 : decode cX1_byteAt 4 = .ok (.iload_n 1, 1) := by decide +kernel
theorem dX1_byteAt_5 : decode cX1_byteAt 5 = .ok (.aload_n 0, 1) := by decide +kernel
theorem dX1_byteAt_6 : decode cX1_byteAt 6 = .ok (.getfield 15, 3) := by decide +kernel
theorem dX1_byteAt_9 : decode cX1_byteAt 9 = .ok (.if_icmp .ge 19, 3) := by decide +kernel
theorem dX1_byteAt_12 : decode cX1_byteAt 12 = .ok (.iload_n 1, 1) := by decide +kernel
theorem dX1_byteAt_13 : decode cX1_byteAt 13 = .ok (.sipush 160, 3) := by decide +kernel
theorem dX1_byteAt_16 : decode cX1_byteAt 16 = .ok (.if_icmp .ge 12, 3) := by decide +kernel
theorem dX1_byteAt_19 : decode cX1_byteAt 19 = .ok (.aload_n 0, 1) := by decide +kernel
theorem dX1_byteAt_20 : decode cX1_byteAt 20 = .ok (.getfield 9, 3) := by decide +kernel
theorem dX1_byteAt_23 : decode cX1_byteAt 23 = .ok (.iload_n 1, 1) := by decide +kernel
theorem dX1_byteAt_24 : decode cX1_byteAt 24 = .ok (.iaload, 1) := by decide +kernel
theorem dX1_byteAt_25 : decode cX1_byteAt 25 = .ok (.goto 4, 3) := by decide +kernel
theorem dX1_byteAt_28 : decode cX1_byteAt 28 = .ok (.iconst (-1), 1) := by decide +kernel
theorem dX1_byteAt_29 : decode cX1_byteAt 29 = .ok (.ireturn, 1) := by decide +kernel
theorem dX1_next_0 : decode cX1_next 0 = .ok (.iconst 0, 1) := by decide +kernel
theorem dX1_next_1 : decode cX1_next 1 = .ok (.istore_n 1, 1) := by decide +kernel
theorem dX1_next_2 : decode cX1_next 2 = .ok (.iload_n 1, 1) := by decide +kernel
theorem dX1_next_3 : decode cX1_next 3 = .ok (.sipush 160, 3) := by decide +kernel
theorem dX1_next_6 : decode cX1_next 6 = .ok (.if_icmp .ge 45, 3) := by decide +kernel
theorem dX1_next_9 : decode cX1_next 9 = .ok (.aload_n 0, 1) := by decide +kernel
theorem dX1_next_10 : decode cX1_next 10 = .ok (.aload_n 0, 1) := by decide +kernel
theorem dX1_next_11 : decode cX1_next 11 = .ok (.getfield 28, 3) := by decide +kernel
theorem dX1_next_14 : decode cX1_next 14 = .ok (.invokevirtual 101, 3) := by decide +kernel
theorem dX1_next_17 : decode cX1_next 17 = .ok (.bipush 32, 2) := by decide +kernel
theorem dX1_next_19 : decode cX1_next 19 = .ok (.if_icmp .eq 16, 3) := by decide +kernel
theorem dX1_next_22 : decode cX1_next 22 = .ok (.aload_n 0, 1) := by decide +kernel
theorem dX1_next_23 : decode cX1_next 23 = .ok (.aload_n 0, 1) := by decide +kernel
theorem dX1_next_24 : decode cX1_next 24 = .ok (.getfield 28, 3) := by decide +kernel
theorem dX1_next_27 : decode cX1_next 27 = .ok (.invokevirtual 101, 3) := by decide +kernel
theorem dX1_next_30 : decode cX1_next 30 = .ok (.bipush 10, 2) := by decide +kernel
theorem dX1_next_32 : decode cX1_next 32 = .ok (.if_icmp .ne 19, 3) := by decide +kernel
theorem dX1_next_35 : decode cX1_next 35 = .ok (.aload_n 0, 1) := by decide +kernel
theorem dX1_next_36 : decode cX1_next 36 = .ok (.dup, 1) := by decide +kernel
theorem dX1_next_37 : decode cX1_next 37 = .ok (.getfield 28, 3) := by decide +kernel
theorem dX1_next_40 : decode cX1_next 40 = .ok (.iconst 1, 1) := by decide +kernel
theorem dX1_next_41 : decode cX1_next 41 = .ok (.iadd, 1) := by decide +kernel
theorem dX1_next_42 : decode cX1_next 42 = .ok (.putfield 28, 3) := by decide +kernel
theorem dX1_next_45 : decode cX1_next 45 = .ok (.iinc 1 1, 3) := by decide +kernel
theorem dX1_next_48 : decode cX1_next 48 = .ok (.goto (-46), 3) := by decide +kernel
theorem dX1_next_51 : decode cX1_next 51 = .ok (.aload_n 0, 1) := by decide +kernel
theorem dX1_next_52 : decode cX1_next 52 = .ok (.aload_n 0, 1) := by decide +kernel
theorem dX1_next_53 : decode cX1_next 53 = .ok (.getfield 28, 3) := by decide +kernel
theorem dX1_next_56 : decode cX1_next 56 = .ok (.putfield 34, 3) := by decide +kernel
theorem dX1_next_59 : decode cX1_next 59 = .ok (.aload_n 0, 1) := by decide +kernel
theorem dX1_next_60 : decode cX1_next 60 = .ok (.aload_n 0, 1) := by decide +kernel
theorem dX1_next_61 : decode cX1_next 61 = .ok (.getfield 28, 3) := by decide +kernel
theorem dX1_next_64 : decode cX1_next 64 = .ok (.invokevirtual 101, 3) := by decide +kernel
theorem dX1_next_67 : decode cX1_next 67 = .ok (.istore_n 1, 1) := by decide +kernel
theorem dX1_next_68 : decode cX1_next 68 = .ok (.iload_n 1, 1) := by decide +kernel
theorem dX1_next_69 : decode cX1_next 69 = .ok (.iconst (-1), 1) := by decide +kernel
theorem dX1_next_70 : decode cX1_next 70 = .ok (.if_icmp .ne 12, 3) := by decide +kernel
theorem dX1_next_73 : decode cX1_next 73 = .ok (.aload_n 0, 1) := by decide +kernel
theorem dX1_next_74 : decode cX1_next 74 = .ok (.bipush 8, 2) := by decide +kernel
theorem dX1_next_76 : decode cX1_next 76 = .ok (.putfield 31, 3) := by decide +kernel
theorem dX1_next_79 : decode cX1_next 79 = .ok (.goto 58, 3) := by decide +kernel
theorem dX1_next_82 : decode cX1_next 82 = .ok (.iload_n 1, 1) := by decide +kernel
theorem dX1_next_83 : decode cX1_next 83 = .ok (.invokestatic 105, 3) := by decide +kernel
theorem dX1_next_86 : decode cX1_next 86 = .ok (.ifCond .eq 10, 3) := by decide +kernel
theorem dX1_next_89 : decode cX1_next 89 = .ok (.aload_n 0, 1) := by decide +kernel
theorem dX1_next_90 : decode cX1_next 90 = .ok (.invokevirtual 108, 3) := by decide +kernel
theorem dX1_next_93 : decode cX1_next 93 = .ok (.goto 44, 3) := by decide +kernel
theorem dX1_next_96 : decode cX1_next 96 = .ok (.iload_n 1, 1) := by decide +kernel
theorem dX1_next_97 : decode cX1_next 97 = .ok (.invokestatic 111, 3) := by decide +kernel
theorem dX1_next_100 : decode cX1_next 100 = .ok (.ifCond .eq 10, 3) := by decide +kernel
theorem dX1_next_103 : decode cX1_next 103 = .ok (.aload_n 0, 1) := by decide +kernel
theorem dX1_next_104 : decode cX1_next 104 = .ok (.invokevirtual 114, 3) := by decide +kernel
theorem dX1_next_107 : decode cX1_next 107 = .ok (.goto 30, 3) := by decide +kernel
theorem dX1_next_110 : decode cX1_next 110 = .ok (.aload_n 0, 1) := by decide +kernel
theorem dX1_next_111 : decode cX1_next 111 = .ok (.dup, 1) := by decide +kernel
theorem dX1_next_112 : decode cX1_next 112 = .ok (.getfield 28, 3) := by decide +kernel
theorem dX1_next_115 : decode cX1_next 115 = .ok (.iconst 1, 1) := by decide +kernel
theorem dX1_next_116 : decode cX1_next 116 = .ok (.iadd, 1) := by decide +kernel
theorem dX1_next_117 : decode cX1_next 117 = .ok (.putfield 28, 3) := by decide +kernel
theorem dX1_next_120 : decode cX1_next 120 = .ok (.aload_n 0, 1) := by decide +kernel
theorem dX1_next_121 : decode cX1_next 121 = .ok (.iload_n 1, 1) := by decide +kernel
theorem dX1_next_122 : decode cX1_next 122 = .ok (.invokestatic 117, 3) := by decide +kernel
theorem dX1_next_125 : decode cX1_next 125 = .ok (.ifCond .eq 7, 3) := by decide +kernel
theorem dX1_next_128 : decode cX1_next 128 = .ok (.iload_n 1, 1) := by decide +kernel
theorem dX1_next_129 : decode cX1_next 129 = .ok (.goto 5, 3) := by decide +kernel
theorem dX1_next_132 : decode cX1_next 132 = .ok (.bipush 9, 2) := by decide +kernel
theorem dX1_next_134 : decode cX1_next 134 = .ok (.putfield 31, 3) := by decide +kernel
theorem dX1_next_137 : decode cX1_next 137 = .ok (.return_, 1) := by decide +kernel
theorem dX1_isLetter_0 : decode cX1_isLetter 0 = .ok (.iload_n 0, 1) := by decide +kernel
theorem dX1_isLetter_1 : decode cX1_isLetter 1 = .ok (.bipush 97, 2) := by decide +kernel
theorem dX1_isLetter_3 : decode cX1_isLetter 3 = .ok (.if_icmp .lt 13, 3) := by decide +kernel
theorem dX1_isLetter_6 : decode cX1_isLetter 6 = .ok (.iload_n 0, 1) := by decide +kernel
theorem dX1_isLetter_7 : decode cX1_isLetter 7 = .ok (.bipush 122, 2) := by decide +kernel
theorem dX1_isLetter_9 : decode cX1_isLetter 9 = .ok (.if_icmp .gt 7, 3) := by decide +kernel
theorem dX1_isLetter_12 : decode cX1_isLetter 12 = .ok (.iconst 1, 1) := by decide +kernel
theorem dX1_isLetter_13 : decode cX1_isLetter 13 = .ok (.goto 4, 3) := by decide +kernel
theorem dX1_isLetter_16 : decode cX1_isLetter 16 = .ok (.iconst 0, 1) := by decide +kernel
theorem dX1_isLetter_17 : decode cX1_isLetter 17 = .ok (.ireturn, 1) := by decide +kernel
theorem dX1_isDigit_0 : decode cX1_isDigit 0 = .ok (.iload_n 0, 1) := by decide +kernel
theorem dX1_isDigit_1 : decode cX1_isDigit 1 = .ok (.bipush 48, 2) := by decide +kernel
theorem dX1_isDigit_3 : decode cX1_isDigit 3 = .ok (.if_icmp .lt 13, 3) := by decide +kernel
theorem dX1_isDigit_6 : decode cX1_isDigit 6 = .ok (.iload_n 0, 1) := by decide +kernel
theorem dX1_isDigit_7 : decode cX1_isDigit 7 = .ok (.bipush 57, 2) := by decide +kernel
theorem dX1_isDigit_9 : decode cX1_isDigit 9 = .ok (.if_icmp .gt 7, 3) := by decide +kernel
theorem dX1_isDigit_12 : decode cX1_isDigit 12 = .ok (.iconst 1, 1) := by decide +kernel
theorem dX1_isDigit_13 : decode cX1_isDigit 13 = .ok (.goto 4, 3) := by decide +kernel
theorem dX1_isDigit_16 : decode cX1_isDigit 16 = .ok (.iconst 0, 1) := by decide +kernel
theorem dX1_isDigit_17 : decode cX1_isDigit 17 = .ok (.ireturn, 1) := by decide +kernel
theorem dX1_isSign_0 : decode cX1_isSign 0 = .ok (.iload_n 0, 1) := by decide +kernel
theorem dX1_isSign_1 : decode cX1_isSign 1 = .ok (.bipush 40, 2) := by decide +kernel
theorem dX1_isSign_3 : decode cX1_isSign 3 = .ok (.if_icmp .eq 45, 3) := by decide +kernel
theorem dX1_isSign_6 : decode cX1_isSign 6 = .ok (.iload_n 0, 1) := by decide +kernel
theorem dX1_isSign_7 : decode cX1_isSign 7 = .ok (.bipush 41, 2) := by decide +kernel
theorem dX1_isSign_9 : decode cX1_isSign 9 = .ok (.if_icmp .eq 39, 3) := by decide +kernel
theorem dX1_isSign_12 : decode cX1_isSign 12 = .ok (.iload_n 0, 1) := by decide +kernel
theorem dX1_isSign_13 : decode cX1_isSign 13 = .ok (.bipush 59, 2) := by decide +kernel
theorem dX1_isSign_15 : decode cX1_isSign 15 = .ok (.if_icmp .eq 33, 3) := by decide +kernel
theorem dX1_isSign_18 : decode cX1_isSign 18 = .ok (.iload_n 0, 1) := by decide +kernel
theorem dX1_isSign_19 : decode cX1_isSign 19 = .ok (.bipush 43, 2) := by decide +kernel
theorem dX1_isSign_21 : decode cX1_isSign 21 = .ok (.if_icmp .eq 27, 3) := by decide +kernel
theorem dX1_isSign_24 : decode cX1_isSign 24 = .ok (.iload_n 0, 1) := by decide +kernel
theorem dX1_isSign_25 : decode cX1_isSign 25 = .ok (.bipush 45, 2) := by decide +kernel
theorem dX1_isSign_27 : decode cX1_isSign 27 = .ok (.if_icmp .eq 21, 3) := by decide +kernel
theorem dX1_isSign_30 : decode cX1_isSign 30 = .ok (.iload_n 0, 1) := by decide +kernel
theorem dX1_isSign_31 : decode cX1_isSign 31 = .ok (.bipush 42, 2) := by decide +kernel
theorem dX1_isSign_33 : decode cX1_isSign 33 = .ok (.if_icmp .eq 15, 3) := by decide +kernel
theorem dX1_isSign_36 : decode cX1_isSign 36 = .ok (.iload_n 0, 1) := by decide +kernel
theorem dX1_isSign_37 : decode cX1_isSign 37 = .ok (.bipush 60, 2) := by decide +kernel
theorem dX1_isSign_39 : decode cX1_isSign 39 = .ok (.if_icmp .eq 9, 3) := by decide +kernel
theorem dX1_isSign_42 : decode cX1_isSign 42 = .ok (.iload_n 0, 1) := by decide +kernel
theorem dX1_isSign_43 : decode cX1_isSign 43 = .ok (.bipush 61, 2) := by decide +kernel
theorem dX1_isSign_45 : decode cX1_isSign 45 = .ok (.if_icmp .ne 7, 3) := by decide +kernel
theorem dX1_isSign_48 : decode cX1_isSign 48 = .ok (.iconst 1, 1) := by decide +kernel
theorem dX1_isSign_49 : decode cX1_isSign 49 = .ok (.goto 4, 3) := by decide +kernel
theorem dX1_isSign_52 : decode cX1_isSign 52 = .ok (.iconst 0, 1) := by decide +kernel
theorem dX1_isSign_53 : decode cX1_isSign 53 = .ok (.ireturn, 1) := by decide +kernel
theorem dX1_readNumber_0 : decode cX1_readNumber 0 = .ok (.iconst 0, 1) := by decide +kernel
theorem dX1_readNumber_1 : decode cX1_readNumber 1 = .ok (.istore_n 1, 1) := by decide +kernel
theorem dX1_readNumber_2 : decode cX1_readNumber 2 = .ok (.aload_n 0, 1) := by decide +kernel
theorem dX1_readNumber_3 : decode cX1_readNumber 3 = .ok (.iconst 0, 1) := by decide +kernel
theorem dX1_readNumber_4 : decode cX1_readNumber 4 = .ok (.putfield 37, 3) := by decide +kernel
theorem dX1_readNumber_7 : decode cX1_readNumber 7 = .ok (.iconst 0, 1) := by decide +kernel
theorem dX1_readNumber_8 : decode cX1_readNumber 8 = .ok (.istore_n 2, 1) := by decide +kernel
theorem dX1_readNumber_9 : decode cX1_readNumber 9 = .ok (.iload_n 2, 1) := by decide +kernel
theorem dX1_readNumber_10 : decode cX1_readNumber 10 = .ok (.sipush 160, 3) := by decide +kernel
theorem dX1_readNumber_13 : decode cX1_readNumber 13 = .ok (.if_icmp .ge 71, 3) := by decide +kernel
theorem dX1_readNumber_16 : decode cX1_readNumber 16 = .ok (.aload_n 0, 1) := by decide +kernel
theorem dX1_readNumber_17 : decode cX1_readNumber 17 = .ok (.aload_n 0, 1) := by decide +kernel
theorem dX1_readNumber_18 : decode cX1_readNumber 18 = .ok (.getfield 28, 3) := by decide +kernel
theorem dX1_readNumber_21 : decode cX1_readNumber 21 = .ok (.invokevirtual 101, 3) := by decide +kernel
theorem dX1_readNumber_24 : decode cX1_readNumber 24 = .ok (.invokestatic 111, 3) := by decide +kernel
theorem dX1_readNumber_27 : decode cX1_readNumber 27 = .ok (.ifCond .eq 57, 3) := by decide +kernel
theorem dX1_readNumber_30 : decode cX1_readNumber 30 = .ok (.iinc 1 1, 3) := by decide +kernel
theorem dX1_readNumber_33 : decode cX1_readNumber 33 = .ok (.aload_n 0, 1) := by decide +kernel
theorem dX1_readNumber_34 : decode cX1_readNumber 34 = .ok (.iload_n 1, 1) := by decide +kernel
theorem dX1_readNumber_35 : decode cX1_readNumber 35 = .ok (.iconst 4, 1) := by decide +kernel
theorem dX1_readNumber_36 : decode cX1_readNumber 36 = .ok (.if_icmp .le 10, 3) := by decide +kernel
theorem dX1_readNumber_39 : decode cX1_readNumber 39 = .ok (.aload_n 0, 1) := by decide +kernel
theorem dX1_readNumber_40 : decode cX1_readNumber 40 = .ok (.getfield 37, 3) := by decide +kernel
theorem dX1_readNumber_43 : decode cX1_readNumber 43 = .ok (.goto 22, 3) := by decide +kernel
theorem dX1_readNumber_46 : decode cX1_readNumber 46 = .ok (.aload_n 0, 1) := by decide +kernel
theorem dX1_readNumber_47 : decode cX1_readNumber 47 = .ok (.getfield 37, 3) := by decide +kernel
theorem dX1_readNumber_50 : decode cX1_readNumber 50 = .ok (.bipush 10, 2) := by decide +kernel
theorem dX1_readNumber_52 : decode cX1_readNumber 52 = .ok (.imul, 1) := by decide +kernel
theorem dX1_readNumber_53 : decode cX1_readNumber 53 = .ok (.aload_n 0, 1) := by decide +kernel
theorem dX1_readNumber_54 : decode cX1_readNumber 54 = .ok (.aload_n 0, 1) := by decide +kernel
theorem dX1_readNumber_55 : decode cX1_readNumber 55 = .ok (.getfield 28, 3) := by decide +kernel
theorem dX1_readNumber_58 : decode cX1_readNumber 58 = .ok (.invokevirtual 101, 3) := by decide +kernel
theorem dX1_readNumber_61 : decode cX1_readNumber 61 = .ok (.iadd, 1) := by decide +kernel
theorem dX1_readNumber_62 : decode cX1_readNumber 62 = .ok (.bipush 48, 2) := by decide +kernel
theorem dX1_readNumber_64 : decode cX1_readNumber 64 = .ok (.isub, 1) := by decide +kernel
theorem dX1_readNumber_65 : decode cX1_readNumber 65 = .ok (.putfield 37, 3) := by decide +kernel
theorem dX1_readNumber_68 : decode cX1_readNumber 68 = .ok (.aload_n 0, 1) := by decide +kernel
theorem dX1_readNumber_69 : decode cX1_readNumber 69 = .ok (.dup, 1) := by decide +kernel
theorem dX1_readNumber_70 : decode cX1_readNumber 70 = .ok (.getfield 28, 3) := by decide +kernel
theorem dX1_readNumber_73 : decode cX1_readNumber 73 = .ok (.iconst 1, 1) := by decide +kernel
theorem dX1_readNumber_74 : decode cX1_readNumber 74 = .ok (.iadd, 1) := by decide +kernel
theorem dX1_readNumber_75 : decode cX1_readNumber 75 = .ok (.putfield 28, 3) := by decide +kernel
theorem dX1_readNumber_78 : decode cX1_readNumber 78 = .ok (.iinc 2 1, 3) := by decide +kernel
theorem dX1_readNumber_81 : decode cX1_readNumber 81 = .ok (.goto (-72), 3) := by decide +kernel
theorem dX1_readNumber_84 : decode cX1_readNumber 84 = .ok (.aload_n 0, 1) := by decide +kernel
theorem dX1_readNumber_85 : decode cX1_readNumber 85 = .ok (.iload_n 1, 1) := by decide +kernel
theorem dX1_readNumber_86 : decode cX1_readNumber 86 = .ok (.iconst 4, 1) := by decide +kernel
theorem dX1_readNumber_87 : decode cX1_readNumber 87 = .ok (.if_icmp .le 8, 3) := by decide +kernel
theorem dX1_readNumber_90 : decode cX1_readNumber 90 = .ok (.bipush 9, 2) := by decide +kernel
theorem dX1_readNumber_92 : decode cX1_readNumber 92 = .ok (.goto 5, 3) := by decide +kernel
theorem dX1_readNumber_95 : decode cX1_readNumber 95 = .ok (.bipush 7, 2) := by decide +kernel
theorem dX1_readNumber_97 : decode cX1_readNumber 97 = .ok (.putfield 31, 3) := by decide +kernel
theorem dX1_readNumber_100 : decode cX1_readNumber 100 = .ok (.return_, 1) := by decide +kernel
theorem dX1_readWord_0 : decode cX1_readWord 0 = .ok (.iconst 0, 1) := by decide +kernel
theorem dX1_readWord_1 : decode cX1_readWord 1 = .ok (.istore_n 1, 1) := by decide +kernel
theorem dX1_readWord_2 : decode cX1_readWord 2 = .ok (.iload_n 1, 1) := by decide +kernel
theorem dX1_readWord_3 : decode cX1_readWord 3 = .ok (.sipush 160, 3) := by decide +kernel
theorem dX1_readWord_6 : decode cX1_readWord 6 = .ok (.if_icmp .ge 33, 3) := by decide +kernel
theorem dX1_readWord_9 : decode cX1_readWord 9 = .ok (.aload_n 0, 1) := by decide +kernel
theorem dX1_readWord_10 : decode cX1_readWord 10 = .ok (.aload_n 0, 1) := by decide +kernel
theorem dX1_readWord_11 : decode cX1_readWord 11 = .ok (.getfield 28, 3) := by decide +kernel
theorem dX1_readWord_14 : decode cX1_readWord 14 = .ok (.invokevirtual 101, 3) := by decide +kernel
theorem dX1_readWord_17 : decode cX1_readWord 17 = .ok (.invokestatic 105, 3) := by decide +kernel
theorem dX1_readWord_20 : decode cX1_readWord 20 = .ok (.ifCond .eq 19, 3) := by decide +kernel
theorem dX1_readWord_23 : decode cX1_readWord 23 = .ok (.aload_n 0, 1) := by decide +kernel
theorem dX1_readWord_24 : decode cX1_readWord 24 = .ok (.dup, 1) := by decide +kernel
theorem dX1_readWord_25 : decode cX1_readWord 25 = .ok (.getfield 28, 3) := by decide +kernel
theorem dX1_readWord_28 : decode cX1_readWord 28 = .ok (.iconst 1, 1) := by decide +kernel
theorem dX1_readWord_29 : decode cX1_readWord 29 = .ok (.iadd, 1) := by decide +kernel
theorem dX1_readWord_30 : decode cX1_readWord 30 = .ok (.putfield 28, 3) := by decide +kernel
theorem dX1_readWord_33 : decode cX1_readWord 33 = .ok (.iinc 1 1, 3) := by decide +kernel
theorem dX1_readWord_36 : decode cX1_readWord 36 = .ok (.goto (-34), 3) := by decide +kernel
theorem dX1_readWord_39 : decode cX1_readWord 39 = .ok (.aload_n 0, 1) := by decide +kernel
theorem dX1_readWord_40 : decode cX1_readWord 40 = .ok (.aload_n 0, 1) := by decide +kernel
theorem dX1_readWord_41 : decode cX1_readWord 41 = .ok (.ldc 120, 2) := by decide +kernel
theorem dX1_readWord_43 : decode cX1_readWord 43 = .ok (.invokevirtual 122, 3) := by decide +kernel
theorem dX1_readWord_46 : decode cX1_readWord 46 = .ok (.ifCond .eq 7, 3) := by decide +kernel
theorem dX1_readWord_49 : decode cX1_readWord 49 = .ok (.iconst 1, 1) := by decide +kernel
theorem dX1_readWord_50 : decode cX1_readWord 50 = .ok (.goto 155, 3) := by decide +kernel
theorem dX1_readWord_53 : decode cX1_readWord 53 = .ok (.aload_n 0, 1) := by decide +kernel
theorem dX1_readWord_54 : decode cX1_readWord 54 = .ok (.ldc 126, 2) := by decide +kernel
theorem dX1_readWord_56 : decode cX1_readWord 56 = .ok (.invokevirtual 122, 3) := by decide +kernel
theorem dX1_readWord_59 : decode cX1_readWord 59 = .ok (.ifCond .eq 7, 3) := by decide +kernel
theorem dX1_readWord_62 : decode cX1_readWord 62 = .ok (.iconst 2, 1) := by decide +kernel
theorem dX1_readWord_63 : decode cX1_readWord 63 = .ok (.goto 142, 3) := by decide +kernel
theorem dX1_readWord_66 : decode cX1_readWord 66 = .ok (.aload_n 0, 1) := by decide +kernel
theorem dX1_readWord_67 : decode cX1_readWord 67 = .ok (.ldc 128, 2) := by decide +kernel
theorem dX1_readWord_69 : decode cX1_readWord 69 = .ok (.invokevirtual 122, 3) := by decide +kernel
theorem dX1_readWord_72 : decode cX1_readWord 72 = .ok (.ifCond .eq 7, 3) := by decide +kernel
theorem dX1_readWord_75 : decode cX1_readWord 75 = .ok (.iconst 3, 1) := by decide +kernel
theorem dX1_readWord_76 : decode cX1_readWord 76 = .ok (.goto 129, 3) := by decide +kernel
theorem dX1_readWord_79 : decode cX1_readWord 79 = .ok (.aload_n 0, 1) := by decide +kernel
theorem dX1_readWord_80 : decode cX1_readWord 80 = .ok (.ldc 130, 2) := by decide +kernel
theorem dX1_readWord_82 : decode cX1_readWord 82 = .ok (.invokevirtual 122, 3) := by decide +kernel
theorem dX1_readWord_85 : decode cX1_readWord 85 = .ok (.ifCond .eq 7, 3) := by decide +kernel
theorem dX1_readWord_88 : decode cX1_readWord 88 = .ok (.iconst 4, 1) := by decide +kernel
theorem dX1_readWord_89 : decode cX1_readWord 89 = .ok (.goto 116, 3) := by decide +kernel
theorem dX1_readWord_92 : decode cX1_readWord 92 = .ok (.aload_n 0, 1) := by decide +kernel
theorem dX1_readWord_93 : decode cX1_readWord 93 = .ok (.ldc 132, 2) := by decide +kernel
theorem dX1_readWord_95 : decode cX1_readWord 95 = .ok (.invokevirtual 122, 3) := by decide +kernel
theorem dX1_readWord_98 : decode cX1_readWord 98 = .ok (.ifCond .eq 7, 3) := by decide +kernel
theorem dX1_readWord_101 : decode cX1_readWord 101 = .ok (.iconst 5, 1) := by decide +kernel
theorem dX1_readWord_102 : decode cX1_readWord 102 = .ok (.goto 103, 3) := by decide +kernel
theorem dX1_readWord_105 : decode cX1_readWord 105 = .ok (.aload_n 0, 1) := by decide +kernel
theorem dX1_readWord_106 : decode cX1_readWord 106 = .ok (.ldc 134, 2) := by decide +kernel
theorem dX1_readWord_108 : decode cX1_readWord 108 = .ok (.invokevirtual 122, 3) := by decide +kernel
theorem dX1_readWord_111 : decode cX1_readWord 111 = .ok (.ifCond .eq 8, 3) := by decide +kernel
theorem dX1_readWord_114 : decode cX1_readWord 114 = .ok (.bipush 6, 2) := by decide +kernel
theorem dX1_readWord_116 : decode cX1_readWord 116 = .ok (.goto 89, 3) := by decide +kernel
theorem dX1_readWord_119 : decode cX1_readWord 119 = .ok (.aload_n 0, 1) := by decide +kernel
theorem dX1_readWord_120 : decode cX1_readWord 120 = .ok (.ldc 136, 2) := by decide +kernel
theorem dX1_readWord_122 : decode cX1_readWord 122 = .ok (.invokevirtual 122, 3) := by decide +kernel
theorem dX1_readWord_125 : decode cX1_readWord 125 = .ok (.ifCond .eq 8, 3) := by decide +kernel
theorem dX1_readWord_128 : decode cX1_readWord 128 = .ok (.bipush 10, 2) := by decide +kernel
theorem dX1_readWord_130 : decode cX1_readWord 130 = .ok (.goto 75, 3) := by decide +kernel
theorem dX1_readWord_133 : decode cX1_readWord 133 = .ok (.aload_n 0, 1) := by decide +kernel
theorem dX1_readWord_134 : decode cX1_readWord 134 = .ok (.ldc 138, 2) := by decide +kernel
theorem dX1_readWord_136 : decode cX1_readWord 136 = .ok (.invokevirtual 122, 3) := by decide +kernel
theorem dX1_readWord_139 : decode cX1_readWord 139 = .ok (.ifCond .eq 8, 3) := by decide +kernel
theorem dX1_readWord_142 : decode cX1_readWord 142 = .ok (.bipush 11, 2) := by decide +kernel
theorem dX1_readWord_144 : decode cX1_readWord 144 = .ok (.goto 61, 3) := by decide +kernel
theorem dX1_readWord_147 : decode cX1_readWord 147 = .ok (.aload_n 0, 1) := by decide +kernel
theorem dX1_readWord_148 : decode cX1_readWord 148 = .ok (.ldc 140, 2) := by decide +kernel
theorem dX1_readWord_150 : decode cX1_readWord 150 = .ok (.invokevirtual 122, 3) := by decide +kernel
theorem dX1_readWord_153 : decode cX1_readWord 153 = .ok (.ifCond .eq 8, 3) := by decide +kernel
theorem dX1_readWord_156 : decode cX1_readWord 156 = .ok (.bipush 12, 2) := by decide +kernel
theorem dX1_readWord_158 : decode cX1_readWord 158 = .ok (.goto 47, 3) := by decide +kernel
theorem dX1_readWord_161 : decode cX1_readWord 161 = .ok (.aload_n 0, 1) := by decide +kernel
theorem dX1_readWord_162 : decode cX1_readWord 162 = .ok (.ldc 142, 2) := by decide +kernel
theorem dX1_readWord_164 : decode cX1_readWord 164 = .ok (.invokevirtual 122, 3) := by decide +kernel
theorem dX1_readWord_167 : decode cX1_readWord 167 = .ok (.ifCond .eq 8, 3) := by decide +kernel
theorem dX1_readWord_170 : decode cX1_readWord 170 = .ok (.bipush 13, 2) := by decide +kernel
theorem dX1_readWord_172 : decode cX1_readWord 172 = .ok (.goto 33, 3) := by decide +kernel
theorem dX1_readWord_175 : decode cX1_readWord 175 = .ok (.aload_n 0, 1) := by decide +kernel
theorem dX1_readWord_176 : decode cX1_readWord 176 = .ok (.ldc 144, 2) := by decide +kernel
theorem dX1_readWord_178 : decode cX1_readWord 178 = .ok (.invokevirtual 122, 3) := by decide +kernel
theorem dX1_readWord_181 : decode cX1_readWord 181 = .ok (.ifCond .eq 8, 3) := by decide +kernel
theorem dX1_readWord_184 : decode cX1_readWord 184 = .ok (.bipush 14, 2) := by decide +kernel
theorem dX1_readWord_186 : decode cX1_readWord 186 = .ok (.goto 19, 3) := by decide +kernel
theorem dX1_readWord_189 : decode cX1_readWord 189 = .ok (.aload_n 0, 1) := by decide +kernel
theorem dX1_readWord_190 : decode cX1_readWord 190 = .ok (.ldc 146, 2) := by decide +kernel
theorem dX1_readWord_192 : decode cX1_readWord 192 = .ok (.invokevirtual 122, 3) := by decide +kernel
theorem dX1_readWord_195 : decode cX1_readWord 195 = .ok (.ifCond .eq 8, 3) := by decide +kernel
theorem dX1_readWord_198 : decode cX1_readWord 198 = .ok (.bipush 15, 2) := by decide +kernel
theorem dX1_readWord_200 : decode cX1_readWord 200 = .ok (.goto 5, 3) := by decide +kernel
theorem dX1_readWord_203 : decode cX1_readWord 203 = .ok (.bipush 9, 2) := by decide +kernel
theorem dX1_readWord_205 : decode cX1_readWord 205 = .ok (.putfield 31, 3) := by decide +kernel
theorem dX1_readWord_208 : decode cX1_readWord 208 = .ok (.return_, 1) := by decide +kernel
theorem dX1_stands_0 : decode cX1_stands 0 = .ok (.aload_n 0, 1) := by decide +kernel
theorem dX1_stands_1 : decode cX1_stands 1 = .ok (.getfield 34, 3) := by decide +kernel
theorem dX1_stands_4 : decode cX1_stands 4 = .ok (.ifCond .lt 29, 3) := by decide +kernel
theorem dX1_stands_7 : decode cX1_stands 7 = .ok (.aload_n 0, 1) := by decide +kernel
theorem dX1_stands_8 : decode cX1_stands 8 = .ok (.getfield 28, 3) := by decide +kernel
theorem dX1_stands_11 : decode cX1_stands 11 = .ok (.sipush 160, 3) := by decide +kernel
theorem dX1_stands_14 : decode cX1_stands 14 = .ok (.if_icmp .gt 19, 3) := by decide +kernel
theorem dX1_stands_17 : decode cX1_stands 17 = .ok (.aload_n 0, 1) := by decide +kernel
theorem dX1_stands_18 : decode cX1_stands 18 = .ok (.getfield 28, 3) := by decide +kernel
theorem dX1_stands_21 : decode cX1_stands 21 = .ok (.aload_n 0, 1) := by decide +kernel
theorem dX1_stands_22 : decode cX1_stands 22 = .ok (.getfield 34, 3) := by decide +kernel
theorem dX1_stands_25 : decode cX1_stands 25 = .ok (.isub, 1) := by decide +kernel
theorem dX1_stands_26 : decode cX1_stands 26 = .ok (.aload_n 1, 1) := by decide +kernel
theorem dX1_stands_27 : decode cX1_stands 27 = .ok (.invokevirtual 40, 3) := by decide +kernel
theorem dX1_stands_30 : decode cX1_stands 30 = .ok (.if_icmp .eq 5, 3) := by decide +kernel
theorem dX1_stands_33 : decode cX1_stands 33 = .ok (.iconst 0, 1) := by decide +kernel
theorem dX1_stands_34 : decode cX1_stands 34 = .ok (.ireturn, 1) := by decide +kernel
theorem dX1_stands_35 : decode cX1_stands 35 = .ok (.iconst 0, 1) := by decide +kernel
theorem dX1_stands_36 : decode cX1_stands 36 = .ok (.istore_n 2, 1) := by decide +kernel
theorem dX1_stands_37 : decode cX1_stands 37 = .ok (.iload_n 2, 1) := by decide +kernel
theorem dX1_stands_38 : decode cX1_stands 38 = .ok (.aload_n 1, 1) := by decide +kernel
theorem dX1_stands_39 : decode cX1_stands 39 = .ok (.invokevirtual 40, 3) := by decide +kernel
theorem dX1_stands_42 : decode cX1_stands 42 = .ok (.if_icmp .ge 30, 3) := by decide +kernel
theorem dX1_stands_45 : decode cX1_stands 45 = .ok (.aload_n 0, 1) := by decide +kernel
theorem dX1_stands_46 : decode cX1_stands 46 = .ok (.getfield 9, 3) := by decide +kernel
theorem dX1_stands_49 : decode cX1_stands 49 = .ok (.aload_n 0, 1) := by decide +kernel
theorem dX1_stands_50 : decode cX1_stands 50 = .ok (.getfield 34, 3) := by decide +kernel
theorem dX1_stands_53 : decode cX1_stands 53 = .ok (.iload_n 2, 1) := by decide +kernel
theorem dX1_stands_54 : decode cX1_stands 54 = .ok (.iadd, 1) := by decide +kernel
theorem dX1_stands_55 : decode cX1_stands 55 = .ok (.iaload, 1) := by decide +kernel
theorem dX1_stands_56 : decode cX1_stands 56 = .ok (.aload_n 1, 1) := by decide +kernel
theorem dX1_stands_57 : decode cX1_stands 57 = .ok (.iload_n 2, 1) := by decide +kernel
theorem dX1_stands_58 : decode cX1_stands 58 = .ok (.invokevirtual 46, 3) := by decide +kernel
theorem dX1_stands_61 : decode cX1_stands 61 = .ok (.if_icmp .eq 5, 3) := by decide +kernel
theorem dX1_stands_64 : decode cX1_stands 64 = .ok (.iconst 0, 1) := by decide +kernel
theorem dX1_stands_65 : decode cX1_stands 65 = .ok (.ireturn, 1) := by decide +kernel
theorem dX1_stands_66 : decode cX1_stands 66 = .ok (.iinc 2 1, 3) := by decide +kernel
theorem dX1_stands_69 : decode cX1_stands 69 = .ok (.goto (-32), 3) := by decide +kernel
theorem dX1_stands_72 : decode cX1_stands 72 = .ok (.iconst 1, 1) := by decide +kernel
theorem dX1_stands_73 : decode cX1_stands 73 = .ok (.ireturn, 1) := by decide +kernel
theorem dX2_init_0 : decode cX2_init 0 = .ok (.aload_n 0, 1) := by decide +kernel
theorem dX2_init_1 : decode cX2_init 1 = .ok (.invokespecial 3, 3) := by decide +kernel
theorem dX2_init_4 : decode cX2_init 4 = .ok (.aload_n 0, 1) := by decide +kernel
theorem dX2_init_5 : decode cX2_init 5 = .ok (.bipush 40, 2) := by decide +kernel
theorem dX2_init_7 : decode cX2_init 7 = .ok (.newarray .int, 2) := by decide +kernel
theorem dX2_init_9 : decode cX2_init 9 = .ok (.putfield 9, 3) := by decide +kernel
theorem dX2_init_12 : decode cX2_init 12 = .ok (.aload_n 0, 1) := by decide +kernel
theorem dX2_init_13 : decode cX2_init 13 = .ok (.iconst (-1), 1) := by decide +kernel
theorem dX2_init_14 : decode cX2_init 14 = .ok (.putfield 15, 3) := by decide +kernel
theorem dX2_init_17 : decode cX2_init 17 = .ok (.aload_n 0, 1) := by decide +kernel
theorem dX2_init_18 : decode cX2_init 18 = .ok (.iconst 0, 1) := by decide +kernel
theorem dX2_init_19 : decode cX2_init 19 = .ok (.putfield 19, 3) := by decide +kernel
theorem dX2_init_22 : decode cX2_init 22 = .ok (.return_, 1) := by decide +kernel
theorem dX2_isMissing_0 : decode cX2_isMissing 0 = .ok (.aload_n 0, 1) := by decide +kernel
theorem dX2_isMissing_1 : decode cX2_isMissing 1 = .ok (.getfield 15, 3) := by decide +kernel
theorem dX2_isMissing_4 : decode cX2_isMissing 4 = .ok (.iconst (-1), 1) := by decide +kernel
theorem dX2_isMissing_5 : decode cX2_isMissing 5 = .ok (.if_icmp .ne 7, 3) := by decide +kernel
theorem dX2_isMissing_8 : decode cX2_isMissing 8 = .ok (.iconst 1, 1) := by decide +kernel
theorem dX2_isMissing_9 : decode cX2_isMissing 9 = .ok (.goto 4, 3) := by decide +kernel
theorem dX2_isMissing_12 : decode cX2_isMissing 12 = .ok (.iconst 0, 1) := by decide +kernel
theorem dX2_isMissing_13 : decode cX2_isMissing 13 = .ok (.ireturn, 1) := by decide +kernel
theorem dX2_becomes_0 : decode cX2_becomes 0 = .ok (.aload_n 0, 1) := by decide +kernel
theorem dX2_becomes_1 : decode cX2_becomes 1 = .ok (.iload_n 1, 1) := by decide +kernel
theorem dX2_becomes_2 : decode cX2_becomes 2 = .ok (.putfield 15, 3) := by decide +kernel
theorem dX2_becomes_5 : decode cX2_becomes 5 = .ok (.aload_n 0, 1) := by decide +kernel
theorem dX2_becomes_6 : decode cX2_becomes 6 = .ok (.iload_n 2, 1) := by decide +kernel
theorem dX2_becomes_7 : decode cX2_becomes 7 = .ok (.iconst 0, 1) := by decide +kernel
theorem dX2_becomes_8 : decode cX2_becomes 8 = .ok (.bipush 40, 2) := by decide +kernel
theorem dX2_becomes_10 : decode cX2_becomes 10 = .ok (.invokestatic 22, 3) := by decide +kernel
theorem dX2_becomes_13 : decode cX2_becomes 13 = .ok (.putfield 19, 3) := by decide +kernel
theorem dX2_becomes_16 : decode cX2_becomes 16 = .ok (.iconst 0, 1) := by decide +kernel
theorem dX2_becomes_17 : decode cX2_becomes 17 = .ok (.istore_n 3, 1) := by decide +kernel
theorem dX2_becomes_18 : decode cX2_becomes 18 = .ok (.iload_n 3, 1) := by decide +kernel
theorem dX2_becomes_19 : decode cX2_becomes 19 = .ok (.bipush 40, 2) := by decide +kernel
theorem dX2_becomes_21 : decode cX2_becomes 21 = .ok (.if_icmp .ge 16, 3) := by decide +kernel
theorem dX2_becomes_24 : decode cX2_becomes 24 = .ok (.aload_n 0, 1) := by decide +kernel
theorem dX2_becomes_25 : decode cX2_becomes 25 = .ok (.getfield 9, 3) := by decide +kernel
theorem dX2_becomes_28 : decode cX2_becomes 28 = .ok (.iload_n 3, 1) := by decide +kernel
theorem dX2_becomes_29 : decode cX2_becomes 29 = .ok (.iconst 0, 1) := by decide +kernel
theorem dX2_becomes_30 : decode cX2_becomes 30 = .ok (.iastore, 1) := by decide +kernel
theorem dX2_becomes_31 : decode cX2_becomes 31 = .ok (.iinc 3 1, 3) := by decide +kernel
theorem dX2_becomes_34 : decode cX2_becomes 34 = .ok (.goto (-16), 3) := by decide +kernel
theorem dX2_becomes_37 : decode cX2_becomes 37 = .ok (.return_, 1) := by decide +kernel
theorem dX2_holds_0 : decode cX2_holds 0 = .ok (.iload_n 1, 1) := by decide +kernel
theorem dX2_holds_1 : decode cX2_holds 1 = .ok (.ifCond .lt 29, 3) := by decide +kernel
theorem dX2_holds_4 : decode cX2_holds 4 = .ok (.iload_n 2, 1) := by decide +kernel
theorem dX2_holds_5 : decode cX2_holds 5 = .ok (.ifCond .lt 25, 3) := by decide +kernel
theorem dX2_holds_8 : decode cX2_holds 8 = .ok (.iload_n 2, 1) := by decide +kernel
theorem dX2_holds_9 : decode cX2_holds 9 = .ok (.aload_n 0, 1) := by decide +kernel
theorem dX2_holds_10 : decode cX2_holds 10 = .ok (.getfield 19, 3) := by decide +kernel
theorem dX2_holds_13 : decode cX2_holds 13 = .ok (.if_icmp .gt 17, 3) := by decide +kernel
theorem dX2_holds_16 : decode cX2_holds 16 = .ok (.iload_n 1, 1) := by decide +kernel
theorem dX2_holds_17 : decode cX2_holds 17 = .ok (.aload_n 0, 1) := by decide +kernel
theorem dX2_holds_18 : decode cX2_holds 18 = .ok (.getfield 19, 3) := by decide +kernel
theorem dX2_holds_21 : decode cX2_holds 21 = .ok (.iload_n 2, 1) := by decide +kernel
theorem dX2_holds_22 : decode cX2_holds 22 = .ok (.isub, 1) := by decide +kernel
theorem dX2_holds_23 : decode cX2_holds 23 = .ok (.if_icmp .gt 7, 3) := by decide +kernel
theorem dX2_holds_26 : decode cX2_holds 26 = .ok (.iconst 1, 1) := by decide +kernel
theorem dX2_holds_27 : decode cX2_holds 27 = .ok (.goto 4, 3) := by decide +kernel
theorem dX2_holds_30 : decode cX2_holds 30 = .ok (.iconst 0, 1) := by decide +kernel
theorem dX2_holds_31 : decode cX2_holds 31 = .ok (.ireturn, 1) := by decide +kernel
theorem dX2_item_0 : decode cX2_item 0 = .ok (.iload_n 1, 1) := by decide +kernel
theorem dX2_item_1 : decode cX2_item 1 = .ok (.ifCond .lt 26, 3) := by decide +kernel
theorem dX2_item_4 : decode cX2_item 4 = .ok (.iload_n 1, 1) := by decide +kernel
theorem dX2_item_5 : decode cX2_item 5 = .ok (.aload_n 0, 1) := by decide +kernel
theorem dX2_item_6 : decode cX2_item 6 = .ok (.getfield 19, 3) := by decide +kernel
theorem dX2_item_9 : decode cX2_item 9 = .ok (.if_icmp .ge 18, 3) := by decide +kernel
theorem dX2_item_12 : decode cX2_item 12 = .ok (.iload_n 1, 1) := by decide +kernel
theorem dX2_item_13 : decode cX2_item 13 = .ok (.bipush 40, 2) := by decide +kernel
theorem dX2_item_15 : decode cX2_item 15 = .ok (.if_icmp .ge 12, 3) := by decide +kernel
theorem dX2_item_18 : decode cX2_item 18 = .ok (.aload_n 0, 1) := by decide +kernel
theorem dX2_item_19 : decode cX2_item 19 = .ok (.getfield 9, 3) := by decide +kernel
theorem dX2_item_22 : decode cX2_item 22 = .ok (.iload_n 1, 1) := by decide +kernel
theorem dX2_item_23 : decode cX2_item 23 = .ok (.iaload, 1) := by decide +kernel
theorem dX2_item_24 : decode cX2_item 24 = .ok (.goto 4, 3) := by decide +kernel
theorem dX2_item_27 : decode cX2_item 27 = .ok (.iconst 0, 1) := by decide +kernel
theorem dX2_item_28 : decode cX2_item 28 = .ok (.ireturn, 1) := by decide +kernel
theorem dX2_put_0 : decode cX2_put 0 = .ok (.iload_n 1, 1) := by decide +kernel
theorem dX2_put_1 : decode cX2_put 1 = .ok (.ifCond .lt 49, 3) := by decide +kernel
theorem dX2_put_4 : decode cX2_put 4 = .ok (.iload_n 1, 1) := by decide +kernel
theorem dX2_put_5 : decode cX2_put 5 = .ok (.aload_n 0, 1) := by decide +kernel
theorem dX2_put_6 : decode cX2_put 6 = .ok (.getfield 19, 3) := by decide +kernel
theorem dX2_put_9 : decode cX2_put 9 = .ok (.if_icmp .ge 41, 3) := by decide +kernel
theorem dX2_put_12 : decode cX2_put 12 = .ok (.iload_n 1, 1) := by decide +kernel
theorem dX2_put_13 : decode cX2_put 13 = .ok (.bipush 40, 2) := by decide +kernel
theorem dX2_put_15 : decode cX2_put 15 = .ok (.if_icmp .ge 35, 3) := by decide +kernel
theorem dX2_put_18 : decode cX2_put 18 = .ok (.aload_n 0, 1) := by decide +kernel
theorem dX2_put_19 : decode cX2_put 19 = .ok (.getfield 9, 3) := by decide +kernel
theorem dX2_put_22 : decode cX2_put 22 = .ok (.iload_n 1, 1) := by decide +kernel
theorem dX2_put_23 : decode cX2_put 23 = .ok (.aload_n 0, 1) := by decide +kernel
theorem dX2_put_24 : decode cX2_put 24 = .ok (.getfield 15, 3) := by decide +kernel
theorem dX2_put_27 : decode cX2_put 27 = .ok (.ifCond .ne 8, 3) := by decide +kernel
theorem dX2_put_30 : decode cX2_put 30 = .ok (.iload_n 2, 1) := by decide +kernel
theorem dX2_put_31 : decode cX2_put 31 = .ok (.i2b, 1) := by decide +kernel
theorem dX2_put_32 : decode cX2_put 32 = .ok (.goto 17, 3) := by decide +kernel
theorem dX2_put_35 : decode cX2_put 35 = .ok (.aload_n 0, 1) := by decide +kernel
theorem dX2_put_36 : decode cX2_put 36 = .ok (.getfield 15, 3) := by decide +kernel
theorem dX2_put_39 : decode cX2_put 39 = .ok (.iconst 1, 1) := by decide +kernel
theorem dX2_put_40 : decode cX2_put 40 = .ok (.if_icmp .ne 8, 3) := by decide +kernel
theorem dX2_put_43 : decode cX2_put 43 = .ok (.iload_n 2, 1) := by decide +kernel
theorem dX2_put_44 : decode cX2_put 44 = .ok (.i2s, 1) := by decide +kernel
theorem dX2_put_45 : decode cX2_put 45 = .ok (.goto 4, 3) := by decide +kernel
theorem dX2_put_48 : decode cX2_put 48 = .ok (.iload_n 2, 1) := by decide +kernel
theorem dX2_put_49 : decode cX2_put 49 = .ok (.iastore, 1) := by decide +kernel
theorem dX2_put_50 : decode cX2_put 50 = .ok (.return_, 1) := by decide +kernel
theorem dX3_init_0 : decode cX3_init 0 = .ok (.aload_n 0, 1) := by decide +kernel
theorem dX3_init_1 : decode cX3_init 1 = .ok (.invokespecial 1, 3) := by decide +kernel
theorem dX3_init_4 : decode cX3_init 4 = .ok (.aload_n 0, 1) := by decide +kernel
theorem dX3_init_5 : decode cX3_init 5 = .ok (.aload_n 1, 1) := by decide +kernel
theorem dX3_init_6 : decode cX3_init 6 = .ok (.putfield 7, 3) := by decide +kernel
theorem dX3_init_9 : decode cX3_init 9 = .ok (.aload_n 0, 1) := by decide +kernel
theorem dX3_init_10 : decode cX3_init 10 = .ok (.aload_n 2, 1) := by decide +kernel
theorem dX3_init_11 : decode cX3_init 11 = .ok (.putfield 13, 3) := by decide +kernel
theorem dX3_init_14 : decode cX3_init 14 = .ok (.return_, 1) := by decide +kernel
theorem dX3_codeAt_0 : decode cX3_codeAt 0 = .ok (.iload_n 1, 1) := by decide +kernel
theorem dX3_codeAt_1 : decode cX3_codeAt 1 = .ok (.ifCond .lt 21, 3) := by decide +kernel
theorem dX3_codeAt_4 : decode cX3_codeAt 4 = .ok (.iload_n 1, 1) := by decide +kernel
theorem dX3_codeAt_5 : decode cX3_codeAt 5 = .ok (.aload_n 0, 1) := by decide +kernel
theorem dX3_codeAt_6 : decode cX3_codeAt 6 = .ok (.getfield 7, 3) := by decide +kernel
theorem dX3_codeAt_9 : decode cX3_codeAt 9 = .ok (.arraylength, 1) := by decide +kernel
theorem dX3_codeAt_10 : decode cX3_codeAt 10 = .ok (.if_icmp .ge 12, 3) := by decide +kernel
theorem dX3_codeAt_13 : decode cX3_codeAt 13 = .ok (.aload_n 0, 1) := by decide +kernel
theorem dX3_codeAt_14 : decode cX3_codeAt 14 = .ok (.getfield 7, 3) := by decide +kernel
theorem dX3_codeAt_17 : decode cX3_codeAt 17 = .ok (.iload_n 1, 1) := by decide +kernel
theorem dX3_codeAt_18 : decode cX3_codeAt 18 = .ok (.iaload, 1) := by decide +kernel
theorem dX3_codeAt_19 : decode cX3_codeAt 19 = .ok (.goto 4, 3) := by decide +kernel
theorem dX3_codeAt_22 : decode cX3_codeAt 22 = .ok (.iconst 0, 1) := by decide +kernel
theorem dX3_codeAt_23 : decode cX3_codeAt 23 = .ok (.ireturn, 1) := by decide +kernel
theorem dX3_endOf_0 : decode cX3_endOf 0 = .ok (.iload_n 1, 1) := by decide +kernel
theorem dX3_endOf_1 : decode cX3_endOf 1 = .ok (.ifCond .lt 21, 3) := by decide +kernel
theorem dX3_endOf_4 : decode cX3_endOf 4 = .ok (.iload_n 1, 1) := by decide +kernel
theorem dX3_endOf_5 : decode cX3_endOf 5 = .ok (.aload_n 0, 1) := by decide +kernel
theorem dX3_endOf_6 : decode cX3_endOf 6 = .ok (.getfield 13, 3) := by decide +kernel
theorem dX3_endOf_9 : decode cX3_endOf 9 = .ok (.arraylength, 1) := by decide +kernel
theorem dX3_endOf_10 : decode cX3_endOf 10 = .ok (.if_icmp .ge 12, 3) := by decide +kernel
theorem dX3_endOf_13 : decode cX3_endOf 13 = .ok (.aload_n 0, 1) := by decide +kernel
theorem dX3_endOf_14 : decode cX3_endOf 14 = .ok (.getfield 13, 3) := by decide +kernel
theorem dX3_endOf_17 : decode cX3_endOf 17 = .ok (.iload_n 1, 1) := by decide +kernel
theorem dX3_endOf_18 : decode cX3_endOf 18 = .ok (.iaload, 1) := by decide +kernel
theorem dX3_endOf_19 : decode cX3_endOf 19 = .ok (.goto 4, 3) := by decide +kernel
theorem dX3_endOf_22 : decode cX3_endOf 22 = .ok (.iconst 0, 1) := by decide +kernel
theorem dX3_endOf_23 : decode cX3_endOf 23 = .ok (.ireturn, 1) := by decide +kernel
theorem dX4_init_0 : decode cX4_init 0 = .ok (.aload_n 0, 1) := by decide +kernel
theorem dX4_init_1 : decode cX4_init 1 = .ok (.invokespecial 3, 3) := by decide +kernel
theorem dX4_init_4 : decode cX4_init 4 = .ok (.aload_n 0, 1) := by decide +kernel
theorem dX4_init_5 : decode cX4_init 5 = .ok (.bipush 6, 2) := by decide +kernel
theorem dX4_init_7 : decode cX4_init 7 = .ok (.anewarray 9, 3) := by decide +kernel
theorem dX4_init_10 : decode cX4_init 10 = .ok (.putfield 11, 3) := by decide +kernel
theorem dX4_init_13 : decode cX4_init 13 = .ok (.aload_n 0, 1) := by decide +kernel
theorem dX4_init_14 : decode cX4_init 14 = .ok (.bipush 6, 2) := by decide +kernel
theorem dX4_init_16 : decode cX4_init 16 = .ok (.newarray .int, 2) := by decide +kernel
theorem dX4_init_18 : decode cX4_init 18 = .ok (.putfield 17, 3) := by decide +kernel
theorem dX4_init_21 : decode cX4_init 21 = .ok (.aload_n 0, 1) := by decide +kernel
theorem dX4_init_22 : decode cX4_init 22 = .ok (.bipush 64, 2) := by decide +kernel
theorem dX4_init_24 : decode cX4_init 24 = .ok (.newarray .int, 2) := by decide +kernel
theorem dX4_init_26 : decode cX4_init 26 = .ok (.putfield 21, 3) := by decide +kernel
theorem dX4_init_29 : decode cX4_init 29 = .ok (.aload_n 0, 1) := by decide +kernel
theorem dX4_init_30 : decode cX4_init 30 = .ok (.iconst 0, 1) := by decide +kernel
theorem dX4_init_31 : decode cX4_init 31 = .ok (.putfield 24, 3) := by decide +kernel
theorem dX4_init_34 : decode cX4_init 34 = .ok (.return_, 1) := by decide +kernel
theorem dX4_add_0 : decode cX4_add 0 = .ok (.aload_n 1, 1) := by decide +kernel
theorem dX4_add_1 : decode cX4_add 1 = .ok (.ifnull 19, 3) := by decide +kernel
theorem dX4_add_4 : decode cX4_add 4 = .ok (.aload_n 0, 1) := by decide +kernel
theorem dX4_add_5 : decode cX4_add 5 = .ok (.getfield 24, 3) := by decide +kernel
theorem dX4_add_8 : decode cX4_add 8 = .ok (.ifCond .lt 12, 3) := by decide +kernel
theorem dX4_add_11 : decode cX4_add 11 = .ok (.aload_n 0, 1) := by decide +kernel
theorem dX4_add_12 : decode cX4_add 12 = .ok (.getfield 24, 3) := by decide +kernel
theorem dX4_add_15 : decode cX4_add 15 = .ok (.bipush 6, 2) := by decide +kernel
theorem dX4_add_17 : decode cX4_add 17 = .ok (.if_icmp .lt 5, 3) := by decide +kernel
theorem dX4_add_20 : decode cX4_add 20 = .ok (.iconst (-1), 1) := by decide +kernel
theorem dX4_add_21 : decode cX4_add 21 = .ok (.ireturn, 1) := by decide +kernel
theorem dX4_add_22 : decode cX4_add 22 = .ok (.aload_n 0, 1) := by decide +kernel
theorem dX4_add_23 : decode cX4_add 23 = .ok (.getfield 11, 3) := by decide +kernel
theorem dX4_add_26 : decode cX4_add 26 = .ok (.aload_n 0, 1) := by decide +kernel
theorem dX4_add_27 : decode cX4_add 27 = .ok (.getfield 24, 3) := by decide +kernel
theorem dX4_add_30 : decode cX4_add 30 = .ok (.aload_n 1, 1) := by decide +kernel
theorem dX4_add_31 : decode cX4_add 31 = .ok (.aastore, 1) := by decide +kernel
theorem dX4_add_32 : decode cX4_add 32 = .ok (.aload_n 0, 1) := by decide +kernel
theorem dX4_add_33 : decode cX4_add 33 = .ok (.dup, 1) := by decide +kernel
theorem dX4_add_34 : decode cX4_add 34 = .ok (.getfield 24, 3) := by decide +kernel
theorem dX4_add_37 : decode cX4_add 37 = .ok (.iconst 1, 1) := by decide +kernel
theorem dX4_add_38 : decode cX4_add 38 = .ok (.iadd, 1) := by decide +kernel
theorem dX4_add_39 : decode cX4_add 39 = .ok (.putfield 24, 3) := by decide +kernel
theorem dX4_add_42 : decode cX4_add 42 = .ok (.aload_n 0, 1) := by decide +kernel
theorem dX4_add_43 : decode cX4_add 43 = .ok (.getfield 24, 3) := by decide +kernel
theorem dX4_add_46 : decode cX4_add 46 = .ok (.iconst 1, 1) := by decide +kernel
theorem dX4_add_47 : decode cX4_add 47 = .ok (.isub, 1) := by decide +kernel
theorem dX4_add_48 : decode cX4_add 48 = .ok (.ireturn, 1) := by decide +kernel
theorem dX4_valueOf_0 : decode cX4_valueOf 0 = .ok (.iload_n 1, 1) := by decide +kernel
theorem dX4_valueOf_1 : decode cX4_valueOf 1 = .ok (.ifCond .lt 18, 3) := by decide +kernel
theorem dX4_valueOf_4 : decode cX4_valueOf 4 = .ok (.iload_n 1, 1) := by decide +kernel
theorem dX4_valueOf_5 : decode cX4_valueOf 5 = .ok (.bipush 6, 2) := by decide +kernel
theorem dX4_valueOf_7 : decode cX4_valueOf 7 = .ok (.if_icmp .ge 12, 3) := by decide +kernel
theorem dX4_valueOf_10 : decode cX4_valueOf 10 = .ok (.aload_n 0, 1) := by decide +kernel
theorem dX4_valueOf_11 : decode cX4_valueOf 11 = .ok (.getfield 11, 3) := by decide +kernel
theorem dX4_valueOf_14 : decode cX4_valueOf 14 = .ok (.iload_n 1, 1) := by decide +kernel
theorem dX4_valueOf_15 : decode cX4_valueOf 15 = .ok (.aaload, 1) := by decide +kernel
theorem dX4_valueOf_16 : decode cX4_valueOf 16 = .ok (.goto 4, 3) := by decide +kernel
theorem dX4_valueOf_19 : decode cX4_valueOf 19 = .ok (.aconst_null, 1) := by decide +kernel
theorem dX4_valueOf_20 : decode cX4_valueOf 20 = .ok (.astore_n 3, 1) := by decide +kernel
theorem dX4_valueOf_21 : decode cX4_valueOf 21 = .ok (.aload_n 3, 1) := by decide +kernel
theorem dX4_valueOf_22 : decode cX4_valueOf 22 = .ok (.ifnonnull 5, 3) := by decide +kernel
theorem dX4_valueOf_25 : decode cX4_valueOf 25 = .ok (.iconst 0, 1) := by decide +kernel
theorem dX4_valueOf_26 : decode cX4_valueOf 26 = .ok (.ireturn, 1) := by decide +kernel
theorem dX4_valueOf_27 : decode cX4_valueOf 27 = .ok (.aload_n 3, 1) := by decide +kernel
theorem dX4_valueOf_28 : decode cX4_valueOf 28 = .ok (.iload_n 2, 1) := by decide +kernel
theorem dX4_valueOf_29 : decode cX4_valueOf 29 = .ok (.invokevirtual 28, 3) := by decide +kernel
theorem dX4_valueOf_32 : decode cX4_valueOf 32 = .ok (.istore 4, 2) := by decide +kernel
theorem dX4_valueOf_34 : decode cX4_valueOf 34 = .ok (.iconst 0, 1) := by decide +kernel
theorem dX4_valueOf_35 : decode cX4_valueOf 35 = .ok (.istore 5, 2) := by decide +kernel
theorem dX4_valueOf_37 : decode cX4_valueOf 37 = .ok (.aload_n 3, 1) := by decide +kernel
theorem dX4_valueOf_38 : decode cX4_valueOf 38 = .ok (.iload_n 2, 1) := by decide +kernel
theorem dX4_valueOf_39 : decode cX4_valueOf 39 = .ok (.iconst 1, 1) := by decide +kernel
theorem dX4_valueOf_40 : decode cX4_valueOf 40 = .ok (.isub, 1) := by decide +kernel
theorem dX4_valueOf_41 : decode cX4_valueOf 41 = .ok (.invokevirtual 28, 3) := by decide +kernel
theorem dX4_valueOf_44 : decode cX4_valueOf 44 = .ok (.istore 6, 2) := by decide +kernel
theorem dX4_valueOf_46 : decode cX4_valueOf 46 = .ok (.iload 6, 2) := by decide +kernel
theorem dX4_valueOf_48 : decode cX4_valueOf 48 = .ok (.iload 4, 2) := by decide +kernel
theorem dX4_valueOf_50 : decode cX4_valueOf 50 = .ok (.if_icmp .ge 177, 3) := by decide +kernel
theorem dX4_valueOf_53 : decode cX4_valueOf 53 = .ok (.aload_n 3, 1) := by decide +kernel
theorem dX4_valueOf_54 : decode cX4_valueOf 54 = .ok (.iload 6, 2) := by decide +kernel
theorem dX4_valueOf_56 : decode cX4_valueOf 56 = .ok (.invokevirtual 32, 3) := by decide +kernel
theorem dX4_valueOf_59 : decode cX4_valueOf 59 = .ok (.istore 7, 2) := by decide +kernel
theorem dX4_valueOf_61 : decode cX4_valueOf 61 = .ok (.iload 7, 2) := by decide +kernel
theorem dX4_valueOf_63 : decode cX4_valueOf 63 = .ok (.bipush (-6), 2) := by decide +kernel
theorem dX4_valueOf_65 : decode cX4_valueOf 65 = .ok (.if_icmp .lt 42, 3) := by decide +kernel
theorem dX4_valueOf_68 : decode cX4_valueOf 68 = .ok (.iload 5, 2) := by decide +kernel
theorem dX4_valueOf_70 : decode cX4_valueOf 70 = .ok (.bipush 64, 2) := by decide +kernel
theorem dX4_valueOf_72 : decode cX4_valueOf 72 = .ok (.if_icmp .ge 35, 3) := by decide +kernel
theorem dX4_valueOf_75 : decode cX4_valueOf 75 = .ok (.aload_n 0, 1) := by decide +kernel
theorem dX4_valueOf_76 : decode cX4_valueOf 76 = .ok (.getfield 21, 3) := by decide +kernel
theorem dX4_valueOf_79 : decode cX4_valueOf 79 = .ok (.iload 5, 2) := by decide +kernel
theorem dX4_valueOf_81 : decode cX4_valueOf 81 = .ok (.iload 7, 2) := by decide +kernel
theorem dX4_valueOf_83 : decode cX4_valueOf 83 = .ok (.ifCond .lt 8, 3) := by decide +kernel
theorem dX4_valueOf_86 : decode cX4_valueOf 86 = .ok (.iload 7, 2) := by decide +kernel
theorem dX4_valueOf_88 : decode cX4_valueOf 88 = .ok (.goto 12, 3) := by decide +kernel
theorem dX4_valueOf_91 : decode cX4_valueOf 91 = .ok (.aload_n 0, 1) := by decide +kernel
theorem dX4_valueOf_92 : decode cX4_valueOf 92 = .ok (.getfield 17, 3) := by decide +kernel
theorem dX4_valueOf_95 : decode cX4_valueOf 95 = .ok (.iconst (-1), 1) := by decide +kernel
theorem dX4_valueOf_96 : decode cX4_valueOf 96 = .ok (.iload 7, 2) := by decide +kernel
theorem dX4_valueOf_98 : decode cX4_valueOf 98 = .ok (.isub, 1) := by decide +kernel
theorem dX4_valueOf_99 : decode cX4_valueOf 99 = .ok (.iaload, 1) := by decide +kernel
theorem dX4_valueOf_100 : decode cX4_valueOf 100 = .ok (.iastore, 1) := by decide +kernel
theorem dX4_valueOf_101 : decode cX4_valueOf 101 = .ok (.iinc 5 1, 3) := by decide +kernel
theorem dX4_valueOf_104 : decode cX4_valueOf 104 = .ok (.goto 117, 3) := by decide +kernel
theorem dX4_valueOf_107 : decode cX4_valueOf 107 = .ok (.iload 7, 2) := by decide +kernel
theorem dX4_valueOf_109 : decode cX4_valueOf 109 = .ok (.bipush (-14), 2) := by decide +kernel
theorem dX4_valueOf_111 : decode cX4_valueOf 111 = .ok (.if_icmp .ne 30, 3) := by decide +kernel
theorem dX4_valueOf_114 : decode cX4_valueOf 114 = .ok (.iload 5, 2) := by decide +kernel
theorem dX4_valueOf_116 : decode cX4_valueOf 116 = .ok (.ifCond .le 25, 3) := by decide +kernel
theorem dX4_valueOf_119 : decode cX4_valueOf 119 = .ok (.aload_n 0, 1) := by decide +kernel
theorem dX4_valueOf_120 : decode cX4_valueOf 120 = .ok (.getfield 21, 3) := by decide +kernel
theorem dX4_valueOf_123 : decode cX4_valueOf 123 = .ok (.iload 5, 2) := by decide +kernel
theorem dX4_valueOf_125 : decode cX4_valueOf 125 = .ok (.iconst 1, 1) := by decide +kernel
theorem dX4_valueOf_126 : decode cX4_valueOf 126 = .ok (.isub, 1) := by decide +kernel
theorem dX4_valueOf_127 : decode cX4_valueOf 127 = .ok (.aload_n 0, 1) := by decide +kernel
theorem dX4_valueOf_128 : decode cX4_valueOf 128 = .ok (.getfield 21, 3) := by decide +kernel
theorem dX4_valueOf_131 : decode cX4_valueOf 131 = .ok (.iload 5, 2) := by decide +kernel
theorem dX4_valueOf_133 : decode cX4_valueOf 133 = .ok (.iconst 1, 1) := by decide +kernel
theorem dX4_valueOf_134 : decode cX4_valueOf 134 = .ok (.isub, 1) := by decide +kernel
theorem dX4_valueOf_135 : decode cX4_valueOf 135 = .ok (.iaload, 1) := by decide +kernel
theorem dX4_valueOf_136 : decode cX4_valueOf 136 = .ok (.ineg, 1) := by decide +kernel
theorem dX4_valueOf_137 : decode cX4_valueOf 137 = .ok (.iastore, 1) := by decide +kernel
theorem dX4_valueOf_138 : decode cX4_valueOf 138 = .ok (.goto 83, 3) := by decide +kernel
theorem dX4_valueOf_141 : decode cX4_valueOf 141 = .ok (.iload 7, 2) := by decide +kernel
theorem dX4_valueOf_143 : decode cX4_valueOf 143 = .ok (.bipush (-19), 2) := by decide +kernel
theorem dX4_valueOf_145 : decode cX4_valueOf 145 = .ok (.if_icmp .ne 37, 3) := by decide +kernel
theorem dX4_valueOf_148 : decode cX4_valueOf 148 = .ok (.iload 5, 2) := by decide +kernel
theorem dX4_valueOf_150 : decode cX4_valueOf 150 = .ok (.ifCond .le 32, 3) := by decide +kernel
theorem dX4_valueOf_153 : decode cX4_valueOf 153 = .ok (.aload_n 0, 1) := by decide +kernel
theorem dX4_valueOf_154 : decode cX4_valueOf 154 = .ok (.getfield 21, 3) := by decide +kernel
theorem dX4_valueOf_157 : decode cX4_valueOf 157 = .ok (.iload 5, 2) := by decide +kernel
theorem dX4_valueOf_159 : decode cX4_valueOf 159 = .ok (.iconst 1, 1) := by decide +kernel
theorem dX4_valueOf_160 : decode cX4_valueOf 160 = .ok (.isub, 1) := by decide +kernel
theorem dX4_valueOf_161 : decode cX4_valueOf 161 = .ok (.aload_n 0, 1) := by decide +kernel
theorem dX4_valueOf_162 : decode cX4_valueOf 162 = .ok (.getfield 21, 3) := by decide +kernel
theorem dX4_valueOf_165 : decode cX4_valueOf 165 = .ok (.iload 5, 2) := by decide +kernel
theorem dX4_valueOf_167 : decode cX4_valueOf 167 = .ok (.iconst 1, 1) := by decide +kernel
theorem dX4_valueOf_168 : decode cX4_valueOf 168 = .ok (.isub, 1) := by decide +kernel
theorem dX4_valueOf_169 : decode cX4_valueOf 169 = .ok (.iaload, 1) := by decide +kernel
theorem dX4_valueOf_170 : decode cX4_valueOf 170 = .ok (.ifCond .ne 7, 3) := by decide +kernel
theorem dX4_valueOf_173 : decode cX4_valueOf 173 = .ok (.iconst 1, 1) := by decide +kernel
theorem dX4_valueOf_174 : decode cX4_valueOf 174 = .ok (.goto 4, 3) := by decide +kernel
theorem dX4_valueOf_177 : decode cX4_valueOf 177 = .ok (.iconst 0, 1) := by decide +kernel
theorem dX4_valueOf_178 : decode cX4_valueOf 178 = .ok (.iastore, 1) := by decide +kernel
theorem dX4_valueOf_179 : decode cX4_valueOf 179 = .ok (.goto 42, 3) := by decide +kernel
theorem dX4_valueOf_182 : decode cX4_valueOf 182 = .ok (.iload 5, 2) := by decide +kernel
theorem dX4_valueOf_184 : decode cX4_valueOf 184 = .ok (.iconst 1, 1) := by decide +kernel
theorem dX4_valueOf_185 : decode cX4_valueOf 185 = .ok (.if_icmp .le 36, 3) := by decide +kernel
theorem dX4_valueOf_188 : decode cX4_valueOf 188 = .ok (.iinc 5 (-1), 3) := by decide +kernel
theorem dX4_valueOf_191 : decode cX4_valueOf 191 = .ok (.aload_n 0, 1) := by decide +kernel
theorem dX4_valueOf_192 : decode cX4_valueOf 192 = .ok (.getfield 21, 3) := by decide +kernel
theorem dX4_valueOf_195 : decode cX4_valueOf 195 = .ok (.iload 5, 2) := by decide +kernel
theorem dX4_valueOf_197 : decode cX4_valueOf 197 = .ok (.iconst 1, 1) := by decide +kernel
theorem dX4_valueOf_198 : decode cX4_valueOf 198 = .ok (.isub, 1) := by decide +kernel
theorem dX4_valueOf_199 : decode cX4_valueOf 199 = .ok (.iload 7, 2) := by decide +kernel
theorem dX4_valueOf_201 : decode cX4_valueOf 201 = .ok (.aload_n 0, 1) := by decide +kernel
theorem dX4_valueOf_202 : decode cX4_valueOf 202 = .ok (.getfield 21, 3) := by decide +kernel
theorem dX4_valueOf_205 : decode cX4_valueOf 205 = .ok (.iload 5, 2) := by decide +kernel
theorem dX4_valueOf_207 : decode cX4_valueOf 207 = .ok (.iconst 1, 1) := by decide +kernel
theorem dX4_valueOf_208 : decode cX4_valueOf 208 = .ok (.isub, 1) := by decide +kernel
theorem dX4_valueOf_209 : decode cX4_valueOf 209 = .ok (.iaload, 1) := by decide +kernel
theorem dX4_valueOf_210 : decode cX4_valueOf 210 = .ok (.aload_n 0, 1) := by decide +kernel
theorem dX4_valueOf_211 : decode cX4_valueOf 211 = .ok (.getfield 21, 3) := by decide +kernel
theorem dX4_valueOf_214 : decode cX4_valueOf 214 = .ok (.iload 5, 2) := by decide +kernel
theorem dX4_valueOf_216 : decode cX4_valueOf 216 = .ok (.iaload, 1) := by decide +kernel
theorem dX4_valueOf_217 : decode cX4_valueOf 217 = .ok (.invokestatic 35, 3) := by decide +kernel
theorem dX4_valueOf_220 : decode cX4_valueOf 220 = .ok (.iastore, 1) := by decide +kernel
theorem dX4_valueOf_221 : decode cX4_valueOf 221 = .ok (.iinc 6 1, 3) := by decide +kernel
theorem dX4_valueOf_224 : decode cX4_valueOf 224 = .ok (.goto (-178), 3) := by decide +kernel
theorem dX4_valueOf_227 : decode cX4_valueOf 227 = .ok (.iload 5, 2) := by decide +kernel
theorem dX4_valueOf_229 : decode cX4_valueOf 229 = .ok (.ifCond .le 12, 3) := by decide +kernel
theorem dX4_valueOf_232 : decode cX4_valueOf 232 = .ok (.aload_n 0, 1) := by decide +kernel
theorem dX4_valueOf_233 : decode cX4_valueOf 233 = .ok (.getfield 21, 3) := by decide +kernel
theorem dX4_valueOf_236 : decode cX4_valueOf 236 = .ok (.iconst 0, 1) := by decide +kernel
theorem dX4_valueOf_237 : decode cX4_valueOf 237 = .ok (.iaload, 1) := by decide +kernel
theorem dX4_valueOf_238 : decode cX4_valueOf 238 = .ok (.goto 4, 3) := by decide +kernel
theorem dX4_valueOf_241 : decode cX4_valueOf 241 = .ok (.iconst 0, 1) := by decide +kernel
theorem dX4_valueOf_242 : decode cX4_valueOf 242 = .ok (.ireturn, 1) := by decide +kernel
theorem dX4_joined_0 : decode cX4_joined 0 = .ok (.iload_n 0, 1) := by decide +kernel
theorem dX4_joined_1 : decode cX4_joined 1 = .ok (.tableswitch 109 (-18) (-11) #[95, 81, 70, 59, 109, 55, 51, 47], 47) := by decide +kernel
theorem dX4_joined_48 : decode cX4_joined 48 = .ok (.iload_n 1, 1) := by decide +kernel
theorem dX4_joined_49 : decode cX4_joined 49 = .ok (.iload_n 2, 1) := by decide +kernel
theorem dX4_joined_50 : decode cX4_joined 50 = .ok (.iadd, 1) := by decide +kernel
theorem dX4_joined_51 : decode cX4_joined 51 = .ok (.ireturn, 1) := by decide +kernel
theorem dX4_joined_52 : decode cX4_joined 52 = .ok (.iload_n 1, 1) := by decide +kernel
theorem dX4_joined_53 : decode cX4_joined 53 = .ok (.iload_n 2, 1) := by decide +kernel
theorem dX4_joined_54 : decode cX4_joined 54 = .ok (.isub, 1) := by decide +kernel
theorem dX4_joined_55 : decode cX4_joined 55 = .ok (.ireturn, 1) := by decide +kernel
theorem dX4_joined_56 : decode cX4_joined 56 = .ok (.iload_n 1, 1) := by decide +kernel
theorem dX4_joined_57 : decode cX4_joined 57 = .ok (.iload_n 2, 1) := by decide +kernel
theorem dX4_joined_58 : decode cX4_joined 58 = .ok (.imul, 1) := by decide +kernel
theorem dX4_joined_59 : decode cX4_joined 59 = .ok (.ireturn, 1) := by decide +kernel
theorem dX4_joined_60 : decode cX4_joined 60 = .ok (.iload_n 1, 1) := by decide +kernel
theorem dX4_joined_61 : decode cX4_joined 61 = .ok (.iload_n 2, 1) := by decide +kernel
theorem dX4_joined_62 : decode cX4_joined 62 = .ok (.if_icmp .ge 7, 3) := by decide +kernel
theorem dX4_joined_65 : decode cX4_joined 65 = .ok (.iconst 1, 1) := by decide +kernel
theorem dX4_joined_66 : decode cX4_joined 66 = .ok (.goto 4, 3) := by decide +kernel
theorem dX4_joined_69 : decode cX4_joined 69 = .ok (.iconst 0, 1) := by decide +kernel
theorem dX4_joined_70 : decode cX4_joined 70 = .ok (.ireturn, 1) := by decide +kernel
theorem dX4_joined_71 : decode cX4_joined 71 = .ok (.iload_n 1, 1) := by decide +kernel
theorem dX4_joined_72 : decode cX4_joined 72 = .ok (.iload_n 2, 1) := by decide +kernel
theorem dX4_joined_73 : decode cX4_joined 73 = .ok (.if_icmp .ne 7, 3) := by decide +kernel
theorem dX4_joined_76 : decode cX4_joined 76 = .ok (.iconst 1, 1) := by decide +kernel
theorem dX4_joined_77 : decode cX4_joined 77 = .ok (.goto 4, 3) := by decide +kernel
theorem dX4_joined_80 : decode cX4_joined 80 = .ok (.iconst 0, 1) := by decide +kernel
theorem dX4_joined_81 : decode cX4_joined 81 = .ok (.ireturn, 1) := by decide +kernel
theorem dX4_joined_82 : decode cX4_joined 82 = .ok (.iload_n 1, 1) := by decide +kernel
theorem dX4_joined_83 : decode cX4_joined 83 = .ok (.ifCond .eq 11, 3) := by decide +kernel
theorem dX4_joined_86 : decode cX4_joined 86 = .ok (.iload_n 2, 1) := by decide +kernel
theorem dX4_joined_87 : decode cX4_joined 87 = .ok (.ifCond .eq 7, 3) := by decide +kernel
theorem dX4_joined_90 : decode cX4_joined 90 = .ok (.iconst 1, 1) := by decide +kernel
theorem dX4_joined_91 : decode cX4_joined 91 = .ok (.goto 4, 3) := by decide +kernel
theorem dX4_joined_94 : decode cX4_joined 94 = .ok (.iconst 0, 1) := by decide +kernel
theorem dX4_joined_95 : decode cX4_joined 95 = .ok (.ireturn, 1) := by decide +kernel
theorem dX4_joined_96 : decode cX4_joined 96 = .ok (.iload_n 1, 1) := by decide +kernel
theorem dX4_joined_97 : decode cX4_joined 97 = .ok (.ifCond .ne 7, 3) := by decide +kernel
theorem dX4_joined_100 : decode cX4_joined 100 = .ok (.iload_n 2, 1) := by decide +kernel
theorem dX4_joined_101 : decode cX4_joined 101 = .ok (.ifCond .eq 7, 3) := by decide +kernel
theorem dX4_joined_104 : decode cX4_joined 104 = .ok (.iconst 1, 1) := by decide +kernel
theorem dX4_joined_105 : decode cX4_joined 105 = .ok (.goto 4, 3) := by decide +kernel
theorem dX4_joined_108 : decode cX4_joined 108 = .ok (.iconst 0, 1) := by decide +kernel
theorem dX4_joined_109 : decode cX4_joined 109 = .ok (.ireturn, 1) := by decide +kernel
theorem dX4_joined_110 : decode cX4_joined 110 = .ok (.iconst 0, 1) := by decide +kernel
theorem dX4_joined_111 : decode cX4_joined 111 = .ok (.ireturn, 1) := by decide +kernel
theorem dX5_init_0 : decode cX5_init 0 = .ok (.aload_n 0, 1) := by decide +kernel
theorem dX5_init_1 : decode cX5_init 1 = .ok (.invokespecial 1, 3) := by decide +kernel
theorem dX5_init_4 : decode cX5_init 4 = .ok (.aload_n 0, 1) := by decide +kernel
theorem dX5_init_5 : decode cX5_init 5 = .ok (.new 7, 3) := by decide +kernel
theorem dX5_init_8 : decode cX5_init 8 = .ok (.dup, 1) := by decide +kernel
theorem dX5_init_9 : decode cX5_init 9 = .ok (.invokespecial 9, 3) := by decide +kernel
theorem dX5_init_12 : decode cX5_init 12 = .ok (.putfield 10, 3) := by decide +kernel
theorem dX5_init_15 : decode cX5_init 15 = .ok (.aload_n 0, 1) := by decide +kernel
theorem dX5_init_16 : decode cX5_init 16 = .ok (.new 16, 3) := by decide +kernel
theorem dX5_init_19 : decode cX5_init 19 = .ok (.dup, 1) := by decide +kernel
theorem dX5_init_20 : decode cX5_init 20 = .ok (.invokespecial 18, 3) := by decide +kernel
theorem dX5_init_23 : decode cX5_init 23 = .ok (.putfield 19, 3) := by decide +kernel
theorem dX5_init_26 : decode cX5_init 26 = .ok (.aload_n 0, 1) := by decide +kernel
theorem dX5_init_27 : decode cX5_init 27 = .ok (.getfield 19, 3) := by decide +kernel
theorem dX5_init_30 : decode cX5_init 30 = .ok (.ldc 23, 2) := by decide +kernel
theorem dX5_init_32 : decode cX5_init 32 = .ok (.invokevirtual 25, 3) := by decide +kernel
theorem dX5_init_35 : decode cX5_init 35 = .ok (.aload_n 0, 1) := by decide +kernel
theorem dX5_init_36 : decode cX5_init 36 = .ok (.getfield 10, 3) := by decide +kernel
theorem dX5_init_39 : decode cX5_init 39 = .ok (.aload_n 0, 1) := by decide +kernel
theorem dX5_init_40 : decode cX5_init 40 = .ok (.getfield 19, 3) := by decide +kernel
theorem dX5_init_43 : decode cX5_init 43 = .ok (.invokevirtual 29, 3) := by decide +kernel
theorem dX5_init_46 : decode cX5_init 46 = .ok (.invokevirtual 33, 3) := by decide +kernel
theorem dX5_init_49 : decode cX5_init 49 = .ok (.pop, 1) := by decide +kernel
theorem dX5_init_50 : decode cX5_init 50 = .ok (.aload_n 0, 1) := by decide +kernel
theorem dX5_init_51 : decode cX5_init 51 = .ok (.new 37, 3) := by decide +kernel
theorem dX5_init_54 : decode cX5_init 54 = .ok (.dup, 1) := by decide +kernel
theorem dX5_init_55 : decode cX5_init 55 = .ok (.aload_n 0, 1) := by decide +kernel
theorem dX5_init_56 : decode cX5_init 56 = .ok (.getfield 10, 3) := by decide +kernel
theorem dX5_init_59 : decode cX5_init 59 = .ok (.invokespecial 39, 3) := by decide +kernel
theorem dX5_init_62 : decode cX5_init 62 = .ok (.putfield 42, 3) := by decide +kernel
theorem dX5_init_65 : decode cX5_init 65 = .ok (.aload_n 0, 1) := by decide +kernel
theorem dX5_init_66 : decode cX5_init 66 = .ok (.new 37, 3) := by decide +kernel
theorem dX5_init_69 : decode cX5_init 69 = .ok (.dup, 1) := by decide +kernel
theorem dX5_init_70 : decode cX5_init 70 = .ok (.aload_n 0, 1) := by decide +kernel
theorem dX5_init_71 : decode cX5_init 71 = .ok (.getfield 10, 3) := by decide +kernel
theorem dX5_init_74 : decode cX5_init 74 = .ok (.invokespecial 39, 3) := by decide +kernel
theorem dX5_init_77 : decode cX5_init 77 = .ok (.putfield 46, 3) := by decide +kernel
theorem dX5_init_80 : decode cX5_init 80 = .ok (.aload_n 0, 1) := by decide +kernel
theorem dX5_init_81 : decode cX5_init 81 = .ok (.new 37, 3) := by decide +kernel
theorem dX5_init_84 : decode cX5_init 84 = .ok (.dup, 1) := by decide +kernel
theorem dX5_init_85 : decode cX5_init 85 = .ok (.aload_n 0, 1) := by decide +kernel
theorem dX5_init_86 : decode cX5_init 86 = .ok (.getfield 10, 3) := by decide +kernel
theorem dX5_init_89 : decode cX5_init 89 = .ok (.invokespecial 39, 3) := by decide +kernel
theorem dX5_init_92 : decode cX5_init 92 = .ok (.putfield 49, 3) := by decide +kernel
theorem dX5_init_95 : decode cX5_init 95 = .ok (.aload_n 0, 1) := by decide +kernel
theorem dX5_init_96 : decode cX5_init 96 = .ok (.iconst 5, 1) := by decide +kernel
theorem dX5_init_97 : decode cX5_init 97 = .ok (.anewarray 37, 3) := by decide +kernel
theorem dX5_init_100 : decode cX5_init 100 = .ok (.putfield 52, 3) := by decide +kernel
theorem dX5_init_103 : decode cX5_init 103 = .ok (.iconst 0, 1) := by decide +kernel
theorem dX5_init_104 : decode cX5_init 104 = .ok (.istore_n 1, 1) := by decide +kernel
theorem dX5_init_105 : decode cX5_init 105 = .ok (.iload_n 1, 1) := by decide +kernel
theorem dX5_init_106 : decode cX5_init 106 = .ok (.aload_n 0, 1) := by decide +kernel
theorem dX5_init_107 : decode cX5_init 107 = .ok (.getfield 52, 3) := by decide +kernel
theorem dX5_init_110 : decode cX5_init 110 = .ok (.arraylength, 1) := by decide +kernel
theorem dX5_init_111 : decode cX5_init 111 = .ok (.if_icmp .ge 26, 3) := by decide +kernel
theorem dX5_init_114 : decode cX5_init 114 = .ok (.aload_n 0, 1) := by decide +kernel
theorem dX5_init_115 : decode cX5_init 115 = .ok (.getfield 52, 3) := by decide +kernel
theorem dX5_init_118 : decode cX5_init 118 = .ok (.iload_n 1, 1) := by decide +kernel
theorem dX5_init_119 : decode cX5_init 119 = .ok (.new 37, 3) := by decide +kernel
theorem dX5_init_122 : decode cX5_init 122 = .ok (.dup, 1) := by decide +kernel
theorem dX5_init_123 : decode cX5_init 123 = .ok (.aload_n 0, 1) := by decide +kernel
theorem dX5_init_124 : decode cX5_init 124 = .ok (.getfield 10, 3) := by decide +kernel
theorem dX5_init_127 : decode cX5_init 127 = .ok (.invokespecial 39, 3) := by decide +kernel
theorem dX5_init_130 : decode cX5_init 130 = .ok (.aastore, 1) := by decide +kernel
theorem dX5_init_131 : decode cX5_init 131 = .ok (.iinc 1 1, 3) := by decide +kernel
theorem dX5_init_134 : decode cX5_init 134 = .ok (.goto (-29), 3) := by decide +kernel
theorem dX5_init_137 : decode cX5_init 137 = .ok (.aload_n 0, 1) := by decide +kernel
theorem dX5_init_138 : decode cX5_init 138 = .ok (.iconst 4, 1) := by decide +kernel
theorem dX5_init_139 : decode cX5_init 139 = .ok (.anewarray 56, 3) := by decide +kernel
theorem dX5_init_142 : decode cX5_init 142 = .ok (.putfield 58, 3) := by decide +kernel
theorem dX5_init_145 : decode cX5_init 145 = .ok (.iconst 0, 1) := by decide +kernel
theorem dX5_init_146 : decode cX5_init 146 = .ok (.istore_n 1, 1) := by decide +kernel
theorem dX5_init_147 : decode cX5_init 147 = .ok (.iload_n 1, 1) := by decide +kernel
theorem dX5_init_148 : decode cX5_init 148 = .ok (.aload_n 0, 1) := by decide +kernel
theorem dX5_init_149 : decode cX5_init 149 = .ok (.getfield 58, 3) := by decide +kernel
theorem dX5_init_152 : decode cX5_init 152 = .ok (.arraylength, 1) := by decide +kernel
theorem dX5_init_153 : decode cX5_init 153 = .ok (.if_icmp .ge 22, 3) := by decide +kernel
theorem dX5_init_156 : decode cX5_init 156 = .ok (.aload_n 0, 1) := by decide +kernel
theorem dX5_init_157 : decode cX5_init 157 = .ok (.getfield 58, 3) := by decide +kernel
theorem dX5_init_160 : decode cX5_init 160 = .ok (.iload_n 1, 1) := by decide +kernel
theorem dX5_init_161 : decode cX5_init 161 = .ok (.new 56, 3) := by decide +kernel
theorem dX5_init_164 : decode cX5_init 164 = .ok (.dup, 1) := by decide +kernel
theorem dX5_init_165 : decode cX5_init 165 = .ok (.invokespecial 62, 3) := by decide +kernel
theorem dX5_init_168 : decode cX5_init 168 = .ok (.aastore, 1) := by decide +kernel
theorem dX5_init_169 : decode cX5_init 169 = .ok (.iinc 1 1, 3) := by decide +kernel
theorem dX5_init_172 : decode cX5_init 172 = .ok (.goto (-25), 3) := by decide +kernel
theorem dX5_init_175 : decode cX5_init 175 = .ok (.return_, 1) := by decide +kernel
theorem dX5_set_0 : decode cX5_set 0 = .ok (.iload_n 1, 1) := by decide +kernel
theorem dX5_set_1 : decode cX5_set 1 = .ok (.tableswitch 76 0 3 #[31, 37, 44, 60], 31) := by decide +kernel
theorem dX5_set_32 : decode cX5_set 32 = .ok (.aload_n 0, 1) := by decide +kernel
theorem dX5_set_33 : decode cX5_set 33 = .ok (.iload_n 3, 1) := by decide +kernel
theorem dX5_set_34 : decode cX5_set 34 = .ok (.invokevirtual 63, 3) := by decide +kernel
theorem dX5_set_37 : decode cX5_set 37 = .ok (.ireturn, 1) := by decide +kernel
theorem dX5_set_38 : decode cX5_set 38 = .ok (.aload_n 0, 1) := by decide +kernel
theorem dX5_set_39 : decode cX5_set 39 = .ok (.iload_n 2, 1) := by decide +kernel
theorem dX5_set_40 : decode cX5_set 40 = .ok (.iload_n 3, 1) := by decide +kernel
theorem dX5_set_41 : decode cX5_set 41 = .ok (.invokevirtual 67, 3) := by decide +kernel
theorem dX5_set_44 : decode cX5_set 44 = .ok (.ireturn, 1) := by decide +kernel
theorem dX5_set_45 : decode cX5_set 45 = .ok (.aload_n 0, 1) := by decide +kernel
theorem dX5_set_46 : decode cX5_set 46 = .ok (.aload_n 0, 1) := by decide +kernel
theorem dX5_set_47 : decode cX5_set 47 = .ok (.getfield 42, 3) := by decide +kernel
theorem dX5_set_50 : decode cX5_set 50 = .ok (.getfield 71, 3) := by decide +kernel
theorem dX5_set_53 : decode cX5_set 53 = .ok (.iload_n 2, 1) := by decide +kernel
theorem dX5_set_54 : decode cX5_set 54 = .ok (.iload_n 3, 1) := by decide +kernel
theorem dX5_set_55 : decode cX5_set 55 = .ok (.bipush 9, 2) := by decide +kernel
theorem dX5_set_57 : decode cX5_set 57 = .ok (.invokevirtual 75, 3) := by decide +kernel
theorem dX5_set_60 : decode cX5_set 60 = .ok (.ireturn, 1) := by decide +kernel
theorem dX5_set_61 : decode cX5_set 61 = .ok (.aload_n 0, 1) := by decide +kernel
theorem dX5_set_62 : decode cX5_set 62 = .ok (.aload_n 0, 1) := by decide +kernel
theorem dX5_set_63 : decode cX5_set 63 = .ok (.getfield 42, 3) := by decide +kernel
theorem dX5_set_66 : decode cX5_set 66 = .ok (.getfield 79, 3) := by decide +kernel
theorem dX5_set_69 : decode cX5_set 69 = .ok (.iload_n 2, 1) := by decide +kernel
theorem dX5_set_70 : decode cX5_set 70 = .ok (.iload_n 3, 1) := by decide +kernel
theorem dX5_set_71 : decode cX5_set 71 = .ok (.bipush 99, 2) := by decide +kernel
theorem dX5_set_73 : decode cX5_set 73 = .ok (.invokevirtual 75, 3) := by decide +kernel
theorem dX5_set_76 : decode cX5_set 76 = .ok (.ireturn, 1) := by decide +kernel
theorem dX5_set_77 : decode cX5_set 77 = .ok (.sipush (-1000), 3) := by decide +kernel
theorem dX5_set_80 : decode cX5_set 80 = .ok (.ireturn, 1) := by decide +kernel
theorem dX5_setRound_0 : decode cX5_setRound 0 = .ok (.iload_n 1, 1) := by decide +kernel
theorem dX5_setRound_1 : decode cX5_setRound 1 = .ok (.iconst 0, 1) := by decide +kernel
theorem dX5_setRound_2 : decode cX5_setRound 2 = .ok (.sipush 999, 3) := by decide +kernel
theorem dX5_setRound_5 : decode cX5_setRound 5 = .ok (.invokestatic 82, 3) := by decide +kernel
theorem dX5_setRound_8 : decode cX5_setRound 8 = .ok (.ifCond .ne 7, 3) := by decide +kernel
theorem dX5_setRound_11 : decode cX5_setRound 11 = .ok (.sipush (-1000), 3) := by decide +kernel
theorem dX5_setRound_14 : decode cX5_setRound 14 = .ok (.ireturn, 1) := by decide +kernel
theorem dX5_setRound_15 : decode cX5_setRound 15 = .ok (.aload_n 0, 1) := by decide +kernel
theorem dX5_setRound_16 : decode cX5_setRound 16 = .ok (.getfield 42, 3) := by decide +kernel
theorem dX5_setRound_19 : decode cX5_setRound 19 = .ok (.getfield 86, 3) := by decide +kernel
theorem dX5_setRound_22 : decode cX5_setRound 22 = .ok (.istore_n 2, 1) := by decide +kernel
theorem dX5_setRound_23 : decode cX5_setRound 23 = .ok (.aload_n 0, 1) := by decide +kernel
theorem dX5_setRound_24 : decode cX5_setRound 24 = .ok (.getfield 42, 3) := by decide +kernel
theorem dX5_setRound_27 : decode cX5_setRound 27 = .ok (.iload_n 1, 1) := by decide +kernel
theorem dX5_setRound_28 : decode cX5_setRound 28 = .ok (.putfield 86, 3) := by decide +kernel
theorem dX5_setRound_31 : decode cX5_setRound 31 = .ok (.iload_n 2, 1) := by decide +kernel
theorem dX5_setRound_32 : decode cX5_setRound 32 = .ok (.ireturn, 1) := by decide +kernel
theorem dX5_setPlace_0 : decode cX5_setPlace 0 = .ok (.iload_n 1, 1) := by decide +kernel
theorem dX5_setPlace_1 : decode cX5_setPlace 1 = .ok (.iconst 0, 1) := by decide +kernel
theorem dX5_setPlace_2 : decode cX5_setPlace 2 = .ok (.bipush 7, 2) := by decide +kernel
theorem dX5_setPlace_4 : decode cX5_setPlace 4 = .ok (.invokestatic 82, 3) := by decide +kernel
theorem dX5_setPlace_7 : decode cX5_setPlace 7 = .ok (.ifCond .eq 19, 3) := by decide +kernel
theorem dX5_setPlace_10 : decode cX5_setPlace 10 = .ok (.iload_n 2, 1) := by decide +kernel
theorem dX5_setPlace_11 : decode cX5_setPlace 11 = .ok (.iconst (-1), 1) := by decide +kernel
theorem dX5_setPlace_12 : decode cX5_setPlace 12 = .ok (.if_icmp .eq 18, 3) := by decide +kernel
theorem dX5_setPlace_15 : decode cX5_setPlace 15 = .ok (.aload_n 0, 1) := by decide +kernel
theorem dX5_setPlace_16 : decode cX5_setPlace 16 = .ok (.getfield 42, 3) := by decide +kernel
theorem dX5_setPlace_19 : decode cX5_setPlace 19 = .ok (.iload_n 2, 1) := by decide +kernel
theorem dX5_setPlace_20 : decode cX5_setPlace 20 = .ok (.invokevirtual 90, 3) := by decide +kernel
theorem dX5_setPlace_23 : decode cX5_setPlace 23 = .ok (.ifCond .ne 7, 3) := by decide +kernel
theorem dX5_setPlace_26 : decode cX5_setPlace 26 = .ok (.sipush (-1000), 3) := by decide +kernel
theorem dX5_setPlace_29 : decode cX5_setPlace 29 = .ok (.ireturn, 1) := by decide +kernel
theorem dX5_setPlace_30 : decode cX5_setPlace 30 = .ok (.aload_n 0, 1) := by decide +kernel
theorem dX5_setPlace_31 : decode cX5_setPlace 31 = .ok (.getfield 42, 3) := by decide +kernel
theorem dX5_setPlace_34 : decode cX5_setPlace 34 = .ok (.iload_n 1, 1) := by decide +kernel
theorem dX5_setPlace_35 : decode cX5_setPlace 35 = .ok (.invokevirtual 94, 3) := by decide +kernel
theorem dX5_setPlace_38 : decode cX5_setPlace 38 = .ok (.istore_n 3, 1) := by decide +kernel
theorem dX5_setPlace_39 : decode cX5_setPlace 39 = .ok (.aload_n 0, 1) := by decide +kernel
theorem dX5_setPlace_40 : decode cX5_setPlace 40 = .ok (.getfield 42, 3) := by decide +kernel
theorem dX5_setPlace_43 : decode cX5_setPlace 43 = .ok (.iload_n 1, 1) := by decide +kernel
theorem dX5_setPlace_44 : decode cX5_setPlace 44 = .ok (.iload_n 2, 1) := by decide +kernel
theorem dX5_setPlace_45 : decode cX5_setPlace 45 = .ok (.invokevirtual 97, 3) := by decide +kernel
theorem dX5_setPlace_48 : decode cX5_setPlace 48 = .ok (.iload_n 3, 1) := by decide +kernel
theorem dX5_setPlace_49 : decode cX5_setPlace 49 = .ok (.ireturn, 1) := by decide +kernel
theorem dX5_setOf_0 : decode cX5_setOf 0 = .ok (.aload_n 0, 1) := by decide +kernel
theorem dX5_setOf_1 : decode cX5_setOf 1 = .ok (.getfield 42, 3) := by decide +kernel
theorem dX5_setOf_4 : decode cX5_setOf 4 = .ok (.iload_n 2, 1) := by decide +kernel
theorem dX5_setOf_5 : decode cX5_setOf 5 = .ok (.invokevirtual 90, 3) := by decide +kernel
theorem dX5_setOf_8 : decode cX5_setOf 8 = .ok (.ifCond .eq 19, 3) := by decide +kernel
theorem dX5_setOf_11 : decode cX5_setOf 11 = .ok (.iload_n 2, 1) := by decide +kernel
theorem dX5_setOf_12 : decode cX5_setOf 12 = .ok (.aload_n 1, 1) := by decide +kernel
theorem dX5_setOf_13 : decode cX5_setOf 13 = .ok (.arraylength, 1) := by decide +kernel
theorem dX5_setOf_14 : decode cX5_setOf 14 = .ok (.if_icmp .ge 13, 3) := by decide +kernel
theorem dX5_setOf_17 : decode cX5_setOf 17 = .ok (.iload_n 3, 1) := by decide +kernel
theorem dX5_setOf_18 : decode cX5_setOf 18 = .ok (.iconst 0, 1) := by decide +kernel
theorem dX5_setOf_19 : decode cX5_setOf 19 = .ok (.iload 4, 2) := by decide +kernel
theorem dX5_setOf_21 : decode cX5_setOf 21 = .ok (.invokestatic 82, 3) := by decide +kernel
theorem dX5_setOf_24 : decode cX5_setOf 24 = .ok (.ifCond .ne 7, 3) := by decide +kernel
theorem dX5_setOf_27 : decode cX5_setOf 27 = .ok (.sipush (-1000), 3) := by decide +kernel
theorem dX5_setOf_30 : decode cX5_setOf 30 = .ok (.ireturn, 1) := by decide +kernel
theorem dX5_setOf_31 : decode cX5_setOf 31 = .ok (.aload_n 1, 1) := by decide +kernel
theorem dX5_setOf_32 : decode cX5_setOf 32 = .ok (.iload_n 2, 1) := by decide +kernel
theorem dX5_setOf_33 : decode cX5_setOf 33 = .ok (.iaload, 1) := by decide +kernel
theorem dX5_setOf_34 : decode cX5_setOf 34 = .ok (.istore 5, 2) := by decide +kernel
theorem dX5_setOf_36 : decode cX5_setOf 36 = .ok (.aload_n 1, 1) := by decide +kernel
theorem dX5_setOf_37 : decode cX5_setOf 37 = .ok (.iload_n 2, 1) := by decide +kernel
theorem dX5_setOf_38 : decode cX5_setOf 38 = .ok (.iload_n 3, 1) := by decide +kernel
theorem dX5_setOf_39 : decode cX5_setOf 39 = .ok (.iastore, 1) := by decide +kernel
theorem dX5_setOf_40 : decode cX5_setOf 40 = .ok (.iload 5, 2) := by decide +kernel
theorem dX5_setOf_42 : decode cX5_setOf 42 = .ok (.ireturn, 1) := by decide +kernel
theorem dX5_player_0 : decode cX5_player 0 = .ok (.aload_n 0, 1) := by decide +kernel
theorem dX5_player_1 : decode cX5_player 1 = .ok (.getfield 42, 3) := by decide +kernel
theorem dX5_player_4 : decode cX5_player 4 = .ok (.iload_n 1, 1) := by decide +kernel
theorem dX5_player_5 : decode cX5_player 5 = .ok (.iload_n 2, 1) := by decide +kernel
theorem dX5_player_6 : decode cX5_player 6 = .ok (.invokevirtual 101, 3) := by decide +kernel
theorem dX5_player_9 : decode cX5_player 9 = .ok (.ireturn, 1) := by decide +kernel
theorem dX5_told_0 : decode cX5_told 0 = .ok (.iload_n 2, 1) := by decide +kernel
theorem dX5_told_1 : decode cX5_told 1 = .ok (.ifCond .ne 11, 3) := by decide +kernel
theorem dX5_told_4 : decode cX5_told 4 = .ok (.aload_n 0, 1) := by decide +kernel
theorem dX5_told_5 : decode cX5_told 5 = .ok (.getfield 42, 3) := by decide +kernel
theorem dX5_told_8 : decode cX5_told 8 = .ok (.getfield 86, 3) := by decide +kernel
theorem dX5_told_11 : decode cX5_told 11 = .ok (.ireturn, 1) := by decide +kernel
theorem dX5_told_12 : decode cX5_told 12 = .ok (.iload_n 2, 1) := by decide +kernel
theorem dX5_told_13 : decode cX5_told 13 = .ok (.iconst 1, 1) := by decide +kernel
theorem dX5_told_14 : decode cX5_told 14 = .ok (.if_icmp .ne 28, 3) := by decide +kernel
theorem dX5_told_17 : decode cX5_told 17 = .ok (.iload_n 1, 1) := by decide +kernel
theorem dX5_told_18 : decode cX5_told 18 = .ok (.iconst 0, 1) := by decide +kernel
theorem dX5_told_19 : decode cX5_told 19 = .ok (.bipush 7, 2) := by decide +kernel
theorem dX5_told_21 : decode cX5_told 21 = .ok (.invokestatic 82, 3) := by decide +kernel
theorem dX5_told_24 : decode cX5_told 24 = .ok (.ifCond .eq 14, 3) := by decide +kernel
theorem dX5_told_27 : decode cX5_told 27 = .ok (.aload_n 0, 1) := by decide +kernel
theorem dX5_told_28 : decode cX5_told 28 = .ok (.getfield 42, 3) := by decide +kernel
theorem dX5_told_31 : decode cX5_told 31 = .ok (.iload_n 1, 1) := by decide +kernel
theorem dX5_told_32 : decode cX5_told 32 = .ok (.invokevirtual 94, 3) := by decide +kernel
theorem dX5_told_35 : decode cX5_told 35 = .ok (.goto 6, 3) := by decide +kernel
theorem dX5_told_38 : decode cX5_told 38 = .ok (.sipush (-1000), 3) := by decide +kernel
theorem dX5_told_41 : decode cX5_told 41 = .ok (.ireturn, 1) := by decide +kernel
theorem dX5_told_42 : decode cX5_told 42 = .ok (.aload_n 0, 1) := by decide +kernel
theorem dX5_told_43 : decode cX5_told 43 = .ok (.getfield 42, 3) := by decide +kernel
theorem dX5_told_46 : decode cX5_told 46 = .ok (.iload_n 1, 1) := by decide +kernel
theorem dX5_told_47 : decode cX5_told 47 = .ok (.invokevirtual 90, 3) := by decide +kernel
theorem dX5_told_50 : decode cX5_told 50 = .ok (.ifCond .ne 7, 3) := by decide +kernel
theorem dX5_told_53 : decode cX5_told 53 = .ok (.sipush (-1000), 3) := by decide +kernel
theorem dX5_told_56 : decode cX5_told 56 = .ok (.ireturn, 1) := by decide +kernel
theorem dX5_told_57 : decode cX5_told 57 = .ok (.iload_n 2, 1) := by decide +kernel
theorem dX5_told_58 : decode cX5_told 58 = .ok (.tableswitch 97 2 7 #[38, 48, 58, 68, 78, 88], 38) := by decide +kernel
theorem dX5_told_96 : decode cX5_told 96 = .ok (.aload_n 0, 1) := by decide +kernel
theorem dX5_told_97 : decode cX5_told 97 = .ok (.getfield 42, 3) := by decide +kernel
theorem dX5_told_100 : decode cX5_told 100 = .ok (.getfield 71, 3) := by decide +kernel
theorem dX5_told_103 : decode cX5_told 103 = .ok (.iload_n 1, 1) := by decide +kernel
theorem dX5_told_104 : decode cX5_told 104 = .ok (.iaload, 1) := by decide +kernel
theorem dX5_told_105 : decode cX5_told 105 = .ok (.ireturn, 1) := by decide +kernel
theorem dX5_told_106 : decode cX5_told 106 = .ok (.aload_n 0, 1) := by decide +kernel
theorem dX5_told_107 : decode cX5_told 107 = .ok (.getfield 42, 3) := by decide +kernel
theorem dX5_told_110 : decode cX5_told 110 = .ok (.getfield 79, 3) := by decide +kernel
theorem dX5_told_113 : decode cX5_told 113 = .ok (.iload_n 1, 1) := by decide +kernel
theorem dX5_told_114 : decode cX5_told 114 = .ok (.iaload, 1) := by decide +kernel
theorem dX5_told_115 : decode cX5_told 115 = .ok (.ireturn, 1) := by decide +kernel
theorem dX5_told_116 : decode cX5_told 116 = .ok (.aload_n 0, 1) := by decide +kernel
theorem dX5_told_117 : decode cX5_told 117 = .ok (.getfield 42, 3) := by decide +kernel
theorem dX5_told_120 : decode cX5_told 120 = .ok (.getfield 104, 3) := by decide +kernel
theorem dX5_told_123 : decode cX5_told 123 = .ok (.iload_n 1, 1) := by decide +kernel
theorem dX5_told_124 : decode cX5_told 124 = .ok (.iaload, 1) := by decide +kernel
theorem dX5_told_125 : decode cX5_told 125 = .ok (.ireturn, 1) := by decide +kernel
theorem dX5_told_126 : decode cX5_told 126 = .ok (.aload_n 0, 1) := by decide +kernel
theorem dX5_told_127 : decode cX5_told 127 = .ok (.getfield 42, 3) := by decide +kernel
theorem dX5_told_130 : decode cX5_told 130 = .ok (.getfield 107, 3) := by decide +kernel
theorem dX5_told_133 : decode cX5_told 133 = .ok (.iload_n 1, 1) := by decide +kernel
theorem dX5_told_134 : decode cX5_told 134 = .ok (.iaload, 1) := by decide +kernel
theorem dX5_told_135 : decode cX5_told 135 = .ok (.ireturn, 1) := by decide +kernel
theorem dX5_told_136 : decode cX5_told 136 = .ok (.aload_n 0, 1) := by decide +kernel
theorem dX5_told_137 : decode cX5_told 137 = .ok (.getfield 42, 3) := by decide +kernel
theorem dX5_told_140 : decode cX5_told 140 = .ok (.getfield 110, 3) := by decide +kernel
theorem dX5_told_143 : decode cX5_told 143 = .ok (.iload_n 1, 1) := by decide +kernel
theorem dX5_told_144 : decode cX5_told 144 = .ok (.iaload, 1) := by decide +kernel
theorem dX5_told_145 : decode cX5_told 145 = .ok (.ireturn, 1) := by decide +kernel
theorem dX5_told_146 : decode cX5_told 146 = .ok (.aload_n 0, 1) := by decide +kernel
theorem dX5_told_147 : decode cX5_told 147 = .ok (.getfield 42, 3) := by decide +kernel
theorem dX5_told_150 : decode cX5_told 150 = .ok (.iload_n 1, 1) := by decide +kernel
theorem dX5_told_151 : decode cX5_told 151 = .ok (.invokevirtual 113, 3) := by decide +kernel
theorem dX5_told_154 : decode cX5_told 154 = .ok (.ireturn, 1) := by decide +kernel
theorem dX5_told_155 : decode cX5_told 155 = .ok (.sipush (-1000), 3) := by decide +kernel
theorem dX5_told_158 : decode cX5_told 158 = .ok (.ireturn, 1) := by decide +kernel
theorem dX5_asks_0 : decode cX5_asks 0 = .ok (.aload_n 0, 1) := by decide +kernel
theorem dX5_asks_1 : decode cX5_asks 1 = .ok (.getfield 42, 3) := by decide +kernel
theorem dX5_asks_4 : decode cX5_asks 4 = .ok (.iload_n 1, 1) := by decide +kernel
theorem dX5_asks_5 : decode cX5_asks 5 = .ok (.iload_n 2, 1) := by decide +kernel
theorem dX5_asks_6 : decode cX5_asks 6 = .ok (.invokevirtual 116, 3) := by decide +kernel
theorem dX5_asks_9 : decode cX5_asks 9 = .ok (.ifCond .ne 7, 3) := by decide +kernel
theorem dX5_asks_12 : decode cX5_asks 12 = .ok (.sipush (-1000), 3) := by decide +kernel
theorem dX5_asks_15 : decode cX5_asks 15 = .ok (.ireturn, 1) := by decide +kernel
theorem dX5_asks_16 : decode cX5_asks 16 = .ok (.iload_n 3, 1) := by decide +kernel
theorem dX5_asks_17 : decode cX5_asks 17 = .ok (.tableswitch 98 0 5 #[39, 49, 59, 70, 81, 91], 39) := by decide +kernel
theorem dX5_asks_56 : decode cX5_asks 56 = .ok (.aload_n 0, 1) := by decide +kernel
theorem dX5_asks_57 : decode cX5_asks 57 = .ok (.getfield 42, 3) := by decide +kernel
theorem dX5_asks_60 : decode cX5_asks 60 = .ok (.iload_n 1, 1) := by decide +kernel
theorem dX5_asks_61 : decode cX5_asks 61 = .ok (.iload_n 2, 1) := by decide +kernel
theorem dX5_asks_62 : decode cX5_asks 62 = .ok (.invokevirtual 120, 3) := by decide +kernel
theorem dX5_asks_65 : decode cX5_asks 65 = .ok (.ireturn, 1) := by decide +kernel
theorem dX5_asks_66 : decode cX5_asks 66 = .ok (.aload_n 0, 1) := by decide +kernel
theorem dX5_asks_67 : decode cX5_asks 67 = .ok (.getfield 42, 3) := by decide +kernel
theorem dX5_asks_70 : decode cX5_asks 70 = .ok (.iload_n 2, 1) := by decide +kernel
theorem dX5_asks_71 : decode cX5_asks 71 = .ok (.iload_n 1, 1) := by decide +kernel
theorem dX5_asks_72 : decode cX5_asks 72 = .ok (.invokevirtual 120, 3) := by decide +kernel
theorem dX5_asks_75 : decode cX5_asks 75 = .ok (.ireturn, 1) := by decide +kernel
theorem dX5_asks_76 : decode cX5_asks 76 = .ok (.aload_n 0, 1) := by decide +kernel
theorem dX5_asks_77 : decode cX5_asks 77 = .ok (.getfield 42, 3) := by decide +kernel
theorem dX5_asks_80 : decode cX5_asks 80 = .ok (.iload_n 1, 1) := by decide +kernel
theorem dX5_asks_81 : decode cX5_asks 81 = .ok (.iload_n 2, 1) := by decide +kernel
theorem dX5_asks_82 : decode cX5_asks 82 = .ok (.iconst 1, 1) := by decide +kernel
theorem dX5_asks_83 : decode cX5_asks 83 = .ok (.invokevirtual 123, 3) := by decide +kernel
theorem dX5_asks_86 : decode cX5_asks 86 = .ok (.ireturn, 1) := by decide +kernel
theorem dX5_asks_87 : decode cX5_asks 87 = .ok (.aload_n 0, 1) := by decide +kernel
theorem dX5_asks_88 : decode cX5_asks 88 = .ok (.getfield 42, 3) := by decide +kernel
theorem dX5_asks_91 : decode cX5_asks 91 = .ok (.iload_n 1, 1) := by decide +kernel
theorem dX5_asks_92 : decode cX5_asks 92 = .ok (.iload_n 2, 1) := by decide +kernel
theorem dX5_asks_93 : decode cX5_asks 93 = .ok (.iconst 0, 1) := by decide +kernel
theorem dX5_asks_94 : decode cX5_asks 94 = .ok (.invokevirtual 123, 3) := by decide +kernel
theorem dX5_asks_97 : decode cX5_asks 97 = .ok (.ireturn, 1) := by decide +kernel
theorem dX5_asks_98 : decode cX5_asks 98 = .ok (.aload_n 0, 1) := by decide +kernel
theorem dX5_asks_99 : decode cX5_asks 99 = .ok (.getfield 42, 3) := by decide +kernel
theorem dX5_asks_102 : decode cX5_asks 102 = .ok (.iload_n 1, 1) := by decide +kernel
theorem dX5_asks_103 : decode cX5_asks 103 = .ok (.iload_n 2, 1) := by decide +kernel
theorem dX5_asks_104 : decode cX5_asks 104 = .ok (.invokevirtual 127, 3) := by decide +kernel
theorem dX5_asks_107 : decode cX5_asks 107 = .ok (.ireturn, 1) := by decide +kernel
theorem dX5_asks_108 : decode cX5_asks 108 = .ok (.aload_n 0, 1) := by decide +kernel
theorem dX5_asks_109 : decode cX5_asks 109 = .ok (.iload_n 1, 1) := by decide +kernel
theorem dX5_asks_110 : decode cX5_asks 110 = .ok (.iload_n 2, 1) := by decide +kernel
theorem dX5_asks_111 : decode cX5_asks 111 = .ok (.invokevirtual 130, 3) := by decide +kernel
theorem dX5_asks_114 : decode cX5_asks 114 = .ok (.ireturn, 1) := by decide +kernel
theorem dX5_asks_115 : decode cX5_asks 115 = .ok (.sipush (-1000), 3) := by decide +kernel
theorem dX5_asks_118 : decode cX5_asks 118 = .ok (.ireturn, 1) := by decide +kernel
theorem dX5_manyBehindGame_0 : decode cX5_manyBehindGame 0 = .ok (.aload_n 0, 1) := by decide +kernel
theorem dX5_manyBehindGame_1 : decode cX5_manyBehindGame 1 = .ok (.invokevirtual 133, 3) := by decide +kernel
theorem dX5_manyBehindGame_4 : decode cX5_manyBehindGame 4 = .ok (.astore_n 3, 1) := by decide +kernel
theorem dX5_manyBehindGame_5 : decode cX5_manyBehindGame 5 = .ok (.aload_n 3, 1) := by decide +kernel
theorem dX5_manyBehindGame_6 : decode cX5_manyBehindGame 6 = .ok (.iload_n 1, 1) := by decide +kernel
theorem dX5_manyBehindGame_7 : decode cX5_manyBehindGame 7 = .ok (.iload_n 2, 1) := by decide +kernel
theorem dX5_manyBehindGame_8 : decode cX5_manyBehindGame 8 = .ok (.invokevirtual 137, 3) := by decide +kernel
theorem dX5_manyBehindGame_11 : decode cX5_manyBehindGame 11 = .ok (.pop, 1) := by decide +kernel
theorem dX5_manyBehindGame_12 : decode cX5_manyBehindGame 12 = .ok (.aload_n 3, 1) := by decide +kernel
theorem dX5_manyBehindGame_13 : decode cX5_manyBehindGame 13 = .ok (.iload_n 1, 1) := by decide +kernel
theorem dX5_manyBehindGame_14 : decode cX5_manyBehindGame 14 = .ok (.invokevirtual 113, 3) := by decide +kernel
theorem dX5_manyBehindGame_17 : decode cX5_manyBehindGame 17 = .ok (.ireturn, 1) := by decide +kernel
theorem dX5_feed_0 : decode cX5_feed 0 = .ok (.iload_n 1, 1) := by decide +kernel
theorem dX5_feed_1 : decode cX5_feed 1 = .ok (.iconst 0, 1) := by decide +kernel
theorem dX5_feed_2 : decode cX5_feed 2 = .ok (.sipush 255, 3) := by decide +kernel
theorem dX5_feed_5 : decode cX5_feed 5 = .ok (.invokestatic 82, 3) := by decide +kernel
theorem dX5_feed_8 : decode cX5_feed 8 = .ok (.ifCond .ne 6, 3) := by decide +kernel
theorem dX5_feed_11 : decode cX5_feed 11 = .ok (.bipush (-2), 2) := by decide +kernel
theorem dX5_feed_13 : decode cX5_feed 13 = .ok (.ireturn, 1) := by decide +kernel
theorem dX5_feed_14 : decode cX5_feed 14 = .ok (.aload_n 0, 1) := by decide +kernel
theorem dX5_feed_15 : decode cX5_feed 15 = .ok (.getfield 19, 3) := by decide +kernel
theorem dX5_feed_18 : decode cX5_feed 18 = .ok (.iload_n 1, 1) := by decide +kernel
theorem dX5_feed_19 : decode cX5_feed 19 = .ok (.invokevirtual 140, 3) := by decide +kernel
theorem dX5_feed_22 : decode cX5_feed 22 = .ok (.ifCond .eq 13, 3) := by decide +kernel
theorem dX5_feed_25 : decode cX5_feed 25 = .ok (.aload_n 0, 1) := by decide +kernel
theorem dX5_feed_26 : decode cX5_feed 26 = .ok (.getfield 19, 3) := by decide +kernel
theorem dX5_feed_29 : decode cX5_feed 29 = .ok (.getfield 143, 3) := by decide +kernel
theorem dX5_feed_32 : decode cX5_feed 32 = .ok (.goto 5, 3) := by decide +kernel
theorem dX5_feed_35 : decode cX5_feed 35 = .ok (.bipush (-4), 2) := by decide +kernel
theorem dX5_feed_37 : decode cX5_feed 37 = .ok (.ireturn, 1) := by decide +kernel
theorem dX5_text_0 : decode cX5_text 0 = .ok (.aload_n 0, 1) := by decide +kernel
theorem dX5_text_1 : decode cX5_text 1 = .ok (.getfield 10, 3) := by decide +kernel
theorem dX5_text_4 : decode cX5_text 4 = .ok (.getfield 146, 3) := by decide +kernel
theorem dX5_text_7 : decode cX5_text 7 = .ok (.bipush 6, 2) := by decide +kernel
theorem dX5_text_9 : decode cX5_text 9 = .ok (.if_icmp .lt 6, 3) := by decide +kernel
theorem dX5_text_12 : decode cX5_text 12 = .ok (.bipush (-4), 2) := by decide +kernel
theorem dX5_text_14 : decode cX5_text 14 = .ok (.ireturn, 1) := by decide +kernel
theorem dX5_text_15 : decode cX5_text 15 = .ok (.aload_n 0, 1) := by decide +kernel
theorem dX5_text_16 : decode cX5_text 16 = .ok (.getfield 19, 3) := by decide +kernel
theorem dX5_text_19 : decode cX5_text 19 = .ok (.invokevirtual 29, 3) := by decide +kernel
theorem dX5_text_22 : decode cX5_text 22 = .ok (.astore_n 1, 1) := by decide +kernel
theorem dX5_text_23 : decode cX5_text 23 = .ok (.aload_n 1, 1) := by decide +kernel
theorem dX5_text_24 : decode cX5_text 24 = .ok (.ifnonnull 14, 3) := by decide +kernel
theorem dX5_text_27 : decode cX5_text 27 = .ok (.bipush (-100), 2) := by decide +kernel
theorem dX5_text_29 : decode cX5_text 29 = .ok (.aload_n 0, 1) := by decide +kernel
theorem dX5_text_30 : decode cX5_text 30 = .ok (.getfield 19, 3) := by decide +kernel
theorem dX5_text_33 : decode cX5_text 33 = .ok (.getfield 149, 3) := by decide +kernel
theorem dX5_text_36 : decode cX5_text 36 = .ok (.isub, 1) := by decide +kernel
theorem dX5_text_37 : decode cX5_text 37 = .ok (.ireturn, 1) := by decide +kernel
theorem dX5_text_38 : decode cX5_text 38 = .ok (.aload_n 0, 1) := by decide +kernel
theorem dX5_text_39 : decode cX5_text 39 = .ok (.getfield 10, 3) := by decide +kernel
theorem dX5_text_42 : decode cX5_text 42 = .ok (.aload_n 1, 1) := by decide +kernel
theorem dX5_text_43 : decode cX5_text 43 = .ok (.invokevirtual 33, 3) := by decide +kernel
theorem dX5_text_46 : decode cX5_text 46 = .ok (.ireturn, 1) := by decide +kernel
theorem dX5_force_0 : decode cX5_force 0 = .ok (.iload_n 1, 1) := by decide +kernel
theorem dX5_force_1 : decode cX5_force 1 = .ok (.iconst 0, 1) := by decide +kernel
theorem dX5_force_2 : decode cX5_force 2 = .ok (.aload_n 0, 1) := by decide +kernel
theorem dX5_force_3 : decode cX5_force 3 = .ok (.getfield 10, 3) := by decide +kernel
theorem dX5_force_6 : decode cX5_force 6 = .ok (.getfield 146, 3) := by decide +kernel
theorem dX5_force_9 : decode cX5_force 9 = .ok (.iconst 1, 1) := by decide +kernel
theorem dX5_force_10 : decode cX5_force 10 = .ok (.isub, 1) := by decide +kernel
theorem dX5_force_11 : decode cX5_force 11 = .ok (.invokestatic 82, 3) := by decide +kernel
theorem dX5_force_14 : decode cX5_force 14 = .ok (.ifCond .ne 6, 3) := by decide +kernel
theorem dX5_force_17 : decode cX5_force 17 = .ok (.bipush (-2), 2) := by decide +kernel
theorem dX5_force_19 : decode cX5_force 19 = .ok (.ireturn, 1) := by decide +kernel
theorem dX5_force_20 : decode cX5_force 20 = .ok (.aload_n 0, 1) := by decide +kernel
theorem dX5_force_21 : decode cX5_force 21 = .ok (.getfield 42, 3) := by decide +kernel
theorem dX5_force_24 : decode cX5_force 24 = .ok (.getfield 152, 3) := by decide +kernel
theorem dX5_force_27 : decode cX5_force 27 = .ok (.istore_n 2, 1) := by decide +kernel
theorem dX5_force_28 : decode cX5_force 28 = .ok (.aload_n 0, 1) := by decide +kernel
theorem dX5_force_29 : decode cX5_force 29 = .ok (.getfield 42, 3) := by decide +kernel
theorem dX5_force_32 : decode cX5_force 32 = .ok (.iload_n 1, 1) := by decide +kernel
theorem dX5_force_33 : decode cX5_force 33 = .ok (.putfield 152, 3) := by decide +kernel
theorem dX5_force_36 : decode cX5_force 36 = .ok (.iload_n 2, 1) := by decide +kernel
theorem dX5_force_37 : decode cX5_force 37 = .ok (.ireturn, 1) := by decide +kernel
theorem dX5_game_0 : decode cX5_game 0 = .ok (.aload_n 0, 1) := by decide +kernel
theorem dX5_game_1 : decode cX5_game 1 = .ok (.getfield 42, 3) := by decide +kernel
theorem dX5_game_4 : decode cX5_game 4 = .ok (.iload_n 1, 1) := by decide +kernel
theorem dX5_game_5 : decode cX5_game 5 = .ok (.iload_n 2, 1) := by decide +kernel
theorem dX5_game_6 : decode cX5_game 6 = .ok (.invokevirtual 116, 3) := by decide +kernel
theorem dX5_game_9 : decode cX5_game 9 = .ok (.ifCond .ne 6, 3) := by decide +kernel
theorem dX5_game_12 : decode cX5_game 12 = .ok (.bipush (-2), 2) := by decide +kernel
theorem dX5_game_14 : decode cX5_game 14 = .ok (.ireturn, 1) := by decide +kernel
theorem dX5_game_15 : decode cX5_game 15 = .ok (.aload_n 0, 1) := by decide +kernel
theorem dX5_game_16 : decode cX5_game 16 = .ok (.getfield 42, 3) := by decide +kernel
theorem dX5_game_19 : decode cX5_game 19 = .ok (.getfield 86, 3) := by decide +kernel
theorem dX5_game_22 : decode cX5_game 22 = .ok (.sipush 999, 3) := by decide +kernel
theorem dX5_game_25 : decode cX5_game 25 = .ok (.if_icmp .lt 6, 3) := by decide +kernel
theorem dX5_game_28 : decode cX5_game 28 = .ok (.bipush (-3), 2) := by decide +kernel
theorem dX5_game_30 : decode cX5_game 30 = .ok (.ireturn, 1) := by decide +kernel
theorem dX5_game_31 : decode cX5_game 31 = .ok (.aload_n 0, 1) := by decide +kernel
theorem dX5_game_32 : decode cX5_game 32 = .ok (.getfield 42, 3) := by decide +kernel
theorem dX5_game_35 : decode cX5_game 35 = .ok (.iload_n 1, 1) := by decide +kernel
theorem dX5_game_36 : decode cX5_game 36 = .ok (.iload_n 2, 1) := by decide +kernel
theorem dX5_game_37 : decode cX5_game 37 = .ok (.invokevirtual 137, 3) := by decide +kernel
theorem dX5_game_40 : decode cX5_game 40 = .ok (.ireturn, 1) := by decide +kernel
theorem dX5_evening_0 : decode cX5_evening 0 = .ok (.aload_n 0, 1) := by decide +kernel
theorem dX5_evening_1 : decode cX5_evening 1 = .ok (.iload_n 1, 1) := by decide +kernel
theorem dX5_evening_2 : decode cX5_evening 2 = .ok (.invokevirtual 155, 3) := by decide +kernel
theorem dX5_evening_5 : decode cX5_evening 5 = .ok (.astore_n 3, 1) := by decide +kernel
theorem dX5_evening_6 : decode cX5_evening 6 = .ok (.aload_n 3, 1) := by decide +kernel
theorem dX5_evening_7 : decode cX5_evening 7 = .ok (.ifnull 30, 3) := by decide +kernel
theorem dX5_evening_10 : decode cX5_evening 10 = .ok (.iload_n 2, 1) := by decide +kernel
theorem dX5_evening_11 : decode cX5_evening 11 = .ok (.iconst 0, 1) := by decide +kernel
theorem dX5_evening_12 : decode cX5_evening 12 = .ok (.bipush 8, 2) := by decide +kernel
theorem dX5_evening_14 : decode cX5_evening 14 = .ok (.invokestatic 82, 3) := by decide +kernel
theorem dX5_evening_17 : decode cX5_evening 17 = .ok (.ifCond .eq 20, 3) := by decide +kernel
theorem dX5_evening_20 : decode cX5_evening 20 = .ok (.iload_n 2, 1) := by decide +kernel
theorem dX5_evening_21 : decode cX5_evening 21 = .ok (.bipush 6, 2) := by decide +kernel
theorem dX5_evening_23 : decode cX5_evening 23 = .ok (.if_icmp .ge 17, 3) := by decide +kernel
theorem dX5_evening_26 : decode cX5_evening 26 = .ok (.aload_n 0, 1) := by decide +kernel
theorem dX5_evening_27 : decode cX5_evening 27 = .ok (.getfield 42, 3) := by decide +kernel
theorem dX5_evening_30 : decode cX5_evening 30 = .ok (.iload_n 2, 1) := by decide +kernel
theorem dX5_evening_31 : decode cX5_evening 31 = .ok (.invokevirtual 90, 3) := by decide +kernel
theorem dX5_evening_34 : decode cX5_evening 34 = .ok (.ifCond .ne 6, 3) := by decide +kernel
theorem dX5_evening_37 : decode cX5_evening 37 = .ok (.bipush (-2), 2) := by decide +kernel
theorem dX5_evening_39 : decode cX5_evening 39 = .ok (.ireturn, 1) := by decide +kernel
theorem dX5_evening_40 : decode cX5_evening 40 = .ok (.aload_n 3, 1) := by decide +kernel
theorem dX5_evening_41 : decode cX5_evening 41 = .ok (.invokevirtual 159, 3) := by decide +kernel
theorem dX5_evening_44 : decode cX5_evening 44 = .ok (.ifCond .eq 6, 3) := by decide +kernel
theorem dX5_evening_47 : decode cX5_evening 47 = .ok (.bipush (-11), 2) := by decide +kernel
theorem dX5_evening_49 : decode cX5_evening 49 = .ok (.ireturn, 1) := by decide +kernel
theorem dX5_evening_50 : decode cX5_evening 50 = .ok (.aload_n 0, 1) := by decide +kernel
theorem dX5_evening_51 : decode cX5_evening 51 = .ok (.aload_n 3, 1) := by decide +kernel
theorem dX5_evening_52 : decode cX5_evening 52 = .ok (.invokevirtual 163, 3) := by decide +kernel
theorem dX5_evening_55 : decode cX5_evening 55 = .ok (.ifCond .ne 6, 3) := by decide +kernel
theorem dX5_evening_58 : decode cX5_evening 58 = .ok (.bipush (-2), 2) := by decide +kernel
theorem dX5_evening_60 : decode cX5_evening 60 = .ok (.ireturn, 1) := by decide +kernel
theorem dX5_evening_61 : decode cX5_evening 61 = .ok (.aload_n 0, 1) := by decide +kernel
theorem dX5_evening_62 : decode cX5_evening 62 = .ok (.invokevirtual 133, 3) := by decide +kernel
theorem dX5_evening_65 : decode cX5_evening 65 = .ok (.astore 4, 2) := by decide +kernel
theorem dX5_evening_67 : decode cX5_evening 67 = .ok (.aload 4, 2) := by decide +kernel
theorem dX5_evening_69 : decode cX5_evening 69 = .ok (.aload_n 3, 1) := by decide +kernel
theorem dX5_evening_70 : decode cX5_evening 70 = .ok (.invokestatic 167, 3) := by decide +kernel
theorem dX5_evening_73 : decode cX5_evening 73 = .ok (.istore 5, 2) := by decide +kernel
theorem dX5_evening_75 : decode cX5_evening 75 = .ok (.iload_n 2, 1) := by decide +kernel
theorem dX5_evening_76 : decode cX5_evening 76 = .ok (.tableswitch 43 6 8 #[28, 34, 37], 28) := by decide +kernel
theorem dX5_evening_104 : decode cX5_evening 104 = .ok (.aload 4, 2) := by decide +kernel
theorem dX5_evening_106 : decode cX5_evening 106 = .ok (.invokevirtual 171, 3) := by decide +kernel
theorem dX5_evening_109 : decode cX5_evening 109 = .ok (.ireturn, 1) := by decide +kernel
theorem dX5_evening_110 : decode cX5_evening 110 = .ok (.iload 5, 2) := by decide +kernel
theorem dX5_evening_112 : decode cX5_evening 112 = .ok (.ireturn, 1) := by decide +kernel
theorem dX5_evening_113 : decode cX5_evening 113 = .ok (.aload 4, 2) := by decide +kernel
theorem dX5_evening_115 : decode cX5_evening 115 = .ok (.invokevirtual 175, 3) := by decide +kernel
theorem dX5_evening_118 : decode cX5_evening 118 = .ok (.ireturn, 1) := by decide +kernel
theorem dX5_evening_119 : decode cX5_evening 119 = .ok (.aload 4, 2) := by decide +kernel
theorem dX5_evening_121 : decode cX5_evening 121 = .ok (.iload_n 2, 1) := by decide +kernel
theorem dX5_evening_122 : decode cX5_evening 122 = .ok (.invokevirtual 113, 3) := by decide +kernel
theorem dX5_evening_125 : decode cX5_evening 125 = .ok (.ireturn, 1) := by decide +kernel
theorem dX5_play_0 : decode cX5_play 0 = .ok (.aload_n 0, 1) := by decide +kernel
theorem dX5_play_1 : decode cX5_play 1 = .ok (.iload_n 1, 1) := by decide +kernel
theorem dX5_play_2 : decode cX5_play 2 = .ok (.invokevirtual 155, 3) := by decide +kernel
theorem dX5_play_5 : decode cX5_play 5 = .ok (.astore_n 2, 1) := by decide +kernel
theorem dX5_play_6 : decode cX5_play 6 = .ok (.aload_n 2, 1) := by decide +kernel
theorem dX5_play_7 : decode cX5_play 7 = .ok (.ifnonnull 6, 3) := by decide +kernel
theorem dX5_play_10 : decode cX5_play 10 = .ok (.bipush (-2), 2) := by decide +kernel
theorem dX5_play_12 : decode cX5_play 12 = .ok (.ireturn, 1) := by decide +kernel
theorem dX5_play_13 : decode cX5_play 13 = .ok (.aload_n 2, 1) := by decide +kernel
theorem dX5_play_14 : decode cX5_play 14 = .ok (.invokevirtual 159, 3) := by decide +kernel
theorem dX5_play_17 : decode cX5_play 17 = .ok (.ifCond .eq 6, 3) := by decide +kernel
theorem dX5_play_20 : decode cX5_play 20 = .ok (.bipush (-11), 2) := by decide +kernel
theorem dX5_play_22 : decode cX5_play 22 = .ok (.ireturn, 1) := by decide +kernel
theorem dX5_play_23 : decode cX5_play 23 = .ok (.aload_n 0, 1) := by decide +kernel
theorem dX5_play_24 : decode cX5_play 24 = .ok (.aload_n 2, 1) := by decide +kernel
theorem dX5_play_25 : decode cX5_play 25 = .ok (.invokevirtual 163, 3) := by decide +kernel
theorem dX5_play_28 : decode cX5_play 28 = .ok (.ifCond .ne 6, 3) := by decide +kernel
theorem dX5_play_31 : decode cX5_play 31 = .ok (.bipush (-2), 2) := by decide +kernel
theorem dX5_play_33 : decode cX5_play 33 = .ok (.ireturn, 1) := by decide +kernel
theorem dX5_play_34 : decode cX5_play 34 = .ok (.aload_n 0, 1) := by decide +kernel
theorem dX5_play_35 : decode cX5_play 35 = .ok (.getfield 42, 3) := by decide +kernel
theorem dX5_play_38 : decode cX5_play 38 = .ok (.getfield 86, 3) := by decide +kernel
theorem dX5_play_41 : decode cX5_play 41 = .ok (.aload_n 2, 1) := by decide +kernel
theorem dX5_play_42 : decode cX5_play 42 = .ok (.getfield 178, 3) := by decide +kernel
theorem dX5_play_45 : decode cX5_play 45 = .ok (.iadd, 1) := by decide +kernel
theorem dX5_play_46 : decode cX5_play 46 = .ok (.sipush 999, 3) := by decide +kernel
theorem dX5_play_49 : decode cX5_play 49 = .ok (.if_icmp .le 6, 3) := by decide +kernel
theorem dX5_play_52 : decode cX5_play 52 = .ok (.bipush (-3), 2) := by decide +kernel
theorem dX5_play_54 : decode cX5_play 54 = .ok (.ireturn, 1) := by decide +kernel
theorem dX5_play_55 : decode cX5_play 55 = .ok (.aload_n 0, 1) := by decide +kernel
theorem dX5_play_56 : decode cX5_play 56 = .ok (.getfield 42, 3) := by decide +kernel
theorem dX5_play_59 : decode cX5_play 59 = .ok (.aload_n 2, 1) := by decide +kernel
theorem dX5_play_60 : decode cX5_play 60 = .ok (.invokestatic 167, 3) := by decide +kernel
theorem dX5_play_63 : decode cX5_play 63 = .ok (.ireturn, 1) := by decide +kernel
theorem dX5_tellsGames_0 : decode cX5_tellsGames 0 = .ok (.iconst 0, 1) := by decide +kernel
theorem dX5_tellsGames_1 : decode cX5_tellsGames 1 = .ok (.istore_n 2, 1) := by decide +kernel
theorem dX5_tellsGames_2 : decode cX5_tellsGames 2 = .ok (.iload_n 2, 1) := by decide +kernel
theorem dX5_tellsGames_3 : decode cX5_tellsGames 3 = .ok (.aload_n 1, 1) := by decide +kernel
theorem dX5_tellsGames_4 : decode cX5_tellsGames 4 = .ok (.getfield 178, 3) := by decide +kernel
theorem dX5_tellsGames_7 : decode cX5_tellsGames 7 = .ok (.if_icmp .ge 37, 3) := by decide +kernel
theorem dX5_tellsGames_10 : decode cX5_tellsGames 10 = .ok (.aload_n 0, 1) := by decide +kernel
theorem dX5_tellsGames_11 : decode cX5_tellsGames 11 = .ok (.getfield 42, 3) := by decide +kernel
theorem dX5_tellsGames_14 : decode cX5_tellsGames 14 = .ok (.aload_n 1, 1) := by decide +kernel
theorem dX5_tellsGames_15 : decode cX5_tellsGames 15 = .ok (.iload_n 2, 1) := by decide +kernel
theorem dX5_tellsGames_16 : decode cX5_tellsGames 16 = .ok (.invokevirtual 179, 3) := by decide +kernel
theorem dX5_tellsGames_19 : decode cX5_tellsGames 19 = .ok (.bipush 10, 2) := by decide +kernel
theorem dX5_tellsGames_21 : decode cX5_tellsGames 21 = .ok (.idiv, 1) := by decide +kernel
theorem dX5_tellsGames_22 : decode cX5_tellsGames 22 = .ok (.aload_n 1, 1) := by decide +kernel
theorem dX5_tellsGames_23 : decode cX5_tellsGames 23 = .ok (.iload_n 2, 1) := by decide +kernel
theorem dX5_tellsGames_24 : decode cX5_tellsGames 24 = .ok (.invokevirtual 179, 3) := by decide +kernel
theorem dX5_tellsGames_27 : decode cX5_tellsGames 27 = .ok (.bipush 10, 2) := by decide +kernel
theorem dX5_tellsGames_29 : decode cX5_tellsGames 29 = .ok (.irem, 1) := by decide +kernel
theorem dX5_tellsGames_30 : decode cX5_tellsGames 30 = .ok (.invokevirtual 116, 3) := by decide +kernel
theorem dX5_tellsGames_33 : decode cX5_tellsGames 33 = .ok (.ifCond .ne 5, 3) := by decide +kernel
theorem dX5_tellsGames_36 : decode cX5_tellsGames 36 = .ok (.iconst 0, 1) := by decide +kernel
theorem dX5_tellsGames_37 : decode cX5_tellsGames 37 = .ok (.ireturn, 1) := by decide +kernel
theorem dX5_tellsGames_38 : decode cX5_tellsGames 38 = .ok (.iinc 2 1, 3) := by decide +kernel
theorem dX5_tellsGames_41 : decode cX5_tellsGames 41 = .ok (.goto (-39), 3) := by decide +kernel
theorem dX5_tellsGames_44 : decode cX5_tellsGames 44 = .ok (.iconst 1, 1) := by decide +kernel
theorem dX5_tellsGames_45 : decode cX5_tellsGames 45 = .ok (.ireturn, 1) := by decide +kernel
theorem dX5_playTold_0 : decode cX5_playTold 0 = .ok (.iconst 0, 1) := by decide +kernel
theorem dX5_playTold_1 : decode cX5_playTold 1 = .ok (.istore_n 2, 1) := by decide +kernel
theorem dX5_playTold_2 : decode cX5_playTold 2 = .ok (.iconst 0, 1) := by decide +kernel
theorem dX5_playTold_3 : decode cX5_playTold 3 = .ok (.istore_n 3, 1) := by decide +kernel
theorem dX5_playTold_4 : decode cX5_playTold 4 = .ok (.iload_n 3, 1) := by decide +kernel
theorem dX5_playTold_5 : decode cX5_playTold 5 = .ok (.aload_n 1, 1) := by decide +kernel
theorem dX5_playTold_6 : decode cX5_playTold 6 = .ok (.getfield 178, 3) := by decide +kernel
theorem dX5_playTold_9 : decode cX5_playTold 9 = .ok (.if_icmp .ge 36, 3) := by decide +kernel
theorem dX5_playTold_12 : decode cX5_playTold 12 = .ok (.aload_n 0, 1) := by decide +kernel
theorem dX5_playTold_13 : decode cX5_playTold 13 = .ok (.aload_n 1, 1) := by decide +kernel
theorem dX5_playTold_14 : decode cX5_playTold 14 = .ok (.iload_n 3, 1) := by decide +kernel
theorem dX5_playTold_15 : decode cX5_playTold 15 = .ok (.invokevirtual 179, 3) := by decide +kernel
theorem dX5_playTold_18 : decode cX5_playTold 18 = .ok (.bipush 10, 2) := by decide +kernel
theorem dX5_playTold_20 : decode cX5_playTold 20 = .ok (.idiv, 1) := by decide +kernel
theorem dX5_playTold_21 : decode cX5_playTold 21 = .ok (.aload_n 1, 1) := by decide +kernel
theorem dX5_playTold_22 : decode cX5_playTold 22 = .ok (.iload_n 3, 1) := by decide +kernel
theorem dX5_playTold_23 : decode cX5_playTold 23 = .ok (.invokevirtual 179, 3) := by decide +kernel
theorem dX5_playTold_26 : decode cX5_playTold 26 = .ok (.bipush 10, 2) := by decide +kernel
theorem dX5_playTold_28 : decode cX5_playTold 28 = .ok (.irem, 1) := by decide +kernel
theorem dX5_playTold_29 : decode cX5_playTold 29 = .ok (.invokevirtual 137, 3) := by decide +kernel
theorem dX5_playTold_32 : decode cX5_playTold 32 = .ok (.iconst (-1), 1) := by decide +kernel
theorem dX5_playTold_33 : decode cX5_playTold 33 = .ok (.if_icmp .ne 6, 3) := by decide +kernel
theorem dX5_playTold_36 : decode cX5_playTold 36 = .ok (.iinc 2 1, 3) := by decide +kernel
theorem dX5_playTold_39 : decode cX5_playTold 39 = .ok (.iinc 3 1, 3) := by decide +kernel
theorem dX5_playTold_42 : decode cX5_playTold 42 = .ok (.goto (-38), 3) := by decide +kernel
theorem dX5_playTold_45 : decode cX5_playTold 45 = .ok (.iload_n 2, 1) := by decide +kernel
theorem dX5_playTold_46 : decode cX5_playTold 46 = .ok (.ireturn, 1) := by decide +kernel
theorem dX5_robin_0 : decode cX5_robin 0 = .ok (.iload_n 1, 1) := by decide +kernel
theorem dX5_robin_1 : decode cX5_robin 1 = .ok (.iconst 0, 1) := by decide +kernel
theorem dX5_robin_2 : decode cX5_robin 2 = .ok (.bipush 8, 2) := by decide +kernel
theorem dX5_robin_4 : decode cX5_robin 4 = .ok (.invokestatic 82, 3) := by decide +kernel
theorem dX5_robin_7 : decode cX5_robin 7 = .ok (.ifCond .eq 20, 3) := by decide +kernel
theorem dX5_robin_10 : decode cX5_robin 10 = .ok (.iload_n 1, 1) := by decide +kernel
theorem dX5_robin_11 : decode cX5_robin 11 = .ok (.bipush 6, 2) := by decide +kernel
theorem dX5_robin_13 : decode cX5_robin 13 = .ok (.if_icmp .ge 17, 3) := by decide +kernel
theorem dX5_robin_16 : decode cX5_robin 16 = .ok (.aload_n 0, 1) := by decide +kernel
theorem dX5_robin_17 : decode cX5_robin 17 = .ok (.getfield 42, 3) := by decide +kernel
theorem dX5_robin_20 : decode cX5_robin 20 = .ok (.iload_n 1, 1) := by decide +kernel
theorem dX5_robin_21 : decode cX5_robin 21 = .ok (.invokevirtual 90, 3) := by decide +kernel
theorem dX5_robin_24 : decode cX5_robin 24 = .ok (.ifCond .ne 6, 3) := by decide +kernel
theorem dX5_robin_27 : decode cX5_robin 27 = .ok (.bipush (-2), 2) := by decide +kernel
theorem dX5_robin_29 : decode cX5_robin 29 = .ok (.ireturn, 1) := by decide +kernel
theorem dX5_robin_30 : decode cX5_robin 30 = .ok (.iload_n 1, 1) := by decide +kernel
theorem dX5_robin_31 : decode cX5_robin 31 = .ok (.bipush 7, 2) := by decide +kernel
theorem dX5_robin_33 : decode cX5_robin 33 = .ok (.if_icmp .ne 8, 3) := by decide +kernel
theorem dX5_robin_36 : decode cX5_robin 36 = .ok (.aload_n 0, 1) := by decide +kernel
theorem dX5_robin_37 : decode cX5_robin 37 = .ok (.invokevirtual 182, 3) := by decide +kernel
theorem dX5_robin_40 : decode cX5_robin 40 = .ok (.ireturn, 1) := by decide +kernel
theorem dX5_robin_41 : decode cX5_robin 41 = .ok (.iload_n 1, 1) := by decide +kernel
theorem dX5_robin_42 : decode cX5_robin 42 = .ok (.bipush 8, 2) := by decide +kernel
theorem dX5_robin_44 : decode cX5_robin 44 = .ok (.if_icmp .ne 8, 3) := by decide +kernel
theorem dX5_robin_47 : decode cX5_robin 47 = .ok (.aload_n 0, 1) := by decide +kernel
theorem dX5_robin_48 : decode cX5_robin 48 = .ok (.invokevirtual 185, 3) := by decide +kernel
theorem dX5_robin_51 : decode cX5_robin 51 = .ok (.ireturn, 1) := by decide +kernel
theorem dX5_robin_52 : decode cX5_robin 52 = .ok (.aload_n 0, 1) := by decide +kernel
theorem dX5_robin_53 : decode cX5_robin 53 = .ok (.iconst (-1), 1) := by decide +kernel
theorem dX5_robin_54 : decode cX5_robin 54 = .ok (.invokevirtual 188, 3) := by decide +kernel
theorem dX5_robin_57 : decode cX5_robin 57 = .ok (.astore_n 2, 1) := by decide +kernel
theorem dX5_robin_58 : decode cX5_robin 58 = .ok (.iload_n 1, 1) := by decide +kernel
theorem dX5_robin_59 : decode cX5_robin 59 = .ok (.bipush 6, 2) := by decide +kernel
theorem dX5_robin_61 : decode cX5_robin 61 = .ok (.if_icmp .ne 10, 3) := by decide +kernel
theorem dX5_robin_64 : decode cX5_robin 64 = .ok (.aload_n 2, 1) := by decide +kernel
theorem dX5_robin_65 : decode cX5_robin 65 = .ok (.getfield 192, 3) := by decide +kernel
theorem dX5_robin_68 : decode cX5_robin 68 = .ok (.goto 9, 3) := by decide +kernel
theorem dX5_robin_71 : decode cX5_robin 71 = .ok (.aload_n 2, 1) := by decide +kernel
theorem dX5_robin_72 : decode cX5_robin 72 = .ok (.getfield 110, 3) := by decide +kernel
theorem dX5_robin_75 : decode cX5_robin 75 = .ok (.iload_n 1, 1) := by decide +kernel
theorem dX5_robin_76 : decode cX5_robin 76 = .ok (.iaload, 1) := by decide +kernel
theorem dX5_robin_77 : decode cX5_robin 77 = .ok (.ireturn, 1) := by decide +kernel
theorem dX5_robinWithout_0 : decode cX5_robinWithout 0 = .ok (.aload_n 0, 1) := by decide +kernel
theorem dX5_robinWithout_1 : decode cX5_robinWithout 1 = .ok (.invokevirtual 133, 3) := by decide +kernel
theorem dX5_robinWithout_4 : decode cX5_robinWithout 4 = .ok (.astore_n 2, 1) := by decide +kernel
theorem dX5_robinWithout_5 : decode cX5_robinWithout 5 = .ok (.iconst 0, 1) := by decide +kernel
theorem dX5_robinWithout_6 : decode cX5_robinWithout 6 = .ok (.istore_n 3, 1) := by decide +kernel
theorem dX5_robinWithout_7 : decode cX5_robinWithout 7 = .ok (.iload_n 3, 1) := by decide +kernel
theorem dX5_robinWithout_8 : decode cX5_robinWithout 8 = .ok (.aload_n 0, 1) := by decide +kernel
theorem dX5_robinWithout_9 : decode cX5_robinWithout 9 = .ok (.getfield 42, 3) := by decide +kernel
theorem dX5_robinWithout_12 : decode cX5_robinWithout 12 = .ok (.getfield 195, 3) := by decide +kernel
theorem dX5_robinWithout_15 : decode cX5_robinWithout 15 = .ok (.if_icmp .ge 51, 3) := by decide +kernel
theorem dX5_robinWithout_18 : decode cX5_robinWithout 18 = .ok (.iload_n 3, 1) := by decide +kernel
theorem dX5_robinWithout_19 : decode cX5_robinWithout 19 = .ok (.iconst 1, 1) := by decide +kernel
theorem dX5_robinWithout_20 : decode cX5_robinWithout 20 = .ok (.iadd, 1) := by decide +kernel
theorem dX5_robinWithout_21 : decode cX5_robinWithout 21 = .ok (.istore 4, 2) := by decide +kernel
theorem dX5_robinWithout_23 : decode cX5_robinWithout 23 = .ok (.iload 4, 2) := by decide +kernel
theorem dX5_robinWithout_25 : decode cX5_robinWithout 25 = .ok (.aload_n 0, 1) := by decide +kernel
theorem dX5_robinWithout_26 : decode cX5_robinWithout 26 = .ok (.getfield 42, 3) := by decide +kernel
theorem dX5_robinWithout_29 : decode cX5_robinWithout 29 = .ok (.getfield 195, 3) := by decide +kernel
theorem dX5_robinWithout_32 : decode cX5_robinWithout 32 = .ok (.if_icmp .ge 28, 3) := by decide +kernel
theorem dX5_robinWithout_35 : decode cX5_robinWithout 35 = .ok (.bipush 10, 2) := by decide +kernel
theorem dX5_robinWithout_37 : decode cX5_robinWithout 37 = .ok (.iload_n 3, 1) := by decide +kernel
theorem dX5_robinWithout_38 : decode cX5_robinWithout 38 = .ok (.imul, 1) := by decide +kernel
theorem dX5_robinWithout_39 : decode cX5_robinWithout 39 = .ok (.iload 4, 2) := by decide +kernel
theorem dX5_robinWithout_41 : decode cX5_robinWithout 41 = .ok (.iadd, 1) := by decide +kernel
theorem dX5_robinWithout_42 : decode cX5_robinWithout 42 = .ok (.iload_n 1, 1) := by decide +kernel
theorem dX5_robinWithout_43 : decode cX5_robinWithout 43 = .ok (.if_icmp .eq 11, 3) := by decide +kernel
theorem dX5_robinWithout_46 : decode cX5_robinWithout 46 = .ok (.aload_n 2, 1) := by decide +kernel
theorem dX5_robinWithout_47 : decode cX5_robinWithout 47 = .ok (.iload_n 3, 1) := by decide +kernel
theorem dX5_robinWithout_48 : decode cX5_robinWithout 48 = .ok (.iload 4, 2) := by decide +kernel
theorem dX5_robinWithout_50 : decode cX5_robinWithout 50 = .ok (.invokevirtual 137, 3) := by decide +kernel
theorem dX5_robinWithout_53 : decode cX5_robinWithout 53 = .ok (.pop, 1) := by decide +kernel
theorem dX5_robinWithout_54 : decode cX5_robinWithout 54 = .ok (.iinc 4 1, 3) := by decide +kernel
theorem dX5_robinWithout_57 : decode cX5_robinWithout 57 = .ok (.goto (-34), 3) := by decide +kernel
theorem dX5_robinWithout_60 : decode cX5_robinWithout 60 = .ok (.iinc 3 1, 3) := by decide +kernel
theorem dX5_robinWithout_63 : decode cX5_robinWithout 63 = .ok (.goto (-56), 3) := by decide +kernel
theorem dX5_robinWithout_66 : decode cX5_robinWithout 66 = .ok (.aload_n 2, 1) := by decide +kernel
theorem dX5_robinWithout_67 : decode cX5_robinWithout 67 = .ok (.areturn, 1) := by decide +kernel
theorem dX5_keptApart_0 : decode cX5_keptApart 0 = .ok (.aload_n 0, 1) := by decide +kernel
theorem dX5_keptApart_1 : decode cX5_keptApart 1 = .ok (.iconst (-1), 1) := by decide +kernel
theorem dX5_keptApart_2 : decode cX5_keptApart 2 = .ok (.invokevirtual 188, 3) := by decide +kernel
theorem dX5_keptApart_5 : decode cX5_keptApart 5 = .ok (.invokevirtual 171, 3) := by decide +kernel
theorem dX5_keptApart_8 : decode cX5_keptApart 8 = .ok (.istore_n 1, 1) := by decide +kernel
theorem dX5_keptApart_9 : decode cX5_keptApart 9 = .ok (.iconst (-1), 1) := by decide +kernel
theorem dX5_keptApart_10 : decode cX5_keptApart 10 = .ok (.istore_n 2, 1) := by decide +kernel
theorem dX5_keptApart_11 : decode cX5_keptApart 11 = .ok (.iconst 0, 1) := by decide +kernel
theorem dX5_keptApart_12 : decode cX5_keptApart 12 = .ok (.istore_n 3, 1) := by decide +kernel
theorem dX5_keptApart_13 : decode cX5_keptApart 13 = .ok (.iload_n 3, 1) := by decide +kernel
theorem dX5_keptApart_14 : decode cX5_keptApart 14 = .ok (.aload_n 0, 1) := by decide +kernel
theorem dX5_keptApart_15 : decode cX5_keptApart 15 = .ok (.getfield 42, 3) := by decide +kernel
theorem dX5_keptApart_18 : decode cX5_keptApart 18 = .ok (.getfield 195, 3) := by decide +kernel
theorem dX5_keptApart_21 : decode cX5_keptApart 21 = .ok (.if_icmp .ge 65, 3) := by decide +kernel
theorem dX5_keptApart_24 : decode cX5_keptApart 24 = .ok (.iload_n 3, 1) := by decide +kernel
theorem dX5_keptApart_25 : decode cX5_keptApart 25 = .ok (.iconst 1, 1) := by decide +kernel
theorem dX5_keptApart_26 : decode cX5_keptApart 26 = .ok (.iadd, 1) := by decide +kernel
theorem dX5_keptApart_27 : decode cX5_keptApart 27 = .ok (.istore 4, 2) := by decide +kernel
theorem dX5_keptApart_29 : decode cX5_keptApart 29 = .ok (.iload 4, 2) := by decide +kernel
theorem dX5_keptApart_31 : decode cX5_keptApart 31 = .ok (.aload_n 0, 1) := by decide +kernel
theorem dX5_keptApart_32 : decode cX5_keptApart 32 = .ok (.getfield 42, 3) := by decide +kernel
theorem dX5_keptApart_35 : decode cX5_keptApart 35 = .ok (.getfield 195, 3) := by decide +kernel
theorem dX5_keptApart_38 : decode cX5_keptApart 38 = .ok (.if_icmp .ge 42, 3) := by decide +kernel
theorem dX5_keptApart_41 : decode cX5_keptApart 41 = .ok (.aload_n 0, 1) := by decide +kernel
theorem dX5_keptApart_42 : decode cX5_keptApart 42 = .ok (.bipush 10, 2) := by decide +kernel
theorem dX5_keptApart_44 : decode cX5_keptApart 44 = .ok (.iload_n 3, 1) := by decide +kernel
theorem dX5_keptApart_45 : decode cX5_keptApart 45 = .ok (.imul, 1) := by decide +kernel
theorem dX5_keptApart_46 : decode cX5_keptApart 46 = .ok (.iload 4, 2) := by decide +kernel
theorem dX5_keptApart_48 : decode cX5_keptApart 48 = .ok (.iadd, 1) := by decide +kernel
theorem dX5_keptApart_49 : decode cX5_keptApart 49 = .ok (.invokevirtual 188, 3) := by decide +kernel
theorem dX5_keptApart_52 : decode cX5_keptApart 52 = .ok (.invokevirtual 171, 3) := by decide +kernel
theorem dX5_keptApart_55 : decode cX5_keptApart 55 = .ok (.istore 5, 2) := by decide +kernel
theorem dX5_keptApart_57 : decode cX5_keptApart 57 = .ok (.iload 5, 2) := by decide +kernel
theorem dX5_keptApart_59 : decode cX5_keptApart 59 = .ok (.iload_n 1, 1) := by decide +kernel
theorem dX5_keptApart_60 : decode cX5_keptApart 60 = .ok (.if_icmp .ge 14, 3) := by decide +kernel
theorem dX5_keptApart_63 : decode cX5_keptApart 63 = .ok (.iload 5, 2) := by decide +kernel
theorem dX5_keptApart_65 : decode cX5_keptApart 65 = .ok (.istore_n 1, 1) := by decide +kernel
theorem dX5_keptApart_66 : decode cX5_keptApart 66 = .ok (.bipush 10, 2) := by decide +kernel
theorem dX5_keptApart_68 : decode cX5_keptApart 68 = .ok (.iload_n 3, 1) := by decide +kernel
theorem dX5_keptApart_69 : decode cX5_keptApart 69 = .ok (.imul, 1) := by decide +kernel
theorem dX5_keptApart_70 : decode cX5_keptApart 70 = .ok (.iload 4, 2) := by decide +kernel
theorem dX5_keptApart_72 : decode cX5_keptApart 72 = .ok (.iadd, 1) := by decide +kernel
theorem dX5_keptApart_73 : decode cX5_keptApart 73 = .ok (.istore_n 2, 1) := by decide +kernel
theorem dX5_keptApart_74 : decode cX5_keptApart 74 = .ok (.iinc 4 1, 3) := by decide +kernel
theorem dX5_keptApart_77 : decode cX5_keptApart 77 = .ok (.goto (-48), 3) := by decide +kernel
theorem dX5_keptApart_80 : decode cX5_keptApart 80 = .ok (.iinc 3 1, 3) := by decide +kernel
theorem dX5_keptApart_83 : decode cX5_keptApart 83 = .ok (.goto (-70), 3) := by decide +kernel
theorem dX5_keptApart_86 : decode cX5_keptApart 86 = .ok (.iload_n 2, 1) := by decide +kernel
theorem dX5_keptApart_87 : decode cX5_keptApart 87 = .ok (.ireturn, 1) := by decide +kernel
theorem dX5_rings_0 : decode cX5_rings 0 = .ok (.iconst 0, 1) := by decide +kernel
theorem dX5_rings_1 : decode cX5_rings 1 = .ok (.istore_n 1, 1) := by decide +kernel
theorem dX5_rings_2 : decode cX5_rings 2 = .ok (.iconst 0, 1) := by decide +kernel
theorem dX5_rings_3 : decode cX5_rings 3 = .ok (.istore_n 2, 1) := by decide +kernel
theorem dX5_rings_4 : decode cX5_rings 4 = .ok (.iload_n 2, 1) := by decide +kernel
theorem dX5_rings_5 : decode cX5_rings 5 = .ok (.aload_n 0, 1) := by decide +kernel
theorem dX5_rings_6 : decode cX5_rings 6 = .ok (.getfield 42, 3) := by decide +kernel
theorem dX5_rings_9 : decode cX5_rings 9 = .ok (.getfield 195, 3) := by decide +kernel
theorem dX5_rings_12 : decode cX5_rings 12 = .ok (.if_icmp .ge 78, 3) := by decide +kernel
theorem dX5_rings_15 : decode cX5_rings 15 = .ok (.iload_n 2, 1) := by decide +kernel
theorem dX5_rings_16 : decode cX5_rings 16 = .ok (.iconst 1, 1) := by decide +kernel
theorem dX5_rings_17 : decode cX5_rings 17 = .ok (.iadd, 1) := by decide +kernel
theorem dX5_rings_18 : decode cX5_rings 18 = .ok (.istore_n 3, 1) := by decide +kernel
theorem dX5_rings_19 : decode cX5_rings 19 = .ok (.iload_n 3, 1) := by decide +kernel
theorem dX5_rings_20 : decode cX5_rings 20 = .ok (.aload_n 0, 1) := by decide +kernel
theorem dX5_rings_21 : decode cX5_rings 21 = .ok (.getfield 42, 3) := by decide +kernel
theorem dX5_rings_24 : decode cX5_rings 24 = .ok (.getfield 195, 3) := by decide +kernel
theorem dX5_rings_27 : decode cX5_rings 27 = .ok (.if_icmp .ge 57, 3) := by decide +kernel
theorem dX5_rings_30 : decode cX5_rings 30 = .ok (.iload_n 3, 1) := by decide +kernel
theorem dX5_rings_31 : decode cX5_rings 31 = .ok (.iconst 1, 1) := by decide +kernel
theorem dX5_rings_32 : decode cX5_rings 32 = .ok (.iadd, 1) := by decide +kernel
theorem dX5_rings_33 : decode cX5_rings 33 = .ok (.istore 4, 2) := by decide +kernel
theorem dX5_rings_35 : decode cX5_rings 35 = .ok (.iload 4, 2) := by decide +kernel
theorem dX5_rings_37 : decode cX5_rings 37 = .ok (.aload_n 0, 1) := by decide +kernel
theorem dX5_rings_38 : decode cX5_rings 38 = .ok (.getfield 42, 3) := by decide +kernel
theorem dX5_rings_41 : decode cX5_rings 41 = .ok (.getfield 195, 3) := by decide +kernel
theorem dX5_rings_44 : decode cX5_rings 44 = .ok (.if_icmp .ge 34, 3) := by decide +kernel
theorem dX5_rings_47 : decode cX5_rings 47 = .ok (.aload_n 0, 1) := by decide +kernel
theorem dX5_rings_48 : decode cX5_rings 48 = .ok (.iload_n 2, 1) := by decide +kernel
theorem dX5_rings_49 : decode cX5_rings 49 = .ok (.iload_n 3, 1) := by decide +kernel
theorem dX5_rings_50 : decode cX5_rings 50 = .ok (.iload 4, 2) := by decide +kernel
theorem dX5_rings_52 : decode cX5_rings 52 = .ok (.invokevirtual 196, 3) := by decide +kernel
theorem dX5_rings_55 : decode cX5_rings 55 = .ok (.ifCond .ne 14, 3) := by decide +kernel
theorem dX5_rings_58 : decode cX5_rings 58 = .ok (.aload_n 0, 1) := by decide +kernel
theorem dX5_rings_59 : decode cX5_rings 59 = .ok (.iload_n 2, 1) := by decide +kernel
theorem dX5_rings_60 : decode cX5_rings 60 = .ok (.iload 4, 2) := by decide +kernel
theorem dX5_rings_62 : decode cX5_rings 62 = .ok (.iload_n 3, 1) := by decide +kernel
theorem dX5_rings_63 : decode cX5_rings 63 = .ok (.invokevirtual 196, 3) := by decide +kernel
theorem dX5_rings_66 : decode cX5_rings 66 = .ok (.ifCond .eq 6, 3) := by decide +kernel
theorem dX5_rings_69 : decode cX5_rings 69 = .ok (.iinc 1 1, 3) := by decide +kernel
theorem dX5_rings_72 : decode cX5_rings 72 = .ok (.iinc 4 1, 3) := by decide +kernel
theorem dX5_rings_75 : decode cX5_rings 75 = .ok (.goto (-40), 3) := by decide +kernel
theorem dX5_rings_78 : decode cX5_rings 78 = .ok (.iinc 3 1, 3) := by decide +kernel
theorem dX5_rings_81 : decode cX5_rings 81 = .ok (.goto (-62), 3) := by decide +kernel
theorem dX5_rings_84 : decode cX5_rings 84 = .ok (.iinc 2 1, 3) := by decide +kernel
theorem dX5_rings_87 : decode cX5_rings 87 = .ok (.goto (-83), 3) := by decide +kernel
theorem dX5_rings_90 : decode cX5_rings 90 = .ok (.iload_n 1, 1) := by decide +kernel
theorem dX5_rings_91 : decode cX5_rings 91 = .ok (.ireturn, 1) := by decide +kernel
theorem dX5_isRing_0 : decode cX5_isRing 0 = .ok (.aload_n 0, 1) := by decide +kernel
theorem dX5_isRing_1 : decode cX5_isRing 1 = .ok (.getfield 42, 3) := by decide +kernel
theorem dX5_isRing_4 : decode cX5_isRing 4 = .ok (.iload_n 1, 1) := by decide +kernel
theorem dX5_isRing_5 : decode cX5_isRing 5 = .ok (.iload_n 2, 1) := by decide +kernel
theorem dX5_isRing_6 : decode cX5_isRing 6 = .ok (.invokevirtual 127, 3) := by decide +kernel
theorem dX5_isRing_9 : decode cX5_isRing 9 = .ok (.iload_n 1, 1) := by decide +kernel
theorem dX5_isRing_10 : decode cX5_isRing 10 = .ok (.if_icmp .ne 33, 3) := by decide +kernel
theorem dX5_isRing_13 : decode cX5_isRing 13 = .ok (.aload_n 0, 1) := by decide +kernel
theorem dX5_isRing_14 : decode cX5_isRing 14 = .ok (.getfield 42, 3) := by decide +kernel
theorem dX5_isRing_17 : decode cX5_isRing 17 = .ok (.iload_n 2, 1) := by decide +kernel
theorem dX5_isRing_18 : decode cX5_isRing 18 = .ok (.iload_n 3, 1) := by decide +kernel
theorem dX5_isRing_19 : decode cX5_isRing 19 = .ok (.invokevirtual 127, 3) := by decide +kernel
theorem dX5_isRing_22 : decode cX5_isRing 22 = .ok (.iload_n 2, 1) := by decide +kernel
theorem dX5_isRing_23 : decode cX5_isRing 23 = .ok (.if_icmp .ne 20, 3) := by decide +kernel
theorem dX5_isRing_26 : decode cX5_isRing 26 = .ok (.aload_n 0, 1) := by decide +kernel
theorem dX5_isRing_27 : decode cX5_isRing 27 = .ok (.getfield 42, 3) := by decide +kernel
theorem dX5_isRing_30 : decode cX5_isRing 30 = .ok (.iload_n 3, 1) := by decide +kernel
theorem dX5_isRing_31 : decode cX5_isRing 31 = .ok (.iload_n 1, 1) := by decide +kernel
theorem dX5_isRing_32 : decode cX5_isRing 32 = .ok (.invokevirtual 127, 3) := by decide +kernel
theorem dX5_isRing_35 : decode cX5_isRing 35 = .ok (.iload_n 3, 1) := by decide +kernel
theorem dX5_isRing_36 : decode cX5_isRing 36 = .ok (.if_icmp .ne 7, 3) := by decide +kernel
theorem dX5_isRing_39 : decode cX5_isRing 39 = .ok (.iconst 1, 1) := by decide +kernel
theorem dX5_isRing_40 : decode cX5_isRing 40 = .ok (.goto 4, 3) := by decide +kernel
theorem dX5_isRing_43 : decode cX5_isRing 43 = .ok (.iconst 0, 1) := by decide +kernel
theorem dX5_isRing_44 : decode cX5_isRing 44 = .ok (.ireturn, 1) := by decide +kernel
theorem dX5_best_0 : decode cX5_best 0 = .ok (.aload_n 0, 1) := by decide +kernel
theorem dX5_best_1 : decode cX5_best 1 = .ok (.getfield 42, 3) := by decide +kernel
theorem dX5_best_4 : decode cX5_best 4 = .ok (.iload_n 1, 1) := by decide +kernel
theorem dX5_best_5 : decode cX5_best 5 = .ok (.invokevirtual 90, 3) := by decide +kernel
theorem dX5_best_8 : decode cX5_best 8 = .ok (.ifCond .eq 12, 3) := by decide +kernel
theorem dX5_best_11 : decode cX5_best 11 = .ok (.iload_n 2, 1) := by decide +kernel
theorem dX5_best_12 : decode cX5_best 12 = .ok (.iconst 0, 1) := by decide +kernel
theorem dX5_best_13 : decode cX5_best 13 = .ok (.iconst 1, 1) := by decide +kernel
theorem dX5_best_14 : decode cX5_best 14 = .ok (.invokestatic 82, 3) := by decide +kernel
theorem dX5_best_17 : decode cX5_best 17 = .ok (.ifCond .ne 6, 3) := by decide +kernel
theorem dX5_best_20 : decode cX5_best 20 = .ok (.bipush (-2), 2) := by decide +kernel
theorem dX5_best_22 : decode cX5_best 22 = .ok (.ireturn, 1) := by decide +kernel
theorem dX5_best_23 : decode cX5_best 23 = .ok (.iconst (-1), 1) := by decide +kernel
theorem dX5_best_24 : decode cX5_best 24 = .ok (.istore_n 3, 1) := by decide +kernel
theorem dX5_best_25 : decode cX5_best 25 = .ok (.iconst (-1), 1) := by decide +kernel
theorem dX5_best_26 : decode cX5_best 26 = .ok (.istore 4, 2) := by decide +kernel
theorem dX5_best_28 : decode cX5_best 28 = .ok (.iconst 0, 1) := by decide +kernel
theorem dX5_best_29 : decode cX5_best 29 = .ok (.istore 5, 2) := by decide +kernel
theorem dX5_best_31 : decode cX5_best 31 = .ok (.iload 5, 2) := by decide +kernel
theorem dX5_best_33 : decode cX5_best 33 = .ok (.aload_n 0, 1) := by decide +kernel
theorem dX5_best_34 : decode cX5_best 34 = .ok (.getfield 42, 3) := by decide +kernel
theorem dX5_best_37 : decode cX5_best 37 = .ok (.getfield 195, 3) := by decide +kernel
theorem dX5_best_40 : decode cX5_best 40 = .ok (.if_icmp .ge 41, 3) := by decide +kernel
theorem dX5_best_43 : decode cX5_best 43 = .ok (.iload 5, 2) := by decide +kernel
theorem dX5_best_45 : decode cX5_best 45 = .ok (.iload_n 1, 1) := by decide +kernel
theorem dX5_best_46 : decode cX5_best 46 = .ok (.if_icmp .ne 7, 3) := by decide +kernel
theorem dX5_best_49 : decode cX5_best 49 = .ok (.iconst (-1), 1) := by decide +kernel
theorem dX5_best_50 : decode cX5_best 50 = .ok (.goto 10, 3) := by decide +kernel
theorem dX5_best_53 : decode cX5_best 53 = .ok (.aload_n 0, 1) := by decide +kernel
theorem dX5_best_54 : decode cX5_best 54 = .ok (.iload_n 1, 1) := by decide +kernel
theorem dX5_best_55 : decode cX5_best 55 = .ok (.iload 5, 2) := by decide +kernel
theorem dX5_best_57 : decode cX5_best 57 = .ok (.invokevirtual 130, 3) := by decide +kernel
theorem dX5_best_60 : decode cX5_best 60 = .ok (.istore 6, 2) := by decide +kernel
theorem dX5_best_62 : decode cX5_best 62 = .ok (.iload 6, 2) := by decide +kernel
theorem dX5_best_64 : decode cX5_best 64 = .ok (.iload_n 3, 1) := by decide +kernel
theorem dX5_best_65 : decode cX5_best 65 = .ok (.if_icmp .le 10, 3) := by decide +kernel
theorem dX5_best_68 : decode cX5_best 68 = .ok (.iload 6, 2) := by decide +kernel
theorem dX5_best_70 : decode cX5_best 70 = .ok (.istore_n 3, 1) := by decide +kernel
theorem dX5_best_71 : decode cX5_best 71 = .ok (.iload 5, 2) := by decide +kernel
theorem dX5_best_73 : decode cX5_best 73 = .ok (.istore 4, 2) := by decide +kernel
theorem dX5_best_75 : decode cX5_best 75 = .ok (.iinc 5 1, 3) := by decide +kernel
theorem dX5_best_78 : decode cX5_best 78 = .ok (.goto (-47), 3) := by decide +kernel
theorem dX5_best_81 : decode cX5_best 81 = .ok (.iload_n 2, 1) := by decide +kernel
theorem dX5_best_82 : decode cX5_best 82 = .ok (.ifCond .ne 8, 3) := by decide +kernel
theorem dX5_best_85 : decode cX5_best 85 = .ok (.iload 4, 2) := by decide +kernel
theorem dX5_best_87 : decode cX5_best 87 = .ok (.goto 4, 3) := by decide +kernel
theorem dX5_best_90 : decode cX5_best 90 = .ok (.iload_n 3, 1) := by decide +kernel
theorem dX5_best_91 : decode cX5_best 91 = .ok (.ireturn, 1) := by decide +kernel
theorem dX5_order_0 : decode cX5_order 0 = .ok (.aload_n 0, 1) := by decide +kernel
theorem dX5_order_1 : decode cX5_order 1 = .ok (.getfield 42, 3) := by decide +kernel
theorem dX5_order_4 : decode cX5_order 4 = .ok (.iload_n 1, 1) := by decide +kernel
theorem dX5_order_5 : decode cX5_order 5 = .ok (.invokevirtual 90, 3) := by decide +kernel
theorem dX5_order_8 : decode cX5_order 8 = .ok (.ifCond .eq 12, 3) := by decide +kernel
theorem dX5_order_11 : decode cX5_order 11 = .ok (.iload_n 2, 1) := by decide +kernel
theorem dX5_order_12 : decode cX5_order 12 = .ok (.iconst 0, 1) := by decide +kernel
theorem dX5_order_13 : decode cX5_order 13 = .ok (.iconst 1, 1) := by decide +kernel
theorem dX5_order_14 : decode cX5_order 14 = .ok (.invokestatic 82, 3) := by decide +kernel
theorem dX5_order_17 : decode cX5_order 17 = .ok (.ifCond .ne 6, 3) := by decide +kernel
theorem dX5_order_20 : decode cX5_order 20 = .ok (.bipush (-2), 2) := by decide +kernel
theorem dX5_order_22 : decode cX5_order 22 = .ok (.ireturn, 1) := by decide +kernel
theorem dX5_order_23 : decode cX5_order 23 = .ok (.aload_n 0, 1) := by decide +kernel
theorem dX5_order_24 : decode cX5_order 24 = .ok (.iconst (-1), 1) := by decide +kernel
theorem dX5_order_25 : decode cX5_order 25 = .ok (.putfield 199, 3) := by decide +kernel
theorem dX5_order_28 : decode cX5_order 28 = .ok (.aload_n 0, 1) := by decide +kernel
theorem dX5_order_29 : decode cX5_order 29 = .ok (.iconst 0, 1) := by decide +kernel
theorem dX5_order_30 : decode cX5_order 30 = .ok (.putfield 202, 3) := by decide +kernel
theorem dX5_order_33 : decode cX5_order 33 = .ok (.aload_n 0, 1) := by decide +kernel
theorem dX5_order_34 : decode cX5_order 34 = .ok (.aload_n 0, 1) := by decide +kernel
theorem dX5_order_35 : decode cX5_order 35 = .ok (.getfield 42, 3) := by decide +kernel
theorem dX5_order_38 : decode cX5_order 38 = .ok (.iload_n 1, 1) := by decide +kernel
theorem dX5_order_39 : decode cX5_order 39 = .ok (.iconst 0, 1) := by decide +kernel
theorem dX5_order_40 : decode cX5_order 40 = .ok (.iconst 1, 1) := by decide +kernel
theorem dX5_order_41 : decode cX5_order 41 = .ok (.iload_n 1, 1) := by decide +kernel
theorem dX5_order_42 : decode cX5_order 42 = .ok (.ishl, 1) := by decide +kernel
theorem dX5_order_43 : decode cX5_order 43 = .ok (.iconst 0, 1) := by decide +kernel
theorem dX5_order_44 : decode cX5_order 44 = .ok (.invokevirtual 205, 3) := by decide +kernel
theorem dX5_order_47 : decode cX5_order 47 = .ok (.iload_n 2, 1) := by decide +kernel
theorem dX5_order_48 : decode cX5_order 48 = .ok (.ifCond .ne 10, 3) := by decide +kernel
theorem dX5_order_51 : decode cX5_order 51 = .ok (.aload_n 0, 1) := by decide +kernel
theorem dX5_order_52 : decode cX5_order 52 = .ok (.getfield 202, 3) := by decide +kernel
theorem dX5_order_55 : decode cX5_order 55 = .ok (.goto 7, 3) := by decide +kernel
theorem dX5_order_58 : decode cX5_order 58 = .ok (.aload_n 0, 1) := by decide +kernel
theorem dX5_order_59 : decode cX5_order 59 = .ok (.getfield 199, 3) := by decide +kernel
theorem dX5_order_62 : decode cX5_order 62 = .ok (.ireturn, 1) := by decide +kernel
theorem dX5_tryOrders_0 : decode cX5_tryOrders 0 = .ok (.iload_n 3, 1) := by decide +kernel
theorem dX5_tryOrders_1 : decode cX5_tryOrders 1 = .ok (.aload_n 0, 1) := by decide +kernel
theorem dX5_tryOrders_2 : decode cX5_tryOrders 2 = .ok (.getfield 42, 3) := by decide +kernel
theorem dX5_tryOrders_5 : decode cX5_tryOrders 5 = .ok (.getfield 195, 3) := by decide +kernel
theorem dX5_tryOrders_8 : decode cX5_tryOrders 8 = .ok (.iconst 1, 1) := by decide +kernel
theorem dX5_tryOrders_9 : decode cX5_tryOrders 9 = .ok (.isub, 1) := by decide +kernel
theorem dX5_tryOrders_10 : decode cX5_tryOrders 10 = .ok (.if_icmp .lt 31, 3) := by decide +kernel
theorem dX5_tryOrders_13 : decode cX5_tryOrders 13 = .ok (.aload_n 1, 1) := by decide +kernel
theorem dX5_tryOrders_14 : decode cX5_tryOrders 14 = .ok (.iload_n 2, 1) := by decide +kernel
theorem dX5_tryOrders_15 : decode cX5_tryOrders 15 = .ok (.invokevirtual 113, 3) := by decide +kernel
theorem dX5_tryOrders_18 : decode cX5_tryOrders 18 = .ok (.aload_n 0, 1) := by decide +kernel
theorem dX5_tryOrders_19 : decode cX5_tryOrders 19 = .ok (.getfield 199, 3) := by decide +kernel
theorem dX5_tryOrders_22 : decode cX5_tryOrders 22 = .ok (.if_icmp .le 18, 3) := by decide +kernel
theorem dX5_tryOrders_25 : decode cX5_tryOrders 25 = .ok (.aload_n 0, 1) := by decide +kernel
theorem dX5_tryOrders_26 : decode cX5_tryOrders 26 = .ok (.aload_n 1, 1) := by decide +kernel
theorem dX5_tryOrders_27 : decode cX5_tryOrders 27 = .ok (.iload_n 2, 1) := by decide +kernel
theorem dX5_tryOrders_28 : decode cX5_tryOrders 28 = .ok (.invokevirtual 113, 3) := by decide +kernel
theorem dX5_tryOrders_31 : decode cX5_tryOrders 31 = .ok (.putfield 199, 3) := by decide +kernel
theorem dX5_tryOrders_34 : decode cX5_tryOrders 34 = .ok (.aload_n 0, 1) := by decide +kernel
theorem dX5_tryOrders_35 : decode cX5_tryOrders 35 = .ok (.iload 5, 2) := by decide +kernel
theorem dX5_tryOrders_37 : decode cX5_tryOrders 37 = .ok (.putfield 202, 3) := by decide +kernel
theorem dX5_tryOrders_40 : decode cX5_tryOrders 40 = .ok (.return_, 1) := by decide +kernel
theorem dX5_tryOrders_41 : decode cX5_tryOrders 41 = .ok (.iconst 0, 1) := by decide +kernel
theorem dX5_tryOrders_42 : decode cX5_tryOrders 42 = .ok (.istore 6, 2) := by decide +kernel
theorem dX5_tryOrders_44 : decode cX5_tryOrders 44 = .ok (.iload 6, 2) := by decide +kernel
theorem dX5_tryOrders_46 : decode cX5_tryOrders 46 = .ok (.aload_n 0, 1) := by decide +kernel
theorem dX5_tryOrders_47 : decode cX5_tryOrders 47 = .ok (.getfield 42, 3) := by decide +kernel
theorem dX5_tryOrders_50 : decode cX5_tryOrders 50 = .ok (.getfield 195, 3) := by decide +kernel
theorem dX5_tryOrders_53 : decode cX5_tryOrders 53 = .ok (.if_icmp .ge 81, 3) := by decide +kernel
theorem dX5_tryOrders_56 : decode cX5_tryOrders 56 = .ok (.aload_n 0, 1) := by decide +kernel
theorem dX5_tryOrders_57 : decode cX5_tryOrders 57 = .ok (.getfield 199, 3) := by decide +kernel
theorem dX5_tryOrders_60 : decode cX5_tryOrders 60 = .ok (.bipush 8, 2) := by decide +kernel
theorem dX5_tryOrders_62 : decode cX5_tryOrders 62 = .ok (.if_icmp .ge 72, 3) := by decide +kernel
theorem dX5_tryOrders_65 : decode cX5_tryOrders 65 = .ok (.iload 4, 2) := by decide +kernel
theorem dX5_tryOrders_67 : decode cX5_tryOrders 67 = .ok (.iload 6, 2) := by decide +kernel
theorem dX5_tryOrders_69 : decode cX5_tryOrders 69 = .ok (.ishr, 1) := by decide +kernel
theorem dX5_tryOrders_70 : decode cX5_tryOrders 70 = .ok (.iconst 1, 1) := by decide +kernel
theorem dX5_tryOrders_71 : decode cX5_tryOrders 71 = .ok (.iand, 1) := by decide +kernel
theorem dX5_tryOrders_72 : decode cX5_tryOrders 72 = .ok (.ifCond .eq 7, 3) := by decide +kernel
theorem dX5_tryOrders_75 : decode cX5_tryOrders 75 = .ok (.aconst_null, 1) := by decide +kernel
theorem dX5_tryOrders_76 : decode cX5_tryOrders 76 = .ok (.goto 9, 3) := by decide +kernel
theorem dX5_tryOrders_79 : decode cX5_tryOrders 79 = .ok (.aload_n 0, 1) := by decide +kernel
theorem dX5_tryOrders_80 : decode cX5_tryOrders 80 = .ok (.aload_n 1, 1) := by decide +kernel
theorem dX5_tryOrders_81 : decode cX5_tryOrders 81 = .ok (.iload_n 3, 1) := by decide +kernel
theorem dX5_tryOrders_82 : decode cX5_tryOrders 82 = .ok (.invokevirtual 209, 3) := by decide +kernel
theorem dX5_tryOrders_85 : decode cX5_tryOrders 85 = .ok (.astore 7, 2) := by decide +kernel
theorem dX5_tryOrders_87 : decode cX5_tryOrders 87 = .ok (.aload 7, 2) := by decide +kernel
theorem dX5_tryOrders_89 : decode cX5_tryOrders 89 = .ok (.ifnull 39, 3) := by decide +kernel
theorem dX5_tryOrders_92 : decode cX5_tryOrders 92 = .ok (.aload 7, 2) := by decide +kernel
theorem dX5_tryOrders_94 : decode cX5_tryOrders 94 = .ok (.iload_n 2, 1) := by decide +kernel
theorem dX5_tryOrders_95 : decode cX5_tryOrders 95 = .ok (.iload 6, 2) := by decide +kernel
theorem dX5_tryOrders_97 : decode cX5_tryOrders 97 = .ok (.invokevirtual 137, 3) := by decide +kernel
theorem dX5_tryOrders_100 : decode cX5_tryOrders 100 = .ok (.pop, 1) := by decide +kernel
theorem dX5_tryOrders_101 : decode cX5_tryOrders 101 = .ok (.aload_n 0, 1) := by decide +kernel
theorem dX5_tryOrders_102 : decode cX5_tryOrders 102 = .ok (.aload 7, 2) := by decide +kernel
theorem dX5_tryOrders_104 : decode cX5_tryOrders 104 = .ok (.iload_n 2, 1) := by decide +kernel
theorem dX5_tryOrders_105 : decode cX5_tryOrders 105 = .ok (.iload_n 3, 1) := by decide +kernel
theorem dX5_tryOrders_106 : decode cX5_tryOrders 106 = .ok (.iconst 1, 1) := by decide +kernel
theorem dX5_tryOrders_107 : decode cX5_tryOrders 107 = .ok (.iadd, 1) := by decide +kernel
theorem dX5_tryOrders_108 : decode cX5_tryOrders 108 = .ok (.iload 4, 2) := by decide +kernel
theorem dX5_tryOrders_110 : decode cX5_tryOrders 110 = .ok (.iconst 1, 1) := by decide +kernel
theorem dX5_tryOrders_111 : decode cX5_tryOrders 111 = .ok (.iload 6, 2) := by decide +kernel
theorem dX5_tryOrders_113 : decode cX5_tryOrders 113 = .ok (.ishl, 1) := by decide +kernel
theorem dX5_tryOrders_114 : decode cX5_tryOrders 114 = .ok (.ior, 1) := by decide +kernel
theorem dX5_tryOrders_115 : decode cX5_tryOrders 115 = .ok (.iload 5, 2) := by decide +kernel
theorem dX5_tryOrders_117 : decode cX5_tryOrders 117 = .ok (.bipush 10, 2) := by decide +kernel
theorem dX5_tryOrders_119 : decode cX5_tryOrders 119 = .ok (.imul, 1) := by decide +kernel
theorem dX5_tryOrders_120 : decode cX5_tryOrders 120 = .ok (.iload 6, 2) := by decide +kernel
theorem dX5_tryOrders_122 : decode cX5_tryOrders 122 = .ok (.iadd, 1) := by decide +kernel
theorem dX5_tryOrders_123 : decode cX5_tryOrders 123 = .ok (.iconst 1, 1) := by decide +kernel
theorem dX5_tryOrders_124 : decode cX5_tryOrders 124 = .ok (.iadd, 1) := by decide +kernel
theorem dX5_tryOrders_125 : decode cX5_tryOrders 125 = .ok (.invokevirtual 205, 3) := by decide +kernel
theorem dX5_tryOrders_128 : decode cX5_tryOrders 128 = .ok (.iinc 6 1, 3) := by decide +kernel
theorem dX5_tryOrders_131 : decode cX5_tryOrders 131 = .ok (.goto (-87), 3) := by decide +kernel
theorem dX5_tryOrders_134 : decode cX5_tryOrders 134 = .ok (.return_, 1) := by decide +kernel
theorem dX5_all_0 : decode cX5_all 0 = .ok (.iload_n 1, 1) := by decide +kernel
theorem dX5_all_1 : decode cX5_all 1 = .ok (.iconst 0, 1) := by decide +kernel
theorem dX5_all_2 : decode cX5_all 2 = .ok (.iconst 3, 1) := by decide +kernel
theorem dX5_all_3 : decode cX5_all 3 = .ok (.invokestatic 82, 3) := by decide +kernel
theorem dX5_all_6 : decode cX5_all 6 = .ok (.ifCond .ne 6, 3) := by decide +kernel
theorem dX5_all_9 : decode cX5_all 9 = .ok (.bipush (-2), 2) := by decide +kernel
theorem dX5_all_11 : decode cX5_all 11 = .ok (.ireturn, 1) := by decide +kernel
theorem dX5_all_12 : decode cX5_all 12 = .ok (.iload_n 1, 1) := by decide +kernel
theorem dX5_all_13 : decode cX5_all 13 = .ok (.iconst 3, 1) := by decide +kernel
theorem dX5_all_14 : decode cX5_all 14 = .ok (.if_icmp .ne 17, 3) := by decide +kernel
theorem dX5_all_17 : decode cX5_all 17 = .ok (.aload_n 0, 1) := by decide +kernel
theorem dX5_all_18 : decode cX5_all 18 = .ok (.getfield 42, 3) := by decide +kernel
theorem dX5_all_21 : decode cX5_all 21 = .ok (.getfield 195, 3) := by decide +kernel
theorem dX5_all_24 : decode cX5_all 24 = .ok (.iconst 4, 1) := by decide +kernel
theorem dX5_all_25 : decode cX5_all 25 = .ok (.if_icmp .le 6, 3) := by decide +kernel
theorem dX5_all_28 : decode cX5_all 28 = .ok (.bipush (-3), 2) := by decide +kernel
theorem dX5_all_30 : decode cX5_all 30 = .ok (.ireturn, 1) := by decide +kernel
theorem dX5_all_31 : decode cX5_all 31 = .ok (.aload_n 0, 1) := by decide +kernel
theorem dX5_all_32 : decode cX5_all 32 = .ok (.aload_n 0, 1) := by decide +kernel
theorem dX5_all_33 : decode cX5_all 33 = .ok (.getfield 42, 3) := by decide +kernel
theorem dX5_all_36 : decode cX5_all 36 = .ok (.iconst 0, 1) := by decide +kernel
theorem dX5_all_37 : decode cX5_all 37 = .ok (.iload_n 1, 1) := by decide +kernel
theorem dX5_all_38 : decode cX5_all 38 = .ok (.invokevirtual 213, 3) := by decide +kernel
theorem dX5_all_41 : decode cX5_all 41 = .ok (.ireturn, 1) := by decide +kernel
theorem dX5_whoCouldHaveAll_0 : decode cX5_whoCouldHaveAll 0 = .ok (.aload_n 1, 1) := by decide +kernel
theorem dX5_whoCouldHaveAll_1 : decode cX5_whoCouldHaveAll 1 = .ok (.invokevirtual 217, 3) := by decide +kernel
theorem dX5_whoCouldHaveAll_4 : decode cX5_whoCouldHaveAll 4 = .ok (.istore 4, 2) := by decide +kernel
theorem dX5_whoCouldHaveAll_6 : decode cX5_whoCouldHaveAll 6 = .ok (.iload_n 2, 1) := by decide +kernel
theorem dX5_whoCouldHaveAll_7 : decode cX5_whoCouldHaveAll 7 = .ok (.iload_n 3, 1) := by decide +kernel
theorem dX5_whoCouldHaveAll_8 : decode cX5_whoCouldHaveAll 8 = .ok (.if_icmp .lt 6, 3) := by decide +kernel
theorem dX5_whoCouldHaveAll_11 : decode cX5_whoCouldHaveAll 11 = .ok (.iload 4, 2) := by decide +kernel
theorem dX5_whoCouldHaveAll_13 : decode cX5_whoCouldHaveAll 13 = .ok (.ireturn, 1) := by decide +kernel
theorem dX5_whoCouldHaveAll_14 : decode cX5_whoCouldHaveAll 14 = .ok (.iconst 0, 1) := by decide +kernel
theorem dX5_whoCouldHaveAll_15 : decode cX5_whoCouldHaveAll 15 = .ok (.istore 5, 2) := by decide +kernel
theorem dX5_whoCouldHaveAll_17 : decode cX5_whoCouldHaveAll 17 = .ok (.iload 5, 2) := by decide +kernel
theorem dX5_whoCouldHaveAll_19 : decode cX5_whoCouldHaveAll 19 = .ok (.aload_n 0, 1) := by decide +kernel
theorem dX5_whoCouldHaveAll_20 : decode cX5_whoCouldHaveAll 20 = .ok (.getfield 42, 3) := by decide +kernel
theorem dX5_whoCouldHaveAll_23 : decode cX5_whoCouldHaveAll 23 = .ok (.getfield 195, 3) := by decide +kernel
theorem dX5_whoCouldHaveAll_26 : decode cX5_whoCouldHaveAll 26 = .ok (.if_icmp .ge 71, 3) := by decide +kernel
theorem dX5_whoCouldHaveAll_29 : decode cX5_whoCouldHaveAll 29 = .ok (.iload 5, 2) := by decide +kernel
theorem dX5_whoCouldHaveAll_31 : decode cX5_whoCouldHaveAll 31 = .ok (.iconst 1, 1) := by decide +kernel
theorem dX5_whoCouldHaveAll_32 : decode cX5_whoCouldHaveAll 32 = .ok (.iadd, 1) := by decide +kernel
theorem dX5_whoCouldHaveAll_33 : decode cX5_whoCouldHaveAll 33 = .ok (.istore 6, 2) := by decide +kernel
theorem dX5_whoCouldHaveAll_35 : decode cX5_whoCouldHaveAll 35 = .ok (.iload 6, 2) := by decide +kernel
theorem dX5_whoCouldHaveAll_37 : decode cX5_whoCouldHaveAll 37 = .ok (.aload_n 0, 1) := by decide +kernel
theorem dX5_whoCouldHaveAll_38 : decode cX5_whoCouldHaveAll 38 = .ok (.getfield 42, 3) := by decide +kernel
theorem dX5_whoCouldHaveAll_41 : decode cX5_whoCouldHaveAll 41 = .ok (.getfield 195, 3) := by decide +kernel
theorem dX5_whoCouldHaveAll_44 : decode cX5_whoCouldHaveAll 44 = .ok (.if_icmp .ge 47, 3) := by decide +kernel
theorem dX5_whoCouldHaveAll_47 : decode cX5_whoCouldHaveAll 47 = .ok (.aload_n 0, 1) := by decide +kernel
theorem dX5_whoCouldHaveAll_48 : decode cX5_whoCouldHaveAll 48 = .ok (.aload_n 1, 1) := by decide +kernel
theorem dX5_whoCouldHaveAll_49 : decode cX5_whoCouldHaveAll 49 = .ok (.iload_n 2, 1) := by decide +kernel
theorem dX5_whoCouldHaveAll_50 : decode cX5_whoCouldHaveAll 50 = .ok (.invokevirtual 209, 3) := by decide +kernel
theorem dX5_whoCouldHaveAll_53 : decode cX5_whoCouldHaveAll 53 = .ok (.astore 7, 2) := by decide +kernel
theorem dX5_whoCouldHaveAll_55 : decode cX5_whoCouldHaveAll 55 = .ok (.aload 7, 2) := by decide +kernel
theorem dX5_whoCouldHaveAll_57 : decode cX5_whoCouldHaveAll 57 = .ok (.ifnull 28, 3) := by decide +kernel
theorem dX5_whoCouldHaveAll_60 : decode cX5_whoCouldHaveAll 60 = .ok (.aload 7, 2) := by decide +kernel
theorem dX5_whoCouldHaveAll_62 : decode cX5_whoCouldHaveAll 62 = .ok (.iload 5, 2) := by decide +kernel
theorem dX5_whoCouldHaveAll_64 : decode cX5_whoCouldHaveAll 64 = .ok (.iload 6, 2) := by decide +kernel
theorem dX5_whoCouldHaveAll_66 : decode cX5_whoCouldHaveAll 66 = .ok (.invokevirtual 137, 3) := by decide +kernel
theorem dX5_whoCouldHaveAll_69 : decode cX5_whoCouldHaveAll 69 = .ok (.pop, 1) := by decide +kernel
theorem dX5_whoCouldHaveAll_70 : decode cX5_whoCouldHaveAll 70 = .ok (.iload 4, 2) := by decide +kernel
theorem dX5_whoCouldHaveAll_72 : decode cX5_whoCouldHaveAll 72 = .ok (.aload_n 0, 1) := by decide +kernel
theorem dX5_whoCouldHaveAll_73 : decode cX5_whoCouldHaveAll 73 = .ok (.aload 7, 2) := by decide +kernel
theorem dX5_whoCouldHaveAll_75 : decode cX5_whoCouldHaveAll 75 = .ok (.iload_n 2, 1) := by decide +kernel
theorem dX5_whoCouldHaveAll_76 : decode cX5_whoCouldHaveAll 76 = .ok (.iconst 1, 1) := by decide +kernel
theorem dX5_whoCouldHaveAll_77 : decode cX5_whoCouldHaveAll 77 = .ok (.iadd, 1) := by decide +kernel
theorem dX5_whoCouldHaveAll_78 : decode cX5_whoCouldHaveAll 78 = .ok (.iload_n 3, 1) := by decide +kernel
theorem dX5_whoCouldHaveAll_79 : decode cX5_whoCouldHaveAll 79 = .ok (.invokevirtual 213, 3) := by decide +kernel
theorem dX5_whoCouldHaveAll_82 : decode cX5_whoCouldHaveAll 82 = .ok (.ior, 1) := by decide +kernel
theorem dX5_whoCouldHaveAll_83 : decode cX5_whoCouldHaveAll 83 = .ok (.istore 4, 2) := by decide +kernel
theorem dX5_whoCouldHaveAll_85 : decode cX5_whoCouldHaveAll 85 = .ok (.iinc 6 1, 3) := by decide +kernel
theorem dX5_whoCouldHaveAll_88 : decode cX5_whoCouldHaveAll 88 = .ok (.goto (-53), 3) := by decide +kernel
theorem dX5_whoCouldHaveAll_91 : decode cX5_whoCouldHaveAll 91 = .ok (.iinc 5 1, 3) := by decide +kernel
theorem dX5_whoCouldHaveAll_94 : decode cX5_whoCouldHaveAll 94 = .ok (.goto (-77), 3) := by decide +kernel
theorem dX5_whoCouldHaveAll_97 : decode cX5_whoCouldHaveAll 97 = .ok (.iload 4, 2) := by decide +kernel
theorem dX5_whoCouldHaveAll_99 : decode cX5_whoCouldHaveAll 99 = .ok (.ireturn, 1) := by decide +kernel
theorem dX5_soon_0 : decode cX5_soon 0 = .ok (.aload_n 0, 1) := by decide +kernel
theorem dX5_soon_1 : decode cX5_soon 1 = .ok (.getfield 42, 3) := by decide +kernel
theorem dX5_soon_4 : decode cX5_soon 4 = .ok (.iload_n 1, 1) := by decide +kernel
theorem dX5_soon_5 : decode cX5_soon 5 = .ok (.iload_n 2, 1) := by decide +kernel
theorem dX5_soon_6 : decode cX5_soon 6 = .ok (.invokevirtual 116, 3) := by decide +kernel
theorem dX5_soon_9 : decode cX5_soon 9 = .ok (.ifCond .ne 6, 3) := by decide +kernel
theorem dX5_soon_12 : decode cX5_soon 12 = .ok (.bipush (-2), 2) := by decide +kernel
theorem dX5_soon_14 : decode cX5_soon 14 = .ok (.ireturn, 1) := by decide +kernel
theorem dX5_soon_15 : decode cX5_soon 15 = .ok (.aload_n 0, 1) := by decide +kernel
theorem dX5_soon_16 : decode cX5_soon 16 = .ok (.invokevirtual 133, 3) := by decide +kernel
theorem dX5_soon_19 : decode cX5_soon 19 = .ok (.astore_n 3, 1) := by decide +kernel
theorem dX5_soon_20 : decode cX5_soon 20 = .ok (.iconst 0, 1) := by decide +kernel
theorem dX5_soon_21 : decode cX5_soon 21 = .ok (.istore 4, 2) := by decide +kernel
theorem dX5_soon_23 : decode cX5_soon 23 = .ok (.iload 4, 2) := by decide +kernel
theorem dX5_soon_25 : decode cX5_soon 25 = .ok (.bipush 20, 2) := by decide +kernel
theorem dX5_soon_27 : decode cX5_soon 27 = .ok (.if_icmp .gt 28, 3) := by decide +kernel
theorem dX5_soon_30 : decode cX5_soon 30 = .ok (.aload_n 3, 1) := by decide +kernel
theorem dX5_soon_31 : decode cX5_soon 31 = .ok (.getfield 110, 3) := by decide +kernel
theorem dX5_soon_34 : decode cX5_soon 34 = .ok (.iload_n 1, 1) := by decide +kernel
theorem dX5_soon_35 : decode cX5_soon 35 = .ok (.iaload, 1) := by decide +kernel
theorem dX5_soon_36 : decode cX5_soon 36 = .ok (.ifCond .ne 6, 3) := by decide +kernel
theorem dX5_soon_39 : decode cX5_soon 39 = .ok (.iload 4, 2) := by decide +kernel
theorem dX5_soon_41 : decode cX5_soon 41 = .ok (.ireturn, 1) := by decide +kernel
theorem dX5_soon_42 : decode cX5_soon 42 = .ok (.aload_n 3, 1) := by decide +kernel
theorem dX5_soon_43 : decode cX5_soon 43 = .ok (.iload_n 1, 1) := by decide +kernel
theorem dX5_soon_44 : decode cX5_soon 44 = .ok (.iload_n 2, 1) := by decide +kernel
theorem dX5_soon_45 : decode cX5_soon 45 = .ok (.invokevirtual 137, 3) := by decide +kernel
theorem dX5_soon_48 : decode cX5_soon 48 = .ok (.pop, 1) := by decide +kernel
theorem dX5_soon_49 : decode cX5_soon 49 = .ok (.iinc 4 1, 3) := by decide +kernel
theorem dX5_soon_52 : decode cX5_soon 52 = .ok (.goto (-29), 3) := by decide +kernel
theorem dX5_soon_55 : decode cX5_soon 55 = .ok (.iconst (-1), 1) := by decide +kernel
theorem dX5_soon_56 : decode cX5_soon 56 = .ok (.ireturn, 1) := by decide +kernel
theorem dX5_tells_0 : decode cX5_tells 0 = .ok (.aload_n 0, 1) := by decide +kernel
theorem dX5_tells_1 : decode cX5_tells 1 = .ok (.iload_n 1, 1) := by decide +kernel
theorem dX5_tells_2 : decode cX5_tells 2 = .ok (.invokevirtual 155, 3) := by decide +kernel
theorem dX5_tells_5 : decode cX5_tells 5 = .ok (.astore 4, 2) := by decide +kernel
theorem dX5_tells_7 : decode cX5_tells 7 = .ok (.aload 4, 2) := by decide +kernel
theorem dX5_tells_9 : decode cX5_tells 9 = .ok (.ifnull 24, 3) := by decide +kernel
theorem dX5_tells_12 : decode cX5_tells 12 = .ok (.aload_n 0, 1) := by decide +kernel
theorem dX5_tells_13 : decode cX5_tells 13 = .ok (.getfield 42, 3) := by decide +kernel
theorem dX5_tells_16 : decode cX5_tells 16 = .ok (.iload_n 2, 1) := by decide +kernel
theorem dX5_tells_17 : decode cX5_tells 17 = .ok (.invokevirtual 90, 3) := by decide +kernel
theorem dX5_tells_20 : decode cX5_tells 20 = .ok (.ifCond .eq 13, 3) := by decide +kernel
theorem dX5_tells_23 : decode cX5_tells 23 = .ok (.iload_n 3, 1) := by decide +kernel
theorem dX5_tells_24 : decode cX5_tells 24 = .ok (.iconst 0, 1) := by decide +kernel
theorem dX5_tells_25 : decode cX5_tells 25 = .ok (.bipush 8, 2) := by decide +kernel
theorem dX5_tells_27 : decode cX5_tells 27 = .ok (.invokestatic 82, 3) := by decide +kernel
theorem dX5_tells_30 : decode cX5_tells 30 = .ok (.ifCond .ne 6, 3) := by decide +kernel
theorem dX5_tells_33 : decode cX5_tells 33 = .ok (.bipush (-2), 2) := by decide +kernel
theorem dX5_tells_35 : decode cX5_tells 35 = .ok (.ireturn, 1) := by decide +kernel
theorem dX5_tells_36 : decode cX5_tells 36 = .ok (.aload 4, 2) := by decide +kernel
theorem dX5_tells_38 : decode cX5_tells 38 = .ok (.invokevirtual 159, 3) := by decide +kernel
theorem dX5_tells_41 : decode cX5_tells 41 = .ok (.ifCond .eq 6, 3) := by decide +kernel
theorem dX5_tells_44 : decode cX5_tells 44 = .ok (.bipush (-11), 2) := by decide +kernel
theorem dX5_tells_46 : decode cX5_tells 46 = .ok (.ireturn, 1) := by decide +kernel
theorem dX5_tells_47 : decode cX5_tells 47 = .ok (.aload 4, 2) := by decide +kernel
theorem dX5_tells_49 : decode cX5_tells 49 = .ok (.getfield 178, 3) := by decide +kernel
theorem dX5_tells_52 : decode cX5_tells 52 = .ok (.aload_n 0, 1) := by decide +kernel
theorem dX5_tells_53 : decode cX5_tells 53 = .ok (.getfield 42, 3) := by decide +kernel
theorem dX5_tells_56 : decode cX5_tells 56 = .ok (.getfield 195, 3) := by decide +kernel
theorem dX5_tells_59 : decode cX5_tells 59 = .ok (.if_icmp .eq 6, 3) := by decide +kernel
theorem dX5_tells_62 : decode cX5_tells 62 = .ok (.bipush (-2), 2) := by decide +kernel
theorem dX5_tells_64 : decode cX5_tells 64 = .ok (.ireturn, 1) := by decide +kernel
theorem dX5_tells_65 : decode cX5_tells 65 = .ok (.iload_n 3, 1) := by decide +kernel
theorem dX5_tells_66 : decode cX5_tells 66 = .ok (.tableswitch 104 0 8 #[50, 104, 104, 61, 70, 79, 88, 104, 97], 50) := by decide +kernel
theorem dX5_tells_116 : decode cX5_tells 116 = .ok (.aload_n 0, 1) := by decide +kernel
theorem dX5_tells_117 : decode cX5_tells 117 = .ok (.getfield 42, 3) := by decide +kernel
theorem dX5_tells_120 : decode cX5_tells 120 = .ok (.aload 4, 2) := by decide +kernel
theorem dX5_tells_122 : decode cX5_tells 122 = .ok (.iload_n 2, 1) := by decide +kernel
theorem dX5_tells_123 : decode cX5_tells 123 = .ok (.invokestatic 220, 3) := by decide +kernel
theorem dX5_tells_126 : decode cX5_tells 126 = .ok (.ireturn, 1) := by decide +kernel
theorem dX5_tells_127 : decode cX5_tells 127 = .ok (.aload_n 0, 1) := by decide +kernel
theorem dX5_tells_128 : decode cX5_tells 128 = .ok (.aload 4, 2) := by decide +kernel
theorem dX5_tells_130 : decode cX5_tells 130 = .ok (.iload_n 2, 1) := by decide +kernel
theorem dX5_tells_131 : decode cX5_tells 131 = .ok (.iconst 0, 1) := by decide +kernel
theorem dX5_tells_132 : decode cX5_tells 132 = .ok (.invokevirtual 224, 3) := by decide +kernel
theorem dX5_tells_135 : decode cX5_tells 135 = .ok (.ireturn, 1) := by decide +kernel
theorem dX5_tells_136 : decode cX5_tells 136 = .ok (.aload_n 0, 1) := by decide +kernel
theorem dX5_tells_137 : decode cX5_tells 137 = .ok (.aload 4, 2) := by decide +kernel
theorem dX5_tells_139 : decode cX5_tells 139 = .ok (.iload_n 2, 1) := by decide +kernel
theorem dX5_tells_140 : decode cX5_tells 140 = .ok (.iconst 0, 1) := by decide +kernel
theorem dX5_tells_141 : decode cX5_tells 141 = .ok (.invokevirtual 228, 3) := by decide +kernel
theorem dX5_tells_144 : decode cX5_tells 144 = .ok (.ireturn, 1) := by decide +kernel
theorem dX5_tells_145 : decode cX5_tells 145 = .ok (.aload_n 0, 1) := by decide +kernel
theorem dX5_tells_146 : decode cX5_tells 146 = .ok (.aload 4, 2) := by decide +kernel
theorem dX5_tells_148 : decode cX5_tells 148 = .ok (.iload_n 2, 1) := by decide +kernel
theorem dX5_tells_149 : decode cX5_tells 149 = .ok (.iconst 4, 1) := by decide +kernel
theorem dX5_tells_150 : decode cX5_tells 150 = .ok (.invokevirtual 224, 3) := by decide +kernel
theorem dX5_tells_153 : decode cX5_tells 153 = .ok (.ireturn, 1) := by decide +kernel
theorem dX5_tells_154 : decode cX5_tells 154 = .ok (.aload_n 0, 1) := by decide +kernel
theorem dX5_tells_155 : decode cX5_tells 155 = .ok (.aload 4, 2) := by decide +kernel
theorem dX5_tells_157 : decode cX5_tells 157 = .ok (.iload_n 2, 1) := by decide +kernel
theorem dX5_tells_158 : decode cX5_tells 158 = .ok (.iconst 4, 1) := by decide +kernel
theorem dX5_tells_159 : decode cX5_tells 159 = .ok (.invokevirtual 228, 3) := by decide +kernel
theorem dX5_tells_162 : decode cX5_tells 162 = .ok (.ireturn, 1) := by decide +kernel
theorem dX5_tells_163 : decode cX5_tells 163 = .ok (.aload_n 0, 1) := by decide +kernel
theorem dX5_tells_164 : decode cX5_tells 164 = .ok (.aload 4, 2) := by decide +kernel
theorem dX5_tells_166 : decode cX5_tells 166 = .ok (.invokevirtual 231, 3) := by decide +kernel
theorem dX5_tells_169 : decode cX5_tells 169 = .ok (.ireturn, 1) := by decide +kernel
theorem dX5_tells_170 : decode cX5_tells 170 = .ok (.aload_n 0, 1) := by decide +kernel
theorem dX5_tells_171 : decode cX5_tells 171 = .ok (.aload 4, 2) := by decide +kernel
theorem dX5_tells_173 : decode cX5_tells 173 = .ok (.iload_n 2, 1) := by decide +kernel
theorem dX5_tells_174 : decode cX5_tells 174 = .ok (.iload_n 3, 1) := by decide +kernel
theorem dX5_tells_175 : decode cX5_tells 175 = .ok (.invokevirtual 235, 3) := by decide +kernel
theorem dX5_tells_178 : decode cX5_tells 178 = .ok (.ireturn, 1) := by decide +kernel
theorem dX5_firstOtherwise_0 : decode cX5_firstOtherwise 0 = .ok (.iconst 0, 1) := by decide +kernel
theorem dX5_firstOtherwise_1 : decode cX5_firstOtherwise 1 = .ok (.istore_n 3, 1) := by decide +kernel
theorem dX5_firstOtherwise_2 : decode cX5_firstOtherwise 2 = .ok (.iload_n 3, 1) := by decide +kernel
theorem dX5_firstOtherwise_3 : decode cX5_firstOtherwise 3 = .ok (.aload_n 0, 1) := by decide +kernel
theorem dX5_firstOtherwise_4 : decode cX5_firstOtherwise 4 = .ok (.getfield 195, 3) := by decide +kernel
theorem dX5_firstOtherwise_7 : decode cX5_firstOtherwise 7 = .ok (.if_icmp .ge 25, 3) := by decide +kernel
theorem dX5_firstOtherwise_10 : decode cX5_firstOtherwise 10 = .ok (.aload_n 0, 1) := by decide +kernel
theorem dX5_firstOtherwise_11 : decode cX5_firstOtherwise 11 = .ok (.iload_n 2, 1) := by decide +kernel
theorem dX5_firstOtherwise_12 : decode cX5_firstOtherwise 12 = .ok (.iload_n 3, 1) := by decide +kernel
theorem dX5_firstOtherwise_13 : decode cX5_firstOtherwise 13 = .ok (.invokevirtual 120, 3) := by decide +kernel
theorem dX5_firstOtherwise_16 : decode cX5_firstOtherwise 16 = .ok (.aload_n 1, 1) := by decide +kernel
theorem dX5_firstOtherwise_17 : decode cX5_firstOtherwise 17 = .ok (.iload_n 3, 1) := by decide +kernel
theorem dX5_firstOtherwise_18 : decode cX5_firstOtherwise 18 = .ok (.invokevirtual 179, 3) := by decide +kernel
theorem dX5_firstOtherwise_21 : decode cX5_firstOtherwise 21 = .ok (.if_icmp .eq 5, 3) := by decide +kernel
theorem dX5_firstOtherwise_24 : decode cX5_firstOtherwise 24 = .ok (.iload_n 3, 1) := by decide +kernel
theorem dX5_firstOtherwise_25 : decode cX5_firstOtherwise 25 = .ok (.ireturn, 1) := by decide +kernel
theorem dX5_firstOtherwise_26 : decode cX5_firstOtherwise 26 = .ok (.iinc 3 1, 3) := by decide +kernel
theorem dX5_firstOtherwise_29 : decode cX5_firstOtherwise 29 = .ok (.goto (-27), 3) := by decide +kernel
theorem dX5_firstOtherwise_32 : decode cX5_firstOtherwise 32 = .ok (.iconst (-1), 1) := by decide +kernel
theorem dX5_firstOtherwise_33 : decode cX5_firstOtherwise 33 = .ok (.ireturn, 1) := by decide +kernel
theorem dX5_fits_0 : decode cX5_fits 0 = .ok (.aload_n 0, 1) := by decide +kernel
theorem dX5_fits_1 : decode cX5_fits 1 = .ok (.invokevirtual 133, 3) := by decide +kernel
theorem dX5_fits_4 : decode cX5_fits 4 = .ok (.astore 5, 2) := by decide +kernel
theorem dX5_fits_6 : decode cX5_fits 6 = .ok (.aload 5, 2) := by decide +kernel
theorem dX5_fits_8 : decode cX5_fits 8 = .ok (.iload_n 2, 1) := by decide +kernel
theorem dX5_fits_9 : decode cX5_fits 9 = .ok (.invokevirtual 90, 3) := by decide +kernel
theorem dX5_fits_12 : decode cX5_fits 12 = .ok (.ifCond .ne 5, 3) := by decide +kernel
theorem dX5_fits_15 : decode cX5_fits 15 = .ok (.iconst 0, 1) := by decide +kernel
theorem dX5_fits_16 : decode cX5_fits 16 = .ok (.ireturn, 1) := by decide +kernel
theorem dX5_fits_17 : decode cX5_fits 17 = .ok (.iload_n 3, 1) := by decide +kernel
theorem dX5_fits_18 : decode cX5_fits 18 = .ok (.ifCond .ne 15, 3) := by decide +kernel
theorem dX5_fits_21 : decode cX5_fits 21 = .ok (.aload 5, 2) := by decide +kernel
theorem dX5_fits_23 : decode cX5_fits 23 = .ok (.getfield 79, 3) := by decide +kernel
theorem dX5_fits_26 : decode cX5_fits 26 = .ok (.iload_n 2, 1) := by decide +kernel
theorem dX5_fits_27 : decode cX5_fits 27 = .ok (.iload 4, 2) := by decide +kernel
theorem dX5_fits_29 : decode cX5_fits 29 = .ok (.iastore, 1) := by decide +kernel
theorem dX5_fits_30 : decode cX5_fits 30 = .ok (.goto 10, 3) := by decide +kernel
theorem dX5_fits_33 : decode cX5_fits 33 = .ok (.aload 5, 2) := by decide +kernel
theorem dX5_fits_35 : decode cX5_fits 35 = .ok (.iload 4, 2) := by decide +kernel
theorem dX5_fits_37 : decode cX5_fits 37 = .ok (.putfield 86, 3) := by decide +kernel
theorem dX5_fits_40 : decode cX5_fits 40 = .ok (.aload 5, 2) := by decide +kernel
theorem dX5_fits_42 : decode cX5_fits 42 = .ok (.aload_n 1, 1) := by decide +kernel
theorem dX5_fits_43 : decode cX5_fits 43 = .ok (.iload_n 2, 1) := by decide +kernel
theorem dX5_fits_44 : decode cX5_fits 44 = .ok (.invokestatic 220, 3) := by decide +kernel
theorem dX5_fits_47 : decode cX5_fits 47 = .ok (.iconst (-1), 1) := by decide +kernel
theorem dX5_fits_48 : decode cX5_fits 48 = .ok (.if_icmp .ne 7, 3) := by decide +kernel
theorem dX5_fits_51 : decode cX5_fits 51 = .ok (.iconst 1, 1) := by decide +kernel
theorem dX5_fits_52 : decode cX5_fits 52 = .ok (.goto 4, 3) := by decide +kernel
theorem dX5_fits_55 : decode cX5_fits 55 = .ok (.iconst 0, 1) := by decide +kernel
theorem dX5_fits_56 : decode cX5_fits 56 = .ok (.ireturn, 1) := by decide +kernel
theorem dX5_howManyFit_0 : decode cX5_howManyFit 0 = .ok (.iconst 0, 1) := by decide +kernel
theorem dX5_howManyFit_1 : decode cX5_howManyFit 1 = .ok (.istore 4, 2) := by decide +kernel
theorem dX5_howManyFit_3 : decode cX5_howManyFit 3 = .ok (.iconst 0, 1) := by decide +kernel
theorem dX5_howManyFit_4 : decode cX5_howManyFit 4 = .ok (.istore 5, 2) := by decide +kernel
theorem dX5_howManyFit_6 : decode cX5_howManyFit 6 = .ok (.iload 5, 2) := by decide +kernel
theorem dX5_howManyFit_8 : decode cX5_howManyFit 8 = .ok (.bipush 100, 2) := by decide +kernel
theorem dX5_howManyFit_10 : decode cX5_howManyFit 10 = .ok (.if_icmp .ge 24, 3) := by decide +kernel
theorem dX5_howManyFit_13 : decode cX5_howManyFit 13 = .ok (.aload_n 0, 1) := by decide +kernel
theorem dX5_howManyFit_14 : decode cX5_howManyFit 14 = .ok (.aload_n 1, 1) := by decide +kernel
theorem dX5_howManyFit_15 : decode cX5_howManyFit 15 = .ok (.iload_n 2, 1) := by decide +kernel
theorem dX5_howManyFit_16 : decode cX5_howManyFit 16 = .ok (.iload_n 3, 1) := by decide +kernel
theorem dX5_howManyFit_17 : decode cX5_howManyFit 17 = .ok (.iload 5, 2) := by decide +kernel
theorem dX5_howManyFit_19 : decode cX5_howManyFit 19 = .ok (.invokevirtual 238, 3) := by decide +kernel
theorem dX5_howManyFit_22 : decode cX5_howManyFit 22 = .ok (.ifCond .eq 6, 3) := by decide +kernel
theorem dX5_howManyFit_25 : decode cX5_howManyFit 25 = .ok (.iinc 4 1, 3) := by decide +kernel
theorem dX5_howManyFit_28 : decode cX5_howManyFit 28 = .ok (.iinc 5 1, 3) := by decide +kernel
theorem dX5_howManyFit_31 : decode cX5_howManyFit 31 = .ok (.goto (-25), 3) := by decide +kernel
theorem dX5_howManyFit_34 : decode cX5_howManyFit 34 = .ok (.iload 4, 2) := by decide +kernel
theorem dX5_howManyFit_36 : decode cX5_howManyFit 36 = .ok (.ireturn, 1) := by decide +kernel
theorem dX5_leastThatFits_0 : decode cX5_leastThatFits 0 = .ok (.iconst 0, 1) := by decide +kernel
theorem dX5_leastThatFits_1 : decode cX5_leastThatFits 1 = .ok (.istore 4, 2) := by decide +kernel
theorem dX5_leastThatFits_3 : decode cX5_leastThatFits 3 = .ok (.iload 4, 2) := by decide +kernel
theorem dX5_leastThatFits_5 : decode cX5_leastThatFits 5 = .ok (.bipush 100, 2) := by decide +kernel
theorem dX5_leastThatFits_7 : decode cX5_leastThatFits 7 = .ok (.if_icmp .ge 24, 3) := by decide +kernel
theorem dX5_leastThatFits_10 : decode cX5_leastThatFits 10 = .ok (.aload_n 0, 1) := by decide +kernel
theorem dX5_leastThatFits_11 : decode cX5_leastThatFits 11 = .ok (.aload_n 1, 1) := by decide +kernel
theorem dX5_leastThatFits_12 : decode cX5_leastThatFits 12 = .ok (.iload_n 2, 1) := by decide +kernel
theorem dX5_leastThatFits_13 : decode cX5_leastThatFits 13 = .ok (.iload_n 3, 1) := by decide +kernel
theorem dX5_leastThatFits_14 : decode cX5_leastThatFits 14 = .ok (.iload 4, 2) := by decide +kernel
theorem dX5_leastThatFits_16 : decode cX5_leastThatFits 16 = .ok (.invokevirtual 238, 3) := by decide +kernel
theorem dX5_leastThatFits_19 : decode cX5_leastThatFits 19 = .ok (.ifCond .eq 6, 3) := by decide +kernel
theorem dX5_leastThatFits_22 : decode cX5_leastThatFits 22 = .ok (.iload 4, 2) := by decide +kernel
theorem dX5_leastThatFits_24 : decode cX5_leastThatFits 24 = .ok (.ireturn, 1) := by decide +kernel
theorem dX5_leastThatFits_25 : decode cX5_leastThatFits 25 = .ok (.iinc 4 1, 3) := by decide +kernel
theorem dX5_leastThatFits_28 : decode cX5_leastThatFits 28 = .ok (.goto (-25), 3) := by decide +kernel
theorem dX5_leastThatFits_31 : decode cX5_leastThatFits 31 = .ok (.iconst (-1), 1) := by decide +kernel
theorem dX5_leastThatFits_32 : decode cX5_leastThatFits 32 = .ok (.ireturn, 1) := by decide +kernel
theorem dX5_playersThatFit_0 : decode cX5_playersThatFit 0 = .ok (.iconst 0, 1) := by decide +kernel
theorem dX5_playersThatFit_1 : decode cX5_playersThatFit 1 = .ok (.istore_n 2, 1) := by decide +kernel
theorem dX5_playersThatFit_2 : decode cX5_playersThatFit 2 = .ok (.iconst 0, 1) := by decide +kernel
theorem dX5_playersThatFit_3 : decode cX5_playersThatFit 3 = .ok (.istore_n 3, 1) := by decide +kernel
theorem dX5_playersThatFit_4 : decode cX5_playersThatFit 4 = .ok (.iload_n 3, 1) := by decide +kernel
theorem dX5_playersThatFit_5 : decode cX5_playersThatFit 5 = .ok (.aload_n 0, 1) := by decide +kernel
theorem dX5_playersThatFit_6 : decode cX5_playersThatFit 6 = .ok (.getfield 42, 3) := by decide +kernel
theorem dX5_playersThatFit_9 : decode cX5_playersThatFit 9 = .ok (.getfield 195, 3) := by decide +kernel
theorem dX5_playersThatFit_12 : decode cX5_playersThatFit 12 = .ok (.if_icmp .ge 28, 3) := by decide +kernel
theorem dX5_playersThatFit_15 : decode cX5_playersThatFit 15 = .ok (.aload_n 0, 1) := by decide +kernel
theorem dX5_playersThatFit_16 : decode cX5_playersThatFit 16 = .ok (.getfield 42, 3) := by decide +kernel
theorem dX5_playersThatFit_19 : decode cX5_playersThatFit 19 = .ok (.aload_n 1, 1) := by decide +kernel
theorem dX5_playersThatFit_20 : decode cX5_playersThatFit 20 = .ok (.iload_n 3, 1) := by decide +kernel
theorem dX5_playersThatFit_21 : decode cX5_playersThatFit 21 = .ok (.invokestatic 220, 3) := by decide +kernel
theorem dX5_playersThatFit_24 : decode cX5_playersThatFit 24 = .ok (.iconst (-1), 1) := by decide +kernel
theorem dX5_playersThatFit_25 : decode cX5_playersThatFit 25 = .ok (.if_icmp .ne 9, 3) := by decide +kernel
theorem dX5_playersThatFit_28 : decode cX5_playersThatFit 28 = .ok (.iload_n 2, 1) := by decide +kernel
theorem dX5_playersThatFit_29 : decode cX5_playersThatFit 29 = .ok (.iconst 1, 1) := by decide +kernel
theorem dX5_playersThatFit_30 : decode cX5_playersThatFit 30 = .ok (.iload_n 3, 1) := by decide +kernel
theorem dX5_playersThatFit_31 : decode cX5_playersThatFit 31 = .ok (.ishl, 1) := by decide +kernel
theorem dX5_playersThatFit_32 : decode cX5_playersThatFit 32 = .ok (.ior, 1) := by decide +kernel
theorem dX5_playersThatFit_33 : decode cX5_playersThatFit 33 = .ok (.istore_n 2, 1) := by decide +kernel
theorem dX5_playersThatFit_34 : decode cX5_playersThatFit 34 = .ok (.iinc 3 1, 3) := by decide +kernel
theorem dX5_playersThatFit_37 : decode cX5_playersThatFit 37 = .ok (.goto (-33), 3) := by decide +kernel
theorem dX5_playersThatFit_40 : decode cX5_playersThatFit 40 = .ok (.iload_n 2, 1) := by decide +kernel
theorem dX5_playersThatFit_41 : decode cX5_playersThatFit 41 = .ok (.ireturn, 1) := by decide +kernel
theorem dX5_bitsThatFit_0 : decode cX5_bitsThatFit 0 = .ok (.iload_n 3, 1) := by decide +kernel
theorem dX5_bitsThatFit_1 : decode cX5_bitsThatFit 1 = .ok (.iconst 1, 1) := by decide +kernel
theorem dX5_bitsThatFit_2 : decode cX5_bitsThatFit 2 = .ok (.if_icmp .ne 8, 3) := by decide +kernel
theorem dX5_bitsThatFit_5 : decode cX5_bitsThatFit 5 = .ok (.bipush 6, 2) := by decide +kernel
theorem dX5_bitsThatFit_7 : decode cX5_bitsThatFit 7 = .ok (.goto 20, 3) := by decide +kernel
theorem dX5_bitsThatFit_10 : decode cX5_bitsThatFit 10 = .ok (.iload_n 3, 1) := by decide +kernel
theorem dX5_bitsThatFit_11 : decode cX5_bitsThatFit 11 = .ok (.iconst 2, 1) := by decide +kernel
theorem dX5_bitsThatFit_12 : decode cX5_bitsThatFit 12 = .ok (.if_icmp .ne 8, 3) := by decide +kernel
theorem dX5_bitsThatFit_15 : decode cX5_bitsThatFit 15 = .ok (.bipush 10, 2) := by decide +kernel
theorem dX5_bitsThatFit_17 : decode cX5_bitsThatFit 17 = .ok (.goto 10, 3) := by decide +kernel
theorem dX5_bitsThatFit_20 : decode cX5_bitsThatFit 20 = .ok (.aload_n 0, 1) := by decide +kernel
theorem dX5_bitsThatFit_21 : decode cX5_bitsThatFit 21 = .ok (.getfield 10, 3) := by decide +kernel
theorem dX5_bitsThatFit_24 : decode cX5_bitsThatFit 24 = .ok (.getfield 146, 3) := by decide +kernel
theorem dX5_bitsThatFit_27 : decode cX5_bitsThatFit 27 = .ok (.istore 4, 2) := by decide +kernel
theorem dX5_bitsThatFit_29 : decode cX5_bitsThatFit 29 = .ok (.aload_n 0, 1) := by decide +kernel
theorem dX5_bitsThatFit_30 : decode cX5_bitsThatFit 30 = .ok (.invokevirtual 133, 3) := by decide +kernel
theorem dX5_bitsThatFit_33 : decode cX5_bitsThatFit 33 = .ok (.astore 5, 2) := by decide +kernel
theorem dX5_bitsThatFit_35 : decode cX5_bitsThatFit 35 = .ok (.aload 5, 2) := by decide +kernel
theorem dX5_bitsThatFit_37 : decode cX5_bitsThatFit 37 = .ok (.iload_n 2, 1) := by decide +kernel
theorem dX5_bitsThatFit_38 : decode cX5_bitsThatFit 38 = .ok (.invokevirtual 90, 3) := by decide +kernel
theorem dX5_bitsThatFit_41 : decode cX5_bitsThatFit 41 = .ok (.ifCond .ne 5, 3) := by decide +kernel
theorem dX5_bitsThatFit_44 : decode cX5_bitsThatFit 44 = .ok (.iconst 0, 1) := by decide +kernel
theorem dX5_bitsThatFit_45 : decode cX5_bitsThatFit 45 = .ok (.ireturn, 1) := by decide +kernel
theorem dX5_bitsThatFit_46 : decode cX5_bitsThatFit 46 = .ok (.iconst 0, 1) := by decide +kernel
theorem dX5_bitsThatFit_47 : decode cX5_bitsThatFit 47 = .ok (.istore 6, 2) := by decide +kernel
theorem dX5_bitsThatFit_49 : decode cX5_bitsThatFit 49 = .ok (.iconst 0, 1) := by decide +kernel
theorem dX5_bitsThatFit_50 : decode cX5_bitsThatFit 50 = .ok (.istore 7, 2) := by decide +kernel
theorem dX5_bitsThatFit_52 : decode cX5_bitsThatFit 52 = .ok (.iload 7, 2) := by decide +kernel
theorem dX5_bitsThatFit_54 : decode cX5_bitsThatFit 54 = .ok (.iload 4, 2) := by decide +kernel
theorem dX5_bitsThatFit_56 : decode cX5_bitsThatFit 56 = .ok (.if_icmp .ge 70, 3) := by decide +kernel
theorem dX5_bitsThatFit_59 : decode cX5_bitsThatFit 59 = .ok (.iload_n 3, 1) := by decide +kernel
theorem dX5_bitsThatFit_60 : decode cX5_bitsThatFit 60 = .ok (.iconst 1, 1) := by decide +kernel
theorem dX5_bitsThatFit_61 : decode cX5_bitsThatFit 61 = .ok (.if_icmp .ne 15, 3) := by decide +kernel
theorem dX5_bitsThatFit_64 : decode cX5_bitsThatFit 64 = .ok (.aload 5, 2) := by decide +kernel
theorem dX5_bitsThatFit_66 : decode cX5_bitsThatFit 66 = .ok (.getfield 104, 3) := by decide +kernel
theorem dX5_bitsThatFit_69 : decode cX5_bitsThatFit 69 = .ok (.iload_n 2, 1) := by decide +kernel
theorem dX5_bitsThatFit_70 : decode cX5_bitsThatFit 70 = .ok (.iload 7, 2) := by decide +kernel
theorem dX5_bitsThatFit_72 : decode cX5_bitsThatFit 72 = .ok (.iastore, 1) := by decide +kernel
theorem dX5_bitsThatFit_73 : decode cX5_bitsThatFit 73 = .ok (.goto 27, 3) := by decide +kernel
theorem dX5_bitsThatFit_76 : decode cX5_bitsThatFit 76 = .ok (.iload_n 3, 1) := by decide +kernel
theorem dX5_bitsThatFit_77 : decode cX5_bitsThatFit 77 = .ok (.iconst 2, 1) := by decide +kernel
theorem dX5_bitsThatFit_78 : decode cX5_bitsThatFit 78 = .ok (.if_icmp .ne 15, 3) := by decide +kernel
theorem dX5_bitsThatFit_81 : decode cX5_bitsThatFit 81 = .ok (.aload 5, 2) := by decide +kernel
theorem dX5_bitsThatFit_83 : decode cX5_bitsThatFit 83 = .ok (.getfield 71, 3) := by decide +kernel
theorem dX5_bitsThatFit_86 : decode cX5_bitsThatFit 86 = .ok (.iload_n 2, 1) := by decide +kernel
theorem dX5_bitsThatFit_87 : decode cX5_bitsThatFit 87 = .ok (.iload 7, 2) := by decide +kernel
theorem dX5_bitsThatFit_89 : decode cX5_bitsThatFit 89 = .ok (.iastore, 1) := by decide +kernel
theorem dX5_bitsThatFit_90 : decode cX5_bitsThatFit 90 = .ok (.goto 10, 3) := by decide +kernel
theorem dX5_bitsThatFit_93 : decode cX5_bitsThatFit 93 = .ok (.aload 5, 2) := by decide +kernel
theorem dX5_bitsThatFit_95 : decode cX5_bitsThatFit 95 = .ok (.iload 7, 2) := by decide +kernel
theorem dX5_bitsThatFit_97 : decode cX5_bitsThatFit 97 = .ok (.putfield 152, 3) := by decide +kernel
theorem dX5_bitsThatFit_100 : decode cX5_bitsThatFit 100 = .ok (.aload 5, 2) := by decide +kernel
theorem dX5_bitsThatFit_102 : decode cX5_bitsThatFit 102 = .ok (.aload_n 1, 1) := by decide +kernel
theorem dX5_bitsThatFit_103 : decode cX5_bitsThatFit 103 = .ok (.iload_n 2, 1) := by decide +kernel
theorem dX5_bitsThatFit_104 : decode cX5_bitsThatFit 104 = .ok (.invokestatic 220, 3) := by decide +kernel
theorem dX5_bitsThatFit_107 : decode cX5_bitsThatFit 107 = .ok (.iconst (-1), 1) := by decide +kernel
theorem dX5_bitsThatFit_108 : decode cX5_bitsThatFit 108 = .ok (.if_icmp .ne 12, 3) := by decide +kernel
theorem dX5_bitsThatFit_111 : decode cX5_bitsThatFit 111 = .ok (.iload 6, 2) := by decide +kernel
theorem dX5_bitsThatFit_113 : decode cX5_bitsThatFit 113 = .ok (.iconst 1, 1) := by decide +kernel
theorem dX5_bitsThatFit_114 : decode cX5_bitsThatFit 114 = .ok (.iload 7, 2) := by decide +kernel
theorem dX5_bitsThatFit_116 : decode cX5_bitsThatFit 116 = .ok (.ishl, 1) := by decide +kernel
theorem dX5_bitsThatFit_117 : decode cX5_bitsThatFit 117 = .ok (.ior, 1) := by decide +kernel
theorem dX5_bitsThatFit_118 : decode cX5_bitsThatFit 118 = .ok (.istore 6, 2) := by decide +kernel
theorem dX5_bitsThatFit_120 : decode cX5_bitsThatFit 120 = .ok (.iinc 7 1, 3) := by decide +kernel
theorem dX5_bitsThatFit_123 : decode cX5_bitsThatFit 123 = .ok (.goto (-71), 3) := by decide +kernel
theorem dX5_bitsThatFit_126 : decode cX5_bitsThatFit 126 = .ok (.iload 6, 2) := by decide +kernel
theorem dX5_bitsThatFit_128 : decode cX5_bitsThatFit 128 = .ok (.ireturn, 1) := by decide +kernel
theorem dX5_film_0 : decode cX5_film 0 = .ok (.aload_n 0, 1) := by decide +kernel
theorem dX5_film_1 : decode cX5_film 1 = .ok (.iload_n 1, 1) := by decide +kernel
theorem dX5_film_2 : decode cX5_film 2 = .ok (.invokevirtual 155, 3) := by decide +kernel
theorem dX5_film_5 : decode cX5_film 5 = .ok (.astore_n 3, 1) := by decide +kernel
theorem dX5_film_6 : decode cX5_film 6 = .ok (.aload_n 3, 1) := by decide +kernel
theorem dX5_film_7 : decode cX5_film 7 = .ok (.ifnull 14, 3) := by decide +kernel
theorem dX5_film_10 : decode cX5_film 10 = .ok (.aload_n 0, 1) := by decide +kernel
theorem dX5_film_11 : decode cX5_film 11 = .ok (.getfield 42, 3) := by decide +kernel
theorem dX5_film_14 : decode cX5_film 14 = .ok (.iload_n 2, 1) := by decide +kernel
theorem dX5_film_15 : decode cX5_film 15 = .ok (.invokevirtual 90, 3) := by decide +kernel
theorem dX5_film_18 : decode cX5_film 18 = .ok (.ifCond .ne 6, 3) := by decide +kernel
theorem dX5_film_21 : decode cX5_film 21 = .ok (.bipush (-2), 2) := by decide +kernel
theorem dX5_film_23 : decode cX5_film 23 = .ok (.ireturn, 1) := by decide +kernel
theorem dX5_film_24 : decode cX5_film 24 = .ok (.aload_n 3, 1) := by decide +kernel
theorem dX5_film_25 : decode cX5_film 25 = .ok (.iconst 1, 1) := by decide +kernel
theorem dX5_film_26 : decode cX5_film 26 = .ok (.aload_n 0, 1) := by decide +kernel
theorem dX5_film_27 : decode cX5_film 27 = .ok (.getfield 42, 3) := by decide +kernel
theorem dX5_film_30 : decode cX5_film 30 = .ok (.getfield 195, 3) := by decide +kernel
theorem dX5_film_33 : decode cX5_film 33 = .ok (.invokevirtual 242, 3) := by decide +kernel
theorem dX5_film_36 : decode cX5_film 36 = .ok (.iconst 0, 1) := by decide +kernel
theorem dX5_film_37 : decode cX5_film 37 = .ok (.istore 4, 2) := by decide +kernel
theorem dX5_film_39 : decode cX5_film 39 = .ok (.iload 4, 2) := by decide +kernel
theorem dX5_film_41 : decode cX5_film 41 = .ok (.aload_n 0, 1) := by decide +kernel
theorem dX5_film_42 : decode cX5_film 42 = .ok (.getfield 42, 3) := by decide +kernel
theorem dX5_film_45 : decode cX5_film 45 = .ok (.getfield 195, 3) := by decide +kernel
theorem dX5_film_48 : decode cX5_film 48 = .ok (.if_icmp .ge 25, 3) := by decide +kernel
theorem dX5_film_51 : decode cX5_film 51 = .ok (.aload_n 3, 1) := by decide +kernel
theorem dX5_film_52 : decode cX5_film 52 = .ok (.iload 4, 2) := by decide +kernel
theorem dX5_film_54 : decode cX5_film 54 = .ok (.aload_n 0, 1) := by decide +kernel
theorem dX5_film_55 : decode cX5_film 55 = .ok (.getfield 42, 3) := by decide +kernel
theorem dX5_film_58 : decode cX5_film 58 = .ok (.iload_n 2, 1) := by decide +kernel
theorem dX5_film_59 : decode cX5_film 59 = .ok (.iload 4, 2) := by decide +kernel
theorem dX5_film_61 : decode cX5_film 61 = .ok (.invokevirtual 120, 3) := by decide +kernel
theorem dX5_film_64 : decode cX5_film 64 = .ok (.invokevirtual 245, 3) := by decide +kernel
theorem dX5_film_67 : decode cX5_film 67 = .ok (.iinc 4 1, 3) := by decide +kernel
theorem dX5_film_70 : decode cX5_film 70 = .ok (.goto (-31), 3) := by decide +kernel
theorem dX5_film_73 : decode cX5_film 73 = .ok (.aload_n 0, 1) := by decide +kernel
theorem dX5_film_74 : decode cX5_film 74 = .ok (.getfield 42, 3) := by decide +kernel
theorem dX5_film_77 : decode cX5_film 77 = .ok (.getfield 195, 3) := by decide +kernel
theorem dX5_film_80 : decode cX5_film 80 = .ok (.ireturn, 1) := by decide +kernel
theorem dX5_drawn_0 : decode cX5_drawn 0 = .ok (.aload_n 0, 1) := by decide +kernel
theorem dX5_drawn_1 : decode cX5_drawn 1 = .ok (.getfield 42, 3) := by decide +kernel
theorem dX5_drawn_4 : decode cX5_drawn 4 = .ok (.iload_n 2, 1) := by decide +kernel
theorem dX5_drawn_5 : decode cX5_drawn 5 = .ok (.invokevirtual 90, 3) := by decide +kernel
theorem dX5_drawn_8 : decode cX5_drawn 8 = .ok (.ifCond .eq 13, 3) := by decide +kernel
theorem dX5_drawn_11 : decode cX5_drawn 11 = .ok (.iload_n 3, 1) := by decide +kernel
theorem dX5_drawn_12 : decode cX5_drawn 12 = .ok (.iconst 0, 1) := by decide +kernel
theorem dX5_drawn_13 : decode cX5_drawn 13 = .ok (.bipush 60, 2) := by decide +kernel
theorem dX5_drawn_15 : decode cX5_drawn 15 = .ok (.invokestatic 82, 3) := by decide +kernel
theorem dX5_drawn_18 : decode cX5_drawn 18 = .ok (.ifCond .ne 6, 3) := by decide +kernel
theorem dX5_drawn_21 : decode cX5_drawn 21 = .ok (.bipush (-2), 2) := by decide +kernel
theorem dX5_drawn_23 : decode cX5_drawn 23 = .ok (.ireturn, 1) := by decide +kernel
theorem dX5_drawn_24 : decode cX5_drawn 24 = .ok (.aload_n 0, 1) := by decide +kernel
theorem dX5_drawn_25 : decode cX5_drawn 25 = .ok (.iload_n 1, 1) := by decide +kernel
theorem dX5_drawn_26 : decode cX5_drawn 26 = .ok (.iload_n 2, 1) := by decide +kernel
theorem dX5_drawn_27 : decode cX5_drawn 27 = .ok (.iload_n 3, 1) := by decide +kernel
theorem dX5_drawn_28 : decode cX5_drawn 28 = .ok (.invokevirtual 248, 3) := by decide +kernel
theorem dX5_drawn_31 : decode cX5_drawn 31 = .ok (.ireturn, 1) := by decide +kernel
theorem dX5_hasBehindDrawn_0 : decode cX5_hasBehindDrawn 0 = .ok (.aload_n 0, 1) := by decide +kernel
theorem dX5_hasBehindDrawn_1 : decode cX5_hasBehindDrawn 1 = .ok (.invokevirtual 133, 3) := by decide +kernel
theorem dX5_hasBehindDrawn_4 : decode cX5_hasBehindDrawn 4 = .ok (.astore 4, 2) := by decide +kernel
theorem dX5_hasBehindDrawn_6 : decode cX5_hasBehindDrawn 6 = .ok (.aload 4, 2) := by decide +kernel
theorem dX5_hasBehindDrawn_8 : decode cX5_hasBehindDrawn 8 = .ok (.iload_n 2, 1) := by decide +kernel
theorem dX5_hasBehindDrawn_9 : decode cX5_hasBehindDrawn 9 = .ok (.invokevirtual 90, 3) := by decide +kernel
theorem dX5_hasBehindDrawn_12 : decode cX5_hasBehindDrawn 12 = .ok (.ifCond .ne 5, 3) := by decide +kernel
theorem dX5_hasBehindDrawn_15 : decode cX5_hasBehindDrawn 15 = .ok (.iconst 0, 1) := by decide +kernel
theorem dX5_hasBehindDrawn_16 : decode cX5_hasBehindDrawn 16 = .ok (.ireturn, 1) := by decide +kernel
theorem dX5_hasBehindDrawn_17 : decode cX5_hasBehindDrawn 17 = .ok (.aload 4, 2) := by decide +kernel
theorem dX5_hasBehindDrawn_19 : decode cX5_hasBehindDrawn 19 = .ok (.getfield 195, 3) := by decide +kernel
theorem dX5_hasBehindDrawn_22 : decode cX5_hasBehindDrawn 22 = .ok (.istore 5, 2) := by decide +kernel
theorem dX5_hasBehindDrawn_24 : decode cX5_hasBehindDrawn 24 = .ok (.iload_n 1, 1) := by decide +kernel
theorem dX5_hasBehindDrawn_25 : decode cX5_hasBehindDrawn 25 = .ok (.istore 6, 2) := by decide +kernel
theorem dX5_hasBehindDrawn_27 : decode cX5_hasBehindDrawn 27 = .ok (.iconst 0, 1) := by decide +kernel
theorem dX5_hasBehindDrawn_28 : decode cX5_hasBehindDrawn 28 = .ok (.istore 7, 2) := by decide +kernel
theorem dX5_hasBehindDrawn_30 : decode cX5_hasBehindDrawn 30 = .ok (.iload 7, 2) := by decide +kernel
theorem dX5_hasBehindDrawn_32 : decode cX5_hasBehindDrawn 32 = .ok (.iload_n 3, 1) := by decide +kernel
theorem dX5_hasBehindDrawn_33 : decode cX5_hasBehindDrawn 33 = .ok (.if_icmp .ge 66, 3) := by decide +kernel
theorem dX5_hasBehindDrawn_36 : decode cX5_hasBehindDrawn 36 = .ok (.iload 5, 2) := by decide +kernel
theorem dX5_hasBehindDrawn_38 : decode cX5_hasBehindDrawn 38 = .ok (.iconst 1, 1) := by decide +kernel
theorem dX5_hasBehindDrawn_39 : decode cX5_hasBehindDrawn 39 = .ok (.if_icmp .le 60, 3) := by decide +kernel
theorem dX5_hasBehindDrawn_42 : decode cX5_hasBehindDrawn 42 = .ok (.iload 6, 2) := by decide +kernel
theorem dX5_hasBehindDrawn_44 : decode cX5_hasBehindDrawn 44 = .ok (.ldc 252, 2) := by decide +kernel
theorem dX5_hasBehindDrawn_46 : decode cX5_hasBehindDrawn 46 = .ok (.imul, 1) := by decide +kernel
theorem dX5_hasBehindDrawn_47 : decode cX5_hasBehindDrawn 47 = .ok (.sipush 12345, 3) := by decide +kernel
theorem dX5_hasBehindDrawn_50 : decode cX5_hasBehindDrawn 50 = .ok (.iadd, 1) := by decide +kernel
theorem dX5_hasBehindDrawn_51 : decode cX5_hasBehindDrawn 51 = .ok (.istore 6, 2) := by decide +kernel
theorem dX5_hasBehindDrawn_53 : decode cX5_hasBehindDrawn 53 = .ok (.iload 6, 2) := by decide +kernel
theorem dX5_hasBehindDrawn_55 : decode cX5_hasBehindDrawn 55 = .ok (.bipush 9, 2) := by decide +kernel
theorem dX5_hasBehindDrawn_57 : decode cX5_hasBehindDrawn 57 = .ok (.iushr, 1) := by decide +kernel
theorem dX5_hasBehindDrawn_58 : decode cX5_hasBehindDrawn 58 = .ok (.iload 5, 2) := by decide +kernel
theorem dX5_hasBehindDrawn_60 : decode cX5_hasBehindDrawn 60 = .ok (.irem, 1) := by decide +kernel
theorem dX5_hasBehindDrawn_61 : decode cX5_hasBehindDrawn 61 = .ok (.istore 8, 2) := by decide +kernel
theorem dX5_hasBehindDrawn_63 : decode cX5_hasBehindDrawn 63 = .ok (.iconst 1, 1) := by decide +kernel
theorem dX5_hasBehindDrawn_64 : decode cX5_hasBehindDrawn 64 = .ok (.iload 6, 2) := by decide +kernel
theorem dX5_hasBehindDrawn_66 : decode cX5_hasBehindDrawn 66 = .ok (.bipush 17, 2) := by decide +kernel
theorem dX5_hasBehindDrawn_68 : decode cX5_hasBehindDrawn 68 = .ok (.iushr, 1) := by decide +kernel
theorem dX5_hasBehindDrawn_69 : decode cX5_hasBehindDrawn 69 = .ok (.iload 5, 2) := by decide +kernel
theorem dX5_hasBehindDrawn_71 : decode cX5_hasBehindDrawn 71 = .ok (.iconst 1, 1) := by decide +kernel
theorem dX5_hasBehindDrawn_72 : decode cX5_hasBehindDrawn 72 = .ok (.isub, 1) := by decide +kernel
theorem dX5_hasBehindDrawn_73 : decode cX5_hasBehindDrawn 73 = .ok (.irem, 1) := by decide +kernel
theorem dX5_hasBehindDrawn_74 : decode cX5_hasBehindDrawn 74 = .ok (.iadd, 1) := by decide +kernel
theorem dX5_hasBehindDrawn_75 : decode cX5_hasBehindDrawn 75 = .ok (.istore 9, 2) := by decide +kernel
theorem dX5_hasBehindDrawn_77 : decode cX5_hasBehindDrawn 77 = .ok (.aload 4, 2) := by decide +kernel
theorem dX5_hasBehindDrawn_79 : decode cX5_hasBehindDrawn 79 = .ok (.iload 8, 2) := by decide +kernel
theorem dX5_hasBehindDrawn_81 : decode cX5_hasBehindDrawn 81 = .ok (.iload 8, 2) := by decide +kernel
theorem dX5_hasBehindDrawn_83 : decode cX5_hasBehindDrawn 83 = .ok (.iload 9, 2) := by decide +kernel
theorem dX5_hasBehindDrawn_85 : decode cX5_hasBehindDrawn 85 = .ok (.iadd, 1) := by decide +kernel
theorem dX5_hasBehindDrawn_86 : decode cX5_hasBehindDrawn 86 = .ok (.iload 5, 2) := by decide +kernel
theorem dX5_hasBehindDrawn_88 : decode cX5_hasBehindDrawn 88 = .ok (.irem, 1) := by decide +kernel
theorem dX5_hasBehindDrawn_89 : decode cX5_hasBehindDrawn 89 = .ok (.invokevirtual 137, 3) := by decide +kernel
theorem dX5_hasBehindDrawn_92 : decode cX5_hasBehindDrawn 92 = .ok (.pop, 1) := by decide +kernel
theorem dX5_hasBehindDrawn_93 : decode cX5_hasBehindDrawn 93 = .ok (.iinc 7 1, 3) := by decide +kernel
theorem dX5_hasBehindDrawn_96 : decode cX5_hasBehindDrawn 96 = .ok (.goto (-66), 3) := by decide +kernel
theorem dX5_hasBehindDrawn_99 : decode cX5_hasBehindDrawn 99 = .ok (.aload 4, 2) := by decide +kernel
theorem dX5_hasBehindDrawn_101 : decode cX5_hasBehindDrawn 101 = .ok (.getfield 110, 3) := by decide +kernel
theorem dX5_hasBehindDrawn_104 : decode cX5_hasBehindDrawn 104 = .ok (.iload_n 2, 1) := by decide +kernel
theorem dX5_hasBehindDrawn_105 : decode cX5_hasBehindDrawn 105 = .ok (.iaload, 1) := by decide +kernel
theorem dX5_hasBehindDrawn_106 : decode cX5_hasBehindDrawn 106 = .ok (.ireturn, 1) := by decide +kernel
theorem dX5_chance_0 : decode cX5_chance 0 = .ok (.iload_n 2, 1) := by decide +kernel
theorem dX5_chance_1 : decode cX5_chance 1 = .ok (.iconst 1, 1) := by decide +kernel
theorem dX5_chance_2 : decode cX5_chance 2 = .ok (.bipush 20, 2) := by decide +kernel
theorem dX5_chance_4 : decode cX5_chance 4 = .ok (.invokestatic 82, 3) := by decide +kernel
theorem dX5_chance_7 : decode cX5_chance 7 = .ok (.ifCond .eq 14, 3) := by decide +kernel
theorem dX5_chance_10 : decode cX5_chance 10 = .ok (.aload_n 0, 1) := by decide +kernel
theorem dX5_chance_11 : decode cX5_chance 11 = .ok (.getfield 42, 3) := by decide +kernel
theorem dX5_chance_14 : decode cX5_chance 14 = .ok (.iload_n 3, 1) := by decide +kernel
theorem dX5_chance_15 : decode cX5_chance 15 = .ok (.invokevirtual 90, 3) := by decide +kernel
theorem dX5_chance_18 : decode cX5_chance 18 = .ok (.ifCond .ne 7, 3) := by decide +kernel
theorem dX5_chance_21 : decode cX5_chance 21 = .ok (.ldc2_w 253, 3) := by decide +kernel
theorem dX5_chance_24 : decode cX5_chance 24 = .ok (.lreturn, 1) := by decide +kernel
theorem dX5_chance_25 : decode cX5_chance 25 = .ok (.iload 4, 2) := by decide +kernel
theorem dX5_chance_27 : decode cX5_chance 27 = .ok (.iconst 0, 1) := by decide +kernel
theorem dX5_chance_28 : decode cX5_chance 28 = .ok (.bipush 8, 2) := by decide +kernel
theorem dX5_chance_30 : decode cX5_chance 30 = .ok (.invokestatic 82, 3) := by decide +kernel
theorem dX5_chance_33 : decode cX5_chance 33 = .ok (.ifCond .eq 13, 3) := by decide +kernel
theorem dX5_chance_36 : decode cX5_chance 36 = .ok (.iload 5, 2) := by decide +kernel
theorem dX5_chance_38 : decode cX5_chance 38 = .ok (.iconst 0, 1) := by decide +kernel
theorem dX5_chance_39 : decode cX5_chance 39 = .ok (.iconst 1, 1) := by decide +kernel
theorem dX5_chance_40 : decode cX5_chance 40 = .ok (.invokestatic 82, 3) := by decide +kernel
theorem dX5_chance_43 : decode cX5_chance 43 = .ok (.ifCond .ne 7, 3) := by decide +kernel
theorem dX5_chance_46 : decode cX5_chance 46 = .ok (.ldc2_w 253, 3) := by decide +kernel
theorem dX5_chance_49 : decode cX5_chance 49 = .ok (.lreturn, 1) := by decide +kernel
theorem dX5_chance_50 : decode cX5_chance 50 = .ok (.iconst 0, 1) := by decide +kernel
theorem dX5_chance_51 : decode cX5_chance 51 = .ok (.istore 6, 2) := by decide +kernel
theorem dX5_chance_53 : decode cX5_chance 53 = .ok (.iconst 0, 1) := by decide +kernel
theorem dX5_chance_54 : decode cX5_chance 54 = .ok (.istore 7, 2) := by decide +kernel
theorem dX5_chance_56 : decode cX5_chance 56 = .ok (.iload 7, 2) := by decide +kernel
theorem dX5_chance_58 : decode cX5_chance 58 = .ok (.iload_n 2, 1) := by decide +kernel
theorem dX5_chance_59 : decode cX5_chance 59 = .ok (.if_icmp .ge 31, 3) := by decide +kernel
theorem dX5_chance_62 : decode cX5_chance 62 = .ok (.aload_n 0, 1) := by decide +kernel
theorem dX5_chance_63 : decode cX5_chance 63 = .ok (.iload_n 1, 1) := by decide +kernel
theorem dX5_chance_64 : decode cX5_chance 64 = .ok (.iload 7, 2) := by decide +kernel
theorem dX5_chance_66 : decode cX5_chance 66 = .ok (.iadd, 1) := by decide +kernel
theorem dX5_chance_67 : decode cX5_chance 67 = .ok (.iload_n 3, 1) := by decide +kernel
theorem dX5_chance_68 : decode cX5_chance 68 = .ok (.bipush 6, 2) := by decide +kernel
theorem dX5_chance_70 : decode cX5_chance 70 = .ok (.invokevirtual 248, 3) := by decide +kernel
theorem dX5_chance_73 : decode cX5_chance 73 = .ok (.invokestatic 255, 3) := by decide +kernel
theorem dX5_chance_76 : decode cX5_chance 76 = .ok (.iload 4, 2) := by decide +kernel
theorem dX5_chance_78 : decode cX5_chance 78 = .ok (.if_icmp .lt 6, 3) := by decide +kernel
theorem dX5_chance_81 : decode cX5_chance 81 = .ok (.iinc 6 1, 3) := by decide +kernel
theorem dX5_chance_84 : decode cX5_chance 84 = .ok (.iinc 7 1, 3) := by decide +kernel
theorem dX5_chance_87 : decode cX5_chance 87 = .ok (.goto (-31), 3) := by decide +kernel
theorem dX5_chance_90 : decode cX5_chance 90 = .ok (.iload 5, 2) := by decide +kernel
theorem dX5_chance_92 : decode cX5_chance 92 = .ok (.iload 6, 2) := by decide +kernel
theorem dX5_chance_94 : decode cX5_chance 94 = .ok (.iload_n 2, 1) := by decide +kernel
theorem dX5_chance_95 : decode cX5_chance 95 = .ok (.invokestatic 260, 3) := by decide +kernel
theorem dX5_chance_98 : decode cX5_chance 98 = .ok (.i2l, 1) := by decide +kernel
theorem dX5_chance_99 : decode cX5_chance 99 = .ok (.lreturn, 1) := by decide +kernel
theorem dX5_partOfLowest_0 : decode cX5_partOfLowest 0 = .ok (.iload_n 2, 1) := by decide +kernel
theorem dX5_partOfLowest_1 : decode cX5_partOfLowest 1 = .ok (.istore_n 3, 1) := by decide +kernel
theorem dX5_partOfLowest_2 : decode cX5_partOfLowest 2 = .ok (.iload_n 3, 1) := by decide +kernel
theorem dX5_partOfLowest_3 : decode cX5_partOfLowest 3 = .ok (.ifCond .le 35, 3) := by decide +kernel
theorem dX5_partOfLowest_6 : decode cX5_partOfLowest 6 = .ok (.iload_n 1, 1) := by decide +kernel
theorem dX5_partOfLowest_7 : decode cX5_partOfLowest 7 = .ok (.iload_n 3, 1) := by decide +kernel
theorem dX5_partOfLowest_8 : decode cX5_partOfLowest 8 = .ok (.irem, 1) := by decide +kernel
theorem dX5_partOfLowest_9 : decode cX5_partOfLowest 9 = .ok (.ifCond .ne 23, 3) := by decide +kernel
theorem dX5_partOfLowest_12 : decode cX5_partOfLowest 12 = .ok (.iload_n 2, 1) := by decide +kernel
theorem dX5_partOfLowest_13 : decode cX5_partOfLowest 13 = .ok (.iload_n 3, 1) := by decide +kernel
theorem dX5_partOfLowest_14 : decode cX5_partOfLowest 14 = .ok (.irem, 1) := by decide +kernel
theorem dX5_partOfLowest_15 : decode cX5_partOfLowest 15 = .ok (.ifCond .ne 17, 3) := by decide +kernel
theorem dX5_partOfLowest_18 : decode cX5_partOfLowest 18 = .ok (.iload_n 0, 1) := by decide +kernel
theorem dX5_partOfLowest_19 : decode cX5_partOfLowest 19 = .ok (.ifCond .ne 9, 3) := by decide +kernel
theorem dX5_partOfLowest_22 : decode cX5_partOfLowest 22 = .ok (.iload_n 1, 1) := by decide +kernel
theorem dX5_partOfLowest_23 : decode cX5_partOfLowest 23 = .ok (.iload_n 3, 1) := by decide +kernel
theorem dX5_partOfLowest_24 : decode cX5_partOfLowest 24 = .ok (.idiv, 1) := by decide +kernel
theorem dX5_partOfLowest_25 : decode cX5_partOfLowest 25 = .ok (.goto 6, 3) := by decide +kernel
theorem dX5_partOfLowest_28 : decode cX5_partOfLowest 28 = .ok (.iload_n 2, 1) := by decide +kernel
theorem dX5_partOfLowest_29 : decode cX5_partOfLowest 29 = .ok (.iload_n 3, 1) := by decide +kernel
theorem dX5_partOfLowest_30 : decode cX5_partOfLowest 30 = .ok (.idiv, 1) := by decide +kernel
theorem dX5_partOfLowest_31 : decode cX5_partOfLowest 31 = .ok (.ireturn, 1) := by decide +kernel
theorem dX5_partOfLowest_32 : decode cX5_partOfLowest 32 = .ok (.iinc 3 (-1), 3) := by decide +kernel
theorem dX5_partOfLowest_35 : decode cX5_partOfLowest 35 = .ok (.goto (-33), 3) := by decide +kernel
theorem dX5_partOfLowest_38 : decode cX5_partOfLowest 38 = .ok (.iconst (-1), 1) := by decide +kernel
theorem dX5_partOfLowest_39 : decode cX5_partOfLowest 39 = .ok (.ireturn, 1) := by decide +kernel
theorem dX5_image_0 : decode cX5_image 0 = .ok (.aload_n 0, 1) := by decide +kernel
theorem dX5_image_1 : decode cX5_image 1 = .ok (.getfield 46, 3) := by decide +kernel
theorem dX5_image_4 : decode cX5_image 4 = .ok (.aload_n 0, 1) := by decide +kernel
theorem dX5_image_5 : decode cX5_image 5 = .ok (.getfield 42, 3) := by decide +kernel
theorem dX5_image_8 : decode cX5_image 8 = .ok (.invokevirtual 263, 3) := by decide +kernel
theorem dX5_image_11 : decode cX5_image 11 = .ok (.aload_n 0, 1) := by decide +kernel
theorem dX5_image_12 : decode cX5_image 12 = .ok (.iconst 1, 1) := by decide +kernel
theorem dX5_image_13 : decode cX5_image 13 = .ok (.putfield 267, 3) := by decide +kernel
theorem dX5_image_16 : decode cX5_image 16 = .ok (.aload_n 0, 1) := by decide +kernel
theorem dX5_image_17 : decode cX5_image 17 = .ok (.getfield 42, 3) := by decide +kernel
theorem dX5_image_20 : decode cX5_image 20 = .ok (.getfield 195, 3) := by decide +kernel
theorem dX5_image_23 : decode cX5_image 23 = .ok (.ireturn, 1) := by decide +kernel
theorem dX5_back_0 : decode cX5_back 0 = .ok (.aload_n 0, 1) := by decide +kernel
theorem dX5_back_1 : decode cX5_back 1 = .ok (.getfield 267, 3) := by decide +kernel
theorem dX5_back_4 : decode cX5_back 4 = .ok (.ifCond .ne 6, 3) := by decide +kernel
theorem dX5_back_7 : decode cX5_back 7 = .ok (.bipush (-3), 2) := by decide +kernel
theorem dX5_back_9 : decode cX5_back 9 = .ok (.ireturn, 1) := by decide +kernel
theorem dX5_back_10 : decode cX5_back 10 = .ok (.aload_n 0, 1) := by decide +kernel
theorem dX5_back_11 : decode cX5_back 11 = .ok (.getfield 42, 3) := by decide +kernel
theorem dX5_back_14 : decode cX5_back 14 = .ok (.aload_n 0, 1) := by decide +kernel
theorem dX5_back_15 : decode cX5_back 15 = .ok (.getfield 46, 3) := by decide +kernel
theorem dX5_back_18 : decode cX5_back 18 = .ok (.invokevirtual 263, 3) := by decide +kernel
theorem dX5_back_21 : decode cX5_back 21 = .ok (.aload_n 0, 1) := by decide +kernel
theorem dX5_back_22 : decode cX5_back 22 = .ok (.getfield 42, 3) := by decide +kernel
theorem dX5_back_25 : decode cX5_back 25 = .ok (.getfield 195, 3) := by decide +kernel
theorem dX5_back_28 : decode cX5_back 28 = .ok (.ireturn, 1) := by decide +kernel
theorem dX5_count_0 : decode cX5_count 0 = .ok (.iload_n 1, 1) := by decide +kernel
theorem dX5_count_1 : decode cX5_count 1 = .ok (.tableswitch 87 0 5 #[39, 47, 55, 63, 71, 79], 39) := by decide +kernel
theorem dX5_count_40 : decode cX5_count 40 = .ok (.aload_n 0, 1) := by decide +kernel
theorem dX5_count_41 : decode cX5_count 41 = .ok (.getfield 42, 3) := by decide +kernel
theorem dX5_count_44 : decode cX5_count 44 = .ok (.getfield 195, 3) := by decide +kernel
theorem dX5_count_47 : decode cX5_count 47 = .ok (.ireturn, 1) := by decide +kernel
theorem dX5_count_48 : decode cX5_count 48 = .ok (.aload_n 0, 1) := by decide +kernel
theorem dX5_count_49 : decode cX5_count 49 = .ok (.getfield 42, 3) := by decide +kernel
theorem dX5_count_52 : decode cX5_count 52 = .ok (.invokevirtual 171, 3) := by decide +kernel
theorem dX5_count_55 : decode cX5_count 55 = .ok (.ireturn, 1) := by decide +kernel
theorem dX5_count_56 : decode cX5_count 56 = .ok (.aload_n 0, 1) := by decide +kernel
theorem dX5_count_57 : decode cX5_count 57 = .ok (.getfield 42, 3) := by decide +kernel
theorem dX5_count_60 : decode cX5_count 60 = .ok (.getfield 86, 3) := by decide +kernel
theorem dX5_count_63 : decode cX5_count 63 = .ok (.ireturn, 1) := by decide +kernel
theorem dX5_count_64 : decode cX5_count 64 = .ok (.aload_n 0, 1) := by decide +kernel
theorem dX5_count_65 : decode cX5_count 65 = .ok (.getfield 10, 3) := by decide +kernel
theorem dX5_count_68 : decode cX5_count 68 = .ok (.getfield 146, 3) := by decide +kernel
theorem dX5_count_71 : decode cX5_count 71 = .ok (.ireturn, 1) := by decide +kernel
theorem dX5_count_72 : decode cX5_count 72 = .ok (.aload_n 0, 1) := by decide +kernel
theorem dX5_count_73 : decode cX5_count 73 = .ok (.getfield 19, 3) := by decide +kernel
theorem dX5_count_76 : decode cX5_count 76 = .ok (.getfield 143, 3) := by decide +kernel
theorem dX5_count_79 : decode cX5_count 79 = .ok (.ireturn, 1) := by decide +kernel
theorem dX5_count_80 : decode cX5_count 80 = .ok (.aload_n 0, 1) := by decide +kernel
theorem dX5_count_81 : decode cX5_count 81 = .ok (.getfield 42, 3) := by decide +kernel
theorem dX5_count_84 : decode cX5_count 84 = .ok (.getfield 152, 3) := by decide +kernel
theorem dX5_count_87 : decode cX5_count 87 = .ok (.ireturn, 1) := by decide +kernel
theorem dX5_count_88 : decode cX5_count 88 = .ok (.bipush (-2), 2) := by decide +kernel
theorem dX5_count_90 : decode cX5_count 90 = .ok (.ireturn, 1) := by decide +kernel
theorem dX5_sheet_0 : decode cX5_sheet 0 = .ok (.aload_n 0, 1) := by decide +kernel
theorem dX5_sheet_1 : decode cX5_sheet 1 = .ok (.iload_n 1, 1) := by decide +kernel
theorem dX5_sheet_2 : decode cX5_sheet 2 = .ok (.invokevirtual 155, 3) := by decide +kernel
theorem dX5_sheet_5 : decode cX5_sheet 5 = .ok (.astore 4, 2) := by decide +kernel
theorem dX5_sheet_7 : decode cX5_sheet 7 = .ok (.aload 4, 2) := by decide +kernel
theorem dX5_sheet_9 : decode cX5_sheet 9 = .ok (.ifnull 12, 3) := by decide +kernel
theorem dX5_sheet_12 : decode cX5_sheet 12 = .ok (.iload_n 2, 1) := by decide +kernel
theorem dX5_sheet_13 : decode cX5_sheet 13 = .ok (.iconst (-1), 1) := by decide +kernel
theorem dX5_sheet_14 : decode cX5_sheet 14 = .ok (.iconst 2, 1) := by decide +kernel
theorem dX5_sheet_15 : decode cX5_sheet 15 = .ok (.invokestatic 82, 3) := by decide +kernel
theorem dX5_sheet_18 : decode cX5_sheet 18 = .ok (.ifCond .ne 6, 3) := by decide +kernel
theorem dX5_sheet_21 : decode cX5_sheet 21 = .ok (.bipush (-2), 2) := by decide +kernel
theorem dX5_sheet_23 : decode cX5_sheet 23 = .ok (.ireturn, 1) := by decide +kernel
theorem dX5_sheet_24 : decode cX5_sheet 24 = .ok (.iload_n 2, 1) := by decide +kernel
theorem dX5_sheet_25 : decode cX5_sheet 25 = .ok (.iconst (-1), 1) := by decide +kernel
theorem dX5_sheet_26 : decode cX5_sheet 26 = .ok (.if_icmp .ne 12, 3) := by decide +kernel
theorem dX5_sheet_29 : decode cX5_sheet 29 = .ok (.aload 4, 2) := by decide +kernel
theorem dX5_sheet_31 : decode cX5_sheet 31 = .ok (.iconst (-1), 1) := by decide +kernel
theorem dX5_sheet_32 : decode cX5_sheet 32 = .ok (.iconst 0, 1) := by decide +kernel
theorem dX5_sheet_33 : decode cX5_sheet 33 = .ok (.invokevirtual 242, 3) := by decide +kernel
theorem dX5_sheet_36 : decode cX5_sheet 36 = .ok (.iconst 1, 1) := by decide +kernel
theorem dX5_sheet_37 : decode cX5_sheet 37 = .ok (.ireturn, 1) := by decide +kernel
theorem dX5_sheet_38 : decode cX5_sheet 38 = .ok (.iload_n 3, 1) := by decide +kernel
theorem dX5_sheet_39 : decode cX5_sheet 39 = .ok (.bipush 40, 2) := by decide +kernel
theorem dX5_sheet_41 : decode cX5_sheet 41 = .ok (.if_icmp .le 6, 3) := by decide +kernel
theorem dX5_sheet_44 : decode cX5_sheet 44 = .ok (.bipush (-2), 2) := by decide +kernel
theorem dX5_sheet_46 : decode cX5_sheet 46 = .ok (.ireturn, 1) := by decide +kernel
theorem dX5_sheet_47 : decode cX5_sheet 47 = .ok (.iload_n 3, 1) := by decide +kernel
theorem dX5_sheet_48 : decode cX5_sheet 48 = .ok (.ifCond .ge 6, 3) := by decide +kernel
theorem dX5_sheet_51 : decode cX5_sheet 51 = .ok (.bipush (-14), 2) := by decide +kernel
theorem dX5_sheet_53 : decode cX5_sheet 53 = .ok (.ireturn, 1) := by decide +kernel
theorem dX5_sheet_54 : decode cX5_sheet 54 = .ok (.aload 4, 2) := by decide +kernel
theorem dX5_sheet_56 : decode cX5_sheet 56 = .ok (.iload_n 2, 1) := by decide +kernel
theorem dX5_sheet_57 : decode cX5_sheet 57 = .ok (.iload_n 3, 1) := by decide +kernel
theorem dX5_sheet_58 : decode cX5_sheet 58 = .ok (.invokevirtual 242, 3) := by decide +kernel
theorem dX5_sheet_61 : decode cX5_sheet 61 = .ok (.iconst 1, 1) := by decide +kernel
theorem dX5_sheet_62 : decode cX5_sheet 62 = .ok (.ireturn, 1) := by decide +kernel
theorem dX5_cell_0 : decode cX5_cell 0 = .ok (.aload_n 0, 1) := by decide +kernel
theorem dX5_cell_1 : decode cX5_cell 1 = .ok (.iload_n 1, 1) := by decide +kernel
theorem dX5_cell_2 : decode cX5_cell 2 = .ok (.invokevirtual 155, 3) := by decide +kernel
theorem dX5_cell_5 : decode cX5_cell 5 = .ok (.astore 4, 2) := by decide +kernel
theorem dX5_cell_7 : decode cX5_cell 7 = .ok (.aload 4, 2) := by decide +kernel
theorem dX5_cell_9 : decode cX5_cell 9 = .ok (.ifnonnull 6, 3) := by decide +kernel
theorem dX5_cell_12 : decode cX5_cell 12 = .ok (.bipush (-2), 2) := by decide +kernel
theorem dX5_cell_14 : decode cX5_cell 14 = .ok (.ireturn, 1) := by decide +kernel
theorem dX5_cell_15 : decode cX5_cell 15 = .ok (.aload 4, 2) := by decide +kernel
theorem dX5_cell_17 : decode cX5_cell 17 = .ok (.invokevirtual 159, 3) := by decide +kernel
theorem dX5_cell_20 : decode cX5_cell 20 = .ok (.ifCond .eq 6, 3) := by decide +kernel
theorem dX5_cell_23 : decode cX5_cell 23 = .ok (.bipush (-11), 2) := by decide +kernel
theorem dX5_cell_25 : decode cX5_cell 25 = .ok (.ireturn, 1) := by decide +kernel
theorem dX5_cell_26 : decode cX5_cell 26 = .ok (.aload 4, 2) := by decide +kernel
theorem dX5_cell_28 : decode cX5_cell 28 = .ok (.iload_n 2, 1) := by decide +kernel
theorem dX5_cell_29 : decode cX5_cell 29 = .ok (.iconst 1, 1) := by decide +kernel
theorem dX5_cell_30 : decode cX5_cell 30 = .ok (.invokevirtual 271, 3) := by decide +kernel
theorem dX5_cell_33 : decode cX5_cell 33 = .ok (.ifCond .ne 6, 3) := by decide +kernel
theorem dX5_cell_36 : decode cX5_cell 36 = .ok (.bipush (-12), 2) := by decide +kernel
theorem dX5_cell_38 : decode cX5_cell 38 = .ok (.ireturn, 1) := by decide +kernel
theorem dX5_cell_39 : decode cX5_cell 39 = .ok (.aload 4, 2) := by decide +kernel
theorem dX5_cell_41 : decode cX5_cell 41 = .ok (.iload_n 2, 1) := by decide +kernel
theorem dX5_cell_42 : decode cX5_cell 42 = .ok (.iload_n 3, 1) := by decide +kernel
theorem dX5_cell_43 : decode cX5_cell 43 = .ok (.invokevirtual 245, 3) := by decide +kernel
theorem dX5_cell_46 : decode cX5_cell 46 = .ok (.iconst 1, 1) := by decide +kernel
theorem dX5_cell_47 : decode cX5_cell 47 = .ok (.ireturn, 1) := by decide +kernel
theorem dX5_copy_0 : decode cX5_copy 0 = .ok (.aload_n 0, 1) := by decide +kernel
theorem dX5_copy_1 : decode cX5_copy 1 = .ok (.iload_n 1, 1) := by decide +kernel
theorem dX5_copy_2 : decode cX5_copy 2 = .ok (.invokevirtual 155, 3) := by decide +kernel
theorem dX5_copy_5 : decode cX5_copy 5 = .ok (.astore 6, 2) := by decide +kernel
theorem dX5_copy_7 : decode cX5_copy 7 = .ok (.aload_n 0, 1) := by decide +kernel
theorem dX5_copy_8 : decode cX5_copy 8 = .ok (.iload_n 3, 1) := by decide +kernel
theorem dX5_copy_9 : decode cX5_copy 9 = .ok (.invokevirtual 155, 3) := by decide +kernel
theorem dX5_copy_12 : decode cX5_copy 12 = .ok (.astore 7, 2) := by decide +kernel
theorem dX5_copy_14 : decode cX5_copy 14 = .ok (.aload 6, 2) := by decide +kernel
theorem dX5_copy_16 : decode cX5_copy 16 = .ok (.ifnull 8, 3) := by decide +kernel
theorem dX5_copy_19 : decode cX5_copy 19 = .ok (.aload 7, 2) := by decide +kernel
theorem dX5_copy_21 : decode cX5_copy 21 = .ok (.ifnonnull 6, 3) := by decide +kernel
theorem dX5_copy_24 : decode cX5_copy 24 = .ok (.bipush (-2), 2) := by decide +kernel
theorem dX5_copy_26 : decode cX5_copy 26 = .ok (.ireturn, 1) := by decide +kernel
theorem dX5_copy_27 : decode cX5_copy 27 = .ok (.aload 6, 2) := by decide +kernel
theorem dX5_copy_29 : decode cX5_copy 29 = .ok (.invokevirtual 159, 3) := by decide +kernel
theorem dX5_copy_32 : decode cX5_copy 32 = .ok (.ifCond .ne 11, 3) := by decide +kernel
theorem dX5_copy_35 : decode cX5_copy 35 = .ok (.aload 7, 2) := by decide +kernel
theorem dX5_copy_37 : decode cX5_copy 37 = .ok (.invokevirtual 159, 3) := by decide +kernel
theorem dX5_copy_40 : decode cX5_copy 40 = .ok (.ifCond .eq 6, 3) := by decide +kernel
theorem dX5_copy_43 : decode cX5_copy 43 = .ok (.bipush (-11), 2) := by decide +kernel
theorem dX5_copy_45 : decode cX5_copy 45 = .ok (.ireturn, 1) := by decide +kernel
theorem dX5_copy_46 : decode cX5_copy 46 = .ok (.aload 6, 2) := by decide +kernel
theorem dX5_copy_48 : decode cX5_copy 48 = .ok (.getfield 274, 3) := by decide +kernel
theorem dX5_copy_51 : decode cX5_copy 51 = .ok (.aload 7, 2) := by decide +kernel
theorem dX5_copy_53 : decode cX5_copy 53 = .ok (.getfield 274, 3) := by decide +kernel
theorem dX5_copy_56 : decode cX5_copy 56 = .ok (.if_icmp .eq 6, 3) := by decide +kernel
theorem dX5_copy_59 : decode cX5_copy 59 = .ok (.bipush (-13), 2) := by decide +kernel
theorem dX5_copy_61 : decode cX5_copy 61 = .ok (.ireturn, 1) := by decide +kernel
theorem dX5_copy_62 : decode cX5_copy 62 = .ok (.aload 6, 2) := by decide +kernel
theorem dX5_copy_64 : decode cX5_copy 64 = .ok (.iload_n 2, 1) := by decide +kernel
theorem dX5_copy_65 : decode cX5_copy 65 = .ok (.iload 5, 2) := by decide +kernel
theorem dX5_copy_67 : decode cX5_copy 67 = .ok (.invokevirtual 271, 3) := by decide +kernel
theorem dX5_copy_70 : decode cX5_copy 70 = .ok (.ifCond .eq 15, 3) := by decide +kernel
theorem dX5_copy_73 : decode cX5_copy 73 = .ok (.aload 7, 2) := by decide +kernel
theorem dX5_copy_75 : decode cX5_copy 75 = .ok (.iload 4, 2) := by decide +kernel
theorem dX5_copy_77 : decode cX5_copy 77 = .ok (.iload 5, 2) := by decide +kernel
theorem dX5_copy_79 : decode cX5_copy 79 = .ok (.invokevirtual 271, 3) := by decide +kernel
theorem dX5_copy_82 : decode cX5_copy 82 = .ok (.ifCond .ne 6, 3) := by decide +kernel
theorem dX5_copy_85 : decode cX5_copy 85 = .ok (.bipush (-12), 2) := by decide +kernel
theorem dX5_copy_87 : decode cX5_copy 87 = .ok (.ireturn, 1) := by decide +kernel
theorem dX5_copy_88 : decode cX5_copy 88 = .ok (.aload 6, 2) := by decide +kernel
theorem dX5_copy_90 : decode cX5_copy 90 = .ok (.getfield 277, 3) := by decide +kernel
theorem dX5_copy_93 : decode cX5_copy 93 = .ok (.iload_n 2, 1) := by decide +kernel
theorem dX5_copy_94 : decode cX5_copy 94 = .ok (.aload 7, 2) := by decide +kernel
theorem dX5_copy_96 : decode cX5_copy 96 = .ok (.getfield 277, 3) := by decide +kernel
theorem dX5_copy_99 : decode cX5_copy 99 = .ok (.iload 4, 2) := by decide +kernel
theorem dX5_copy_101 : decode cX5_copy 101 = .ok (.iload 5, 2) := by decide +kernel
theorem dX5_copy_103 : decode cX5_copy 103 = .ok (.invokestatic 280, 3) := by decide +kernel
theorem dX5_copy_106 : decode cX5_copy 106 = .ok (.iload 5, 2) := by decide +kernel
theorem dX5_copy_108 : decode cX5_copy 108 = .ok (.ireturn, 1) := by decide +kernel
theorem dX5_players_0 : decode cX5_players 0 = .ok (.aload_n 0, 1) := by decide +kernel
theorem dX5_players_1 : decode cX5_players 1 = .ok (.iload_n 1, 1) := by decide +kernel
theorem dX5_players_2 : decode cX5_players 2 = .ok (.invokevirtual 155, 3) := by decide +kernel
theorem dX5_players_5 : decode cX5_players 5 = .ok (.astore 5, 2) := by decide +kernel
theorem dX5_players_7 : decode cX5_players 7 = .ok (.aload 5, 2) := by decide +kernel
theorem dX5_players_9 : decode cX5_players 9 = .ok (.ifnull 23, 3) := by decide +kernel
theorem dX5_players_12 : decode cX5_players 12 = .ok (.iload_n 2, 1) := by decide +kernel
theorem dX5_players_13 : decode cX5_players 13 = .ok (.iconst 0, 1) := by decide +kernel
theorem dX5_players_14 : decode cX5_players 14 = .ok (.iconst 2, 1) := by decide +kernel
theorem dX5_players_15 : decode cX5_players 15 = .ok (.invokestatic 82, 3) := by decide +kernel
theorem dX5_players_18 : decode cX5_players 18 = .ok (.ifCond .eq 14, 3) := by decide +kernel
theorem dX5_players_21 : decode cX5_players 21 = .ok (.iload 4, 2) := by decide +kernel
theorem dX5_players_23 : decode cX5_players 23 = .ok (.iconst 0, 1) := by decide +kernel
theorem dX5_players_24 : decode cX5_players 24 = .ok (.bipush 6, 2) := by decide +kernel
theorem dX5_players_26 : decode cX5_players 26 = .ok (.invokestatic 82, 3) := by decide +kernel
theorem dX5_players_29 : decode cX5_players 29 = .ok (.ifCond .ne 6, 3) := by decide +kernel
theorem dX5_players_32 : decode cX5_players 32 = .ok (.bipush (-2), 2) := by decide +kernel
theorem dX5_players_34 : decode cX5_players 34 = .ok (.ireturn, 1) := by decide +kernel
theorem dX5_players_35 : decode cX5_players 35 = .ok (.aload 5, 2) := by decide +kernel
theorem dX5_players_37 : decode cX5_players 37 = .ok (.invokevirtual 159, 3) := by decide +kernel
theorem dX5_players_40 : decode cX5_players 40 = .ok (.ifCond .eq 6, 3) := by decide +kernel
theorem dX5_players_43 : decode cX5_players 43 = .ok (.bipush (-11), 2) := by decide +kernel
theorem dX5_players_45 : decode cX5_players 45 = .ok (.ireturn, 1) := by decide +kernel
theorem dX5_players_46 : decode cX5_players 46 = .ok (.aload 5, 2) := by decide +kernel
theorem dX5_players_48 : decode cX5_players 48 = .ok (.getfield 274, 3) := by decide +kernel
theorem dX5_players_51 : decode cX5_players 51 = .ok (.iload_n 2, 1) := by decide +kernel
theorem dX5_players_52 : decode cX5_players 52 = .ok (.if_icmp .eq 6, 3) := by decide +kernel
theorem dX5_players_55 : decode cX5_players 55 = .ok (.bipush (-13), 2) := by decide +kernel
theorem dX5_players_57 : decode cX5_players 57 = .ok (.ireturn, 1) := by decide +kernel
theorem dX5_players_58 : decode cX5_players 58 = .ok (.iconst 0, 1) := by decide +kernel
theorem dX5_players_59 : decode cX5_players 59 = .ok (.istore 6, 2) := by decide +kernel
theorem dX5_players_61 : decode cX5_players 61 = .ok (.iconst 0, 1) := by decide +kernel
theorem dX5_players_62 : decode cX5_players 62 = .ok (.istore 7, 2) := by decide +kernel
theorem dX5_players_64 : decode cX5_players 64 = .ok (.iload 7, 2) := by decide +kernel
theorem dX5_players_66 : decode cX5_players 66 = .ok (.iload 4, 2) := by decide +kernel
theorem dX5_players_68 : decode cX5_players 68 = .ok (.if_icmp .ge 60, 3) := by decide +kernel
theorem dX5_players_71 : decode cX5_players 71 = .ok (.iload_n 3, 1) := by decide +kernel
theorem dX5_players_72 : decode cX5_players 72 = .ok (.iconst 2, 1) := by decide +kernel
theorem dX5_players_73 : decode cX5_players 73 = .ok (.iload 7, 2) := by decide +kernel
theorem dX5_players_75 : decode cX5_players 75 = .ok (.imul, 1) := by decide +kernel
theorem dX5_players_76 : decode cX5_players 76 = .ok (.iadd, 1) := by decide +kernel
theorem dX5_players_77 : decode cX5_players 77 = .ok (.istore 8, 2) := by decide +kernel
theorem dX5_players_79 : decode cX5_players 79 = .ok (.aload 5, 2) := by decide +kernel
theorem dX5_players_81 : decode cX5_players 81 = .ok (.iload 8, 2) := by decide +kernel
theorem dX5_players_83 : decode cX5_players 83 = .ok (.iconst 2, 1) := by decide +kernel
theorem dX5_players_84 : decode cX5_players 84 = .ok (.invokevirtual 271, 3) := by decide +kernel
theorem dX5_players_87 : decode cX5_players 87 = .ok (.ifCond .ne 6, 3) := by decide +kernel
theorem dX5_players_90 : decode cX5_players 90 = .ok (.bipush (-12), 2) := by decide +kernel
theorem dX5_players_92 : decode cX5_players 92 = .ok (.ireturn, 1) := by decide +kernel
theorem dX5_players_93 : decode cX5_players 93 = .ok (.aload_n 0, 1) := by decide +kernel
theorem dX5_players_94 : decode cX5_players 94 = .ok (.getfield 42, 3) := by decide +kernel
theorem dX5_players_97 : decode cX5_players 97 = .ok (.aload 5, 2) := by decide +kernel
theorem dX5_players_99 : decode cX5_players 99 = .ok (.iload 8, 2) := by decide +kernel
theorem dX5_players_101 : decode cX5_players 101 = .ok (.invokevirtual 179, 3) := by decide +kernel
theorem dX5_players_104 : decode cX5_players 104 = .ok (.aload 5, 2) := by decide +kernel
theorem dX5_players_106 : decode cX5_players 106 = .ok (.iload 8, 2) := by decide +kernel
theorem dX5_players_108 : decode cX5_players 108 = .ok (.iconst 1, 1) := by decide +kernel
theorem dX5_players_109 : decode cX5_players 109 = .ok (.iadd, 1) := by decide +kernel
theorem dX5_players_110 : decode cX5_players 110 = .ok (.invokevirtual 179, 3) := by decide +kernel
theorem dX5_players_113 : decode cX5_players 113 = .ok (.invokevirtual 101, 3) := by decide +kernel
theorem dX5_players_116 : decode cX5_players 116 = .ok (.ifCond .lt 6, 3) := by decide +kernel
theorem dX5_players_119 : decode cX5_players 119 = .ok (.iinc 6 1, 3) := by decide +kernel
theorem dX5_players_122 : decode cX5_players 122 = .ok (.iinc 7 1, 3) := by decide +kernel
theorem dX5_players_125 : decode cX5_players 125 = .ok (.goto (-61), 3) := by decide +kernel
theorem dX5_players_128 : decode cX5_players 128 = .ok (.iload 6, 2) := by decide +kernel
theorem dX5_players_130 : decode cX5_players 130 = .ok (.ireturn, 1) := by decide +kernel
theorem dX5_taken_0 : decode cX5_taken 0 = .ok (.iload_n 2, 1) := by decide +kernel
theorem dX5_taken_1 : decode cX5_taken 1 = .ok (.iconst 0, 1) := by decide +kernel
theorem dX5_taken_2 : decode cX5_taken 2 = .ok (.iconst 5, 1) := by decide +kernel
theorem dX5_taken_3 : decode cX5_taken 3 = .ok (.invokestatic 82, 3) := by decide +kernel
theorem dX5_taken_6 : decode cX5_taken 6 = .ok (.ifCond .ne 6, 3) := by decide +kernel
theorem dX5_taken_9 : decode cX5_taken 9 = .ok (.bipush (-2), 2) := by decide +kernel
theorem dX5_taken_11 : decode cX5_taken 11 = .ok (.ireturn, 1) := by decide +kernel
theorem dX5_taken_12 : decode cX5_taken 12 = .ok (.aload_n 0, 1) := by decide +kernel
theorem dX5_taken_13 : decode cX5_taken 13 = .ok (.getfield 42, 3) := by decide +kernel
theorem dX5_taken_16 : decode cX5_taken 16 = .ok (.iload_n 1, 1) := by decide +kernel
theorem dX5_taken_17 : decode cX5_taken 17 = .ok (.invokevirtual 90, 3) := by decide +kernel
theorem dX5_taken_20 : decode cX5_taken 20 = .ok (.ifCond .ne 6, 3) := by decide +kernel
theorem dX5_taken_23 : decode cX5_taken 23 = .ok (.bipush (-11), 2) := by decide +kernel
theorem dX5_taken_25 : decode cX5_taken 25 = .ok (.ireturn, 1) := by decide +kernel
theorem dX5_taken_26 : decode cX5_taken 26 = .ok (.aload_n 0, 1) := by decide +kernel
theorem dX5_taken_27 : decode cX5_taken 27 = .ok (.getfield 42, 3) := by decide +kernel
theorem dX5_taken_30 : decode cX5_taken 30 = .ok (.getfield 104, 3) := by decide +kernel
theorem dX5_taken_33 : decode cX5_taken 33 = .ok (.iload_n 1, 1) := by decide +kernel
theorem dX5_taken_34 : decode cX5_taken 34 = .ok (.iaload, 1) := by decide +kernel
theorem dX5_taken_35 : decode cX5_taken 35 = .ok (.iload_n 2, 1) := by decide +kernel
theorem dX5_taken_36 : decode cX5_taken 36 = .ok (.invokestatic 286, 3) := by decide +kernel
theorem dX5_taken_39 : decode cX5_taken 39 = .ok (.ifCond .eq 15, 3) := by decide +kernel
theorem dX5_taken_42 : decode cX5_taken 42 = .ok (.aload_n 0, 1) := by decide +kernel
theorem dX5_taken_43 : decode cX5_taken 43 = .ok (.getfield 42, 3) := by decide +kernel
theorem dX5_taken_46 : decode cX5_taken 46 = .ok (.getfield 71, 3) := by decide +kernel
theorem dX5_taken_49 : decode cX5_taken 49 = .ok (.iload_n 1, 1) := by decide +kernel
theorem dX5_taken_50 : decode cX5_taken 50 = .ok (.iaload, 1) := by decide +kernel
theorem dX5_taken_51 : decode cX5_taken 51 = .ok (.goto 5, 3) := by decide +kernel
theorem dX5_taken_54 : decode cX5_taken 54 = .ok (.bipush (-13), 2) := by decide +kernel
theorem dX5_taken_56 : decode cX5_taken 56 = .ok (.ireturn, 1) := by decide +kernel
theorem dX5_sheetAt_0 : decode cX5_sheetAt 0 = .ok (.iload_n 1, 1) := by decide +kernel
theorem dX5_sheetAt_1 : decode cX5_sheetAt 1 = .ok (.ifCond .lt 21, 3) := by decide +kernel
theorem dX5_sheetAt_4 : decode cX5_sheetAt 4 = .ok (.iload_n 1, 1) := by decide +kernel
theorem dX5_sheetAt_5 : decode cX5_sheetAt 5 = .ok (.aload_n 0, 1) := by decide +kernel
theorem dX5_sheetAt_6 : decode cX5_sheetAt 6 = .ok (.getfield 58, 3) := by decide +kernel
theorem dX5_sheetAt_9 : decode cX5_sheetAt 9 = .ok (.arraylength, 1) := by decide +kernel
theorem dX5_sheetAt_10 : decode cX5_sheetAt 10 = .ok (.if_icmp .ge 12, 3) := by decide +kernel
theorem dX5_sheetAt_13 : decode cX5_sheetAt 13 = .ok (.aload_n 0, 1) := by decide +kernel
theorem dX5_sheetAt_14 : decode cX5_sheetAt 14 = .ok (.getfield 58, 3) := by decide +kernel
theorem dX5_sheetAt_17 : decode cX5_sheetAt 17 = .ok (.iload_n 1, 1) := by decide +kernel
theorem dX5_sheetAt_18 : decode cX5_sheetAt 18 = .ok (.aaload, 1) := by decide +kernel
theorem dX5_sheetAt_19 : decode cX5_sheetAt 19 = .ok (.goto 4, 3) := by decide +kernel
theorem dX5_sheetAt_22 : decode cX5_sheetAt 22 = .ok (.aconst_null, 1) := by decide +kernel
theorem dX5_sheetAt_23 : decode cX5_sheetAt 23 = .ok (.areturn, 1) := by decide +kernel
theorem dX5_think_0 : decode cX5_think 0 = .ok (.aload_n 0, 1) := by decide +kernel
theorem dX5_think_1 : decode cX5_think 1 = .ok (.getfield 49, 3) := by decide +kernel
theorem dX5_think_4 : decode cX5_think 4 = .ok (.aload_n 0, 1) := by decide +kernel
theorem dX5_think_5 : decode cX5_think 5 = .ok (.getfield 42, 3) := by decide +kernel
theorem dX5_think_8 : decode cX5_think 8 = .ok (.invokevirtual 263, 3) := by decide +kernel
theorem dX5_think_11 : decode cX5_think 11 = .ok (.aload_n 0, 1) := by decide +kernel
theorem dX5_think_12 : decode cX5_think 12 = .ok (.getfield 49, 3) := by decide +kernel
theorem dX5_think_15 : decode cX5_think 15 = .ok (.areturn, 1) := by decide +kernel
theorem dX5_thinkOn_0 : decode cX5_thinkOn 0 = .ok (.iload_n 2, 1) := by decide +kernel
theorem dX5_thinkOn_1 : decode cX5_thinkOn 1 = .ok (.ifCond .lt 21, 3) := by decide +kernel
theorem dX5_thinkOn_4 : decode cX5_thinkOn 4 = .ok (.iload_n 2, 1) := by decide +kernel
theorem dX5_thinkOn_5 : decode cX5_thinkOn 5 = .ok (.aload_n 0, 1) := by decide +kernel
theorem dX5_thinkOn_6 : decode cX5_thinkOn 6 = .ok (.getfield 52, 3) := by decide +kernel
theorem dX5_thinkOn_9 : decode cX5_thinkOn 9 = .ok (.arraylength, 1) := by decide +kernel
theorem dX5_thinkOn_10 : decode cX5_thinkOn 10 = .ok (.if_icmp .ge 12, 3) := by decide +kernel
theorem dX5_thinkOn_13 : decode cX5_thinkOn 13 = .ok (.aload_n 0, 1) := by decide +kernel
theorem dX5_thinkOn_14 : decode cX5_thinkOn 14 = .ok (.getfield 52, 3) := by decide +kernel
theorem dX5_thinkOn_17 : decode cX5_thinkOn 17 = .ok (.iload_n 2, 1) := by decide +kernel
theorem dX5_thinkOn_18 : decode cX5_thinkOn 18 = .ok (.aaload, 1) := by decide +kernel
theorem dX5_thinkOn_19 : decode cX5_thinkOn 19 = .ok (.goto 4, 3) := by decide +kernel
theorem dX5_thinkOn_22 : decode cX5_thinkOn 22 = .ok (.aconst_null, 1) := by decide +kernel
theorem dX5_thinkOn_23 : decode cX5_thinkOn 23 = .ok (.astore_n 3, 1) := by decide +kernel
theorem dX5_thinkOn_24 : decode cX5_thinkOn 24 = .ok (.aload_n 3, 1) := by decide +kernel
theorem dX5_thinkOn_25 : decode cX5_thinkOn 25 = .ok (.ifnull 8, 3) := by decide +kernel
theorem dX5_thinkOn_28 : decode cX5_thinkOn 28 = .ok (.aload_n 3, 1) := by decide +kernel
theorem dX5_thinkOn_29 : decode cX5_thinkOn 29 = .ok (.aload_n 1, 1) := by decide +kernel
theorem dX5_thinkOn_30 : decode cX5_thinkOn 30 = .ok (.invokevirtual 263, 3) := by decide +kernel
theorem dX5_thinkOn_33 : decode cX5_thinkOn 33 = .ok (.aload_n 3, 1) := by decide +kernel
theorem dX5_thinkOn_34 : decode cX5_thinkOn 34 = .ok (.areturn, 1) := by decide +kernel
theorem dX5_isWithin_0 : decode cX5_isWithin 0 = .ok (.iload_n 0, 1) := by decide +kernel
theorem dX5_isWithin_1 : decode cX5_isWithin 1 = .ok (.iload_n 1, 1) := by decide +kernel
theorem dX5_isWithin_2 : decode cX5_isWithin 2 = .ok (.if_icmp .lt 12, 3) := by decide +kernel
theorem dX5_isWithin_5 : decode cX5_isWithin 5 = .ok (.iload_n 0, 1) := by decide +kernel
theorem dX5_isWithin_6 : decode cX5_isWithin 6 = .ok (.iload_n 2, 1) := by decide +kernel
theorem dX5_isWithin_7 : decode cX5_isWithin 7 = .ok (.if_icmp .gt 7, 3) := by decide +kernel
theorem dX5_isWithin_10 : decode cX5_isWithin 10 = .ok (.iconst 1, 1) := by decide +kernel
theorem dX5_isWithin_11 : decode cX5_isWithin 11 = .ok (.goto 4, 3) := by decide +kernel
theorem dX5_isWithin_14 : decode cX5_isWithin 14 = .ok (.iconst 0, 1) := by decide +kernel
theorem dX5_isWithin_15 : decode cX5_isWithin 15 = .ok (.ireturn, 1) := by decide +kernel
theorem dX5_bounded_0 : decode cX5_bounded 0 = .ok (.iload_n 0, 1) := by decide +kernel
theorem dX5_bounded_1 : decode cX5_bounded 1 = .ok (.iload_n 1, 1) := by decide +kernel
theorem dX5_bounded_2 : decode cX5_bounded 2 = .ok (.if_icmp .ge 7, 3) := by decide +kernel
theorem dX5_bounded_5 : decode cX5_bounded 5 = .ok (.iload_n 1, 1) := by decide +kernel
theorem dX5_bounded_6 : decode cX5_bounded 6 = .ok (.goto 13, 3) := by decide +kernel
theorem dX5_bounded_9 : decode cX5_bounded 9 = .ok (.iload_n 0, 1) := by decide +kernel
theorem dX5_bounded_10 : decode cX5_bounded 10 = .ok (.iload_n 2, 1) := by decide +kernel
theorem dX5_bounded_11 : decode cX5_bounded 11 = .ok (.if_icmp .le 7, 3) := by decide +kernel
theorem dX5_bounded_14 : decode cX5_bounded 14 = .ok (.iload_n 2, 1) := by decide +kernel
theorem dX5_bounded_15 : decode cX5_bounded 15 = .ok (.goto 4, 3) := by decide +kernel
theorem dX5_bounded_18 : decode cX5_bounded 18 = .ok (.iload_n 0, 1) := by decide +kernel
theorem dX5_bounded_19 : decode cX5_bounded 19 = .ok (.ireturn, 1) := by decide +kernel
theorem dX5_kindAbove_0 : decode cX5_kindAbove 0 = .ok (.iload_n 0, 1) := by decide +kernel
theorem dX5_kindAbove_1 : decode cX5_kindAbove 1 = .ok (.tableswitch 41 1 5 #[35, 35, 37, 39, 35], 35) := by decide +kernel
theorem dX5_kindAbove_36 : decode cX5_kindAbove 36 = .ok (.iconst 0, 1) := by decide +kernel
theorem dX5_kindAbove_37 : decode cX5_kindAbove 37 = .ok (.ireturn, 1) := by decide +kernel
theorem dX5_kindAbove_38 : decode cX5_kindAbove 38 = .ok (.iconst 1, 1) := by decide +kernel
theorem dX5_kindAbove_39 : decode cX5_kindAbove 39 = .ok (.ireturn, 1) := by decide +kernel
theorem dX5_kindAbove_40 : decode cX5_kindAbove 40 = .ok (.iconst 2, 1) := by decide +kernel
theorem dX5_kindAbove_41 : decode cX5_kindAbove 41 = .ok (.ireturn, 1) := by decide +kernel
theorem dX5_kindAbove_42 : decode cX5_kindAbove 42 = .ok (.iconst (-1), 1) := by decide +kernel
theorem dX5_kindAbove_43 : decode cX5_kindAbove 43 = .ok (.ireturn, 1) := by decide +kernel
theorem dX5_isOfKind_0 : decode cX5_isOfKind 0 = .ok (.iload_n 0, 1) := by decide +kernel
theorem dX5_isOfKind_1 : decode cX5_isOfKind 1 = .ok (.istore_n 2, 1) := by decide +kernel
theorem dX5_isOfKind_2 : decode cX5_isOfKind 2 = .ok (.iconst 0, 1) := by decide +kernel
theorem dX5_isOfKind_3 : decode cX5_isOfKind 3 = .ok (.istore_n 3, 1) := by decide +kernel
theorem dX5_isOfKind_4 : decode cX5_isOfKind 4 = .ok (.iload_n 3, 1) := by decide +kernel
theorem dX5_isOfKind_5 : decode cX5_isOfKind 5 = .ok (.bipush 6, 2) := by decide +kernel
theorem dX5_isOfKind_7 : decode cX5_isOfKind 7 = .ok (.if_icmp .ge 26, 3) := by decide +kernel
theorem dX5_isOfKind_10 : decode cX5_isOfKind 10 = .ok (.iload_n 2, 1) := by decide +kernel
theorem dX5_isOfKind_11 : decode cX5_isOfKind 11 = .ok (.iconst (-1), 1) := by decide +kernel
theorem dX5_isOfKind_12 : decode cX5_isOfKind 12 = .ok (.if_icmp .eq 21, 3) := by decide +kernel
theorem dX5_isOfKind_15 : decode cX5_isOfKind 15 = .ok (.iload_n 2, 1) := by decide +kernel
theorem dX5_isOfKind_16 : decode cX5_isOfKind 16 = .ok (.iload_n 1, 1) := by decide +kernel
theorem dX5_isOfKind_17 : decode cX5_isOfKind 17 = .ok (.if_icmp .ne 5, 3) := by decide +kernel
theorem dX5_isOfKind_20 : decode cX5_isOfKind 20 = .ok (.iconst 1, 1) := by decide +kernel
theorem dX5_isOfKind_21 : decode cX5_isOfKind 21 = .ok (.ireturn, 1) := by decide +kernel
theorem dX5_isOfKind_22 : decode cX5_isOfKind 22 = .ok (.iload_n 2, 1) := by decide +kernel
theorem dX5_isOfKind_23 : decode cX5_isOfKind 23 = .ok (.invokestatic 289, 3) := by decide +kernel
theorem dX5_isOfKind_26 : decode cX5_isOfKind 26 = .ok (.istore_n 2, 1) := by decide +kernel
theorem dX5_isOfKind_27 : decode cX5_isOfKind 27 = .ok (.iinc 3 1, 3) := by decide +kernel
theorem dX5_isOfKind_30 : decode cX5_isOfKind 30 = .ok (.goto (-26), 3) := by decide +kernel
theorem dX5_isOfKind_33 : decode cX5_isOfKind 33 = .ok (.iconst 0, 1) := by decide +kernel
theorem dX5_isOfKind_34 : decode cX5_isOfKind 34 = .ok (.ireturn, 1) := by decide +kernel
end
section
theorem dJ6_bitCount_0f7a4_0 : decode cJ6_bitCount_0f7a4 0 = .ok (.iload_n 0, 1) := by decide +kernel
theorem dJ6_bitCount_0f7a4_1 : decode cJ6_bitCount_0f7a4 1 = .ok (.iload_n 0, 1) := by decide +kernel
theorem dJ6_bitCount_0f7a4_2 : decode cJ6_bitCount_0f7a4 2 = .ok (.iconst 1, 1) := by decide +kernel
theorem dJ6_bitCount_0f7a4_3 : decode cJ6_bitCount_0f7a4 3 = .ok (.iushr, 1) := by decide +kernel
theorem dJ6_bitCount_0f7a4_4 : decode cJ6_bitCount_0f7a4 4 = .ok (.ldc_w 265, 3) := by decide +kernel
theorem dJ6_bitCount_0f7a4_7 : decode cJ6_bitCount_0f7a4 7 = .ok (.iand, 1) := by decide +kernel
theorem dJ6_bitCount_0f7a4_8 : decode cJ6_bitCount_0f7a4 8 = .ok (.isub, 1) := by decide +kernel
theorem dJ6_bitCount_0f7a4_9 : decode cJ6_bitCount_0f7a4 9 = .ok (.istore_n 0, 1) := by decide +kernel
theorem dJ6_bitCount_0f7a4_10 : decode cJ6_bitCount_0f7a4 10 = .ok (.iload_n 0, 1) := by decide +kernel
theorem dJ6_bitCount_0f7a4_11 : decode cJ6_bitCount_0f7a4 11 = .ok (.ldc_w 266, 3) := by decide +kernel
theorem dJ6_bitCount_0f7a4_14 : decode cJ6_bitCount_0f7a4 14 = .ok (.iand, 1) := by decide +kernel
theorem dJ6_bitCount_0f7a4_15 : decode cJ6_bitCount_0f7a4 15 = .ok (.iload_n 0, 1) := by decide +kernel
theorem dJ6_bitCount_0f7a4_16 : decode cJ6_bitCount_0f7a4 16 = .ok (.iconst 2, 1) := by decide +kernel
theorem dJ6_bitCount_0f7a4_17 : decode cJ6_bitCount_0f7a4 17 = .ok (.iushr, 1) := by decide +kernel
theorem dJ6_bitCount_0f7a4_18 : decode cJ6_bitCount_0f7a4 18 = .ok (.ldc_w 266, 3) := by decide +kernel
theorem dJ6_bitCount_0f7a4_21 : decode cJ6_bitCount_0f7a4 21 = .ok (.iand, 1) := by decide +kernel
theorem dJ6_bitCount_0f7a4_22 : decode cJ6_bitCount_0f7a4 22 = .ok (.iadd, 1) := by decide +kernel
theorem dJ6_bitCount_0f7a4_23 : decode cJ6_bitCount_0f7a4 23 = .ok (.istore_n 0, 1) := by decide +kernel
theorem dJ6_bitCount_0f7a4_24 : decode cJ6_bitCount_0f7a4 24 = .ok (.iload_n 0, 1) := by decide +kernel
theorem dJ6_bitCount_0f7a4_25 : decode cJ6_bitCount_0f7a4 25 = .ok (.iload_n 0, 1) := by decide +kernel
theorem dJ6_bitCount_0f7a4_26 : decode cJ6_bitCount_0f7a4 26 = .ok (.iconst 4, 1) := by decide +kernel
theorem dJ6_bitCount_0f7a4_27 : decode cJ6_bitCount_0f7a4 27 = .ok (.iushr, 1) := by decide +kernel
theorem dJ6_bitCount_0f7a4_28 : decode cJ6_bitCount_0f7a4 28 = .ok (.iadd, 1) := by decide +kernel
theorem dJ6_bitCount_0f7a4_29 : decode cJ6_bitCount_0f7a4 29 = .ok (.ldc_w 267, 3) := by decide +kernel
theorem dJ6_bitCount_0f7a4_32 : decode cJ6_bitCount_0f7a4 32 = .ok (.iand, 1) := by decide +kernel
theorem dJ6_bitCount_0f7a4_33 : decode cJ6_bitCount_0f7a4 33 = .ok (.istore_n 0, 1) := by decide +kernel
theorem dJ6_bitCount_0f7a4_34 : decode cJ6_bitCount_0f7a4 34 = .ok (.iload_n 0, 1) := by decide +kernel
theorem dJ6_bitCount_0f7a4_35 : decode cJ6_bitCount_0f7a4 35 = .ok (.iload_n 0, 1) := by decide +kernel
theorem dJ6_bitCount_0f7a4_36 : decode cJ6_bitCount_0f7a4 36 = .ok (.bipush 8, 2) := by decide +kernel
theorem dJ6_bitCount_0f7a4_38 : decode cJ6_bitCount_0f7a4 38 = .ok (.iushr, 1) := by decide +kernel
theorem dJ6_bitCount_0f7a4_39 : decode cJ6_bitCount_0f7a4 39 = .ok (.iadd, 1) := by decide +kernel
theorem dJ6_bitCount_0f7a4_40 : decode cJ6_bitCount_0f7a4 40 = .ok (.istore_n 0, 1) := by decide +kernel
theorem dJ6_bitCount_0f7a4_41 : decode cJ6_bitCount_0f7a4 41 = .ok (.iload_n 0, 1) := by decide +kernel
theorem dJ6_bitCount_0f7a4_42 : decode cJ6_bitCount_0f7a4 42 = .ok (.iload_n 0, 1) := by decide +kernel
theorem dJ6_bitCount_0f7a4_43 : decode cJ6_bitCount_0f7a4 43 = .ok (.bipush 16, 2) := by decide +kernel
theorem dJ6_bitCount_0f7a4_45 : decode cJ6_bitCount_0f7a4 45 = .ok (.iushr, 1) := by decide +kernel
theorem dJ6_bitCount_0f7a4_46 : decode cJ6_bitCount_0f7a4 46 = .ok (.iadd, 1) := by decide +kernel
theorem dJ6_bitCount_0f7a4_47 : decode cJ6_bitCount_0f7a4 47 = .ok (.istore_n 0, 1) := by decide +kernel
theorem dJ6_bitCount_0f7a4_48 : decode cJ6_bitCount_0f7a4 48 = .ok (.iload_n 0, 1) := by decide +kernel
theorem dJ6_bitCount_0f7a4_49 : decode cJ6_bitCount_0f7a4 49 = .ok (.bipush 63, 2) := by decide +kernel
theorem dJ6_bitCount_0f7a4_51 : decode cJ6_bitCount_0f7a4 51 = .ok (.iand, 1) := by decide +kernel
theorem dJ6_bitCount_0f7a4_52 : decode cJ6_bitCount_0f7a4 52 = .ok (.ireturn, 1) := by decide +kernel
theorem dJ0_length_8abf5_0 : decode cJ0_length_8abf5 0 = .ok (.aload_n 0, 1) := by decide +kernel
theorem dJ0_length_8abf5_1 : decode cJ0_length_8abf5 1 = .ok (.getfield 9, 3) := by decide +kernel
theorem dJ0_length_8abf5_4 : decode cJ0_length_8abf5 4 = .ok (.arraylength, 1) := by decide +kernel
theorem dJ0_length_8abf5_5 : decode cJ0_length_8abf5 5 = .ok (.aload_n 0, 1) := by decide +kernel
theorem dJ0_length_8abf5_6 : decode cJ0_length_8abf5 6 = .ok (.invokevirtual 335, 3) := by decide +kernel
theorem dJ0_length_8abf5_9 : decode cJ0_length_8abf5 9 = .ok (.ishr, 1) := by decide +kernel
theorem dJ0_length_8abf5_10 : decode cJ0_length_8abf5 10 = .ok (.ireturn, 1) := by decide +kernel
theorem dJ0_charAt_5068e_0 : decode cJ0_charAt_5068e 0 = .ok (.aload_n 0, 1) := by decide +kernel
theorem dJ0_charAt_5068e_1 : decode cJ0_charAt_5068e 1 = .ok (.invokevirtual 492, 3) := by decide +kernel
theorem dJ0_charAt_5068e_4 : decode cJ0_charAt_5068e 4 = .ok (.ifCond .eq 12, 3) := by decide +kernel
theorem dJ0_charAt_5068e_7 : decode cJ0_charAt_5068e 7 = .ok (.aload_n 0, 1) := by decide +kernel
theorem dJ0_charAt_5068e_8 : decode cJ0_charAt_5068e 8 = .ok (.getfield 9, 3) := by decide +kernel
theorem dJ0_charAt_5068e_11 : decode cJ0_charAt_5068e 11 = .ok (.iload_n 1, 1) := by decide +kernel
theorem dJ0_charAt_5068e_12 : decode cJ0_charAt_5068e 12 = .ok (.invokestatic 495, 3) := by decide +kernel
theorem dJ0_charAt_5068e_15 : decode cJ0_charAt_5068e 15 = .ok (.ireturn, 1) := by decide +kernel
theorem dJ0_charAt_5068e_16 : decode cJ0_charAt_5068e 16 = .ok (.aload_n 0, 1) := by decide +kernel
theorem dJ0_charAt_5068e_17 : decode cJ0_charAt_5068e 17 = .ok (.getfield 9, 3) := by decide +kernel
theorem dJ0_charAt_5068e_20 : decode cJ0_charAt_5068e 20 = .ok (.iload_n 1, 1) := by decide +kernel
theorem dJ0_charAt_5068e_21 : decode cJ0_charAt_5068e 21 = .ok (.invokestatic 498, 3) := by decide +kernel
theorem dJ0_charAt_5068e_24 : decode cJ0_charAt_5068e 24 = .ok (.ireturn, 1) := by decide +kernel
theorem dJ0_coder_7d493_0 : decode cJ0_coder_7d493 0 = .ok (.getstatic 38, 3) := by decide +kernel
theorem dJ0_coder_7d493_3 : decode cJ0_coder_7d493 3 = .ok (.ifCond .eq 10, 3) := by decide +kernel
theorem dJ0_coder_7d493_6 : decode cJ0_coder_7d493 6 = .ok (.aload_n 0, 1) := by decide +kernel
theorem dJ0_coder_7d493_7 : decode cJ0_coder_7d493 7 = .ok (.getfield 15, 3) := by decide +kernel
theorem dJ0_coder_7d493_10 : decode cJ0_coder_7d493 10 = .ok (.goto 4, 3) := by decide +kernel
theorem dJ0_coder_7d493_13 : decode cJ0_coder_7d493 13 = .ok (.iconst 1, 1) := by decide +kernel
theorem dJ0_coder_7d493_14 : decode cJ0_coder_7d493 14 = .ok (.ireturn, 1) := by decide +kernel
theorem dJ0_isLatin1_aae02_0 : decode cJ0_isLatin1_aae02 0 = .ok (.getstatic 38, 3) := by decide +kernel
theorem dJ0_isLatin1_aae02_3 : decode cJ0_isLatin1_aae02 3 = .ok (.ifCond .eq 14, 3) := by decide +kernel
theorem dJ0_isLatin1_aae02_6 : decode cJ0_isLatin1_aae02 6 = .ok (.aload_n 0, 1) := by decide +kernel
theorem dJ0_isLatin1_aae02_7 : decode cJ0_isLatin1_aae02 7 = .ok (.getfield 15, 3) := by decide +kernel
theorem dJ0_isLatin1_aae02_10 : decode cJ0_isLatin1_aae02 10 = .ok (.ifCond .ne 7, 3) := by decide +kernel
theorem dJ0_isLatin1_aae02_13 : decode cJ0_isLatin1_aae02 13 = .ok (.iconst 1, 1) := by decide +kernel
theorem dJ0_isLatin1_aae02_14 : decode cJ0_isLatin1_aae02 14 = .ok (.goto 4, 3) := by decide +kernel
theorem dJ0_isLatin1_aae02_17 : decode cJ0_isLatin1_aae02 17 = .ok (.iconst 0, 1) := by decide +kernel
theorem dJ0_isLatin1_aae02_18 : decode cJ0_isLatin1_aae02 18 = .ok (.ireturn, 1) := by decide +kernel
theorem dJ0_checkIndex_df160_0 : decode cJ0_checkIndex_df160 0 = .ok (.iload_n 0, 1) := by decide +kernel
theorem dJ0_checkIndex_df160_1 : decode cJ0_checkIndex_df160 1 = .ok (.iload_n 1, 1) := by decide +kernel
theorem dJ0_checkIndex_df160_2 : decode cJ0_checkIndex_df160 2 = .ok (.getstatic 1053, 3) := by decide +kernel
theorem dJ0_checkIndex_df160_5 : decode cJ0_checkIndex_df160 5 = .ok (.invokestatic 1059, 3) := by decide +kernel
theorem dJ0_checkIndex_df160_8 : decode cJ0_checkIndex_df160 8 = .ok (.pop, 1) := by decide +kernel
theorem dJ0_checkIndex_df160_9 : decode cJ0_checkIndex_df160 9 = .ok (.return_, 1) := by decide +kernel
theorem dJ1_charAt_3b067_0 : decode cJ1_charAt_3b067 0 = .ok (.iload_n 1, 1) := by decide +kernel
theorem dJ1_charAt_3b067_1 : decode cJ1_charAt_3b067 1 = .ok (.aload_n 0, 1) := by decide +kernel
theorem dJ1_charAt_3b067_2 : decode cJ1_charAt_3b067 2 = .ok (.arraylength, 1) := by decide +kernel
theorem dJ1_charAt_3b067_3 : decode cJ1_charAt_3b067 3 = .ok (.invokestatic 9, 3) := by decide +kernel
theorem dJ1_charAt_3b067_6 : decode cJ1_charAt_3b067 6 = .ok (.aload_n 0, 1) := by decide +kernel
theorem dJ1_charAt_3b067_7 : decode cJ1_charAt_3b067 7 = .ok (.iload_n 1, 1) := by decide +kernel
theorem dJ1_charAt_3b067_8 : decode cJ1_charAt_3b067 8 = .ok (.baload, 1) := by decide +kernel
theorem dJ1_charAt_3b067_9 : decode cJ1_charAt_3b067 9 = .ok (.sipush 255, 3) := by decide +kernel
theorem dJ1_charAt_3b067_12 : decode cJ1_charAt_3b067 12 = .ok (.iand, 1) := by decide +kernel
theorem dJ1_charAt_3b067_13 : decode cJ1_charAt_3b067 13 = .ok (.i2c, 1) := by decide +kernel
theorem dJ1_charAt_3b067_14 : decode cJ1_charAt_3b067 14 = .ok (.ireturn, 1) := by decide +kernel
theorem dJ2_getChar_3b067_0 : decode cJ2_getChar_3b067 0 = .ok (.getstatic 44, 3) := by decide +kernel
theorem dJ2_getChar_3b067_3 : decode cJ2_getChar_3b067 3 = .ok (.ifCond .ne 25, 3) := by decide +kernel
theorem dJ2_getChar_3b067_6 : decode cJ2_getChar_3b067 6 = .ok (.iload_n 1, 1) := by decide +kernel
theorem dJ2_getChar_3b067_7 : decode cJ2_getChar_3b067 7 = .ok (.ifCond .lt 11, 3) := by decide +kernel
theorem dJ2_getChar_3b067_10 : decode cJ2_getChar_3b067 10 = .ok (.iload_n 1, 1) := by decide +kernel
theorem dJ2_getChar_3b067_11 : decode cJ2_getChar_3b067 11 = .ok (.aload_n 0, 1) := by decide +kernel
theorem dJ2_getChar_3b067_12 : decode cJ2_getChar_3b067 12 = .ok (.invokestatic 48, 3) := by decide +kernel
theorem dJ2_getChar_3b067_15 : decode cJ2_getChar_3b067 15 = .ok (.if_icmp .lt 13, 3) := by decide +kernel
theorem dJ2_getChar_3b067_18 : decode cJ2_getChar_3b067 18 = .ok (.new 52, 3) := by decide +kernel
theorem dJ2_getChar_3b067_21 : decode cJ2_getChar_3b067 21 = .ok (.dup, 1) := by decide +kernel
theorem dJ2_getChar_3b067_22 : decode cJ2_getChar_3b067 22 = .ok (.ldc 54, 2) := by decide +kernel
theorem dJ2_getChar_3b067_24 : decode cJ2_getChar_3b067 24 = .ok (.invokespecial 56, 3) := by decide +kernel
theorem dJ2_getChar_3b067_27 : decode cJ2_getChar_3b067 27 = .ok (.athrow, 1) := by decide +kernel
theorem dJ2_getChar_3b067_28 : decode cJ2_getChar_3b067 28 = .ok (.iload_n 1, 1) := by decide +kernel
theorem dJ2_getChar_3b067_29 : decode cJ2_getChar_3b067 29 = .ok (.iconst 1, 1) := by decide +kernel
theorem dJ2_getChar_3b067_30 : decode cJ2_getChar_3b067 30 = .ok (.ishl, 1) := by decide +kernel
theorem dJ2_getChar_3b067_31 : decode cJ2_getChar_3b067 31 = .ok (.istore_n 1, 1) := by decide +kernel
theorem dJ2_getChar_3b067_32 : decode cJ2_getChar_3b067 32 = .ok (.aload_n 0, 1) := by decide +kernel
theorem dJ2_getChar_3b067_33 : decode cJ2_getChar_3b067 33 = .ok (.iload_n 1, 1) := by decide +kernel
theorem dJ2_getChar_3b067_34 : decode cJ2_getChar_3b067 34 = .ok (.iinc 1 1, 3) := by decide +kernel
theorem dJ2_getChar_3b067_37 : decode cJ2_getChar_3b067 37 = .ok (.baload, 1) := by decide +kernel
theorem dJ2_getChar_3b067_38 : decode cJ2_getChar_3b067 38 = .ok (.sipush 255, 3) := by decide +kernel
theorem dJ2_getChar_3b067_41 : decode cJ2_getChar_3b067 41 = .ok (.iand, 1) := by decide +kernel
theorem dJ2_getChar_3b067_42 : decode cJ2_getChar_3b067 42 = .ok (.getstatic 59, 3) := by decide +kernel
theorem dJ2_getChar_3b067_45 : decode cJ2_getChar_3b067 45 = .ok (.ishl, 1) := by decide +kernel
theorem dJ2_getChar_3b067_46 : decode cJ2_getChar_3b067 46 = .ok (.aload_n 0, 1) := by decide +kernel
theorem dJ2_getChar_3b067_47 : decode cJ2_getChar_3b067 47 = .ok (.iload_n 1, 1) := by decide +kernel
theorem dJ2_getChar_3b067_48 : decode cJ2_getChar_3b067 48 = .ok (.baload, 1) := by decide +kernel
theorem dJ2_getChar_3b067_49 : decode cJ2_getChar_3b067 49 = .ok (.sipush 255, 3) := by decide +kernel
theorem dJ2_getChar_3b067_52 : decode cJ2_getChar_3b067 52 = .ok (.iand, 1) := by decide +kernel
theorem dJ2_getChar_3b067_53 : decode cJ2_getChar_3b067 53 = .ok (.getstatic 63, 3) := by decide +kernel
theorem dJ2_getChar_3b067_56 : decode cJ2_getChar_3b067 56 = .ok (.ishl, 1) := by decide +kernel
theorem dJ2_getChar_3b067_57 : decode cJ2_getChar_3b067 57 = .ok (.ior, 1) := by decide +kernel
theorem dJ2_getChar_3b067_58 : decode cJ2_getChar_3b067 58 = .ok (.i2c, 1) := by decide +kernel
theorem dJ2_getChar_3b067_59 : decode cJ2_getChar_3b067 59 = .ok (.ireturn, 1) := by decide +kernel
theorem dJ2_length_9d52b_0 : decode cJ2_length_9d52b 0 = .ok (.aload_n 0, 1) := by decide +kernel
theorem dJ2_length_9d52b_1 : decode cJ2_length_9d52b 1 = .ok (.arraylength, 1) := by decide +kernel
theorem dJ2_length_9d52b_2 : decode cJ2_length_9d52b 2 = .ok (.iconst 1, 1) := by decide +kernel
theorem dJ2_length_9d52b_3 : decode cJ2_length_9d52b 3 = .ok (.ishr, 1) := by decide +kernel
theorem dJ2_length_9d52b_4 : decode cJ2_length_9d52b 4 = .ok (.ireturn, 1) := by decide +kernel
theorem dJ2_charAt_3b067_0 : decode cJ2_charAt_3b067 0 = .ok (.iload_n 1, 1) := by decide +kernel
theorem dJ2_charAt_3b067_1 : decode cJ2_charAt_3b067 1 = .ok (.aload_n 0, 1) := by decide +kernel
theorem dJ2_charAt_3b067_2 : decode cJ2_charAt_3b067 2 = .ok (.invokestatic 67, 3) := by decide +kernel
theorem dJ2_charAt_3b067_5 : decode cJ2_charAt_3b067 5 = .ok (.aload_n 0, 1) := by decide +kernel
theorem dJ2_charAt_3b067_6 : decode cJ2_charAt_3b067 6 = .ok (.iload_n 1, 1) := by decide +kernel
theorem dJ2_charAt_3b067_7 : decode cJ2_charAt_3b067 7 = .ok (.invokestatic 71, 3) := by decide +kernel
theorem dJ2_charAt_3b067_10 : decode cJ2_charAt_3b067 10 = .ok (.ireturn, 1) := by decide +kernel
theorem dJ2_checkIndex_2214a_0 : decode cJ2_checkIndex_2214a 0 = .ok (.iload_n 0, 1) := by decide +kernel
theorem dJ2_checkIndex_2214a_1 : decode cJ2_checkIndex_2214a 1 = .ok (.aload_n 1, 1) := by decide +kernel
theorem dJ2_checkIndex_2214a_2 : decode cJ2_checkIndex_2214a 2 = .ok (.invokestatic 48, 3) := by decide +kernel
theorem dJ2_checkIndex_2214a_5 : decode cJ2_checkIndex_2214a 5 = .ok (.invokestatic 414, 3) := by decide +kernel
theorem dJ2_checkIndex_2214a_8 : decode cJ2_checkIndex_2214a 8 = .ok (.return_, 1) := by decide +kernel
theorem dJ3_checkIndex_8e157_0 : decode cJ3_checkIndex_8e157 0 = .ok (.iload_n 0, 1) := by decide +kernel
theorem dJ3_checkIndex_8e157_1 : decode cJ3_checkIndex_8e157 1 = .ok (.ifCond .lt 8, 3) := by decide +kernel
theorem dJ3_checkIndex_8e157_4 : decode cJ3_checkIndex_8e157 4 = .ok (.iload_n 0, 1) := by decide +kernel
theorem dJ3_checkIndex_8e157_5 : decode cJ3_checkIndex_8e157 5 = .ok (.iload_n 1, 1) := by decide +kernel
theorem dJ3_checkIndex_8e157_6 : decode cJ3_checkIndex_8e157 6 = .ok (.if_icmp .lt 10, 3) := by decide +kernel
theorem dJ3_checkIndex_8e157_9 : decode cJ3_checkIndex_8e157 9 = .ok (.aload_n 2, 1) := by decide +kernel
theorem dJ3_checkIndex_8e157_10 : decode cJ3_checkIndex_8e157 10 = .ok (.iload_n 0, 1) := by decide +kernel
theorem dJ3_checkIndex_8e157_11 : decode cJ3_checkIndex_8e157 11 = .ok (.iload_n 1, 1) := by decide +kernel
theorem dJ3_checkIndex_8e157_12 : decode cJ3_checkIndex_8e157 12 = .ok (.invokestatic 95, 3) := by decide +kernel
theorem dJ3_checkIndex_8e157_15 : decode cJ3_checkIndex_8e157 15 = .ok (.athrow, 1) := by decide +kernel
theorem dJ3_checkIndex_8e157_16 : decode cJ3_checkIndex_8e157 16 = .ok (.iload_n 0, 1) := by decide +kernel
theorem dJ3_checkIndex_8e157_17 : decode cJ3_checkIndex_8e157 17 = .ok (.ireturn, 1) := by decide +kernel
theorem dL_law_0 : decode cL_law 0 = .ok (.new 7, 3) := by decide +kernel
theorem dL_law_3 : decode cL_law 3 = .ok (.dup, 1) := by decide +kernel
theorem dL_law_4 : decode cL_law 4 = .ok (.invokespecial 9, 3) := by decide +kernel
theorem dL_law_7 : decode cL_law 7 = .ok (.astore_n 1, 1) := by decide +kernel
theorem dL_law_8 : decode cL_law 8 = .ok (.new 10, 3) := by decide +kernel
theorem dL_law_11 : decode cL_law 11 = .ok (.dup, 1) := by decide +kernel
theorem dL_law_12 : decode cL_law 12 = .ok (.invokespecial 12, 3) := by decide +kernel
theorem dL_law_15 : decode cL_law 15 = .ok (.astore_n 2, 1) := by decide +kernel
theorem dL_law_16 : decode cL_law 16 = .ok (.iconst 0, 1) := by decide +kernel
theorem dL_law_17 : decode cL_law 17 = .ok (.istore_n 3, 1) := by decide +kernel
theorem dL_law_18 : decode cL_law 18 = .ok (.iload_n 3, 1) := by decide +kernel
theorem dL_law_19 : decode cL_law 19 = .ok (.aload_n 0, 1) := by decide +kernel
theorem dL_law_20 : decode cL_law 20 = .ok (.arraylength, 1) := by decide +kernel
theorem dL_law_21 : decode cL_law 21 = .ok (.bipush 6, 2) := by decide +kernel
theorem dL_law_23 : decode cL_law 23 = .ok (.isub, 1) := by decide +kernel
theorem dL_law_24 : decode cL_law 24 = .ok (.if_icmp .gt 1050, 3) := by decide +kernel
theorem dL_law_27 : decode cL_law 27 = .ok (.aload_n 0, 1) := by decide +kernel
theorem dL_law_28 : decode cL_law 28 = .ok (.iload_n 3, 1) := by decide +kernel
theorem dL_law_29 : decode cL_law 29 = .ok (.iaload, 1) := by decide +kernel
theorem dL_law_30 : decode cL_law 30 = .ok (.bipush 31, 2) := by decide +kernel
theorem dL_law_32 : decode cL_law 32 = .ok (.iand, 1) := by decide +kernel
theorem dL_law_33 : decode cL_law 33 = .ok (.tableswitch 1035 0 26 #[123, 166, 199, 232, 275, 298, 311, 334, 367, 400, 423, 446, 479, 512, 535, 568, 611, 644, 687, 751, 764, 777, 800, 843, 886, 949, 1002], 123) := by decide +kernel
theorem dL_law_156 : decode cL_law 156 = .ok (.aload_n 1, 1) := by decide +kernel
theorem dL_law_157 : decode cL_law 157 = .ok (.aload_n 0, 1) := by decide +kernel
theorem dL_law_158 : decode cL_law 158 = .ok (.iload_n 3, 1) := by decide +kernel
theorem dL_law_159 : decode cL_law 159 = .ok (.iconst 1, 1) := by decide +kernel
theorem dL_law_160 : decode cL_law 160 = .ok (.iadd, 1) := by decide +kernel
theorem dL_law_161 : decode cL_law 161 = .ok (.iaload, 1) := by decide +kernel
theorem dL_law_162 : decode cL_law 162 = .ok (.aload_n 0, 1) := by decide +kernel
theorem dL_law_163 : decode cL_law 163 = .ok (.iload_n 3, 1) := by decide +kernel
theorem dL_law_164 : decode cL_law 164 = .ok (.iconst 2, 1) := by decide +kernel
theorem dL_law_165 : decode cL_law 165 = .ok (.iadd, 1) := by decide +kernel
theorem dL_law_166 : decode cL_law 166 = .ok (.iaload, 1) := by decide +kernel
theorem dL_law_167 : decode cL_law 167 = .ok (.aload_n 0, 1) := by decide +kernel
theorem dL_law_168 : decode cL_law 168 = .ok (.iload_n 3, 1) := by decide +kernel
theorem dL_law_169 : decode cL_law 169 = .ok (.iconst 3, 1) := by decide +kernel
theorem dL_law_170 : decode cL_law 170 = .ok (.iadd, 1) := by decide +kernel
theorem dL_law_171 : decode cL_law 171 = .ok (.iaload, 1) := by decide +kernel
theorem dL_law_172 : decode cL_law 172 = .ok (.invokevirtual 13, 3) := by decide +kernel
theorem dL_law_175 : decode cL_law 175 = .ok (.aload_n 2, 1) := by decide +kernel
theorem dL_law_176 : decode cL_law 176 = .ok (.aload_n 0, 1) := by decide +kernel
theorem dL_law_177 : decode cL_law 177 = .ok (.iload_n 3, 1) := by decide +kernel
theorem dL_law_178 : decode cL_law 178 = .ok (.iconst 1, 1) := by decide +kernel
theorem dL_law_179 : decode cL_law 179 = .ok (.iadd, 1) := by decide +kernel
theorem dL_law_180 : decode cL_law 180 = .ok (.iaload, 1) := by decide +kernel
theorem dL_law_181 : decode cL_law 181 = .ok (.aload_n 0, 1) := by decide +kernel
theorem dL_law_182 : decode cL_law 182 = .ok (.iload_n 3, 1) := by decide +kernel
theorem dL_law_183 : decode cL_law 183 = .ok (.iconst 2, 1) := by decide +kernel
theorem dL_law_184 : decode cL_law 184 = .ok (.iadd, 1) := by decide +kernel
theorem dL_law_185 : decode cL_law 185 = .ok (.iaload, 1) := by decide +kernel
theorem dL_law_186 : decode cL_law 186 = .ok (.aload_n 0, 1) := by decide +kernel
theorem dL_law_187 : decode cL_law 187 = .ok (.iload_n 3, 1) := by decide +kernel
theorem dL_law_188 : decode cL_law 188 = .ok (.iconst 3, 1) := by decide +kernel
theorem dL_law_189 : decode cL_law 189 = .ok (.iadd, 1) := by decide +kernel
theorem dL_law_190 : decode cL_law 190 = .ok (.iaload, 1) := by decide +kernel
theorem dL_law_191 : decode cL_law 191 = .ok (.invokevirtual 17, 3) := by decide +kernel
theorem dL_law_194 : decode cL_law 194 = .ok (.if_icmp .eq 874, 3) := by decide +kernel
theorem dL_law_197 : decode cL_law 197 = .ok (.iconst 0, 1) := by decide +kernel
theorem dL_law_198 : decode cL_law 198 = .ok (.ireturn, 1) := by decide +kernel
theorem dL_law_199 : decode cL_law 199 = .ok (.aload_n 1, 1) := by decide +kernel
theorem dL_law_200 : decode cL_law 200 = .ok (.aload_n 0, 1) := by decide +kernel
theorem dL_law_201 : decode cL_law 201 = .ok (.iload_n 3, 1) := by decide +kernel
theorem dL_law_202 : decode cL_law 202 = .ok (.iconst 1, 1) := by decide +kernel
theorem dL_law_203 : decode cL_law 203 = .ok (.iadd, 1) := by decide +kernel
theorem dL_law_204 : decode cL_law 204 = .ok (.iaload, 1) := by decide +kernel
theorem dL_law_205 : decode cL_law 205 = .ok (.aload_n 0, 1) := by decide +kernel
theorem dL_law_206 : decode cL_law 206 = .ok (.iload_n 3, 1) := by decide +kernel
theorem dL_law_207 : decode cL_law 207 = .ok (.iconst 2, 1) := by decide +kernel
theorem dL_law_208 : decode cL_law 208 = .ok (.iadd, 1) := by decide +kernel
theorem dL_law_209 : decode cL_law 209 = .ok (.iaload, 1) := by decide +kernel
theorem dL_law_210 : decode cL_law 210 = .ok (.invokevirtual 18, 3) := by decide +kernel
theorem dL_law_213 : decode cL_law 213 = .ok (.aload_n 2, 1) := by decide +kernel
theorem dL_law_214 : decode cL_law 214 = .ok (.aload_n 0, 1) := by decide +kernel
theorem dL_law_215 : decode cL_law 215 = .ok (.iload_n 3, 1) := by decide +kernel
theorem dL_law_216 : decode cL_law 216 = .ok (.iconst 1, 1) := by decide +kernel
theorem dL_law_217 : decode cL_law 217 = .ok (.iadd, 1) := by decide +kernel
theorem dL_law_218 : decode cL_law 218 = .ok (.iaload, 1) := by decide +kernel
theorem dL_law_219 : decode cL_law 219 = .ok (.aload_n 0, 1) := by decide +kernel
theorem dL_law_220 : decode cL_law 220 = .ok (.iload_n 3, 1) := by decide +kernel
theorem dL_law_221 : decode cL_law 221 = .ok (.iconst 2, 1) := by decide +kernel
theorem dL_law_222 : decode cL_law 222 = .ok (.iadd, 1) := by decide +kernel
theorem dL_law_223 : decode cL_law 223 = .ok (.iaload, 1) := by decide +kernel
theorem dL_law_224 : decode cL_law 224 = .ok (.invokevirtual 22, 3) := by decide +kernel
theorem dL_law_227 : decode cL_law 227 = .ok (.if_icmp .eq 841, 3) := by decide +kernel
theorem dL_law_230 : decode cL_law 230 = .ok (.iconst 0, 1) := by decide +kernel
theorem dL_law_231 : decode cL_law 231 = .ok (.ireturn, 1) := by decide +kernel
theorem dL_law_232 : decode cL_law 232 = .ok (.aload_n 1, 1) := by decide +kernel
theorem dL_law_233 : decode cL_law 233 = .ok (.aload_n 0, 1) := by decide +kernel
theorem dL_law_234 : decode cL_law 234 = .ok (.iload_n 3, 1) := by decide +kernel
theorem dL_law_235 : decode cL_law 235 = .ok (.iconst 1, 1) := by decide +kernel
theorem dL_law_236 : decode cL_law 236 = .ok (.iadd, 1) := by decide +kernel
theorem dL_law_237 : decode cL_law 237 = .ok (.iaload, 1) := by decide +kernel
theorem dL_law_238 : decode cL_law 238 = .ok (.aload_n 0, 1) := by decide +kernel
theorem dL_law_239 : decode cL_law 239 = .ok (.iload_n 3, 1) := by decide +kernel
theorem dL_law_240 : decode cL_law 240 = .ok (.iconst 2, 1) := by decide +kernel
theorem dL_law_241 : decode cL_law 241 = .ok (.iadd, 1) := by decide +kernel
theorem dL_law_242 : decode cL_law 242 = .ok (.iaload, 1) := by decide +kernel
theorem dL_law_243 : decode cL_law 243 = .ok (.invokevirtual 23, 3) := by decide +kernel
theorem dL_law_246 : decode cL_law 246 = .ok (.aload_n 2, 1) := by decide +kernel
theorem dL_law_247 : decode cL_law 247 = .ok (.aload_n 0, 1) := by decide +kernel
theorem dL_law_248 : decode cL_law 248 = .ok (.iload_n 3, 1) := by decide +kernel
theorem dL_law_249 : decode cL_law 249 = .ok (.iconst 1, 1) := by decide +kernel
theorem dL_law_250 : decode cL_law 250 = .ok (.iadd, 1) := by decide +kernel
theorem dL_law_251 : decode cL_law 251 = .ok (.iaload, 1) := by decide +kernel
theorem dL_law_252 : decode cL_law 252 = .ok (.aload_n 0, 1) := by decide +kernel
theorem dL_law_253 : decode cL_law 253 = .ok (.iload_n 3, 1) := by decide +kernel
theorem dL_law_254 : decode cL_law 254 = .ok (.iconst 2, 1) := by decide +kernel
theorem dL_law_255 : decode cL_law 255 = .ok (.iadd, 1) := by decide +kernel
theorem dL_law_256 : decode cL_law 256 = .ok (.iaload, 1) := by decide +kernel
theorem dL_law_257 : decode cL_law 257 = .ok (.invokevirtual 26, 3) := by decide +kernel
theorem dL_law_260 : decode cL_law 260 = .ok (.if_icmp .eq 808, 3) := by decide +kernel
theorem dL_law_263 : decode cL_law 263 = .ok (.iconst 0, 1) := by decide +kernel
theorem dL_law_264 : decode cL_law 264 = .ok (.ireturn, 1) := by decide +kernel
theorem dL_law_265 : decode cL_law 265 = .ok (.aload_n 1, 1) := by decide +kernel
theorem dL_law_266 : decode cL_law 266 = .ok (.aload_n 0, 1) := by decide +kernel
theorem dL_law_267 : decode cL_law 267 = .ok (.iload_n 3, 1) := by decide +kernel
theorem dL_law_268 : decode cL_law 268 = .ok (.iconst 1, 1) := by decide +kernel
theorem dL_law_269 : decode cL_law 269 = .ok (.iadd, 1) := by decide +kernel
theorem dL_law_270 : decode cL_law 270 = .ok (.iaload, 1) := by decide +kernel
theorem dL_law_271 : decode cL_law 271 = .ok (.aload_n 0, 1) := by decide +kernel
theorem dL_law_272 : decode cL_law 272 = .ok (.iload_n 3, 1) := by decide +kernel
theorem dL_law_273 : decode cL_law 273 = .ok (.iconst 2, 1) := by decide +kernel
theorem dL_law_274 : decode cL_law 274 = .ok (.iadd, 1) := by decide +kernel
theorem dL_law_275 : decode cL_law 275 = .ok (.iaload, 1) := by decide +kernel
theorem dL_law_276 : decode cL_law 276 = .ok (.aload_n 0, 1) := by decide +kernel
theorem dL_law_277 : decode cL_law 277 = .ok (.iload_n 3, 1) := by decide +kernel
theorem dL_law_278 : decode cL_law 278 = .ok (.iconst 3, 1) := by decide +kernel
theorem dL_law_279 : decode cL_law 279 = .ok (.iadd, 1) := by decide +kernel
theorem dL_law_280 : decode cL_law 280 = .ok (.iaload, 1) := by decide +kernel
theorem dL_law_281 : decode cL_law 281 = .ok (.invokevirtual 27, 3) := by decide +kernel
theorem dL_law_284 : decode cL_law 284 = .ok (.aload_n 2, 1) := by decide +kernel
theorem dL_law_285 : decode cL_law 285 = .ok (.aload_n 0, 1) := by decide +kernel
theorem dL_law_286 : decode cL_law 286 = .ok (.iload_n 3, 1) := by decide +kernel
theorem dL_law_287 : decode cL_law 287 = .ok (.iconst 1, 1) := by decide +kernel
theorem dL_law_288 : decode cL_law 288 = .ok (.iadd, 1) := by decide +kernel
theorem dL_law_289 : decode cL_law 289 = .ok (.iaload, 1) := by decide +kernel
theorem dL_law_290 : decode cL_law 290 = .ok (.aload_n 0, 1) := by decide +kernel
theorem dL_law_291 : decode cL_law 291 = .ok (.iload_n 3, 1) := by decide +kernel
theorem dL_law_292 : decode cL_law 292 = .ok (.iconst 2, 1) := by decide +kernel
theorem dL_law_293 : decode cL_law 293 = .ok (.iadd, 1) := by decide +kernel
theorem dL_law_294 : decode cL_law 294 = .ok (.iaload, 1) := by decide +kernel
theorem dL_law_295 : decode cL_law 295 = .ok (.aload_n 0, 1) := by decide +kernel
theorem dL_law_296 : decode cL_law 296 = .ok (.iload_n 3, 1) := by decide +kernel
theorem dL_law_297 : decode cL_law 297 = .ok (.iconst 3, 1) := by decide +kernel
theorem dL_law_298 : decode cL_law 298 = .ok (.iadd, 1) := by decide +kernel
theorem dL_law_299 : decode cL_law 299 = .ok (.iaload, 1) := by decide +kernel
theorem dL_law_300 : decode cL_law 300 = .ok (.invokevirtual 30, 3) := by decide +kernel
theorem dL_law_303 : decode cL_law 303 = .ok (.if_icmp .eq 765, 3) := by decide +kernel
theorem dL_law_306 : decode cL_law 306 = .ok (.iconst 0, 1) := by decide +kernel
theorem dL_law_307 : decode cL_law 307 = .ok (.ireturn, 1) := by decide +kernel
theorem dL_law_308 : decode cL_law 308 = .ok (.aload_n 1, 1) := by decide +kernel
theorem dL_law_309 : decode cL_law 309 = .ok (.aload_n 0, 1) := by decide +kernel
theorem dL_law_310 : decode cL_law 310 = .ok (.iload_n 3, 1) := by decide +kernel
theorem dL_law_311 : decode cL_law 311 = .ok (.iconst 1, 1) := by decide +kernel
theorem dL_law_312 : decode cL_law 312 = .ok (.iadd, 1) := by decide +kernel
theorem dL_law_313 : decode cL_law 313 = .ok (.iaload, 1) := by decide +kernel
theorem dL_law_314 : decode cL_law 314 = .ok (.invokevirtual 31, 3) := by decide +kernel
theorem dL_law_317 : decode cL_law 317 = .ok (.aload_n 2, 1) := by decide +kernel
theorem dL_law_318 : decode cL_law 318 = .ok (.aload_n 0, 1) := by decide +kernel
theorem dL_law_319 : decode cL_law 319 = .ok (.iload_n 3, 1) := by decide +kernel
theorem dL_law_320 : decode cL_law 320 = .ok (.iconst 1, 1) := by decide +kernel
theorem dL_law_321 : decode cL_law 321 = .ok (.iadd, 1) := by decide +kernel
theorem dL_law_322 : decode cL_law 322 = .ok (.iaload, 1) := by decide +kernel
theorem dL_law_323 : decode cL_law 323 = .ok (.invokevirtual 35, 3) := by decide +kernel
theorem dL_law_326 : decode cL_law 326 = .ok (.if_icmp .eq 742, 3) := by decide +kernel
theorem dL_law_329 : decode cL_law 329 = .ok (.iconst 0, 1) := by decide +kernel
theorem dL_law_330 : decode cL_law 330 = .ok (.ireturn, 1) := by decide +kernel
theorem dL_law_331 : decode cL_law 331 = .ok (.aload_n 1, 1) := by decide +kernel
theorem dL_law_332 : decode cL_law 332 = .ok (.invokevirtual 36, 3) := by decide +kernel
theorem dL_law_335 : decode cL_law 335 = .ok (.aload_n 2, 1) := by decide +kernel
theorem dL_law_336 : decode cL_law 336 = .ok (.invokevirtual 40, 3) := by decide +kernel
theorem dL_law_339 : decode cL_law 339 = .ok (.if_icmp .eq 729, 3) := by decide +kernel
theorem dL_law_342 : decode cL_law 342 = .ok (.iconst 0, 1) := by decide +kernel
theorem dL_law_343 : decode cL_law 343 = .ok (.ireturn, 1) := by decide +kernel
theorem dL_law_344 : decode cL_law 344 = .ok (.aload_n 1, 1) := by decide +kernel
theorem dL_law_345 : decode cL_law 345 = .ok (.aload_n 0, 1) := by decide +kernel
theorem dL_law_346 : decode cL_law 346 = .ok (.iload_n 3, 1) := by decide +kernel
theorem dL_law_347 : decode cL_law 347 = .ok (.iconst 1, 1) := by decide +kernel
theorem dL_law_348 : decode cL_law 348 = .ok (.iadd, 1) := by decide +kernel
theorem dL_law_349 : decode cL_law 349 = .ok (.iaload, 1) := by decide +kernel
theorem dL_law_350 : decode cL_law 350 = .ok (.invokevirtual 41, 3) := by decide +kernel
theorem dL_law_353 : decode cL_law 353 = .ok (.aload_n 2, 1) := by decide +kernel
theorem dL_law_354 : decode cL_law 354 = .ok (.aload_n 0, 1) := by decide +kernel
theorem dL_law_355 : decode cL_law 355 = .ok (.iload_n 3, 1) := by decide +kernel
theorem dL_law_356 : decode cL_law 356 = .ok (.iconst 1, 1) := by decide +kernel
theorem dL_law_357 : decode cL_law 357 = .ok (.iadd, 1) := by decide +kernel
theorem dL_law_358 : decode cL_law 358 = .ok (.iaload, 1) := by decide +kernel
theorem dL_law_359 : decode cL_law 359 = .ok (.invokevirtual 44, 3) := by decide +kernel
theorem dL_law_362 : decode cL_law 362 = .ok (.if_icmp .eq 706, 3) := by decide +kernel
theorem dL_law_365 : decode cL_law 365 = .ok (.iconst 0, 1) := by decide +kernel
theorem dL_law_366 : decode cL_law 366 = .ok (.ireturn, 1) := by decide +kernel
theorem dL_law_367 : decode cL_law 367 = .ok (.aload_n 1, 1) := by decide +kernel
theorem dL_law_368 : decode cL_law 368 = .ok (.aload_n 0, 1) := by decide +kernel
theorem dL_law_369 : decode cL_law 369 = .ok (.iload_n 3, 1) := by decide +kernel
theorem dL_law_370 : decode cL_law 370 = .ok (.iconst 1, 1) := by decide +kernel
theorem dL_law_371 : decode cL_law 371 = .ok (.iadd, 1) := by decide +kernel
theorem dL_law_372 : decode cL_law 372 = .ok (.iaload, 1) := by decide +kernel
theorem dL_law_373 : decode cL_law 373 = .ok (.aload_n 0, 1) := by decide +kernel
theorem dL_law_374 : decode cL_law 374 = .ok (.iload_n 3, 1) := by decide +kernel
theorem dL_law_375 : decode cL_law 375 = .ok (.iconst 2, 1) := by decide +kernel
theorem dL_law_376 : decode cL_law 376 = .ok (.iadd, 1) := by decide +kernel
theorem dL_law_377 : decode cL_law 377 = .ok (.iaload, 1) := by decide +kernel
theorem dL_law_378 : decode cL_law 378 = .ok (.invokevirtual 45, 3) := by decide +kernel
theorem dL_law_381 : decode cL_law 381 = .ok (.aload_n 2, 1) := by decide +kernel
theorem dL_law_382 : decode cL_law 382 = .ok (.aload_n 0, 1) := by decide +kernel
theorem dL_law_383 : decode cL_law 383 = .ok (.iload_n 3, 1) := by decide +kernel
theorem dL_law_384 : decode cL_law 384 = .ok (.iconst 1, 1) := by decide +kernel
theorem dL_law_385 : decode cL_law 385 = .ok (.iadd, 1) := by decide +kernel
theorem dL_law_386 : decode cL_law 386 = .ok (.iaload, 1) := by decide +kernel
theorem dL_law_387 : decode cL_law 387 = .ok (.aload_n 0, 1) := by decide +kernel
theorem dL_law_388 : decode cL_law 388 = .ok (.iload_n 3, 1) := by decide +kernel
theorem dL_law_389 : decode cL_law 389 = .ok (.iconst 2, 1) := by decide +kernel
theorem dL_law_390 : decode cL_law 390 = .ok (.iadd, 1) := by decide +kernel
theorem dL_law_391 : decode cL_law 391 = .ok (.iaload, 1) := by decide +kernel
theorem dL_law_392 : decode cL_law 392 = .ok (.invokevirtual 48, 3) := by decide +kernel
theorem dL_law_395 : decode cL_law 395 = .ok (.if_icmp .eq 673, 3) := by decide +kernel
theorem dL_law_398 : decode cL_law 398 = .ok (.iconst 0, 1) := by decide +kernel
theorem dL_law_399 : decode cL_law 399 = .ok (.ireturn, 1) := by decide +kernel
theorem dL_law_400 : decode cL_law 400 = .ok (.aload_n 1, 1) := by decide +kernel
theorem dL_law_401 : decode cL_law 401 = .ok (.aload_n 0, 1) := by decide +kernel
theorem dL_law_402 : decode cL_law 402 = .ok (.iload_n 3, 1) := by decide +kernel
theorem dL_law_403 : decode cL_law 403 = .ok (.iconst 1, 1) := by decide +kernel
theorem dL_law_404 : decode cL_law 404 = .ok (.iadd, 1) := by decide +kernel
theorem dL_law_405 : decode cL_law 405 = .ok (.iaload, 1) := by decide +kernel
theorem dL_law_406 : decode cL_law 406 = .ok (.aload_n 0, 1) := by decide +kernel
theorem dL_law_407 : decode cL_law 407 = .ok (.iload_n 3, 1) := by decide +kernel
theorem dL_law_408 : decode cL_law 408 = .ok (.iconst 2, 1) := by decide +kernel
theorem dL_law_409 : decode cL_law 409 = .ok (.iadd, 1) := by decide +kernel
theorem dL_law_410 : decode cL_law 410 = .ok (.iaload, 1) := by decide +kernel
theorem dL_law_411 : decode cL_law 411 = .ok (.invokevirtual 49, 3) := by decide +kernel
theorem dL_law_414 : decode cL_law 414 = .ok (.aload_n 2, 1) := by decide +kernel
theorem dL_law_415 : decode cL_law 415 = .ok (.aload_n 0, 1) := by decide +kernel
theorem dL_law_416 : decode cL_law 416 = .ok (.iload_n 3, 1) := by decide +kernel
theorem dL_law_417 : decode cL_law 417 = .ok (.iconst 1, 1) := by decide +kernel
theorem dL_law_418 : decode cL_law 418 = .ok (.iadd, 1) := by decide +kernel
theorem dL_law_419 : decode cL_law 419 = .ok (.iaload, 1) := by decide +kernel
theorem dL_law_420 : decode cL_law 420 = .ok (.aload_n 0, 1) := by decide +kernel
theorem dL_law_421 : decode cL_law 421 = .ok (.iload_n 3, 1) := by decide +kernel
theorem dL_law_422 : decode cL_law 422 = .ok (.iconst 2, 1) := by decide +kernel
theorem dL_law_423 : decode cL_law 423 = .ok (.iadd, 1) := by decide +kernel
theorem dL_law_424 : decode cL_law 424 = .ok (.iaload, 1) := by decide +kernel
theorem dL_law_425 : decode cL_law 425 = .ok (.invokevirtual 52, 3) := by decide +kernel
theorem dL_law_428 : decode cL_law 428 = .ok (.if_icmp .eq 640, 3) := by decide +kernel
theorem dL_law_431 : decode cL_law 431 = .ok (.iconst 0, 1) := by decide +kernel
theorem dL_law_432 : decode cL_law 432 = .ok (.ireturn, 1) := by decide +kernel
theorem dL_law_433 : decode cL_law 433 = .ok (.aload_n 1, 1) := by decide +kernel
theorem dL_law_434 : decode cL_law 434 = .ok (.aload_n 0, 1) := by decide +kernel
theorem dL_law_435 : decode cL_law 435 = .ok (.iload_n 3, 1) := by decide +kernel
theorem dL_law_436 : decode cL_law 436 = .ok (.iconst 1, 1) := by decide +kernel
theorem dL_law_437 : decode cL_law 437 = .ok (.iadd, 1) := by decide +kernel
theorem dL_law_438 : decode cL_law 438 = .ok (.iaload, 1) := by decide +kernel
theorem dL_law_439 : decode cL_law 439 = .ok (.invokevirtual 53, 3) := by decide +kernel
theorem dL_law_442 : decode cL_law 442 = .ok (.aload_n 2, 1) := by decide +kernel
theorem dL_law_443 : decode cL_law 443 = .ok (.aload_n 0, 1) := by decide +kernel
theorem dL_law_444 : decode cL_law 444 = .ok (.iload_n 3, 1) := by decide +kernel
theorem dL_law_445 : decode cL_law 445 = .ok (.iconst 1, 1) := by decide +kernel
theorem dL_law_446 : decode cL_law 446 = .ok (.iadd, 1) := by decide +kernel
theorem dL_law_447 : decode cL_law 447 = .ok (.iaload, 1) := by decide +kernel
theorem dL_law_448 : decode cL_law 448 = .ok (.invokevirtual 56, 3) := by decide +kernel
theorem dL_law_451 : decode cL_law 451 = .ok (.if_icmp .eq 617, 3) := by decide +kernel
theorem dL_law_454 : decode cL_law 454 = .ok (.iconst 0, 1) := by decide +kernel
theorem dL_law_455 : decode cL_law 455 = .ok (.ireturn, 1) := by decide +kernel
theorem dL_law_456 : decode cL_law 456 = .ok (.aload_n 1, 1) := by decide +kernel
theorem dL_law_457 : decode cL_law 457 = .ok (.aload_n 0, 1) := by decide +kernel
theorem dL_law_458 : decode cL_law 458 = .ok (.iload_n 3, 1) := by decide +kernel
theorem dL_law_459 : decode cL_law 459 = .ok (.iconst 1, 1) := by decide +kernel
theorem dL_law_460 : decode cL_law 460 = .ok (.iadd, 1) := by decide +kernel
theorem dL_law_461 : decode cL_law 461 = .ok (.iaload, 1) := by decide +kernel
theorem dL_law_462 : decode cL_law 462 = .ok (.invokevirtual 57, 3) := by decide +kernel
theorem dL_law_465 : decode cL_law 465 = .ok (.aload_n 2, 1) := by decide +kernel
theorem dL_law_466 : decode cL_law 466 = .ok (.aload_n 0, 1) := by decide +kernel
theorem dL_law_467 : decode cL_law 467 = .ok (.iload_n 3, 1) := by decide +kernel
theorem dL_law_468 : decode cL_law 468 = .ok (.iconst 1, 1) := by decide +kernel
theorem dL_law_469 : decode cL_law 469 = .ok (.iadd, 1) := by decide +kernel
theorem dL_law_470 : decode cL_law 470 = .ok (.iaload, 1) := by decide +kernel
theorem dL_law_471 : decode cL_law 471 = .ok (.invokevirtual 60, 3) := by decide +kernel
theorem dL_law_474 : decode cL_law 474 = .ok (.if_icmp .eq 594, 3) := by decide +kernel
theorem dL_law_477 : decode cL_law 477 = .ok (.iconst 0, 1) := by decide +kernel
theorem dL_law_478 : decode cL_law 478 = .ok (.ireturn, 1) := by decide +kernel
theorem dL_law_479 : decode cL_law 479 = .ok (.aload_n 1, 1) := by decide +kernel
theorem dL_law_480 : decode cL_law 480 = .ok (.aload_n 0, 1) := by decide +kernel
theorem dL_law_481 : decode cL_law 481 = .ok (.iload_n 3, 1) := by decide +kernel
theorem dL_law_482 : decode cL_law 482 = .ok (.iconst 1, 1) := by decide +kernel
theorem dL_law_483 : decode cL_law 483 = .ok (.iadd, 1) := by decide +kernel
theorem dL_law_484 : decode cL_law 484 = .ok (.iaload, 1) := by decide +kernel
theorem dL_law_485 : decode cL_law 485 = .ok (.aload_n 0, 1) := by decide +kernel
theorem dL_law_486 : decode cL_law 486 = .ok (.iload_n 3, 1) := by decide +kernel
theorem dL_law_487 : decode cL_law 487 = .ok (.iconst 2, 1) := by decide +kernel
theorem dL_law_488 : decode cL_law 488 = .ok (.iadd, 1) := by decide +kernel
theorem dL_law_489 : decode cL_law 489 = .ok (.iaload, 1) := by decide +kernel
theorem dL_law_490 : decode cL_law 490 = .ok (.invokevirtual 61, 3) := by decide +kernel
theorem dL_law_493 : decode cL_law 493 = .ok (.aload_n 2, 1) := by decide +kernel
theorem dL_law_494 : decode cL_law 494 = .ok (.aload_n 0, 1) := by decide +kernel
theorem dL_law_495 : decode cL_law 495 = .ok (.iload_n 3, 1) := by decide +kernel
theorem dL_law_496 : decode cL_law 496 = .ok (.iconst 1, 1) := by decide +kernel
theorem dL_law_497 : decode cL_law 497 = .ok (.iadd, 1) := by decide +kernel
theorem dL_law_498 : decode cL_law 498 = .ok (.iaload, 1) := by decide +kernel
theorem dL_law_499 : decode cL_law 499 = .ok (.aload_n 0, 1) := by decide +kernel
theorem dL_law_500 : decode cL_law 500 = .ok (.iload_n 3, 1) := by decide +kernel
theorem dL_law_501 : decode cL_law 501 = .ok (.iconst 2, 1) := by decide +kernel
theorem dL_law_502 : decode cL_law 502 = .ok (.iadd, 1) := by decide +kernel
theorem dL_law_503 : decode cL_law 503 = .ok (.iaload, 1) := by decide +kernel
theorem dL_law_504 : decode cL_law 504 = .ok (.invokevirtual 64, 3) := by decide +kernel
theorem dL_law_507 : decode cL_law 507 = .ok (.if_icmp .eq 561, 3) := by decide +kernel
theorem dL_law_510 : decode cL_law 510 = .ok (.iconst 0, 1) := by decide +kernel
theorem dL_law_511 : decode cL_law 511 = .ok (.ireturn, 1) := by decide +kernel
theorem dL_law_512 : decode cL_law 512 = .ok (.aload_n 1, 1) := by decide +kernel
theorem dL_law_513 : decode cL_law 513 = .ok (.aload_n 0, 1) := by decide +kernel
theorem dL_law_514 : decode cL_law 514 = .ok (.iload_n 3, 1) := by decide +kernel
theorem dL_law_515 : decode cL_law 515 = .ok (.iconst 1, 1) := by decide +kernel
theorem dL_law_516 : decode cL_law 516 = .ok (.iadd, 1) := by decide +kernel
theorem dL_law_517 : decode cL_law 517 = .ok (.iaload, 1) := by decide +kernel
theorem dL_law_518 : decode cL_law 518 = .ok (.aload_n 0, 1) := by decide +kernel
theorem dL_law_519 : decode cL_law 519 = .ok (.iload_n 3, 1) := by decide +kernel
theorem dL_law_520 : decode cL_law 520 = .ok (.iconst 2, 1) := by decide +kernel
theorem dL_law_521 : decode cL_law 521 = .ok (.iadd, 1) := by decide +kernel
theorem dL_law_522 : decode cL_law 522 = .ok (.iaload, 1) := by decide +kernel
theorem dL_law_523 : decode cL_law 523 = .ok (.invokevirtual 65, 3) := by decide +kernel
theorem dL_law_526 : decode cL_law 526 = .ok (.aload_n 2, 1) := by decide +kernel
theorem dL_law_527 : decode cL_law 527 = .ok (.aload_n 0, 1) := by decide +kernel
theorem dL_law_528 : decode cL_law 528 = .ok (.iload_n 3, 1) := by decide +kernel
theorem dL_law_529 : decode cL_law 529 = .ok (.iconst 1, 1) := by decide +kernel
theorem dL_law_530 : decode cL_law 530 = .ok (.iadd, 1) := by decide +kernel
theorem dL_law_531 : decode cL_law 531 = .ok (.iaload, 1) := by decide +kernel
theorem dL_law_532 : decode cL_law 532 = .ok (.aload_n 0, 1) := by decide +kernel
theorem dL_law_533 : decode cL_law 533 = .ok (.iload_n 3, 1) := by decide +kernel
theorem dL_law_534 : decode cL_law 534 = .ok (.iconst 2, 1) := by decide +kernel
theorem dL_law_535 : decode cL_law 535 = .ok (.iadd, 1) := by decide +kernel
theorem dL_law_536 : decode cL_law 536 = .ok (.iaload, 1) := by decide +kernel
theorem dL_law_537 : decode cL_law 537 = .ok (.invokevirtual 68, 3) := by decide +kernel
theorem dL_law_540 : decode cL_law 540 = .ok (.if_icmp .eq 528, 3) := by decide +kernel
theorem dL_law_543 : decode cL_law 543 = .ok (.iconst 0, 1) := by decide +kernel
theorem dL_law_544 : decode cL_law 544 = .ok (.ireturn, 1) := by decide +kernel
theorem dL_law_545 : decode cL_law 545 = .ok (.aload_n 1, 1) := by decide +kernel
theorem dL_law_546 : decode cL_law 546 = .ok (.aload_n 0, 1) := by decide +kernel
theorem dL_law_547 : decode cL_law 547 = .ok (.iload_n 3, 1) := by decide +kernel
theorem dL_law_548 : decode cL_law 548 = .ok (.iconst 1, 1) := by decide +kernel
theorem dL_law_549 : decode cL_law 549 = .ok (.iadd, 1) := by decide +kernel
theorem dL_law_550 : decode cL_law 550 = .ok (.iaload, 1) := by decide +kernel
theorem dL_law_551 : decode cL_law 551 = .ok (.invokevirtual 69, 3) := by decide +kernel
theorem dL_law_554 : decode cL_law 554 = .ok (.aload_n 2, 1) := by decide +kernel
theorem dL_law_555 : decode cL_law 555 = .ok (.aload_n 0, 1) := by decide +kernel
theorem dL_law_556 : decode cL_law 556 = .ok (.iload_n 3, 1) := by decide +kernel
theorem dL_law_557 : decode cL_law 557 = .ok (.iconst 1, 1) := by decide +kernel
theorem dL_law_558 : decode cL_law 558 = .ok (.iadd, 1) := by decide +kernel
theorem dL_law_559 : decode cL_law 559 = .ok (.iaload, 1) := by decide +kernel
theorem dL_law_560 : decode cL_law 560 = .ok (.invokevirtual 72, 3) := by decide +kernel
theorem dL_law_563 : decode cL_law 563 = .ok (.if_icmp .eq 505, 3) := by decide +kernel
theorem dL_law_566 : decode cL_law 566 = .ok (.iconst 0, 1) := by decide +kernel
theorem dL_law_567 : decode cL_law 567 = .ok (.ireturn, 1) := by decide +kernel
theorem dL_law_568 : decode cL_law 568 = .ok (.aload_n 1, 1) := by decide +kernel
theorem dL_law_569 : decode cL_law 569 = .ok (.aload_n 0, 1) := by decide +kernel
theorem dL_law_570 : decode cL_law 570 = .ok (.iload_n 3, 1) := by decide +kernel
theorem dL_law_571 : decode cL_law 571 = .ok (.iconst 1, 1) := by decide +kernel
theorem dL_law_572 : decode cL_law 572 = .ok (.iadd, 1) := by decide +kernel
theorem dL_law_573 : decode cL_law 573 = .ok (.iaload, 1) := by decide +kernel
theorem dL_law_574 : decode cL_law 574 = .ok (.aload_n 0, 1) := by decide +kernel
theorem dL_law_575 : decode cL_law 575 = .ok (.iload_n 3, 1) := by decide +kernel
theorem dL_law_576 : decode cL_law 576 = .ok (.iconst 2, 1) := by decide +kernel
theorem dL_law_577 : decode cL_law 577 = .ok (.iadd, 1) := by decide +kernel
theorem dL_law_578 : decode cL_law 578 = .ok (.iaload, 1) := by decide +kernel
theorem dL_law_579 : decode cL_law 579 = .ok (.invokevirtual 73, 3) := by decide +kernel
theorem dL_law_582 : decode cL_law 582 = .ok (.aload_n 2, 1) := by decide +kernel
theorem dL_law_583 : decode cL_law 583 = .ok (.aload_n 0, 1) := by decide +kernel
theorem dL_law_584 : decode cL_law 584 = .ok (.iload_n 3, 1) := by decide +kernel
theorem dL_law_585 : decode cL_law 585 = .ok (.iconst 1, 1) := by decide +kernel
theorem dL_law_586 : decode cL_law 586 = .ok (.iadd, 1) := by decide +kernel
theorem dL_law_587 : decode cL_law 587 = .ok (.iaload, 1) := by decide +kernel
theorem dL_law_588 : decode cL_law 588 = .ok (.aload_n 0, 1) := by decide +kernel
theorem dL_law_589 : decode cL_law 589 = .ok (.iload_n 3, 1) := by decide +kernel
theorem dL_law_590 : decode cL_law 590 = .ok (.iconst 2, 1) := by decide +kernel
theorem dL_law_591 : decode cL_law 591 = .ok (.iadd, 1) := by decide +kernel
theorem dL_law_592 : decode cL_law 592 = .ok (.iaload, 1) := by decide +kernel
theorem dL_law_593 : decode cL_law 593 = .ok (.invokevirtual 76, 3) := by decide +kernel
theorem dL_law_596 : decode cL_law 596 = .ok (.if_icmp .eq 472, 3) := by decide +kernel
theorem dL_law_599 : decode cL_law 599 = .ok (.iconst 0, 1) := by decide +kernel
theorem dL_law_600 : decode cL_law 600 = .ok (.ireturn, 1) := by decide +kernel
theorem dL_law_601 : decode cL_law 601 = .ok (.aload_n 1, 1) := by decide +kernel
theorem dL_law_602 : decode cL_law 602 = .ok (.aload_n 0, 1) := by decide +kernel
theorem dL_law_603 : decode cL_law 603 = .ok (.iload_n 3, 1) := by decide +kernel
theorem dL_law_604 : decode cL_law 604 = .ok (.iconst 1, 1) := by decide +kernel
theorem dL_law_605 : decode cL_law 605 = .ok (.iadd, 1) := by decide +kernel
theorem dL_law_606 : decode cL_law 606 = .ok (.iaload, 1) := by decide +kernel
theorem dL_law_607 : decode cL_law 607 = .ok (.aload_n 0, 1) := by decide +kernel
theorem dL_law_608 : decode cL_law 608 = .ok (.iload_n 3, 1) := by decide +kernel
theorem dL_law_609 : decode cL_law 609 = .ok (.iconst 2, 1) := by decide +kernel
theorem dL_law_610 : decode cL_law 610 = .ok (.iadd, 1) := by decide +kernel
theorem dL_law_611 : decode cL_law 611 = .ok (.iaload, 1) := by decide +kernel
theorem dL_law_612 : decode cL_law 612 = .ok (.aload_n 0, 1) := by decide +kernel
theorem dL_law_613 : decode cL_law 613 = .ok (.iload_n 3, 1) := by decide +kernel
theorem dL_law_614 : decode cL_law 614 = .ok (.iconst 3, 1) := by decide +kernel
theorem dL_law_615 : decode cL_law 615 = .ok (.iadd, 1) := by decide +kernel
theorem dL_law_616 : decode cL_law 616 = .ok (.iaload, 1) := by decide +kernel
theorem dL_law_617 : decode cL_law 617 = .ok (.invokevirtual 77, 3) := by decide +kernel
theorem dL_law_620 : decode cL_law 620 = .ok (.aload_n 2, 1) := by decide +kernel
theorem dL_law_621 : decode cL_law 621 = .ok (.aload_n 0, 1) := by decide +kernel
theorem dL_law_622 : decode cL_law 622 = .ok (.iload_n 3, 1) := by decide +kernel
theorem dL_law_623 : decode cL_law 623 = .ok (.iconst 1, 1) := by decide +kernel
theorem dL_law_624 : decode cL_law 624 = .ok (.iadd, 1) := by decide +kernel
theorem dL_law_625 : decode cL_law 625 = .ok (.iaload, 1) := by decide +kernel
theorem dL_law_626 : decode cL_law 626 = .ok (.aload_n 0, 1) := by decide +kernel
theorem dL_law_627 : decode cL_law 627 = .ok (.iload_n 3, 1) := by decide +kernel
theorem dL_law_628 : decode cL_law 628 = .ok (.iconst 2, 1) := by decide +kernel
theorem dL_law_629 : decode cL_law 629 = .ok (.iadd, 1) := by decide +kernel
theorem dL_law_630 : decode cL_law 630 = .ok (.iaload, 1) := by decide +kernel
theorem dL_law_631 : decode cL_law 631 = .ok (.aload_n 0, 1) := by decide +kernel
theorem dL_law_632 : decode cL_law 632 = .ok (.iload_n 3, 1) := by decide +kernel
theorem dL_law_633 : decode cL_law 633 = .ok (.iconst 3, 1) := by decide +kernel
theorem dL_law_634 : decode cL_law 634 = .ok (.iadd, 1) := by decide +kernel
theorem dL_law_635 : decode cL_law 635 = .ok (.iaload, 1) := by decide +kernel
theorem dL_law_636 : decode cL_law 636 = .ok (.invokevirtual 80, 3) := by decide +kernel
theorem dL_law_639 : decode cL_law 639 = .ok (.if_icmp .eq 429, 3) := by decide +kernel
theorem dL_law_642 : decode cL_law 642 = .ok (.iconst 0, 1) := by decide +kernel
theorem dL_law_643 : decode cL_law 643 = .ok (.ireturn, 1) := by decide +kernel
theorem dL_law_644 : decode cL_law 644 = .ok (.aload_n 1, 1) := by decide +kernel
theorem dL_law_645 : decode cL_law 645 = .ok (.aload_n 0, 1) := by decide +kernel
theorem dL_law_646 : decode cL_law 646 = .ok (.iload_n 3, 1) := by decide +kernel
theorem dL_law_647 : decode cL_law 647 = .ok (.iconst 1, 1) := by decide +kernel
theorem dL_law_648 : decode cL_law 648 = .ok (.iadd, 1) := by decide +kernel
theorem dL_law_649 : decode cL_law 649 = .ok (.iaload, 1) := by decide +kernel
theorem dL_law_650 : decode cL_law 650 = .ok (.aload_n 0, 1) := by decide +kernel
theorem dL_law_651 : decode cL_law 651 = .ok (.iload_n 3, 1) := by decide +kernel
theorem dL_law_652 : decode cL_law 652 = .ok (.iconst 2, 1) := by decide +kernel
theorem dL_law_653 : decode cL_law 653 = .ok (.iadd, 1) := by decide +kernel
theorem dL_law_654 : decode cL_law 654 = .ok (.iaload, 1) := by decide +kernel
theorem dL_law_655 : decode cL_law 655 = .ok (.invokevirtual 81, 3) := by decide +kernel
theorem dL_law_658 : decode cL_law 658 = .ok (.aload_n 2, 1) := by decide +kernel
theorem dL_law_659 : decode cL_law 659 = .ok (.aload_n 0, 1) := by decide +kernel
theorem dL_law_660 : decode cL_law 660 = .ok (.iload_n 3, 1) := by decide +kernel
theorem dL_law_661 : decode cL_law 661 = .ok (.iconst 1, 1) := by decide +kernel
theorem dL_law_662 : decode cL_law 662 = .ok (.iadd, 1) := by decide +kernel
theorem dL_law_663 : decode cL_law 663 = .ok (.iaload, 1) := by decide +kernel
theorem dL_law_664 : decode cL_law 664 = .ok (.aload_n 0, 1) := by decide +kernel
theorem dL_law_665 : decode cL_law 665 = .ok (.iload_n 3, 1) := by decide +kernel
theorem dL_law_666 : decode cL_law 666 = .ok (.iconst 2, 1) := by decide +kernel
theorem dL_law_667 : decode cL_law 667 = .ok (.iadd, 1) := by decide +kernel
theorem dL_law_668 : decode cL_law 668 = .ok (.iaload, 1) := by decide +kernel
theorem dL_law_669 : decode cL_law 669 = .ok (.invokevirtual 84, 3) := by decide +kernel
theorem dL_law_672 : decode cL_law 672 = .ok (.if_icmp .eq 396, 3) := by decide +kernel
theorem dL_law_675 : decode cL_law 675 = .ok (.iconst 0, 1) := by decide +kernel
theorem dL_law_676 : decode cL_law 676 = .ok (.ireturn, 1) := by decide +kernel
theorem dL_law_677 : decode cL_law 677 = .ok (.aload_n 1, 1) := by decide +kernel
theorem dL_law_678 : decode cL_law 678 = .ok (.aload_n 0, 1) := by decide +kernel
theorem dL_law_679 : decode cL_law 679 = .ok (.iload_n 3, 1) := by decide +kernel
theorem dL_law_680 : decode cL_law 680 = .ok (.iconst 1, 1) := by decide +kernel
theorem dL_law_681 : decode cL_law 681 = .ok (.iadd, 1) := by decide +kernel
theorem dL_law_682 : decode cL_law 682 = .ok (.iaload, 1) := by decide +kernel
theorem dL_law_683 : decode cL_law 683 = .ok (.aload_n 0, 1) := by decide +kernel
theorem dL_law_684 : decode cL_law 684 = .ok (.iload_n 3, 1) := by decide +kernel
theorem dL_law_685 : decode cL_law 685 = .ok (.iconst 2, 1) := by decide +kernel
theorem dL_law_686 : decode cL_law 686 = .ok (.iadd, 1) := by decide +kernel
theorem dL_law_687 : decode cL_law 687 = .ok (.iaload, 1) := by decide +kernel
theorem dL_law_688 : decode cL_law 688 = .ok (.aload_n 0, 1) := by decide +kernel
theorem dL_law_689 : decode cL_law 689 = .ok (.iload_n 3, 1) := by decide +kernel
theorem dL_law_690 : decode cL_law 690 = .ok (.iconst 3, 1) := by decide +kernel
theorem dL_law_691 : decode cL_law 691 = .ok (.iadd, 1) := by decide +kernel
theorem dL_law_692 : decode cL_law 692 = .ok (.iaload, 1) := by decide +kernel
theorem dL_law_693 : decode cL_law 693 = .ok (.invokevirtual 85, 3) := by decide +kernel
theorem dL_law_696 : decode cL_law 696 = .ok (.aload_n 2, 1) := by decide +kernel
theorem dL_law_697 : decode cL_law 697 = .ok (.aload_n 0, 1) := by decide +kernel
theorem dL_law_698 : decode cL_law 698 = .ok (.iload_n 3, 1) := by decide +kernel
theorem dL_law_699 : decode cL_law 699 = .ok (.iconst 1, 1) := by decide +kernel
theorem dL_law_700 : decode cL_law 700 = .ok (.iadd, 1) := by decide +kernel
theorem dL_law_701 : decode cL_law 701 = .ok (.iaload, 1) := by decide +kernel
theorem dL_law_702 : decode cL_law 702 = .ok (.aload_n 0, 1) := by decide +kernel
theorem dL_law_703 : decode cL_law 703 = .ok (.iload_n 3, 1) := by decide +kernel
theorem dL_law_704 : decode cL_law 704 = .ok (.iconst 2, 1) := by decide +kernel
theorem dL_law_705 : decode cL_law 705 = .ok (.iadd, 1) := by decide +kernel
theorem dL_law_706 : decode cL_law 706 = .ok (.iaload, 1) := by decide +kernel
theorem dL_law_707 : decode cL_law 707 = .ok (.aload_n 0, 1) := by decide +kernel
theorem dL_law_708 : decode cL_law 708 = .ok (.iload_n 3, 1) := by decide +kernel
theorem dL_law_709 : decode cL_law 709 = .ok (.iconst 3, 1) := by decide +kernel
theorem dL_law_710 : decode cL_law 710 = .ok (.iadd, 1) := by decide +kernel
theorem dL_law_711 : decode cL_law 711 = .ok (.iaload, 1) := by decide +kernel
theorem dL_law_712 : decode cL_law 712 = .ok (.invokevirtual 88, 3) := by decide +kernel
theorem dL_law_715 : decode cL_law 715 = .ok (.if_icmp .eq 353, 3) := by decide +kernel
theorem dL_law_718 : decode cL_law 718 = .ok (.iconst 0, 1) := by decide +kernel
theorem dL_law_719 : decode cL_law 719 = .ok (.ireturn, 1) := by decide +kernel
theorem dL_law_720 : decode cL_law 720 = .ok (.aload_n 1, 1) := by decide +kernel
theorem dL_law_721 : decode cL_law 721 = .ok (.aload_n 0, 1) := by decide +kernel
theorem dL_law_722 : decode cL_law 722 = .ok (.iload_n 3, 1) := by decide +kernel
theorem dL_law_723 : decode cL_law 723 = .ok (.iconst 1, 1) := by decide +kernel
theorem dL_law_724 : decode cL_law 724 = .ok (.iadd, 1) := by decide +kernel
theorem dL_law_725 : decode cL_law 725 = .ok (.iaload, 1) := by decide +kernel
theorem dL_law_726 : decode cL_law 726 = .ok (.aload_n 0, 1) := by decide +kernel
theorem dL_law_727 : decode cL_law 727 = .ok (.iload_n 3, 1) := by decide +kernel
theorem dL_law_728 : decode cL_law 728 = .ok (.iconst 2, 1) := by decide +kernel
theorem dL_law_729 : decode cL_law 729 = .ok (.iadd, 1) := by decide +kernel
theorem dL_law_730 : decode cL_law 730 = .ok (.iaload, 1) := by decide +kernel
theorem dL_law_731 : decode cL_law 731 = .ok (.aload_n 0, 1) := by decide +kernel
theorem dL_law_732 : decode cL_law 732 = .ok (.iload_n 3, 1) := by decide +kernel
theorem dL_law_733 : decode cL_law 733 = .ok (.iconst 3, 1) := by decide +kernel
theorem dL_law_734 : decode cL_law 734 = .ok (.iadd, 1) := by decide +kernel
theorem dL_law_735 : decode cL_law 735 = .ok (.iaload, 1) := by decide +kernel
theorem dL_law_736 : decode cL_law 736 = .ok (.aload_n 0, 1) := by decide +kernel
theorem dL_law_737 : decode cL_law 737 = .ok (.iload_n 3, 1) := by decide +kernel
theorem dL_law_738 : decode cL_law 738 = .ok (.iconst 4, 1) := by decide +kernel
theorem dL_law_739 : decode cL_law 739 = .ok (.iadd, 1) := by decide +kernel
theorem dL_law_740 : decode cL_law 740 = .ok (.iaload, 1) := by decide +kernel
theorem dL_law_741 : decode cL_law 741 = .ok (.aload_n 0, 1) := by decide +kernel
theorem dL_law_742 : decode cL_law 742 = .ok (.iload_n 3, 1) := by decide +kernel
theorem dL_law_743 : decode cL_law 743 = .ok (.iconst 5, 1) := by decide +kernel
theorem dL_law_744 : decode cL_law 744 = .ok (.iadd, 1) := by decide +kernel
theorem dL_law_745 : decode cL_law 745 = .ok (.iaload, 1) := by decide +kernel
theorem dL_law_746 : decode cL_law 746 = .ok (.invokevirtual 89, 3) := by decide +kernel
theorem dL_law_749 : decode cL_law 749 = .ok (.aload_n 2, 1) := by decide +kernel
theorem dL_law_750 : decode cL_law 750 = .ok (.aload_n 0, 1) := by decide +kernel
theorem dL_law_751 : decode cL_law 751 = .ok (.iload_n 3, 1) := by decide +kernel
theorem dL_law_752 : decode cL_law 752 = .ok (.iconst 1, 1) := by decide +kernel
theorem dL_law_753 : decode cL_law 753 = .ok (.iadd, 1) := by decide +kernel
theorem dL_law_754 : decode cL_law 754 = .ok (.iaload, 1) := by decide +kernel
theorem dL_law_755 : decode cL_law 755 = .ok (.aload_n 0, 1) := by decide +kernel
theorem dL_law_756 : decode cL_law 756 = .ok (.iload_n 3, 1) := by decide +kernel
theorem dL_law_757 : decode cL_law 757 = .ok (.iconst 2, 1) := by decide +kernel
theorem dL_law_758 : decode cL_law 758 = .ok (.iadd, 1) := by decide +kernel
theorem dL_law_759 : decode cL_law 759 = .ok (.iaload, 1) := by decide +kernel
theorem dL_law_760 : decode cL_law 760 = .ok (.aload_n 0, 1) := by decide +kernel
theorem dL_law_761 : decode cL_law 761 = .ok (.iload_n 3, 1) := by decide +kernel
theorem dL_law_762 : decode cL_law 762 = .ok (.iconst 3, 1) := by decide +kernel
theorem dL_law_763 : decode cL_law 763 = .ok (.iadd, 1) := by decide +kernel
theorem dL_law_764 : decode cL_law 764 = .ok (.iaload, 1) := by decide +kernel
theorem dL_law_765 : decode cL_law 765 = .ok (.aload_n 0, 1) := by decide +kernel
theorem dL_law_766 : decode cL_law 766 = .ok (.iload_n 3, 1) := by decide +kernel
theorem dL_law_767 : decode cL_law 767 = .ok (.iconst 4, 1) := by decide +kernel
theorem dL_law_768 : decode cL_law 768 = .ok (.iadd, 1) := by decide +kernel
theorem dL_law_769 : decode cL_law 769 = .ok (.iaload, 1) := by decide +kernel
theorem dL_law_770 : decode cL_law 770 = .ok (.aload_n 0, 1) := by decide +kernel
theorem dL_law_771 : decode cL_law 771 = .ok (.iload_n 3, 1) := by decide +kernel
theorem dL_law_772 : decode cL_law 772 = .ok (.iconst 5, 1) := by decide +kernel
theorem dL_law_773 : decode cL_law 773 = .ok (.iadd, 1) := by decide +kernel
theorem dL_law_774 : decode cL_law 774 = .ok (.iaload, 1) := by decide +kernel
theorem dL_law_775 : decode cL_law 775 = .ok (.invokevirtual 93, 3) := by decide +kernel
theorem dL_law_778 : decode cL_law 778 = .ok (.lcmp, 1) := by decide +kernel
theorem dL_law_779 : decode cL_law 779 = .ok (.ifCond .eq 289, 3) := by decide +kernel
theorem dL_law_782 : decode cL_law 782 = .ok (.iconst 0, 1) := by decide +kernel
theorem dL_law_783 : decode cL_law 783 = .ok (.ireturn, 1) := by decide +kernel
theorem dL_law_784 : decode cL_law 784 = .ok (.aload_n 1, 1) := by decide +kernel
theorem dL_law_785 : decode cL_law 785 = .ok (.invokevirtual 94, 3) := by decide +kernel
theorem dL_law_788 : decode cL_law 788 = .ok (.aload_n 2, 1) := by decide +kernel
theorem dL_law_789 : decode cL_law 789 = .ok (.invokevirtual 97, 3) := by decide +kernel
theorem dL_law_792 : decode cL_law 792 = .ok (.if_icmp .eq 276, 3) := by decide +kernel
theorem dL_law_795 : decode cL_law 795 = .ok (.iconst 0, 1) := by decide +kernel
theorem dL_law_796 : decode cL_law 796 = .ok (.ireturn, 1) := by decide +kernel
theorem dL_law_797 : decode cL_law 797 = .ok (.aload_n 1, 1) := by decide +kernel
theorem dL_law_798 : decode cL_law 798 = .ok (.invokevirtual 98, 3) := by decide +kernel
theorem dL_law_801 : decode cL_law 801 = .ok (.aload_n 2, 1) := by decide +kernel
theorem dL_law_802 : decode cL_law 802 = .ok (.invokevirtual 101, 3) := by decide +kernel
theorem dL_law_805 : decode cL_law 805 = .ok (.if_icmp .eq 263, 3) := by decide +kernel
theorem dL_law_808 : decode cL_law 808 = .ok (.iconst 0, 1) := by decide +kernel
theorem dL_law_809 : decode cL_law 809 = .ok (.ireturn, 1) := by decide +kernel
theorem dL_law_810 : decode cL_law 810 = .ok (.aload_n 1, 1) := by decide +kernel
theorem dL_law_811 : decode cL_law 811 = .ok (.aload_n 0, 1) := by decide +kernel
theorem dL_law_812 : decode cL_law 812 = .ok (.iload_n 3, 1) := by decide +kernel
theorem dL_law_813 : decode cL_law 813 = .ok (.iconst 1, 1) := by decide +kernel
theorem dL_law_814 : decode cL_law 814 = .ok (.iadd, 1) := by decide +kernel
theorem dL_law_815 : decode cL_law 815 = .ok (.iaload, 1) := by decide +kernel
theorem dL_law_816 : decode cL_law 816 = .ok (.invokevirtual 102, 3) := by decide +kernel
theorem dL_law_819 : decode cL_law 819 = .ok (.aload_n 2, 1) := by decide +kernel
theorem dL_law_820 : decode cL_law 820 = .ok (.aload_n 0, 1) := by decide +kernel
theorem dL_law_821 : decode cL_law 821 = .ok (.iload_n 3, 1) := by decide +kernel
theorem dL_law_822 : decode cL_law 822 = .ok (.iconst 1, 1) := by decide +kernel
theorem dL_law_823 : decode cL_law 823 = .ok (.iadd, 1) := by decide +kernel
theorem dL_law_824 : decode cL_law 824 = .ok (.iaload, 1) := by decide +kernel
theorem dL_law_825 : decode cL_law 825 = .ok (.invokevirtual 105, 3) := by decide +kernel
theorem dL_law_828 : decode cL_law 828 = .ok (.if_icmp .eq 240, 3) := by decide +kernel
theorem dL_law_831 : decode cL_law 831 = .ok (.iconst 0, 1) := by decide +kernel
theorem dL_law_832 : decode cL_law 832 = .ok (.ireturn, 1) := by decide +kernel
theorem dL_law_833 : decode cL_law 833 = .ok (.aload_n 1, 1) := by decide +kernel
theorem dL_law_834 : decode cL_law 834 = .ok (.aload_n 0, 1) := by decide +kernel
theorem dL_law_835 : decode cL_law 835 = .ok (.iload_n 3, 1) := by decide +kernel
theorem dL_law_836 : decode cL_law 836 = .ok (.iconst 1, 1) := by decide +kernel
theorem dL_law_837 : decode cL_law 837 = .ok (.iadd, 1) := by decide +kernel
theorem dL_law_838 : decode cL_law 838 = .ok (.iaload, 1) := by decide +kernel
theorem dL_law_839 : decode cL_law 839 = .ok (.aload_n 0, 1) := by decide +kernel
theorem dL_law_840 : decode cL_law 840 = .ok (.iload_n 3, 1) := by decide +kernel
theorem dL_law_841 : decode cL_law 841 = .ok (.iconst 2, 1) := by decide +kernel
theorem dL_law_842 : decode cL_law 842 = .ok (.iadd, 1) := by decide +kernel
theorem dL_law_843 : decode cL_law 843 = .ok (.iaload, 1) := by decide +kernel
theorem dL_law_844 : decode cL_law 844 = .ok (.aload_n 0, 1) := by decide +kernel
theorem dL_law_845 : decode cL_law 845 = .ok (.iload_n 3, 1) := by decide +kernel
theorem dL_law_846 : decode cL_law 846 = .ok (.iconst 3, 1) := by decide +kernel
theorem dL_law_847 : decode cL_law 847 = .ok (.iadd, 1) := by decide +kernel
theorem dL_law_848 : decode cL_law 848 = .ok (.iaload, 1) := by decide +kernel
theorem dL_law_849 : decode cL_law 849 = .ok (.invokevirtual 106, 3) := by decide +kernel
theorem dL_law_852 : decode cL_law 852 = .ok (.aload_n 2, 1) := by decide +kernel
theorem dL_law_853 : decode cL_law 853 = .ok (.aload_n 0, 1) := by decide +kernel
theorem dL_law_854 : decode cL_law 854 = .ok (.iload_n 3, 1) := by decide +kernel
theorem dL_law_855 : decode cL_law 855 = .ok (.iconst 1, 1) := by decide +kernel
theorem dL_law_856 : decode cL_law 856 = .ok (.iadd, 1) := by decide +kernel
theorem dL_law_857 : decode cL_law 857 = .ok (.iaload, 1) := by decide +kernel
theorem dL_law_858 : decode cL_law 858 = .ok (.aload_n 0, 1) := by decide +kernel
theorem dL_law_859 : decode cL_law 859 = .ok (.iload_n 3, 1) := by decide +kernel
theorem dL_law_860 : decode cL_law 860 = .ok (.iconst 2, 1) := by decide +kernel
theorem dL_law_861 : decode cL_law 861 = .ok (.iadd, 1) := by decide +kernel
theorem dL_law_862 : decode cL_law 862 = .ok (.iaload, 1) := by decide +kernel
theorem dL_law_863 : decode cL_law 863 = .ok (.aload_n 0, 1) := by decide +kernel
theorem dL_law_864 : decode cL_law 864 = .ok (.iload_n 3, 1) := by decide +kernel
theorem dL_law_865 : decode cL_law 865 = .ok (.iconst 3, 1) := by decide +kernel
theorem dL_law_866 : decode cL_law 866 = .ok (.iadd, 1) := by decide +kernel
theorem dL_law_867 : decode cL_law 867 = .ok (.iaload, 1) := by decide +kernel
theorem dL_law_868 : decode cL_law 868 = .ok (.invokevirtual 109, 3) := by decide +kernel
theorem dL_law_871 : decode cL_law 871 = .ok (.if_icmp .eq 197, 3) := by decide +kernel
theorem dL_law_874 : decode cL_law 874 = .ok (.iconst 0, 1) := by decide +kernel
theorem dL_law_875 : decode cL_law 875 = .ok (.ireturn, 1) := by decide +kernel
theorem dL_law_876 : decode cL_law 876 = .ok (.aload_n 1, 1) := by decide +kernel
theorem dL_law_877 : decode cL_law 877 = .ok (.aload_n 0, 1) := by decide +kernel
theorem dL_law_878 : decode cL_law 878 = .ok (.iload_n 3, 1) := by decide +kernel
theorem dL_law_879 : decode cL_law 879 = .ok (.iconst 1, 1) := by decide +kernel
theorem dL_law_880 : decode cL_law 880 = .ok (.iadd, 1) := by decide +kernel
theorem dL_law_881 : decode cL_law 881 = .ok (.iaload, 1) := by decide +kernel
theorem dL_law_882 : decode cL_law 882 = .ok (.aload_n 0, 1) := by decide +kernel
theorem dL_law_883 : decode cL_law 883 = .ok (.iload_n 3, 1) := by decide +kernel
theorem dL_law_884 : decode cL_law 884 = .ok (.iconst 2, 1) := by decide +kernel
theorem dL_law_885 : decode cL_law 885 = .ok (.iadd, 1) := by decide +kernel
theorem dL_law_886 : decode cL_law 886 = .ok (.iaload, 1) := by decide +kernel
theorem dL_law_887 : decode cL_law 887 = .ok (.aload_n 0, 1) := by decide +kernel
theorem dL_law_888 : decode cL_law 888 = .ok (.iload_n 3, 1) := by decide +kernel
theorem dL_law_889 : decode cL_law 889 = .ok (.iconst 3, 1) := by decide +kernel
theorem dL_law_890 : decode cL_law 890 = .ok (.iadd, 1) := by decide +kernel
theorem dL_law_891 : decode cL_law 891 = .ok (.iaload, 1) := by decide +kernel
theorem dL_law_892 : decode cL_law 892 = .ok (.invokevirtual 110, 3) := by decide +kernel
theorem dL_law_895 : decode cL_law 895 = .ok (.aload_n 2, 1) := by decide +kernel
theorem dL_law_896 : decode cL_law 896 = .ok (.aload_n 0, 1) := by decide +kernel
theorem dL_law_897 : decode cL_law 897 = .ok (.iload_n 3, 1) := by decide +kernel
theorem dL_law_898 : decode cL_law 898 = .ok (.iconst 1, 1) := by decide +kernel
theorem dL_law_899 : decode cL_law 899 = .ok (.iadd, 1) := by decide +kernel
theorem dL_law_900 : decode cL_law 900 = .ok (.iaload, 1) := by decide +kernel
theorem dL_law_901 : decode cL_law 901 = .ok (.aload_n 0, 1) := by decide +kernel
theorem dL_law_902 : decode cL_law 902 = .ok (.iload_n 3, 1) := by decide +kernel
theorem dL_law_903 : decode cL_law 903 = .ok (.iconst 2, 1) := by decide +kernel
theorem dL_law_904 : decode cL_law 904 = .ok (.iadd, 1) := by decide +kernel
theorem dL_law_905 : decode cL_law 905 = .ok (.iaload, 1) := by decide +kernel
theorem dL_law_906 : decode cL_law 906 = .ok (.aload_n 0, 1) := by decide +kernel
theorem dL_law_907 : decode cL_law 907 = .ok (.iload_n 3, 1) := by decide +kernel
theorem dL_law_908 : decode cL_law 908 = .ok (.iconst 3, 1) := by decide +kernel
theorem dL_law_909 : decode cL_law 909 = .ok (.iadd, 1) := by decide +kernel
theorem dL_law_910 : decode cL_law 910 = .ok (.iaload, 1) := by decide +kernel
theorem dL_law_911 : decode cL_law 911 = .ok (.invokevirtual 113, 3) := by decide +kernel
theorem dL_law_914 : decode cL_law 914 = .ok (.if_icmp .eq 154, 3) := by decide +kernel
theorem dL_law_917 : decode cL_law 917 = .ok (.iconst 0, 1) := by decide +kernel
theorem dL_law_918 : decode cL_law 918 = .ok (.ireturn, 1) := by decide +kernel
theorem dL_law_919 : decode cL_law 919 = .ok (.aload_n 1, 1) := by decide +kernel
theorem dL_law_920 : decode cL_law 920 = .ok (.aload_n 0, 1) := by decide +kernel
theorem dL_law_921 : decode cL_law 921 = .ok (.iload_n 3, 1) := by decide +kernel
theorem dL_law_922 : decode cL_law 922 = .ok (.iconst 1, 1) := by decide +kernel
theorem dL_law_923 : decode cL_law 923 = .ok (.iadd, 1) := by decide +kernel
theorem dL_law_924 : decode cL_law 924 = .ok (.iaload, 1) := by decide +kernel
theorem dL_law_925 : decode cL_law 925 = .ok (.aload_n 0, 1) := by decide +kernel
theorem dL_law_926 : decode cL_law 926 = .ok (.iload_n 3, 1) := by decide +kernel
theorem dL_law_927 : decode cL_law 927 = .ok (.iconst 2, 1) := by decide +kernel
theorem dL_law_928 : decode cL_law 928 = .ok (.iadd, 1) := by decide +kernel
theorem dL_law_929 : decode cL_law 929 = .ok (.iaload, 1) := by decide +kernel
theorem dL_law_930 : decode cL_law 930 = .ok (.aload_n 0, 1) := by decide +kernel
theorem dL_law_931 : decode cL_law 931 = .ok (.iload_n 3, 1) := by decide +kernel
theorem dL_law_932 : decode cL_law 932 = .ok (.iconst 3, 1) := by decide +kernel
theorem dL_law_933 : decode cL_law 933 = .ok (.iadd, 1) := by decide +kernel
theorem dL_law_934 : decode cL_law 934 = .ok (.iaload, 1) := by decide +kernel
theorem dL_law_935 : decode cL_law 935 = .ok (.aload_n 0, 1) := by decide +kernel
theorem dL_law_936 : decode cL_law 936 = .ok (.iload_n 3, 1) := by decide +kernel
theorem dL_law_937 : decode cL_law 937 = .ok (.iconst 4, 1) := by decide +kernel
theorem dL_law_938 : decode cL_law 938 = .ok (.iadd, 1) := by decide +kernel
theorem dL_law_939 : decode cL_law 939 = .ok (.iaload, 1) := by decide +kernel
theorem dL_law_940 : decode cL_law 940 = .ok (.aload_n 0, 1) := by decide +kernel
theorem dL_law_941 : decode cL_law 941 = .ok (.iload_n 3, 1) := by decide +kernel
theorem dL_law_942 : decode cL_law 942 = .ok (.iconst 5, 1) := by decide +kernel
theorem dL_law_943 : decode cL_law 943 = .ok (.iadd, 1) := by decide +kernel
theorem dL_law_944 : decode cL_law 944 = .ok (.iaload, 1) := by decide +kernel
theorem dL_law_945 : decode cL_law 945 = .ok (.invokevirtual 114, 3) := by decide +kernel
theorem dL_law_948 : decode cL_law 948 = .ok (.aload_n 2, 1) := by decide +kernel
theorem dL_law_949 : decode cL_law 949 = .ok (.aload_n 0, 1) := by decide +kernel
theorem dL_law_950 : decode cL_law 950 = .ok (.iload_n 3, 1) := by decide +kernel
theorem dL_law_951 : decode cL_law 951 = .ok (.iconst 1, 1) := by decide +kernel
theorem dL_law_952 : decode cL_law 952 = .ok (.iadd, 1) := by decide +kernel
theorem dL_law_953 : decode cL_law 953 = .ok (.iaload, 1) := by decide +kernel
theorem dL_law_954 : decode cL_law 954 = .ok (.aload_n 0, 1) := by decide +kernel
theorem dL_law_955 : decode cL_law 955 = .ok (.iload_n 3, 1) := by decide +kernel
theorem dL_law_956 : decode cL_law 956 = .ok (.iconst 2, 1) := by decide +kernel
theorem dL_law_957 : decode cL_law 957 = .ok (.iadd, 1) := by decide +kernel
theorem dL_law_958 : decode cL_law 958 = .ok (.iaload, 1) := by decide +kernel
theorem dL_law_959 : decode cL_law 959 = .ok (.aload_n 0, 1) := by decide +kernel
theorem dL_law_960 : decode cL_law 960 = .ok (.iload_n 3, 1) := by decide +kernel
theorem dL_law_961 : decode cL_law 961 = .ok (.iconst 3, 1) := by decide +kernel
theorem dL_law_962 : decode cL_law 962 = .ok (.iadd, 1) := by decide +kernel
theorem dL_law_963 : decode cL_law 963 = .ok (.iaload, 1) := by decide +kernel
theorem dL_law_964 : decode cL_law 964 = .ok (.aload_n 0, 1) := by decide +kernel
theorem dL_law_965 : decode cL_law 965 = .ok (.iload_n 3, 1) := by decide +kernel
theorem dL_law_966 : decode cL_law 966 = .ok (.iconst 4, 1) := by decide +kernel
theorem dL_law_967 : decode cL_law 967 = .ok (.iadd, 1) := by decide +kernel
theorem dL_law_968 : decode cL_law 968 = .ok (.iaload, 1) := by decide +kernel
theorem dL_law_969 : decode cL_law 969 = .ok (.aload_n 0, 1) := by decide +kernel
theorem dL_law_970 : decode cL_law 970 = .ok (.iload_n 3, 1) := by decide +kernel
theorem dL_law_971 : decode cL_law 971 = .ok (.iconst 5, 1) := by decide +kernel
theorem dL_law_972 : decode cL_law 972 = .ok (.iadd, 1) := by decide +kernel
theorem dL_law_973 : decode cL_law 973 = .ok (.iaload, 1) := by decide +kernel
theorem dL_law_974 : decode cL_law 974 = .ok (.invokevirtual 118, 3) := by decide +kernel
theorem dL_law_977 : decode cL_law 977 = .ok (.if_icmp .eq 91, 3) := by decide +kernel
theorem dL_law_980 : decode cL_law 980 = .ok (.iconst 0, 1) := by decide +kernel
theorem dL_law_981 : decode cL_law 981 = .ok (.ireturn, 1) := by decide +kernel
theorem dL_law_982 : decode cL_law 982 = .ok (.aload_n 1, 1) := by decide +kernel
theorem dL_law_983 : decode cL_law 983 = .ok (.aload_n 0, 1) := by decide +kernel
theorem dL_law_984 : decode cL_law 984 = .ok (.iload_n 3, 1) := by decide +kernel
theorem dL_law_985 : decode cL_law 985 = .ok (.iconst 1, 1) := by decide +kernel
theorem dL_law_986 : decode cL_law 986 = .ok (.iadd, 1) := by decide +kernel
theorem dL_law_987 : decode cL_law 987 = .ok (.iaload, 1) := by decide +kernel
theorem dL_law_988 : decode cL_law 988 = .ok (.aload_n 0, 1) := by decide +kernel
theorem dL_law_989 : decode cL_law 989 = .ok (.iload_n 3, 1) := by decide +kernel
theorem dL_law_990 : decode cL_law 990 = .ok (.iconst 2, 1) := by decide +kernel
theorem dL_law_991 : decode cL_law 991 = .ok (.iadd, 1) := by decide +kernel
theorem dL_law_992 : decode cL_law 992 = .ok (.iaload, 1) := by decide +kernel
theorem dL_law_993 : decode cL_law 993 = .ok (.aload_n 0, 1) := by decide +kernel
theorem dL_law_994 : decode cL_law 994 = .ok (.iload_n 3, 1) := by decide +kernel
theorem dL_law_995 : decode cL_law 995 = .ok (.iconst 3, 1) := by decide +kernel
theorem dL_law_996 : decode cL_law 996 = .ok (.iadd, 1) := by decide +kernel
theorem dL_law_997 : decode cL_law 997 = .ok (.iaload, 1) := by decide +kernel
theorem dL_law_998 : decode cL_law 998 = .ok (.aload_n 0, 1) := by decide +kernel
theorem dL_law_999 : decode cL_law 999 = .ok (.iload_n 3, 1) := by decide +kernel
theorem dL_law_1000 : decode cL_law 1000 = .ok (.iconst 4, 1) := by decide +kernel
theorem dL_law_1001 : decode cL_law 1001 = .ok (.iadd, 1) := by decide +kernel
theorem dL_law_1002 : decode cL_law 1002 = .ok (.iaload, 1) := by decide +kernel
theorem dL_law_1003 : decode cL_law 1003 = .ok (.invokevirtual 119, 3) := by decide +kernel
theorem dL_law_1006 : decode cL_law 1006 = .ok (.aload_n 2, 1) := by decide +kernel
theorem dL_law_1007 : decode cL_law 1007 = .ok (.aload_n 0, 1) := by decide +kernel
theorem dL_law_1008 : decode cL_law 1008 = .ok (.iload_n 3, 1) := by decide +kernel
theorem dL_law_1009 : decode cL_law 1009 = .ok (.iconst 1, 1) := by decide +kernel
theorem dL_law_1010 : decode cL_law 1010 = .ok (.iadd, 1) := by decide +kernel
theorem dL_law_1011 : decode cL_law 1011 = .ok (.iaload, 1) := by decide +kernel
theorem dL_law_1012 : decode cL_law 1012 = .ok (.aload_n 0, 1) := by decide +kernel
theorem dL_law_1013 : decode cL_law 1013 = .ok (.iload_n 3, 1) := by decide +kernel
theorem dL_law_1014 : decode cL_law 1014 = .ok (.iconst 2, 1) := by decide +kernel
theorem dL_law_1015 : decode cL_law 1015 = .ok (.iadd, 1) := by decide +kernel
theorem dL_law_1016 : decode cL_law 1016 = .ok (.iaload, 1) := by decide +kernel
theorem dL_law_1017 : decode cL_law 1017 = .ok (.aload_n 0, 1) := by decide +kernel
theorem dL_law_1018 : decode cL_law 1018 = .ok (.iload_n 3, 1) := by decide +kernel
theorem dL_law_1019 : decode cL_law 1019 = .ok (.iconst 3, 1) := by decide +kernel
theorem dL_law_1020 : decode cL_law 1020 = .ok (.iadd, 1) := by decide +kernel
theorem dL_law_1021 : decode cL_law 1021 = .ok (.iaload, 1) := by decide +kernel
theorem dL_law_1022 : decode cL_law 1022 = .ok (.aload_n 0, 1) := by decide +kernel
theorem dL_law_1023 : decode cL_law 1023 = .ok (.iload_n 3, 1) := by decide +kernel
theorem dL_law_1024 : decode cL_law 1024 = .ok (.iconst 4, 1) := by decide +kernel
theorem dL_law_1025 : decode cL_law 1025 = .ok (.iadd, 1) := by decide +kernel
theorem dL_law_1026 : decode cL_law 1026 = .ok (.iaload, 1) := by decide +kernel
theorem dL_law_1027 : decode cL_law 1027 = .ok (.invokevirtual 123, 3) := by decide +kernel
theorem dL_law_1030 : decode cL_law 1030 = .ok (.if_icmp .eq 38, 3) := by decide +kernel
theorem dL_law_1033 : decode cL_law 1033 = .ok (.iconst 0, 1) := by decide +kernel
theorem dL_law_1034 : decode cL_law 1034 = .ok (.ireturn, 1) := by decide +kernel
theorem dL_law_1035 : decode cL_law 1035 = .ok (.aload_n 1, 1) := by decide +kernel
theorem dL_law_1036 : decode cL_law 1036 = .ok (.aload_n 0, 1) := by decide +kernel
theorem dL_law_1037 : decode cL_law 1037 = .ok (.iload_n 3, 1) := by decide +kernel
theorem dL_law_1038 : decode cL_law 1038 = .ok (.iconst 1, 1) := by decide +kernel
theorem dL_law_1039 : decode cL_law 1039 = .ok (.iadd, 1) := by decide +kernel
theorem dL_law_1040 : decode cL_law 1040 = .ok (.iaload, 1) := by decide +kernel
theorem dL_law_1041 : decode cL_law 1041 = .ok (.aload_n 0, 1) := by decide +kernel
theorem dL_law_1042 : decode cL_law 1042 = .ok (.iload_n 3, 1) := by decide +kernel
theorem dL_law_1043 : decode cL_law 1043 = .ok (.iconst 2, 1) := by decide +kernel
theorem dL_law_1044 : decode cL_law 1044 = .ok (.iadd, 1) := by decide +kernel
theorem dL_law_1045 : decode cL_law 1045 = .ok (.iaload, 1) := by decide +kernel
theorem dL_law_1046 : decode cL_law 1046 = .ok (.invokevirtual 124, 3) := by decide +kernel
theorem dL_law_1049 : decode cL_law 1049 = .ok (.aload_n 2, 1) := by decide +kernel
theorem dL_law_1050 : decode cL_law 1050 = .ok (.aload_n 0, 1) := by decide +kernel
theorem dL_law_1051 : decode cL_law 1051 = .ok (.iload_n 3, 1) := by decide +kernel
theorem dL_law_1052 : decode cL_law 1052 = .ok (.iconst 1, 1) := by decide +kernel
theorem dL_law_1053 : decode cL_law 1053 = .ok (.iadd, 1) := by decide +kernel
theorem dL_law_1054 : decode cL_law 1054 = .ok (.iaload, 1) := by decide +kernel
theorem dL_law_1055 : decode cL_law 1055 = .ok (.aload_n 0, 1) := by decide +kernel
theorem dL_law_1056 : decode cL_law 1056 = .ok (.iload_n 3, 1) := by decide +kernel
theorem dL_law_1057 : decode cL_law 1057 = .ok (.iconst 2, 1) := by decide +kernel
theorem dL_law_1058 : decode cL_law 1058 = .ok (.iadd, 1) := by decide +kernel
theorem dL_law_1059 : decode cL_law 1059 = .ok (.iaload, 1) := by decide +kernel
theorem dL_law_1060 : decode cL_law 1060 = .ok (.invokevirtual 127, 3) := by decide +kernel
theorem dL_law_1063 : decode cL_law 1063 = .ok (.if_icmp .eq 5, 3) := by decide +kernel
theorem dL_law_1066 : decode cL_law 1066 = .ok (.iconst 0, 1) := by decide +kernel
theorem dL_law_1067 : decode cL_law 1067 = .ok (.ireturn, 1) := by decide +kernel
theorem dL_law_1068 : decode cL_law 1068 = .ok (.iinc 3 6, 3) := by decide +kernel
theorem dL_law_1071 : decode cL_law 1071 = .ok (.goto (-1053), 3) := by decide +kernel
theorem dL_law_1074 : decode cL_law 1074 = .ok (.iconst 1, 1) := by decide +kernel
theorem dL_law_1075 : decode cL_law 1075 = .ok (.ireturn, 1) := by decide +kernel
end
section
def lw_gd : List Cond := lw_tbl.filter goodWord
theorem lw_allGood : lw_gd.all goodWord = true := by
  simp [lw_gd]
theorem gdm {w : Cond} (i : Nat) (h : lw_tbl[i]? = some w) (hg : goodWord w = true) : w ∈ lw_gd := List.mem_filter.mpr ⟨List.mem_of_getElem? h, hg⟩
theorem gd_in {w : Cond} (h : w ∈ lw_gd) : w ∈ lw_tbl := (List.mem_filter.mp h).1

/-! V: one judgement for a method's walk over a world that is a function of a plain memory M (cell, slot -> int) -/
abbrev S0 : Type := Nat → Nat → Int32
def up (M : S0) (k j : Nat) (x : Int32) : S0 := fun k' j' => if k' = k ∧ j' = j then x else M k' j'
/-- a world: n cells at the addresses a, of shapes sh -/
def wl (n : Nat) (a : Nat → Nat) (sh : Nat → (Nat → Int32) → va_E) (M : S0) : va_W := (List.range n).map fun k => (a k, sh k (M k))
theorem wl_get {n : Nat} {a : Nat → Nat} {sh : Nat → (Nat → Int32) → va_E} {M : S0} {k : Nat} (hk : k < n) : (wl n a sh M)[k]? = some (a k, sh k (M k)) := by
  simp [wl, List.getElem?_map, List.getElem?_range hk]
theorem up_row (M : S0) (k j : Nat) (x : Int32) : up M k j x k = upd (M k) j x := by
  funext j'; simp [up, upd]
theorem up_ne (M : S0) {k j k' : Nat} (x : Int32) (h : k' ≠ k) : up M k j x k' = M k' := by
  funext j'; simp [up, h]
theorem wl_set {n : Nat} {a : Nat → Nat} {sh : Nat → (Nat → Int32) → va_E} {M : S0} {k j : Nat} {x : Int32} : (wl n a sh M).set k (a k, sh k (upd (M k) j x)) = wl n a sh (up M k j x) := by
  apply List.ext_getElem?
  intro i
  by_cases hi : i < n
  · by_cases e : i = k
    · subst e
      rw [List.getElem?_set_self (by simp [wl, hi]), wl_get hi, up_row]
    · rw [List.getElem?_set_ne (fun h => e h.symm), wl_get hi, wl_get hi, up_ne _ _ e]
  · rw [List.getElem?_eq_none (by simp [wl]; omega), List.getElem?_eq_none (by simp [wl]; omega)]
/-- a row copied into another -/
def upR (M : S0) (k : Nat) (f : Nat → Int32) : S0 := fun k' => if k' = k then f else M k'
theorem wl_setR {n : Nat} {a : Nat → Nat} {sh : Nat → (Nat → Int32) → va_E} {M : S0} {k : Nat} {f : Nat → Int32} : (wl n a sh M).set k (a k, sh k f) = wl n a sh (upR M k f) := by
  apply List.ext_getElem?
  intro i
  by_cases hi : i < n
  · by_cases e : i = k
    · subst e
      rw [List.getElem?_set_self (by simp [wl, hi]), wl_get hi]; simp [upR]
    · rw [List.getElem?_set_ne (fun h => e h.symm), wl_get hi, wl_get hi]; simp [upR, e]
  · rw [List.getElem?_eq_none (by simp [wl]; omega), List.getElem?_eq_none (by simp [wl]; omega)]
/-- longs in two ints -/
def j64 (lo hi : Int32) : Int64 := Int64.ofBitVec (hi.toBitVec ++ lo.toBitVec)
def lo64 (v : Int64) : Int32 := Int32.ofBitVec (v.toBitVec.extractLsb' 0 32)
def hi64 (v : Int64) : Int32 := Int32.ofBitVec (v.toBitVec.extractLsb' 32 32)
theorem j64_lohi (v : Int64) : j64 (lo64 v) (hi64 v) = v := by
  apply Int64.toBitVec_inj.mp
  show (v.toBitVec.extractLsb' 32 32) ++ (v.toBitVec.extractLsb' 0 32) = v.toBitVec
  apply BitVec.eq_of_getLsbD_eq
  intro i hi
  rw [BitVec.getLsbD_append]
  by_cases h : i < 32
  · simp [h, BitVec.getLsbD_extractLsb']
  · simp [h, BitVec.getLsbD_extractLsb']
    have e : 32 + (i - 32) = i := by omega
    rw [e]
    have e2 : i - 32 < 32 := by omega
    simp [e2]
abbrev BX : Type := va_G × (Nat → ClassId) × (Nat → Nat) × (Nat → Nat)
abbrev cls7 : List vw_C := [(RX0, TX0, 10), (RX1, TX1, 9), (RX2, TX2, 3), (RX3, TX3, 2), (RX4, TX4, 4), (RX5, TX5, 10), (RX6, TX6, 41)]
def tyk (K : Nat → ClassId) : List (ClassId × FieldType) := [(K 0, .int), (K 1, .boolean), (K 2, .object RX0), (K 3, .object RX2), (K 4, .object RX3)]
/-- the literals: whose, which entry, text, bytes -/
def sWho : List (String × Nat × String × List Int32) := [(RX5, 23, "plays strong ; throws has < 1 ; tires 1 ;", [112, 108, 97, 121, 115, 32, 115, 116, 114, 111, 110, 103, 32, 59, 32, 116, 104, 114, 111, 119, 115, 32, 104, 97, 115, 32, 60, 32, 49, 32, 59, 32, 116, 105, 114, 101, 115, 32, 49, 32, 59]), (RX1, 120, "plays", [112, 108, 97, 121, 115]), (RX1, 126, "throws", [116, 104, 114, 111, 119, 115]), (RX1, 128, "tires", [116, 105, 114, 101, 115]), (RX1, 130, "or", [111, 114]), (RX1, 132, "and", [97, 110, 100]), (RX1, 134, "not", [110, 111, 116]), (RX1, 136, "strong", [115, 116, 114, 111, 110, 103]), (RX1, 138, "has", [104, 97, 115]), (RX1, 140, "number", [110, 117, 109, 98, 101, 114]), (RX1, 142, "theirs", [116, 104, 101, 105, 114, 115]), (RX1, 144, "round", [114, 111, 117, 110, 100]), (RX1, 146, "stake", [115, 116, 97, 107, 101])]
def sLen : List Nat := sWho.map fun q => q.2.2.2.length
def sByt : List (List Int32) := sWho.map fun q => q.2.2.2
def SF (B : BX) (A : Nat → Prop) (U : State) (H : Heap) : Prop := vk_S 13 sLen sByt B.2.2.1 B.2.2.2 A U H ∧ ∀ (i : Nat) (q : String × Nat × String × List Int32), sWho[i]? = some q → vk_R q.1 q.2.1 q.2.2.1 (B.2.2.1 i) U
theorem SF.warm {B : BX} {A : Nat → Prop} {s U : State} {H : Heap} (h : SF B A s H) (hW : s.WarmedH U.vm) : SF B A U H := ⟨h.1.moved hW.alike, fun i q hq => (h.2 i q hq).warm hW⟩
theorem SF.kept {B : BX} {A : Nat → Prop} {s : State} {H H1 : Heap} (h : SF B A s H) (hq : ∀ a : Nat, a < H.size → ¬ A a → H1[a]? = H[a]?) : SF B A s H1 := ⟨h.1.kept hq, h.2⟩
theorem SF.narrow {B : BX} {A A' : Nat → Prop} {s : State} {H : Heap} (h : SF B A s H) (hq : ∀ q, A' q → A q) : SF B A' s H := ⟨h.1.narrow hq, h.2⟩
abbrev EX : Type := Program × Launch × Env × Room × State × MethodId × Array Value × List Frame × Method × Code × (Nat → Prop) × (State → Prop)
def V (B : BX) (E : EX) (nL : Nat) (w : va_W) (pc : Nat) (lv : List (Nat × Value)) (st : List Value) : Prop :=
  match E with
  | (p, l, e, R, s, m, args, below, meth, c, A, Z) => ∀ (H : Heap) (locs : List Loc) (ls : Array Slot), va_P B.1 cls7 w H → va_D A w → va_S A s.heap H locs → lv_has ls nL lv → W p l e R s m args below meth c H locs 0 0 Z (F0 m pc ls st)
def Ok (B : BX) (E : EX) (cc : ByteArray) (nL : Nat) (own : String) (fr lo : Nat) : Prop :=
  match E with
  | (p, _, _, R, s, m, args, _, meth, c, A, _) => p.tables.exec = Jvm.exec ∧ c.code = cc ∧ c.maxLocals = nL ∧ s.vm.findClass own = some m.cls ∧ (∀ w ∈ lw_gd, w.before args s = true) ∧ va_K B.1 cls7 (tyk B.2.1) s ∧ (∀ q, s.heap.size ≤ q → A q) ∧ meth.locks = false ∧ fr ≤ R.frames ∧ lo ≤ R.locals ∧ SF B A s s.heap
def Pw (B : BX) (w : va_W) (sz : Nat) (U : State) : Prop := U.heap.size = sz ∧ va_P B.1 cls7 w U.heap ∧ va_K B.1 cls7 (tyk B.2.1) U ∧ va_D (fun _ => True) w ∧ SF B (va_A w sz) U U.heap
def Bw (B : BX) (A : Nat → Prop) (w : va_W) (t : State) : Prop := va_P B.1 cls7 w t.heap ∧ va_K B.1 cls7 (tyk B.2.1) t ∧ va_D A w
def rmm (fr lo : Nat) : Room := { frames := fr, cells := 0, slots := 0, locals := lo }
theorem Pw_blind {B : BX} {w : va_W} {sz : Nat} {av : List Value} : FrameBlind (va_Pc av (Pw B w sz)) := fun a U g mk q => by
  obtain ⟨q0, q1, qP, qK, qD, qS, qR⟩ := q
  exact ⟨q0, q1, qP, va_K.moved (u := U) (U := U.calling g mk a) (Vm.Alike.refl U.vm) qK, qD, qS.moved (Vm.Alike.refl U.vm), fun i q hq => (qR i q hq).same (u := U) rfl⟩
def RetI (B : BX) (E : EX) (cc : ByteArray) (nL : Nat) (wf : S0 → va_W) (Q : Int32 → S0 → Prop) : Prop := ∀ (v : Int32) (M : S0) (pc : Nat) (lv : List (Nat × Value)), Q v M → decode cc pc = .ok (.ireturn, 1) → V B E nL (wf M) pc lv [.int v]
def RetZ (B : BX) (E : EX) (cc : ByteArray) (nL : Nat) (wf : S0 → va_W) (ty : FieldType) (Q : Int32 → S0 → Prop) : Prop := ∀ (v : Int32) (M : S0) (pc : Nat) (lv : List (Nat × Value)), narrow ty (.int v) = .int v → Q v M → decode cc pc = .ok (.ireturn, 1) → V B E nL (wf M) pc lv [.int v]
def RetL (B : BX) (E : EX) (cc : ByteArray) (nL : Nat) (wf : S0 → va_W) (Q : Int64 → S0 → Prop) : Prop := ∀ (v : Int64) (M : S0) (pc : Nat) (lv : List (Nat × Value)), Q v M → decode cc pc = .ok (.lreturn, 1) → V B E nL (wf M) pc lv [.long v]
def RetV (B : BX) (E : EX) (cc : ByteArray) (nL : Nat) (wf : S0 → va_W) (Q : S0 → Prop) : Prop := ∀ (M : S0) (pc : Nat) (lv : List (Nat × Value)), Q M → decode cc pc = .ok (.return_, 1) → V B E nL (wf M) pc lv []
def RetA (B : BX) (E : EX) (cc : ByteArray) (nL : Nat) (wf : S0 → va_W) (a : Nat → Nat) (Q : Option Nat → S0 → Prop) : Prop := ∀ (o : Option Nat) (v : Value) (M : S0) (pc : Nat) (lv : List (Nat × Value)), v = va_rf (o.map a) → Q o M → decode cc pc = .ok (.areturn, 1) → V B E nL (wf M) pc lv [v]
/-- contracts: answer an int (or narrower), a long, nothing, a reference of the world or null -/
def KI (B : BX) (wf : S0 → va_W) (y : MethodName) (cc : ByteArray) (maxL : Nat) (ret : Option FieldType) (fr lo : Nat) (av : List Value) (M : S0) (Q : Int32 → S0 → Prop) : Prop :=
  ∀ (l : Launch) (sz : Nat), Met l y (.code y cc maxL ret :: lw_gd) (rmm fr lo) (va_Pc av (Pw B (wf M) sz)) (va_Qi Q (fun M1 t => Bw B (va_A (wf M) sz) (wf M1) t) (va_A (wf M) sz)) 0 0 (va_A (wf M) sz)
def KL (B : BX) (wf : S0 → va_W) (y : MethodName) (cc : ByteArray) (maxL : Nat) (ret : Option FieldType) (fr lo : Nat) (av : List Value) (M : S0) (Q : Int64 → S0 → Prop) : Prop :=
  ∀ (l : Launch) (sz : Nat), Met l y (.code y cc maxL ret :: lw_gd) (rmm fr lo) (va_Pc av (Pw B (wf M) sz)) (va_Ql Q (fun M1 t => Bw B (va_A (wf M) sz) (wf M1) t) (va_A (wf M) sz)) 0 0 (va_A (wf M) sz)
def KV (B : BX) (wf : S0 → va_W) (y : MethodName) (cc : ByteArray) (maxL : Nat) (ret : Option FieldType) (fr lo : Nat) (av : List Value) (M : S0) (Q : S0 → Prop) : Prop :=
  ∀ (l : Launch) (sz : Nat), Met l y (.code y cc maxL ret :: lw_gd) (rmm fr lo) (va_Pc av (Pw B (wf M) sz)) (va_Qv Q (fun M1 t => Bw B (va_A (wf M) sz) (wf M1) t) (va_A (wf M) sz)) 0 0 (va_A (wf M) sz)
def KA (B : BX) (wf : S0 → va_W) (a : Nat → Nat) (y : MethodName) (cc : ByteArray) (maxL : Nat) (ret : Option FieldType) (fr lo : Nat) (av : List Value) (M : S0) (Q : Option Nat → S0 → Prop) : Prop :=
  ∀ (l : Launch) (sz : Nat), Met l y (.code y cc maxL ret :: lw_gd) (rmm fr lo) (va_Pc av (Pw B (wf M) sz)) (va_Qq (fun r M1 => ∃ o : Option Nat, r = o.map a ∧ Q o M1) (fun M1 t => Bw B (va_A (wf M) sz) (wf M1) t) (va_A (wf M) sz)) 0 0 (va_A (wf M) sz)
section VROWS
variable {B : BX} {E : EX} {cc : ByteArray} {nL : Nat} {own : String} {fr lo : Nat} {w : va_W} {pc : Nat} {lv : List (Nat × Value)} {st : List Value}
theorem v_iadd (C : Ok B E cc nL own fr lo) {x y : Int32} (hd : decode cc pc = .ok (.iadd, 1))  (k : V B E nL w (pc + 1) lv (.int (x + y) :: st)) : V B E nL w pc lv (.int y :: .int x :: st) := by
  obtain ⟨p, l, e, R, s, m, args, below, meth, c, A, Z⟩ := E
  exact fun H locs ls hP hD hS hl => lv_iadd C.1 C.2.1 hd (k H locs ls hP hD hS hl)
theorem v_isub (C : Ok B E cc nL own fr lo) {x y : Int32} (hd : decode cc pc = .ok (.isub, 1))  (k : V B E nL w (pc + 1) lv (.int (x - y) :: st)) : V B E nL w pc lv (.int y :: .int x :: st) := by
  obtain ⟨p, l, e, R, s, m, args, below, meth, c, A, Z⟩ := E
  exact fun H locs ls hP hD hS hl => lv_isub C.1 C.2.1 hd (k H locs ls hP hD hS hl)
theorem v_imul (C : Ok B E cc nL own fr lo) {x y : Int32} (hd : decode cc pc = .ok (.imul, 1))  (k : V B E nL w (pc + 1) lv (.int (x * y) :: st)) : V B E nL w pc lv (.int y :: .int x :: st) := by
  obtain ⟨p, l, e, R, s, m, args, below, meth, c, A, Z⟩ := E
  exact fun H locs ls hP hD hS hl => lv_imul C.1 C.2.1 hd (k H locs ls hP hD hS hl)
theorem v_iand (C : Ok B E cc nL own fr lo) {x y : Int32} (hd : decode cc pc = .ok (.iand, 1))  (k : V B E nL w (pc + 1) lv (.int (x &&& y) :: st)) : V B E nL w pc lv (.int y :: .int x :: st) := by
  obtain ⟨p, l, e, R, s, m, args, below, meth, c, A, Z⟩ := E
  exact fun H locs ls hP hD hS hl => lv_iand C.1 C.2.1 hd (k H locs ls hP hD hS hl)
theorem v_ior (C : Ok B E cc nL own fr lo) {x y : Int32} (hd : decode cc pc = .ok (.ior, 1))  (k : V B E nL w (pc + 1) lv (.int (x ||| y) :: st)) : V B E nL w pc lv (.int y :: .int x :: st) := by
  obtain ⟨p, l, e, R, s, m, args, below, meth, c, A, Z⟩ := E
  exact fun H locs ls hP hD hS hl => lv_ior C.1 C.2.1 hd (k H locs ls hP hD hS hl)
theorem v_ixor (C : Ok B E cc nL own fr lo) {x y : Int32} (hd : decode cc pc = .ok (.ixor, 1))  (k : V B E nL w (pc + 1) lv (.int (x ^^^ y) :: st)) : V B E nL w pc lv (.int y :: .int x :: st) := by
  obtain ⟨p, l, e, R, s, m, args, below, meth, c, A, Z⟩ := E
  exact fun H locs ls hP hD hS hl => lv_ixor C.1 C.2.1 hd (k H locs ls hP hD hS hl)
theorem v_ishl (C : Ok B E cc nL own fr lo) {x y : Int32} (hd : decode cc pc = .ok (.ishl, 1))  (k : V B E nL w (pc + 1) lv (.int (x <<< (y &&& 31)) :: st)) : V B E nL w pc lv (.int y :: .int x :: st) := by
  obtain ⟨p, l, e, R, s, m, args, below, meth, c, A, Z⟩ := E
  exact fun H locs ls hP hD hS hl => lv_ishl C.1 C.2.1 hd (k H locs ls hP hD hS hl)
theorem v_ishr (C : Ok B E cc nL own fr lo) {x y : Int32} (hd : decode cc pc = .ok (.ishr, 1))  (k : V B E nL w (pc + 1) lv (.int (x >>> (y &&& 31)) :: st)) : V B E nL w pc lv (.int y :: .int x :: st) := by
  obtain ⟨p, l, e, R, s, m, args, below, meth, c, A, Z⟩ := E
  exact fun H locs ls hP hD hS hl => lv_ishr C.1 C.2.1 hd (k H locs ls hP hD hS hl)
theorem v_iushr (C : Ok B E cc nL own fr lo) {x y : Int32} (hd : decode cc pc = .ok (.iushr, 1))  (k : V B E nL w (pc + 1) lv (.int ((x.toUInt32 >>> (y.toUInt32 &&& Int32.toUInt32 31)).toInt32) :: st)) : V B E nL w pc lv (.int y :: .int x :: st) := by
  obtain ⟨p, l, e, R, s, m, args, below, meth, c, A, Z⟩ := E
  exact fun H locs ls hP hD hS hl => lv_iushr C.1 C.2.1 hd rfl (k H locs ls hP hD hS hl)
theorem v_idiv (C : Ok B E cc nL own fr lo) {x y : Int32} (hd : decode cc pc = .ok (.idiv, 1)) (hne : ¬ y = 0) (k : V B E nL w (pc + 1) lv (.int (x / y) :: st)) : V B E nL w pc lv (.int y :: .int x :: st) := by
  obtain ⟨p, l, e, R, s, m, args, below, meth, c, A, Z⟩ := E
  exact fun H locs ls hP hD hS hl => lv_idiv C.1 C.2.1 hd hne (k H locs ls hP hD hS hl)
theorem v_irem (C : Ok B E cc nL own fr lo) {x y : Int32} (hd : decode cc pc = .ok (.irem, 1)) (hne : ¬ y = 0) (k : V B E nL w (pc + 1) lv (.int (x - x / y * y) :: st)) : V B E nL w pc lv (.int y :: .int x :: st) := by
  obtain ⟨p, l, e, R, s, m, args, below, meth, c, A, Z⟩ := E
  exact fun H locs ls hP hD hS hl => lv_irem C.1 C.2.1 hd hne (k H locs ls hP hD hS hl)
theorem v_ineg (C : Ok B E cc nL own fr lo) {x : Int32} (hd : decode cc pc = .ok (.ineg, 1))  (k : V B E nL w (pc + 1) lv (.int (-x) :: st)) : V B E nL w pc lv (.int x :: st) := by
  obtain ⟨p, l, e, R, s, m, args, below, meth, c, A, Z⟩ := E
  exact fun H locs ls hP hD hS hl => lv_ineg C.1 C.2.1 hd (k H locs ls hP hD hS hl)
theorem v_ladd (C : Ok B E cc nL own fr lo) {x y : Int64} (hd : decode cc pc = .ok (.ladd, 1))  (k : V B E nL w (pc + 1) lv (.long (x + y) :: st)) : V B E nL w pc lv (.long y :: .long x :: st) := by
  obtain ⟨p, l, e, R, s, m, args, below, meth, c, A, Z⟩ := E
  exact fun H locs ls hP hD hS hl => lv_ladd C.1 C.2.1 hd (k H locs ls hP hD hS hl)
theorem v_lsub (C : Ok B E cc nL own fr lo) {x y : Int64} (hd : decode cc pc = .ok (.lsub, 1))  (k : V B E nL w (pc + 1) lv (.long (x - y) :: st)) : V B E nL w pc lv (.long y :: .long x :: st) := by
  obtain ⟨p, l, e, R, s, m, args, below, meth, c, A, Z⟩ := E
  exact fun H locs ls hP hD hS hl => lv_lsub C.1 C.2.1 hd (k H locs ls hP hD hS hl)
theorem v_lmul (C : Ok B E cc nL own fr lo) {x y : Int64} (hd : decode cc pc = .ok (.lmul, 1))  (k : V B E nL w (pc + 1) lv (.long (x * y) :: st)) : V B E nL w pc lv (.long y :: .long x :: st) := by
  obtain ⟨p, l, e, R, s, m, args, below, meth, c, A, Z⟩ := E
  exact fun H locs ls hP hD hS hl => lv_lmul C.1 C.2.1 hd (k H locs ls hP hD hS hl)
theorem v_ldiv (C : Ok B E cc nL own fr lo) {x y : Int64} (hd : decode cc pc = .ok (.ldiv, 1)) (hne : ¬ y = 0) (k : V B E nL w (pc + 1) lv (.long (x / y) :: st)) : V B E nL w pc lv (.long y :: .long x :: st) := by
  obtain ⟨p, l, e, R, s, m, args, below, meth, c, A, Z⟩ := E
  exact fun H locs ls hP hD hS hl => lv_ldiv C.1 C.2.1 hd hne (k H locs ls hP hD hS hl)
theorem v_lrem (C : Ok B E cc nL own fr lo) {x y : Int64} (hd : decode cc pc = .ok (.lrem, 1)) (hne : ¬ y = 0) (k : V B E nL w (pc + 1) lv (.long (x - x / y * y) :: st)) : V B E nL w pc lv (.long y :: .long x :: st) := by
  obtain ⟨p, l, e, R, s, m, args, below, meth, c, A, Z⟩ := E
  exact fun H locs ls hP hD hS hl => lv_lrem C.1 C.2.1 hd hne (k H locs ls hP hD hS hl)
theorem v_lcmp (C : Ok B E cc nL own fr lo) {x y : Int64} (hd : decode cc pc = .ok (.lcmp, 1))  (k : V B E nL w (pc + 1) lv (.int (lg_cmp x y) :: st)) : V B E nL w pc lv (.long y :: .long x :: st) := by
  obtain ⟨p, l, e, R, s, m, args, below, meth, c, A, Z⟩ := E
  exact fun H locs ls hP hD hS hl => W.lcmp C.1 C.2.1 hd (k H locs ls hP hD hS hl)
theorem v_i2l (C : Ok B E cc nL own fr lo) {x : Int32} (hd : decode cc pc = .ok (.i2l, 1))  (k : V B E nL w (pc + 1) lv (.long (x.toInt64) :: st)) : V B E nL w pc lv (.int x :: st) := by
  obtain ⟨p, l, e, R, s, m, args, below, meth, c, A, Z⟩ := E
  exact fun H locs ls hP hD hS hl => lv_i2l C.1 C.2.1 hd rfl (k H locs ls hP hD hS hl)
theorem v_l2i (C : Ok B E cc nL own fr lo) {x : Int64} (hd : decode cc pc = .ok (.l2i, 1))  (k : V B E nL w (pc + 1) lv (.int (x.toInt32) :: st)) : V B E nL w pc lv (.long x :: st) := by
  obtain ⟨p, l, e, R, s, m, args, below, meth, c, A, Z⟩ := E
  exact fun H locs ls hP hD hS hl => lv_l2i C.1 C.2.1 hd rfl (k H locs ls hP hD hS hl)
theorem v_i2b (C : Ok B E cc nL own fr lo) {x : Int32} (hd : decode cc pc = .ok (.i2b, 1))  (k : V B E nL w (pc + 1) lv (.int (x.toInt8.toInt32) :: st)) : V B E nL w pc lv (.int x :: st) := by
  obtain ⟨p, l, e, R, s, m, args, below, meth, c, A, Z⟩ := E
  exact fun H locs ls hP hD hS hl => lv_i2b C.1 C.2.1 hd rfl (k H locs ls hP hD hS hl)
theorem v_i2s (C : Ok B E cc nL own fr lo) {x : Int32} (hd : decode cc pc = .ok (.i2s, 1))  (k : V B E nL w (pc + 1) lv (.int (x.toInt16.toInt32) :: st)) : V B E nL w pc lv (.int x :: st) := by
  obtain ⟨p, l, e, R, s, m, args, below, meth, c, A, Z⟩ := E
  exact fun H locs ls hP hD hS hl => lv_i2s C.1 C.2.1 hd rfl (k H locs ls hP hD hS hl)
theorem v_iconst (C : Ok B E cc nL own fr lo) {n : Int} {v : Int32} (hd : decode cc pc = .ok (.iconst n, 1)) (hv : Int32.ofInt n = v) (k : V B E nL w (pc + 1) lv (.int v :: st)) : V B E nL w pc lv (st) := by
  obtain ⟨p, l, e, R, s, m, args, below, meth, c, A, Z⟩ := E
  exact fun H locs ls hP hD hS hl => lv_iconst C.1 C.2.1 hd hv (k H locs ls hP hD hS hl)
theorem v_bipush (C : Ok B E cc nL own fr lo) {n : Int} {v : Int32} (hd : decode cc pc = .ok (.bipush n, 2)) (hv : (Int8.ofInt n).toInt32 = v) (k : V B E nL w (pc + 2) lv (.int v :: st)) : V B E nL w pc lv (st) := by
  obtain ⟨p, l, e, R, s, m, args, below, meth, c, A, Z⟩ := E
  exact fun H locs ls hP hD hS hl => lv_bipush C.1 C.2.1 hd hv (k H locs ls hP hD hS hl)
theorem v_sipush (C : Ok B E cc nL own fr lo) {n : Int} {v : Int32} (hd : decode cc pc = .ok (.sipush n, 3)) (hv : (Int16.ofInt n).toInt32 = v) (k : V B E nL w (pc + 3) lv (.int v :: st)) : V B E nL w pc lv (st) := by
  obtain ⟨p, l, e, R, s, m, args, below, meth, c, A, Z⟩ := E
  exact fun H locs ls hP hD hS hl => lv_sipush C.1 C.2.1 hd hv (k H locs ls hP hD hS hl)
theorem v_lconst (C : Ok B E cc nL own fr lo) {n : Fin 2} {v : Int64} (hd : decode cc pc = .ok (.lconst n, 1)) (hv : Int64.ofNat (n : Nat) = v) (k : V B E nL w (pc + 1) lv (.long v :: st)) : V B E nL w pc lv (st) := by
  obtain ⟨p, l, e, R, s, m, args, below, meth, c, A, Z⟩ := E
  exact fun H locs ls hP hD hS hl => lv_lconst C.1 C.2.1 hd hv (k H locs ls hP hD hS hl)
theorem v_dup (C : Ok B E cc nL own fr lo) {v : Value} (hd : decode cc pc = .ok (.dup, 1)) (hv : v.category = 1) (k : V B E nL w (pc + 1) lv (v :: v :: st)) : V B E nL w pc lv (v :: st) := by
  obtain ⟨p, l, e, R, s, m, args, below, meth, c, A, Z⟩ := E
  exact fun H locs ls hP hD hS hl => lv_dup C.1 C.2.1 hd hv (k H locs ls hP hD hS hl)
theorem v_dup2 (C : Ok B E cc nL own fr lo) {va vb : Value} (hd : decode cc pc = .ok (.dup2, 1)) (hva : va.category = 1) (hvb : vb.category = 1) (k : V B E nL w (pc + 1) lv (va :: vb :: va :: vb :: st)) : V B E nL w pc lv (va :: vb :: st) := by
  obtain ⟨p, l, e, R, s, m, args, below, meth, c, A, Z⟩ := E
  exact fun H locs ls hP hD hS hl => lv_dup2_11 C.1 C.2.1 hd hva hvb (k H locs ls hP hD hS hl)
theorem v_dup_x1 (C : Ok B E cc nL own fr lo) {va vb : Value} (hd : decode cc pc = .ok (.dup_x1, 1)) (hva : va.category = 1) (hvb : vb.category = 1) (k : V B E nL w (pc + 1) lv (va :: vb :: va :: st)) : V B E nL w pc lv (va :: vb :: st) := by
  obtain ⟨p, l, e, R, s, m, args, below, meth, c, A, Z⟩ := E
  exact fun H locs ls hP hD hS hl => lv_dup_x1 C.1 C.2.1 hd hva hvb (k H locs ls hP hD hS hl)
theorem v_pop (C : Ok B E cc nL own fr lo) {v : Value} (hd : decode cc pc = .ok (.pop, 1)) (hv : v.category = 1) (k : V B E nL w (pc + 1) lv (st)) : V B E nL w pc lv (v :: st) := by
  obtain ⟨p, l, e, R, s, m, args, below, meth, c, A, Z⟩ := E
  exact fun H locs ls hP hD hS hl => lv_pop C.1 C.2.1 hd hv (k H locs ls hP hD hS hl)
theorem v_null (C : Ok B E cc nL own fr lo)  (hd : decode cc pc = .ok (.aconst_null, 1))  (k : V B E nL w (pc + 1) lv (.null :: st)) : V B E nL w pc lv (st) := by
  obtain ⟨p, l, e, R, s, m, args, below, meth, c, A, Z⟩ := E
  exact fun H locs ls hP hD hS hl => lv_null C.1 C.2.1 hd (k H locs ls hP hD hS hl)
theorem v_iload_n (C : Ok B E cc nL own fr lo) (q : Nat) {k : Fin 4} {i : Nat} {x : Int32} (hd : decode cc pc = .ok (.iload_n k, 1)) (hi : (k : Nat) = i) (hq : lv[q]? = some (i, .int x)) (kk : V B E nL w (pc + 1) lv (.int x :: st)) : V B E nL w pc lv st := by
  obtain ⟨p, l, e, R, s, m, args, below, meth, c, A, Z⟩ := E
  exact fun H locs ls hP hD hS hl => lv_iload_n C.1 C.2.1 hd hi (lv_at hl q hq) (kk H locs ls hP hD hS hl)
theorem v_iload (C : Ok B E cc nL own fr lo) (q : Nat) {i : Nat} {x : Int32} (hd : decode cc pc = .ok (.iload i, 2)) (hq : lv[q]? = some (i, .int x)) (kk : V B E nL w (pc + 2) lv (.int x :: st)) : V B E nL w pc lv st := by
  obtain ⟨p, l, e, R, s, m, args, below, meth, c, A, Z⟩ := E
  exact fun H locs ls hP hD hS hl => lv_iload C.1 C.2.1 hd (lv_at hl q hq) (kk H locs ls hP hD hS hl)
theorem v_lload_n (C : Ok B E cc nL own fr lo) (q : Nat) {k : Fin 4} {i : Nat} {x : Int64} (hd : decode cc pc = .ok (.lload_n k, 1)) (hi : (k : Nat) = i) (hq : lv[q]? = some (i, .long x)) (kk : V B E nL w (pc + 1) lv (.long x :: st)) : V B E nL w pc lv st := by
  obtain ⟨p, l, e, R, s, m, args, below, meth, c, A, Z⟩ := E
  exact fun H locs ls hP hD hS hl => lv_lload_n C.1 C.2.1 hd hi (lv_at hl q hq) (kk H locs ls hP hD hS hl)
theorem v_lload (C : Ok B E cc nL own fr lo) (q : Nat) {i : Nat} {x : Int64} (hd : decode cc pc = .ok (.lload i, 2)) (hq : lv[q]? = some (i, .long x)) (kk : V B E nL w (pc + 2) lv (.long x :: st)) : V B E nL w pc lv st := by
  obtain ⟨p, l, e, R, s, m, args, below, meth, c, A, Z⟩ := E
  exact fun H locs ls hP hD hS hl => lv_lload C.1 C.2.1 hd (lv_at hl q hq) (kk H locs ls hP hD hS hl)
theorem v_aload_n (C : Ok B E cc nL own fr lo) (q : Nat) {k : Fin 4} {i : Nat} {x : Nat} (hd : decode cc pc = .ok (.aload_n k, 1)) (hi : (k : Nat) = i) (hq : lv[q]? = some (i, .ref x)) (kk : V B E nL w (pc + 1) lv (.ref x :: st)) : V B E nL w pc lv st := by
  obtain ⟨p, l, e, R, s, m, args, below, meth, c, A, Z⟩ := E
  exact fun H locs ls hP hD hS hl => lv_aload_n C.1 C.2.1 hd hi (lv_at hl q hq) (kk H locs ls hP hD hS hl)
theorem v_aload (C : Ok B E cc nL own fr lo) (q : Nat) {i : Nat} {x : Nat} (hd : decode cc pc = .ok (.aload i, 2)) (hq : lv[q]? = some (i, .ref x)) (kk : V B E nL w (pc + 2) lv (.ref x :: st)) : V B E nL w pc lv st := by
  obtain ⟨p, l, e, R, s, m, args, below, meth, c, A, Z⟩ := E
  exact fun H locs ls hP hD hS hl => lv_aload C.1 C.2.1 hd (lv_at hl q hq) (kk H locs ls hP hD hS hl)
theorem v_aloadN_n (C : Ok B E cc nL own fr lo) (q : Nat) {k : Fin 4} {i : Nat} (hd : decode cc pc = .ok (.aload_n k, 1)) (hi : (k : Nat) = i) (hq : lv[q]? = some (i, .null)) (kk : V B E nL w (pc + 1) lv (.null :: st)) : V B E nL w pc lv st := by
  obtain ⟨p, l, e, R, s, m, args, below, meth, c, A, Z⟩ := E
  exact fun H locs ls hP hD hS hl => lv_aload_nN C.1 C.2.1 hd hi (lv_at hl q hq) (kk H locs ls hP hD hS hl)
theorem v_aloadN (C : Ok B E cc nL own fr lo) (q : Nat) {i : Nat} (hd : decode cc pc = .ok (.aload i, 2)) (hq : lv[q]? = some (i, .null)) (kk : V B E nL w (pc + 2) lv (.null :: st)) : V B E nL w pc lv st := by
  obtain ⟨p, l, e, R, s, m, args, below, meth, c, A, Z⟩ := E
  exact fun H locs ls hP hD hS hl => lv_aloadN C.1 C.2.1 hd (lv_at hl q hq) (kk H locs ls hP hD hS hl)
theorem v_istore_n (C : Ok B E cc nL own fr lo) {k : Fin 4} {i : Nat} {x : Int32} {lv' : List (Nat × Value)} (hd : decode cc pc = .ok (.istore_n k, 1)) (hi : (k : Nat) = i) (hn : i < nL) (he : (i, .int x) :: lv.filter (fun q => !(q.1 == i) && !(q.1 + 1 == i && q.2.category == 2)) = lv') (kk : V B E nL w (pc + 1) lv' st) : V B E nL w pc lv (.int x :: st) := by
  obtain ⟨p, l, e, R, s, m, args, below, meth, c, A, Z⟩ := E
  exact fun H locs ls hP hD hS hl => lv_istore_n C.1 C.2.1 hd hi hl hn he (fun ls' hl' => kk H locs ls' hP hD hS hl')
theorem v_istore (C : Ok B E cc nL own fr lo) {i : Nat} {x : Int32} {lv' : List (Nat × Value)} (hd : decode cc pc = .ok (.istore i, 2)) (hn : i < nL) (he : (i, .int x) :: lv.filter (fun q => !(q.1 == i) && !(q.1 + 1 == i && q.2.category == 2)) = lv') (kk : V B E nL w (pc + 2) lv' st) : V B E nL w pc lv (.int x :: st) := by
  obtain ⟨p, l, e, R, s, m, args, below, meth, c, A, Z⟩ := E
  exact fun H locs ls hP hD hS hl => lv_istore C.1 C.2.1 hd hl hn he (fun ls' hl' => kk H locs ls' hP hD hS hl')
theorem v_lstore_n (C : Ok B E cc nL own fr lo) {k : Fin 4} {i : Nat} {x : Int64} {lv' : List (Nat × Value)} (hd : decode cc pc = .ok (.lstore_n k, 1)) (hi : (k : Nat) = i) (hn : i + 1 < nL) (he : (i, .long x) :: lv.filter (fun q => !(q.1 == i) && (!(q.1 == i + 1) && !(q.1 + 1 == i && q.2.category == 2))) = lv') (kk : V B E nL w (pc + 1) lv' st) : V B E nL w pc lv (.long x :: st) := by
  obtain ⟨p, l, e, R, s, m, args, below, meth, c, A, Z⟩ := E
  exact fun H locs ls hP hD hS hl => lv_lstore_n C.1 C.2.1 hd hi hl hn he (fun ls' hl' => kk H locs ls' hP hD hS hl')
theorem v_lstore (C : Ok B E cc nL own fr lo) {i : Nat} {x : Int64} {lv' : List (Nat × Value)} (hd : decode cc pc = .ok (.lstore i, 2)) (hn : i + 1 < nL) (he : (i, .long x) :: lv.filter (fun q => !(q.1 == i) && (!(q.1 == i + 1) && !(q.1 + 1 == i && q.2.category == 2))) = lv') (kk : V B E nL w (pc + 2) lv' st) : V B E nL w pc lv (.long x :: st) := by
  obtain ⟨p, l, e, R, s, m, args, below, meth, c, A, Z⟩ := E
  exact fun H locs ls hP hD hS hl => lv_lstore C.1 C.2.1 hd hl hn he (fun ls' hl' => kk H locs ls' hP hD hS hl')
theorem v_astore_n (C : Ok B E cc nL own fr lo) {k : Fin 4} {i : Nat} {x : Nat} {lv' : List (Nat × Value)} (hd : decode cc pc = .ok (.astore_n k, 1)) (hi : (k : Nat) = i) (hn : i < nL) (he : (i, .ref x) :: lv.filter (fun q => !(q.1 == i) && !(q.1 + 1 == i && q.2.category == 2)) = lv') (kk : V B E nL w (pc + 1) lv' st) : V B E nL w pc lv (.ref x :: st) := by
  obtain ⟨p, l, e, R, s, m, args, below, meth, c, A, Z⟩ := E
  exact fun H locs ls hP hD hS hl => lv_astore_n C.1 C.2.1 hd hi hl hn he (fun ls' hl' => kk H locs ls' hP hD hS hl')
theorem v_astore (C : Ok B E cc nL own fr lo) {i : Nat} {x : Nat} {lv' : List (Nat × Value)} (hd : decode cc pc = .ok (.astore i, 2)) (hn : i < nL) (he : (i, .ref x) :: lv.filter (fun q => !(q.1 == i) && !(q.1 + 1 == i && q.2.category == 2)) = lv') (kk : V B E nL w (pc + 2) lv' st) : V B E nL w pc lv (.ref x :: st) := by
  obtain ⟨p, l, e, R, s, m, args, below, meth, c, A, Z⟩ := E
  exact fun H locs ls hP hD hS hl => lv_astore C.1 C.2.1 hd hl hn he (fun ls' hl' => kk H locs ls' hP hD hS hl')
theorem v_astoreN_n (C : Ok B E cc nL own fr lo) {k : Fin 4} {i : Nat}  {lv' : List (Nat × Value)} (hd : decode cc pc = .ok (.astore_n k, 1)) (hi : (k : Nat) = i) (hn : i < nL) (he : (i, .null) :: lv.filter (fun q => !(q.1 == i) && !(q.1 + 1 == i && q.2.category == 2)) = lv') (kk : V B E nL w (pc + 1) lv' st) : V B E nL w pc lv (.null :: st) := by
  obtain ⟨p, l, e, R, s, m, args, below, meth, c, A, Z⟩ := E
  exact fun H locs ls hP hD hS hl => lv_astore_nN C.1 C.2.1 hd hi hl hn he (fun ls' hl' => kk H locs ls' hP hD hS hl')
theorem v_astoreN (C : Ok B E cc nL own fr lo) {i : Nat}  {lv' : List (Nat × Value)} (hd : decode cc pc = .ok (.astore i, 2)) (hn : i < nL) (he : (i, .null) :: lv.filter (fun q => !(q.1 == i) && !(q.1 + 1 == i && q.2.category == 2)) = lv') (kk : V B E nL w (pc + 2) lv' st) : V B E nL w pc lv (.null :: st) := by
  obtain ⟨p, l, e, R, s, m, args, below, meth, c, A, Z⟩ := E
  exact fun H locs ls hP hD hS hl => lv_astoreN C.1 C.2.1 hd hl hn he (fun ls' hl' => kk H locs ls' hP hD hS hl')
theorem v_iinc (C : Ok B E cc nL own fr lo) (q : Nat) {i : Nat} {n : Int} {x v : Int32} {lv' : List (Nat × Value)} (hd : decode cc pc = .ok (.iinc i n, 3)) (hq : lv[q]? = some (i, .int x)) (hv : x + Int32.ofInt n = v) (hn : i < nL) (he : (i, Value.int v) :: lv.filter (fun q => !(q.1 == i) && !(q.1 + 1 == i && q.2.category == 2)) = lv') (kk : V B E nL w (pc + 3) lv' st) : V B E nL w pc lv st := by
  obtain ⟨p, l, e, R, s, m, args, below, meth, c, A, Z⟩ := E
  exact fun H locs ls hP hD hS hl => lv_iinc C.1 C.2.1 hd hl hq hv hn he (fun ls' hl' => kk H locs ls' hP hD hS hl')
theorem v_if_eq (C : Ok B E cc nL own fr lo) {x : Int32} {off : Int} {tgt : Nat} (hd : decode cc pc = .ok (.ifCond .eq off, 3)) (ht : (pc : Int) + off = (tgt : Int)) (kt : x = 0 → V B E nL w tgt lv st) (kf : ¬ x = 0 → V B E nL w (pc + 3) lv st) : V B E nL w pc lv (.int x :: st) := by
  obtain ⟨p, l, e, R, s, m, args, below, meth, c, A, Z⟩ := E
  exact fun H locs ls hP hD hS hl => lv_if_eq C.1 C.2.1 hd ht (fun h => kt h H locs ls hP hD hS hl) (fun h => kf h H locs ls hP hD hS hl)
theorem v_icmp_eq (C : Ok B E cc nL own fr lo) {x y : Int32} {off : Int} {tgt : Nat} (hd : decode cc pc = .ok (.if_icmp .eq off, 3)) (ht : (pc : Int) + off = (tgt : Int)) (kt : x = y → V B E nL w tgt lv st) (kf : ¬ x = y → V B E nL w (pc + 3) lv st) : V B E nL w pc lv (.int y :: .int x :: st) := by
  obtain ⟨p, l, e, R, s, m, args, below, meth, c, A, Z⟩ := E
  exact fun H locs ls hP hD hS hl => lv_icmp_eq C.1 C.2.1 hd ht (fun h => kt h H locs ls hP hD hS hl) (fun h => kf h H locs ls hP hD hS hl)
theorem v_if_ne (C : Ok B E cc nL own fr lo) {x : Int32} {off : Int} {tgt : Nat} (hd : decode cc pc = .ok (.ifCond .ne off, 3)) (ht : (pc : Int) + off = (tgt : Int)) (kt : ¬ x = 0 → V B E nL w tgt lv st) (kf : x = 0 → V B E nL w (pc + 3) lv st) : V B E nL w pc lv (.int x :: st) := by
  obtain ⟨p, l, e, R, s, m, args, below, meth, c, A, Z⟩ := E
  exact fun H locs ls hP hD hS hl => lv_if_ne C.1 C.2.1 hd ht (fun h => kt h H locs ls hP hD hS hl) (fun h => kf h H locs ls hP hD hS hl)
theorem v_icmp_ne (C : Ok B E cc nL own fr lo) {x y : Int32} {off : Int} {tgt : Nat} (hd : decode cc pc = .ok (.if_icmp .ne off, 3)) (ht : (pc : Int) + off = (tgt : Int)) (kt : ¬ x = y → V B E nL w tgt lv st) (kf : x = y → V B E nL w (pc + 3) lv st) : V B E nL w pc lv (.int y :: .int x :: st) := by
  obtain ⟨p, l, e, R, s, m, args, below, meth, c, A, Z⟩ := E
  exact fun H locs ls hP hD hS hl => lv_icmp_ne C.1 C.2.1 hd ht (fun h => kt h H locs ls hP hD hS hl) (fun h => kf h H locs ls hP hD hS hl)
theorem v_if_lt (C : Ok B E cc nL own fr lo) {x : Int32} {off : Int} {tgt : Nat} (hd : decode cc pc = .ok (.ifCond .lt off, 3)) (ht : (pc : Int) + off = (tgt : Int)) (kt : x < 0 → V B E nL w tgt lv st) (kf : ¬ x < 0 → V B E nL w (pc + 3) lv st) : V B E nL w pc lv (.int x :: st) := by
  obtain ⟨p, l, e, R, s, m, args, below, meth, c, A, Z⟩ := E
  exact fun H locs ls hP hD hS hl => lv_if_lt C.1 C.2.1 hd ht (fun h => kt h H locs ls hP hD hS hl) (fun h => kf h H locs ls hP hD hS hl)
theorem v_icmp_lt (C : Ok B E cc nL own fr lo) {x y : Int32} {off : Int} {tgt : Nat} (hd : decode cc pc = .ok (.if_icmp .lt off, 3)) (ht : (pc : Int) + off = (tgt : Int)) (kt : x < y → V B E nL w tgt lv st) (kf : ¬ x < y → V B E nL w (pc + 3) lv st) : V B E nL w pc lv (.int y :: .int x :: st) := by
  obtain ⟨p, l, e, R, s, m, args, below, meth, c, A, Z⟩ := E
  exact fun H locs ls hP hD hS hl => lv_icmp_lt C.1 C.2.1 hd ht (fun h => kt h H locs ls hP hD hS hl) (fun h => kf h H locs ls hP hD hS hl)
theorem v_if_ge (C : Ok B E cc nL own fr lo) {x : Int32} {off : Int} {tgt : Nat} (hd : decode cc pc = .ok (.ifCond .ge off, 3)) (ht : (pc : Int) + off = (tgt : Int)) (kt : 0 ≤ x → V B E nL w tgt lv st) (kf : ¬ 0 ≤ x → V B E nL w (pc + 3) lv st) : V B E nL w pc lv (.int x :: st) := by
  obtain ⟨p, l, e, R, s, m, args, below, meth, c, A, Z⟩ := E
  exact fun H locs ls hP hD hS hl => lv_if_ge C.1 C.2.1 hd ht (fun h => kt h H locs ls hP hD hS hl) (fun h => kf h H locs ls hP hD hS hl)
theorem v_icmp_ge (C : Ok B E cc nL own fr lo) {x y : Int32} {off : Int} {tgt : Nat} (hd : decode cc pc = .ok (.if_icmp .ge off, 3)) (ht : (pc : Int) + off = (tgt : Int)) (kt : y ≤ x → V B E nL w tgt lv st) (kf : ¬ y ≤ x → V B E nL w (pc + 3) lv st) : V B E nL w pc lv (.int y :: .int x :: st) := by
  obtain ⟨p, l, e, R, s, m, args, below, meth, c, A, Z⟩ := E
  exact fun H locs ls hP hD hS hl => lv_icmp_ge C.1 C.2.1 hd ht (fun h => kt h H locs ls hP hD hS hl) (fun h => kf h H locs ls hP hD hS hl)
theorem v_if_gt (C : Ok B E cc nL own fr lo) {x : Int32} {off : Int} {tgt : Nat} (hd : decode cc pc = .ok (.ifCond .gt off, 3)) (ht : (pc : Int) + off = (tgt : Int)) (kt : 0 < x → V B E nL w tgt lv st) (kf : ¬ 0 < x → V B E nL w (pc + 3) lv st) : V B E nL w pc lv (.int x :: st) := by
  obtain ⟨p, l, e, R, s, m, args, below, meth, c, A, Z⟩ := E
  exact fun H locs ls hP hD hS hl => lv_if_gt C.1 C.2.1 hd ht (fun h => kt h H locs ls hP hD hS hl) (fun h => kf h H locs ls hP hD hS hl)
theorem v_icmp_gt (C : Ok B E cc nL own fr lo) {x y : Int32} {off : Int} {tgt : Nat} (hd : decode cc pc = .ok (.if_icmp .gt off, 3)) (ht : (pc : Int) + off = (tgt : Int)) (kt : y < x → V B E nL w tgt lv st) (kf : ¬ y < x → V B E nL w (pc + 3) lv st) : V B E nL w pc lv (.int y :: .int x :: st) := by
  obtain ⟨p, l, e, R, s, m, args, below, meth, c, A, Z⟩ := E
  exact fun H locs ls hP hD hS hl => lv_icmp_gt C.1 C.2.1 hd ht (fun h => kt h H locs ls hP hD hS hl) (fun h => kf h H locs ls hP hD hS hl)
theorem v_if_le (C : Ok B E cc nL own fr lo) {x : Int32} {off : Int} {tgt : Nat} (hd : decode cc pc = .ok (.ifCond .le off, 3)) (ht : (pc : Int) + off = (tgt : Int)) (kt : x ≤ 0 → V B E nL w tgt lv st) (kf : ¬ x ≤ 0 → V B E nL w (pc + 3) lv st) : V B E nL w pc lv (.int x :: st) := by
  obtain ⟨p, l, e, R, s, m, args, below, meth, c, A, Z⟩ := E
  exact fun H locs ls hP hD hS hl => lv_if_le C.1 C.2.1 hd ht (fun h => kt h H locs ls hP hD hS hl) (fun h => kf h H locs ls hP hD hS hl)
theorem v_icmp_le (C : Ok B E cc nL own fr lo) {x y : Int32} {off : Int} {tgt : Nat} (hd : decode cc pc = .ok (.if_icmp .le off, 3)) (ht : (pc : Int) + off = (tgt : Int)) (kt : x ≤ y → V B E nL w tgt lv st) (kf : ¬ x ≤ y → V B E nL w (pc + 3) lv st) : V B E nL w pc lv (.int y :: .int x :: st) := by
  obtain ⟨p, l, e, R, s, m, args, below, meth, c, A, Z⟩ := E
  exact fun H locs ls hP hD hS hl => lv_icmp_le C.1 C.2.1 hd ht (fun h => kt h H locs ls hP hD hS hl) (fun h => kf h H locs ls hP hD hS hl)
theorem v_goto (C : Ok B E cc nL own fr lo) {off : Int} {tgt : Nat} (hd : decode cc pc = .ok (.goto off, 3)) (ht : (pc : Int) + off = (tgt : Int)) (k : V B E nL w tgt lv st) : V B E nL w pc lv st := by
  obtain ⟨p, l, e, R, s, m, args, below, meth, c, A, Z⟩ := E
  exact fun H locs ls hP hD hS hl => lv_goto C.1 C.2.1 hd ht (k H locs ls hP hD hS hl)
theorem v_ifnull (C : Ok B E cc nL own fr lo) {x : Nat} {off : Int} (hd : decode cc pc = .ok (.ifnull off, 3)) (k : V B E nL w (pc + 3) lv st) : V B E nL w pc lv (.ref x :: st) := by
  obtain ⟨p, l, e, R, s, m, args, below, meth, c, A, Z⟩ := E
  exact fun H locs ls hP hD hS hl => lv_ifnull C.1 C.2.1 hd (k H locs ls hP hD hS hl)
theorem v_ifnullN (C : Ok B E cc nL own fr lo) {off : Int} {tgt : Nat} (hd : decode cc pc = .ok (.ifnull off, 3)) (ht : (pc : Int) + off = (tgt : Int)) (k : V B E nL w tgt lv st) : V B E nL w pc lv (.null :: st) := by
  obtain ⟨p, l, e, R, s, m, args, below, meth, c, A, Z⟩ := E
  exact fun H locs ls hP hD hS hl => lv_ifnullN C.1 C.2.1 hd ht (k H locs ls hP hD hS hl)
theorem v_ifnonnull (C : Ok B E cc nL own fr lo) {x : Nat} {off : Int} {tgt : Nat} (hd : decode cc pc = .ok (.ifnonnull off, 3)) (ht : (pc : Int) + off = (tgt : Int)) (k : V B E nL w tgt lv st) : V B E nL w pc lv (.ref x :: st) := by
  obtain ⟨p, l, e, R, s, m, args, below, meth, c, A, Z⟩ := E
  exact fun H locs ls hP hD hS hl => lv_ifnonnull C.1 C.2.1 hd ht (k H locs ls hP hD hS hl)
theorem v_ifnonnullN (C : Ok B E cc nL own fr lo) {off : Int} (hd : decode cc pc = .ok (.ifnonnull off, 3)) (k : V B E nL w (pc + 3) lv st) : V B E nL w pc lv (.null :: st) := by
  obtain ⟨p, l, e, R, s, m, args, below, meth, c, A, Z⟩ := E
  exact fun H locs ls hP hD hS hl => lv_ifnonnullN C.1 C.2.1 hd (k H locs ls hP hD hS hl)
theorem v_ldc (C : Ok B E cc nL own fr lo) {index : Nat} {v : Int32} (hw : Cond.constant own index v ∈ lw_gd) (hd : decode cc pc = .ok (.ldc index, 2)) (k : V B E nL w (pc + 2) lv (.int v :: st)) : V B E nL w pc lv st := by
  obtain ⟨p, l, e, R, s, m, args, below, meth, c, A, Z⟩ := E
  exact fun H locs ls hP hD hS hl => lv_ldc C.1 C.2.1 C.2.2.2.1 (C.2.2.2.2.1 _ hw) hd (k H locs ls hP hD hS hl)
theorem v_ldcw (C : Ok B E cc nL own fr lo) {index : Nat} {v : Int32} (hw : Cond.constant own index v ∈ lw_gd) (hd : decode cc pc = .ok (.ldc_w index, 3)) (k : V B E nL w (pc + 3) lv (.int v :: st)) : V B E nL w pc lv st := by
  obtain ⟨p, l, e, R, s, m, args, below, meth, c, A, Z⟩ := E
  exact fun H locs ls hP hD hS hl => lv_ldcw C.1 C.2.1 C.2.2.2.1 (C.2.2.2.2.1 _ hw) hd (k H locs ls hP hD hS hl)
theorem v_ldc2 (C : Ok B E cc nL own fr lo) {index : Nat} {v : Int64} (hw : Cond.constantLong own index v ∈ lw_gd) (hd : decode cc pc = .ok (.ldc2_w index, 3)) (k : V B E nL w (pc + 3) lv (.long v :: st)) : V B E nL w pc lv st := by
  obtain ⟨p, l, e, R, s, m, args, below, meth, c, A, Z⟩ := E
  exact fun H locs ls hP hD hS hl => lv_ldc2 C.1 C.2.1 C.2.2.2.1 (C.2.2.2.2.1 _ hw) hd (k H locs ls hP hD hS hl)
theorem v_ldcS (C : Ok B E cc nL own fr lo) (i : Nat) {index : Nat} {tx : String} {bs : List Int32} (hs : sWho[i]? = some (own, index, tx, bs)) (hd : decode cc pc = .ok (.ldc index, 2)) (k : V B E nL w (pc + 2) lv (.ref (B.2.2.1 i) :: st)) : V B E nL w pc lv st := by
  obtain ⟨p, l, e, R, s, m, args, below, meth, c, A, Z⟩ := E
  obtain ⟨h1, h2, h3, h4, h5, h6, h7, h8, h9, h10, h11⟩ := C
  exact fun H locs ls hP hD hS hl => va_ldcS h1 h2 h4 (h11.2 i _ hs) hd (k H locs ls hP hD hS hl)
theorem v_table (C : Ok B E cc nL own fr lo) {dflt lo' hi : Int} {offs : Array Int} {len : Nat} {x : Int32} (hd : decode cc pc = .ok (.tableswitch dflt lo' hi offs, len)) (kin : ∀ (off : Int) (tgt : Nat), ¬ x.toInt < lo' → ¬ hi < x.toInt → offs[(x.toInt - lo').toNat]? = some off → (pc : Int) + off = (tgt : Int) → V B E nL w tgt lv st) (hoff : ∀ j : Nat, j < (hi - lo' + 1).toNat → ∃ (off : Int) (tgt : Nat), offs[j]? = some off ∧ (pc : Int) + off = (tgt : Int)) {tgt : Nat} (ht : (pc : Int) + dflt = (tgt : Int)) (kout : x.toInt < lo' ∨ hi < x.toInt → V B E nL w tgt lv st) : V B E nL w pc lv (.int x :: st) := by
  obtain ⟨p, l, e, R, s, m, args, below, meth, c, A, Z⟩ := E
  intro H locs ls hP hD hS hl
  by_cases h1 : x.toInt < lo'
  · exact lv_tableOut C.1 C.2.1 hd (Or.inl h1) ht (kout (Or.inl h1) H locs ls hP hD hS hl)
  · by_cases h2 : hi < x.toInt
    · exact lv_tableOut C.1 C.2.1 hd (Or.inr h2) ht (kout (Or.inr h2) H locs ls hP hD hS hl)
    · obtain ⟨off, tgt, e1, e2⟩ := hoff (x.toInt - lo').toNat (by omega)
      exact lv_tableIn C.1 C.2.1 hd h1 h2 e1 e2 (kin off tgt h1 h2 e1 e2 H locs ls hP hD hS hl)

variable {n : Nat} {a : Nat → Nat} {sh : Nat → (Nat → Int32) → va_E} {M : S0}
/-- a field read: of cell k, the slot j -/
theorem v_get (C : Ok B E cc nL own fr lo) {Cn : String} {T : u_T} {N ci index : Nat} (hin : ∀ w ∈ u_ws Cn T N, w ∈ lw_gd) (hc : cls7[ci]? = some (Cn, T, N)) (j : Nat) (hj : j < N) (hlink : Cond.fieldLink own index (T j).1 (T j).2.1 (T j).2.2.1 ∈ lw_gd) {k : Nat} (hk : k < n) {fl : (Nat → Int32) → List Value} (hs : sh k (M k) = .inr (ci, fl (M k))) {v : Value} (hv : (fl (M k))[j]? = some v) (hd : decode cc pc = .ok (.getfield index, 3)) (kk : V B E nL (wl n a sh M) (pc + 3) lv (v :: st)) : V B E nL (wl n a sh M) pc lv (.ref (a k) :: st) := by
  obtain ⟨p, l, e, R, s, m, args, below, meth, c, A, Z⟩ := E
  obtain ⟨h1, h2, h3, h4, h5, h6, h7, h8, h9, h10, h11⟩ := C
  exact fun H locs ls hP hD hS hl => va_get h1 h2 h5 hin h4 h6 hP k (by rw [wl_get hk, hs]) hc j hj (h5 _ hlink) (fun _ h => h) hv hd (kk H locs ls hP hD hS hl)
/-- a field written, of a type of ints -/
theorem v_put (C : Ok B E cc nL own fr lo) {Cn : String} {T : u_T} {N ci index : Nat} (hin : ∀ w ∈ u_ws Cn T N, w ∈ lw_gd) (ty0 : Nat → FieldType) (hty : ∀ k, k < N → parseFieldDescriptor (T k).2.2.1 = some (ty0 k)) (hnm : ∀ a, a < N → ∀ b, b < N → a ≠ b → (T a).2.1 ≠ (T b).2.1) (hc : cls7[ci]? = some (Cn, T, N)) (j : Nat) (hj : j < N) (hfin : (T j).2.2.2 = false) (hlink : Cond.fieldLink own index (T j).1 (T j).2.1 (T j).2.2.1 ∈ lw_gd) {k : Nat} (hk : k < n) {fl : (Nat → Int32) → List Value} (hs : ∀ r, sh k r = .inr (ci, fl r)) {v : Value} {M1 : S0} {r1 : Nat → Int32} (hset : (fl (M k)).set j v = fl r1) (hM1 : M1 = upR M k r1) {ty : FieldType} (hdesc : parseFieldDescriptor (T j).2.2.1 = some ty) (hn : narrow ty v = v) (hfit : fits ty v = true) (hl0 : j < (fl (M k)).length) (hd : decode cc pc = .ok (.putfield index, 3)) (kk : V B E nL (wl n a sh M1) (pc + 3) lv st) : V B E nL (wl n a sh M) pc lv (v :: .ref (a k) :: st) := by
  obtain ⟨p, l, e, R, s, m, args, below, meth, c, A, Z⟩ := E
  obtain ⟨h1, h2, h3, h4, h5, h6, h7, h8, h9, h10, h11⟩ := C
  intro H locs ls hP hD hS hl
  refine va_put h1 h2 h5 hin ty0 hty hnm h4 h6 hP hD hS k (by rw [wl_get hk, hs]) hc j hj (h5 _ hlink) (fun _ h => h) hfin hdesc hn hfit hl0 hd (fun H1 locs1 hP1 hD1 hS1 => ?_)
  rw [hset, ← hs, wl_setR, ← hM1] at hP1 hD1
  exact kk H1 locs1 ls hP1 hD1 hS1 hl
theorem v_iald (C : Ok B E cc nL own fr lo) {k len : Nat} {i : Int32} (hk : k < n) (hs : sh k (M k) = .inl (B.2.1 0, len, .inl (M k))) (hi : vp_in i len) (hd : decode cc pc = .ok (.iaload, 1)) (kk : V B E nL (wl n a sh M) (pc + 1) lv (.int (M k i.toNatClampNeg) :: st)) : V B E nL (wl n a sh M) pc lv (.int i :: .ref (a k) :: st) := by
  obtain ⟨p, l, e, R, s, m, args, below, meth, c, A, Z⟩ := E
  obtain ⟨h1, h2, h3, h4, h5, h6, h7, h8, h9, h10, h11⟩ := C
  exact fun H locs ls hP hD hS hl => va_iald h1 h2 h6 hP k 0 (by rw [wl_get hk, hs]) rfl hi hd (kk H locs ls hP hD hS hl)
theorem v_zald (C : Ok B E cc nL own fr lo) {k len : Nat} {i : Int32} (hk : k < n) (hs : sh k (M k) = .inl (B.2.1 1, len, .inl (M k))) (hi : vp_in i len) (hd : decode cc pc = .ok (.baload, 1)) (kk : V B E nL (wl n a sh M) (pc + 1) lv (.int (M k i.toNatClampNeg) :: st)) : V B E nL (wl n a sh M) pc lv (.int i :: .ref (a k) :: st) := by
  obtain ⟨p, l, e, R, s, m, args, below, meth, c, A, Z⟩ := E
  obtain ⟨h1, h2, h3, h4, h5, h6, h7, h8, h9, h10, h11⟩ := C
  exact fun H locs ls hP hD hS hl => va_zald h1 h2 h6 hP k 1 (by rw [wl_get hk, hs]) rfl hi hd (kk H locs ls hP hD hS hl)
theorem v_iast (C : Ok B E cc nL own fr lo) {k len : Nat} {i x : Int32} (hk : k < n) (hs : ∀ r, sh k r = .inl (B.2.1 0, len, .inl r)) (hi : vp_in i len) (hd : decode cc pc = .ok (.iastore, 1)) (kk : V B E nL (wl n a sh (up M k i.toNatClampNeg x)) (pc + 1) lv st) : V B E nL (wl n a sh M) pc lv (.int x :: .int i :: .ref (a k) :: st) := by
  obtain ⟨p, l, e, R, s, m, args, below, meth, c, A, Z⟩ := E
  obtain ⟨h1, h2, h3, h4, h5, h6, h7, h8, h9, h10, h11⟩ := C
  intro H locs ls hP hD hS hl
  refine va_iast h1 h2 h6 hP hD hS k 0 (by rw [wl_get hk, hs]) rfl hi hd (fun H1 locs1 hP1 hD1 hS1 => ?_)
  rw [← hs, wl_set] at hP1 hD1
  exact kk H1 locs1 ls hP1 hD1 hS1 hl
theorem v_zast (C : Ok B E cc nL own fr lo) {k len : Nat} {i x : Int32} (hk : k < n) (hs : ∀ r, sh k r = .inl (B.2.1 1, len, .inl r)) (hi : vp_in i len) (hx : vp_nar .boolean x = x) (hd : decode cc pc = .ok (.bastore, 1)) (kk : V B E nL (wl n a sh (up M k i.toNatClampNeg x)) (pc + 1) lv st) : V B E nL (wl n a sh M) pc lv (.int x :: .int i :: .ref (a k) :: st) := by
  obtain ⟨p, l, e, R, s, m, args, below, meth, c, A, Z⟩ := E
  obtain ⟨h1, h2, h3, h4, h5, h6, h7, h8, h9, h10, h11⟩ := C
  intro H locs ls hP hD hS hl
  refine va_zast h1 h2 h6 hP hD hS k 1 (by rw [wl_get hk, hs]) rfl hi hd (fun H1 locs1 hP1 hD1 hS1 => ?_)
  rw [hx, ← hs, wl_set] at hP1 hD1
  exact kk H1 locs1 ls hP1 hD1 hS1 hl
theorem v_alen (C : Ok B E cc nL own fr lo) {k t : Nat} {cA : ClassId} {x : vp_A} (hk : k < n) (hs : sh k (M k) = .inl (cA, x)) {ty : FieldType} (ht : (tyk B.2.1)[t]? = some (cA, ty)) {v : Int32} (hv : Int32.ofNat x.1 = v) (hd : decode cc pc = .ok (.arraylength, 1)) (kk : V B E nL (wl n a sh M) (pc + 1) lv (.int v :: st)) : V B E nL (wl n a sh M) pc lv (.ref (a k) :: st) := by
  obtain ⟨p, l, e, R, s, m, args, below, meth, c, A, Z⟩ := E
  obtain ⟨h1, h2, h3, h4, h5, h6, h7, h8, h9, h10, h11⟩ := C
  exact fun H locs ls hP hD hS hl => va_alen h1 h2 h6 hP k t (by rw [wl_get hk, hs]) ht hv hd (kk H locs ls hP hD hS hl)
theorem v_aald (C : Ok B E cc nL own fr lo) {k len t : Nat} {cA : ClassId} {Cn : String} {i : Int32} {f : Nat → Option Nat} (hk : k < n) (hs : sh k (M k) = .inl (cA, len, .inr (.inr (.inr (.inr f))))) (ht : (tyk B.2.1)[t]? = some (cA, .object Cn)) (hi : vp_in i len) {v : Value} (hv : va_rf (f i.toNatClampNeg) = v) (hd : decode cc pc = .ok (.aaload, 1)) (kk : V B E nL (wl n a sh M) (pc + 1) lv (v :: st)) : V B E nL (wl n a sh M) pc lv (.int i :: .ref (a k) :: st) := by
  obtain ⟨p, l, e, R, s, m, args, below, meth, c, A, Z⟩ := E
  obtain ⟨h1, h2, h3, h4, h5, h6, h7, h8, h9, h10, h11⟩ := C
  exact fun H locs ls hP hD hS hl => va_aldq h1 h2 h6 hP k t (by rw [wl_get hk, hs]) ht hi hd (by rw [hv]; exact kk H locs ls hP hD hS hl)
/-- what a call gives: the callee's end, in this frame -/
theorem wl_free {A : Nat → Prop} {s : State} {H : Heap} {locs : List Loc} {w : va_W} (hD : va_D A w) (hS : va_S A s.heap H locs) (hA : ∀ q, s.heap.size ≤ q → A q) : ∀ q, va_A w H.size q → A q := by
  rintro q (⟨k, e, h⟩ | h)
  · exact hD.2 k (q, e) h
  · exact hA q (Nat.le_trans hS.1 h)
theorem lw_good (y : MethodName) (b : ByteArray) (n : Nat) (r : Option FieldType) (pre : List Cond) (hpre : ∀ w ∈ pre, w ∈ lw_gd) (hc : Cond.code y b n r ∈ lw_gd) : GoodIn lw_gd (pre ++ (Cond.code y b n r :: lw_gd)) := by
  intro w hw
  have hm : w ∈ lw_gd := by
    rcases List.mem_append.mp hw with h | h
    · exact hpre w h
    · rcases List.mem_cons.mp h with h | h
      · rw [h]; exact hc
      · exact h
  exact ⟨hm, good_of_word (List.all_eq_true.mp lw_allGood w hm)⟩
def WV (own : String) (idx : Nat) (Cn : String) (y : MethodName) : Prop := Cond.methodLink own idx y ∈ lw_gd ∧ Cond.instanceMethod y ∈ lw_gd ∧ Cond.selects Cn y y ∈ lw_gd ∧ Cond.initialized Cn ∈ lw_gd
theorem WV.all {own : String} {idx : Nat} {Cn : String} {y : MethodName} (h : WV own idx Cn y) : ∀ w ∈ ([.methodLink own idx y, .instanceMethod y, .selects Cn y y, .initialized Cn] : List Cond), w ∈ lw_gd := by
  intro w hw
  simp only [List.mem_cons, List.not_mem_nil, or_false] at hw
  rcases hw with rfl | rfl | rfl | rfl
  · exact h.1
  · exact h.2.1
  · exact h.2.2.1
  · exact h.2.2.2
def WS (own : String) (idx : Nat) (y : MethodName) : Prop := Cond.methodLink own idx y ∈ lw_gd ∧ Cond.static y ∈ lw_gd ∧ Cond.initialized y.cls ∈ lw_gd
def WSN (own : String) (idx : Nat) (y : MethodName) (host : String) : Prop := Cond.methodLinkNest own idx y host ∈ lw_gd ∧ Cond.static y ∈ lw_gd ∧ Cond.initialized y.cls ∈ lw_gd
end VROWS
end
section
/-! entries and calls for V -/
section VCALL
variable {B : BX} {E : EX} {cc : ByteArray} {nL : Nat} {own : String} {fr lo : Nat} {w : va_W} {pc : Nat} {lv : List (Nat × Value)} {st : List Value}
variable {n : Nat} {a : Nat → Nat} {sh : Nat → (Nat → Int32) → va_E} {M : S0}

theorem KI_of {wf : S0 → va_W} {y : MethodName} {maxL : Nat} {av : List Value} {Q : Int32 → S0 → Prop} (hy : plainName y.cls = true) (hlv : (lg_sl av).length ≤ maxL) (body : ∀ E : EX, Ok B E cc maxL y.cls fr lo → RetI B E cc maxL wf Q → V B E maxL (wf M) 0 (lv_args 0 av) []) : KI B wf y cc maxL (some .int) fr lo av M Q := by
  intro l sz
  refine Met.ofW (cc := cc) (maxL := maxL) (ret := some .int) hy rfl ?_
  intro p e s m args below meth c s₁ BL hml hv
  obtain ⟨rfl, hsz, hP, hK, hD0, hSF⟩ := hv
  have hts : ∀ w ∈ lw_gd, w.before av.toArray s = true := fun w hw => atoms_spec (ws := Cond.code y cc maxL (some .int) :: lw_gd) BL.pre w (List.mem_cons_of_mem _ hw)
  have hown : s.vm.findClass y.cls = some m.cls := findClass_of_methodNamed BL.named
  subst hsz
  have hD := hD0.self (sz := s.heap.size)
  have hl := lv_entry av (n := maxL) hlv
  rw [lg_entry_eq]
  have hlocks := BL.notSynchronized
  have C : Ok B (p, l, e, (headSpec (Cond.code y cc maxL (some .int) :: lw_gd) (rmm fr lo)).room, s, m, av.toArray, below, meth, c, va_A (wf M) s.heap.size, MQ below (va_Qi Q (fun M1 t => Bw B (va_A (wf M) s.heap.size) (wf M1) t) (va_A (wf M) s.heap.size)) av.toArray s 0 0 (va_A (wf M) s.heap.size)) cc maxL y.cls fr lo := ⟨BL.exec, BL.bytes, hml, hown, hts, hK, fun q h => Or.inr h, hlocks, Nat.le_refl _, Nat.le_refl _, hSF⟩
  refine body _ C ?_ s.heap [] _ hP hD va_S.rf hl
  intro v M1 pc lv hq hd H locs ls hP1 hD1 hS1 hl1
  exact W.iret BL.exec BL.bytes BL.returns (fun t ht hW => ⟨⟨v, M1, rfl, hq, by rw [ht]; exact hP1, va_K.moved hW.alike hK, hD1⟩, hS1.F ht⟩) hS1.2.2 hd

theorem KZ_of {wf : S0 → va_W} {y : MethodName} {maxL : Nat} {ty : FieldType} {av : List Value} {Q : Int32 → S0 → Prop} (hy : plainName y.cls = true) (hlv : (lg_sl av).length ≤ maxL) (body : ∀ E : EX, Ok B E cc maxL y.cls fr lo → RetZ B E cc maxL wf ty Q → V B E maxL (wf M) 0 (lv_args 0 av) []) : KI B wf y cc maxL (some ty) fr lo av M Q := by
  intro l sz
  refine Met.ofW (cc := cc) (maxL := maxL) (ret := some ty) hy rfl ?_
  intro p e s m args below meth c s₁ BL hml hv
  obtain ⟨rfl, hsz, hP, hK, hD0, hSF⟩ := hv
  have hts : ∀ w ∈ lw_gd, w.before av.toArray s = true := fun w hw => atoms_spec (ws := Cond.code y cc maxL (some ty) :: lw_gd) BL.pre w (List.mem_cons_of_mem _ hw)
  have hown : s.vm.findClass y.cls = some m.cls := findClass_of_methodNamed BL.named
  subst hsz
  have hD := hD0.self (sz := s.heap.size)
  have hl := lv_entry av (n := maxL) hlv
  rw [lg_entry_eq]
  have hlocks := BL.notSynchronized
  have C : Ok B (p, l, e, (headSpec (Cond.code y cc maxL (some ty) :: lw_gd) (rmm fr lo)).room, s, m, av.toArray, below, meth, c, va_A (wf M) s.heap.size, MQ below (va_Qi Q (fun M1 t => Bw B (va_A (wf M) s.heap.size) (wf M1) t) (va_A (wf M) s.heap.size)) av.toArray s 0 0 (va_A (wf M) s.heap.size)) cc maxL y.cls fr lo := ⟨BL.exec, BL.bytes, hml, hown, hts, hK, fun q h => Or.inr h, hlocks, Nat.le_refl _, Nat.le_refl _, hSF⟩
  refine body _ C ?_ s.heap [] _ hP hD va_S.rf hl
  intro v M1 pc lv hn hq hd H locs ls hP1 hD1 hS1 hl1
  exact W.zret BL.exec BL.bytes BL.returns hn (fun t ht hW => ⟨⟨v, M1, rfl, hq, by rw [ht]; exact hP1, va_K.moved hW.alike hK, hD1⟩, hS1.F ht⟩) hS1.2.2 hd

theorem KL_of {wf : S0 → va_W} {y : MethodName} {maxL : Nat} {av : List Value} {Q : Int64 → S0 → Prop} (hy : plainName y.cls = true) (hlv : (lg_sl av).length ≤ maxL) (body : ∀ E : EX, Ok B E cc maxL y.cls fr lo → RetL B E cc maxL wf Q → V B E maxL (wf M) 0 (lv_args 0 av) []) : KL B wf y cc maxL (some .long) fr lo av M Q := by
  intro l sz
  refine Met.ofW (cc := cc) (maxL := maxL) (ret := some .long) hy rfl ?_
  intro p e s m args below meth c s₁ BL hml hv
  obtain ⟨rfl, hsz, hP, hK, hD0, hSF⟩ := hv
  have hts : ∀ w ∈ lw_gd, w.before av.toArray s = true := fun w hw => atoms_spec (ws := Cond.code y cc maxL (some .long) :: lw_gd) BL.pre w (List.mem_cons_of_mem _ hw)
  have hown : s.vm.findClass y.cls = some m.cls := findClass_of_methodNamed BL.named
  subst hsz
  have hD := hD0.self (sz := s.heap.size)
  have hl := lv_entry av (n := maxL) hlv
  rw [lg_entry_eq]
  have hlocks := BL.notSynchronized
  have C : Ok B (p, l, e, (headSpec (Cond.code y cc maxL (some .long) :: lw_gd) (rmm fr lo)).room, s, m, av.toArray, below, meth, c, va_A (wf M) s.heap.size, MQ below (va_Ql Q (fun M1 t => Bw B (va_A (wf M) s.heap.size) (wf M1) t) (va_A (wf M) s.heap.size)) av.toArray s 0 0 (va_A (wf M) s.heap.size)) cc maxL y.cls fr lo := ⟨BL.exec, BL.bytes, hml, hown, hts, hK, fun q h => Or.inr h, hlocks, Nat.le_refl _, Nat.le_refl _, hSF⟩
  refine body _ C ?_ s.heap [] _ hP hD va_S.rf hl
  intro v M1 pc lv hq hd H locs ls hP1 hD1 hS1 hl1
  exact W.lret BL.exec BL.bytes BL.returns (fun t ht hW => ⟨⟨v, M1, rfl, hq, by rw [ht]; exact hP1, va_K.moved hW.alike hK, hD1⟩, hS1.F ht⟩) hS1.2.2 hd

theorem KV_of {wf : S0 → va_W} {y : MethodName} {maxL : Nat} {av : List Value} {Q : S0 → Prop} (hy : plainName y.cls = true) (hlv : (lg_sl av).length ≤ maxL) (body : ∀ E : EX, Ok B E cc maxL y.cls fr lo → RetV B E cc maxL wf Q → V B E maxL (wf M) 0 (lv_args 0 av) []) : KV B wf y cc maxL none fr lo av M Q := by
  intro l sz
  refine Met.ofW (cc := cc) (maxL := maxL) (ret := none) hy rfl ?_
  intro p e s m args below meth c s₁ BL hml hv
  obtain ⟨rfl, hsz, hP, hK, hD0, hSF⟩ := hv
  have hts : ∀ w ∈ lw_gd, w.before av.toArray s = true := fun w hw => atoms_spec (ws := Cond.code y cc maxL (none) :: lw_gd) BL.pre w (List.mem_cons_of_mem _ hw)
  have hown : s.vm.findClass y.cls = some m.cls := findClass_of_methodNamed BL.named
  subst hsz
  have hD := hD0.self (sz := s.heap.size)
  have hl := lv_entry av (n := maxL) hlv
  rw [lg_entry_eq]
  have hlocks := BL.notSynchronized
  have C : Ok B (p, l, e, (headSpec (Cond.code y cc maxL (none) :: lw_gd) (rmm fr lo)).room, s, m, av.toArray, below, meth, c, va_A (wf M) s.heap.size, MQ below (va_Qv Q (fun M1 t => Bw B (va_A (wf M) s.heap.size) (wf M1) t) (va_A (wf M) s.heap.size)) av.toArray s 0 0 (va_A (wf M) s.heap.size)) cc maxL y.cls fr lo := ⟨BL.exec, BL.bytes, hml, hown, hts, hK, fun q h => Or.inr h, hlocks, Nat.le_refl _, Nat.le_refl _, hSF⟩
  refine body _ C ?_ s.heap [] _ hP hD va_S.rf hl
  intro M1 pc lv hq hd H locs ls hP1 hD1 hS1 hl1
  exact W.vret BL.exec BL.bytes BL.returns (fun t ht hW => ⟨⟨M1, rfl, hq, by rw [ht]; exact hP1, va_K.moved hW.alike hK, hD1⟩, hS1.F ht⟩) hS1.2.2 hd

theorem KA_of {wf : S0 → va_W} {y : MethodName} {maxL : Nat} {rt : FieldType} {av : List Value} {Q : Option Nat → S0 → Prop} (hy : plainName y.cls = true) (hlv : (lg_sl av).length ≤ maxL) (body : ∀ E : EX, Ok B E cc maxL y.cls fr lo → RetA B E cc maxL wf a Q → V B E maxL (wf M) 0 (lv_args 0 av) []) : ((∃ n, rt = .object n) ∨ ∃ t, rt = .array t) → KA B wf a y cc maxL (some rt) fr lo av M Q := by
  intro hrt l sz
  refine Met.ofW (cc := cc) (maxL := maxL) (ret := some rt) hy rfl ?_
  intro p e s m args below meth c s₁ BL hml hv
  obtain ⟨rfl, hsz, hP, hK, hD0, hSF⟩ := hv
  have hts : ∀ w ∈ lw_gd, w.before av.toArray s = true := fun w hw => atoms_spec (ws := Cond.code y cc maxL (some rt) :: lw_gd) BL.pre w (List.mem_cons_of_mem _ hw)
  have hown : s.vm.findClass y.cls = some m.cls := findClass_of_methodNamed BL.named
  subst hsz
  have hD := hD0.self (sz := s.heap.size)
  have hl := lv_entry av (n := maxL) hlv
  rw [lg_entry_eq]
  have hlocks := BL.notSynchronized
  have C : Ok B (p, l, e, (headSpec (Cond.code y cc maxL (some rt) :: lw_gd) (rmm fr lo)).room, s, m, av.toArray, below, meth, c, va_A (wf M) s.heap.size, MQ below (va_Qq (fun r M1 => ∃ o : Option Nat, r = o.map a ∧ Q o M1) (fun M1 t => Bw B (va_A (wf M) s.heap.size) (wf M1) t) (va_A (wf M) s.heap.size)) av.toArray s 0 0 (va_A (wf M) s.heap.size)) cc maxL y.cls fr lo := ⟨BL.exec, BL.bytes, hml, hown, hts, hK, fun q h => Or.inr h, hlocks, Nat.le_refl _, Nat.le_refl _, hSF⟩
  refine body _ C ?_ s.heap [] _ hP hD va_S.rf hl
  intro o v M1 pc lv hv hq hd H locs ls hP1 hD1 hS1 hl1
  subst hv
  exact W.aret BL.exec BL.bytes BL.returns hrt (va_rf_or _) (fun t ht hW => ⟨⟨o.map a, M1, rfl, ⟨o, rfl, hq⟩, by rw [ht]; exact hP1, va_K.moved hW.alike hK, hD1⟩, hS1.F ht⟩) hS1.2.2 hd

/-- what the tables say of a call -/
def CWV (own : String) (idx : Nat) (y : MethodName) (b : ByteArray) (mL : Nat) (ret : Option FieldType) (np : Nat) : Prop := Cond.methodLink own idx y ∈ lw_gd ∧ Cond.instanceMethod y ∈ lw_gd ∧ Cond.selects y.cls y y ∈ lw_gd ∧ Cond.initialized y.cls ∈ lw_gd ∧ Cond.code y b mL ret ∈ lw_gd ∧ y.cls ≠ "java/lang/invoke/MethodHandle" ∧ y.cls ≠ "java/lang/invoke/VarHandle" ∧ (parseMethodDescriptor y.desc).map (fun d => d.parameters.length) = some np
def CWS (own : String) (idx : Nat) (y : MethodName) (b : ByteArray) (mL : Nat) (ret : Option FieldType) (np : Nat) : Prop := Cond.methodLink own idx y ∈ lw_gd ∧ Cond.static y ∈ lw_gd ∧ Cond.initialized y.cls ∈ lw_gd ∧ Cond.code y b mL ret ∈ lw_gd ∧ y.cls ≠ "java/lang/invoke/MethodHandle" ∧ y.cls ≠ "java/lang/invoke/VarHandle" ∧ (parseMethodDescriptor y.desc).map (fun d => d.parameters.length) = some np
def CWSN (own : String) (idx : Nat) (y : MethodName) (host : String) (b : ByteArray) (mL : Nat) (ret : Option FieldType) (np : Nat) : Prop := Cond.methodLinkNest own idx y host ∈ lw_gd ∧ Cond.static y ∈ lw_gd ∧ Cond.initialized y.cls ∈ lw_gd ∧ Cond.code y b mL ret ∈ lw_gd ∧ y.cls ≠ "java/lang/invoke/MethodHandle" ∧ y.cls ≠ "java/lang/invoke/VarHandle" ∧ (parseMethodDescriptor y.desc).map (fun d => d.parameters.length) = some np
theorem CWV.cw {y : MethodName} {b : ByteArray} {mL np idx : Nat} {ret : Option FieldType} {s : State} {args : Array Value} {R : Room} {fr' lo' : Nat} (h : CWV own idx y b mL ret np) (hts : ∀ w ∈ lw_gd, w.before args s = true) (hf : fr' + 1 ≤ fr) (hl : 8 + (mL + 11) + lo' ≤ lo) (h9 : fr ≤ R.frames) (h10 : lo ≤ R.locals) : CallW R s args own y.cls idx y b mL ret (Cond.code y b mL ret :: lw_gd) (rmm fr' lo') 0 0 np := by
  obtain ⟨g1, g2, g3, g4, g5, g6, g7, g8⟩ := h
  exact cwV np hts (lw_good y b mL ret [.methodLink own idx y, .instanceMethod y, .selects y.cls y y, .initialized y.cls] (WV.all ⟨g1, g2, g3, g4⟩) g5) rfl rfl rfl ⟨rfl, g6, g7, g8⟩ ⟨Nat.le_trans hf h9, Nat.le_trans hl h10⟩
theorem CWS.cw {y : MethodName} {b : ByteArray} {mL np idx : Nat} {ret : Option FieldType} {s : State} {args : Array Value} {R : Room} {fr' lo' : Nat} (h : CWS own idx y b mL ret np) (hts : ∀ w ∈ lw_gd, w.before args s = true) (hf : fr' + 1 ≤ fr) (hl : 8 + (mL + 11) + lo' ≤ lo) (h9 : fr ≤ R.frames) (h10 : lo ≤ R.locals) : CallB R s args own idx y b mL ret (Cond.code y b mL ret :: lw_gd) (rmm fr' lo') 0 0 np ∧ (Cond.static y).before args s = true := by
  obtain ⟨g1, g2, g4, g5, g6, g7, g8⟩ := h
  refine va_cwS np hts (lw_good y b mL ret [.methodLink own idx y, .static y, .initialized y.cls] ?_ g5) rfl rfl rfl ⟨g6, g7, g8⟩ ⟨Nat.le_trans hf h9, Nat.le_trans hl h10⟩
  intro w hw
  simp only [List.mem_cons, List.not_mem_nil, or_false] at hw
  rcases hw with rfl | rfl | rfl
  · exact g1
  · exact g2
  · exact g4
theorem CWSN.cw {y : MethodName} {b : ByteArray} {mL np idx : Nat} {host : String} {ret : Option FieldType} {s : State} {args : Array Value} {R : Room} {fr' lo' : Nat} (h : CWSN own idx y host b mL ret np) (hts : ∀ w ∈ lw_gd, w.before args s = true) (hf : fr' + 1 ≤ fr) (hl : 8 + (mL + 11) + lo' ≤ lo) (h9 : fr ≤ R.frames) (h10 : lo ≤ R.locals) : va_CN R s args own idx y host b mL ret (Cond.code y b mL ret :: lw_gd) (rmm fr' lo') 0 0 np ∧ (Cond.static y).before args s = true ∧ True := by
  obtain ⟨g1, g2, g4, g5, g6, g7, g8⟩ := h
  exact ⟨va_cnB np hts (lw_good y b mL ret [] (fun _ h => absurd h List.not_mem_nil) g5) rfl rfl rfl (va_Nw.of rfl (hts _ g1)) (hts _ g4) ⟨g6, g7, g8⟩ ⟨Nat.le_trans hf h9, Nat.le_trans hl h10⟩, hts _ g2, trivial⟩
theorem Pw_at {A : Nat → Prop} {s : State} {H : Heap} {locs : List Loc} (hP : va_P B.1 cls7 w H) (hD : va_D A w) (hS : va_S A s.heap H locs) (hA : ∀ q, s.heap.size ≤ q → A q) (hK : va_K B.1 cls7 (tyk B.2.1) s) (hSF : SF B A s s.heap) : ∀ U : State, U.heap = H → s.WarmedH U.vm → Pw B w H.size U := by
  intro U hU hW
  refine ⟨by rw [hU], by rw [hU]; exact hP, va_K.moved hW.alike hK, hD.weaken (fun _ _ _ _ => trivial), ?_⟩
  rw [hU]
  exact SF.warm (SF.narrow (SF.kept hSF hS.2.1) (wl_free hD hS hA)) hW

theorem v_callVi (C : Ok B E cc nL own fr lo) {y : MethodName} {b : ByteArray} {mL fr' lo' np idx : Nat} {ret : Option FieldType} {As rest : List Value} {Q' : Int32 → S0 → Prop} {k ci N' : Nat} {fs : List Value} {T' : u_T} (hM : KI B (wl n a sh) y b mL ret fr' lo' (.ref (a k) :: As) M Q') (hw : CWV own idx y b mL ret np) (hfr : fr' + 1 ≤ fr) (hlo : 8 + (mL + 11) + lo' ≤ lo) (hk : k < n) (hs : sh k (M k) = .inr (ci, fs)) (hci : cls7[ci]? = some (y.cls, T', N')) (hn : As.length = np) (hst : st = As.reverse ++ .ref (a k) :: rest) (hcat : (rest.map fun v => v.category).sum ≤ 8) (hd : decode cc pc = .ok (.invokevirtual idx, 3)) (kk : ∀ (r : Int32) (M1 : S0), Q' r M1 → V B E nL (wl n a sh M1) (pc + 3) lv (.int r :: rest)) : V B E nL (wl n a sh M) pc lv st := by
  obtain ⟨p, l, e, R, s, m, args, below, meth, c, A, Z⟩ := E
  obtain ⟨h1, h2, h3, h4, h5, h6, h7, h8, h9, h10, h11⟩ := C
  intro H locs ls hP hD hS hl
  subst hst
  have hF := wl_free hD hS h7
  refine va_calli (va_runV (As := As) (rest := rest) ⟨h1, h2, h3, h4, h5⟩ (hM l H.size) (hw.cw h5 hfr hlo h9 h10) ⟨Pw_blind, va_recv h6 hP hci (q0 := k) (by rw [wl_get hk, hs]), fun U hU hW => ⟨rfl, Pw_at hP hD hS h7 h6 h11 U hU hW⟩⟩ rfl hn hl.1 rfl (lv_room hcat) hd ⟨Nat.zero_le _, Nat.zero_le _⟩) hS (fun q _ h => hF q h) hF (fun r M1 t H1 locs1 ht hvm hq hB hz1 hk1 hS1 => ?_)
  obtain ⟨hP1, hK1, hD1⟩ := hB
  rw [ht] at hP1
  exact kk r M1 hq H1 locs1 ls hP1 (hD1.weaken (fun _ q _ h => hF q.1 h)) hS1 hl

theorem v_callVl (C : Ok B E cc nL own fr lo) {y : MethodName} {b : ByteArray} {mL fr' lo' np idx : Nat} {ret : Option FieldType} {As rest : List Value} {Q' : Int64 → S0 → Prop} {k ci N' : Nat} {fs : List Value} {T' : u_T} (hM : KL B (wl n a sh) y b mL ret fr' lo' (.ref (a k) :: As) M Q') (hw : CWV own idx y b mL ret np) (hfr : fr' + 1 ≤ fr) (hlo : 8 + (mL + 11) + lo' ≤ lo) (hk : k < n) (hs : sh k (M k) = .inr (ci, fs)) (hci : cls7[ci]? = some (y.cls, T', N')) (hn : As.length = np) (hst : st = As.reverse ++ .ref (a k) :: rest) (hcat : (rest.map fun v => v.category).sum ≤ 8) (hd : decode cc pc = .ok (.invokevirtual idx, 3)) (kk : ∀ (r : Int64) (M1 : S0), Q' r M1 → V B E nL (wl n a sh M1) (pc + 3) lv (.long r :: rest)) : V B E nL (wl n a sh M) pc lv st := by
  obtain ⟨p, l, e, R, s, m, args, below, meth, c, A, Z⟩ := E
  obtain ⟨h1, h2, h3, h4, h5, h6, h7, h8, h9, h10, h11⟩ := C
  intro H locs ls hP hD hS hl
  subst hst
  have hF := wl_free hD hS h7
  refine va_calll (va_runV (As := As) (rest := rest) ⟨h1, h2, h3, h4, h5⟩ (hM l H.size) (hw.cw h5 hfr hlo h9 h10) ⟨Pw_blind, va_recv h6 hP hci (q0 := k) (by rw [wl_get hk, hs]), fun U hU hW => ⟨rfl, Pw_at hP hD hS h7 h6 h11 U hU hW⟩⟩ rfl hn hl.1 rfl (lv_room hcat) hd ⟨Nat.zero_le _, Nat.zero_le _⟩) hS (fun q _ h => hF q h) hF (fun r M1 t H1 locs1 ht hvm hq hB hz1 hk1 hS1 => ?_)
  obtain ⟨hP1, hK1, hD1⟩ := hB
  rw [ht] at hP1
  exact kk r M1 hq H1 locs1 ls hP1 (hD1.weaken (fun _ q _ h => hF q.1 h)) hS1 hl

theorem v_callVv (C : Ok B E cc nL own fr lo) {y : MethodName} {b : ByteArray} {mL fr' lo' np idx : Nat} {ret : Option FieldType} {As rest : List Value} {Q' : S0 → Prop} {k ci N' : Nat} {fs : List Value} {T' : u_T} (hM : KV B (wl n a sh) y b mL ret fr' lo' (.ref (a k) :: As) M Q') (hw : CWV own idx y b mL ret np) (hfr : fr' + 1 ≤ fr) (hlo : 8 + (mL + 11) + lo' ≤ lo) (hk : k < n) (hs : sh k (M k) = .inr (ci, fs)) (hci : cls7[ci]? = some (y.cls, T', N')) (hn : As.length = np) (hst : st = As.reverse ++ .ref (a k) :: rest) (hcat : (rest.map fun v => v.category).sum ≤ 8) (hd : decode cc pc = .ok (.invokevirtual idx, 3)) (kk : ∀ (M1 : S0), Q' M1 → V B E nL (wl n a sh M1) (pc + 3) lv rest) : V B E nL (wl n a sh M) pc lv st := by
  obtain ⟨p, l, e, R, s, m, args, below, meth, c, A, Z⟩ := E
  obtain ⟨h1, h2, h3, h4, h5, h6, h7, h8, h9, h10, h11⟩ := C
  intro H locs ls hP hD hS hl
  subst hst
  have hF := wl_free hD hS h7
  refine va_callv (va_runV (As := As) (rest := rest) ⟨h1, h2, h3, h4, h5⟩ (hM l H.size) (hw.cw h5 hfr hlo h9 h10) ⟨Pw_blind, va_recv h6 hP hci (q0 := k) (by rw [wl_get hk, hs]), fun U hU hW => ⟨rfl, Pw_at hP hD hS h7 h6 h11 U hU hW⟩⟩ rfl hn hl.1 rfl (lv_room hcat) hd ⟨Nat.zero_le _, Nat.zero_le _⟩) hS (fun q _ h => hF q h) hF (fun M1 t H1 locs1 ht hvm hq hB hz1 hk1 hS1 => ?_)
  obtain ⟨hP1, hK1, hD1⟩ := hB
  rw [ht] at hP1
  exact kk M1 hq H1 locs1 ls hP1 (hD1.weaken (fun _ q _ h => hF q.1 h)) hS1 hl

theorem v_callVa (C : Ok B E cc nL own fr lo) {y : MethodName} {b : ByteArray} {mL fr' lo' np idx : Nat} {ret : Option FieldType} {As rest : List Value} {Q' : Option Nat → S0 → Prop} {k ci N' : Nat} {fs : List Value} {T' : u_T} (hM : KA B (wl n a sh) a y b mL ret fr' lo' (.ref (a k) :: As) M Q') (hw : CWV own idx y b mL ret np) (hfr : fr' + 1 ≤ fr) (hlo : 8 + (mL + 11) + lo' ≤ lo) (hk : k < n) (hs : sh k (M k) = .inr (ci, fs)) (hci : cls7[ci]? = some (y.cls, T', N')) (hn : As.length = np) (hst : st = As.reverse ++ .ref (a k) :: rest) (hcat : (rest.map fun v => v.category).sum ≤ 8) (hd : decode cc pc = .ok (.invokevirtual idx, 3)) (kk : ∀ (o : Option Nat) (M1 : S0), Q' o M1 → V B E nL (wl n a sh M1) (pc + 3) lv (va_rf (o.map a) :: rest)) : V B E nL (wl n a sh M) pc lv st := by
  obtain ⟨p, l, e, R, s, m, args, below, meth, c, A, Z⟩ := E
  obtain ⟨h1, h2, h3, h4, h5, h6, h7, h8, h9, h10, h11⟩ := C
  intro H locs ls hP hD hS hl
  subst hst
  have hF := wl_free hD hS h7
  refine va_callq (va_runV (As := As) (rest := rest) ⟨h1, h2, h3, h4, h5⟩ (hM l H.size) (hw.cw h5 hfr hlo h9 h10) ⟨Pw_blind, va_recv h6 hP hci (q0 := k) (by rw [wl_get hk, hs]), fun U hU hW => ⟨rfl, Pw_at hP hD hS h7 h6 h11 U hU hW⟩⟩ rfl hn hl.1 rfl (lv_room hcat) hd ⟨Nat.zero_le _, Nat.zero_le _⟩) hS (fun q _ h => hF q h) hF (fun r M1 t H1 locs1 ht hvm hq hB hz1 hk1 hS1 => ?_)
  obtain ⟨o, rfl, hq⟩ := hq
  obtain ⟨hP1, hK1, hD1⟩ := hB
  rw [ht] at hP1
  exact kk o M1 hq H1 locs1 ls hP1 (hD1.weaken (fun _ q _ h => hF q.1 h)) hS1 hl

theorem v_callSi (C : Ok B E cc nL own fr lo) {y : MethodName} {b : ByteArray} {mL fr' lo' np idx : Nat} {ret : Option FieldType} {As rest : List Value} {Q' : Int32 → S0 → Prop} (hM : KI B (wl n a sh) y b mL ret fr' lo' (As) M Q') (hw : CWS own idx y b mL ret np) (hfr : fr' + 1 ≤ fr) (hlo : 8 + (mL + 11) + lo' ≤ lo) (hn : As.length = np) (hst : st = As.reverse ++ rest) (hcat : (rest.map fun v => v.category).sum ≤ 8) (hd : decode cc pc = .ok (.invokestatic idx, 3)) (kk : ∀ (r : Int32) (M1 : S0), Q' r M1 → V B E nL (wl n a sh M1) (pc + 3) lv (.int r :: rest)) : V B E nL (wl n a sh M) pc lv st := by
  obtain ⟨p, l, e, R, s, m, args, below, meth, c, A, Z⟩ := E
  obtain ⟨h1, h2, h3, h4, h5, h6, h7, h8, h9, h10, h11⟩ := C
  intro H locs ls hP hD hS hl
  subst hst
  have hF := wl_free hD hS h7
  refine va_calli (va_runS (As := As) (rest := rest) ⟨h1, h2, h3, h4, h5⟩ (hM l H.size) (hw.cw h5 hfr hlo h9 h10) ⟨Pw_blind, fun U hU hW => ⟨rfl, Pw_at hP hD hS h7 h6 h11 U hU hW⟩⟩ rfl hn hl.1 rfl (lv_room hcat) hd ⟨Nat.zero_le _, Nat.zero_le _⟩) hS (fun q _ h => hF q h) hF (fun r M1 t H1 locs1 ht hvm hq hB hz1 hk1 hS1 => ?_)
  obtain ⟨hP1, hK1, hD1⟩ := hB
  rw [ht] at hP1
  exact kk r M1 hq H1 locs1 ls hP1 (hD1.weaken (fun _ q _ h => hF q.1 h)) hS1 hl

theorem v_callSl (C : Ok B E cc nL own fr lo) {y : MethodName} {b : ByteArray} {mL fr' lo' np idx : Nat} {ret : Option FieldType} {As rest : List Value} {Q' : Int64 → S0 → Prop} (hM : KL B (wl n a sh) y b mL ret fr' lo' (As) M Q') (hw : CWS own idx y b mL ret np) (hfr : fr' + 1 ≤ fr) (hlo : 8 + (mL + 11) + lo' ≤ lo) (hn : As.length = np) (hst : st = As.reverse ++ rest) (hcat : (rest.map fun v => v.category).sum ≤ 8) (hd : decode cc pc = .ok (.invokestatic idx, 3)) (kk : ∀ (r : Int64) (M1 : S0), Q' r M1 → V B E nL (wl n a sh M1) (pc + 3) lv (.long r :: rest)) : V B E nL (wl n a sh M) pc lv st := by
  obtain ⟨p, l, e, R, s, m, args, below, meth, c, A, Z⟩ := E
  obtain ⟨h1, h2, h3, h4, h5, h6, h7, h8, h9, h10, h11⟩ := C
  intro H locs ls hP hD hS hl
  subst hst
  have hF := wl_free hD hS h7
  refine va_calll (va_runS (As := As) (rest := rest) ⟨h1, h2, h3, h4, h5⟩ (hM l H.size) (hw.cw h5 hfr hlo h9 h10) ⟨Pw_blind, fun U hU hW => ⟨rfl, Pw_at hP hD hS h7 h6 h11 U hU hW⟩⟩ rfl hn hl.1 rfl (lv_room hcat) hd ⟨Nat.zero_le _, Nat.zero_le _⟩) hS (fun q _ h => hF q h) hF (fun r M1 t H1 locs1 ht hvm hq hB hz1 hk1 hS1 => ?_)
  obtain ⟨hP1, hK1, hD1⟩ := hB
  rw [ht] at hP1
  exact kk r M1 hq H1 locs1 ls hP1 (hD1.weaken (fun _ q _ h => hF q.1 h)) hS1 hl

theorem v_callSv (C : Ok B E cc nL own fr lo) {y : MethodName} {b : ByteArray} {mL fr' lo' np idx : Nat} {ret : Option FieldType} {As rest : List Value} {Q' : S0 → Prop} (hM : KV B (wl n a sh) y b mL ret fr' lo' (As) M Q') (hw : CWS own idx y b mL ret np) (hfr : fr' + 1 ≤ fr) (hlo : 8 + (mL + 11) + lo' ≤ lo) (hn : As.length = np) (hst : st = As.reverse ++ rest) (hcat : (rest.map fun v => v.category).sum ≤ 8) (hd : decode cc pc = .ok (.invokestatic idx, 3)) (kk : ∀ (M1 : S0), Q' M1 → V B E nL (wl n a sh M1) (pc + 3) lv rest) : V B E nL (wl n a sh M) pc lv st := by
  obtain ⟨p, l, e, R, s, m, args, below, meth, c, A, Z⟩ := E
  obtain ⟨h1, h2, h3, h4, h5, h6, h7, h8, h9, h10, h11⟩ := C
  intro H locs ls hP hD hS hl
  subst hst
  have hF := wl_free hD hS h7
  refine va_callv (va_runS (As := As) (rest := rest) ⟨h1, h2, h3, h4, h5⟩ (hM l H.size) (hw.cw h5 hfr hlo h9 h10) ⟨Pw_blind, fun U hU hW => ⟨rfl, Pw_at hP hD hS h7 h6 h11 U hU hW⟩⟩ rfl hn hl.1 rfl (lv_room hcat) hd ⟨Nat.zero_le _, Nat.zero_le _⟩) hS (fun q _ h => hF q h) hF (fun M1 t H1 locs1 ht hvm hq hB hz1 hk1 hS1 => ?_)
  obtain ⟨hP1, hK1, hD1⟩ := hB
  rw [ht] at hP1
  exact kk M1 hq H1 locs1 ls hP1 (hD1.weaken (fun _ q _ h => hF q.1 h)) hS1 hl

theorem v_callSa (C : Ok B E cc nL own fr lo) {y : MethodName} {b : ByteArray} {mL fr' lo' np idx : Nat} {ret : Option FieldType} {As rest : List Value} {Q' : Option Nat → S0 → Prop} (hM : KA B (wl n a sh) a y b mL ret fr' lo' (As) M Q') (hw : CWS own idx y b mL ret np) (hfr : fr' + 1 ≤ fr) (hlo : 8 + (mL + 11) + lo' ≤ lo) (hn : As.length = np) (hst : st = As.reverse ++ rest) (hcat : (rest.map fun v => v.category).sum ≤ 8) (hd : decode cc pc = .ok (.invokestatic idx, 3)) (kk : ∀ (o : Option Nat) (M1 : S0), Q' o M1 → V B E nL (wl n a sh M1) (pc + 3) lv (va_rf (o.map a) :: rest)) : V B E nL (wl n a sh M) pc lv st := by
  obtain ⟨p, l, e, R, s, m, args, below, meth, c, A, Z⟩ := E
  obtain ⟨h1, h2, h3, h4, h5, h6, h7, h8, h9, h10, h11⟩ := C
  intro H locs ls hP hD hS hl
  subst hst
  have hF := wl_free hD hS h7
  refine va_callq (va_runS (As := As) (rest := rest) ⟨h1, h2, h3, h4, h5⟩ (hM l H.size) (hw.cw h5 hfr hlo h9 h10) ⟨Pw_blind, fun U hU hW => ⟨rfl, Pw_at hP hD hS h7 h6 h11 U hU hW⟩⟩ rfl hn hl.1 rfl (lv_room hcat) hd ⟨Nat.zero_le _, Nat.zero_le _⟩) hS (fun q _ h => hF q h) hF (fun r M1 t H1 locs1 ht hvm hq hB hz1 hk1 hS1 => ?_)
  obtain ⟨o, rfl, hq⟩ := hq
  obtain ⟨hP1, hK1, hD1⟩ := hB
  rw [ht] at hP1
  exact kk o M1 hq H1 locs1 ls hP1 (hD1.weaken (fun _ q _ h => hF q.1 h)) hS1 hl

theorem v_callNi (C : Ok B E cc nL own fr lo) {y : MethodName} {b : ByteArray} {mL fr' lo' np idx : Nat} {ret : Option FieldType} {As rest : List Value} {Q' : Int32 → S0 → Prop} {host : String} (hM : KI B (wl n a sh) y b mL ret fr' lo' (As) M Q') (hw : CWSN own idx y host b mL ret np) (hfr : fr' + 1 ≤ fr) (hlo : 8 + (mL + 11) + lo' ≤ lo) (hn : As.length = np) (hst : st = As.reverse ++ rest) (hcat : (rest.map fun v => v.category).sum ≤ 8) (hd : decode cc pc = .ok (.invokestatic idx, 3)) (kk : ∀ (r : Int32) (M1 : S0), Q' r M1 → V B E nL (wl n a sh M1) (pc + 3) lv (.int r :: rest)) : V B E nL (wl n a sh M) pc lv st := by
  obtain ⟨p, l, e, R, s, m, args, below, meth, c, A, Z⟩ := E
  obtain ⟨h1, h2, h3, h4, h5, h6, h7, h8, h9, h10, h11⟩ := C
  intro H locs ls hP hD hS hl
  subst hst
  have hF := wl_free hD hS h7
  refine va_calli (va_runSN (As := As) (rest := rest) ⟨h1, h2, h3, h4, h5⟩ (hM l H.size) (hw.cw h5 hfr hlo h9 h10) ⟨Pw_blind, fun U hU hW => ⟨rfl, Pw_at hP hD hS h7 h6 h11 U hU hW⟩⟩ rfl hn hl.1 rfl (lv_room hcat) hd ⟨Nat.zero_le _, Nat.zero_le _⟩) hS (fun q _ h => hF q h) hF (fun r M1 t H1 locs1 ht hvm hq hB hz1 hk1 hS1 => ?_)
  obtain ⟨hP1, hK1, hD1⟩ := hB
  rw [ht] at hP1
  exact kk r M1 hq H1 locs1 ls hP1 (hD1.weaken (fun _ q _ h => hF q.1 h)) hS1 hl

theorem v_callNl (C : Ok B E cc nL own fr lo) {y : MethodName} {b : ByteArray} {mL fr' lo' np idx : Nat} {ret : Option FieldType} {As rest : List Value} {Q' : Int64 → S0 → Prop} {host : String} (hM : KL B (wl n a sh) y b mL ret fr' lo' (As) M Q') (hw : CWSN own idx y host b mL ret np) (hfr : fr' + 1 ≤ fr) (hlo : 8 + (mL + 11) + lo' ≤ lo) (hn : As.length = np) (hst : st = As.reverse ++ rest) (hcat : (rest.map fun v => v.category).sum ≤ 8) (hd : decode cc pc = .ok (.invokestatic idx, 3)) (kk : ∀ (r : Int64) (M1 : S0), Q' r M1 → V B E nL (wl n a sh M1) (pc + 3) lv (.long r :: rest)) : V B E nL (wl n a sh M) pc lv st := by
  obtain ⟨p, l, e, R, s, m, args, below, meth, c, A, Z⟩ := E
  obtain ⟨h1, h2, h3, h4, h5, h6, h7, h8, h9, h10, h11⟩ := C
  intro H locs ls hP hD hS hl
  subst hst
  have hF := wl_free hD hS h7
  refine va_calll (va_runSN (As := As) (rest := rest) ⟨h1, h2, h3, h4, h5⟩ (hM l H.size) (hw.cw h5 hfr hlo h9 h10) ⟨Pw_blind, fun U hU hW => ⟨rfl, Pw_at hP hD hS h7 h6 h11 U hU hW⟩⟩ rfl hn hl.1 rfl (lv_room hcat) hd ⟨Nat.zero_le _, Nat.zero_le _⟩) hS (fun q _ h => hF q h) hF (fun r M1 t H1 locs1 ht hvm hq hB hz1 hk1 hS1 => ?_)
  obtain ⟨hP1, hK1, hD1⟩ := hB
  rw [ht] at hP1
  exact kk r M1 hq H1 locs1 ls hP1 (hD1.weaken (fun _ q _ h => hF q.1 h)) hS1 hl

theorem v_callNv (C : Ok B E cc nL own fr lo) {y : MethodName} {b : ByteArray} {mL fr' lo' np idx : Nat} {ret : Option FieldType} {As rest : List Value} {Q' : S0 → Prop} {host : String} (hM : KV B (wl n a sh) y b mL ret fr' lo' (As) M Q') (hw : CWSN own idx y host b mL ret np) (hfr : fr' + 1 ≤ fr) (hlo : 8 + (mL + 11) + lo' ≤ lo) (hn : As.length = np) (hst : st = As.reverse ++ rest) (hcat : (rest.map fun v => v.category).sum ≤ 8) (hd : decode cc pc = .ok (.invokestatic idx, 3)) (kk : ∀ (M1 : S0), Q' M1 → V B E nL (wl n a sh M1) (pc + 3) lv rest) : V B E nL (wl n a sh M) pc lv st := by
  obtain ⟨p, l, e, R, s, m, args, below, meth, c, A, Z⟩ := E
  obtain ⟨h1, h2, h3, h4, h5, h6, h7, h8, h9, h10, h11⟩ := C
  intro H locs ls hP hD hS hl
  subst hst
  have hF := wl_free hD hS h7
  refine va_callv (va_runSN (As := As) (rest := rest) ⟨h1, h2, h3, h4, h5⟩ (hM l H.size) (hw.cw h5 hfr hlo h9 h10) ⟨Pw_blind, fun U hU hW => ⟨rfl, Pw_at hP hD hS h7 h6 h11 U hU hW⟩⟩ rfl hn hl.1 rfl (lv_room hcat) hd ⟨Nat.zero_le _, Nat.zero_le _⟩) hS (fun q _ h => hF q h) hF (fun M1 t H1 locs1 ht hvm hq hB hz1 hk1 hS1 => ?_)
  obtain ⟨hP1, hK1, hD1⟩ := hB
  rw [ht] at hP1
  exact kk M1 hq H1 locs1 ls hP1 (hD1.weaken (fun _ q _ h => hF q.1 h)) hS1 hl

theorem v_callNa (C : Ok B E cc nL own fr lo) {y : MethodName} {b : ByteArray} {mL fr' lo' np idx : Nat} {ret : Option FieldType} {As rest : List Value} {Q' : Option Nat → S0 → Prop} {host : String} (hM : KA B (wl n a sh) a y b mL ret fr' lo' (As) M Q') (hw : CWSN own idx y host b mL ret np) (hfr : fr' + 1 ≤ fr) (hlo : 8 + (mL + 11) + lo' ≤ lo) (hn : As.length = np) (hst : st = As.reverse ++ rest) (hcat : (rest.map fun v => v.category).sum ≤ 8) (hd : decode cc pc = .ok (.invokestatic idx, 3)) (kk : ∀ (o : Option Nat) (M1 : S0), Q' o M1 → V B E nL (wl n a sh M1) (pc + 3) lv (va_rf (o.map a) :: rest)) : V B E nL (wl n a sh M) pc lv st := by
  obtain ⟨p, l, e, R, s, m, args, below, meth, c, A, Z⟩ := E
  obtain ⟨h1, h2, h3, h4, h5, h6, h7, h8, h9, h10, h11⟩ := C
  intro H locs ls hP hD hS hl
  subst hst
  have hF := wl_free hD hS h7
  refine va_callq (va_runSN (As := As) (rest := rest) ⟨h1, h2, h3, h4, h5⟩ (hM l H.size) (hw.cw h5 hfr hlo h9 h10) ⟨Pw_blind, fun U hU hW => ⟨rfl, Pw_at hP hD hS h7 h6 h11 U hU hW⟩⟩ rfl hn hl.1 rfl (lv_room hcat) hd ⟨Nat.zero_le _, Nat.zero_le _⟩) hS (fun q _ h => hF q h) hF (fun r M1 t H1 locs1 ht hvm hq hB hz1 hk1 hS1 => ?_)
  obtain ⟨o, rfl, hq⟩ := hq
  obtain ⟨hP1, hK1, hD1⟩ := hB
  rw [ht] at hP1
  exact kk o M1 hq H1 locs1 ls hP1 (hD1.weaken (fun _ q _ h => hF q.1 h)) hS1 hl
end VCALL
end

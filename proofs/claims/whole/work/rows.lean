section
-- ===== PART A: goes FIRST, ahead of the names: the tables' words, and 'selects' of the private methods out of them =====
/-- a private method of a class that the tables say can be made, by its rows of tables_1 -/
def lw_okq (q : MethodName × Nat) : Prop := (q.1.cls ≠ "java/lang/invoke/MethodHandle" ∧ q.1.cls ≠ "java/lang/invoke/VarHandle") ∧ Cond.instantiable q.1.cls q.2 ∈ tables_1 ∧ Cond.privateMethod q.1 ∈ tables_1 ∧ Cond.instanceMethod q.1 ∈ tables_1
theorem lw_p0 : lw_okq (⟨"TwoHousesBehind", "refuse", "(I)I"⟩, 11) := ⟨⟨by decide +kernel, by decide +kernel⟩, List.mem_of_getElem? (i := 19) (by decide +kernel), List.mem_of_getElem? (i := 253) (by decide +kernel), List.mem_of_getElem? (i := 254) (by decide +kernel)⟩
theorem lw_p1 : lw_okq (⟨"TwoHousesBehind$Street", "keepOfHouse", "(III)V"⟩, 10) := ⟨⟨by decide +kernel, by decide +kernel⟩, List.mem_of_getElem? (i := 27) (by decide +kernel), List.mem_of_getElem? (i := 397) (by decide +kernel), List.mem_of_getElem? (i := 398) (by decide +kernel)⟩
theorem lw_p2 : lw_okq (⟨"TwoHousesBehind", "troubleWithWay", "(III)I"⟩, 11) := ⟨⟨by decide +kernel, by decide +kernel⟩, List.mem_of_getElem? (i := 19) (by decide +kernel), List.mem_of_getElem? (i := 406) (by decide +kernel), List.mem_of_getElem? (i := 407) (by decide +kernel)⟩
theorem lw_p3 : lw_okq (⟨"TwoHousesBehind$Street", "keepOfWay", "(III)V"⟩, 10) := ⟨⟨by decide +kernel, by decide +kernel⟩, List.mem_of_getElem? (i := 27) (by decide +kernel), List.mem_of_getElem? (i := 418) (by decide +kernel), List.mem_of_getElem? (i := 419) (by decide +kernel)⟩
theorem lw_p4 : lw_okq (⟨"TwoHousesBehind", "addWays", "(III)I"⟩, 11) := ⟨⟨by decide +kernel, by decide +kernel⟩, List.mem_of_getElem? (i := 19) (by decide +kernel), List.mem_of_getElem? (i := 426) (by decide +kernel), List.mem_of_getElem? (i := 427) (by decide +kernel)⟩
theorem lw_p5 : lw_okq (⟨"TwoHousesBehind$Reader", "readItem", "()V"⟩, 5) := ⟨⟨by decide +kernel, by decide +kernel⟩, List.mem_of_getElem? (i := 185) (by decide +kernel), List.mem_of_getElem? (i := 513) (by decide +kernel), List.mem_of_getElem? (i := 514) (by decide +kernel)⟩
theorem lw_p6 : lw_okq (⟨"TwoHousesBehind$Reader", "readHouse", "()V"⟩, 5) := ⟨⟨by decide +kernel, by decide +kernel⟩, List.mem_of_getElem? (i := 185) (by decide +kernel), List.mem_of_getElem? (i := 518) (by decide +kernel), List.mem_of_getElem? (i := 519) (by decide +kernel)⟩
theorem lw_p7 : lw_okq (⟨"TwoHousesBehind$Reader", "readWord", "(Ljava/lang/String;Z)V"⟩, 5) := ⟨⟨by decide +kernel, by decide +kernel⟩, List.mem_of_getElem? (i := 185) (by decide +kernel), List.mem_of_getElem? (i := 524) (by decide +kernel), List.mem_of_getElem? (i := 525) (by decide +kernel)⟩
theorem lw_p8 : lw_okq (⟨"TwoHousesBehind$Reader", "fail", "(I)V"⟩, 5) := ⟨⟨by decide +kernel, by decide +kernel⟩, List.mem_of_getElem? (i := 185) (by decide +kernel), List.mem_of_getElem? (i := 528) (by decide +kernel), List.mem_of_getElem? (i := 529) (by decide +kernel)⟩
theorem lw_p9 : lw_okq (⟨"TwoHousesBehind$Reader", "readLetter", "(C)V"⟩, 5) := ⟨⟨by decide +kernel, by decide +kernel⟩, List.mem_of_getElem? (i := 185) (by decide +kernel), List.mem_of_getElem? (i := 580) (by decide +kernel), List.mem_of_getElem? (i := 581) (by decide +kernel)⟩
theorem lw_p10 : lw_okq (⟨"TwoHousesBehind$Reader", "readNumber", "(III)I"⟩, 5) := ⟨⟨by decide +kernel, by decide +kernel⟩, List.mem_of_getElem? (i := 185) (by decide +kernel), List.mem_of_getElem? (i := 584) (by decide +kernel), List.mem_of_getElem? (i := 585) (by decide +kernel)⟩
theorem lw_p11 : lw_okq (⟨"TwoHousesBehind$Reader", "isDigit", "()Z"⟩, 5) := ⟨⟨by decide +kernel, by decide +kernel⟩, List.mem_of_getElem? (i := 185) (by decide +kernel), List.mem_of_getElem? (i := 588) (by decide +kernel), List.mem_of_getElem? (i := 589) (by decide +kernel)⟩
theorem lw_p12 : lw_okq (⟨"TwoHousesBehind$Reader", "readWay", "()V"⟩, 5) := ⟨⟨by decide +kernel, by decide +kernel⟩, List.mem_of_getElem? (i := 185) (by decide +kernel), List.mem_of_getElem? (i := 593) (by decide +kernel), List.mem_of_getElem? (i := 594) (by decide +kernel)⟩
theorem lw_p13 : lw_okq (⟨"TwoHousesBehind$Reader", "readShut", "()V"⟩, 5) := ⟨⟨by decide +kernel, by decide +kernel⟩, List.mem_of_getElem? (i := 185) (by decide +kernel), List.mem_of_getElem? (i := 604) (by decide +kernel), List.mem_of_getElem? (i := 605) (by decide +kernel)⟩
theorem lw_p14 : lw_okq (⟨"TwoHousesBehind$Reader", "readLag", "()V"⟩, 5) := ⟨⟨by decide +kernel, by decide +kernel⟩, List.mem_of_getElem? (i := 185) (by decide +kernel), List.mem_of_getElem? (i := 614) (by decide +kernel), List.mem_of_getElem? (i := 615) (by decide +kernel)⟩
theorem lw_p15 : lw_okq (⟨"TwoHousesBehind$Reader", "readBird", "()V"⟩, 5) := ⟨⟨by decide +kernel, by decide +kernel⟩, List.mem_of_getElem? (i := 185) (by decide +kernel), List.mem_of_getElem? (i := 620) (by decide +kernel), List.mem_of_getElem? (i := 621) (by decide +kernel)⟩
def lw_privs_1 : List (MethodName × Nat) := [(⟨"TwoHousesBehind", "refuse", "(I)I"⟩, 11), (⟨"TwoHousesBehind$Street", "keepOfHouse", "(III)V"⟩, 10), (⟨"TwoHousesBehind", "troubleWithWay", "(III)I"⟩, 11), (⟨"TwoHousesBehind$Street", "keepOfWay", "(III)V"⟩, 10), (⟨"TwoHousesBehind", "addWays", "(III)I"⟩, 11), (⟨"TwoHousesBehind$Reader", "readItem", "()V"⟩, 5), (⟨"TwoHousesBehind$Reader", "readHouse", "()V"⟩, 5), (⟨"TwoHousesBehind$Reader", "readWord", "(Ljava/lang/String;Z)V"⟩, 5), (⟨"TwoHousesBehind$Reader", "fail", "(I)V"⟩, 5), (⟨"TwoHousesBehind$Reader", "readLetter", "(C)V"⟩, 5), (⟨"TwoHousesBehind$Reader", "readNumber", "(III)I"⟩, 5), (⟨"TwoHousesBehind$Reader", "isDigit", "()Z"⟩, 5), (⟨"TwoHousesBehind$Reader", "readWay", "()V"⟩, 5), (⟨"TwoHousesBehind$Reader", "readShut", "()V"⟩, 5), (⟨"TwoHousesBehind$Reader", "readLag", "()V"⟩, 5), (⟨"TwoHousesBehind$Reader", "readBird", "()V"⟩, 5)]
theorem lw_r1 : ∀ q ∈ lw_privs_1, lw_okq q := List.forall_mem_cons.mpr ⟨lw_p0, List.forall_mem_cons.mpr ⟨lw_p1, List.forall_mem_cons.mpr ⟨lw_p2, List.forall_mem_cons.mpr ⟨lw_p3, List.forall_mem_cons.mpr ⟨lw_p4, List.forall_mem_cons.mpr ⟨lw_p5, List.forall_mem_cons.mpr ⟨lw_p6, List.forall_mem_cons.mpr ⟨lw_p7, List.forall_mem_cons.mpr ⟨lw_p8, List.forall_mem_cons.mpr ⟨lw_p9, List.forall_mem_cons.mpr ⟨lw_p10, List.forall_mem_cons.mpr ⟨lw_p11, List.forall_mem_cons.mpr ⟨lw_p12, List.forall_mem_cons.mpr ⟨lw_p13, List.forall_mem_cons.mpr ⟨lw_p14, List.forall_mem_cons.mpr ⟨lw_p15, fun _ h => absurd h List.not_mem_nil⟩⟩⟩⟩⟩⟩⟩⟩⟩⟩⟩⟩⟩⟩⟩⟩
theorem lw_p16 : lw_okq (⟨"TwoHousesBehind$Street", "isOpenAt", "(II)Z"⟩, 10) := ⟨⟨by decide +kernel, by decide +kernel⟩, List.mem_of_getElem? (i := 27) (by decide +kernel), List.mem_of_getElem? (i := 662) (by decide +kernel), List.mem_of_getElem? (i := 663) (by decide +kernel)⟩
theorem lw_p17 : lw_okq (⟨"TwoHousesBehind", "refuseApart", "(I)I"⟩, 11) := ⟨⟨by decide +kernel, by decide +kernel⟩, List.mem_of_getElem? (i := 19) (by decide +kernel), List.mem_of_getElem? (i := 702) (by decide +kernel), List.mem_of_getElem? (i := 703) (by decide +kernel)⟩
theorem lw_p18 : lw_okq (⟨"TwoHousesBehind$Walk", "link", "(III)V"⟩, 8) := ⟨⟨by decide +kernel, by decide +kernel⟩, List.mem_of_getElem? (i := 122) (by decide +kernel), List.mem_of_getElem? (i := 723) (by decide +kernel), List.mem_of_getElem? (i := 724) (by decide +kernel)⟩
theorem lw_p19 : lw_okq (⟨"TwoHousesBehind", "troubleWithRoute", "(III)I"⟩, 11) := ⟨⟨by decide +kernel, by decide +kernel⟩, List.mem_of_getElem? (i := 19) (by decide +kernel), List.mem_of_getElem? (i := 738) (by decide +kernel), List.mem_of_getElem? (i := 739) (by decide +kernel)⟩
theorem lw_p20 : lw_okq (⟨"TwoHousesBehind", "walkTold", "(II)I"⟩, 11) := ⟨⟨by decide +kernel, by decide +kernel⟩, List.mem_of_getElem? (i := 19) (by decide +kernel), List.mem_of_getElem? (i := 748) (by decide +kernel), List.mem_of_getElem? (i := 749) (by decide +kernel)⟩
theorem lw_p21 : lw_okq (⟨"TwoHousesBehind$Walk", "visitsOf", "(I)I"⟩, 8) := ⟨⟨by decide +kernel, by decide +kernel⟩, List.mem_of_getElem? (i := 122) (by decide +kernel), List.mem_of_getElem? (i := 765) (by decide +kernel), List.mem_of_getElem? (i := 766) (by decide +kernel)⟩
theorem lw_p22 : lw_okq (⟨"TwoHousesBehind", "troubleInSeeking", "(III)I"⟩, 11) := ⟨⟨by decide +kernel, by decide +kernel⟩, List.mem_of_getElem? (i := 19) (by decide +kernel), List.mem_of_getElem? (i := 800) (by decide +kernel), List.mem_of_getElem? (i := 801) (by decide +kernel)⟩
theorem lw_p23 : lw_okq (⟨"TwoHousesBehind$Search", "isQuicker", "()Z"⟩, 7) := ⟨⟨by decide +kernel, by decide +kernel⟩, List.mem_of_getElem? (i := 155) (by decide +kernel), List.mem_of_getElem? (i := 812) (by decide +kernel), List.mem_of_getElem? (i := 813) (by decide +kernel)⟩
theorem lw_p24 : lw_okq (⟨"TwoHousesBehind$Search", "isHeardBy", "(III)Z"⟩, 7) := ⟨⟨by decide +kernel, by decide +kernel⟩, List.mem_of_getElem? (i := 155) (by decide +kernel), List.mem_of_getElem? (i := 821) (by decide +kernel), List.mem_of_getElem? (i := 822) (by decide +kernel)⟩
theorem lw_p25 : lw_okq (⟨"TwoHousesBehind$Search", "hearsAll", "(II)Z"⟩, 7) := ⟨⟨by decide +kernel, by decide +kernel⟩, List.mem_of_getElem? (i := 155) (by decide +kernel), List.mem_of_getElem? (i := 825) (by decide +kernel), List.mem_of_getElem? (i := 826) (by decide +kernel)⟩
theorem lw_p26 : lw_okq (⟨"TwoHousesBehind$Search", "hearsAny", "(II)Z"⟩, 7) := ⟨⟨by decide +kernel, by decide +kernel⟩, List.mem_of_getElem? (i := 155) (by decide +kernel), List.mem_of_getElem? (i := 830) (by decide +kernel), List.mem_of_getElem? (i := 831) (by decide +kernel)⟩
theorem lw_p27 : lw_okq (⟨"TwoHousesBehind$Search", "keepRoute", "()V"⟩, 7) := ⟨⟨by decide +kernel, by decide +kernel⟩, List.mem_of_getElem? (i := 155) (by decide +kernel), List.mem_of_getElem? (i := 834) (by decide +kernel), List.mem_of_getElem? (i := 835) (by decide +kernel)⟩
theorem lw_p28 : lw_okq (⟨"TwoHousesBehind$Search", "speaksAs", "(LTwoHousesBehind$Shelves;II)Z"⟩, 7) := ⟨⟨by decide +kernel, by decide +kernel⟩, List.mem_of_getElem? (i := 155) (by decide +kernel), List.mem_of_getElem? (i := 869) (by decide +kernel), List.mem_of_getElem? (i := 870) (by decide +kernel)⟩
theorem lw_p29 : lw_okq (⟨"TwoHousesBehind", "troubleInThought", "(IIZ)I"⟩, 11) := ⟨⟨by decide +kernel, by decide +kernel⟩, List.mem_of_getElem? (i := 19) (by decide +kernel), List.mem_of_getElem? (i := 895) (by decide +kernel), List.mem_of_getElem? (i := 896) (by decide +kernel)⟩
theorem lw_p30 : lw_okq (⟨"TwoHousesBehind$Search", "oddsOfWalk", "(I)J"⟩, 7) := ⟨⟨by decide +kernel, by decide +kernel⟩, List.mem_of_getElem? (i := 155) (by decide +kernel), List.mem_of_getElem? (i := 907) (by decide +kernel), List.mem_of_getElem? (i := 908) (by decide +kernel)⟩
theorem lw_p31 : lw_okq (⟨"TwoHousesBehind$Search", "isSilentWithout", "(IIII)Z"⟩, 7) := ⟨⟨by decide +kernel, by decide +kernel⟩, List.mem_of_getElem? (i := 155) (by decide +kernel), List.mem_of_getElem? (i := 935) (by decide +kernel), List.mem_of_getElem? (i := 936) (by decide +kernel)⟩
def lw_privs_2 : List (MethodName × Nat) := [(⟨"TwoHousesBehind$Street", "isOpenAt", "(II)Z"⟩, 10), (⟨"TwoHousesBehind", "refuseApart", "(I)I"⟩, 11), (⟨"TwoHousesBehind$Walk", "link", "(III)V"⟩, 8), (⟨"TwoHousesBehind", "troubleWithRoute", "(III)I"⟩, 11), (⟨"TwoHousesBehind", "walkTold", "(II)I"⟩, 11), (⟨"TwoHousesBehind$Walk", "visitsOf", "(I)I"⟩, 8), (⟨"TwoHousesBehind", "troubleInSeeking", "(III)I"⟩, 11), (⟨"TwoHousesBehind$Search", "isQuicker", "()Z"⟩, 7), (⟨"TwoHousesBehind$Search", "isHeardBy", "(III)Z"⟩, 7), (⟨"TwoHousesBehind$Search", "hearsAll", "(II)Z"⟩, 7), (⟨"TwoHousesBehind$Search", "hearsAny", "(II)Z"⟩, 7), (⟨"TwoHousesBehind$Search", "keepRoute", "()V"⟩, 7), (⟨"TwoHousesBehind$Search", "speaksAs", "(LTwoHousesBehind$Shelves;II)Z"⟩, 7), (⟨"TwoHousesBehind", "troubleInThought", "(IIZ)I"⟩, 11), (⟨"TwoHousesBehind$Search", "oddsOfWalk", "(I)J"⟩, 7), (⟨"TwoHousesBehind$Search", "isSilentWithout", "(IIII)Z"⟩, 7)]
theorem lw_r2 : ∀ q ∈ lw_privs_2, lw_okq q := List.forall_mem_cons.mpr ⟨lw_p16, List.forall_mem_cons.mpr ⟨lw_p17, List.forall_mem_cons.mpr ⟨lw_p18, List.forall_mem_cons.mpr ⟨lw_p19, List.forall_mem_cons.mpr ⟨lw_p20, List.forall_mem_cons.mpr ⟨lw_p21, List.forall_mem_cons.mpr ⟨lw_p22, List.forall_mem_cons.mpr ⟨lw_p23, List.forall_mem_cons.mpr ⟨lw_p24, List.forall_mem_cons.mpr ⟨lw_p25, List.forall_mem_cons.mpr ⟨lw_p26, List.forall_mem_cons.mpr ⟨lw_p27, List.forall_mem_cons.mpr ⟨lw_p28, List.forall_mem_cons.mpr ⟨lw_p29, List.forall_mem_cons.mpr ⟨lw_p30, List.forall_mem_cons.mpr ⟨lw_p31, fun _ h => absurd h List.not_mem_nil⟩⟩⟩⟩⟩⟩⟩⟩⟩⟩⟩⟩⟩⟩⟩⟩
theorem lw_p32 : lw_okq (⟨"TwoHousesBehind$Street", "draw", "(I)I"⟩, 10) := ⟨⟨by decide +kernel, by decide +kernel⟩, List.mem_of_getElem? (i := 27) (by decide +kernel), List.mem_of_getElem? (i := 965) (by decide +kernel), List.mem_of_getElem? (i := 966) (by decide +kernel)⟩
theorem lw_p33 : lw_okq (⟨"TwoHousesBehind$Acts", "calls", "(II)I"⟩, 5) := ⟨⟨by decide +kernel, by decide +kernel⟩, List.mem_of_getElem? (i := 98) (by decide +kernel), List.mem_of_getElem? (i := 1011) (by decide +kernel), List.mem_of_getElem? (i := 1012) (by decide +kernel)⟩
theorem lw_p34 : lw_okq (⟨"TwoHousesBehind$Acts", "begin", "(I)V"⟩, 5) := ⟨⟨by decide +kernel, by decide +kernel⟩, List.mem_of_getElem? (i := 98) (by decide +kernel), List.mem_of_getElem? (i := 1015) (by decide +kernel), List.mem_of_getElem? (i := 1016) (by decide +kernel)⟩
theorem lw_p35 : lw_okq (⟨"TwoHousesBehind$Acts", "hushes", "(II)I"⟩, 5) := ⟨⟨by decide +kernel, by decide +kernel⟩, List.mem_of_getElem? (i := 98) (by decide +kernel), List.mem_of_getElem? (i := 1020) (by decide +kernel), List.mem_of_getElem? (i := 1021) (by decide +kernel)⟩
theorem lw_p36 : lw_okq (⟨"TwoHousesBehind$Acts", "opens", "(II)I"⟩, 5) := ⟨⟨by decide +kernel, by decide +kernel⟩, List.mem_of_getElem? (i := 98) (by decide +kernel), List.mem_of_getElem? (i := 1024) (by decide +kernel), List.mem_of_getElem? (i := 1025) (by decide +kernel)⟩
theorem lw_p37 : lw_okq (⟨"TwoHousesBehindModel", "no", "(I)I"⟩, 52) := ⟨⟨by decide +kernel, by decide +kernel⟩, List.mem_of_getElem? (i := 1063) (by decide +kernel), List.mem_of_getElem? (i := 1236) (by decide +kernel), List.mem_of_getElem? (i := 1237) (by decide +kernel)⟩
theorem lw_p38 : lw_okq (⟨"TwoHousesBehindModel", "notRow", "(I)I"⟩, 52) := ⟨⟨by decide +kernel, by decide +kernel⟩, List.mem_of_getElem? (i := 1063) (by decide +kernel), List.mem_of_getElem? (i := 1244) (by decide +kernel), List.mem_of_getElem? (i := 1245) (by decide +kernel)⟩
theorem lw_p39 : lw_okq (⟨"TwoHousesBehindModel", "notCopy", "(IIIII)I"⟩, 52) := ⟨⟨by decide +kernel, by decide +kernel⟩, List.mem_of_getElem? (i := 1063) (by decide +kernel), List.mem_of_getElem? (i := 1255) (by decide +kernel), List.mem_of_getElem? (i := 1256) (by decide +kernel)⟩
theorem lw_p40 : lw_okq (⟨"TwoHousesBehindModel", "hasCells", "(III)Z"⟩, 52) := ⟨⟨by decide +kernel, by decide +kernel⟩, List.mem_of_getElem? (i := 1063) (by decide +kernel), List.mem_of_getElem? (i := 1259) (by decide +kernel), List.mem_of_getElem? (i := 1260) (by decide +kernel)⟩
theorem lw_p41 : lw_okq (⟨"TwoHousesBehindModel", "isHouse", "(I)Z"⟩, 52) := ⟨⟨by decide +kernel, by decide +kernel⟩, List.mem_of_getElem? (i := 1063) (by decide +kernel), List.mem_of_getElem? (i := 1271) (by decide +kernel), List.mem_of_getElem? (i := 1272) (by decide +kernel)⟩
theorem lw_p42 : lw_okq (⟨"TwoHousesBehindModel", "answerOf", "(III)I"⟩, 52) := ⟨⟨by decide +kernel, by decide +kernel⟩, List.mem_of_getElem? (i := 1063) (by decide +kernel), List.mem_of_getElem? (i := 1286) (by decide +kernel), List.mem_of_getElem? (i := 1287) (by decide +kernel)⟩
theorem lw_p43 : lw_okq (⟨"TwoHousesBehindModel", "makesHouse", "(III)V"⟩, 52) := ⟨⟨by decide +kernel, by decide +kernel⟩, List.mem_of_getElem? (i := 1063) (by decide +kernel), List.mem_of_getElem? (i := 1297) (by decide +kernel), List.mem_of_getElem? (i := 1298) (by decide +kernel)⟩
theorem lw_p44 : lw_okq (⟨"TwoHousesBehindModel", "notWay", "(III)I"⟩, 52) := ⟨⟨by decide +kernel, by decide +kernel⟩, List.mem_of_getElem? (i := 1063) (by decide +kernel), List.mem_of_getElem? (i := 1305) (by decide +kernel), List.mem_of_getElem? (i := 1306) (by decide +kernel)⟩
theorem lw_p45 : lw_okq (⟨"TwoHousesBehindModel", "makesWay", "(III)V"⟩, 52) := ⟨⟨by decide +kernel, by decide +kernel⟩, List.mem_of_getElem? (i := 1063) (by decide +kernel), List.mem_of_getElem? (i := 1309) (by decide +kernel), List.mem_of_getElem? (i := 1310) (by decide +kernel)⟩
theorem lw_p46 : lw_okq (⟨"TwoHousesBehindModel", "intAt", "(II)I"⟩, 52) := ⟨⟨by decide +kernel, by decide +kernel⟩, List.mem_of_getElem? (i := 1063) (by decide +kernel), List.mem_of_getElem? (i := 1317) (by decide +kernel), List.mem_of_getElem? (i := 1318) (by decide +kernel)⟩
theorem lw_p47 : lw_okq (⟨"TwoHousesBehindModel", "isWay", "(I)Z"⟩, 52) := ⟨⟨by decide +kernel, by decide +kernel⟩, List.mem_of_getElem? (i := 1063) (by decide +kernel), List.mem_of_getElem? (i := 1325) (by decide +kernel), List.mem_of_getElem? (i := 1326) (by decide +kernel)⟩
def lw_privs_3 : List (MethodName × Nat) := [(⟨"TwoHousesBehind$Street", "draw", "(I)I"⟩, 10), (⟨"TwoHousesBehind$Acts", "calls", "(II)I"⟩, 5), (⟨"TwoHousesBehind$Acts", "begin", "(I)V"⟩, 5), (⟨"TwoHousesBehind$Acts", "hushes", "(II)I"⟩, 5), (⟨"TwoHousesBehind$Acts", "opens", "(II)I"⟩, 5), (⟨"TwoHousesBehindModel", "no", "(I)I"⟩, 52), (⟨"TwoHousesBehindModel", "notRow", "(I)I"⟩, 52), (⟨"TwoHousesBehindModel", "notCopy", "(IIIII)I"⟩, 52), (⟨"TwoHousesBehindModel", "hasCells", "(III)Z"⟩, 52), (⟨"TwoHousesBehindModel", "isHouse", "(I)Z"⟩, 52), (⟨"TwoHousesBehindModel", "answerOf", "(III)I"⟩, 52), (⟨"TwoHousesBehindModel", "makesHouse", "(III)V"⟩, 52), (⟨"TwoHousesBehindModel", "notWay", "(III)I"⟩, 52), (⟨"TwoHousesBehindModel", "makesWay", "(III)V"⟩, 52), (⟨"TwoHousesBehindModel", "intAt", "(II)I"⟩, 52), (⟨"TwoHousesBehindModel", "isWay", "(I)Z"⟩, 52)]
theorem lw_r3 : ∀ q ∈ lw_privs_3, lw_okq q := List.forall_mem_cons.mpr ⟨lw_p32, List.forall_mem_cons.mpr ⟨lw_p33, List.forall_mem_cons.mpr ⟨lw_p34, List.forall_mem_cons.mpr ⟨lw_p35, List.forall_mem_cons.mpr ⟨lw_p36, List.forall_mem_cons.mpr ⟨lw_p37, List.forall_mem_cons.mpr ⟨lw_p38, List.forall_mem_cons.mpr ⟨lw_p39, List.forall_mem_cons.mpr ⟨lw_p40, List.forall_mem_cons.mpr ⟨lw_p41, List.forall_mem_cons.mpr ⟨lw_p42, List.forall_mem_cons.mpr ⟨lw_p43, List.forall_mem_cons.mpr ⟨lw_p44, List.forall_mem_cons.mpr ⟨lw_p45, List.forall_mem_cons.mpr ⟨lw_p46, List.forall_mem_cons.mpr ⟨lw_p47, fun _ h => absurd h List.not_mem_nil⟩⟩⟩⟩⟩⟩⟩⟩⟩⟩⟩⟩⟩⟩⟩⟩
theorem lw_p48 : lw_okq (⟨"TwoHousesBehindModel", "passesAll", "(IZ)V"⟩, 52) := ⟨⟨by decide +kernel, by decide +kernel⟩, List.mem_of_getElem? (i := 1063) (by decide +kernel), List.mem_of_getElem? (i := 1349) (by decide +kernel), List.mem_of_getElem? (i := 1350) (by decide +kernel)⟩
theorem lw_p49 : lw_okq (⟨"TwoHousesBehindModel", "passes", "([II)V"⟩, 52) := ⟨⟨by decide +kernel, by decide +kernel⟩, List.mem_of_getElem? (i := 1063) (by decide +kernel), List.mem_of_getElem? (i := 1353) (by decide +kernel), List.mem_of_getElem? (i := 1354) (by decide +kernel)⟩
theorem lw_p50 : lw_okq (⟨"TwoHousesBehindModel", "passOne", "(I)I"⟩, 52) := ⟨⟨by decide +kernel, by decide +kernel⟩, List.mem_of_getElem? (i := 1063) (by decide +kernel), List.mem_of_getElem? (i := 1357) (by decide +kernel), List.mem_of_getElem? (i := 1358) (by decide +kernel)⟩
theorem lw_p51 : lw_okq (⟨"TwoHousesBehindModel", "takesItem", "()Z"⟩, 52) := ⟨⟨by decide +kernel, by decide +kernel⟩, List.mem_of_getElem? (i := 1063) (by decide +kernel), List.mem_of_getElem? (i := 1361) (by decide +kernel), List.mem_of_getElem? (i := 1362) (by decide +kernel)⟩
theorem lw_p52 : lw_okq (⟨"TwoHousesBehindModel", "letter", "()I"⟩, 52) := ⟨⟨by decide +kernel, by decide +kernel⟩, List.mem_of_getElem? (i := 1063) (by decide +kernel), List.mem_of_getElem? (i := 1365) (by decide +kernel), List.mem_of_getElem? (i := 1366) (by decide +kernel)⟩
theorem lw_p53 : lw_okq (⟨"TwoHousesBehindModel", "takesHouse", "()Z"⟩, 52) := ⟨⟨by decide +kernel, by decide +kernel⟩, List.mem_of_getElem? (i := 1063) (by decide +kernel), List.mem_of_getElem? (i := 1369) (by decide +kernel), List.mem_of_getElem? (i := 1370) (by decide +kernel)⟩
theorem lw_p54 : lw_okq (⟨"TwoHousesBehindModel", "takesWord", "([I)Z"⟩, 52) := ⟨⟨by decide +kernel, by decide +kernel⟩, List.mem_of_getElem? (i := 1063) (by decide +kernel), List.mem_of_getElem? (i := 1375) (by decide +kernel), List.mem_of_getElem? (i := 1376) (by decide +kernel)⟩
theorem lw_p55 : lw_okq (⟨"TwoHousesBehindModel", "takes", "(I)Z"⟩, 52) := ⟨⟨by decide +kernel, by decide +kernel⟩, List.mem_of_getElem? (i := 1063) (by decide +kernel), List.mem_of_getElem? (i := 1379) (by decide +kernel), List.mem_of_getElem? (i := 1380) (by decide +kernel)⟩
theorem lw_p56 : lw_okq (⟨"TwoHousesBehindModel", "takesNumber", "(II)Z"⟩, 52) := ⟨⟨by decide +kernel, by decide +kernel⟩, List.mem_of_getElem? (i := 1063) (by decide +kernel), List.mem_of_getElem? (i := 1383) (by decide +kernel), List.mem_of_getElem? (i := 1384) (by decide +kernel)⟩
theorem lw_p57 : lw_okq (⟨"TwoHousesBehindModel", "takesWay", "()Z"⟩, 52) := ⟨⟨by decide +kernel, by decide +kernel⟩, List.mem_of_getElem? (i := 1063) (by decide +kernel), List.mem_of_getElem? (i := 1387) (by decide +kernel), List.mem_of_getElem? (i := 1388) (by decide +kernel)⟩
theorem lw_p58 : lw_okq (⟨"TwoHousesBehindModel", "reallyVisits", "(I)I"⟩, 52) := ⟨⟨by decide +kernel, by decide +kernel⟩, List.mem_of_getElem? (i := 1063) (by decide +kernel), List.mem_of_getElem? (i := 1415) (by decide +kernel), List.mem_of_getElem? (i := 1416) (by decide +kernel)⟩
theorem lw_p59 : lw_okq (⟨"TwoHousesBehindModel", "visits", "(II)V"⟩, 52) := ⟨⟨by decide +kernel, by decide +kernel⟩, List.mem_of_getElem? (i := 1063) (by decide +kernel), List.mem_of_getElem? (i := 1419) (by decide +kernel), List.mem_of_getElem? (i := 1420) (by decide +kernel)⟩
theorem lw_p60 : lw_okq (⟨"TwoHousesBehindModel", "speaksNext", "(I)I"⟩, 52) := ⟨⟨by decide +kernel, by decide +kernel⟩, List.mem_of_getElem? (i := 1063) (by decide +kernel), List.mem_of_getElem? (i := 1423) (by decide +kernel), List.mem_of_getElem? (i := 1424) (by decide +kernel)⟩
theorem lw_p61 : lw_okq (⟨"TwoHousesBehindModel", "isOpen", "(I)Z"⟩, 52) := ⟨⟨by decide +kernel, by decide +kernel⟩, List.mem_of_getElem? (i := 1063) (by decide +kernel), List.mem_of_getElem? (i := 1431) (by decide +kernel), List.mem_of_getElem? (i := 1432) (by decide +kernel)⟩
theorem lw_p62 : lw_okq (⟨"TwoHousesBehindModel", "isOf", "(II)Z"⟩, 52) := ⟨⟨by decide +kernel, by decide +kernel⟩, List.mem_of_getElem? (i := 1063) (by decide +kernel), List.mem_of_getElem? (i := 1435) (by decide +kernel), List.mem_of_getElem? (i := 1436) (by decide +kernel)⟩
theorem lw_p63 : lw_okq (⟨"TwoHousesBehindModel", "goesBy", "(I)I"⟩, 52) := ⟨⟨by decide +kernel, by decide +kernel⟩, List.mem_of_getElem? (i := 1063) (by decide +kernel), List.mem_of_getElem? (i := 1439) (by decide +kernel), List.mem_of_getElem? (i := 1440) (by decide +kernel)⟩
def lw_privs_4 : List (MethodName × Nat) := [(⟨"TwoHousesBehindModel", "passesAll", "(IZ)V"⟩, 52), (⟨"TwoHousesBehindModel", "passes", "([II)V"⟩, 52), (⟨"TwoHousesBehindModel", "passOne", "(I)I"⟩, 52), (⟨"TwoHousesBehindModel", "takesItem", "()Z"⟩, 52), (⟨"TwoHousesBehindModel", "letter", "()I"⟩, 52), (⟨"TwoHousesBehindModel", "takesHouse", "()Z"⟩, 52), (⟨"TwoHousesBehindModel", "takesWord", "([I)Z"⟩, 52), (⟨"TwoHousesBehindModel", "takes", "(I)Z"⟩, 52), (⟨"TwoHousesBehindModel", "takesNumber", "(II)Z"⟩, 52), (⟨"TwoHousesBehindModel", "takesWay", "()Z"⟩, 52), (⟨"TwoHousesBehindModel", "reallyVisits", "(I)I"⟩, 52), (⟨"TwoHousesBehindModel", "visits", "(II)V"⟩, 52), (⟨"TwoHousesBehindModel", "speaksNext", "(I)I"⟩, 52), (⟨"TwoHousesBehindModel", "isOpen", "(I)Z"⟩, 52), (⟨"TwoHousesBehindModel", "isOf", "(II)Z"⟩, 52), (⟨"TwoHousesBehindModel", "goesBy", "(I)I"⟩, 52)]
theorem lw_r4 : ∀ q ∈ lw_privs_4, lw_okq q := List.forall_mem_cons.mpr ⟨lw_p48, List.forall_mem_cons.mpr ⟨lw_p49, List.forall_mem_cons.mpr ⟨lw_p50, List.forall_mem_cons.mpr ⟨lw_p51, List.forall_mem_cons.mpr ⟨lw_p52, List.forall_mem_cons.mpr ⟨lw_p53, List.forall_mem_cons.mpr ⟨lw_p54, List.forall_mem_cons.mpr ⟨lw_p55, List.forall_mem_cons.mpr ⟨lw_p56, List.forall_mem_cons.mpr ⟨lw_p57, List.forall_mem_cons.mpr ⟨lw_p58, List.forall_mem_cons.mpr ⟨lw_p59, List.forall_mem_cons.mpr ⟨lw_p60, List.forall_mem_cons.mpr ⟨lw_p61, List.forall_mem_cons.mpr ⟨lw_p62, List.forall_mem_cons.mpr ⟨lw_p63, fun _ h => absurd h List.not_mem_nil⟩⟩⟩⟩⟩⟩⟩⟩⟩⟩⟩⟩⟩⟩⟩⟩
theorem lw_p64 : lw_okq (⟨"TwoHousesBehindModel", "noTen", "(I)I"⟩, 52) := ⟨⟨by decide +kernel, by decide +kernel⟩, List.mem_of_getElem? (i := 1063) (by decide +kernel), List.mem_of_getElem? (i := 1463) (by decide +kernel), List.mem_of_getElem? (i := 1464) (by decide +kernel)⟩
theorem lw_p65 : lw_okq (⟨"TwoHousesBehindModel", "betweenOf", "(II)I"⟩, 52) := ⟨⟨by decide +kernel, by decide +kernel⟩, List.mem_of_getElem? (i := 1063) (by decide +kernel), List.mem_of_getElem? (i := 1467) (by decide +kernel), List.mem_of_getElem? (i := 1468) (by decide +kernel)⟩
theorem lw_p66 : lw_okq (⟨"TwoHousesBehindModel", "openAt", "(I)I"⟩, 52) := ⟨⟨by decide +kernel, by decide +kernel⟩, List.mem_of_getElem? (i := 1063) (by decide +kernel), List.mem_of_getElem? (i := 1475) (by decide +kernel), List.mem_of_getElem? (i := 1476) (by decide +kernel)⟩
theorem lw_p67 : lw_okq (⟨"TwoHousesBehindModel", "draw", "(I)I"⟩, 52) := ⟨⟨by decide +kernel, by decide +kernel⟩, List.mem_of_getElem? (i := 1063) (by decide +kernel), List.mem_of_getElem? (i := 1479) (by decide +kernel), List.mem_of_getElem? (i := 1480) (by decide +kernel)⟩
theorem lw_p68 : lw_okq (⟨"TwoHousesBehindModel", "notRoute", "(III)I"⟩, 52) := ⟨⟨by decide +kernel, by decide +kernel⟩, List.mem_of_getElem? (i := 1063) (by decide +kernel), List.mem_of_getElem? (i := 1503) (by decide +kernel), List.mem_of_getElem? (i := 1504) (by decide +kernel)⟩
theorem lw_p69 : lw_okq (⟨"TwoHousesBehindModel", "goesRoute", "(II)I"⟩, 52) := ⟨⟨by decide +kernel, by decide +kernel⟩, List.mem_of_getElem? (i := 1063) (by decide +kernel), List.mem_of_getElem? (i := 1507) (by decide +kernel), List.mem_of_getElem? (i := 1508) (by decide +kernel)⟩
theorem lw_p70 : lw_okq (⟨"TwoHousesBehindModel", "copies", "(II)V"⟩, 52) := ⟨⟨by decide +kernel, by decide +kernel⟩, List.mem_of_getElem? (i := 1063) (by decide +kernel), List.mem_of_getElem? (i := 1511) (by decide +kernel), List.mem_of_getElem? (i := 1512) (by decide +kernel)⟩
theorem lw_p71 : lw_okq (⟨"TwoHousesBehindModel", "begins", "(I)V"⟩, 52) := ⟨⟨by decide +kernel, by decide +kernel⟩, List.mem_of_getElem? (i := 1063) (by decide +kernel), List.mem_of_getElem? (i := 1515) (by decide +kernel), List.mem_of_getElem? (i := 1516) (by decide +kernel)⟩
theorem lw_p72 : lw_okq (⟨"TwoHousesBehindModel", "beginsRoutes", "(IZ)V"⟩, 52) := ⟨⟨by decide +kernel, by decide +kernel⟩, List.mem_of_getElem? (i := 1063) (by decide +kernel), List.mem_of_getElem? (i := 1535) (by decide +kernel), List.mem_of_getElem? (i := 1536) (by decide +kernel)⟩
theorem lw_p73 : lw_okq (⟨"TwoHousesBehindModel", "hasNext", "()Z"⟩, 52) := ⟨⟨by decide +kernel, by decide +kernel⟩, List.mem_of_getElem? (i := 1063) (by decide +kernel), List.mem_of_getElem? (i := 1539) (by decide +kernel), List.mem_of_getElem? (i := 1540) (by decide +kernel)⟩
theorem lw_p74 : lw_okq (⟨"TwoHousesBehindModel", "leadsTo", "(I)I"⟩, 52) := ⟨⟨by decide +kernel, by decide +kernel⟩, List.mem_of_getElem? (i := 1063) (by decide +kernel), List.mem_of_getElem? (i := 1543) (by decide +kernel), List.mem_of_getElem? (i := 1544) (by decide +kernel)⟩
theorem lw_p75 : lw_okq (⟨"TwoHousesBehindModel", "goesTo", "(II)V"⟩, 52) := ⟨⟨by decide +kernel, by decide +kernel⟩, List.mem_of_getElem? (i := 1063) (by decide +kernel), List.mem_of_getElem? (i := 1547) (by decide +kernel), List.mem_of_getElem? (i := 1548) (by decide +kernel)⟩
theorem lw_p76 : lw_okq (⟨"TwoHousesBehindModel", "isBetter", "()Z"⟩, 52) := ⟨⟨by decide +kernel, by decide +kernel⟩, List.mem_of_getElem? (i := 1063) (by decide +kernel), List.mem_of_getElem? (i := 1552) (by decide +kernel), List.mem_of_getElem? (i := 1553) (by decide +kernel)⟩
theorem lw_p77 : lw_okq (⟨"TwoHousesBehindModel", "takesBest", "()V"⟩, 52) := ⟨⟨by decide +kernel, by decide +kernel⟩, List.mem_of_getElem? (i := 1063) (by decide +kernel), List.mem_of_getElem? (i := 1556) (by decide +kernel), List.mem_of_getElem? (i := 1557) (by decide +kernel)⟩
theorem lw_p78 : lw_okq (⟨"TwoHousesBehindModel", "toldOf", "(I)I"⟩, 52) := ⟨⟨by decide +kernel, by decide +kernel⟩, List.mem_of_getElem? (i := 1063) (by decide +kernel), List.mem_of_getElem? (i := 1560) (by decide +kernel), List.mem_of_getElem? (i := 1561) (by decide +kernel)⟩
theorem lw_p79 : lw_okq (⟨"TwoHousesBehindModel", "doAllHear", "(II)Z"⟩, 52) := ⟨⟨by decide +kernel, by decide +kernel⟩, List.mem_of_getElem? (i := 1063) (by decide +kernel), List.mem_of_getElem? (i := 1568) (by decide +kernel), List.mem_of_getElem? (i := 1569) (by decide +kernel)⟩
def lw_privs_5 : List (MethodName × Nat) := [(⟨"TwoHousesBehindModel", "noTen", "(I)I"⟩, 52), (⟨"TwoHousesBehindModel", "betweenOf", "(II)I"⟩, 52), (⟨"TwoHousesBehindModel", "openAt", "(I)I"⟩, 52), (⟨"TwoHousesBehindModel", "draw", "(I)I"⟩, 52), (⟨"TwoHousesBehindModel", "notRoute", "(III)I"⟩, 52), (⟨"TwoHousesBehindModel", "goesRoute", "(II)I"⟩, 52), (⟨"TwoHousesBehindModel", "copies", "(II)V"⟩, 52), (⟨"TwoHousesBehindModel", "begins", "(I)V"⟩, 52), (⟨"TwoHousesBehindModel", "beginsRoutes", "(IZ)V"⟩, 52), (⟨"TwoHousesBehindModel", "hasNext", "()Z"⟩, 52), (⟨"TwoHousesBehindModel", "leadsTo", "(I)I"⟩, 52), (⟨"TwoHousesBehindModel", "goesTo", "(II)V"⟩, 52), (⟨"TwoHousesBehindModel", "isBetter", "()Z"⟩, 52), (⟨"TwoHousesBehindModel", "takesBest", "()V"⟩, 52), (⟨"TwoHousesBehindModel", "toldOf", "(I)I"⟩, 52), (⟨"TwoHousesBehindModel", "doAllHear", "(II)Z"⟩, 52)]
theorem lw_r5 : ∀ q ∈ lw_privs_5, lw_okq q := List.forall_mem_cons.mpr ⟨lw_p64, List.forall_mem_cons.mpr ⟨lw_p65, List.forall_mem_cons.mpr ⟨lw_p66, List.forall_mem_cons.mpr ⟨lw_p67, List.forall_mem_cons.mpr ⟨lw_p68, List.forall_mem_cons.mpr ⟨lw_p69, List.forall_mem_cons.mpr ⟨lw_p70, List.forall_mem_cons.mpr ⟨lw_p71, List.forall_mem_cons.mpr ⟨lw_p72, List.forall_mem_cons.mpr ⟨lw_p73, List.forall_mem_cons.mpr ⟨lw_p74, List.forall_mem_cons.mpr ⟨lw_p75, List.forall_mem_cons.mpr ⟨lw_p76, List.forall_mem_cons.mpr ⟨lw_p77, List.forall_mem_cons.mpr ⟨lw_p78, List.forall_mem_cons.mpr ⟨lw_p79, fun _ h => absurd h List.not_mem_nil⟩⟩⟩⟩⟩⟩⟩⟩⟩⟩⟩⟩⟩⟩⟩⟩
theorem lw_p80 : lw_okq (⟨"TwoHousesBehindModel", "findFits", "(II)V"⟩, 52) := ⟨⟨by decide +kernel, by decide +kernel⟩, List.mem_of_getElem? (i := 1063) (by decide +kernel), List.mem_of_getElem? (i := 1576) (by decide +kernel), List.mem_of_getElem? (i := 1577) (by decide +kernel)⟩
theorem lw_p81 : lw_okq (⟨"TwoHousesBehindModel", "doesShutTwice", "(I)Z"⟩, 52) := ⟨⟨by decide +kernel, by decide +kernel⟩, List.mem_of_getElem? (i := 1063) (by decide +kernel), List.mem_of_getElem? (i := 1592) (by decide +kernel), List.mem_of_getElem? (i := 1593) (by decide +kernel)⟩
theorem lw_p82 : lw_okq (⟨"TwoHousesBehindModel", "canHear", "(III)Z"⟩, 52) := ⟨⟨by decide +kernel, by decide +kernel⟩, List.mem_of_getElem? (i := 1063) (by decide +kernel), List.mem_of_getElem? (i := 1596) (by decide +kernel), List.mem_of_getElem? (i := 1597) (by decide +kernel)⟩
theorem lw_p83 : lw_okq (⟨"TwoHousesBehindModel", "callsOf", "(II)I"⟩, 52) := ⟨⟨by decide +kernel, by decide +kernel⟩, List.mem_of_getElem? (i := 1063) (by decide +kernel), List.mem_of_getElem? (i := 1612) (by decide +kernel), List.mem_of_getElem? (i := 1613) (by decide +kernel)⟩
theorem lw_p84 : lw_okq (⟨"TwoHousesBehindModel", "note", "(I)V"⟩, 52) := ⟨⟨by decide +kernel, by decide +kernel⟩, List.mem_of_getElem? (i := 1063) (by decide +kernel), List.mem_of_getElem? (i := 1616) (by decide +kernel), List.mem_of_getElem? (i := 1617) (by decide +kernel)⟩
theorem lw_p85 : lw_okq (⟨"TwoHousesBehindModel", "hushesOf", "(II)I"⟩, 52) := ⟨⟨by decide +kernel, by decide +kernel⟩, List.mem_of_getElem? (i := 1063) (by decide +kernel), List.mem_of_getElem? (i := 1620) (by decide +kernel), List.mem_of_getElem? (i := 1621) (by decide +kernel)⟩
theorem lw_p86 : lw_okq (⟨"TwoHousesBehindModel", "plainHushes", "(II)I"⟩, 52) := ⟨⟨by decide +kernel, by decide +kernel⟩, List.mem_of_getElem? (i := 1063) (by decide +kernel), List.mem_of_getElem? (i := 1624) (by decide +kernel), List.mem_of_getElem? (i := 1625) (by decide +kernel)⟩
theorem lw_p87 : lw_okq (⟨"TwoHousesBehindModel", "opensOf", "(II)I"⟩, 52) := ⟨⟨by decide +kernel, by decide +kernel⟩, List.mem_of_getElem? (i := 1063) (by decide +kernel), List.mem_of_getElem? (i := 1628) (by decide +kernel), List.mem_of_getElem? (i := 1629) (by decide +kernel)⟩
theorem lw_p88 : lw_okq (⟨"TwoHousesBehindModel", "plainOpens", "(II)I"⟩, 52) := ⟨⟨by decide +kernel, by decide +kernel⟩, List.mem_of_getElem? (i := 1063) (by decide +kernel), List.mem_of_getElem? (i := 1632) (by decide +kernel), List.mem_of_getElem? (i := 1633) (by decide +kernel)⟩
def lw_privs_6 : List (MethodName × Nat) := [(⟨"TwoHousesBehindModel", "findFits", "(II)V"⟩, 52), (⟨"TwoHousesBehindModel", "doesShutTwice", "(I)Z"⟩, 52), (⟨"TwoHousesBehindModel", "canHear", "(III)Z"⟩, 52), (⟨"TwoHousesBehindModel", "callsOf", "(II)I"⟩, 52), (⟨"TwoHousesBehindModel", "note", "(I)V"⟩, 52), (⟨"TwoHousesBehindModel", "hushesOf", "(II)I"⟩, 52), (⟨"TwoHousesBehindModel", "plainHushes", "(II)I"⟩, 52), (⟨"TwoHousesBehindModel", "opensOf", "(II)I"⟩, 52), (⟨"TwoHousesBehindModel", "plainOpens", "(II)I"⟩, 52)]
theorem lw_r6 : ∀ q ∈ lw_privs_6, lw_okq q := List.forall_mem_cons.mpr ⟨lw_p80, List.forall_mem_cons.mpr ⟨lw_p81, List.forall_mem_cons.mpr ⟨lw_p82, List.forall_mem_cons.mpr ⟨lw_p83, List.forall_mem_cons.mpr ⟨lw_p84, List.forall_mem_cons.mpr ⟨lw_p85, List.forall_mem_cons.mpr ⟨lw_p86, List.forall_mem_cons.mpr ⟨lw_p87, List.forall_mem_cons.mpr ⟨lw_p88, fun _ h => absurd h List.not_mem_nil⟩⟩⟩⟩⟩⟩⟩⟩⟩
def lw_privs : List (MethodName × Nat) := lw_privs_1 ++ (lw_privs_2 ++ (lw_privs_3 ++ (lw_privs_4 ++ (lw_privs_5 ++ (lw_privs_6)))))
def lw_tbl : List Cond := k2_sels lw_privs ++ tables_1
theorem lw_privs_ok : ∀ q ∈ lw_privs, lw_okq q := by
  show ∀ q ∈ lw_privs_1 ++ (lw_privs_2 ++ (lw_privs_3 ++ (lw_privs_4 ++ (lw_privs_5 ++ (lw_privs_6))))), lw_okq q
  exact List.forall_mem_append.mpr ⟨lw_r1, List.forall_mem_append.mpr ⟨lw_r2, List.forall_mem_append.mpr ⟨lw_r3, List.forall_mem_append.mpr ⟨lw_r4, List.forall_mem_append.mpr ⟨lw_r5, lw_r6⟩⟩⟩⟩⟩
-- ===== end of PART A; then your names; then what follows =====
end
section
/-! ===== BEGIN printed: names, fields, word lists, decode rows ===== -/
def RX0 : String := "TwoHousesBehind$Acts"
def TX0 : u_T := fun k => match k with
  | 0 => ("TwoHousesBehind$Acts", "bodies", "LTwoHousesBehind$Cells;", true)
  | 1 => ("TwoHousesBehind$Acts", "ran", "I", false)
  | 2 => ("TwoHousesBehind$Acts", "ownKind", "I", false)
  | 3 => ("TwoHousesBehind$Acts", "number", "I", false)
  | _ => ("TwoHousesBehind$Acts", "a", "I", false)
def tyX0 : Nat → FieldType := fun k => match k with
  | 0 => .object "TwoHousesBehind$Cells"
  | 1 => .int
  | 2 => .int
  | 3 => .int
  | _ => .int
abbrev wsX00 : List Cond := u_ws RX0 TX0 5
theorem nmX0 : ∀ a, a < 5 → ∀ b, b < 5 → a ≠ b → (TX0 a).2.1 ≠ (TX0 b).2.1 := by decide +kernel
theorem tyX0_ok : ∀ k, k < 5 → parseFieldDescriptor (TX0 k).2.2.1 = some (tyX0 k) := by decide +kernel
abbrev cX0_init : ByteArray := prog_2_method_1_code
def yX0_init : MethodName := ⟨RX0, "<init>", "()V"⟩
abbrev cX0_howManyRan : ByteArray := prog_2_method_2_code
def yX0_howManyRan : MethodName := ⟨RX0, "howManyRan", "()I"⟩
abbrev cX0_bodyAt : ByteArray := prog_2_method_3_code
def yX0_bodyAt : MethodName := ⟨RX0, "bodyAt", "(I)I"⟩
abbrev cX0_clearTrace : ByteArray := prog_2_method_4_code
def yX0_clearTrace : MethodName := ⟨RX0, "clearTrace", "()V"⟩
abbrev cX0_perform : ByteArray := prog_2_method_5_code
def yX0_perform : MethodName := ⟨RX0, "perform", "(IIIII)I"⟩
abbrev cX0_begin : ByteArray := prog_2_method_6_code
def yX0_begin : MethodName := ⟨RX0, "begin", "(I)V"⟩
abbrev cX0_calls : ByteArray := prog_2_method_7_code
def yX0_calls : MethodName := ⟨RX0, "calls", "(II)I"⟩
abbrev cX0_hushes : ByteArray := prog_2_method_8_code
def yX0_hushes : MethodName := ⟨RX0, "hushes", "(II)I"⟩
abbrev cX0_opens : ByteArray := prog_2_method_9_code
def yX0_opens : MethodName := ⟨RX0, "opens", "(II)I"⟩
def RX1 : String := "TwoHousesBehind$Cells"
def TX1 : u_T := fun k => match k with
  | _ => ("TwoHousesBehind$Cells", "cells", "[I", true)
def tyX1 : Nat → FieldType := fun k => match k with
  | _ => .array .int
abbrev wsX10 : List Cond := u_ws RX1 TX1 1
theorem nmX1 : ∀ a, a < 1 → ∀ b, b < 1 → a ≠ b → (TX1 a).2.1 ≠ (TX1 b).2.1 := by decide +kernel
theorem tyX1_ok : ∀ k, k < 1 → parseFieldDescriptor (TX1 k).2.2.1 = some (tyX1 k) := by decide +kernel
abbrev cX1_init : ByteArray := prog_3_method_1_code
def yX1_init : MethodName := ⟨RX1, "<init>", "(I)V"⟩
abbrev cX1_get : ByteArray := prog_3_method_2_code
def yX1_get : MethodName := ⟨RX1, "get", "(I)I"⟩
abbrev cX1_keep : ByteArray := prog_3_method_3_code
def yX1_keep : MethodName := ⟨RX1, "keep", "(II)V"⟩
abbrev cX1_becomeAs : ByteArray := prog_3_method_4_code
def yX1_becomeAs : MethodName := ⟨RX1, "becomeAs", "(LTwoHousesBehind$Cells;)V"⟩
abbrev cX1_clear : ByteArray := prog_3_method_5_code
def yX1_clear : MethodName := ⟨RX1, "clear", "()V"⟩
def RX2 : String := "TwoHousesBehind$Kinds"
def TX2 : u_T := fun k => match k with
  | _ => ("", "", "", false)
def tyX2 : Nat → FieldType := fun k => match k with
  | _ => .int
abbrev wsX20 : List Cond := u_ws RX2 TX2 0
theorem nmX2 : ∀ a, a < 0 → ∀ b, b < 0 → a ≠ b → (TX2 a).2.1 ≠ (TX2 b).2.1 := by decide +kernel
theorem tyX2_ok : ∀ k, k < 0 → parseFieldDescriptor (TX2 k).2.2.1 = some (tyX2 k) := by decide +kernel
abbrev cX2_isKind : ByteArray := prog_4_method_2_code
def yX2_isKind : MethodName := ⟨RX2, "isKind", "(I)Z"⟩
abbrev cX2_above : ByteArray := prog_4_method_3_code
def yX2_above : MethodName := ⟨RX2, "above", "(I)I"⟩
abbrev cX2_isUnder : ByteArray := prog_4_method_4_code
def yX2_isUnder : MethodName := ⟨RX2, "isUnder", "(II)Z"⟩
def RX3 : String := "TwoHousesBehind$Reader"
def TX3 : u_T := fun k => match k with
  | 0 => ("TwoHousesBehind$Reader", "shelves", "LTwoHousesBehind$Shelves;", true)
  | 1 => ("TwoHousesBehind$Reader", "draft", "LTwoHousesBehind$Street;", true)
  | 2 => ("TwoHousesBehind$Reader", "letters", "LTwoHousesBehind$Cells;", true)
  | 3 => ("TwoHousesBehind$Reader", "at", "I", false)
  | _ => ("TwoHousesBehind$Reader", "faultAt", "I", false)
def tyX3 : Nat → FieldType := fun k => match k with
  | 0 => .object "TwoHousesBehind$Shelves"
  | 1 => .object "TwoHousesBehind$Street"
  | 2 => .object "TwoHousesBehind$Cells"
  | 3 => .int
  | _ => .int
abbrev wsX30 : List Cond := u_ws RX3 TX3 5
theorem nmX3 : ∀ a, a < 5 → ∀ b, b < 5 → a ≠ b → (TX3 a).2.1 ≠ (TX3 b).2.1 := by decide +kernel
theorem tyX3_ok : ∀ k, k < 5 → parseFieldDescriptor (TX3 k).2.2.1 = some (tyX3 k) := by decide +kernel
abbrev cX3_init : ByteArray := prog_5_method_1_code
def yX3_init : MethodName := ⟨RX3, "<init>", "(LTwoHousesBehind$Shelves;LTwoHousesBehind$Street;)V"⟩
abbrev cX3_faultFound : ByteArray := prog_5_method_2_code
def yX3_faultFound : MethodName := ⟨RX3, "faultFound", "()I"⟩
abbrev cX3_readItems : ByteArray := prog_5_method_3_code
def yX3_readItems : MethodName := ⟨RX3, "readItems", "(I)I"⟩
abbrev cX3_fail : ByteArray := prog_5_method_4_code
def yX3_fail : MethodName := ⟨RX3, "fail", "(I)V"⟩
abbrev cX3_readLetter : ByteArray := prog_5_method_5_code
def yX3_readLetter : MethodName := ⟨RX3, "readLetter", "(C)V"⟩
abbrev cX3_readWord : ByteArray := prog_5_method_6_code
def yX3_readWord : MethodName := ⟨RX3, "readWord", "(Ljava/lang/String;Z)V"⟩
abbrev cX3_isDigit : ByteArray := prog_5_method_7_code
def yX3_isDigit : MethodName := ⟨RX3, "isDigit", "()Z"⟩
abbrev cX3_readNumber : ByteArray := prog_5_method_8_code
def yX3_readNumber : MethodName := ⟨RX3, "readNumber", "(III)I"⟩
abbrev cX3_readItem : ByteArray := prog_5_method_9_code
def yX3_readItem : MethodName := ⟨RX3, "readItem", "()V"⟩
abbrev cX3_readHouse : ByteArray := prog_5_method_10_code
def yX3_readHouse : MethodName := ⟨RX3, "readHouse", "()V"⟩
abbrev cX3_readWay : ByteArray := prog_5_method_11_code
def yX3_readWay : MethodName := ⟨RX3, "readWay", "()V"⟩
abbrev cX3_readShut : ByteArray := prog_5_method_12_code
def yX3_readShut : MethodName := ⟨RX3, "readShut", "()V"⟩
abbrev cX3_readLag : ByteArray := prog_5_method_13_code
def yX3_readLag : MethodName := ⟨RX3, "readLag", "()V"⟩
abbrev cX3_readBird : ByteArray := prog_5_method_14_code
def yX3_readBird : MethodName := ⟨RX3, "readBird", "()V"⟩
def RX4 : String := "TwoHousesBehind$Search"
def TX4 : u_T := fun k => match k with
  | 0 => ("TwoHousesBehind$Search", "street", "LTwoHousesBehind$Street;", true)
  | 1 => ("TwoHousesBehind$Search", "walk", "LTwoHousesBehind$Walk;", true)
  | 2 => ("TwoHousesBehind$Search", "houses", "LTwoHousesBehind$Cells;", true)
  | 3 => ("TwoHousesBehind$Search", "found", "I", false)
  | 4 => ("TwoHousesBehind$Search", "ends", "I", false)
  | 5 => ("TwoHousesBehind$Search", "minutes", "I", false)
  | _ => ("TwoHousesBehind$Search", "visits", "I", false)
def tyX4 : Nat → FieldType := fun k => match k with
  | 0 => .object "TwoHousesBehind$Street"
  | 1 => .object "TwoHousesBehind$Walk"
  | 2 => .object "TwoHousesBehind$Cells"
  | 3 => .int
  | 4 => .int
  | 5 => .int
  | _ => .int
abbrev wsX40 : List Cond := u_ws RX4 TX4 7
theorem nmX4 : ∀ a, a < 7 → ∀ b, b < 7 → a ≠ b → (TX4 a).2.1 ≠ (TX4 b).2.1 := by decide +kernel
theorem tyX4_ok : ∀ k, k < 7 → parseFieldDescriptor (TX4 k).2.2.1 = some (tyX4 k) := by decide +kernel
abbrev cX4_init : ByteArray := prog_6_method_1_code
def yX4_init : MethodName := ⟨RX4, "<init>", "(LTwoHousesBehind$Street;LTwoHousesBehind$Walk;)V"⟩
abbrev cX4_countFound : ByteArray := prog_6_method_2_code
def yX4_countFound : MethodName := ⟨RX4, "countFound", "()I"⟩
abbrev cX4_endsFound : ByteArray := prog_6_method_3_code
def yX4_endsFound : MethodName := ⟨RX4, "endsFound", "()I"⟩
abbrev cX4_houseFound : ByteArray := prog_6_method_4_code
def yX4_houseFound : MethodName := ⟨RX4, "houseFound", "(I)I"⟩
abbrev cX4_keepRoute : ByteArray := prog_6_method_5_code
def yX4_keepRoute : MethodName := ⟨RX4, "keepRoute", "()V"⟩
abbrev cX4_hearsAll : ByteArray := prog_6_method_6_code
def yX4_hearsAll : MethodName := ⟨RX4, "hearsAll", "(II)Z"⟩
abbrev cX4_hearsAny : ByteArray := prog_6_method_7_code
def yX4_hearsAny : MethodName := ⟨RX4, "hearsAny", "(II)Z"⟩
abbrev cX4_isHeardBy : ByteArray := prog_6_method_8_code
def yX4_isHeardBy : MethodName := ⟨RX4, "isHeardBy", "(III)Z"⟩
abbrev cX4_isQuicker : ByteArray := prog_6_method_9_code
def yX4_isQuicker : MethodName := ⟨RX4, "isQuicker", "()Z"⟩
abbrev cX4_quickest : ByteArray := prog_6_method_10_code
def yX4_quickest : MethodName := ⟨RX4, "quickest", "(IIIIZ)LTwoHousesBehind$Search;"⟩
abbrev cX4_told : ByteArray := prog_6_method_11_code
def yX4_told : MethodName := ⟨RX4, "told", "(I)I"⟩
abbrev cX4_speaksAs : ByteArray := prog_6_method_12_code
def yX4_speaksAs : MethodName := ⟨RX4, "speaksAs", "(LTwoHousesBehind$Shelves;II)Z"⟩
abbrev cX4_fit : ByteArray := prog_6_method_13_code
def yX4_fit : MethodName := ⟨RX4, "fit", "(LTwoHousesBehind$Shelves;II)V"⟩
abbrev cX4_oddsToHear : ByteArray := prog_6_method_14_code
def yX4_oddsToHear : MethodName := ⟨RX4, "oddsToHear", "(III)J"⟩
abbrev cX4_oddsOfWalk : ByteArray := prog_6_method_15_code
def yX4_oddsOfWalk : MethodName := ⟨RX4, "oddsOfWalk", "(I)J"⟩
abbrev cX4_isSilentWithout : ByteArray := prog_6_method_16_code
def yX4_isSilentWithout : MethodName := ⟨RX4, "isSilentWithout", "(IIII)Z"⟩
abbrev cX4_fewestToShut : ByteArray := prog_6_method_17_code
def yX4_fewestToShut : MethodName := ⟨RX4, "fewestToShut", "(III)I"⟩
abbrev cX4_wordsInReach : ByteArray := prog_6_method_18_code
def yX4_wordsInReach : MethodName := ⟨RX4, "wordsInReach", "(II)I"⟩
abbrev cX4_fewestVisits : ByteArray := prog_6_method_19_code
def yX4_fewestVisits : MethodName := ⟨RX4, "fewestVisits", "(III)I"⟩
def RX5 : String := "TwoHousesBehind$Shelves"
def TX5 : u_T := fun k => match k with
  | 0 => ("TwoHousesBehind$Shelves", "elements", "[J", true)
  | 1 => ("TwoHousesBehind$Shelves", "holdings", "LTwoHousesBehind$Cells;", true)
  | _ => ("TwoHousesBehind$Shelves", "sizes", "LTwoHousesBehind$Cells;", true)
def tyX5 : Nat → FieldType := fun k => match k with
  | 0 => .array .long
  | 1 => .object "TwoHousesBehind$Cells"
  | _ => .object "TwoHousesBehind$Cells"
abbrev wsX50 : List Cond := u_ws RX5 TX5 3
theorem nmX5 : ∀ a, a < 3 → ∀ b, b < 3 → a ≠ b → (TX5 a).2.1 ≠ (TX5 b).2.1 := by decide +kernel
theorem tyX5_ok : ∀ k, k < 3 → parseFieldDescriptor (TX5 k).2.2.1 = some (tyX5 k) := by decide +kernel
abbrev cX5_init : ByteArray := prog_7_method_1_code
def yX5_init : MethodName := ⟨RX5, "<init>", "()V"⟩
abbrev cX5_isShelf : ByteArray := prog_7_method_2_code
def yX5_isShelf : MethodName := ⟨RX5, "isShelf", "(I)Z"⟩
abbrev cX5_isSort : ByteArray := prog_7_method_3_code
def yX5_isSort : MethodName := ⟨RX5, "isSort", "(I)Z"⟩
abbrev cX5_holding : ByteArray := prog_7_method_4_code
def yX5_holding : MethodName := ⟨RX5, "holding", "(I)I"⟩
abbrev cX5_isRow : ByteArray := prog_7_method_5_code
def yX5_isRow : MethodName := ⟨RX5, "isRow", "(I)Z"⟩
abbrev cX5_isHouse : ByteArray := prog_7_method_6_code
def yX5_isHouse : MethodName := ⟨RX5, "isHouse", "(I)Z"⟩
abbrev cX5_size : ByteArray := prog_7_method_7_code
def yX5_size : MethodName := ⟨RX5, "size", "(I)I"⟩
abbrev cX5_troubleWithRow : ByteArray := prog_7_method_8_code
def yX5_troubleWithRow : MethodName := ⟨RX5, "troubleWithRow", "(I)I"⟩
abbrev cX5_troubleWithTwoRows : ByteArray := prog_7_method_9_code
def yX5_troubleWithTwoRows : MethodName := ⟨RX5, "troubleWithTwoRows", "(II)I"⟩
abbrev cX5_troubleWithHouse : ByteArray := prog_7_method_10_code
def yX5_troubleWithHouse : MethodName := ⟨RX5, "troubleWithHouse", "(I)I"⟩
abbrev cX5_troubleWithStart : ByteArray := prog_7_method_11_code
def yX5_troubleWithStart : MethodName := ⟨RX5, "troubleWithStart", "(II)I"⟩
abbrev cX5_hasElement : ByteArray := prog_7_method_12_code
def yX5_hasElement : MethodName := ⟨RX5, "hasElement", "(II)Z"⟩
abbrev cX5_hasElements : ByteArray := prog_7_method_13_code
def yX5_hasElements : MethodName := ⟨RX5, "hasElements", "(III)Z"⟩
abbrev cX5_holdRow : ByteArray := prog_7_method_14_code
def yX5_holdRow : MethodName := ⟨RX5, "holdRow", "(III)V"⟩
abbrev cX5_holdHouse : ByteArray := prog_7_method_15_code
def yX5_holdHouse : MethodName := ⟨RX5, "holdHouse", "(II)V"⟩
abbrev cX5_dropHousesFrom : ByteArray := prog_7_method_16_code
def yX5_dropHousesFrom : MethodName := ⟨RX5, "dropHousesFrom", "(I)V"⟩
abbrev cX5_elementAt : ByteArray := prog_7_method_17_code
def yX5_elementAt : MethodName := ⟨RX5, "elementAt", "(II)J"⟩
abbrev cX5_intAt : ByteArray := prog_7_method_18_code
def yX5_intAt : MethodName := ⟨RX5, "intAt", "(II)I"⟩
abbrev cX5_keepElement : ByteArray := prog_7_method_19_code
def yX5_keepElement : MethodName := ⟨RX5, "keepElement", "(IIJ)V"⟩
abbrev cX5_lowestBits : ByteArray := prog_7_method_20_code
def yX5_lowestBits : MethodName := ⟨RX5, "lowestBits", "(IJ)J"⟩
abbrev cX5_moveElements : ByteArray := prog_7_method_21_code
def yX5_moveElements : MethodName := ⟨RX5, "moveElements", "(IIIII)V"⟩
def RX6 : String := "TwoHousesBehind$Street"
def TX6 : u_T := fun k => match k with
  | 0 => ("TwoHousesBehind$Street", "houseFacts", "LTwoHousesBehind$Cells;", true)
  | 1 => ("TwoHousesBehind$Street", "wayFacts", "LTwoHousesBehind$Cells;", true)
  | 2 => ("TwoHousesBehind$Street", "behindBird", "LTwoHousesBehind$Cells;", true)
  | 3 => ("TwoHousesBehind$Street", "houseNumber", "I", false)
  | 4 => ("TwoHousesBehind$Street", "wayNumber", "I", false)
  | 5 => ("TwoHousesBehind$Street", "birdLag", "I", false)
  | 6 => ("TwoHousesBehind$Street", "birdHouse", "I", false)
  | 7 => ("TwoHousesBehind$Street", "minutesGone", "I", false)
  | 8 => ("TwoHousesBehind$Street", "visitsMade", "I", false)
  | _ => ("TwoHousesBehind$Street", "drawSeed", "I", false)
def tyX6 : Nat → FieldType := fun k => match k with
  | 0 => .object "TwoHousesBehind$Cells"
  | 1 => .object "TwoHousesBehind$Cells"
  | 2 => .object "TwoHousesBehind$Cells"
  | 3 => .int
  | 4 => .int
  | 5 => .int
  | 6 => .int
  | 7 => .int
  | 8 => .int
  | _ => .int
abbrev wsX60 : List Cond := u_ws RX6 TX6 10
theorem nmX6 : ∀ a, a < 10 → ∀ b, b < 10 → a ≠ b → (TX6 a).2.1 ≠ (TX6 b).2.1 := by decide +kernel
theorem tyX6_ok : ∀ k, k < 10 → parseFieldDescriptor (TX6 k).2.2.1 = some (tyX6 k) := by decide +kernel
abbrev cX6_init : ByteArray := prog_8_method_1_code
def yX6_init : MethodName := ⟨RX6, "<init>", "()V"⟩
abbrev cX6_becomeAs : ByteArray := prog_8_method_2_code
def yX6_becomeAs : MethodName := ⟨RX6, "becomeAs", "(LTwoHousesBehind$Street;)V"⟩
abbrev cX6_isHouse : ByteArray := prog_8_method_3_code
def yX6_isHouse : MethodName := ⟨RX6, "isHouse", "(I)Z"⟩
abbrev cX6_isSetOfHouses : ByteArray := prog_8_method_4_code
def yX6_isSetOfHouses : MethodName := ⟨RX6, "isSetOfHouses", "(I)Z"⟩
abbrev cX6_isWay : ByteArray := prog_8_method_5_code
def yX6_isWay : MethodName := ⟨RX6, "isWay", "(I)Z"⟩
abbrev cX6_hasRoomForHouse : ByteArray := prog_8_method_6_code
def yX6_hasRoomForHouse : MethodName := ⟨RX6, "hasRoomForHouse", "()Z"⟩
abbrev cX6_hasRoomForWay : ByteArray := prog_8_method_7_code
def yX6_hasRoomForWay : MethodName := ⟨RX6, "hasRoomForWay", "()Z"⟩
abbrev cX6_hasBird : ByteArray := prog_8_method_8_code
def yX6_hasBird : MethodName := ⟨RX6, "hasBird", "()Z"⟩
abbrev cX6_houseCount : ByteArray := prog_8_method_9_code
def yX6_houseCount : MethodName := ⟨RX6, "houseCount", "()I"⟩
abbrev cX6_wayCount : ByteArray := prog_8_method_10_code
def yX6_wayCount : MethodName := ⟨RX6, "wayCount", "()I"⟩
abbrev cX6_lagNow : ByteArray := prog_8_method_11_code
def yX6_lagNow : MethodName := ⟨RX6, "lagNow", "()I"⟩
abbrev cX6_birdAt : ByteArray := prog_8_method_12_code
def yX6_birdAt : MethodName := ⟨RX6, "birdAt", "()I"⟩
abbrev cX6_seedNow : ByteArray := prog_8_method_13_code
def yX6_seedNow : MethodName := ⟨RX6, "seedNow", "()I"⟩
abbrev cX6_changeSeed : ByteArray := prog_8_method_14_code
def yX6_changeSeed : MethodName := ⟨RX6, "changeSeed", "(I)V"⟩
abbrev cX6_ofHouse : ByteArray := prog_8_method_15_code
def yX6_ofHouse : MethodName := ⟨RX6, "ofHouse", "(II)I"⟩
abbrev cX6_keepOfHouse : ByteArray := prog_8_method_16_code
def yX6_keepOfHouse : MethodName := ⟨RX6, "keepOfHouse", "(III)V"⟩
abbrev cX6_ofWay : ByteArray := prog_8_method_17_code
def yX6_ofWay : MethodName := ⟨RX6, "ofWay", "(II)I"⟩
abbrev cX6_keepOfWay : ByteArray := prog_8_method_18_code
def yX6_keepOfWay : MethodName := ⟨RX6, "keepOfWay", "(III)V"⟩
abbrev cX6_addHouse : ByteArray := prog_8_method_19_code
def yX6_addHouse : MethodName := ⟨RX6, "addHouse", "(III)I"⟩
abbrev cX6_addWay : ByteArray := prog_8_method_20_code
def yX6_addWay : MethodName := ⟨RX6, "addWay", "(III)I"⟩
abbrev cX6_changeSaid : ByteArray := prog_8_method_21_code
def yX6_changeSaid : MethodName := ⟨RX6, "changeSaid", "(II)V"⟩
abbrev cX6_changeShut : ByteArray := prog_8_method_22_code
def yX6_changeShut : MethodName := ⟨RX6, "changeShut", "(IZ)Z"⟩
abbrev cX6_changeLag : ByteArray := prog_8_method_23_code
def yX6_changeLag : MethodName := ⟨RX6, "changeLag", "(I)V"⟩
abbrev cX6_setBird : ByteArray := prog_8_method_24_code
def yX6_setBird : MethodName := ⟨RX6, "setBird", "(I)V"⟩
abbrev cX6_saidAgo : ByteArray := prog_8_method_25_code
def yX6_saidAgo : MethodName := ⟨RX6, "saidAgo", "(I)I"⟩
abbrev cX6_spokenNext : ByteArray := prog_8_method_26_code
def yX6_spokenNext : MethodName := ⟨RX6, "spokenNext", "()I"⟩
abbrev cX6_answerAfter : ByteArray := prog_8_method_27_code
def yX6_answerAfter : MethodName := ⟨RX6, "answerAfter", "(IIII)I"⟩
abbrev cX6_saysAs : ByteArray := prog_8_method_28_code
def yX6_saysAs : MethodName := ⟨RX6, "saysAs", "(III)I"⟩
abbrev cX6_visit : ByteArray := prog_8_method_29_code
def yX6_visit : MethodName := ⟨RX6, "visit", "(I)I"⟩
abbrev cX6_isOpen : ByteArray := prog_8_method_30_code
def yX6_isOpen : MethodName := ⟨RX6, "isOpen", "(I)Z"⟩
abbrev cX6_isOpenAt : ByteArray := prog_8_method_31_code
def yX6_isOpenAt : MethodName := ⟨RX6, "isOpenAt", "(II)Z"⟩
abbrev cX6_canGoBy : ByteArray := prog_8_method_32_code
def yX6_canGoBy : MethodName := ⟨RX6, "canGoBy", "(I)Z"⟩
abbrev cX6_goBy : ByteArray := prog_8_method_33_code
def yX6_goBy : MethodName := ⟨RX6, "goBy", "(I)I"⟩
abbrev cX6_openWays : ByteArray := prog_8_method_34_code
def yX6_openWays : MethodName := ⟨RX6, "openWays", "()I"⟩
abbrev cX6_openWaysAt : ByteArray := prog_8_method_35_code
def yX6_openWaysAt : MethodName := ⟨RX6, "openWaysAt", "(I)I"⟩
abbrev cX6_openWaysBetween : ByteArray := prog_8_method_36_code
def yX6_openWaysBetween : MethodName := ⟨RX6, "openWaysBetween", "(II)I"⟩
abbrev cX6_draw : ByteArray := prog_8_method_37_code
def yX6_draw : MethodName := ⟨RX6, "draw", "(I)I"⟩
abbrev cX6_drawnWay : ByteArray := prog_8_method_38_code
def yX6_drawnWay : MethodName := ⟨RX6, "drawnWay", "()I"⟩
abbrev cX6_knowing : ByteArray := prog_8_method_39_code
def yX6_knowing : MethodName := ⟨RX6, "knowing", "(I)I"⟩
abbrev cX6_forgetAll : ByteArray := prog_8_method_40_code
def yX6_forgetAll : MethodName := ⟨RX6, "forgetAll", "()I"⟩
abbrev cX6_count : ByteArray := prog_8_method_41_code
def yX6_count : MethodName := ⟨RX6, "count", "(I)I"⟩
def RX7 : String := "TwoHousesBehind$Walk"
def TX7 : u_T := fun k => match k with
  | 0 => ("TwoHousesBehind$Walk", "street", "LTwoHousesBehind$Street;", true)
  | 1 => ("TwoHousesBehind$Walk", "links", "LTwoHousesBehind$Cells;", true)
  | 2 => ("TwoHousesBehind$Walk", "places", "LTwoHousesBehind$Cells;", true)
  | 3 => ("TwoHousesBehind$Walk", "spoken", "LTwoHousesBehind$Cells;", true)
  | 4 => ("TwoHousesBehind$Walk", "answers", "LTwoHousesBehind$Cells;", true)
  | 5 => ("TwoHousesBehind$Walk", "minutesSpent", "LTwoHousesBehind$Cells;", true)
  | 6 => ("TwoHousesBehind$Walk", "length", "I", false)
  | _ => ("TwoHousesBehind$Walk", "walkLag", "I", false)
def tyX7 : Nat → FieldType := fun k => match k with
  | 0 => .object "TwoHousesBehind$Street"
  | 1 => .object "TwoHousesBehind$Cells"
  | 2 => .object "TwoHousesBehind$Cells"
  | 3 => .object "TwoHousesBehind$Cells"
  | 4 => .object "TwoHousesBehind$Cells"
  | 5 => .object "TwoHousesBehind$Cells"
  | 6 => .int
  | _ => .int
abbrev wsX70 : List Cond := u_ws RX7 TX7 8
theorem nmX7 : ∀ a, a < 8 → ∀ b, b < 8 → a ≠ b → (TX7 a).2.1 ≠ (TX7 b).2.1 := by decide +kernel
theorem tyX7_ok : ∀ k, k < 8 → parseFieldDescriptor (TX7 k).2.2.1 = some (tyX7 k) := by decide +kernel
abbrev cX7_init : ByteArray := prog_9_method_1_code
def yX7_init : MethodName := ⟨RX7, "<init>", "(LTwoHousesBehind$Street;)V"⟩
abbrev cX7_begin : ByteArray := prog_9_method_2_code
def yX7_begin : MethodName := ⟨RX7, "begin", "()V"⟩
abbrev cX7_beginWithout : ByteArray := prog_9_method_3_code
def yX7_beginWithout : MethodName := ⟨RX7, "beginWithout", "(I)V"⟩
abbrev cX7_beginAfresh : ByteArray := prog_9_method_4_code
def yX7_beginAfresh : MethodName := ⟨RX7, "beginAfresh", "(I)V"⟩
abbrev cX7_link : ByteArray := prog_9_method_5_code
def yX7_link : MethodName := ⟨RX7, "link", "(III)V"⟩
abbrev cX7_wayTaken : ByteArray := prog_9_method_6_code
def yX7_wayTaken : MethodName := ⟨RX7, "wayTaken", "(II)I"⟩
abbrev cX7_visitsMade : ByteArray := prog_9_method_7_code
def yX7_visitsMade : MethodName := ⟨RX7, "visitsMade", "()I"⟩
abbrev cX7_placeAt : ByteArray := prog_9_method_8_code
def yX7_placeAt : MethodName := ⟨RX7, "placeAt", "(I)I"⟩
abbrev cX7_place : ByteArray := prog_9_method_9_code
def yX7_place : MethodName := ⟨RX7, "place", "()I"⟩
abbrev cX7_minutesTaken : ByteArray := prog_9_method_10_code
def yX7_minutesTaken : MethodName := ⟨RX7, "minutesTaken", "()I"⟩
abbrev cX7_spokenAt : ByteArray := prog_9_method_11_code
def yX7_spokenAt : MethodName := ⟨RX7, "spokenAt", "(I)I"⟩
abbrev cX7_heardBy : ByteArray := prog_9_method_12_code
def yX7_heardBy : MethodName := ⟨RX7, "heardBy", "(I)I"⟩
abbrev cX7_visitsOf : ByteArray := prog_9_method_13_code
def yX7_visitsOf : MethodName := ⟨RX7, "visitsOf", "(I)I"⟩
abbrev cX7_stepTo : ByteArray := prog_9_method_14_code
def yX7_stepTo : MethodName := ⟨RX7, "stepTo", "(I)Z"⟩
abbrev cX7_becomeNext : ByteArray := prog_9_method_15_code
def yX7_becomeNext : MethodName := ⟨RX7, "becomeNext", "(I)Z"⟩
def RX8 : String := "TwoHousesBehind"
def TX8 : u_T := fun k => match k with
  | 0 => ("TwoHousesBehind", "street", "LTwoHousesBehind$Street;", true)
  | 1 => ("TwoHousesBehind", "image", "LTwoHousesBehind$Street;", true)
  | 2 => ("TwoHousesBehind", "draft", "LTwoHousesBehind$Street;", true)
  | 3 => ("TwoHousesBehind", "shelves", "LTwoHousesBehind$Shelves;", true)
  | 4 => ("TwoHousesBehind", "acts", "LTwoHousesBehind$Acts;", true)
  | 5 => ("TwoHousesBehind", "walk", "LTwoHousesBehind$Walk;", true)
  | 6 => ("TwoHousesBehind", "search", "LTwoHousesBehind$Search;", true)
  | 7 => ("TwoHousesBehind", "reader", "LTwoHousesBehind$Reader;", true)
  | 8 => ("TwoHousesBehind", "refusals", "LTwoHousesBehind$Cells;", true)
  | 9 => ("TwoHousesBehind", "latestFault", "I", false)
  | _ => ("TwoHousesBehind", "imageTaken", "Z", false)
def tyX8 : Nat → FieldType := fun k => match k with
  | 0 => .object "TwoHousesBehind$Street"
  | 1 => .object "TwoHousesBehind$Street"
  | 2 => .object "TwoHousesBehind$Street"
  | 3 => .object "TwoHousesBehind$Shelves"
  | 4 => .object "TwoHousesBehind$Acts"
  | 5 => .object "TwoHousesBehind$Walk"
  | 6 => .object "TwoHousesBehind$Search"
  | 7 => .object "TwoHousesBehind$Reader"
  | 8 => .object "TwoHousesBehind$Cells"
  | 9 => .int
  | _ => .boolean
abbrev wsX80 : List Cond := u_ws RX8 TX8 11
theorem nmX8 : ∀ a, a < 11 → ∀ b, b < 11 → a ≠ b → (TX8 a).2.1 ≠ (TX8 b).2.1 := by decide +kernel
theorem tyX8_ok : ∀ k, k < 11 → parseFieldDescriptor (TX8 k).2.2.1 = some (tyX8 k) := by decide +kernel
abbrev cX8_init : ByteArray := prog_1_method_1_code
def yX8_init : MethodName := ⟨RX8, "<init>", "()V"⟩
abbrev cX8_refuse : ByteArray := prog_1_method_2_code
def yX8_refuse : MethodName := ⟨RX8, "refuse", "(I)I"⟩
abbrev cX8_refuseApart : ByteArray := prog_1_method_3_code
def yX8_refuseApart : MethodName := ⟨RX8, "refuseApart", "(I)I"⟩
abbrev cX8_isCount : ByteArray := prog_1_method_4_code
def yX8_isCount : MethodName := ⟨RX8, "isCount", "(III)Z"⟩
abbrev cX8_isSet : ByteArray := prog_1_method_5_code
def yX8_isSet : MethodName := ⟨RX8, "isSet", "(I)Z"⟩
abbrev cX8_isLag : ByteArray := prog_1_method_6_code
def yX8_isLag : MethodName := ⟨RX8, "isLag", "(I)Z"⟩
abbrev cX8_troubleWithRoute : ByteArray := prog_1_method_7_code
def yX8_troubleWithRoute : MethodName := ⟨RX8, "troubleWithRoute", "(III)I"⟩
abbrev cX8_troubleInThought : ByteArray := prog_1_method_8_code
def yX8_troubleInThought : MethodName := ⟨RX8, "troubleInThought", "(IIZ)I"⟩
abbrev cX8_row : ByteArray := prog_1_method_9_code
def yX8_row : MethodName := ⟨RX8, "row", "(III)I"⟩
abbrev cX8_set : ByteArray := prog_1_method_10_code
def yX8_set : MethodName := ⟨RX8, "set", "(IIJ)I"⟩
abbrev cX8_copy : ByteArray := prog_1_method_11_code
def yX8_copy : MethodName := ⟨RX8, "copy", "(IIIII)I"⟩
abbrev cX8_element : ByteArray := prog_1_method_12_code
def yX8_element : MethodName := ⟨RX8, "element", "(II)J"⟩
abbrev cX8_show : ByteArray := prog_1_method_13_code
def yX8_show : MethodName := ⟨RX8, "show", "(II)I"⟩
abbrev cX8_holds : ByteArray := prog_1_method_14_code
def yX8_holds : MethodName := ⟨RX8, "holds", "(I)I"⟩
abbrev cX8_says : ByteArray := prog_1_method_15_code
def yX8_says : MethodName := ⟨RX8, "says", "(II)I"⟩
abbrev cX8_house : ByteArray := prog_1_method_16_code
def yX8_house : MethodName := ⟨RX8, "house", "(III)I"⟩
abbrev cX8_troubleWithWay : ByteArray := prog_1_method_17_code
def yX8_troubleWithWay : MethodName := ⟨RX8, "troubleWithWay", "(III)I"⟩
abbrev cX8_way : ByteArray := prog_1_method_18_code
def yX8_way : MethodName := ⟨RX8, "way", "(III)I"⟩
abbrev cX8_ways : ByteArray := prog_1_method_19_code
def yX8_ways : MethodName := ⟨RX8, "ways", "(III)I"⟩
abbrev cX8_addWays : ByteArray := prog_1_method_20_code
def yX8_addWays : MethodName := ⟨RX8, "addWays", "(III)I"⟩
abbrev cX8_shut : ByteArray := prog_1_method_21_code
def yX8_shut : MethodName := ⟨RX8, "shut", "(IZ)I"⟩
abbrev cX8_lag : ByteArray := prog_1_method_22_code
def yX8_lag : MethodName := ⟨RX8, "lag", "(I)I"⟩
abbrev cX8_said : ByteArray := prog_1_method_23_code
def yX8_said : MethodName := ⟨RX8, "said", "(II)I"⟩
abbrev cX8_houseOf : ByteArray := prog_1_method_24_code
def yX8_houseOf : MethodName := ⟨RX8, "houseOf", "(II)I"⟩
abbrev cX8_wayOf : ByteArray := prog_1_method_25_code
def yX8_wayOf : MethodName := ⟨RX8, "wayOf", "(II)I"⟩
abbrev cX8_street : ByteArray := prog_1_method_26_code
def yX8_street : MethodName := ⟨RX8, "street", "(I)I"⟩
abbrev cX8_fault : ByteArray := prog_1_method_27_code
def yX8_fault : MethodName := ⟨RX8, "fault", "()I"⟩
abbrev cX8_put : ByteArray := prog_1_method_28_code
def yX8_put : MethodName := ⟨RX8, "put", "(I)I"⟩
abbrev cX8_go : ByteArray := prog_1_method_29_code
def yX8_go : MethodName := ⟨RX8, "go", "(I)I"⟩
abbrev cX8_where : ByteArray := prog_1_method_30_code
def yX8_where : MethodName := ⟨RX8, "where", "()I"⟩
abbrev cX8_next : ByteArray := prog_1_method_31_code
def yX8_next : MethodName := ⟨RX8, "next", "()I"⟩
abbrev cX8_behind : ByteArray := prog_1_method_32_code
def yX8_behind : MethodName := ⟨RX8, "behind", "(I)I"⟩
abbrev cX8_answer : ByteArray := prog_1_method_33_code
def yX8_answer : MethodName := ⟨RX8, "answer", "(II)I"⟩
abbrev cX8_between : ByteArray := prog_1_method_34_code
def yX8_between : MethodName := ⟨RX8, "between", "(II)I"⟩
abbrev cX8_walkTold : ByteArray := prog_1_method_35_code
def yX8_walkTold : MethodName := ⟨RX8, "walkTold", "(II)I"⟩
abbrev cX8_judge : ByteArray := prog_1_method_36_code
def yX8_judge : MethodName := ⟨RX8, "judge", "(II)I"⟩
abbrev cX8_minutes : ByteArray := prog_1_method_37_code
def yX8_minutes : MethodName := ⟨RX8, "minutes", "(II)I"⟩
abbrev cX8_hears : ByteArray := prog_1_method_38_code
def yX8_hears : MethodName := ⟨RX8, "hears", "(III)I"⟩
abbrev cX8_other : ByteArray := prog_1_method_39_code
def yX8_other : MethodName := ⟨RX8, "other", "(III)I"⟩
abbrev cX8_aim : ByteArray := prog_1_method_40_code
def yX8_aim : MethodName := ⟨RX8, "aim", "(IIIII)I"⟩
abbrev cX8_round : ByteArray := prog_1_method_41_code
def yX8_round : MethodName := ⟨RX8, "round", "(IIII)I"⟩
abbrev cX8_troubleInSeeking : ByteArray := prog_1_method_42_code
def yX8_troubleInSeeking : MethodName := ⟨RX8, "troubleInSeeking", "(III)I"⟩
abbrev cX8_fits : ByteArray := prog_1_method_43_code
def yX8_fits : MethodName := ⟨RX8, "fits", "(II)I"⟩
abbrev cX8_from : ByteArray := prog_1_method_44_code
def yX8_from : MethodName := ⟨RX8, "from", "(III)I"⟩
abbrev cX8_odds : ByteArray := prog_1_method_45_code
def yX8_odds : MethodName := ⟨RX8, "odds", "(III)J"⟩
abbrev cX8_shuts : ByteArray := prog_1_method_46_code
def yX8_shuts : MethodName := ⟨RX8, "shuts", "(III)I"⟩
abbrev cX8_reach : ByteArray := prog_1_method_47_code
def yX8_reach : MethodName := ⟨RX8, "reach", "(II)I"⟩
abbrev cX8_first : ByteArray := prog_1_method_48_code
def yX8_first : MethodName := ⟨RX8, "first", "(II)I"⟩
abbrev cX8_wander : ByteArray := prog_1_method_49_code
def yX8_wander : MethodName := ⟨RX8, "wander", "(I)I"⟩
abbrev cX8_who : ByteArray := prog_1_method_50_code
def yX8_who : MethodName := ⟨RX8, "who", "(I)I"⟩
abbrev cX8_forget : ByteArray := prog_1_method_51_code
def yX8_forget : MethodName := ⟨RX8, "forget", "()I"⟩
abbrev cX8_seed : ByteArray := prog_1_method_52_code
def yX8_seed : MethodName := ⟨RX8, "seed", "(I)I"⟩
abbrev cX8_act : ByteArray := prog_1_method_53_code
def yX8_act : MethodName := ⟨RX8, "act", "(III)I"⟩
abbrev cX8_trace : ByteArray := prog_1_method_54_code
def yX8_trace : MethodName := ⟨RX8, "trace", "(I)I"⟩
abbrev cX8_image : ByteArray := prog_1_method_55_code
def yX8_image : MethodName := ⟨RX8, "image", "()I"⟩
abbrev cX8_restore : ByteArray := prog_1_method_56_code
def yX8_restore : MethodName := ⟨RX8, "restore", "()I"⟩
abbrev cX8_status : ByteArray := prog_1_method_57_code
def yX8_status : MethodName := ⟨RX8, "status", "(I)I"⟩
def RX9 : String := "TwoHousesBehindModel"
def TX9 : u_T := fun k => match k with
  | 0 => ("TwoHousesBehindModel", "refused", "[I", true)
  | 1 => ("TwoHousesBehindModel", "kind", "[I", true)
  | 2 => ("TwoHousesBehindModel", "said", "[I", true)
  | 3 => ("TwoHousesBehindModel", "ofA", "[I", true)
  | 4 => ("TwoHousesBehindModel", "wayA", "[I", true)
  | 5 => ("TwoHousesBehindModel", "wayB", "[I", true)
  | 6 => ("TwoHousesBehindModel", "wayMinutes", "[I", true)
  | 7 => ("TwoHousesBehindModel", "isShut", "[I", true)
  | 8 => ("TwoHousesBehindModel", "houses", "I", false)
  | 9 => ("TwoHousesBehindModel", "ways", "I", false)
  | 10 => ("TwoHousesBehindModel", "lag", "I", false)
  | 11 => ("TwoHousesBehindModel", "gone", "I", false)
  | 12 => ("TwoHousesBehindModel", "visitsAll", "I", false)
  | 13 => ("TwoHousesBehindModel", "seed", "I", false)
  | 14 => ("TwoHousesBehindModel", "at", "[I", true)
  | 15 => ("TwoHousesBehindModel", "known", "[I", true)
  | 16 => ("TwoHousesBehindModel", "visits", "[I", true)
  | 17 => ("TwoHousesBehindModel", "heard", "[I", true)
  | 18 => ("TwoHousesBehindModel", "behind", "[I", true)
  | 19 => ("TwoHousesBehindModel", "behindMany", "[I", true)
  | 20 => ("TwoHousesBehindModel", "minutesAt", "[I", true)
  | 21 => ("TwoHousesBehindModel", "spoken", "[I", true)
  | 22 => ("TwoHousesBehindModel", "share", "[J", true)
  | 23 => ("TwoHousesBehindModel", "useLag", "I", false)
  | 24 => ("TwoHousesBehindModel", "alsoShut", "I", false)
  | 25 => ("TwoHousesBehindModel", "tryNext", "[I", true)
  | 26 => ("TwoHousesBehindModel", "depth", "I", false)
  | 27 => ("TwoHousesBehindModel", "deepest", "I", false)
  | 28 => ("TwoHousesBehindModel", "isStarted", "Z", false)
  | 29 => ("TwoHousesBehindModel", "isCut", "Z", false)
  | 30 => ("TwoHousesBehindModel", "isByWays", "Z", false)
  | 31 => ("TwoHousesBehindModel", "sort", "[I", true)
  | 32 => ("TwoHousesBehindModel", "size", "[I", true)
  | 33 => ("TwoHousesBehindModel", "shown", "[I", true)
  | 34 => ("TwoHousesBehindModel", "cells", "[J", true)
  | 35 => ("TwoHousesBehindModel", "moved", "[J", true)
  | 36 => ("TwoHousesBehindModel", "faultAt", "I", false)
  | 37 => ("TwoHousesBehindModel", "readFrom", "I", false)
  | 38 => ("TwoHousesBehindModel", "place", "I", false)
  | 39 => ("TwoHousesBehindModel", "numberAt", "I", false)
  | 40 => ("TwoHousesBehindModel", "number", "I", false)
  | 41 => ("TwoHousesBehindModel", "kept", "[I", true)
  | 42 => ("TwoHousesBehindModel", "hasImage", "Z", false)
  | 43 => ("TwoHousesBehindModel", "isKeeping", "Z", false)
  | 44 => ("TwoHousesBehindModel", "cursor", "I", false)
  | 45 => ("TwoHousesBehindModel", "bestRow", "[I", true)
  | 46 => ("TwoHousesBehindModel", "bestMinutes", "I", false)
  | 47 => ("TwoHousesBehindModel", "bestMany", "I", false)
  | 48 => ("TwoHousesBehindModel", "fitMany", "I", false)
  | 49 => ("TwoHousesBehindModel", "fitEnds", "I", false)
  | 50 => ("TwoHousesBehindModel", "traced", "[I", true)
  | _ => ("TwoHousesBehindModel", "ran", "I", false)
def tyX9 : Nat → FieldType := fun k => match k with
  | 0 => .array .int
  | 1 => .array .int
  | 2 => .array .int
  | 3 => .array .int
  | 4 => .array .int
  | 5 => .array .int
  | 6 => .array .int
  | 7 => .array .int
  | 8 => .int
  | 9 => .int
  | 10 => .int
  | 11 => .int
  | 12 => .int
  | 13 => .int
  | 14 => .array .int
  | 15 => .array .int
  | 16 => .array .int
  | 17 => .array .int
  | 18 => .array .int
  | 19 => .array .int
  | 20 => .array .int
  | 21 => .array .int
  | 22 => .array .long
  | 23 => .int
  | 24 => .int
  | 25 => .array .int
  | 26 => .int
  | 27 => .int
  | 28 => .boolean
  | 29 => .boolean
  | 30 => .boolean
  | 31 => .array .int
  | 32 => .array .int
  | 33 => .array .int
  | 34 => .array .long
  | 35 => .array .long
  | 36 => .int
  | 37 => .int
  | 38 => .int
  | 39 => .int
  | 40 => .int
  | 41 => .array .int
  | 42 => .boolean
  | 43 => .boolean
  | 44 => .int
  | 45 => .array .int
  | 46 => .int
  | 47 => .int
  | 48 => .int
  | 49 => .int
  | 50 => .array .int
  | _ => .int
abbrev wsX90 : List Cond := u_ws RX9 TX9 52
theorem nmX9 : ∀ a, a < 52 → ∀ b, b < 52 → a ≠ b → (TX9 a).2.1 ≠ (TX9 b).2.1 := by decide +kernel
theorem tyX9_ok : ∀ k, k < 52 → parseFieldDescriptor (TX9 k).2.2.1 = some (tyX9 k) := by decide +kernel
abbrev cX9_init : ByteArray := prog_11_method_1_code
def yX9_init : MethodName := ⟨RX9, "<init>", "()V"⟩
abbrev cX9_no : ByteArray := prog_11_method_2_code
def yX9_no : MethodName := ⟨RX9, "no", "(I)I"⟩
abbrev cX9_noTen : ByteArray := prog_11_method_3_code
def yX9_noTen : MethodName := ⟨RX9, "noTen", "(I)I"⟩
abbrev cX9_isIn : ByteArray := prog_11_method_4_code
def yX9_isIn : MethodName := ⟨RX9, "isIn", "(III)Z"⟩
abbrev cX9_isSet : ByteArray := prog_11_method_5_code
def yX9_isSet : MethodName := ⟨RX9, "isSet", "(I)Z"⟩
abbrev cX9_isHouse : ByteArray := prog_11_method_6_code
def yX9_isHouse : MethodName := ⟨RX9, "isHouse", "(I)Z"⟩
abbrev cX9_isWay : ByteArray := prog_11_method_7_code
def yX9_isWay : MethodName := ⟨RX9, "isWay", "(I)Z"⟩
abbrev cX9_isOpen : ByteArray := prog_11_method_8_code
def yX9_isOpen : MethodName := ⟨RX9, "isOpen", "(I)Z"⟩
abbrev cX9_speaksNext : ByteArray := prog_11_method_9_code
def yX9_speaksNext : MethodName := ⟨RX9, "speaksNext", "(I)I"⟩
abbrev cX9_answerOf : ByteArray := prog_11_method_10_code
def yX9_answerOf : MethodName := ⟨RX9, "answerOf", "(III)I"⟩
abbrev cX9_visits : ByteArray := prog_11_method_11_code
def yX9_visits : MethodName := ⟨RX9, "visits", "(II)V"⟩
abbrev cX9_copies : ByteArray := prog_11_method_12_code
def yX9_copies : MethodName := ⟨RX9, "copies", "(II)V"⟩
abbrev cX9_begins : ByteArray := prog_11_method_13_code
def yX9_begins : MethodName := ⟨RX9, "begins", "(I)V"⟩
abbrev cX9_betweenOf : ByteArray := prog_11_method_14_code
def yX9_betweenOf : MethodName := ⟨RX9, "betweenOf", "(II)I"⟩
abbrev cX9_openAt : ByteArray := prog_11_method_15_code
def yX9_openAt : MethodName := ⟨RX9, "openAt", "(I)I"⟩
abbrev cX9_beginsRoutes : ByteArray := prog_11_method_16_code
def yX9_beginsRoutes : MethodName := ⟨RX9, "beginsRoutes", "(IZ)V"⟩
abbrev cX9_leadsTo : ByteArray := prog_11_method_17_code
def yX9_leadsTo : MethodName := ⟨RX9, "leadsTo", "(I)I"⟩
abbrev cX9_goesTo : ByteArray := prog_11_method_18_code
def yX9_goesTo : MethodName := ⟨RX9, "goesTo", "(II)V"⟩
abbrev cX9_hasNext : ByteArray := prog_11_method_19_code
def yX9_hasNext : MethodName := ⟨RX9, "hasNext", "()Z"⟩
abbrev cX9_isShelf : ByteArray := prog_11_method_20_code
def yX9_isShelf : MethodName := ⟨RX9, "isShelf", "(I)Z"⟩
abbrev cX9_notRow : ByteArray := prog_11_method_21_code
def yX9_notRow : MethodName := ⟨RX9, "notRow", "(I)I"⟩
abbrev cX9_intAt : ByteArray := prog_11_method_22_code
def yX9_intAt : MethodName := ⟨RX9, "intAt", "(II)I"⟩
abbrev cX9_row : ByteArray := prog_11_method_23_code
def yX9_row : MethodName := ⟨RX9, "row", "(III)I"⟩
abbrev cX9_cutTo : ByteArray := prog_11_method_24_code
def yX9_cutTo : MethodName := ⟨RX9, "cutTo", "(IJ)J"⟩
abbrev cX9_set : ByteArray := prog_11_method_25_code
def yX9_set : MethodName := ⟨RX9, "set", "(IIJ)I"⟩
abbrev cX9_hasCells : ByteArray := prog_11_method_26_code
def yX9_hasCells : MethodName := ⟨RX9, "hasCells", "(III)Z"⟩
abbrev cX9_notCopy : ByteArray := prog_11_method_27_code
def yX9_notCopy : MethodName := ⟨RX9, "notCopy", "(IIIII)I"⟩
abbrev cX9_copy : ByteArray := prog_11_method_28_code
def yX9_copy : MethodName := ⟨RX9, "copy", "(IIIII)I"⟩
abbrev cX9_element : ByteArray := prog_11_method_29_code
def yX9_element : MethodName := ⟨RX9, "element", "(II)J"⟩
abbrev cX9_show : ByteArray := prog_11_method_30_code
def yX9_show : MethodName := ⟨RX9, "show", "(II)I"⟩
abbrev cX9_holds : ByteArray := prog_11_method_31_code
def yX9_holds : MethodName := ⟨RX9, "holds", "(I)I"⟩
abbrev cX9_isUnder : ByteArray := prog_11_method_32_code
def yX9_isUnder : MethodName := ⟨RX9, "isUnder", "(II)Z"⟩
abbrev cX9_says : ByteArray := prog_11_method_33_code
def yX9_says : MethodName := ⟨RX9, "says", "(II)I"⟩
abbrev cX9_makesHouse : ByteArray := prog_11_method_34_code
def yX9_makesHouse : MethodName := ⟨RX9, "makesHouse", "(III)V"⟩
abbrev cX9_house : ByteArray := prog_11_method_35_code
def yX9_house : MethodName := ⟨RX9, "house", "(III)I"⟩
abbrev cX9_notWay : ByteArray := prog_11_method_36_code
def yX9_notWay : MethodName := ⟨RX9, "notWay", "(III)I"⟩
abbrev cX9_makesWay : ByteArray := prog_11_method_37_code
def yX9_makesWay : MethodName := ⟨RX9, "makesWay", "(III)V"⟩
abbrev cX9_way : ByteArray := prog_11_method_38_code
def yX9_way : MethodName := ⟨RX9, "way", "(III)I"⟩
abbrev cX9_ways : ByteArray := prog_11_method_39_code
def yX9_ways : MethodName := ⟨RX9, "ways", "(III)I"⟩
abbrev cX9_shut : ByteArray := prog_11_method_40_code
def yX9_shut : MethodName := ⟨RX9, "shut", "(IZ)I"⟩
abbrev cX9_lag : ByteArray := prog_11_method_41_code
def yX9_lag : MethodName := ⟨RX9, "lag", "(I)I"⟩
abbrev cX9_said : ByteArray := prog_11_method_42_code
def yX9_said : MethodName := ⟨RX9, "said", "(II)I"⟩
abbrev cX9_houseOf : ByteArray := prog_11_method_43_code
def yX9_houseOf : MethodName := ⟨RX9, "houseOf", "(II)I"⟩
abbrev cX9_wayOf : ByteArray := prog_11_method_44_code
def yX9_wayOf : MethodName := ⟨RX9, "wayOf", "(II)I"⟩
abbrev cX9_letter : ByteArray := prog_11_method_45_code
def yX9_letter : MethodName := ⟨RX9, "letter", "()I"⟩
abbrev cX9_takes : ByteArray := prog_11_method_46_code
def yX9_takes : MethodName := ⟨RX9, "takes", "(I)Z"⟩
abbrev cX9_takesWord : ByteArray := prog_11_method_47_code
def yX9_takesWord : MethodName := ⟨RX9, "takesWord", "([I)Z"⟩
abbrev cX9_takesNumber : ByteArray := prog_11_method_48_code
def yX9_takesNumber : MethodName := ⟨RX9, "takesNumber", "(II)Z"⟩
abbrev cX9_takesHouse : ByteArray := prog_11_method_49_code
def yX9_takesHouse : MethodName := ⟨RX9, "takesHouse", "()Z"⟩
abbrev cX9_takesWay : ByteArray := prog_11_method_50_code
def yX9_takesWay : MethodName := ⟨RX9, "takesWay", "()Z"⟩
abbrev cX9_takesItem : ByteArray := prog_11_method_51_code
def yX9_takesItem : MethodName := ⟨RX9, "takesItem", "()Z"⟩
abbrev cX9_street : ByteArray := prog_11_method_52_code
def yX9_street : MethodName := ⟨RX9, "street", "(I)I"⟩
abbrev cX9_fault : ByteArray := prog_11_method_53_code
def yX9_fault : MethodName := ⟨RX9, "fault", "()I"⟩
abbrev cX9_passes : ByteArray := prog_11_method_54_code
def yX9_passes : MethodName := ⟨RX9, "passes", "([II)V"⟩
abbrev cX9_passOne : ByteArray := prog_11_method_55_code
def yX9_passOne : MethodName := ⟨RX9, "passOne", "(I)I"⟩
abbrev cX9_passesAll : ByteArray := prog_11_method_56_code
def yX9_passesAll : MethodName := ⟨RX9, "passesAll", "(IZ)V"⟩
abbrev cX9_image : ByteArray := prog_11_method_57_code
def yX9_image : MethodName := ⟨RX9, "image", "()I"⟩
abbrev cX9_restore : ByteArray := prog_11_method_58_code
def yX9_restore : MethodName := ⟨RX9, "restore", "()I"⟩
abbrev cX9_reallyVisits : ByteArray := prog_11_method_59_code
def yX9_reallyVisits : MethodName := ⟨RX9, "reallyVisits", "(I)I"⟩
abbrev cX9_put : ByteArray := prog_11_method_60_code
def yX9_put : MethodName := ⟨RX9, "put", "(I)I"⟩
abbrev cX9_isOf : ByteArray := prog_11_method_61_code
def yX9_isOf : MethodName := ⟨RX9, "isOf", "(II)Z"⟩
abbrev cX9_goesBy : ByteArray := prog_11_method_62_code
def yX9_goesBy : MethodName := ⟨RX9, "goesBy", "(I)I"⟩
abbrev cX9_go : ByteArray := prog_11_method_63_code
def yX9_go : MethodName := ⟨RX9, "go", "(I)I"⟩
abbrev cX9_where : ByteArray := prog_11_method_64_code
def yX9_where : MethodName := ⟨RX9, "where", "()I"⟩
abbrev cX9_next : ByteArray := prog_11_method_65_code
def yX9_next : MethodName := ⟨RX9, "next", "()I"⟩
abbrev cX9_behind : ByteArray := prog_11_method_66_code
def yX9_behind : MethodName := ⟨RX9, "behind", "(I)I"⟩
abbrev cX9_answer : ByteArray := prog_11_method_67_code
def yX9_answer : MethodName := ⟨RX9, "answer", "(II)I"⟩
abbrev cX9_between : ByteArray := prog_11_method_68_code
def yX9_between : MethodName := ⟨RX9, "between", "(II)I"⟩
abbrev cX9_draw : ByteArray := prog_11_method_69_code
def yX9_draw : MethodName := ⟨RX9, "draw", "(I)I"⟩
abbrev cX9_wander : ByteArray := prog_11_method_70_code
def yX9_wander : MethodName := ⟨RX9, "wander", "(I)I"⟩
abbrev cX9_who : ByteArray := prog_11_method_71_code
def yX9_who : MethodName := ⟨RX9, "who", "(I)I"⟩
abbrev cX9_bits : ByteArray := prog_11_method_72_code
def yX9_bits : MethodName := ⟨RX9, "bits", "(I)I"⟩
abbrev cX9_forget : ByteArray := prog_11_method_73_code
def yX9_forget : MethodName := ⟨RX9, "forget", "()I"⟩
abbrev cX9_seed : ByteArray := prog_11_method_74_code
def yX9_seed : MethodName := ⟨RX9, "seed", "(I)I"⟩
abbrev cX9_notRoute : ByteArray := prog_11_method_75_code
def yX9_notRoute : MethodName := ⟨RX9, "notRoute", "(III)I"⟩
abbrev cX9_goesRoute : ByteArray := prog_11_method_76_code
def yX9_goesRoute : MethodName := ⟨RX9, "goesRoute", "(II)I"⟩
abbrev cX9_judge : ByteArray := prog_11_method_77_code
def yX9_judge : MethodName := ⟨RX9, "judge", "(II)I"⟩
abbrev cX9_minutes : ByteArray := prog_11_method_78_code
def yX9_minutes : MethodName := ⟨RX9, "minutes", "(II)I"⟩
abbrev cX9_hears : ByteArray := prog_11_method_79_code
def yX9_hears : MethodName := ⟨RX9, "hears", "(III)I"⟩
abbrev cX9_other : ByteArray := prog_11_method_80_code
def yX9_other : MethodName := ⟨RX9, "other", "(III)I"⟩
abbrev cX9_takesBest : ByteArray := prog_11_method_81_code
def yX9_takesBest : MethodName := ⟨RX9, "takesBest", "()V"⟩
abbrev cX9_isBetter : ByteArray := prog_11_method_82_code
def yX9_isBetter : MethodName := ⟨RX9, "isBetter", "()Z"⟩
abbrev cX9_toldOf : ByteArray := prog_11_method_83_code
def yX9_toldOf : MethodName := ⟨RX9, "toldOf", "(I)I"⟩
abbrev cX9_aim : ByteArray := prog_11_method_84_code
def yX9_aim : MethodName := ⟨RX9, "aim", "(IIIII)I"⟩
abbrev cX9_doAllHear : ByteArray := prog_11_method_85_code
def yX9_doAllHear : MethodName := ⟨RX9, "doAllHear", "(II)Z"⟩
abbrev cX9_round : ByteArray := prog_11_method_86_code
def yX9_round : MethodName := ⟨RX9, "round", "(IIII)I"⟩
abbrev cX9_findFits : ByteArray := prog_11_method_87_code
def yX9_findFits : MethodName := ⟨RX9, "findFits", "(II)V"⟩
abbrev cX9_fits : ByteArray := prog_11_method_88_code
def yX9_fits : MethodName := ⟨RX9, "fits", "(II)I"⟩
abbrev cX9_from : ByteArray := prog_11_method_89_code
def yX9_from : MethodName := ⟨RX9, "from", "(III)I"⟩
abbrev cX9_odds : ByteArray := prog_11_method_90_code
def yX9_odds : MethodName := ⟨RX9, "odds", "(III)J"⟩
abbrev cX9_canHear : ByteArray := prog_11_method_91_code
def yX9_canHear : MethodName := ⟨RX9, "canHear", "(III)Z"⟩
abbrev cX9_shuts : ByteArray := prog_11_method_92_code
def yX9_shuts : MethodName := ⟨RX9, "shuts", "(III)I"⟩
abbrev cX9_doesShutTwice : ByteArray := prog_11_method_93_code
def yX9_doesShutTwice : MethodName := ⟨RX9, "doesShutTwice", "(I)Z"⟩
abbrev cX9_reach : ByteArray := prog_11_method_94_code
def yX9_reach : MethodName := ⟨RX9, "reach", "(II)I"⟩
abbrev cX9_first : ByteArray := prog_11_method_95_code
def yX9_first : MethodName := ⟨RX9, "first", "(II)I"⟩
abbrev cX9_note : ByteArray := prog_11_method_96_code
def yX9_note : MethodName := ⟨RX9, "note", "(I)V"⟩
abbrev cX9_callsOf : ByteArray := prog_11_method_97_code
def yX9_callsOf : MethodName := ⟨RX9, "callsOf", "(II)I"⟩
abbrev cX9_plainHushes : ByteArray := prog_11_method_98_code
def yX9_plainHushes : MethodName := ⟨RX9, "plainHushes", "(II)I"⟩
abbrev cX9_hushesOf : ByteArray := prog_11_method_99_code
def yX9_hushesOf : MethodName := ⟨RX9, "hushesOf", "(II)I"⟩
abbrev cX9_plainOpens : ByteArray := prog_11_method_100_code
def yX9_plainOpens : MethodName := ⟨RX9, "plainOpens", "(II)I"⟩
abbrev cX9_opensOf : ByteArray := prog_11_method_101_code
def yX9_opensOf : MethodName := ⟨RX9, "opensOf", "(II)I"⟩
abbrev cX9_act : ByteArray := prog_11_method_102_code
def yX9_act : MethodName := ⟨RX9, "act", "(III)I"⟩
abbrev cX9_trace : ByteArray := prog_11_method_103_code
def yX9_trace : MethodName := ⟨RX9, "trace", "(I)I"⟩
abbrev cX9_status : ByteArray := prog_11_method_104_code
def yX9_status : MethodName := ⟨RX9, "status", "(I)I"⟩
def RJ6 : String := "java/lang/Integer"
def TJ6 : u_T := fun k => match k with
  | _ => ("", "", "", false)
def tyJ6 : Nat → FieldType := fun k => match k with
  | _ => .int
abbrev wsJ60 : List Cond := u_ws RJ6 TJ6 0
theorem nmJ6 : ∀ a, a < 0 → ∀ b, b < 0 → a ≠ b → (TJ6 a).2.1 ≠ (TJ6 b).2.1 := by decide +kernel
theorem tyJ6_ok : ∀ k, k < 0 → parseFieldDescriptor (TJ6 k).2.2.1 = some (tyJ6 k) := by decide +kernel
abbrev cJ6_bitCount_0f7a4 : ByteArray := prog_12_method_49_code
def yJ6_bitCount_0f7a4 : MethodName := ⟨RJ6, "bitCount", "(I)I"⟩
def RJ9 : String := "java/lang/Math"
def TJ9 : u_T := fun k => match k with
  | _ => ("", "", "", false)
def tyJ9 : Nat → FieldType := fun k => match k with
  | _ => .int
abbrev wsJ90 : List Cond := u_ws RJ9 TJ9 0
theorem nmJ9 : ∀ a, a < 0 → ∀ b, b < 0 → a ≠ b → (TJ9 a).2.1 ≠ (TJ9 b).2.1 := by decide +kernel
theorem tyJ9_ok : ∀ k, k < 0 → parseFieldDescriptor (TJ9 k).2.2.1 = some (tyJ9 k) := by decide +kernel
abbrev cJ9_max_7cf53 : ByteArray := prog_13_method_65_code
def yJ9_max_7cf53 : MethodName := ⟨RJ9, "max", "(II)I"⟩
def RJ0 : String := "java/lang/String"
def TJ0 : u_T := fun k => match k with
  | _ => ("", "", "", false)
def tyJ0 : Nat → FieldType := fun k => match k with
  | _ => .int
abbrev wsJ00 : List Cond := u_ws RJ0 TJ0 0
theorem nmJ0 : ∀ a, a < 0 → ∀ b, b < 0 → a ≠ b → (TJ0 a).2.1 ≠ (TJ0 b).2.1 := by decide +kernel
theorem tyJ0_ok : ∀ k, k < 0 → parseFieldDescriptor (TJ0 k).2.2.1 = some (tyJ0 k) := by decide +kernel
abbrev cJ0_length_8abf5 : ByteArray := prog_14_method_54_code
def yJ0_length_8abf5 : MethodName := ⟨RJ0, "length", "()I"⟩
abbrev cJ0_charAt_5068e : ByteArray := prog_14_method_56_code
def yJ0_charAt_5068e : MethodName := ⟨RJ0, "charAt", "(I)C"⟩
abbrev cJ0_coder_7d493 : ByteArray := prog_14_method_152_code
def yJ0_coder_7d493 : MethodName := ⟨RJ0, "coder", "()B"⟩
abbrev cJ0_isLatin1_aae02 : ByteArray := prog_14_method_154_code
def yJ0_isLatin1_aae02 : MethodName := ⟨RJ0, "isLatin1", "()Z"⟩
abbrev cJ0_checkIndex_df160 : ByteArray := prog_14_method_155_code
def yJ0_checkIndex_df160 : MethodName := ⟨RJ0, "checkIndex", "(II)V"⟩
def RJ1 : String := "java/lang/StringLatin1"
def TJ1 : u_T := fun k => match k with
  | _ => ("", "", "", false)
def tyJ1 : Nat → FieldType := fun k => match k with
  | _ => .int
abbrev wsJ10 : List Cond := u_ws RJ1 TJ1 0
theorem nmJ1 : ∀ a, a < 0 → ∀ b, b < 0 → a ≠ b → (TJ1 a).2.1 ≠ (TJ1 b).2.1 := by decide +kernel
theorem tyJ1_ok : ∀ k, k < 0 → parseFieldDescriptor (TJ1 k).2.2.1 = some (tyJ1 k) := by decide +kernel
abbrev cJ1_charAt_3b067 : ByteArray := prog_15_method_2_code
def yJ1_charAt_3b067 : MethodName := ⟨RJ1, "charAt", "([BI)C"⟩
def RJ2 : String := "java/lang/StringUTF16"
def TJ2 : u_T := fun k => match k with
  | _ => ("", "", "", false)
def tyJ2 : Nat → FieldType := fun k => match k with
  | _ => .int
abbrev wsJ20 : List Cond := u_ws RJ2 TJ2 0
theorem nmJ2 : ∀ a, a < 0 → ∀ b, b < 0 → a ≠ b → (TJ2 a).2.1 ≠ (TJ2 b).2.1 := by decide +kernel
theorem tyJ2_ok : ∀ k, k < 0 → parseFieldDescriptor (TJ2 k).2.2.1 = some (tyJ2 k) := by decide +kernel
abbrev cJ2_getChar_3b067 : ByteArray := prog_16_method_5_code
def yJ2_getChar_3b067 : MethodName := ⟨RJ2, "getChar", "([BI)C"⟩
abbrev cJ2_length_9d52b : ByteArray := prog_16_method_6_code
def yJ2_length_9d52b : MethodName := ⟨RJ2, "length", "([B)I"⟩
abbrev cJ2_charAt_3b067 : ByteArray := prog_16_method_83_code
def yJ2_charAt_3b067 : MethodName := ⟨RJ2, "charAt", "([BI)C"⟩
abbrev cJ2_checkIndex_2214a : ByteArray := prog_16_method_91_code
def yJ2_checkIndex_2214a : MethodName := ⟨RJ2, "checkIndex", "(I[B)V"⟩
def RJ10 : String := "java/lang/System"
def TJ10 : u_T := fun k => match k with
  | _ => ("", "", "", false)
def tyJ10 : Nat → FieldType := fun k => match k with
  | _ => .int
abbrev wsJ100 : List Cond := u_ws RJ10 TJ10 0
theorem nmJ10 : ∀ a, a < 0 → ∀ b, b < 0 → a ≠ b → (TJ10 a).2.1 ≠ (TJ10 b).2.1 := by decide +kernel
theorem tyJ10_ok : ∀ k, k < 0 → parseFieldDescriptor (TJ10 k).2.2.1 = some (tyJ10 k) := by decide +kernel
def RJ3 : String := "jdk/internal/util/Preconditions"
def TJ3 : u_T := fun k => match k with
  | _ => ("", "", "", false)
def tyJ3 : Nat → FieldType := fun k => match k with
  | _ => .int
abbrev wsJ30 : List Cond := u_ws RJ3 TJ3 0
theorem nmJ3 : ∀ a, a < 0 → ∀ b, b < 0 → a ≠ b → (TJ3 a).2.1 ≠ (TJ3 b).2.1 := by decide +kernel
theorem tyJ3_ok : ∀ k, k < 0 → parseFieldDescriptor (TJ3 k).2.2.1 = some (tyJ3 k) := by decide +kernel
abbrev cJ3_checkIndex_8e157 : ByteArray := prog_18_method_11_code
def yJ3_checkIndex_8e157 : MethodName := ⟨RJ3, "checkIndex", "(IILjava/util/function/BiFunction;)I"⟩
def RL : String := "TwoHousesBehindLaw"
abbrev cL_law : ByteArray := code
def yL_law : MethodName := ⟨RL, "law", "([I)Z"⟩
abbrev vwCl : List vw_C := [(RX0, TX0, 5), (RX1, TX1, 1), (RX3, TX3, 5), (RX4, TX4, 7), (RX5, TX5, 3), (RX6, TX6, 10), (RX7, TX7, 8), (RX8, TX8, 11), (RX9, TX9, 52)]
end
section
/-! ===== the packaged judgement: memory as functions over a fixed graph of cells; one row an instruction ===== -/
def z_tbl : List Cond := lw_tbl.filter goodWord
theorem z_tin {w : Cond} (h : w ∈ lw_tbl) (g : goodWord w = true) : w ∈ z_tbl := List.mem_filter.mpr ⟨h, g⟩
/-- by its place in lw_tbl -/
theorem z_tat {w : Cond} (i : Nat) (h : lw_tbl[i]? = some w) (g : goodWord w = true) : w ∈ z_tbl := z_tin (List.mem_of_getElem? h) g
theorem z_goodIn (ws : List Cond) (h : ∀ w ∈ ws, w ∈ z_tbl) : GoodIn z_tbl ws := fun w hw => ⟨h w hw, good_of_word (List.mem_filter.mp (h w hw)).2⟩
abbrev z_F : Type := Option Nat
abbrev z_C : Type := (Nat × List z_F) ⊕ (Bool × Nat)
abbrev z_M : Type := (Nat → Nat → Int32) × (Nat → Nat → Int64)
def z_fs (b : Nat) (f : Nat → Int32) : Nat → List z_F → List Value
  | _, [] => []
  | j, none :: r => .int (f j) :: z_fs b f (j + 1) r
  | j, some t :: r => .ref (b + t) :: z_fs b f (j + 1) r
def z_ent (cI cL : ClassId) (b : Nat) (μ : z_M) (k : Nat) : z_C → va_E
  | .inl o => .inr (o.1, z_fs b (μ.1 k) 0 o.2)
  | .inr (false, n) => .inl (cI, n, .inl (μ.1 k))
  | .inr (true, n) => .inl (cL, n, .inr (.inl (μ.2 k)))
def z_wf (cI cL : ClassId) (b : Nat) (μ : z_M) : Nat → List z_C → va_W
  | _, [] => []
  | k, c :: r => (b + k, z_ent cI cL b μ k c) :: z_wf cI cL b μ (k + 1) r
def z_sI (μ : z_M) (k j : Nat) (v : Int32) : z_M := (fun k' j' => if k' = k ∧ j' = j then v else μ.1 k' j', μ.2)
def z_sL (μ : z_M) (k j : Nat) (v : Int64) : z_M := (μ.1, fun k' j' => if k' = k ∧ j' = j then v else μ.2 k' j')
theorem z_wf_get (cI cL : ClassId) (b : Nat) (μ : z_M) : ∀ (G : List z_C) (k0 i : Nat), (z_wf cI cL b μ k0 G)[i]? = (G[i]?).map (fun c => (b + (k0 + i), z_ent cI cL b μ (k0 + i) c)) := by
  intro G
  induction G with
  | nil => intro k0 i; simp [z_wf]
  | cons c r ih =>
    intro k0 i
    cases i with
    | zero => simp [z_wf]
    | succ i =>
      simp only [z_wf, List.getElem?_cons_succ]
      rw [ih]
      rw [show k0 + 1 + i = k0 + (i + 1) by omega]
theorem z_wf_at {cI cL : ClassId} {b : Nat} {μ : z_M} {G : List z_C} {k : Nat} {c : z_C} (h : G[k]? = some c) : (z_wf cI cL b μ 0 G)[k]? = some (b + k, z_ent cI cL b μ k c) := by
  rw [z_wf_get, h, Nat.zero_add]; rfl
theorem z_fs_get (b : Nat) (f : Nat → Int32) : ∀ (fs : List z_F) (j0 i : Nat), (z_fs b f j0 fs)[i]? = (fs[i]?).map (fun x => match x with | none => Value.int (f (j0 + i)) | some t => Value.ref (b + t)) := by
  intro fs
  induction fs with
  | nil => intro j0 i; simp [z_fs]
  | cons c r ih =>
    intro j0 i
    cases i with
    | zero => cases c <;> simp [z_fs]
    | succ i =>
      have e : j0 + 1 + i = j0 + (i + 1) := by omega
      cases c <;> (simp only [z_fs, List.getElem?_cons_succ]; rw [ih, e])
theorem z_fs_int {b : Nat} {f : Nat → Int32} {fs : List z_F} {j : Nat} (h : fs[j]? = some none) : (z_fs b f 0 fs)[j]? = some (.int (f j)) := by
  rw [z_fs_get, h, Nat.zero_add]; rfl
theorem z_fs_ref {b : Nat} {f : Nat → Int32} {fs : List z_F} {j t : Nat} (h : fs[j]? = some (some t)) : (z_fs b f 0 fs)[j]? = some (.ref (b + t)) := by
  rw [z_fs_get, h]; rfl
theorem z_fs_len (b : Nat) (f : Nat → Int32) : ∀ (fs : List z_F) (j0 : Nat), (z_fs b f j0 fs).length = fs.length := by
  intro fs
  induction fs with
  | nil => intro j0; rfl
  | cons c r ih => intro j0; cases c <;> simp [z_fs, ih]
theorem z_fs_set {b : Nat} {f : Nat → Int32} {fs : List z_F} {j : Nat} {v : Int32} (h : fs[j]? = some none) : (z_fs b f 0 fs).set j (.int v) = z_fs b (fun j' => if j' = j then v else f j') 0 fs := by
  apply List.ext_getElem?
  intro i
  rw [List.getElem?_set, z_fs_get, z_fs_get]
  by_cases hi : j = i
  · subst hi
    have hl : j < fs.length := (List.getElem?_eq_some_iff.mp h).1
    rw [if_pos rfl, if_pos (by rw [z_fs_len]; exact hl), h]
    simp
  · rw [if_neg hi]
    cases hq : fs[i]? with
    | none => rfl
    | some x => cases x <;> simp [Ne.symm hi]
theorem z_wf_sI {cI cL : ClassId} {b : Nat} {μ : z_M} {G : List z_C} {k j ci : Nat} {fs : List z_F} {v : Int32} (h : G[k]? = some (.inl (ci, fs))) (hj : fs[j]? = some none) :
    (z_wf cI cL b μ 0 G).set k (b + k, .inr (ci, (z_fs b (μ.1 k) 0 fs).set j (.int v))) = z_wf cI cL b (z_sI μ k j v) 0 G := by
  apply List.ext_getElem?
  intro i
  rw [List.getElem?_set, z_wf_get, z_wf_get]
  simp only [Nat.zero_add]
  by_cases hi : k = i
  · subst hi
    have hl : k < (z_wf cI cL b μ 0 G).length := (List.getElem?_eq_some_iff.mp (z_wf_at h)).1
    simp only [if_pos, hl, h, Option.map_some, z_ent, z_sI]
    rw [z_fs_set hj]
    simp
  · rw [if_neg hi]
    cases hq : G[i]? with
    | none => rfl
    | some x =>
      rcases x with ⟨o1, o2⟩ | ⟨_ | _, n⟩ <;> simp [z_ent, z_sI, Ne.symm hi]
theorem z_wf_aI {cI cL : ClassId} {b : Nat} {μ : z_M} {G : List z_C} {k j n : Nat} {v : Int32} (h : G[k]? = some (.inr (false, n))) :
    (z_wf cI cL b μ 0 G).set k (b + k, .inl (cI, n, .inl (upd (μ.1 k) j v))) = z_wf cI cL b (z_sI μ k j v) 0 G := by
  apply List.ext_getElem?
  intro i
  rw [List.getElem?_set, z_wf_get, z_wf_get]
  simp only [Nat.zero_add]
  by_cases hi : k = i
  · subst hi
    have hl : k < (z_wf cI cL b μ 0 G).length := (List.getElem?_eq_some_iff.mp (z_wf_at h)).1
    simp only [if_pos, hl, h, Option.map_some, z_ent, z_sI, upd]
    simp
    rfl
  · rw [if_neg hi]
    cases hq : G[i]? with
    | none => rfl
    | some x =>
      rcases x with ⟨o1, o2⟩ | ⟨_ | _, n⟩ <;> simp [z_ent, z_sI, Ne.symm hi]
theorem z_wf_aL {cI cL : ClassId} {b : Nat} {μ : z_M} {G : List z_C} {k j n : Nat} {v : Int64} (h : G[k]? = some (.inr (true, n))) :
    (z_wf cI cL b μ 0 G).set k (b + k, .inl (cL, n, .inr (.inl (vp_updL (μ.2 k) j v)))) = z_wf cI cL b (z_sL μ k j v) 0 G := by
  apply List.ext_getElem?
  intro i
  rw [List.getElem?_set, z_wf_get, z_wf_get]
  simp only [Nat.zero_add]
  by_cases hi : k = i
  · subst hi
    have hl : k < (z_wf cI cL b μ 0 G).length := (List.getElem?_eq_some_iff.mp (z_wf_at h)).1
    simp only [if_pos, hl, h, Option.map_some, z_ent, z_sL, vp_updL]
    simp
    rfl
  · rw [if_neg hi]
    cases hq : G[i]? with
    | none => rfl
    | some x =>
      rcases x with ⟨o1, o2⟩ | ⟨_ | _, n⟩ <;> simp [z_ent, z_sL, Ne.symm hi]
/-- a system: what the heap holds for a memory; what is known of the tables and of what nobody writes; its region -/
abbrev z_E (M : Type) : Type := (M → Heap → Prop) × (State → Heap → Prop) × (Nat → Prop)
def z_EOK {M : Type} (E : z_E M) : Prop := (∀ s U H, s.WarmedH U.vm → E.2.1 s H → E.2.1 U H) ∧ (∀ u U H, U.vm = u.vm → E.2.1 u H → E.2.1 U H) ∧ ∀ U H H1, H.size ≤ H1.size → (∀ q : Nat, q < H.size → ¬ E.2.2 q → H1[q]? = H[q]?) → E.2.1 U H → E.2.1 U H1
/-- class, code, locals, return type, depth -/
abbrev z_Y : Type := String × ByteArray × Nat × Option FieldType × Nat
def z_rm (d : Nat) : Room := { frames := d, cells := 0, slots := 0, locals := 60 * d }
def z_Qc {M : Type} (E : z_E M) (v : Option Value) (μ : M) : Array Value → State → Outcome → State → Prop := fun _ st o t => o = .returned v ∧ E.1 μ t.heap ∧ va_F E.2.2 st t
def z_Pc {M : Type} (E : z_E M) (As : List Value) (μ : M) : Array Value → State → Prop := fun v U => v = As.toArray ∧ E.1 μ U.heap ∧ E.2.1 U U.heap
def z_Fix (y : z_Y) (p : Program) (m : MethodId) (c : Code) (s : State) (args : Array Value) (meth : Method) : Prop := CallFix p m c y.2.1 y.2.2.1 s args z_tbl y.1 ∧ meth.sig.returnType = y.2.2.2.1 ∧ meth.locks = false
def z_w {M α : Type} (E : z_E M) (y : z_Y) (em : α → Option Value) (pc : Nat) (L : List (Nat × Value)) (S : List Value) (μ : M) (F : Option (α × M)) : Prop :=
  ∀ (r : α) (μ' : M), F = some (r, μ') → ∀ (p : Program) (l : Launch) (e : Env) (s : State) (m : MethodId) (args : Array Value) (below : List Frame) (meth : Method) (c : Code) (H : Heap) (locs : List Loc) (ls : Array Slot), z_Fix y p m c s args meth → z_EOK E → E.2.1 s s.heap → E.1 μ H → va_S E.2.2 s.heap H locs → lv_has ls y.2.2.1 L →
    W p l e (z_rm y.2.2.2.2) s m args below meth c H locs 0 0 (MQ below (z_Qc E (em r) μ') args s 0 0 E.2.2) (F0 m pc ls S)
/-- a method's contract -/
def z_S {M α : Type} (E : z_E M) (d : Nat) (yn : MethodName) (cc : ByteArray) (nL : Nat) (ret : Option FieldType) (em : α → Option Value) (As : List Value) (μ : M) (F : Option (α × M)) : Prop :=
  ∀ (r : α) (μ' : M), F = some (r, μ') → z_EOK E → ∀ l : Launch, Met l yn (.code yn cc nL ret :: z_tbl) (z_rm d) (z_Pc E As μ) (z_Qc E (em r) μ') 0 0 E.2.2
def z_look (L : List (Nat × Value)) (i : Nat) : Option Value := match L with
  | [] => none
  | q :: r => if q.1 = i then some q.2 else z_look r i
theorem z_look_at {ls : Array Slot} {nL : Nat} {v : Value} {i : Nat} : ∀ {L : List (Nat × Value)}, lv_has ls nL L → z_look L i = some v → ls[i]? = some (.val v) := by
  intro L h
  have h2 := h.2.2
  clear h
  induction L with
  | nil => intro h; simp [z_look] at h
  | cons q r ih =>
    intro h
    simp only [z_look] at h
    by_cases hq : q.1 = i
    · rw [if_pos hq] at h
      cases h
      rw [← hq]
      exact h2 q List.mem_cons_self
    · rw [if_neg hq] at h
      exact ih (fun x hx => h2 x (List.mem_cons_of_mem _ hx)) h
def z_sto1 (L : List (Nat × Value)) (i : Nat) (v : Value) : List (Nat × Value) := (L.filter fun q => decide (q.1 < i) && !(q.1 + 1 == i && q.2.category == 2)) ++ (i, v) :: (L.filter fun q => decide (i < q.1))
def z_sto2 (L : List (Nat × Value)) (i : Nat) (v : Value) : List (Nat × Value) := (L.filter fun q => decide (q.1 < i) && !(q.1 + 1 == i && q.2.category == 2)) ++ (i, v) :: (L.filter fun q => decide (i + 1 < q.1))
theorem z_sto1_has {ls : Array Slot} {nL i : Nat} {v : Value} {L : List (Nat × Value)} (h : lv_has ls nL ((i, v) :: L.filter (fun q => !(q.1 == i) && !(q.1 + 1 == i && q.2.category == 2)))) : lv_has ls nL (z_sto1 L i v) := by
  refine ⟨h.1, h.2.1, fun q hq => h.2.2 q ?_⟩
  simp only [z_sto1, List.mem_append, List.mem_cons, List.mem_filter] at hq ⊢
  rcases hq with ⟨h1, h2⟩ | h1 | ⟨h1, h2⟩
  · refine Or.inr ⟨h1, ?_⟩
    simp only [Bool.and_eq_true, decide_eq_true_eq] at h2
    simp only [Bool.and_eq_true]
    exact ⟨by simp; omega, h2.2⟩
  · exact Or.inl h1
  · refine Or.inr ⟨h1, ?_⟩
    simp only [decide_eq_true_eq] at h2
    have e1 : (q.1 == i) = false := by simp; omega
    have e2 : (q.1 + 1 == i) = false := by simp; omega
    simp [e1, e2]
theorem z_sto2_has {ls : Array Slot} {nL i : Nat} {v : Value} {L : List (Nat × Value)} (h : lv_has ls nL ((i, v) :: L.filter (fun q => !(q.1 == i) && (!(q.1 == i + 1) && !(q.1 + 1 == i && q.2.category == 2))))) : lv_has ls nL (z_sto2 L i v) := by
  refine ⟨h.1, h.2.1, fun q hq => h.2.2 q ?_⟩
  simp only [z_sto2, List.mem_append, List.mem_cons, List.mem_filter] at hq ⊢
  rcases hq with ⟨h1, h2⟩ | h1 | ⟨h1, h2⟩
  · refine Or.inr ⟨h1, ?_⟩
    simp only [Bool.and_eq_true, decide_eq_true_eq] at h2
    simp only [Bool.and_eq_true]
    exact ⟨by simp; omega, by simp; omega, h2.2⟩
  · exact Or.inl h1
  · refine Or.inr ⟨h1, ?_⟩
    simp only [decide_eq_true_eq] at h2
    have e1 : (q.1 == i) = false := by simp; omega
    have e2 : (q.1 == i + 1) = false := by simp; omega
    have e3 : (q.1 + 1 == i) = false := by simp; omega
    simp [e1, e2, e3]
def z_chk {β : Type} (i : Int32) (n : Nat) (A : Option β) : Option β := if 0 ≤ i.toInt ∧ i.toInt < n then A else none
theorem z_chk_in {β : Type} {i : Int32} {n : Nat} {A : Option β} (h : 0 ≤ i.toInt ∧ i.toInt < n) : z_chk i n A = A := if_pos h
theorem z_chk_some {β : Type} {i : Int32} {n : Nat} {A : Option β} {x : β} (h : z_chk i n A = some x) : vp_in i n ∧ A = some x := by
  unfold z_chk at h
  by_cases hc : 0 ≤ i.toInt ∧ i.toInt < n
  · rw [if_pos hc] at h
    exact ⟨vp_in_iff.mpr hc, h⟩
  · rw [if_neg hc] at h
    cases h
def z_ix (i : Int32) : Nat := i.toNatClampNeg
/-- a return that narrows -/
theorem z_nret {p : Program} {l : Launch} {e : Env} {R : Room} {s : State} {m : MethodId} {args : Array Value} {below : List Frame} {meth : Method} {c : Code} {H : Heap} {locs : List Loc} {cells slots : Nat} {cc : ByteArray} {Qc : Array Value → State → Outcome → State → Prop} {free : Addr → Prop} {v v' : Int32} {ty : FieldType} (hexec : p.tables.exec = Jvm.exec) (hb : c.code = cc) (hr : meth.sig.returnType = some ty) (hn : narrow ty (.int v) = .int v')
    (hq : ∀ t : State, t.heap = H → s.WarmedH t.vm → Qc args s (.returned (some (.int v'))) t) (hf : ∀ q ∈ locs, free q.base)
    {pc : Nat} {ls : Array Slot} (hdg : decode cc pc = .ok (.ireturn, 1)) (hlocks : meth.locks = false) : W p l e R s m args below meth c H locs cells slots (MQ below Qc args s cells slots free) (F0 m pc ls [.int v]) := by
  intro T hT X
  obtain ⟨fs, hret, hrun, hended, hW, hframe⟩ := X.leave (v := some (.int v')) (hlocks := hlocks) (fun h => by rw [hr] at h; cases h)
  have hmeth' : T.vm.method? m = some meth := X.method'
  refine ⟨T.setFrames fs, ?_, .returned (some (.int v')), hrun, hended, hq _ hT hW, locs, ⟨⟨_, rfl⟩, hW, hframe⟩, hf⟩
  jvm_step X.here [X.here.top, hexec, hb, hdg, hmeth', hr, hn]
  (try refine ⟨rfl, ?_⟩); (try refine ⟨rfl, ?_⟩)
  first | (intro acts; rw [hret _ acts rfl rfl rfl]) | rw [hret _ _ rfl rfl rfl]
  exact Steps.refl _
theorem z_iinc0 {p : Program} {l : Launch} {e : Env} {R : Room} {s : State} {m : MethodId} {args : Array Value} {below : List Frame} {meth : Method} {c : Code} {H : Heap} {locs : List Loc} {cells slots : Nat} {Q : State → Prop} {cc : ByteArray} {pc : Nat} {ls : Array Slot} {rest : List Value} (hexec : p.tables.exec = Jvm.exec) (hb : c.code = cc) {i nL : Nat} {n : Int} {x v : Int32} {lv : List (Nat × Value)} (hdg : decode cc pc = .ok (.iinc i n, 3)) (h : lv_has ls nL lv) (hx : z_look lv i = some (.int x)) (hv : x + Int32.ofInt n = v) (hn : i < nL)
    (kk : ∀ ls' : Array Slot, lv_has ls' nL ((i, Value.int v) :: lv.filter (fun q => !(q.1 == i) && !(q.1 + 1 == i && q.2.category == 2))) → W p l e R s m args below meth c H locs cells slots Q (F0 m (pc + 3) ls' rest)) : W p l e R s m args below meth c H locs cells slots Q (F0 m pc ls rest) := by
  subst hv
  have hg := z_look_at h hx
  obtain ⟨ls', e', h'⟩ := lv_store1 (v := .int (x + Int32.ofInt n)) h hn rfl
  intro T hT X
  obtain ⟨t, a, b⟩ := kk ls' h' T hT X
  refine ⟨t, ?_, b⟩
  jvm_step X.here [X.here.top, ↓top_set X.here.top, hexec, hb, hdg, hg, e']
  exact a
section ZR
variable {M α : Type} {E : z_E M} {y : z_Y} {em : α → Option Value} {pc : Nat} {L : List (Nat × Value)} {S : List Value} {μ : M} {F A B : Option (α × M)}

theorem z_iconst {n : Int} {v : Int32} (hd : decode y.2.1 pc = .ok (.iconst n, 1)) (hv : Int32.ofInt n = v) (k : z_w E y em (pc + 1) L (.int v :: S) μ F) : z_w E y em pc L S μ F :=
  fun r μ' hF p l e s m args below meth c H locs ls hX hE hK hW hS hl => lv_iconst hX.1.1 hX.1.2.1 hd hv (k r μ' hF p l e s m args below meth c H locs ls hX hE hK hW hS hl)
theorem z_bipush {n : Int} {v : Int32} (hd : decode y.2.1 pc = .ok (.bipush n, 2)) (hv : (Int8.ofInt n).toInt32 = v) (k : z_w E y em (pc + 2) L (.int v :: S) μ F) : z_w E y em pc L S μ F :=
  fun r μ' hF p l e s m args below meth c H locs ls hX hE hK hW hS hl => lv_bipush hX.1.1 hX.1.2.1 hd hv (k r μ' hF p l e s m args below meth c H locs ls hX hE hK hW hS hl)
theorem z_sipush {n : Int} {v : Int32} (hd : decode y.2.1 pc = .ok (.sipush n, 3)) (hv : (Int16.ofInt n).toInt32 = v) (k : z_w E y em (pc + 3) L (.int v :: S) μ F) : z_w E y em pc L S μ F :=
  fun r μ' hF p l e s m args below meth c H locs ls hX hE hK hW hS hl => lv_sipush hX.1.1 hX.1.2.1 hd hv (k r μ' hF p l e s m args below meth c H locs ls hX hE hK hW hS hl)
theorem z_lconst {n : Fin 2} {v : Int64} (hd : decode y.2.1 pc = .ok (.lconst n, 1)) (hv : Int64.ofNat (n : Nat) = v) (k : z_w E y em (pc + 1) L (.long v :: S) μ F) : z_w E y em pc L S μ F :=
  fun r μ' hF p l e s m args below meth c H locs ls hX hE hK hW hS hl => lv_lconst hX.1.1 hX.1.2.1 hd hv (k r μ' hF p l e s m args below meth c H locs ls hX hE hK hW hS hl)
theorem z_ldc {i : Nat} {v : Int32} (hd : decode y.2.1 pc = .ok (.ldc i, 2)) (hc : Cond.constant y.1 i v ∈ z_tbl) (k : z_w E y em (pc + 2) L (.int v :: S) μ F) : z_w E y em pc L S μ F :=
  fun r μ' hF p l e s m args below meth c H locs ls hX hE hK hW hS hl => lv_ldc hX.1.1 hX.1.2.1 hX.1.2.2.2.1 (hX.1.2.2.2.2 _ hc) hd (k r μ' hF p l e s m args below meth c H locs ls hX hE hK hW hS hl)
theorem z_ldcw {i : Nat} {v : Int32} (hd : decode y.2.1 pc = .ok (.ldc_w i, 3)) (hc : Cond.constant y.1 i v ∈ z_tbl) (k : z_w E y em (pc + 3) L (.int v :: S) μ F) : z_w E y em pc L S μ F :=
  fun r μ' hF p l e s m args below meth c H locs ls hX hE hK hW hS hl => lv_ldcw hX.1.1 hX.1.2.1 hX.1.2.2.2.1 (hX.1.2.2.2.2 _ hc) hd (k r μ' hF p l e s m args below meth c H locs ls hX hE hK hW hS hl)
theorem z_ldc2 {i : Nat} {v : Int64} (hd : decode y.2.1 pc = .ok (.ldc2_w i, 3)) (hc : Cond.constantLong y.1 i v ∈ z_tbl) (k : z_w E y em (pc + 3) L (.long v :: S) μ F) : z_w E y em pc L S μ F :=
  fun r μ' hF p l e s m args below meth c H locs ls hX hE hK hW hS hl => lv_ldc2 hX.1.1 hX.1.2.1 hX.1.2.2.2.1 (hX.1.2.2.2.2 _ hc) hd (k r μ' hF p l e s m args below meth c H locs ls hX hE hK hW hS hl)
theorem z_iload_n {k0 : Fin 4} {x : Int32} (hd : decode y.2.1 pc = .ok (.iload_n k0, 1)) (hl0 : z_look L (k0 : Nat) = some (.int x)) (k : z_w E y em (pc + 1) L (.int x :: S) μ F) : z_w E y em pc L S μ F :=
  fun r μ' hF p l e s m args below meth c H locs ls hX hE hK hW hS hl => lv_iload_n hX.1.1 hX.1.2.1 hd rfl (z_look_at hl hl0) (k r μ' hF p l e s m args below meth c H locs ls hX hE hK hW hS hl)
theorem z_iload {i : Nat} {x : Int32} (hd : decode y.2.1 pc = .ok (.iload i, 2)) (hl0 : z_look L i = some (.int x)) (k : z_w E y em (pc + 2) L (.int x :: S) μ F) : z_w E y em pc L S μ F :=
  fun r μ' hF p l e s m args below meth c H locs ls hX hE hK hW hS hl => lv_iload hX.1.1 hX.1.2.1 hd (z_look_at hl hl0) (k r μ' hF p l e s m args below meth c H locs ls hX hE hK hW hS hl)
theorem z_lload_n {k0 : Fin 4} {x : Int64} (hd : decode y.2.1 pc = .ok (.lload_n k0, 1)) (hl0 : z_look L (k0 : Nat) = some (.long x)) (k : z_w E y em (pc + 1) L (.long x :: S) μ F) : z_w E y em pc L S μ F :=
  fun r μ' hF p l e s m args below meth c H locs ls hX hE hK hW hS hl => lv_lload_n hX.1.1 hX.1.2.1 hd rfl (z_look_at hl hl0) (k r μ' hF p l e s m args below meth c H locs ls hX hE hK hW hS hl)
theorem z_lload {i : Nat} {x : Int64} (hd : decode y.2.1 pc = .ok (.lload i, 2)) (hl0 : z_look L i = some (.long x)) (k : z_w E y em (pc + 2) L (.long x :: S) μ F) : z_w E y em pc L S μ F :=
  fun r μ' hF p l e s m args below meth c H locs ls hX hE hK hW hS hl => lv_lload hX.1.1 hX.1.2.1 hd (z_look_at hl hl0) (k r μ' hF p l e s m args below meth c H locs ls hX hE hK hW hS hl)
theorem z_aload_n {k0 : Fin 4} {x : Nat} (hd : decode y.2.1 pc = .ok (.aload_n k0, 1)) (hl0 : z_look L (k0 : Nat) = some (.ref x)) (k : z_w E y em (pc + 1) L (.ref x :: S) μ F) : z_w E y em pc L S μ F :=
  fun r μ' hF p l e s m args below meth c H locs ls hX hE hK hW hS hl => lv_aload_n hX.1.1 hX.1.2.1 hd rfl (z_look_at hl hl0) (k r μ' hF p l e s m args below meth c H locs ls hX hE hK hW hS hl)
theorem z_aload {i : Nat} {x : Nat} (hd : decode y.2.1 pc = .ok (.aload i, 2)) (hl0 : z_look L i = some (.ref x)) (k : z_w E y em (pc + 2) L (.ref x :: S) μ F) : z_w E y em pc L S μ F :=
  fun r μ' hF p l e s m args below meth c H locs ls hX hE hK hW hS hl => lv_aload hX.1.1 hX.1.2.1 hd (z_look_at hl hl0) (k r μ' hF p l e s m args below meth c H locs ls hX hE hK hW hS hl)
theorem z_istore_n {k0 : Fin 4} {x : Int32} {L' : List (Nat × Value)} (hd : decode y.2.1 pc = .ok (.istore_n k0, 1)) (hn : k0.val < y.2.2.1) (hL : z_sto1 L k0.val (.int x) = L') (k : z_w E y em (pc + 1) L' S μ F) : z_w E y em pc L (.int x :: S) μ F :=
  fun r μ' hF p l e s m args below meth c H locs ls hX hE hK hW hS hl => lv_istore_n hX.1.1 hX.1.2.1 hd rfl hl hn rfl (fun ls' hl' => k r μ' hF p l e s m args below meth c H locs ls' hX hE hK hW hS (hL ▸ z_sto1_has hl'))
theorem z_istore {i : Nat} {x : Int32} {L' : List (Nat × Value)} (hd : decode y.2.1 pc = .ok (.istore i, 2)) (hn : i < y.2.2.1) (hL : z_sto1 L i (.int x) = L') (k : z_w E y em (pc + 2) L' S μ F) : z_w E y em pc L (.int x :: S) μ F :=
  fun r μ' hF p l e s m args below meth c H locs ls hX hE hK hW hS hl => lv_istore hX.1.1 hX.1.2.1 hd hl hn rfl (fun ls' hl' => k r μ' hF p l e s m args below meth c H locs ls' hX hE hK hW hS (hL ▸ z_sto1_has hl'))
theorem z_lstore_n {k0 : Fin 4} {x : Int64} {L' : List (Nat × Value)} (hd : decode y.2.1 pc = .ok (.lstore_n k0, 1)) (hn : k0.val + 1 < y.2.2.1) (hL : z_sto2 L k0.val (.long x) = L') (k : z_w E y em (pc + 1) L' S μ F) : z_w E y em pc L (.long x :: S) μ F :=
  fun r μ' hF p l e s m args below meth c H locs ls hX hE hK hW hS hl => lv_lstore_n hX.1.1 hX.1.2.1 hd rfl hl hn rfl (fun ls' hl' => k r μ' hF p l e s m args below meth c H locs ls' hX hE hK hW hS (hL ▸ z_sto2_has hl'))
theorem z_lstore {i : Nat} {x : Int64} {L' : List (Nat × Value)} (hd : decode y.2.1 pc = .ok (.lstore i, 2)) (hn : i + 1 < y.2.2.1) (hL : z_sto2 L i (.long x) = L') (k : z_w E y em (pc + 2) L' S μ F) : z_w E y em pc L (.long x :: S) μ F :=
  fun r μ' hF p l e s m args below meth c H locs ls hX hE hK hW hS hl => lv_lstore hX.1.1 hX.1.2.1 hd hl hn rfl (fun ls' hl' => k r μ' hF p l e s m args below meth c H locs ls' hX hE hK hW hS (hL ▸ z_sto2_has hl'))
theorem z_astore_n {k0 : Fin 4} {x : Nat} {L' : List (Nat × Value)} (hd : decode y.2.1 pc = .ok (.astore_n k0, 1)) (hn : k0.val < y.2.2.1) (hL : z_sto1 L k0.val (.ref x) = L') (k : z_w E y em (pc + 1) L' S μ F) : z_w E y em pc L (.ref x :: S) μ F :=
  fun r μ' hF p l e s m args below meth c H locs ls hX hE hK hW hS hl => lv_astore_n hX.1.1 hX.1.2.1 hd rfl hl hn rfl (fun ls' hl' => k r μ' hF p l e s m args below meth c H locs ls' hX hE hK hW hS (hL ▸ z_sto1_has hl'))
theorem z_astore {i : Nat} {x : Nat} {L' : List (Nat × Value)} (hd : decode y.2.1 pc = .ok (.astore i, 2)) (hn : i < y.2.2.1) (hL : z_sto1 L i (.ref x) = L') (k : z_w E y em (pc + 2) L' S μ F) : z_w E y em pc L (.ref x :: S) μ F :=
  fun r μ' hF p l e s m args below meth c H locs ls hX hE hK hW hS hl => lv_astore hX.1.1 hX.1.2.1 hd hl hn rfl (fun ls' hl' => k r μ' hF p l e s m args below meth c H locs ls' hX hE hK hW hS (hL ▸ z_sto1_has hl'))
theorem z_iadd {x x2 : Int32} (hd : decode y.2.1 pc = .ok (.iadd, 1)) (k : z_w E y em (pc + 1) L (.int (x + x2) :: S) μ F) : z_w E y em pc L (.int x2 :: .int x :: S) μ F :=
  fun r μ' hF p l e s m args below meth c H locs ls hX hE hK hW hS hl => lv_iadd hX.1.1 hX.1.2.1 hd (k r μ' hF p l e s m args below meth c H locs ls hX hE hK hW hS hl)
theorem z_isub {x x2 : Int32} (hd : decode y.2.1 pc = .ok (.isub, 1)) (k : z_w E y em (pc + 1) L (.int (x - x2) :: S) μ F) : z_w E y em pc L (.int x2 :: .int x :: S) μ F :=
  fun r μ' hF p l e s m args below meth c H locs ls hX hE hK hW hS hl => lv_isub hX.1.1 hX.1.2.1 hd (k r μ' hF p l e s m args below meth c H locs ls hX hE hK hW hS hl)
theorem z_imul {x x2 : Int32} (hd : decode y.2.1 pc = .ok (.imul, 1)) (k : z_w E y em (pc + 1) L (.int (x * x2) :: S) μ F) : z_w E y em pc L (.int x2 :: .int x :: S) μ F :=
  fun r μ' hF p l e s m args below meth c H locs ls hX hE hK hW hS hl => lv_imul hX.1.1 hX.1.2.1 hd (k r μ' hF p l e s m args below meth c H locs ls hX hE hK hW hS hl)
theorem z_iand {x x2 : Int32} (hd : decode y.2.1 pc = .ok (.iand, 1)) (k : z_w E y em (pc + 1) L (.int (x &&& x2) :: S) μ F) : z_w E y em pc L (.int x2 :: .int x :: S) μ F :=
  fun r μ' hF p l e s m args below meth c H locs ls hX hE hK hW hS hl => lv_iand hX.1.1 hX.1.2.1 hd (k r μ' hF p l e s m args below meth c H locs ls hX hE hK hW hS hl)
theorem z_ior {x x2 : Int32} (hd : decode y.2.1 pc = .ok (.ior, 1)) (k : z_w E y em (pc + 1) L (.int (x ||| x2) :: S) μ F) : z_w E y em pc L (.int x2 :: .int x :: S) μ F :=
  fun r μ' hF p l e s m args below meth c H locs ls hX hE hK hW hS hl => lv_ior hX.1.1 hX.1.2.1 hd (k r μ' hF p l e s m args below meth c H locs ls hX hE hK hW hS hl)
theorem z_ixor {x x2 : Int32} (hd : decode y.2.1 pc = .ok (.ixor, 1)) (k : z_w E y em (pc + 1) L (.int (x ^^^ x2) :: S) μ F) : z_w E y em pc L (.int x2 :: .int x :: S) μ F :=
  fun r μ' hF p l e s m args below meth c H locs ls hX hE hK hW hS hl => lv_ixor hX.1.1 hX.1.2.1 hd (k r μ' hF p l e s m args below meth c H locs ls hX hE hK hW hS hl)
theorem z_ineg {x : Int32} (hd : decode y.2.1 pc = .ok (.ineg, 1)) (k : z_w E y em (pc + 1) L (.int (-x) :: S) μ F) : z_w E y em pc L (.int x :: S) μ F :=
  fun r μ' hF p l e s m args below meth c H locs ls hX hE hK hW hS hl => lv_ineg hX.1.1 hX.1.2.1 hd (k r μ' hF p l e s m args below meth c H locs ls hX hE hK hW hS hl)
theorem z_ladd {x x2 : Int64} (hd : decode y.2.1 pc = .ok (.ladd, 1)) (k : z_w E y em (pc + 1) L (.long (x + x2) :: S) μ F) : z_w E y em pc L (.long x2 :: .long x :: S) μ F :=
  fun r μ' hF p l e s m args below meth c H locs ls hX hE hK hW hS hl => lv_ladd hX.1.1 hX.1.2.1 hd (k r μ' hF p l e s m args below meth c H locs ls hX hE hK hW hS hl)
theorem z_lsub {x x2 : Int64} (hd : decode y.2.1 pc = .ok (.lsub, 1)) (k : z_w E y em (pc + 1) L (.long (x - x2) :: S) μ F) : z_w E y em pc L (.long x2 :: .long x :: S) μ F :=
  fun r μ' hF p l e s m args below meth c H locs ls hX hE hK hW hS hl => lv_lsub hX.1.1 hX.1.2.1 hd (k r μ' hF p l e s m args below meth c H locs ls hX hE hK hW hS hl)
theorem z_lmul {x x2 : Int64} (hd : decode y.2.1 pc = .ok (.lmul, 1)) (k : z_w E y em (pc + 1) L (.long (x * x2) :: S) μ F) : z_w E y em pc L (.long x2 :: .long x :: S) μ F :=
  fun r μ' hF p l e s m args below meth c H locs ls hX hE hK hW hS hl => lv_lmul hX.1.1 hX.1.2.1 hd (k r μ' hF p l e s m args below meth c H locs ls hX hE hK hW hS hl)
theorem z_land {x x2 : Int64} (hd : decode y.2.1 pc = .ok (.land, 1)) (k : z_w E y em (pc + 1) L (.long (x &&& x2) :: S) μ F) : z_w E y em pc L (.long x2 :: .long x :: S) μ F :=
  fun r μ' hF p l e s m args below meth c H locs ls hX hE hK hW hS hl => lv_land hX.1.1 hX.1.2.1 hd (k r μ' hF p l e s m args below meth c H locs ls hX hE hK hW hS hl)
theorem z_lor {x x2 : Int64} (hd : decode y.2.1 pc = .ok (.lor, 1)) (k : z_w E y em (pc + 1) L (.long (x ||| x2) :: S) μ F) : z_w E y em pc L (.long x2 :: .long x :: S) μ F :=
  fun r μ' hF p l e s m args below meth c H locs ls hX hE hK hW hS hl => lv_lor hX.1.1 hX.1.2.1 hd (k r μ' hF p l e s m args below meth c H locs ls hX hE hK hW hS hl)
theorem z_i2l {x : Int32} (hd : decode y.2.1 pc = .ok (.i2l, 1)) (k : z_w E y em (pc + 1) L (.long x.toInt64 :: S) μ F) : z_w E y em pc L (.int x :: S) μ F :=
  fun r μ' hF p l e s m args below meth c H locs ls hX hE hK hW hS hl => lv_i2l hX.1.1 hX.1.2.1 hd rfl (k r μ' hF p l e s m args below meth c H locs ls hX hE hK hW hS hl)
theorem z_l2i {x : Int64} (hd : decode y.2.1 pc = .ok (.l2i, 1)) (k : z_w E y em (pc + 1) L (.int x.toInt32 :: S) μ F) : z_w E y em pc L (.long x :: S) μ F :=
  fun r μ' hF p l e s m args below meth c H locs ls hX hE hK hW hS hl => lv_l2i hX.1.1 hX.1.2.1 hd rfl (k r μ' hF p l e s m args below meth c H locs ls hX hE hK hW hS hl)
theorem z_i2b {x : Int32} (hd : decode y.2.1 pc = .ok (.i2b, 1)) (k : z_w E y em (pc + 1) L (.int x.toInt8.toInt32 :: S) μ F) : z_w E y em pc L (.int x :: S) μ F :=
  fun r μ' hF p l e s m args below meth c H locs ls hX hE hK hW hS hl => lv_i2b hX.1.1 hX.1.2.1 hd rfl (k r μ' hF p l e s m args below meth c H locs ls hX hE hK hW hS hl)
theorem z_i2s {x : Int32} (hd : decode y.2.1 pc = .ok (.i2s, 1)) (k : z_w E y em (pc + 1) L (.int x.toInt16.toInt32 :: S) μ F) : z_w E y em pc L (.int x :: S) μ F :=
  fun r μ' hF p l e s m args below meth c H locs ls hX hE hK hW hS hl => lv_i2s hX.1.1 hX.1.2.1 hd rfl (k r μ' hF p l e s m args below meth c H locs ls hX hE hK hW hS hl)
theorem z_dup {v : Value} (hd : decode y.2.1 pc = .ok (.dup, 1)) (hc : v.category = 1) (k : z_w E y em (pc + 1) L (v :: v :: S) μ F) : z_w E y em pc L (v :: S) μ F :=
  fun r μ' hF p l e s m args below meth c H locs ls hX hE hK hW hS hl => lv_dup hX.1.1 hX.1.2.1 hd hc (k r μ' hF p l e s m args below meth c H locs ls hX hE hK hW hS hl)
theorem z_pop {v : Value} (hd : decode y.2.1 pc = .ok (.pop, 1)) (hc : v.category = 1) (k : z_w E y em (pc + 1) L S μ F) : z_w E y em pc L (v :: S) μ F :=
  fun r μ' hF p l e s m args below meth c H locs ls hX hE hK hW hS hl => lv_pop hX.1.1 hX.1.2.1 hd hc (k r μ' hF p l e s m args below meth c H locs ls hX hE hK hW hS hl)
theorem z_dup2 {v v2 : Value} (hd : decode y.2.1 pc = .ok (.dup2, 1)) (hc : v.category = 1) (hc2 : v2.category = 1) (k : z_w E y em (pc + 1) L (v :: v2 :: v :: v2 :: S) μ F) : z_w E y em pc L (v :: v2 :: S) μ F :=
  fun r μ' hF p l e s m args below meth c H locs ls hX hE hK hW hS hl => lv_dup2_11 hX.1.1 hX.1.2.1 hd hc hc2 (k r μ' hF p l e s m args below meth c H locs ls hX hE hK hW hS hl)
theorem z_goto {off : Int} {tgt : Nat} (hd : decode y.2.1 pc = .ok (.goto off, 3)) (ht : (pc : Int) + off = (tgt : Int)) (k : z_w E y em tgt L S μ F) : z_w E y em pc L S μ F :=
  fun r μ' hF p l e s m args below meth c H locs ls hX hE hK hW hS hl => lv_goto hX.1.1 hX.1.2.1 hd ht (k r μ' hF p l e s m args below meth c H locs ls hX hE hK hW hS hl)
theorem z_drop {L' : List (Nat × Value)} (ks : List Nat) (hL : lv_pick L ks = L') (k : z_w E y em pc L' S μ F) : z_w E y em pc L S μ F :=
  fun r μ' hF p l e s m args below meth c H locs ls hX hE hK hW hS hl => k r μ' hF p l e s m args below meth c H locs ls hX hE hK hW hS (lv_sub hl ks hL)
theorem z_ishl {x x2 : Int32} (hd : decode y.2.1 pc = .ok (.ishl, 1)) (k : z_w E y em (pc + 1) L (.int (x <<< (x2 &&& 31)) :: S) μ F) : z_w E y em pc L (.int x2 :: .int x :: S) μ F :=
  fun r μ' hF p l e s m args below meth c H locs ls hX hE hK hW hS hl => lv_ishl hX.1.1 hX.1.2.1 hd (k r μ' hF p l e s m args below meth c H locs ls hX hE hK hW hS hl)
theorem z_ishr {x x2 : Int32} (hd : decode y.2.1 pc = .ok (.ishr, 1)) (k : z_w E y em (pc + 1) L (.int (x >>> (x2 &&& 31)) :: S) μ F) : z_w E y em pc L (.int x2 :: .int x :: S) μ F :=
  fun r μ' hF p l e s m args below meth c H locs ls hX hE hK hW hS hl => lv_ishr hX.1.1 hX.1.2.1 hd (k r μ' hF p l e s m args below meth c H locs ls hX hE hK hW hS hl)
theorem z_iushr {x x2 : Int32} (hd : decode y.2.1 pc = .ok (.iushr, 1)) (k : z_w E y em (pc + 1) L (.int (x.toUInt32 >>> (x2.toUInt32 &&& Int32.toUInt32 31)).toInt32 :: S) μ F) : z_w E y em pc L (.int x2 :: .int x :: S) μ F :=
  fun r μ' hF p l e s m args below meth c H locs ls hX hE hK hW hS hl => lv_iushr hX.1.1 hX.1.2.1 hd rfl (k r μ' hF p l e s m args below meth c H locs ls hX hE hK hW hS hl)
theorem z_lshl {x : Int64} {x2 : Int32} (hd : decode y.2.1 pc = .ok (.lshl, 1)) (k : z_w E y em (pc + 1) L (.long (x <<< (x2.toInt64 &&& 63)) :: S) μ F) : z_w E y em pc L (.int x2 :: .long x :: S) μ F :=
  fun r μ' hF p l e s m args below meth c H locs ls hX hE hK hW hS hl => lv_lshl hX.1.1 hX.1.2.1 hd rfl (k r μ' hF p l e s m args below meth c H locs ls hX hE hK hW hS hl)
theorem z_iinc {i : Nat} {n : Int} {x v : Int32} {L' : List (Nat × Value)} (hd : decode y.2.1 pc = .ok (.iinc i n, 3)) (hl0 : z_look L i = some (.int x)) (hn : i < y.2.2.1) (hv : x + Int32.ofInt n = v) (hL : z_sto1 L i (.int v) = L') (k : z_w E y em (pc + 3) L' S μ F) : z_w E y em pc L S μ F :=
  fun r μ' hF p l e s m args below meth c H locs ls hX hE hK hW hS hl => z_iinc0 hX.1.1 hX.1.2.1 hd hl hl0 hv hn (fun ls' hl' => k r μ' hF p l e s m args below meth c H locs ls' hX hE hK hW hS (hL ▸ z_sto1_has hl'))
theorem z_if_eq {x : Int32} {off : Int} {tgt : Nat} (hd : decode y.2.1 pc = .ok (.ifCond .eq off, 3)) (ht : (pc : Int) + off = (tgt : Int)) (k1 : x = 0 → z_w E y em tgt L S μ A) (k2 : ¬ (x = 0) → z_w E y em (pc + 3) L S μ B) : z_w E y em pc L (.int x :: S) μ (if x = 0 then A else B) :=
  fun r μ' hF p l e s m args below meth c H locs ls hX hE hK hW hS hl => lv_if_eq hX.1.1 hX.1.2.1 hd ht (fun h => k1 (h) r μ' (by have hF := hF; rw [if_pos (h)] at hF; exact hF) p l e s m args below meth c H locs ls hX hE hK hW hS hl) (fun h => k2 (h) r μ' (by have hF := hF; rw [if_neg (h)] at hF; exact hF) p l e s m args below meth c H locs ls hX hE hK hW hS hl)
theorem z_if_ne {x : Int32} {off : Int} {tgt : Nat} (hd : decode y.2.1 pc = .ok (.ifCond .ne off, 3)) (ht : (pc : Int) + off = (tgt : Int)) (k1 : x = 0 → z_w E y em (pc + 3) L S μ A) (k2 : ¬ (x = 0) → z_w E y em tgt L S μ B) : z_w E y em pc L (.int x :: S) μ (if x = 0 then A else B) :=
  fun r μ' hF p l e s m args below meth c H locs ls hX hE hK hW hS hl => lv_if_ne hX.1.1 hX.1.2.1 hd ht (fun h => k2 (h) r μ' (by have hF := hF; rw [if_neg (h)] at hF; exact hF) p l e s m args below meth c H locs ls hX hE hK hW hS hl) (fun h => k1 (h) r μ' (by have hF := hF; rw [if_pos (h)] at hF; exact hF) p l e s m args below meth c H locs ls hX hE hK hW hS hl)
theorem z_if_lt {x : Int32} {off : Int} {tgt : Nat} (hd : decode y.2.1 pc = .ok (.ifCond .lt off, 3)) (ht : (pc : Int) + off = (tgt : Int)) (k1 : x < 0 → z_w E y em tgt L S μ A) (k2 : ¬ (x < 0) → z_w E y em (pc + 3) L S μ B) : z_w E y em pc L (.int x :: S) μ (if x < 0 then A else B) :=
  fun r μ' hF p l e s m args below meth c H locs ls hX hE hK hW hS hl => lv_if_lt hX.1.1 hX.1.2.1 hd ht (fun h => k1 (h) r μ' (by have hF := hF; rw [if_pos (h)] at hF; exact hF) p l e s m args below meth c H locs ls hX hE hK hW hS hl) (fun h => k2 (h) r μ' (by have hF := hF; rw [if_neg (h)] at hF; exact hF) p l e s m args below meth c H locs ls hX hE hK hW hS hl)
theorem z_if_ge {x : Int32} {off : Int} {tgt : Nat} (hd : decode y.2.1 pc = .ok (.ifCond .ge off, 3)) (ht : (pc : Int) + off = (tgt : Int)) (k1 : x < 0 → z_w E y em (pc + 3) L S μ A) (k2 : ¬ (x < 0) → z_w E y em tgt L S μ B) : z_w E y em pc L (.int x :: S) μ (if x < 0 then A else B) :=
  fun r μ' hF p l e s m args below meth c H locs ls hX hE hK hW hS hl => lv_if_ge hX.1.1 hX.1.2.1 hd ht (fun h => k2 (Int32.not_lt.mpr h) r μ' (by have hF := hF; rw [if_neg (Int32.not_lt.mpr h)] at hF; exact hF) p l e s m args below meth c H locs ls hX hE hK hW hS hl) (fun h => k1 (Int32.not_le.mp h) r μ' (by have hF := hF; rw [if_pos (Int32.not_le.mp h)] at hF; exact hF) p l e s m args below meth c H locs ls hX hE hK hW hS hl)
theorem z_if_gt {x : Int32} {off : Int} {tgt : Nat} (hd : decode y.2.1 pc = .ok (.ifCond .gt off, 3)) (ht : (pc : Int) + off = (tgt : Int)) (k1 : 0 < x → z_w E y em tgt L S μ A) (k2 : ¬ (0 < x) → z_w E y em (pc + 3) L S μ B) : z_w E y em pc L (.int x :: S) μ (if 0 < x then A else B) :=
  fun r μ' hF p l e s m args below meth c H locs ls hX hE hK hW hS hl => lv_if_gt hX.1.1 hX.1.2.1 hd ht (fun h => k1 (h) r μ' (by have hF := hF; rw [if_pos (h)] at hF; exact hF) p l e s m args below meth c H locs ls hX hE hK hW hS hl) (fun h => k2 (h) r μ' (by have hF := hF; rw [if_neg (h)] at hF; exact hF) p l e s m args below meth c H locs ls hX hE hK hW hS hl)
theorem z_if_le {x : Int32} {off : Int} {tgt : Nat} (hd : decode y.2.1 pc = .ok (.ifCond .le off, 3)) (ht : (pc : Int) + off = (tgt : Int)) (k1 : 0 < x → z_w E y em (pc + 3) L S μ A) (k2 : ¬ (0 < x) → z_w E y em tgt L S μ B) : z_w E y em pc L (.int x :: S) μ (if 0 < x then A else B) :=
  fun r μ' hF p l e s m args below meth c H locs ls hX hE hK hW hS hl => lv_if_le hX.1.1 hX.1.2.1 hd ht (fun h => k2 (Int32.not_lt.mpr h) r μ' (by have hF := hF; rw [if_neg (Int32.not_lt.mpr h)] at hF; exact hF) p l e s m args below meth c H locs ls hX hE hK hW hS hl) (fun h => k1 (Int32.not_le.mp h) r μ' (by have hF := hF; rw [if_pos (Int32.not_le.mp h)] at hF; exact hF) p l e s m args below meth c H locs ls hX hE hK hW hS hl)
theorem z_icmp_eq {x x2 : Int32} {off : Int} {tgt : Nat} (hd : decode y.2.1 pc = .ok (.if_icmp .eq off, 3)) (ht : (pc : Int) + off = (tgt : Int)) (k1 : x = x2 → z_w E y em tgt L S μ A) (k2 : ¬ (x = x2) → z_w E y em (pc + 3) L S μ B) : z_w E y em pc L (.int x2 :: .int x :: S) μ (if x = x2 then A else B) :=
  fun r μ' hF p l e s m args below meth c H locs ls hX hE hK hW hS hl => lv_icmp_eq hX.1.1 hX.1.2.1 hd ht (fun h => k1 (h) r μ' (by have hF := hF; rw [if_pos (h)] at hF; exact hF) p l e s m args below meth c H locs ls hX hE hK hW hS hl) (fun h => k2 (h) r μ' (by have hF := hF; rw [if_neg (h)] at hF; exact hF) p l e s m args below meth c H locs ls hX hE hK hW hS hl)
theorem z_icmp_ne {x x2 : Int32} {off : Int} {tgt : Nat} (hd : decode y.2.1 pc = .ok (.if_icmp .ne off, 3)) (ht : (pc : Int) + off = (tgt : Int)) (k1 : x = x2 → z_w E y em (pc + 3) L S μ A) (k2 : ¬ (x = x2) → z_w E y em tgt L S μ B) : z_w E y em pc L (.int x2 :: .int x :: S) μ (if x = x2 then A else B) :=
  fun r μ' hF p l e s m args below meth c H locs ls hX hE hK hW hS hl => lv_icmp_ne hX.1.1 hX.1.2.1 hd ht (fun h => k2 (h) r μ' (by have hF := hF; rw [if_neg (h)] at hF; exact hF) p l e s m args below meth c H locs ls hX hE hK hW hS hl) (fun h => k1 (h) r μ' (by have hF := hF; rw [if_pos (h)] at hF; exact hF) p l e s m args below meth c H locs ls hX hE hK hW hS hl)
theorem z_icmp_lt {x x2 : Int32} {off : Int} {tgt : Nat} (hd : decode y.2.1 pc = .ok (.if_icmp .lt off, 3)) (ht : (pc : Int) + off = (tgt : Int)) (k1 : x < x2 → z_w E y em tgt L S μ A) (k2 : ¬ (x < x2) → z_w E y em (pc + 3) L S μ B) : z_w E y em pc L (.int x2 :: .int x :: S) μ (if x < x2 then A else B) :=
  fun r μ' hF p l e s m args below meth c H locs ls hX hE hK hW hS hl => lv_icmp_lt hX.1.1 hX.1.2.1 hd ht (fun h => k1 (h) r μ' (by have hF := hF; rw [if_pos (h)] at hF; exact hF) p l e s m args below meth c H locs ls hX hE hK hW hS hl) (fun h => k2 (h) r μ' (by have hF := hF; rw [if_neg (h)] at hF; exact hF) p l e s m args below meth c H locs ls hX hE hK hW hS hl)
theorem z_icmp_ge {x x2 : Int32} {off : Int} {tgt : Nat} (hd : decode y.2.1 pc = .ok (.if_icmp .ge off, 3)) (ht : (pc : Int) + off = (tgt : Int)) (k1 : x < x2 → z_w E y em (pc + 3) L S μ A) (k2 : ¬ (x < x2) → z_w E y em tgt L S μ B) : z_w E y em pc L (.int x2 :: .int x :: S) μ (if x < x2 then A else B) :=
  fun r μ' hF p l e s m args below meth c H locs ls hX hE hK hW hS hl => lv_icmp_ge hX.1.1 hX.1.2.1 hd ht (fun h => k2 (Int32.not_lt.mpr h) r μ' (by have hF := hF; rw [if_neg (Int32.not_lt.mpr h)] at hF; exact hF) p l e s m args below meth c H locs ls hX hE hK hW hS hl) (fun h => k1 (Int32.not_le.mp h) r μ' (by have hF := hF; rw [if_pos (Int32.not_le.mp h)] at hF; exact hF) p l e s m args below meth c H locs ls hX hE hK hW hS hl)
theorem z_icmp_gt {x x2 : Int32} {off : Int} {tgt : Nat} (hd : decode y.2.1 pc = .ok (.if_icmp .gt off, 3)) (ht : (pc : Int) + off = (tgt : Int)) (k1 : x2 < x → z_w E y em tgt L S μ A) (k2 : ¬ (x2 < x) → z_w E y em (pc + 3) L S μ B) : z_w E y em pc L (.int x2 :: .int x :: S) μ (if x2 < x then A else B) :=
  fun r μ' hF p l e s m args below meth c H locs ls hX hE hK hW hS hl => lv_icmp_gt hX.1.1 hX.1.2.1 hd ht (fun h => k1 (h) r μ' (by have hF := hF; rw [if_pos (h)] at hF; exact hF) p l e s m args below meth c H locs ls hX hE hK hW hS hl) (fun h => k2 (h) r μ' (by have hF := hF; rw [if_neg (h)] at hF; exact hF) p l e s m args below meth c H locs ls hX hE hK hW hS hl)
theorem z_icmp_le {x x2 : Int32} {off : Int} {tgt : Nat} (hd : decode y.2.1 pc = .ok (.if_icmp .le off, 3)) (ht : (pc : Int) + off = (tgt : Int)) (k1 : x2 < x → z_w E y em (pc + 3) L S μ A) (k2 : ¬ (x2 < x) → z_w E y em tgt L S μ B) : z_w E y em pc L (.int x2 :: .int x :: S) μ (if x2 < x then A else B) :=
  fun r μ' hF p l e s m args below meth c H locs ls hX hE hK hW hS hl => lv_icmp_le hX.1.1 hX.1.2.1 hd ht (fun h => k2 (Int32.not_lt.mpr h) r μ' (by have hF := hF; rw [if_neg (Int32.not_lt.mpr h)] at hF; exact hF) p l e s m args below meth c H locs ls hX hE hK hW hS hl) (fun h => k1 (Int32.not_le.mp h) r μ' (by have hF := hF; rw [if_pos (Int32.not_le.mp h)] at hF; exact hF) p l e s m args below meth c H locs ls hX hE hK hW hS hl)
theorem z_split {C : Prop} {hC : Decidable C} (k1 : C → z_w E y em pc L S μ A) (k2 : ¬ C → z_w E y em pc L S μ B) : z_w E y em pc L S μ (@ite _ C hC A B) := by
  by_cases h : C
  · rw [if_pos h]; exact k1 h
  · rw [if_neg h]; exact k2 h
theorem z_lookup {x : Int32} {dflt : Int} {ps : Array (Int × Int)} {len : Nat} {off : Int} {tgt : Nat} (hd : decode y.2.1 pc = .ok (.lookupswitch dflt ps, len)) (hp : (ps.toList.zip (ps.toList.drop 1)).all (fun (a, next) => a.1 < next.1) = true) (ho : Op.lookupswitch.offset ps.toList dflt x.toInt = off) (ht : (pc : Int) + off = (tgt : Int)) (k : z_w E y em tgt L S μ F) : z_w E y em pc L (.int x :: S) μ F :=
  fun r μ' hF p l e s m args below meth c H locs ls hX hE hK hW hS hl => lv_lookup hX.1.1 hX.1.2.1 hd hp ho ht (k r μ' hF p l e s m args below meth c H locs ls hX hE hK hW hS hl)
theorem z_tableOut {x : Int32} {dflt lo hi : Int} {offs : Array Int} {len : Nat} {tgt : Nat} (hd : decode y.2.1 pc = .ok (.tableswitch dflt lo hi offs, len)) (h : x.toInt < lo ∨ hi < x.toInt) (ht : (pc : Int) + dflt = (tgt : Int)) (k : z_w E y em tgt L S μ F) : z_w E y em pc L (.int x :: S) μ F :=
  fun r μ' hF p l e s m args below meth c H locs ls hX hE hK hW hS hl => lv_tableOut hX.1.1 hX.1.2.1 hd h ht (k r μ' hF p l e s m args below meth c H locs ls hX hE hK hW hS hl)
theorem z_tableIn {x x0 : Int32} {dflt lo hi : Int} {offs : Array Int} {len : Nat} {off : Int} {tgt : Nat} (hd : decode y.2.1 pc = .ok (.tableswitch dflt lo hi offs, len)) (hx : x = x0) (h1 : ¬ x0.toInt < lo) (h2 : ¬ hi < x0.toInt) (ho : offs[(x0.toInt - lo).toNat]? = some off) (ht : (pc : Int) + off = (tgt : Int)) (k : z_w E y em tgt L S μ F) : z_w E y em pc L (.int x :: S) μ F :=
  fun r μ' hF p l e s m args below meth c H locs ls hX hE hK hW hS hl => lv_tableIn hX.1.1 hX.1.2.1 hd (by rw [hx]; exact h1) (by rw [hx]; exact h2) (by rw [hx]; exact ho) ht (k r μ' hF p l e s m args below meth c H locs ls hX hE hK hW hS hl)
theorem z_lcmp {x x2 : Int64} (hd : decode y.2.1 pc = .ok (.lcmp, 1)) (k : z_w E y em (pc + 1) L (.int (lg_cmp x x2) :: S) μ F) : z_w E y em pc L (.long x2 :: .long x :: S) μ F :=
  fun r μ' hF p l e s m args below meth c H locs ls hX hE hK hW hS hl => W.lcmp hX.1.1 hX.1.2.1 hd (k r μ' hF p l e s m args below meth c H locs ls hX hE hK hW hS hl)
def z_nz {β : Type} (y : Int32) (A : Option β) : Option β := if y = 0 then none else A
def z_nzl {β : Type} (y : Int64) (A : Option β) : Option β := if y = 0 then none else A
theorem z_nz_some {β : Type} {y : Int32} {A : Option β} {x : β} (h : z_nz y A = some x) : ¬ y = 0 ∧ A = some x := by
  unfold z_nz at h
  by_cases hc : y = 0
  · rw [if_pos hc] at h; cases h
  · rw [if_neg hc] at h; exact ⟨hc, h⟩
theorem z_nzl_some {β : Type} {y : Int64} {A : Option β} {x : β} (h : z_nzl y A = some x) : ¬ y = 0 ∧ A = some x := by
  unfold z_nzl at h
  by_cases hc : y = 0
  · rw [if_pos hc] at h; cases h
  · rw [if_neg hc] at h; exact ⟨hc, h⟩
def z_rem (x y : Int32) : Int32 := x - x / y * y
def z_bool {β : Type} (v : Int32) (A : Option β) : Option β := if v = 0 ∨ v = 1 then A else none
theorem z_bool_some {β : Type} {v : Int32} {A : Option β} {x : β} (h : z_bool v A = some x) : (v = 0 ∨ v = 1) ∧ A = some x := by
  unfold z_bool at h
  by_cases hc : v = 0 ∨ v = 1
  · rw [if_pos hc] at h; exact ⟨hc, h⟩
  · rw [if_neg hc] at h; cases h
theorem z_irem {x x2 : Int32} (hd : decode y.2.1 pc = .ok (.irem, 1)) (k : z_w E y em (pc + 1) L (.int (z_rem x x2) :: S) μ F) : z_w E y em pc L (.int x2 :: .int x :: S) μ (z_nz x2 F) :=
  fun r μ' hF p l e s m args below meth c H locs ls hX hE hK hW hS hl => by
  have h2 := z_nz_some hF
  exact lv_irem hX.1.1 hX.1.2.1 hd h2.1 (k r μ' h2.2 p l e s m args below meth c H locs ls hX hE hK hW hS hl)
theorem z_iremK {x x2 : Int32} (hd : decode y.2.1 pc = .ok (.irem, 1)) (hne : ¬ x2 = 0) (k : z_w E y em (pc + 1) L (.int (z_rem x x2) :: S) μ F) : z_w E y em pc L (.int x2 :: .int x :: S) μ F :=
  fun r μ' hF p l e s m args below meth c H locs ls hX hE hK hW hS hl => lv_irem hX.1.1 hX.1.2.1 hd hne (k r μ' hF p l e s m args below meth c H locs ls hX hE hK hW hS hl)
theorem z_ldiv {x x2 : Int64} (hd : decode y.2.1 pc = .ok (.ldiv, 1)) (k : z_w E y em (pc + 1) L (.long (x / x2) :: S) μ F) : z_w E y em pc L (.long x2 :: .long x :: S) μ (z_nzl x2 F) :=
  fun r μ' hF p l e s m args below meth c H locs ls hX hE hK hW hS hl => by
  have h2 := z_nzl_some hF
  exact lv_ldiv hX.1.1 hX.1.2.1 hd h2.1 (k r μ' h2.2 p l e s m args below meth c H locs ls hX hE hK hW hS hl)
end ZR
abbrev z_ei : Int32 → Option Value := fun r => some (.int r)
abbrev z_el : Int64 → Option Value := fun r => some (.long r)
abbrev z_ev : Unit → Option Value := fun _ => none
abbrev z_er : Nat → Option Value := fun a => some (.ref a)
section ZRet
variable {M : Type} {E : z_E M} {y : z_Y} {pc : Nat} {L : List (Nat × Value)} {μ : M}
theorem z_iret {v : Int32} (hr : y.2.2.2.1 = some .int) (hd : decode y.2.1 pc = .ok (.ireturn, 1)) : z_w E y z_ei pc L [.int v] μ (some (v, μ)) :=
  fun r μ' hF p l e s m args below meth c H locs ls hX hE hK hW hS hl => by
  cases hF
  exact W.iret hX.1.1 hX.1.2.1 (hX.2.1.trans hr) (fun t ht hWm => ⟨rfl, by rw [ht]; exact hW, hS.F ht⟩) hS.2.2 hd hX.2.2
theorem z_zret {v : Int32} (hr : y.2.2.2.1 = some .boolean) (hd : decode y.2.1 pc = .ok (.ireturn, 1)) (hv : v = 0 ∨ v = 1) : z_w E y z_ei pc L [.int v] μ (some (v, μ)) :=
  fun r μ' hF p l e s m args below meth c H locs ls hX hE hK hW hS hl => by
  cases hF
  exact z_nret hX.1.1 hX.1.2.1 (hX.2.1.trans hr) (by rcases hv with rfl | rfl <;> rfl) (fun t ht hWm => ⟨rfl, by rw [ht]; exact hW, hS.F ht⟩) hS.2.2 hd hX.2.2
theorem z_zretG {v : Int32} (hr : y.2.2.2.1 = some .boolean) (hd : decode y.2.1 pc = .ok (.ireturn, 1)) : z_w E y z_ei pc L [.int v] μ (z_bool v (some (v, μ))) :=
  fun r μ' hF p l e s m args below meth c H locs ls hX hE hK hW hS hl => by
  have h2 := z_bool_some hF
  exact z_zret hr hd h2.1 r μ' h2.2 p l e s m args below meth c H locs ls hX hE hK hW hS hl
theorem z_lret {v : Int64} (hr : y.2.2.2.1 = some .long) (hd : decode y.2.1 pc = .ok (.lreturn, 1)) : z_w E y z_el pc L [.long v] μ (some (v, μ)) :=
  fun r μ' hF p l e s m args below meth c H locs ls hX hE hK hW hS hl => by
  cases hF
  exact W.lret hX.1.1 hX.1.2.1 (hX.2.1.trans hr) (fun t ht hWm => ⟨rfl, by rw [ht]; exact hW, hS.F ht⟩) hS.2.2 hd hX.2.2
theorem z_vret (hr : y.2.2.2.1 = none) (hd : decode y.2.1 pc = .ok (.return_, 1)) : z_w E y z_ev pc L [] μ (some ((), μ)) :=
  fun r μ' hF p l e s m args below meth c H locs ls hX hE hK hW hS hl => by
  cases hF
  exact W.vret hX.1.1 hX.1.2.1 (hX.2.1.trans hr) (fun t ht hWm => ⟨rfl, by rw [ht]; exact hW, hS.F ht⟩) hS.2.2 hd hX.2.2
theorem z_aret {a : Nat} {C : String} (hr : y.2.2.2.1 = some (.object C)) (hd : decode y.2.1 pc = .ok (.areturn, 1)) : z_w E y z_er pc L [.ref a] μ (some (a, μ)) :=
  fun r μ' hF p l e s m args below meth c H locs ls hX hE hK hW hS hl => by
  cases hF
  exact W.aret hX.1.1 hX.1.2.1 (hX.2.1.trans hr) (Or.inl ⟨C, rfl⟩) (Or.inr ⟨a, rfl⟩) (fun t ht hWm => ⟨rfl, by rw [ht]; exact hW, hS.F ht⟩) hS.2.2 hd hX.2.2
end ZRet
/-! the system over a graph -/
def z_sys (cl : List vw_C) (D : va_G) (cI cL : ClassId) (G : List z_C) (b : Nat) (Z : State → Heap → Prop) : z_E z_M :=
  (fun μ H => va_P D cl (z_wf cI cL b μ 0 G) H, fun s H => va_K D cl [(cI, .int), (cL, .long)] s ∧ Z s H, fun q => b ≤ q ∧ q < b + G.length)
theorem z_sysD (D : va_G) (cl : List vw_C) (cI cL : ClassId) (G : List z_C) (b : Nat) (μ : z_M) (Z : State → Heap → Prop) : va_D (z_sys cl D cI cL G b Z).2.2 (z_wf cI cL b μ 0 G) := by
  refine ⟨fun i j p q hi hj hpq => ?_, fun k q hk => ?_⟩
  · rw [z_wf_get] at hi hj
    cases gi : G[i]? with
    | none => rw [gi] at hi; cases hi
    | some ci =>
      cases gj : G[j]? with
      | none => rw [gj] at hj; cases hj
      | some cj =>
        rw [gi] at hi; rw [gj] at hj
        cases hi; cases hj
        simp only at hpq
        omega
  · rw [z_wf_get] at hk
    cases gk : G[k]? with
    | none => rw [gk] at hk; cases hk
    | some ck =>
      rw [gk] at hk
      cases hk
      have := (List.getElem?_eq_some_iff.mp gk).1
      show b ≤ b + (0 + k) ∧ b + (0 + k) < b + G.length
      omega
def z_ZOK (Z : State → Heap → Prop) (A : Nat → Prop) : Prop := (∀ s U H, s.WarmedH U.vm → Z s H → Z U H) ∧ (∀ u U H, U.vm = u.vm → Z u H → Z U H) ∧ ∀ U H H1, H.size ≤ H1.size → (∀ q : Nat, q < H.size → ¬ A q → H1[q]? = H[q]?) → Z U H → Z U H1
theorem z_sysOK {cl : List vw_C} {D : va_G} {cI cL : ClassId} {G : List z_C} {b : Nat} {Z : State → Heap → Prop} (h : z_ZOK Z (fun q => b ≤ q ∧ q < b + G.length)) : z_EOK (z_sys cl D cI cL G b Z) :=
  ⟨fun s U H hW hK => ⟨va_K.moved hW.alike hK.1, h.1 s U H hW hK.2⟩, fun u U H hv hK => ⟨va_K.moved (u := u) (U := U) (by rw [hv]; exact Vm.Alike.refl _) hK.1, h.2.1 u U H hv hK.2⟩, fun U H H1 hz hq hK => ⟨hK.1, h.2.2 U H H1 hz hq hK.2⟩⟩
section ZG
variable {α : Type} {cl : List vw_C} {D : va_G} {cI cL : ClassId} {G : List z_C} {b : Nat} {Z : State → Heap → Prop} {y : z_Y} {em : α → Option Value} {pc : Nat} {L : List (Nat × Value)} {S : List Value} {μ : z_M} {F : Option (α × z_M)}
theorem z_getI {C ref : String} {T : u_T} {N ci index k j : Nat} {fs : List z_F} (hin : ∀ w ∈ u_ws C T N, w ∈ z_tbl) (hc : cl[ci]? = some (C, T, N)) (hj : j < N) (hlink : Cond.fieldLink y.1 index ref (T j).2.1 (T j).2.2.1 ∈ z_tbl) (href : (T j).1 = ref) (hk : G[k]? = some (.inl (ci, fs))) (hf : fs[j]? = some none) (hd : decode y.2.1 pc = .ok (.getfield index, 3)) (kk : z_w (z_sys cl D cI cL G b Z) y em (pc + 3) L (.int (μ.1 k j) :: S) μ F) : z_w (z_sys cl D cI cL G b Z) y em pc L (.ref (b + k) :: S) μ F :=
  fun r μ' hF p l e s m args below meth c H locs ls hX hE hK hW hS hl => va_get hX.1.1 hX.1.2.1 hX.1.2.2.2.2 hin hX.1.2.2.2.1 hK.1 hW k (z_wf_at hk) hc j hj (hX.1.2.2.2.2 _ hlink) (fun x hx => by rw [← href]; exact hx) (z_fs_int hf) hd (kk r μ' hF p l e s m args below meth c H locs ls hX hE hK hW hS hl )
theorem z_getR {t : Nat} {C ref : String} {T : u_T} {N ci index k j : Nat} {fs : List z_F} (hin : ∀ w ∈ u_ws C T N, w ∈ z_tbl) (hc : cl[ci]? = some (C, T, N)) (hj : j < N) (hlink : Cond.fieldLink y.1 index ref (T j).2.1 (T j).2.2.1 ∈ z_tbl) (href : (T j).1 = ref) (hk : G[k]? = some (.inl (ci, fs))) (hf : fs[j]? = some (some t)) (hd : decode y.2.1 pc = .ok (.getfield index, 3)) (kk : z_w (z_sys cl D cI cL G b Z) y em (pc + 3) L (.ref (b + t) :: S) μ F) : z_w (z_sys cl D cI cL G b Z) y em pc L (.ref (b + k) :: S) μ F :=
  fun r μ' hF p l e s m args below meth c H locs ls hX hE hK hW hS hl => va_get hX.1.1 hX.1.2.1 hX.1.2.2.2.2 hin hX.1.2.2.2.1 hK.1 hW k (z_wf_at hk) hc j hj (hX.1.2.2.2.2 _ hlink) (fun x hx => by rw [← href]; exact hx) (z_fs_ref hf) hd (kk r μ' hF p l e s m args below meth c H locs ls hX hE hK hW hS hl )
theorem z_putI {C ref : String} {T : u_T} {N ci index k j : Nat} {fs : List z_F} (hin : ∀ w ∈ u_ws C T N, w ∈ z_tbl) (hc : cl[ci]? = some (C, T, N)) (hj : j < N) (hlink : Cond.fieldLink y.1 index ref (T j).2.1 (T j).2.2.1 ∈ z_tbl) (href : (T j).1 = ref) (hk : G[k]? = some (.inl (ci, fs))) (ty0 : Nat → FieldType) (hty : ∀ k, k < N → parseFieldDescriptor (T k).2.2.1 = some (ty0 k)) (hnm : ∀ a, a < N → ∀ b, b < N → a ≠ b → (T a).2.1 ≠ (T b).2.1) (hfin : (T j).2.2.2 = false) (hp : parseFieldDescriptor (T j).2.2.1 = some .int) (hf : fs[j]? = some none) {v : Int32}  (hd : decode y.2.1 pc = .ok (.putfield index, 3)) (kk : z_w (z_sys cl D cI cL G b Z) y em (pc + 3) L S (z_sI μ k j v) F) : z_w (z_sys cl D cI cL G b Z) y em pc L (.int v :: .ref (b + k) :: S) μ F :=
  fun r μ' hF p l e s m args below meth c H locs ls hX hE hK hW hS hl => va_put (v := .int v) hX.1.1 hX.1.2.1 hX.1.2.2.2.2 hin ty0 hty hnm hX.1.2.2.2.1 hK.1 hW (z_sysD D cl cI cL G b μ Z) hS k (z_wf_at hk) hc j hj (hX.1.2.2.2.2 _ hlink) (fun x hx => by rw [← href]; exact hx) hfin hp rfl rfl (by rw [z_fs_len]; exact (List.getElem?_eq_some_iff.mp hf).1) hd
    (fun H1 locs1 hW1 _ hS1 => kk r μ' hF p l e s m args below meth c H1 locs1 ls hX hE hK (by have hW2 := hW1; rw [z_wf_sI hk hf] at hW2; exact hW2) hS1 hl)
theorem z_putZ {C ref : String} {T : u_T} {N ci index k j : Nat} {fs : List z_F} (hin : ∀ w ∈ u_ws C T N, w ∈ z_tbl) (hc : cl[ci]? = some (C, T, N)) (hj : j < N) (hlink : Cond.fieldLink y.1 index ref (T j).2.1 (T j).2.2.1 ∈ z_tbl) (href : (T j).1 = ref) (hk : G[k]? = some (.inl (ci, fs))) (ty0 : Nat → FieldType) (hty : ∀ k, k < N → parseFieldDescriptor (T k).2.2.1 = some (ty0 k)) (hnm : ∀ a, a < N → ∀ b, b < N → a ≠ b → (T a).2.1 ≠ (T b).2.1) (hfin : (T j).2.2.2 = false) (hp : parseFieldDescriptor (T j).2.2.1 = some .boolean) (hf : fs[j]? = some none) {v : Int32} (hv : v = 0 ∨ v = 1) (hd : decode y.2.1 pc = .ok (.putfield index, 3)) (kk : z_w (z_sys cl D cI cL G b Z) y em (pc + 3) L S (z_sI μ k j v) F) : z_w (z_sys cl D cI cL G b Z) y em pc L (.int v :: .ref (b + k) :: S) μ F :=
  fun r μ' hF p l e s m args below meth c H locs ls hX hE hK hW hS hl => va_put (v := .int v) hX.1.1 hX.1.2.1 hX.1.2.2.2.2 hin ty0 hty hnm hX.1.2.2.2.1 hK.1 hW (z_sysD D cl cI cL G b μ Z) hS k (z_wf_at hk) hc j hj (hX.1.2.2.2.2 _ hlink) (fun x hx => by rw [← href]; exact hx) hfin hp (by rcases hv with rfl | rfl <;> rfl) (by rcases hv with rfl | rfl <;> rfl) (by rw [z_fs_len]; exact (List.getElem?_eq_some_iff.mp hf).1) hd
    (fun H1 locs1 hW1 _ hS1 => kk r μ' hF p l e s m args below meth c H1 locs1 ls hX hE hK (by have hW2 := hW1; rw [z_wf_sI hk hf] at hW2; exact hW2) hS1 hl)
theorem z_iald {k n : Nat} {i : Int32} (hk : G[k]? = some (.inr (false, n))) (hd : decode y.2.1 pc = .ok (.iaload, 1)) (kk : z_w (z_sys cl D cI cL G b Z) y em (pc + 1) L (.int (μ.1 k (z_ix i)) :: S) μ F) : z_w (z_sys cl D cI cL G b Z) y em pc L (.int i :: .ref (b + k) :: S) μ (z_chk i n F) :=
  fun r μ' hF p l e s m args below meth c H locs ls hX hE hK hW hS hl => by
  have h2 := z_chk_some hF
  exact va_iald hX.1.1 hX.1.2.1 hK.1 hW k 0 (z_wf_at hk) rfl h2.1 hd (kk r μ' h2.2 p l e s m args below meth c H locs ls hX hE hK hW hS hl)
theorem z_ialdK {k n : Nat} {i : Int32} (hk : G[k]? = some (.inr (false, n))) (hb : 0 ≤ i.toInt ∧ i.toInt < n) (hd : decode y.2.1 pc = .ok (.iaload, 1)) (kk : z_w (z_sys cl D cI cL G b Z) y em (pc + 1) L (.int (μ.1 k (z_ix i)) :: S) μ F) : z_w (z_sys cl D cI cL G b Z) y em pc L (.int i :: .ref (b + k) :: S) μ F := by
  have h := z_iald (i := i) hk hd kk
  rwa [z_chk_in hb] at h
theorem z_lald {k n : Nat} {i : Int32} (hk : G[k]? = some (.inr (true, n))) (hd : decode y.2.1 pc = .ok (.laload, 1)) (kk : z_w (z_sys cl D cI cL G b Z) y em (pc + 1) L (.long (μ.2 k (z_ix i)) :: S) μ F) : z_w (z_sys cl D cI cL G b Z) y em pc L (.int i :: .ref (b + k) :: S) μ (z_chk i n F) :=
  fun r μ' hF p l e s m args below meth c H locs ls hX hE hK hW hS hl => by
  have h2 := z_chk_some hF
  exact va_lald hX.1.1 hX.1.2.1 hK.1 hW k 1 (z_wf_at hk) rfl h2.1 hd (kk r μ' h2.2 p l e s m args below meth c H locs ls hX hE hK hW hS hl)
theorem z_laldK {k n : Nat} {i : Int32} (hk : G[k]? = some (.inr (true, n))) (hb : 0 ≤ i.toInt ∧ i.toInt < n) (hd : decode y.2.1 pc = .ok (.laload, 1)) (kk : z_w (z_sys cl D cI cL G b Z) y em (pc + 1) L (.long (μ.2 k (z_ix i)) :: S) μ F) : z_w (z_sys cl D cI cL G b Z) y em pc L (.int i :: .ref (b + k) :: S) μ F := by
  have h := z_lald (i := i) hk hd kk
  rwa [z_chk_in hb] at h
theorem z_iast {k n : Nat} {i : Int32} {v : Int32} (hk : G[k]? = some (.inr (false, n))) (hd : decode y.2.1 pc = .ok (.iastore, 1)) (kk : z_w (z_sys cl D cI cL G b Z) y em (pc + 1) L S (z_sI μ k (z_ix i) v) F) : z_w (z_sys cl D cI cL G b Z) y em pc L (.int v :: .int i :: .ref (b + k) :: S) μ (z_chk i n F) :=
  fun r μ' hF p l e s m args below meth c H locs ls hX hE hK hW hS hl => by
  have h2 := z_chk_some hF
  refine va_iast hX.1.1 hX.1.2.1 hK.1 hW (z_sysD D cl cI cL G b μ Z) hS k 0 (z_wf_at hk) rfl h2.1 hd (fun H1 locs1 hW1 _ hS1 => ?_)
  exact kk r μ' h2.2 p l e s m args below meth c H1 locs1 ls hX hE hK (by have hW2 := hW1; rw [z_wf_aI hk] at hW2; exact hW2) hS1 hl
theorem z_last {k n : Nat} {i : Int32} {v : Int64} (hk : G[k]? = some (.inr (true, n))) (hd : decode y.2.1 pc = .ok (.lastore, 1)) (kk : z_w (z_sys cl D cI cL G b Z) y em (pc + 1) L S (z_sL μ k (z_ix i) v) F) : z_w (z_sys cl D cI cL G b Z) y em pc L (.long v :: .int i :: .ref (b + k) :: S) μ (z_chk i n F) :=
  fun r μ' hF p l e s m args below meth c H locs ls hX hE hK hW hS hl => by
  have h2 := z_chk_some hF
  refine va_last hX.1.1 hX.1.2.1 hK.1 hW (z_sysD D cl cI cL G b μ Z) hS k 1 (z_wf_at hk) rfl h2.1 hd (fun H1 locs1 hW1 _ hS1 => ?_)
  exact kk r μ' h2.2 p l e s m args below meth c H1 locs1 ls hX hE hK (by have hW2 := hW1; rw [z_wf_aL hk] at hW2; exact hW2) hS1 hl
theorem z_alen {k n : Nat} {B : Bool} (hk : G[k]? = some (.inr (B, n))) {v : Int32} (hv : Int32.ofNat n = v) (hd : decode y.2.1 pc = .ok (.arraylength, 1)) (kk : z_w (z_sys cl D cI cL G b Z) y em (pc + 1) L (.int v :: S) μ F) : z_w (z_sys cl D cI cL G b Z) y em pc L (.ref (b + k) :: S) μ F :=
  fun r μ' hF p l e s m args below meth c H locs ls hX hE hK hW hS hl => by
  cases B with
  | false => exact va_alen hX.1.1 hX.1.2.1 hK.1 hW k 0 (z_wf_at hk) (ty := .int) rfl hv hd (kk r μ' hF p l e s m args below meth c H locs ls hX hE hK hW hS hl)
  | true => exact va_alen hX.1.1 hX.1.2.1 hK.1 hW k 1 (z_wf_at hk) (ty := .long) rfl hv hd (kk r μ' hF p l e s m args below meth c H locs ls hX hE hK hW hS hl)
end ZG
/-! calls -/
theorem z_Pc_blind {M : Type} {E : z_E M} {As : List Value} {μ : M} (hE : z_EOK E) : FrameBlind (z_Pc E As μ) := fun a U g mk q => ⟨q.1, q.2.1, hE.2.1 U (U.calling g mk a) _ rfl q.2.2⟩
/-- what a call needs of the tables: the method's own words -/
def z_MW (yn : MethodName) (cc : ByteArray) (nL : Nat) (ret : Option FieldType) : Prop := Cond.initialized yn.cls ∈ z_tbl ∧ Cond.code yn cc nL ret ∈ z_tbl ∧ yn.cls ≠ "java/lang/invoke/MethodHandle" ∧ yn.cls ≠ "java/lang/invoke/VarHandle"
def z_MV (yn : MethodName) : Prop := Cond.instanceMethod yn ∈ z_tbl ∧ Cond.selects yn.cls yn yn ∈ z_tbl
def z_Recv {M : Type} (E : z_E M) (C : String) (o : Nat) (μ : M) : Prop := ∀ s H, E.2.1 s H → E.1 μ H → ∃ cellB : Cell, H[o]? = some cellB ∧ cellB.vm.isStatics = false ∧ s.vm.findClass C = some cellB.cls
theorem z_recv {cl : List vw_C} {D : va_G} {cI cL : ClassId} {G : List z_C} {b : Nat} {Z : State → Heap → Prop} {μ : z_M} {k ci N : Nat} {fs : List z_F} {C : String} {T : u_T} (hk : G[k]? = some (.inl (ci, fs))) (hc : cl[ci]? = some (C, T, N)) : z_Recv (z_sys cl D cI cL G b Z) C (b + k) μ := by
  intro s H hK hW
  obtain ⟨r, h1, cell, q1, q2, q3, -⟩ := hW k _ (z_wf_at hk)
  have hr : r = (C, T, N) := Option.some.inj (h1.symm.trans hc)
  subst hr
  obtain ⟨-, hfc, -⟩ := hK.1.1 ci _ hc
  exact ⟨cell, q1, by rw [q3]; rfl, by rw [q2]; exact hfc⟩
theorem z_code_good (yn : MethodName) (cc : ByteArray) (nL : Nat) (ret : Option FieldType) (h : Cond.code yn cc nL ret ∈ z_tbl) : GoodIn z_tbl (.code yn cc nL ret :: z_tbl) := z_goodIn _ (fun w hw => by
  rcases List.mem_cons.mp hw with rfl | h1
  · exact h
  · exact h1)
section ZCall
variable {M α β : Type} {E : z_E M} {y : z_Y} {em : α → Option Value} {pc : Nat} {L : List (Nat × Value)} {S st : List Value} {μ : M} {F : Option (α × M)} {em' : β → Option Value} {yn : MethodName} {cc : ByteArray} {nL d n index o : Nat} {ret : Option FieldType} {As : List Value} {Gf : Option (β × M)}
set_option maxHeartbeats 1000000 in
theorem z_callV {r1 : β} {μ1 : M} (hSp : z_S E d yn cc nL ret em' (.ref o :: As) μ Gf) (hG : Gf = some (r1, μ1)) (hM : z_MW yn cc nL ret) (hV : z_MV yn) (hlink : Cond.methodLink y.1 index yn ∈ z_tbl) (hn : (parseMethodDescriptor yn.desc).map (fun d => d.parameters.length) = some n) (hnA : As.length = n) (hrc : z_Recv E yn.cls o μ) (hst : st = As.reverse ++ .ref o :: S) (hcat : (S.map fun v => v.category).sum ≤ 8) (hd' : d + 1 ≤ y.2.2.2.2) (hnL : nL ≤ 40)
    (hd : decode y.2.1 pc = .ok (.invokevirtual index, 3)) (k : z_w E y em (pc + 3) L ((em' r1).toList ++ S) μ1 F) : z_w E y em pc L st μ F :=
  fun r μ' hF p l e s m args below meth c H locs ls hX hE hK hW hS hl => by
  have hts := hX.1.2.2.2.2
  have hcw : CallW (z_rm y.2.2.2.2) s args y.1 yn.cls index yn cc nL ret (.code yn cc nL ret :: z_tbl) (z_rm d) 0 0 n :=
    ⟨callB_of n hts (z_code_good yn cc nL ret hM.2.1) rfl rfl rfl (hts _ hM.1) (hts _ hlink) ⟨hM.2.2.1, hM.2.2.2, hn⟩ ⟨hd', by simp only [z_rm]; omega⟩, hts _ hV.1, hts _ hV.2⟩
  have hKH : E.2.1 s H := hE.2.2 s s.heap H hS.1 hS.2.1 hK
  have hrun := va_runV (mc := 0) (ms := 0) (locs := locs) (cells := 0) (slots := 0) (below := below) (meth := meth) (e := e) (b := o) (As := As) (rest := S) (H := H) (g := F0 m pc ls st) hX.1 (hSp r1 μ1 hG hE l) hcw ⟨z_Pc_blind hE, hrc s H hKH hW, fun U hU hWm => ⟨rfl, by rw [hU]; exact hW, by rw [hU]; exact hE.1 s U H hWm hKH⟩⟩ rfl hnA hl.1 hst (by rw [show (F0 m pc ls st).monitorRoom = 0 from rfl]; omega) hd ⟨Nat.le_refl _, Nat.le_refl _⟩
  intro T hT Xs
  obtain ⟨v, st₀, t, T', L2, h0, X', hL2, e1, e2, ⟨hv, hw2, hF2⟩, stp⟩ := hrun T hT Xs
  have hv' : v = em' r1 := by injection hv
  subst hv'
  have hz : H.size ≤ T'.heap.size := by rw [← h0, e1]; exact hF2.1
  have hq : ∀ q : Nat, q < H.size → ¬ E.2.2 q → T'.heap[q]? = H[q]? := fun q h1 h2 => by rw [← h0, e1]; exact hF2.2 q (by rw [h0]; exact h1) h2
  have hS1 : va_S E.2.2 s.heap T'.heap (locs ++ L2) := ⟨Nat.le_trans hS.1 hz, fun q h1 h2 => by rw [hq q (Nat.lt_of_lt_of_le h1 hS.1) h2]; exact hS.2.1 q h1 h2, fun q hq2 => by
      rcases List.mem_append.mp hq2 with h | h
      · exact hS.2.2 q h
      · exact hL2 q h⟩
  obtain ⟨t2, a1, b1⟩ := k r μ' hF p l e s m args below meth c T'.heap (locs ++ L2) ls hX hE hK (by rw [e1]; exact hw2) hS1 hl T' rfl X'
  exact ⟨t2, stp t2 a1, b1⟩
set_option maxHeartbeats 1000000 in
theorem z_callS {r1 : β} {μ1 : M} (hSp : z_S E d yn cc nL ret em' As μ Gf) (hG : Gf = some (r1, μ1)) (hM : z_MW yn cc nL ret) (hV : Cond.static yn ∈ z_tbl) (hlink : Cond.methodLink y.1 index yn ∈ z_tbl) (hn : (parseMethodDescriptor yn.desc).map (fun d => d.parameters.length) = some n) (hnA : As.length = n) (hst : st = As.reverse ++ S) (hcat : (S.map fun v => v.category).sum ≤ 8) (hd' : d + 1 ≤ y.2.2.2.2) (hnL : nL ≤ 40)
    (hd : decode y.2.1 pc = .ok (.invokestatic index, 3)) (k : z_w E y em (pc + 3) L ((em' r1).toList ++ S) μ1 F) : z_w E y em pc L st μ F :=
  fun r μ' hF p l e s m args below meth c H locs ls hX hE hK hW hS hl => by
  have hts := hX.1.2.2.2.2
  have hcb : CallB (z_rm y.2.2.2.2) s args y.1 index yn cc nL ret (.code yn cc nL ret :: z_tbl) (z_rm d) 0 0 n :=
    callB_of n hts (z_code_good yn cc nL ret hM.2.1) rfl rfl rfl (hts _ hM.1) (hts _ hlink) ⟨hM.2.2.1, hM.2.2.2, hn⟩ ⟨hd', by simp only [z_rm]; omega⟩
  have hKH : E.2.1 s H := hE.2.2 s s.heap H hS.1 hS.2.1 hK
  have hrun := va_runS (mc := 0) (ms := 0) (locs := locs) (cells := 0) (slots := 0) (below := below) (meth := meth) (e := e) (As := As) (rest := S) (H := H) (g := F0 m pc ls st) hX.1 (hSp r1 μ1 hG hE l) ⟨hcb, hts _ hV⟩ ⟨z_Pc_blind hE, fun U hU hWm => ⟨rfl, by rw [hU]; exact hW, by rw [hU]; exact hE.1 s U H hWm hKH⟩⟩ rfl hnA hl.1 hst (by rw [show (F0 m pc ls st).monitorRoom = 0 from rfl]; omega) hd ⟨Nat.le_refl _, Nat.le_refl _⟩
  intro T hT Xs
  obtain ⟨v, st₀, t, T', L2, h0, X', hL2, e1, e2, ⟨hv, hw2, hF2⟩, stp⟩ := hrun T hT Xs
  have hv' : v = em' r1 := by injection hv
  subst hv'
  have hz : H.size ≤ T'.heap.size := by rw [← h0, e1]; exact hF2.1
  have hq : ∀ q : Nat, q < H.size → ¬ E.2.2 q → T'.heap[q]? = H[q]? := fun q h1 h2 => by rw [← h0, e1]; exact hF2.2 q (by rw [h0]; exact h1) h2
  have hS1 : va_S E.2.2 s.heap T'.heap (locs ++ L2) := ⟨Nat.le_trans hS.1 hz, fun q h1 h2 => by rw [hq q (Nat.lt_of_lt_of_le h1 hS.1) h2]; exact hS.2.1 q h1 h2, fun q hq2 => by
      rcases List.mem_append.mp hq2 with h | h
      · exact hS.2.2 q h
      · exact hL2 q h⟩
  obtain ⟨t2, a1, b1⟩ := k r μ' hF p l e s m args below meth c T'.heap (locs ++ L2) ls hX hE hK (by rw [e1]; exact hw2) hS1 hl T' rfl X'
  exact ⟨t2, stp t2 a1, b1⟩
end ZCall
/-- calls of what may fail -/
def z_bind {β γ : Type} (x : Option β) (f : β → Option γ) : Option γ := match x with
  | none => none
  | some v => f v
theorem z_bind_some {β γ : Type} {x : Option β} {f : β → Option γ} {w : γ} (h : z_bind x f = some w) : ∃ v, x = some v ∧ f v = some w := by
  cases x with
  | none => cases h
  | some v => exact ⟨v, rfl, h⟩
theorem z_bindW {M α β : Type} {E : z_E M} {y : z_Y} {em : α → Option Value} {pc : Nat} {L : List (Nat × Value)} {st : List Value} {μ : M} {Gf : Option (β × M)} {Kf : β × M → Option (α × M)} (k : ∀ (r1 : β) (μ1 : M), Gf = some (r1, μ1) → z_w E y em pc L st μ (Kf (r1, μ1))) : z_w E y em pc L st μ (z_bind Gf Kf) :=
  fun r μ' hF p l e s m args below meth c H locs ls hX hE hK hW hS hl => by
  obtain ⟨⟨r1, μ1⟩, h1, h2⟩ := z_bind_some hF
  exact k r1 μ1 h1 r μ' h2 p l e s m args below meth c H locs ls hX hE hK hW hS hl
theorem z_guardW {M α : Type} {E : z_E M} {y : z_Y} {em : α → Option Value} {pc : Nat} {L : List (Nat × Value)} {st : List Value} {μ : M} {F F' : Option (α × M)} {P : Prop} (hg : ∀ x, F' = some x → P ∧ F = some x) (k : P → z_w E y em pc L st μ F) : z_w E y em pc L st μ F' :=
  fun r μ' hF p l e s m args below meth c H locs ls hX hE hK hW hS hl => by
  have h2 := hg _ hF
  exact k h2.1 r μ' h2.2 p l e s m args below meth c H locs ls hX hE hK hW hS hl
/-- a method from its body -/
theorem z_entry {M α : Type} {E : z_E M} {yn : MethodName} {cc : ByteArray} {nL d : Nat} {ret : Option FieldType} {em : α → Option Value} {As : List Value} {μ : M} {F : Option (α × M)} (hp : plainName yn.cls = true) (hlen : (lg_sl As).length ≤ nL) {L : List (Nat × Value)} (hL : lv_args 0 As = L) (k : z_w E (yn.cls, cc, nL, ret, d) em 0 L [] μ F) : z_S E d yn cc nL ret em As μ F := by
  subst hL
  intro r μ' hF hE l
  refine Met.ofW (cc := cc) (maxL := nL) (ret := ret) hp rfl ?_
  intro p e s m args below meth c s₁ B hml hv
  obtain ⟨rfl, hw, hk⟩ := hv
  have hl := lv_entry As (n := nL) hlen
  rw [lg_entry_eq]
  generalize (lg_sl As ++ List.replicate (nL - (lg_sl As).length) Slot.unset).toArray = ls at hl ⊢
  have hts : ∀ w ∈ z_tbl, w.before As.toArray s = true := fun w hw => atoms_spec (ws := .code yn cc nL ret :: z_tbl) B.pre w (List.mem_cons_of_mem _ hw)
  exact k r μ' hF p l e s m As.toArray below meth c s.heap [] ls ⟨⟨B.exec, B.bytes, hml, findClass_of_methodNamed B.named, hts⟩, B.returns, B.notSynchronized⟩ hE hk hw va_S.rf hl
/-- less depth is enough -/
theorem z_S_eq {M α : Type} {E : z_E M} {d : Nat} {yn : MethodName} {cc : ByteArray} {nL : Nat} {ret : Option FieldType} {em : α → Option Value} {As : List Value} {μ : M} {F F' : Option (α × M)} (h : z_S E d yn cc nL ret em As μ F) (he : ∀ x, F' = some x → F = some x) : z_S E d yn cc nL ret em As μ F' := fun r μ' hF hE l => h r μ' (he _ hF) hE l
end
section
/-! words of the tables, by their places -/
theorem zinX0 : ∀ w ∈ wsX00, w ∈ z_tbl := by decide +kernel
theorem zinX1 : ∀ w ∈ wsX10, w ∈ z_tbl := by decide +kernel
theorem zinX3 : ∀ w ∈ wsX30, w ∈ z_tbl := by decide +kernel
theorem zinX4 : ∀ w ∈ wsX40, w ∈ z_tbl := by decide +kernel
theorem zinX5 : ∀ w ∈ wsX50, w ∈ z_tbl := by decide +kernel
theorem zinX6 : ∀ w ∈ wsX60, w ∈ z_tbl := by decide +kernel
theorem zinX7 : ∀ w ∈ wsX70, w ∈ z_tbl := by decide +kernel
theorem zinX8 : ∀ w ∈ wsX80, w ∈ z_tbl := by decide +kernel
theorem zinX9 : ∀ w ∈ wsX90, w ∈ z_tbl := by decide +kernel
theorem zm_L_9 : Cond.methodLink RL 9 yX8_init ∈ z_tbl := z_tat 109 (by decide +kernel) rfl
theorem zm_X8_9 : Cond.methodLink RX8 9 yX6_init ∈ z_tbl := z_tat 117 (by decide +kernel) rfl
theorem zm_X6_13 : Cond.methodLink RX6 13 yX1_init ∈ z_tbl := z_tat 123 (by decide +kernel) rfl
theorem zf_X1_7 : Cond.fieldLink RX1 7 "TwoHousesBehind$Cells" "cells" "[I" ∈ z_tbl := z_tat 127 (by decide +kernel) rfl
theorem zf_X6_16 : Cond.fieldLink RX6 16 "TwoHousesBehind$Street" "houseFacts" "LTwoHousesBehind$Cells;" ∈ z_tbl := z_tat 132 (by decide +kernel) rfl
theorem zf_X6_20 : Cond.fieldLink RX6 20 "TwoHousesBehind$Street" "wayFacts" "LTwoHousesBehind$Cells;" ∈ z_tbl := z_tat 133 (by decide +kernel) rfl
theorem zf_X6_23 : Cond.fieldLink RX6 23 "TwoHousesBehind$Street" "behindBird" "LTwoHousesBehind$Cells;" ∈ z_tbl := z_tat 134 (by decide +kernel) rfl
theorem zf_X6_40 : Cond.fieldLink RX6 40 "TwoHousesBehind$Street" "houseNumber" "I" ∈ z_tbl := z_tat 135 (by decide +kernel) rfl
theorem zf_X6_43 : Cond.fieldLink RX6 43 "TwoHousesBehind$Street" "wayNumber" "I" ∈ z_tbl := z_tat 136 (by decide +kernel) rfl
theorem zf_X6_26 : Cond.fieldLink RX6 26 "TwoHousesBehind$Street" "birdLag" "I" ∈ z_tbl := z_tat 137 (by decide +kernel) rfl
theorem zf_X6_30 : Cond.fieldLink RX6 30 "TwoHousesBehind$Street" "birdHouse" "I" ∈ z_tbl := z_tat 138 (by decide +kernel) rfl
theorem zf_X6_46 : Cond.fieldLink RX6 46 "TwoHousesBehind$Street" "minutesGone" "I" ∈ z_tbl := z_tat 139 (by decide +kernel) rfl
theorem zf_X6_49 : Cond.fieldLink RX6 49 "TwoHousesBehind$Street" "visitsMade" "I" ∈ z_tbl := z_tat 140 (by decide +kernel) rfl
theorem zf_X6_33 : Cond.fieldLink RX6 33 "TwoHousesBehind$Street" "drawSeed" "I" ∈ z_tbl := z_tat 141 (by decide +kernel) rfl
theorem zm_X8_24 : Cond.methodLink RX8 24 yX5_init ∈ z_tbl := z_tat 165 (by decide +kernel) rfl
theorem zm_X5_17 : Cond.methodLink RX5 17 yX1_init ∈ z_tbl := z_tat 170 (by decide +kernel) rfl
theorem zm_X5_27 : Cond.methodLink RX5 27 yX1_keep ∈ z_tbl := z_tat 171 (by decide +kernel) rfl
theorem zf_X5_11 : Cond.fieldLink RX5 11 "TwoHousesBehind$Shelves" "elements" "[J" ∈ z_tbl := z_tat 175 (by decide +kernel) rfl
theorem zf_X5_20 : Cond.fieldLink RX5 20 "TwoHousesBehind$Shelves" "holdings" "LTwoHousesBehind$Cells;" ∈ z_tbl := z_tat 176 (by decide +kernel) rfl
theorem zf_X5_24 : Cond.fieldLink RX5 24 "TwoHousesBehind$Shelves" "sizes" "LTwoHousesBehind$Cells;" ∈ z_tbl := z_tat 177 (by decide +kernel) rfl
theorem zm_X8_31 : Cond.methodLink RX8 31 yX0_init ∈ z_tbl := z_tat 188 (by decide +kernel) rfl
theorem zm_X0_13 : Cond.methodLink RX0 13 yX1_init ∈ z_tbl := z_tat 193 (by decide +kernel) rfl
theorem zf_X0_16 : Cond.fieldLink RX0 16 "TwoHousesBehind$Acts" "bodies" "LTwoHousesBehind$Cells;" ∈ z_tbl := z_tat 194 (by decide +kernel) rfl
theorem zf_X0_20 : Cond.fieldLink RX0 20 "TwoHousesBehind$Acts" "ran" "I" ∈ z_tbl := z_tat 195 (by decide +kernel) rfl
theorem zf_X0_28 : Cond.fieldLink RX0 28 "TwoHousesBehind$Acts" "ownKind" "I" ∈ z_tbl := z_tat 196 (by decide +kernel) rfl
theorem zf_X0_31 : Cond.fieldLink RX0 31 "TwoHousesBehind$Acts" "number" "I" ∈ z_tbl := z_tat 197 (by decide +kernel) rfl
theorem zf_X0_34 : Cond.fieldLink RX0 34 "TwoHousesBehind$Acts" "a" "I" ∈ z_tbl := z_tat 198 (by decide +kernel) rfl
theorem zm_X8_38 : Cond.methodLink RX8 38 yX7_init ∈ z_tbl := z_tat 212 (by decide +kernel) rfl
theorem zm_X7_19 : Cond.methodLink RX7 19 yX1_init ∈ z_tbl := z_tat 217 (by decide +kernel) rfl
theorem zf_X7_11 : Cond.fieldLink RX7 11 "TwoHousesBehind$Walk" "street" "LTwoHousesBehind$Street;" ∈ z_tbl := z_tat 218 (by decide +kernel) rfl
theorem zf_X7_22 : Cond.fieldLink RX7 22 "TwoHousesBehind$Walk" "links" "LTwoHousesBehind$Cells;" ∈ z_tbl := z_tat 219 (by decide +kernel) rfl
theorem zf_X7_26 : Cond.fieldLink RX7 26 "TwoHousesBehind$Walk" "places" "LTwoHousesBehind$Cells;" ∈ z_tbl := z_tat 220 (by decide +kernel) rfl
theorem zf_X7_29 : Cond.fieldLink RX7 29 "TwoHousesBehind$Walk" "spoken" "LTwoHousesBehind$Cells;" ∈ z_tbl := z_tat 221 (by decide +kernel) rfl
theorem zf_X7_32 : Cond.fieldLink RX7 32 "TwoHousesBehind$Walk" "answers" "LTwoHousesBehind$Cells;" ∈ z_tbl := z_tat 222 (by decide +kernel) rfl
theorem zf_X7_35 : Cond.fieldLink RX7 35 "TwoHousesBehind$Walk" "minutesSpent" "LTwoHousesBehind$Cells;" ∈ z_tbl := z_tat 223 (by decide +kernel) rfl
theorem zf_X7_41 : Cond.fieldLink RX7 41 "TwoHousesBehind$Walk" "length" "I" ∈ z_tbl := z_tat 224 (by decide +kernel) rfl
theorem zf_X7_49 : Cond.fieldLink RX7 49 "TwoHousesBehind$Walk" "walkLag" "I" ∈ z_tbl := z_tat 225 (by decide +kernel) rfl
theorem zm_X8_47 : Cond.methodLink RX8 47 yX4_init ∈ z_tbl := z_tat 245 (by decide +kernel) rfl
theorem zm_X4_21 : Cond.methodLink RX4 21 yX1_init ∈ z_tbl := z_tat 250 (by decide +kernel) rfl
theorem zf_X4_9 : Cond.fieldLink RX4 9 "TwoHousesBehind$Search" "street" "LTwoHousesBehind$Street;" ∈ z_tbl := z_tat 251 (by decide +kernel) rfl
theorem zf_X4_15 : Cond.fieldLink RX4 15 "TwoHousesBehind$Search" "walk" "LTwoHousesBehind$Walk;" ∈ z_tbl := z_tat 252 (by decide +kernel) rfl
theorem zf_X4_24 : Cond.fieldLink RX4 24 "TwoHousesBehind$Search" "houses" "LTwoHousesBehind$Cells;" ∈ z_tbl := z_tat 253 (by decide +kernel) rfl
theorem zf_X4_28 : Cond.fieldLink RX4 28 "TwoHousesBehind$Search" "found" "I" ∈ z_tbl := z_tat 254 (by decide +kernel) rfl
theorem zf_X4_32 : Cond.fieldLink RX4 32 "TwoHousesBehind$Search" "ends" "I" ∈ z_tbl := z_tat 255 (by decide +kernel) rfl
theorem zf_X4_45 : Cond.fieldLink RX4 45 "TwoHousesBehind$Search" "minutes" "I" ∈ z_tbl := z_tat 256 (by decide +kernel) rfl
theorem zf_X4_51 : Cond.fieldLink RX4 51 "TwoHousesBehind$Search" "visits" "I" ∈ z_tbl := z_tat 257 (by decide +kernel) rfl
theorem zm_X8_56 : Cond.methodLink RX8 56 yX3_init ∈ z_tbl := z_tat 275 (by decide +kernel) rfl
theorem zm_X3_23 : Cond.methodLink RX3 23 yX1_init ∈ z_tbl := z_tat 280 (by decide +kernel) rfl
theorem zf_X3_9 : Cond.fieldLink RX3 9 "TwoHousesBehind$Reader" "shelves" "LTwoHousesBehind$Shelves;" ∈ z_tbl := z_tat 281 (by decide +kernel) rfl
theorem zf_X3_15 : Cond.fieldLink RX3 15 "TwoHousesBehind$Reader" "draft" "LTwoHousesBehind$Street;" ∈ z_tbl := z_tat 282 (by decide +kernel) rfl
theorem zf_X3_26 : Cond.fieldLink RX3 26 "TwoHousesBehind$Reader" "letters" "LTwoHousesBehind$Cells;" ∈ z_tbl := z_tat 283 (by decide +kernel) rfl
theorem zf_X3_46 : Cond.fieldLink RX3 46 "TwoHousesBehind$Reader" "at" "I" ∈ z_tbl := z_tat 284 (by decide +kernel) rfl
theorem zf_X3_30 : Cond.fieldLink RX3 30 "TwoHousesBehind$Reader" "faultAt" "I" ∈ z_tbl := z_tat 285 (by decide +kernel) rfl
theorem zm_X8_65 : Cond.methodLink RX8 65 yX1_init ∈ z_tbl := z_tat 298 (by decide +kernel) rfl
theorem zf_X8_10 : Cond.fieldLink RX8 10 "TwoHousesBehind" "street" "LTwoHousesBehind$Street;" ∈ z_tbl := z_tat 299 (by decide +kernel) rfl
theorem zf_X8_16 : Cond.fieldLink RX8 16 "TwoHousesBehind" "image" "LTwoHousesBehind$Street;" ∈ z_tbl := z_tat 300 (by decide +kernel) rfl
theorem zf_X8_19 : Cond.fieldLink RX8 19 "TwoHousesBehind" "draft" "LTwoHousesBehind$Street;" ∈ z_tbl := z_tat 301 (by decide +kernel) rfl
theorem zf_X8_25 : Cond.fieldLink RX8 25 "TwoHousesBehind" "shelves" "LTwoHousesBehind$Shelves;" ∈ z_tbl := z_tat 302 (by decide +kernel) rfl
theorem zf_X8_32 : Cond.fieldLink RX8 32 "TwoHousesBehind" "acts" "LTwoHousesBehind$Acts;" ∈ z_tbl := z_tat 303 (by decide +kernel) rfl
theorem zf_X8_41 : Cond.fieldLink RX8 41 "TwoHousesBehind" "walk" "LTwoHousesBehind$Walk;" ∈ z_tbl := z_tat 304 (by decide +kernel) rfl
theorem zf_X8_50 : Cond.fieldLink RX8 50 "TwoHousesBehind" "search" "LTwoHousesBehind$Search;" ∈ z_tbl := z_tat 305 (by decide +kernel) rfl
theorem zf_X8_59 : Cond.fieldLink RX8 59 "TwoHousesBehind" "reader" "LTwoHousesBehind$Reader;" ∈ z_tbl := z_tat 306 (by decide +kernel) rfl
theorem zf_X8_68 : Cond.fieldLink RX8 68 "TwoHousesBehind" "refusals" "LTwoHousesBehind$Cells;" ∈ z_tbl := z_tat 307 (by decide +kernel) rfl
theorem zf_X8_72 : Cond.fieldLink RX8 72 "TwoHousesBehind" "latestFault" "I" ∈ z_tbl := z_tat 308 (by decide +kernel) rfl
theorem zf_X8_76 : Cond.fieldLink RX8 76 "TwoHousesBehind" "imageTaken" "Z" ∈ z_tbl := z_tat 309 (by decide +kernel) rfl
theorem zm_L_13 : Cond.methodLink RL 13 yX8_row ∈ z_tbl := z_tat 333 (by decide +kernel) rfl
theorem zm_X8_110 : Cond.methodLink RX8 110 yX5_isShelf ∈ z_tbl := z_tat 337 (by decide +kernel) rfl
theorem zm_X8_88 : Cond.methodLink RX8 88 yX8_refuse ∈ z_tbl := z_tat 341 (by decide +kernel) rfl
theorem zm_X8_80 : Cond.methodLink RX8 80 yX1_get ∈ z_tbl := z_tat 345 (by decide +kernel) rfl
theorem zm_X8_84 : Cond.methodLink RX8 84 yX1_keep ∈ z_tbl := z_tat 349 (by decide +kernel) rfl
theorem zm_X8_113 : Cond.methodLink RX8 113 yX5_isSort ∈ z_tbl := z_tat 350 (by decide +kernel) rfl
theorem zm_X8_116 : Cond.methodLink RX8 116 yX5_holdRow ∈ z_tbl := z_tat 354 (by decide +kernel) rfl
theorem zm_X5_52 : Cond.methodLink RX5 52 yX5_keepElement ∈ z_tbl := z_tat 358 (by decide +kernel) rfl
theorem zm_X5_56 : Cond.methodLink RX5 56 yX5_hasElement ∈ z_tbl := z_tat 362 (by decide +kernel) rfl
theorem zm_X5_35 : Cond.methodLink RX5 35 yX1_get ∈ z_tbl := z_tat 366 (by decide +kernel) rfl
theorem zm_X5_64 : Cond.methodLink RX5 64 yX5_lowestBits ∈ z_tbl := z_tat 367 (by decide +kernel) rfl
theorem zm_L_20 : Cond.methodLink RL 20 yX8_set ∈ z_tbl := z_tat 370 (by decide +kernel) rfl
theorem zm_X8_120 : Cond.methodLink RX8 120 yX5_troubleWithRow ∈ z_tbl := z_tat 374 (by decide +kernel) rfl
theorem zm_X5_42 : Cond.methodLink RX5 42 yX5_troubleWithTwoRows ∈ z_tbl := z_tat 378 (by decide +kernel) rfl
theorem zm_X5_31 : Cond.methodLink RX5 31 yX5_isShelf ∈ z_tbl := z_tat 382 (by decide +kernel) rfl
theorem zm_X5_46 : Cond.methodLink RX5 46 yX5_isHouse ∈ z_tbl := z_tat 383 (by decide +kernel) rfl
theorem zm_X5_39 : Cond.methodLink RX5 39 yX5_isRow ∈ z_tbl := z_tat 386 (by decide +kernel) rfl
theorem zm_X8_123 : Cond.methodLink RX8 123 yX5_hasElement ∈ z_tbl := z_tat 389 (by decide +kernel) rfl
theorem zm_X8_127 : Cond.methodLink RX8 127 yX5_keepElement ∈ z_tbl := z_tat 390 (by decide +kernel) rfl
theorem zm_L_25 : Cond.methodLink RL 25 yX8_copy ∈ z_tbl := z_tat 391 (by decide +kernel) rfl
theorem zm_X8_131 : Cond.methodLink RX8 131 yX5_troubleWithTwoRows ∈ z_tbl := z_tat 395 (by decide +kernel) rfl
theorem zm_X8_134 : Cond.methodLink RX8 134 yX5_hasElements ∈ z_tbl := z_tat 396 (by decide +kernel) rfl
theorem zm_X8_137 : Cond.methodLink RX8 137 yX5_moveElements ∈ z_tbl := z_tat 400 (by decide +kernel) rfl
theorem zm_X5_68 : Cond.methodLink RX5 68 yX5_hasElements ∈ z_tbl := z_tat 404 (by decide +kernel) rfl
theorem zm_L_30 : Cond.methodLink RL 30 yX8_element ∈ z_tbl := z_tat 408 (by decide +kernel) rfl
theorem zm_X8_141 : Cond.methodLink RX8 141 yX5_elementAt ∈ z_tbl := z_tat 412 (by decide +kernel) rfl
theorem zm_L_35 : Cond.methodLink RL 35 yX8_show ∈ z_tbl := z_tat 416 (by decide +kernel) rfl
theorem zm_X8_103 : Cond.methodLink RX8 103 yX6_isHouse ∈ z_tbl := z_tat 420 (by decide +kernel) rfl
theorem zm_X8_145 : Cond.methodLink RX8 145 yX5_holdHouse ∈ z_tbl := z_tat 424 (by decide +kernel) rfl
theorem zm_L_40 : Cond.methodLink RL 40 yX8_holds ∈ z_tbl := z_tat 428 (by decide +kernel) rfl
theorem zm_X8_148 : Cond.methodLink RX8 148 yX5_holding ∈ z_tbl := z_tat 432 (by decide +kernel) rfl
theorem zm_L_45 : Cond.methodLink RL 45 yX8_says ∈ z_tbl := z_tat 436 (by decide +kernel) rfl
theorem zm_X8_151 : Cond.methodLink RX8 151 yX2_isKind ∈ z_tbl := z_tat 440 (by decide +kernel) rfl
theorem zm_X8_156 : Cond.methodLink RX8 156 yX5_troubleWithHouse ∈ z_tbl := z_tat 443 (by decide +kernel) rfl
theorem zm_X8_159 : Cond.methodLink RX8 159 yX6_ofHouse ∈ z_tbl := z_tat 447 (by decide +kernel) rfl
theorem zm_X6_52 : Cond.methodLink RX6 52 yX1_get ∈ z_tbl := z_tat 451 (by decide +kernel) rfl
theorem zm_X8_162 : Cond.methodLink RX8 162 yX2_isUnder ∈ z_tbl := z_tat 452 (by decide +kernel) rfl
theorem zm_X2_9 : Cond.methodLink RX2 9 yX2_above ∈ z_tbl := z_tat 455 (by decide +kernel) rfl
theorem zm_X8_165 : Cond.methodLink RX8 165 yX6_saysAs ∈ z_tbl := z_tat 458 (by decide +kernel) rfl
theorem zm_X6_74 : Cond.methodLink RX6 74 yX6_ofHouse ∈ z_tbl := z_tat 462 (by decide +kernel) rfl
theorem zm_X6_77 : Cond.methodLink RX6 77 yJ9_max_7cf53 ∈ z_tbl := z_tat 463 (by decide +kernel) rfl
theorem zm_X6_82 : Cond.methodLink RX6 82 yX6_answerAfter ∈ z_tbl := z_tat 466 (by decide +kernel) rfl
theorem zm_L_49 : Cond.methodLink RL 49 yX8_house ∈ z_tbl := z_tat 470 (by decide +kernel) rfl
theorem zm_X8_107 : Cond.methodLink RX8 107 yX8_isSet ∈ z_tbl := z_tat 474 (by decide +kernel) rfl
theorem zm_X8_169 : Cond.methodLink RX8 169 yX6_hasRoomForHouse ∈ z_tbl := z_tat 477 (by decide +kernel) rfl
theorem zm_X8_172 : Cond.methodLink RX8 172 yX6_addHouse ∈ z_tbl := z_tat 481 (by decide +kernel) rfl
theorem zm_X6_60 : Cond.methodLink RX6 60 yX6_keepOfHouse ∈ z_tbl := z_tat 485 (by decide +kernel) rfl
theorem zm_X6_56 : Cond.methodLink RX6 56 yX1_keep ∈ z_tbl := z_tat 489 (by decide +kernel) rfl
theorem zm_L_53 : Cond.methodLink RL 53 yX8_way ∈ z_tbl := z_tat 490 (by decide +kernel) rfl
theorem zm_X8_178 : Cond.methodLink RX8 178 yX8_troubleWithWay ∈ z_tbl := z_tat 494 (by decide +kernel) rfl
theorem zm_X8_175 : Cond.methodLink RX8 175 yX6_hasRoomForWay ∈ z_tbl := z_tat 498 (by decide +kernel) rfl
theorem zm_X8_181 : Cond.methodLink RX8 181 yX6_addWay ∈ z_tbl := z_tat 502 (by decide +kernel) rfl
theorem zm_X6_64 : Cond.methodLink RX6 64 yX6_keepOfWay ∈ z_tbl := z_tat 506 (by decide +kernel) rfl
theorem zm_L_57 : Cond.methodLink RL 57 yX8_ways ∈ z_tbl := z_tat 510 (by decide +kernel) rfl
theorem zm_X8_184 : Cond.methodLink RX8 184 yX8_addWays ∈ z_tbl := z_tat 514 (by decide +kernel) rfl
theorem zm_X8_187 : Cond.methodLink RX8 187 yX5_intAt ∈ z_tbl := z_tat 518 (by decide +kernel) rfl
theorem zm_X5_60 : Cond.methodLink RX5 60 yX5_elementAt ∈ z_tbl := z_tat 522 (by decide +kernel) rfl
theorem zm_L_61 : Cond.methodLink RL 61 yX8_shut ∈ z_tbl := z_tat 523 (by decide +kernel) rfl
theorem zm_X8_190 : Cond.methodLink RX8 190 yX6_isWay ∈ z_tbl := z_tat 527 (by decide +kernel) rfl
theorem zm_X8_193 : Cond.methodLink RX8 193 yX6_changeShut ∈ z_tbl := z_tat 531 (by decide +kernel) rfl
theorem zm_X6_67 : Cond.methodLink RX6 67 yX6_ofWay ∈ z_tbl := z_tat 535 (by decide +kernel) rfl
theorem zm_L_66 : Cond.methodLink RL 66 yX8_lag ∈ z_tbl := z_tat 539 (by decide +kernel) rfl
theorem zm_X8_197 : Cond.methodLink RX8 197 yX8_isLag ∈ z_tbl := z_tat 543 (by decide +kernel) rfl
theorem zm_X8_91 : Cond.methodLink RX8 91 yX8_isCount ∈ z_tbl := z_tat 546 (by decide +kernel) rfl
theorem zm_X8_200 : Cond.methodLink RX8 200 yX6_lagNow ∈ z_tbl := z_tat 549 (by decide +kernel) rfl
theorem zm_X8_204 : Cond.methodLink RX8 204 yX6_changeLag ∈ z_tbl := z_tat 553 (by decide +kernel) rfl
theorem zm_X6_71 : Cond.methodLink RX6 71 yX1_clear ∈ z_tbl := z_tat 557 (by decide +kernel) rfl
theorem zm_L_70 : Cond.methodLink RL 70 yX8_said ∈ z_tbl := z_tat 561 (by decide +kernel) rfl
theorem zm_X8_207 : Cond.methodLink RX8 207 yX6_changeSaid ∈ z_tbl := z_tat 565 (by decide +kernel) rfl
theorem zm_L_74 : Cond.methodLink RL 74 yX8_houseOf ∈ z_tbl := z_tat 569 (by decide +kernel) rfl
theorem zm_L_78 : Cond.methodLink RL 78 yX8_wayOf ∈ z_tbl := z_tat 573 (by decide +kernel) rfl
theorem zm_X8_210 : Cond.methodLink RX8 210 yX6_ofWay ∈ z_tbl := z_tat 577 (by decide +kernel) rfl
theorem zm_L_82 : Cond.methodLink RL 82 yX8_street ∈ z_tbl := z_tat 578 (by decide +kernel) rfl
theorem zm_X8_213 : Cond.methodLink RX8 213 yX6_becomeAs ∈ z_tbl := z_tat 582 (by decide +kernel) rfl
theorem zm_X6_36 : Cond.methodLink RX6 36 yX1_becomeAs ∈ z_tbl := z_tat 586 (by decide +kernel) rfl
theorem zm_X1_13 : Cond.methodLink RX1 13 yX1_get ∈ z_tbl := z_tat 590 (by decide +kernel) rfl
theorem zm_X8_216 : Cond.methodLink RX8 216 yX3_readItems ∈ z_tbl := z_tat 591 (by decide +kernel) rfl
theorem zm_X3_34 : Cond.methodLink RX3 34 yX5_size ∈ z_tbl := z_tat 595 (by decide +kernel) rfl
theorem zm_X3_38 : Cond.methodLink RX3 38 yX5_intAt ∈ z_tbl := z_tat 599 (by decide +kernel) rfl
theorem zm_X3_42 : Cond.methodLink RX3 42 yX1_keep ∈ z_tbl := z_tat 600 (by decide +kernel) rfl
theorem zm_X3_49 : Cond.methodLink RX3 49 yX3_readItem ∈ z_tbl := z_tat 601 (by decide +kernel) rfl
theorem zm_X3_56 : Cond.methodLink RX3 56 yX1_get ∈ z_tbl := z_tat 605 (by decide +kernel) rfl
theorem zm_X3_76 : Cond.methodLink RX3 76 yX3_readHouse ∈ z_tbl := z_tat 606 (by decide +kernel) rfl
theorem zm_X3_93 : Cond.methodLink RX3 93 yX6_hasRoomForHouse ∈ z_tbl := z_tat 611 (by decide +kernel) rfl
theorem zm_X3_98 : Cond.methodLink RX3 98 yX3_readWord ∈ z_tbl := z_tat 612 (by decide +kernel) rfl
theorem zm_X3_59 : Cond.methodLink RX3 59 yX3_fail ∈ z_tbl := z_tat 616 (by decide +kernel) rfl
theorem zm_X3_62 : Cond.methodLink RX3 62 yJ0_length_8abf5 ∈ z_tbl := z_tat 620 (by decide +kernel) rfl
theorem zm_J0_335 : Cond.methodLink RJ0 335 yJ0_coder_7d493 ∈ z_tbl := z_tat 624 (by decide +kernel) rfl
theorem zf_J0_38 : Cond.fieldLink RJ0 38 "java/lang/String" "COMPACT_STRINGS" "Z" ∈ z_tbl := z_tat 628 (by decide +kernel) rfl
theorem zm_X3_68 : Cond.methodLink RX3 68 yJ0_charAt_5068e ∈ z_tbl := z_tat 630 (by decide +kernel) rfl
theorem zm_J0_492 : Cond.methodLink RJ0 492 yJ0_isLatin1_aae02 ∈ z_tbl := z_tat 634 (by decide +kernel) rfl
theorem zm_J0_495 : Cond.methodLink RJ0 495 yJ1_charAt_3b067 ∈ z_tbl := z_tat 638 (by decide +kernel) rfl
theorem zm_J1_9 : Cond.methodLink RJ1 9 yJ0_checkIndex_df160 ∈ z_tbl := z_tat 641 (by decide +kernel) rfl
theorem zf_J0_1053 : Cond.fieldLink RJ0 1053 "jdk/internal/util/Preconditions" "SIOOBE_FORMATTER" "Ljava/util/function/BiFunction;" ∈ z_tbl := z_tat 644 (by decide +kernel) rfl
theorem zm_J0_1059 : Cond.methodLink RJ0 1059 yJ3_checkIndex_8e157 ∈ z_tbl := z_tat 646 (by decide +kernel) rfl
theorem zm_J0_498 : Cond.methodLink RJ0 498 yJ2_charAt_3b067 ∈ z_tbl := z_tat 649 (by decide +kernel) rfl
theorem zm_J2_67 : Cond.methodLink RJ2 67 yJ2_checkIndex_2214a ∈ z_tbl := z_tat 652 (by decide +kernel) rfl
theorem zm_J2_48 : Cond.methodLink RJ2 48 yJ2_length_9d52b ∈ z_tbl := z_tat 655 (by decide +kernel) rfl
theorem zm_J2_414 : Cond.methodLink RJ2 414 yJ0_checkIndex_df160 ∈ z_tbl := z_tat 658 (by decide +kernel) rfl
theorem zm_J2_71 : Cond.methodLink RJ2 71 yJ2_getChar_3b067 ∈ z_tbl := z_tat 659 (by decide +kernel) rfl
theorem zf_J2_44 : Cond.fieldLink RJ2 44 "java/lang/StringUTF16" "$assertionsDisabled" "Z" ∈ z_tbl := z_tat 662 (by decide +kernel) rfl
theorem zf_J2_59 : Cond.fieldLink RJ2 59 "java/lang/StringUTF16" "HI_BYTE_SHIFT" "I" ∈ z_tbl := z_tat 664 (by decide +kernel) rfl
theorem zf_J2_63 : Cond.fieldLink RJ2 63 "java/lang/StringUTF16" "LO_BYTE_SHIFT" "I" ∈ z_tbl := z_tat 666 (by decide +kernel) rfl
theorem zm_X3_52 : Cond.methodLink RX3 52 yX3_readLetter ∈ z_tbl := z_tat 668 (by decide +kernel) rfl
theorem zm_X3_104 : Cond.methodLink RX3 104 yX3_readNumber ∈ z_tbl := z_tat 672 (by decide +kernel) rfl
theorem zm_X3_72 : Cond.methodLink RX3 72 yX3_isDigit ∈ z_tbl := z_tat 676 (by decide +kernel) rfl
theorem zm_X3_108 : Cond.methodLink RX3 108 yX6_addHouse ∈ z_tbl := z_tat 680 (by decide +kernel) rfl
theorem zm_X3_79 : Cond.methodLink RX3 79 yX3_readWay ∈ z_tbl := z_tat 681 (by decide +kernel) rfl
theorem zm_X3_113 : Cond.methodLink RX3 113 yX6_hasRoomForWay ∈ z_tbl := z_tat 686 (by decide +kernel) rfl
theorem zm_X3_116 : Cond.methodLink RX3 116 yX6_houseCount ∈ z_tbl := z_tat 687 (by decide +kernel) rfl
theorem zm_X3_119 : Cond.methodLink RX3 119 yX6_addWay ∈ z_tbl := z_tat 691 (by decide +kernel) rfl
theorem zm_X3_82 : Cond.methodLink RX3 82 yX3_readShut ∈ z_tbl := z_tat 692 (by decide +kernel) rfl
theorem zm_X3_124 : Cond.methodLink RX3 124 yX6_wayCount ∈ z_tbl := z_tat 697 (by decide +kernel) rfl
theorem zm_X3_127 : Cond.methodLink RX3 127 yX6_changeShut ∈ z_tbl := z_tat 701 (by decide +kernel) rfl
theorem zm_X3_85 : Cond.methodLink RX3 85 yX3_readLag ∈ z_tbl := z_tat 702 (by decide +kernel) rfl
theorem zm_X3_133 : Cond.methodLink RX3 133 yX6_changeLag ∈ z_tbl := z_tat 707 (by decide +kernel) rfl
theorem zm_X3_88 : Cond.methodLink RX3 88 yX3_readBird ∈ z_tbl := z_tat 708 (by decide +kernel) rfl
theorem zm_X3_138 : Cond.methodLink RX3 138 yX6_setBird ∈ z_tbl := z_tat 713 (by decide +kernel) rfl
theorem zm_X8_219 : Cond.methodLink RX8 219 yX3_faultFound ∈ z_tbl := z_tat 717 (by decide +kernel) rfl
theorem zm_L_86 : Cond.methodLink RL 86 yX8_fault ∈ z_tbl := z_tat 722 (by decide +kernel) rfl
theorem zm_L_91 : Cond.methodLink RL 91 yX8_put ∈ z_tbl := z_tat 726 (by decide +kernel) rfl
theorem zm_X8_222 : Cond.methodLink RX8 222 yX6_visit ∈ z_tbl := z_tat 730 (by decide +kernel) rfl
theorem zm_X6_86 : Cond.methodLink RX6 86 yX6_spokenNext ∈ z_tbl := z_tat 734 (by decide +kernel) rfl
theorem zm_L_95 : Cond.methodLink RL 95 yX8_go ∈ z_tbl := z_tat 738 (by decide +kernel) rfl
theorem zm_X8_225 : Cond.methodLink RX8 225 yX6_canGoBy ∈ z_tbl := z_tat 742 (by decide +kernel) rfl
theorem zm_X6_94 : Cond.methodLink RX6 94 yX6_hasBird ∈ z_tbl := z_tat 746 (by decide +kernel) rfl
theorem zm_X6_98 : Cond.methodLink RX6 98 yX6_isOpenAt ∈ z_tbl := z_tat 750 (by decide +kernel) rfl
theorem zm_X6_90 : Cond.methodLink RX6 90 yX6_isWay ∈ z_tbl := z_tat 754 (by decide +kernel) rfl
theorem zm_X8_228 : Cond.methodLink RX8 228 yX6_goBy ∈ z_tbl := z_tat 755 (by decide +kernel) rfl
theorem zm_X6_102 : Cond.methodLink RX6 102 yX6_visit ∈ z_tbl := z_tat 759 (by decide +kernel) rfl
theorem zm_L_99 : Cond.methodLink RL 99 yX8_where ∈ z_tbl := z_tat 760 (by decide +kernel) rfl
theorem zm_X8_231 : Cond.methodLink RX8 231 yX6_birdAt ∈ z_tbl := z_tat 764 (by decide +kernel) rfl
theorem zm_L_103 : Cond.methodLink RL 103 yX8_next ∈ z_tbl := z_tat 768 (by decide +kernel) rfl
theorem zm_X8_234 : Cond.methodLink RX8 234 yX6_spokenNext ∈ z_tbl := z_tat 772 (by decide +kernel) rfl
theorem zm_L_107 : Cond.methodLink RL 107 yX8_behind ∈ z_tbl := z_tat 773 (by decide +kernel) rfl
theorem zm_X8_237 : Cond.methodLink RX8 237 yX6_saidAgo ∈ z_tbl := z_tat 777 (by decide +kernel) rfl
theorem zm_L_111 : Cond.methodLink RL 111 yX8_answer ∈ z_tbl := z_tat 781 (by decide +kernel) rfl
theorem zm_X8_240 : Cond.methodLink RX8 240 yX6_answerAfter ∈ z_tbl := z_tat 785 (by decide +kernel) rfl
theorem zm_L_115 : Cond.methodLink RL 115 yX8_between ∈ z_tbl := z_tat 786 (by decide +kernel) rfl
theorem zm_X8_244 : Cond.methodLink RX8 244 yX8_refuseApart ∈ z_tbl := z_tat 790 (by decide +kernel) rfl
theorem zm_X8_247 : Cond.methodLink RX8 247 yX7_begin ∈ z_tbl := z_tat 794 (by decide +kernel) rfl
theorem zm_X7_38 : Cond.methodLink RX7 38 yX7_beginWithout ∈ z_tbl := z_tat 798 (by decide +kernel) rfl
theorem zm_X7_45 : Cond.methodLink RX7 45 yX6_lagNow ∈ z_tbl := z_tat 802 (by decide +kernel) rfl
theorem zm_X7_52 : Cond.methodLink RX7 52 yX6_saidAgo ∈ z_tbl := z_tat 803 (by decide +kernel) rfl
theorem zm_X7_56 : Cond.methodLink RX7 56 yX1_keep ∈ z_tbl := z_tat 804 (by decide +kernel) rfl
theorem zm_X7_60 : Cond.methodLink RX7 60 yX1_clear ∈ z_tbl := z_tat 805 (by decide +kernel) rfl
theorem zm_X7_63 : Cond.methodLink RX7 63 yX6_isOpen ∈ z_tbl := z_tat 806 (by decide +kernel) rfl
theorem zm_X7_67 : Cond.methodLink RX7 67 yX6_ofWay ∈ z_tbl := z_tat 810 (by decide +kernel) rfl
theorem zm_X7_71 : Cond.methodLink RX7 71 yX7_link ∈ z_tbl := z_tat 811 (by decide +kernel) rfl
theorem zm_X7_78 : Cond.methodLink RX7 78 yX7_wayTaken ∈ z_tbl := z_tat 815 (by decide +kernel) rfl
theorem zm_X7_81 : Cond.methodLink RX7 81 yX6_isHouse ∈ z_tbl := z_tat 819 (by decide +kernel) rfl
theorem zm_X7_84 : Cond.methodLink RX7 84 yX1_get ∈ z_tbl := z_tat 820 (by decide +kernel) rfl
theorem zm_X8_250 : Cond.methodLink RX8 250 yX7_wayTaken ∈ z_tbl := z_tat 821 (by decide +kernel) rfl
theorem zm_L_119 : Cond.methodLink RL 119 yX8_judge ∈ z_tbl := z_tat 822 (by decide +kernel) rfl
theorem zm_X8_256 : Cond.methodLink RX8 256 yX8_troubleWithRoute ∈ z_tbl := z_tat 826 (by decide +kernel) rfl
theorem zm_X8_95 : Cond.methodLink RX8 95 yX5_troubleWithStart ∈ z_tbl := z_tat 830 (by decide +kernel) rfl
theorem zm_X5_49 : Cond.methodLink RX5 49 yX5_troubleWithRow ∈ z_tbl := z_tat 834 (by decide +kernel) rfl
theorem zm_X8_99 : Cond.methodLink RX8 99 yX6_hasBird ∈ z_tbl := z_tat 835 (by decide +kernel) rfl
theorem zm_X8_259 : Cond.methodLink RX8 259 yX8_walkTold ∈ z_tbl := z_tat 836 (by decide +kernel) rfl
theorem zm_X8_253 : Cond.methodLink RX8 253 yX7_stepTo ∈ z_tbl := z_tat 840 (by decide +kernel) rfl
theorem zm_X7_90 : Cond.methodLink RX7 90 yX7_place ∈ z_tbl := z_tat 844 (by decide +kernel) rfl
theorem zm_X7_87 : Cond.methodLink RX7 87 yX6_birdAt ∈ z_tbl := z_tat 848 (by decide +kernel) rfl
theorem zm_X7_93 : Cond.methodLink RX7 93 yX7_heardBy ∈ z_tbl := z_tat 849 (by decide +kernel) rfl
theorem zm_X7_96 : Cond.methodLink RX7 96 yX7_visitsOf ∈ z_tbl := z_tat 853 (by decide +kernel) rfl
theorem zm_X7_99 : Cond.methodLink RX7 99 yX6_answerAfter ∈ z_tbl := z_tat 857 (by decide +kernel) rfl
theorem zm_L_123 : Cond.methodLink RL 123 yX8_minutes ∈ z_tbl := z_tat 858 (by decide +kernel) rfl
theorem zm_X8_262 : Cond.methodLink RX8 262 yX7_minutesTaken ∈ z_tbl := z_tat 862 (by decide +kernel) rfl
theorem zm_L_127 : Cond.methodLink RL 127 yX8_hears ∈ z_tbl := z_tat 866 (by decide +kernel) rfl
theorem zm_X8_265 : Cond.methodLink RX8 265 yX7_heardBy ∈ z_tbl := z_tat 870 (by decide +kernel) rfl
theorem zm_L_131 : Cond.methodLink RL 131 yX8_other ∈ z_tbl := z_tat 871 (by decide +kernel) rfl
theorem zm_X8_268 : Cond.methodLink RX8 268 yX7_beginAfresh ∈ z_tbl := z_tat 875 (by decide +kernel) rfl
theorem zm_X7_75 : Cond.methodLink RX7 75 yX7_begin ∈ z_tbl := z_tat 879 (by decide +kernel) rfl
theorem zm_X8_271 : Cond.methodLink RX8 271 yX7_spokenAt ∈ z_tbl := z_tat 880 (by decide +kernel) rfl
theorem zm_L_135 : Cond.methodLink RL 135 yX8_aim ∈ z_tbl := z_tat 884 (by decide +kernel) rfl
theorem zm_X8_274 : Cond.methodLink RX8 274 yX8_troubleInSeeking ∈ z_tbl := z_tat 888 (by decide +kernel) rfl
theorem zm_X8_277 : Cond.methodLink RX8 277 yX4_quickest ∈ z_tbl := z_tat 892 (by decide +kernel) rfl
theorem zm_X4_73 : Cond.methodLink RX4 73 yX7_begin ∈ z_tbl := z_tat 896 (by decide +kernel) rfl
theorem zc_X4_76 : Cond.constant RX4 76 (1000000) ∈ z_tbl := z_tat 897 (by decide +kernel) rfl
theorem zm_X4_77 : Cond.methodLink RX4 77 yX7_place ∈ z_tbl := z_tat 898 (by decide +kernel) rfl
theorem zm_X4_80 : Cond.methodLink RX4 80 yX6_birdAt ∈ z_tbl := z_tat 899 (by decide +kernel) rfl
theorem zm_X4_83 : Cond.methodLink RX4 83 yX4_isQuicker ∈ z_tbl := z_tat 900 (by decide +kernel) rfl
theorem zm_X4_39 : Cond.methodLink RX4 39 yX7_minutesTaken ∈ z_tbl := z_tat 904 (by decide +kernel) rfl
theorem zm_X4_48 : Cond.methodLink RX4 48 yX7_visitsMade ∈ z_tbl := z_tat 905 (by decide +kernel) rfl
theorem zm_X4_87 : Cond.methodLink RX4 87 yX4_isHeardBy ∈ z_tbl := z_tat 909 (by decide +kernel) rfl
theorem zm_X4_66 : Cond.methodLink RX4 66 yX4_hearsAll ∈ z_tbl := z_tat 913 (by decide +kernel) rfl
theorem zm_X4_61 : Cond.methodLink RX4 61 yX7_heardBy ∈ z_tbl := z_tat 917 (by decide +kernel) rfl
theorem zm_X4_70 : Cond.methodLink RX4 70 yX4_hearsAny ∈ z_tbl := z_tat 918 (by decide +kernel) rfl
theorem zm_X4_91 : Cond.methodLink RX4 91 yX4_keepRoute ∈ z_tbl := z_tat 922 (by decide +kernel) rfl
theorem zm_X4_54 : Cond.methodLink RX4 54 yX7_placeAt ∈ z_tbl := z_tat 926 (by decide +kernel) rfl
theorem zm_X4_57 : Cond.methodLink RX4 57 yX1_keep ∈ z_tbl := z_tat 930 (by decide +kernel) rfl
theorem zm_X4_94 : Cond.methodLink RX4 94 yX7_becomeNext ∈ z_tbl := z_tat 931 (by decide +kernel) rfl
theorem zm_X7_103 : Cond.methodLink RX7 103 yX7_stepTo ∈ z_tbl := z_tat 935 (by decide +kernel) rfl
theorem zm_X8_281 : Cond.methodLink RX8 281 yX4_told ∈ z_tbl := z_tat 936 (by decide +kernel) rfl
theorem zm_X4_35 : Cond.methodLink RX4 35 yX1_get ∈ z_tbl := z_tat 940 (by decide +kernel) rfl
theorem zm_L_139 : Cond.methodLink RL 139 yX8_round ∈ z_tbl := z_tat 941 (by decide +kernel) rfl
theorem zm_X8_284 : Cond.methodLink RX8 284 yX6_isSetOfHouses ∈ z_tbl := z_tat 945 (by decide +kernel) rfl
theorem zm_L_144 : Cond.methodLink RL 144 yX8_fits ∈ z_tbl := z_tat 949 (by decide +kernel) rfl
theorem zm_X8_287 : Cond.methodLink RX8 287 yX4_fit ∈ z_tbl := z_tat 953 (by decide +kernel) rfl
theorem zm_X4_107 : Cond.methodLink RX4 107 yX4_speaksAs ∈ z_tbl := z_tat 957 (by decide +kernel) rfl
theorem zm_X4_98 : Cond.methodLink RX4 98 yX7_spokenAt ∈ z_tbl := z_tat 961 (by decide +kernel) rfl
theorem zm_X4_101 : Cond.methodLink RX4 101 yX5_intAt ∈ z_tbl := z_tat 962 (by decide +kernel) rfl
theorem zm_X8_291 : Cond.methodLink RX8 291 yX4_countFound ∈ z_tbl := z_tat 963 (by decide +kernel) rfl
theorem zm_L_148 : Cond.methodLink RL 148 yX8_from ∈ z_tbl := z_tat 967 (by decide +kernel) rfl
theorem zm_X8_294 : Cond.methodLink RX8 294 yX4_endsFound ∈ z_tbl := z_tat 971 (by decide +kernel) rfl
theorem zm_X8_297 : Cond.methodLink RX8 297 yX4_houseFound ∈ z_tbl := z_tat 975 (by decide +kernel) rfl
theorem zm_L_152 : Cond.methodLink RL 152 yX8_odds ∈ z_tbl := z_tat 979 (by decide +kernel) rfl
theorem zm_X8_300 : Cond.methodLink RX8 300 yX8_troubleInThought ∈ z_tbl := z_tat 983 (by decide +kernel) rfl
theorem zm_X8_304 : Cond.methodLink RX8 304 yX4_oddsToHear ∈ z_tbl := z_tat 987 (by decide +kernel) rfl
theorem zm_X4_111 : Cond.methodLink RX4 111 yX6_openWaysAt ∈ z_tbl := z_tat 991 (by decide +kernel) rfl
theorem zm_X4_114 : Cond.methodLink RX4 114 yX4_oddsOfWalk ∈ z_tbl := z_tat 995 (by decide +kernel) rfl
theorem zm_X4_118 : Cond.methodLink RX4 118 yX6_openWaysBetween ∈ z_tbl := z_tat 999 (by decide +kernel) rfl
theorem zc_X4_121 : Cond.constantLong RX4 121 (27720) ∈ z_tbl := z_tat 1003 (by decide +kernel) rfl
theorem zm_L_157 : Cond.methodLink RL 157 yX8_shuts ∈ z_tbl := z_tat 1004 (by decide +kernel) rfl
theorem zm_X8_308 : Cond.methodLink RX8 308 yX4_fewestToShut ∈ z_tbl := z_tat 1008 (by decide +kernel) rfl
theorem zm_X4_126 : Cond.methodLink RX4 126 yX6_openWays ∈ z_tbl := z_tat 1012 (by decide +kernel) rfl
theorem zm_X6_105 : Cond.methodLink RX6 105 yX6_isOpen ∈ z_tbl := z_tat 1016 (by decide +kernel) rfl
theorem zm_X4_129 : Cond.methodLink RX4 129 yJ6_bitCount_0f7a4 ∈ z_tbl := z_tat 1017 (by decide +kernel) rfl
theorem zc_J6_265 : Cond.constant RJ6 265 (1431655765) ∈ z_tbl := z_tat 1020 (by decide +kernel) rfl
theorem zc_J6_266 : Cond.constant RJ6 266 (858993459) ∈ z_tbl := z_tat 1021 (by decide +kernel) rfl
theorem zc_J6_267 : Cond.constant RJ6 267 (252645135) ∈ z_tbl := z_tat 1022 (by decide +kernel) rfl
theorem zm_X4_134 : Cond.methodLink RX4 134 yX4_isSilentWithout ∈ z_tbl := z_tat 1023 (by decide +kernel) rfl
theorem zm_X4_123 : Cond.methodLink RX4 123 yX7_beginWithout ∈ z_tbl := z_tat 1027 (by decide +kernel) rfl
theorem zm_L_161 : Cond.methodLink RL 161 yX8_reach ∈ z_tbl := z_tat 1028 (by decide +kernel) rfl
theorem zm_X8_311 : Cond.methodLink RX8 311 yX4_wordsInReach ∈ z_tbl := z_tat 1032 (by decide +kernel) rfl
theorem zm_L_165 : Cond.methodLink RL 165 yX8_first ∈ z_tbl := z_tat 1036 (by decide +kernel) rfl
theorem zm_X8_314 : Cond.methodLink RX8 314 yX4_fewestVisits ∈ z_tbl := z_tat 1040 (by decide +kernel) rfl
theorem zm_L_169 : Cond.methodLink RL 169 yX8_wander ∈ z_tbl := z_tat 1044 (by decide +kernel) rfl
theorem zm_X8_317 : Cond.methodLink RX8 317 yX6_drawnWay ∈ z_tbl := z_tat 1048 (by decide +kernel) rfl
theorem zm_X6_109 : Cond.methodLink RX6 109 yX6_openWaysAt ∈ z_tbl := z_tat 1052 (by decide +kernel) rfl
theorem zm_X6_112 : Cond.methodLink RX6 112 yX6_draw ∈ z_tbl := z_tat 1053 (by decide +kernel) rfl
theorem zc_X6_108 : Cond.constant RX6 108 (1103515245) ∈ z_tbl := z_tat 1057 (by decide +kernel) rfl
theorem zm_L_173 : Cond.methodLink RL 173 yX8_who ∈ z_tbl := z_tat 1058 (by decide +kernel) rfl
theorem zm_X8_320 : Cond.methodLink RX8 320 yX6_knowing ∈ z_tbl := z_tat 1062 (by decide +kernel) rfl
theorem zm_L_177 : Cond.methodLink RL 177 yX8_forget ∈ z_tbl := z_tat 1066 (by decide +kernel) rfl
theorem zm_X8_323 : Cond.methodLink RX8 323 yX6_forgetAll ∈ z_tbl := z_tat 1070 (by decide +kernel) rfl
theorem zm_X6_115 : Cond.methodLink RX6 115 yJ6_bitCount_0f7a4 ∈ z_tbl := z_tat 1074 (by decide +kernel) rfl
theorem zm_L_181 : Cond.methodLink RL 181 yX8_seed ∈ z_tbl := z_tat 1075 (by decide +kernel) rfl
theorem zm_X8_326 : Cond.methodLink RX8 326 yX6_seedNow ∈ z_tbl := z_tat 1079 (by decide +kernel) rfl
theorem zm_X8_329 : Cond.methodLink RX8 329 yX6_changeSeed ∈ z_tbl := z_tat 1083 (by decide +kernel) rfl
theorem zm_L_185 : Cond.methodLink RL 185 yX8_act ∈ z_tbl := z_tat 1087 (by decide +kernel) rfl
theorem zm_X8_332 : Cond.methodLink RX8 332 yX0_clearTrace ∈ z_tbl := z_tat 1091 (by decide +kernel) rfl
theorem zm_X8_335 : Cond.methodLink RX8 335 yX0_perform ∈ z_tbl := z_tat 1095 (by decide +kernel) rfl
theorem zm_X0_37 : Cond.methodLink RX0 37 yX0_calls ∈ z_tbl := z_tat 1099 (by decide +kernel) rfl
theorem zm_X0_51 : Cond.methodLink RX0 51 yX0_begin ∈ z_tbl := z_tat 1103 (by decide +kernel) rfl
theorem zm_X0_47 : Cond.methodLink RX0 47 yX1_keep ∈ z_tbl := z_tat 1107 (by decide +kernel) rfl
theorem zm_X0_41 : Cond.methodLink RX0 41 yX0_hushes ∈ z_tbl := z_tat 1108 (by decide +kernel) rfl
theorem zm_X0_44 : Cond.methodLink RX0 44 yX0_opens ∈ z_tbl := z_tat 1112 (by decide +kernel) rfl
theorem zm_L_189 : Cond.methodLink RL 189 yX8_trace ∈ z_tbl := z_tat 1116 (by decide +kernel) rfl
theorem zm_X8_339 : Cond.methodLink RX8 339 yX0_bodyAt ∈ z_tbl := z_tat 1120 (by decide +kernel) rfl
theorem zm_X0_24 : Cond.methodLink RX0 24 yX1_get ∈ z_tbl := z_tat 1124 (by decide +kernel) rfl
theorem zm_L_193 : Cond.methodLink RL 193 yX8_image ∈ z_tbl := z_tat 1125 (by decide +kernel) rfl
theorem zm_X8_342 : Cond.methodLink RX8 342 yX6_houseCount ∈ z_tbl := z_tat 1129 (by decide +kernel) rfl
theorem zm_L_197 : Cond.methodLink RL 197 yX8_restore ∈ z_tbl := z_tat 1130 (by decide +kernel) rfl
theorem zm_X8_345 : Cond.methodLink RX8 345 yX5_dropHousesFrom ∈ z_tbl := z_tat 1134 (by decide +kernel) rfl
theorem zm_L_201 : Cond.methodLink RL 201 yX8_status ∈ z_tbl := z_tat 1138 (by decide +kernel) rfl
theorem zm_X8_348 : Cond.methodLink RX8 348 yX0_howManyRan ∈ z_tbl := z_tat 1142 (by decide +kernel) rfl
theorem zm_X8_351 : Cond.methodLink RX8 351 yX6_count ∈ z_tbl := z_tat 1146 (by decide +kernel) rfl
theorem zm_X6_120 : Cond.methodLink RX6 120 yX6_openWays ∈ z_tbl := z_tat 1150 (by decide +kernel) rfl
theorem zm_L_12 : Cond.methodLink RL 12 yX9_init ∈ z_tbl := z_tat 1153 (by decide +kernel) rfl
theorem zf_X9_7 : Cond.fieldLink RX9 7 "TwoHousesBehindModel" "refused" "[I" ∈ z_tbl := z_tat 1157 (by decide +kernel) rfl
theorem zf_X9_13 : Cond.fieldLink RX9 13 "TwoHousesBehindModel" "kind" "[I" ∈ z_tbl := z_tat 1158 (by decide +kernel) rfl
theorem zf_X9_16 : Cond.fieldLink RX9 16 "TwoHousesBehindModel" "said" "[I" ∈ z_tbl := z_tat 1159 (by decide +kernel) rfl
theorem zf_X9_19 : Cond.fieldLink RX9 19 "TwoHousesBehindModel" "ofA" "[I" ∈ z_tbl := z_tat 1160 (by decide +kernel) rfl
theorem zf_X9_22 : Cond.fieldLink RX9 22 "TwoHousesBehindModel" "wayA" "[I" ∈ z_tbl := z_tat 1161 (by decide +kernel) rfl
theorem zf_X9_25 : Cond.fieldLink RX9 25 "TwoHousesBehindModel" "wayB" "[I" ∈ z_tbl := z_tat 1162 (by decide +kernel) rfl
theorem zf_X9_28 : Cond.fieldLink RX9 28 "TwoHousesBehindModel" "wayMinutes" "[I" ∈ z_tbl := z_tat 1163 (by decide +kernel) rfl
theorem zf_X9_31 : Cond.fieldLink RX9 31 "TwoHousesBehindModel" "isShut" "[I" ∈ z_tbl := z_tat 1164 (by decide +kernel) rfl
theorem zf_X9_102 : Cond.fieldLink RX9 102 "TwoHousesBehindModel" "houses" "I" ∈ z_tbl := z_tat 1165 (by decide +kernel) rfl
theorem zf_X9_105 : Cond.fieldLink RX9 105 "TwoHousesBehindModel" "ways" "I" ∈ z_tbl := z_tat 1166 (by decide +kernel) rfl
theorem zf_X9_34 : Cond.fieldLink RX9 34 "TwoHousesBehindModel" "lag" "I" ∈ z_tbl := z_tat 1167 (by decide +kernel) rfl
theorem zf_X9_282 : Cond.fieldLink RX9 282 "TwoHousesBehindModel" "gone" "I" ∈ z_tbl := z_tat 1168 (by decide +kernel) rfl
theorem zf_X9_285 : Cond.fieldLink RX9 285 "TwoHousesBehindModel" "visitsAll" "I" ∈ z_tbl := z_tat 1169 (by decide +kernel) rfl
theorem zf_X9_38 : Cond.fieldLink RX9 38 "TwoHousesBehindModel" "seed" "I" ∈ z_tbl := z_tat 1170 (by decide +kernel) rfl
theorem zf_X9_41 : Cond.fieldLink RX9 41 "TwoHousesBehindModel" "at" "[I" ∈ z_tbl := z_tat 1171 (by decide +kernel) rfl
theorem zf_X9_44 : Cond.fieldLink RX9 44 "TwoHousesBehindModel" "known" "[I" ∈ z_tbl := z_tat 1172 (by decide +kernel) rfl
theorem zf_X9_47 : Cond.fieldLink RX9 47 "TwoHousesBehindModel" "visits" "[I" ∈ z_tbl := z_tat 1173 (by decide +kernel) rfl
theorem zf_X9_50 : Cond.fieldLink RX9 50 "TwoHousesBehindModel" "heard" "[I" ∈ z_tbl := z_tat 1174 (by decide +kernel) rfl
theorem zf_X9_53 : Cond.fieldLink RX9 53 "TwoHousesBehindModel" "behind" "[I" ∈ z_tbl := z_tat 1175 (by decide +kernel) rfl
theorem zf_X9_56 : Cond.fieldLink RX9 56 "TwoHousesBehindModel" "behindMany" "[I" ∈ z_tbl := z_tat 1176 (by decide +kernel) rfl
theorem zf_X9_59 : Cond.fieldLink RX9 59 "TwoHousesBehindModel" "minutesAt" "[I" ∈ z_tbl := z_tat 1177 (by decide +kernel) rfl
theorem zf_X9_62 : Cond.fieldLink RX9 62 "TwoHousesBehindModel" "spoken" "[I" ∈ z_tbl := z_tat 1178 (by decide +kernel) rfl
theorem zf_X9_65 : Cond.fieldLink RX9 65 "TwoHousesBehindModel" "share" "[J" ∈ z_tbl := z_tat 1179 (by decide +kernel) rfl
theorem zf_X9_69 : Cond.fieldLink RX9 69 "TwoHousesBehindModel" "useLag" "I" ∈ z_tbl := z_tat 1180 (by decide +kernel) rfl
theorem zf_X9_108 : Cond.fieldLink RX9 108 "TwoHousesBehindModel" "alsoShut" "I" ∈ z_tbl := z_tat 1181 (by decide +kernel) rfl
theorem zf_X9_72 : Cond.fieldLink RX9 72 "TwoHousesBehindModel" "tryNext" "[I" ∈ z_tbl := z_tat 1182 (by decide +kernel) rfl
theorem zf_X9_123 : Cond.fieldLink RX9 123 "TwoHousesBehindModel" "depth" "I" ∈ z_tbl := z_tat 1183 (by decide +kernel) rfl
theorem zf_X9_126 : Cond.fieldLink RX9 126 "TwoHousesBehindModel" "deepest" "I" ∈ z_tbl := z_tat 1184 (by decide +kernel) rfl
theorem zf_X9_129 : Cond.fieldLink RX9 129 "TwoHousesBehindModel" "isStarted" "Z" ∈ z_tbl := z_tat 1185 (by decide +kernel) rfl
theorem zf_X9_133 : Cond.fieldLink RX9 133 "TwoHousesBehindModel" "isCut" "Z" ∈ z_tbl := z_tat 1186 (by decide +kernel) rfl
theorem zf_X9_136 : Cond.fieldLink RX9 136 "TwoHousesBehindModel" "isByWays" "Z" ∈ z_tbl := z_tat 1187 (by decide +kernel) rfl
theorem zf_X9_75 : Cond.fieldLink RX9 75 "TwoHousesBehindModel" "sort" "[I" ∈ z_tbl := z_tat 1188 (by decide +kernel) rfl
theorem zf_X9_78 : Cond.fieldLink RX9 78 "TwoHousesBehindModel" "size" "[I" ∈ z_tbl := z_tat 1189 (by decide +kernel) rfl
theorem zf_X9_81 : Cond.fieldLink RX9 81 "TwoHousesBehindModel" "shown" "[I" ∈ z_tbl := z_tat 1190 (by decide +kernel) rfl
theorem zf_X9_84 : Cond.fieldLink RX9 84 "TwoHousesBehindModel" "cells" "[J" ∈ z_tbl := z_tat 1191 (by decide +kernel) rfl
theorem zf_X9_87 : Cond.fieldLink RX9 87 "TwoHousesBehindModel" "moved" "[J" ∈ z_tbl := z_tat 1192 (by decide +kernel) rfl
theorem zf_X9_90 : Cond.fieldLink RX9 90 "TwoHousesBehindModel" "faultAt" "I" ∈ z_tbl := z_tat 1193 (by decide +kernel) rfl
theorem zf_X9_217 : Cond.fieldLink RX9 217 "TwoHousesBehindModel" "readFrom" "I" ∈ z_tbl := z_tat 1194 (by decide +kernel) rfl
theorem zf_X9_214 : Cond.fieldLink RX9 214 "TwoHousesBehindModel" "place" "I" ∈ z_tbl := z_tat 1195 (by decide +kernel) rfl
theorem zf_X9_227 : Cond.fieldLink RX9 227 "TwoHousesBehindModel" "numberAt" "I" ∈ z_tbl := z_tat 1196 (by decide +kernel) rfl
theorem zf_X9_230 : Cond.fieldLink RX9 230 "TwoHousesBehindModel" "number" "I" ∈ z_tbl := z_tat 1197 (by decide +kernel) rfl
theorem zf_X9_93 : Cond.fieldLink RX9 93 "TwoHousesBehindModel" "kept" "[I" ∈ z_tbl := z_tat 1198 (by decide +kernel) rfl
theorem zf_X9_288 : Cond.fieldLink RX9 288 "TwoHousesBehindModel" "hasImage" "Z" ∈ z_tbl := z_tat 1199 (by decide +kernel) rfl
theorem zf_X9_269 : Cond.fieldLink RX9 269 "TwoHousesBehindModel" "isKeeping" "Z" ∈ z_tbl := z_tat 1200 (by decide +kernel) rfl
theorem zf_X9_272 : Cond.fieldLink RX9 272 "TwoHousesBehindModel" "cursor" "I" ∈ z_tbl := z_tat 1201 (by decide +kernel) rfl
theorem zf_X9_96 : Cond.fieldLink RX9 96 "TwoHousesBehindModel" "bestRow" "[I" ∈ z_tbl := z_tat 1202 (by decide +kernel) rfl
theorem zf_X9_316 : Cond.fieldLink RX9 316 "TwoHousesBehindModel" "bestMinutes" "I" ∈ z_tbl := z_tat 1203 (by decide +kernel) rfl
theorem zf_X9_319 : Cond.fieldLink RX9 319 "TwoHousesBehindModel" "bestMany" "I" ∈ z_tbl := z_tat 1204 (by decide +kernel) rfl
theorem zf_X9_340 : Cond.fieldLink RX9 340 "TwoHousesBehindModel" "fitMany" "I" ∈ z_tbl := z_tat 1205 (by decide +kernel) rfl
theorem zf_X9_343 : Cond.fieldLink RX9 343 "TwoHousesBehindModel" "fitEnds" "I" ∈ z_tbl := z_tat 1206 (by decide +kernel) rfl
theorem zf_X9_99 : Cond.fieldLink RX9 99 "TwoHousesBehindModel" "traced" "[I" ∈ z_tbl := z_tat 1207 (by decide +kernel) rfl
theorem zf_X9_355 : Cond.fieldLink RX9 355 "TwoHousesBehindModel" "ran" "I" ∈ z_tbl := z_tat 1208 (by decide +kernel) rfl
theorem zm_L_17 : Cond.methodLink RL 17 yX9_row ∈ z_tbl := z_tat 1314 (by decide +kernel) rfl
theorem zm_X9_164 : Cond.methodLink RX9 164 yX9_isShelf ∈ z_tbl := z_tat 1318 (by decide +kernel) rfl
theorem zm_X9_167 : Cond.methodLink RX9 167 yX9_isIn ∈ z_tbl := z_tat 1321 (by decide +kernel) rfl
theorem zm_X9_171 : Cond.methodLink RX9 171 yX9_no ∈ z_tbl := z_tat 1324 (by decide +kernel) rfl
theorem zm_L_24 : Cond.methodLink RL 24 yX9_set ∈ z_tbl := z_tat 1328 (by decide +kernel) rfl
theorem zm_X9_174 : Cond.methodLink RX9 174 yX9_notRow ∈ z_tbl := z_tat 1332 (by decide +kernel) rfl
theorem zm_X9_177 : Cond.methodLink RX9 177 yX9_cutTo ∈ z_tbl := z_tat 1336 (by decide +kernel) rfl
theorem zm_L_29 : Cond.methodLink RL 29 yX9_copy ∈ z_tbl := z_tat 1339 (by decide +kernel) rfl
theorem zm_X9_184 : Cond.methodLink RX9 184 yX9_notCopy ∈ z_tbl := z_tat 1343 (by decide +kernel) rfl
theorem zm_X9_181 : Cond.methodLink RX9 181 yX9_hasCells ∈ z_tbl := z_tat 1347 (by decide +kernel) rfl
theorem zm_L_34 : Cond.methodLink RL 34 yX9_element ∈ z_tbl := z_tat 1351 (by decide +kernel) rfl
theorem zm_L_39 : Cond.methodLink RL 39 yX9_show ∈ z_tbl := z_tat 1355 (by decide +kernel) rfl
theorem zm_X9_188 : Cond.methodLink RX9 188 yX9_isHouse ∈ z_tbl := z_tat 1359 (by decide +kernel) rfl
theorem zm_L_44 : Cond.methodLink RL 44 yX9_holds ∈ z_tbl := z_tat 1363 (by decide +kernel) rfl
theorem zm_L_48 : Cond.methodLink RL 48 yX9_says ∈ z_tbl := z_tat 1367 (by decide +kernel) rfl
theorem zm_X9_191 : Cond.methodLink RX9 191 yX9_isUnder ∈ z_tbl := z_tat 1371 (by decide +kernel) rfl
theorem zm_X9_115 : Cond.methodLink RX9 115 yX9_answerOf ∈ z_tbl := z_tat 1374 (by decide +kernel) rfl
theorem zm_L_52 : Cond.methodLink RL 52 yX9_house ∈ z_tbl := z_tat 1378 (by decide +kernel) rfl
theorem zm_X9_195 : Cond.methodLink RX9 195 yX9_isSet ∈ z_tbl := z_tat 1382 (by decide +kernel) rfl
theorem zm_X9_198 : Cond.methodLink RX9 198 yX9_makesHouse ∈ z_tbl := z_tat 1385 (by decide +kernel) rfl
theorem zm_L_56 : Cond.methodLink RL 56 yX9_way ∈ z_tbl := z_tat 1389 (by decide +kernel) rfl
theorem zm_X9_202 : Cond.methodLink RX9 202 yX9_notWay ∈ z_tbl := z_tat 1393 (by decide +kernel) rfl
theorem zm_X9_205 : Cond.methodLink RX9 205 yX9_makesWay ∈ z_tbl := z_tat 1397 (by decide +kernel) rfl
theorem zm_L_60 : Cond.methodLink RL 60 yX9_ways ∈ z_tbl := z_tat 1401 (by decide +kernel) rfl
theorem zm_X9_208 : Cond.methodLink RX9 208 yX9_intAt ∈ z_tbl := z_tat 1405 (by decide +kernel) rfl
theorem zm_L_65 : Cond.methodLink RL 65 yX9_shut ∈ z_tbl := z_tat 1409 (by decide +kernel) rfl
theorem zm_X9_211 : Cond.methodLink RX9 211 yX9_isWay ∈ z_tbl := z_tat 1413 (by decide +kernel) rfl
theorem zm_L_69 : Cond.methodLink RL 69 yX9_lag ∈ z_tbl := z_tat 1417 (by decide +kernel) rfl
theorem zm_L_73 : Cond.methodLink RL 73 yX9_said ∈ z_tbl := z_tat 1421 (by decide +kernel) rfl
theorem zm_L_77 : Cond.methodLink RL 77 yX9_houseOf ∈ z_tbl := z_tat 1425 (by decide +kernel) rfl
theorem zm_L_81 : Cond.methodLink RL 81 yX9_wayOf ∈ z_tbl := z_tat 1429 (by decide +kernel) rfl
theorem zm_L_85 : Cond.methodLink RL 85 yX9_street ∈ z_tbl := z_tat 1433 (by decide +kernel) rfl
theorem zm_X9_262 : Cond.methodLink RX9 262 yX9_passesAll ∈ z_tbl := z_tat 1437 (by decide +kernel) rfl
theorem zm_X9_275 : Cond.methodLink RX9 275 yX9_passes ∈ z_tbl := z_tat 1441 (by decide +kernel) rfl
theorem zm_X9_279 : Cond.methodLink RX9 279 yX9_passOne ∈ z_tbl := z_tat 1445 (by decide +kernel) rfl
theorem zm_X9_266 : Cond.methodLink RX9 266 yX9_takesItem ∈ z_tbl := z_tat 1449 (by decide +kernel) rfl
theorem zm_X9_220 : Cond.methodLink RX9 220 yX9_letter ∈ z_tbl := z_tat 1453 (by decide +kernel) rfl
theorem zm_X9_246 : Cond.methodLink RX9 246 yX9_takesHouse ∈ z_tbl := z_tat 1457 (by decide +kernel) rfl
theorem zf_X9_233 : Cond.fieldLink RX9 233 "TwoHousesBehindModel" "HOUSE_WORD" "[I" ∈ z_tbl := z_tat 1461 (by decide +kernel) rfl
theorem zm_X9_236 : Cond.methodLink RX9 236 yX9_takesWord ∈ z_tbl := z_tat 1463 (by decide +kernel) rfl
theorem zm_X9_224 : Cond.methodLink RX9 224 yX9_takes ∈ z_tbl := z_tat 1467 (by decide +kernel) rfl
theorem zm_X9_240 : Cond.methodLink RX9 240 yX9_takesNumber ∈ z_tbl := z_tat 1471 (by decide +kernel) rfl
theorem zm_X9_250 : Cond.methodLink RX9 250 yX9_takesWay ∈ z_tbl := z_tat 1475 (by decide +kernel) rfl
theorem zf_X9_243 : Cond.fieldLink RX9 243 "TwoHousesBehindModel" "WAY_WORD" "[I" ∈ z_tbl := z_tat 1479 (by decide +kernel) rfl
theorem zf_X9_253 : Cond.fieldLink RX9 253 "TwoHousesBehindModel" "SHUT_WORD" "[I" ∈ z_tbl := z_tat 1481 (by decide +kernel) rfl
theorem zf_X9_256 : Cond.fieldLink RX9 256 "TwoHousesBehindModel" "LAG_WORD" "[I" ∈ z_tbl := z_tat 1483 (by decide +kernel) rfl
theorem zf_X9_259 : Cond.fieldLink RX9 259 "TwoHousesBehindModel" "BIRD_WORD" "[I" ∈ z_tbl := z_tat 1485 (by decide +kernel) rfl
theorem zm_L_90 : Cond.methodLink RL 90 yX9_fault ∈ z_tbl := z_tat 1487 (by decide +kernel) rfl
theorem zm_L_196 : Cond.methodLink RL 196 yX9_image ∈ z_tbl := z_tat 1491 (by decide +kernel) rfl
theorem zm_L_200 : Cond.methodLink RL 200 yX9_restore ∈ z_tbl := z_tat 1495 (by decide +kernel) rfl
theorem zm_L_94 : Cond.methodLink RL 94 yX9_put ∈ z_tbl := z_tat 1499 (by decide +kernel) rfl
theorem zm_X9_291 : Cond.methodLink RX9 291 yX9_reallyVisits ∈ z_tbl := z_tat 1503 (by decide +kernel) rfl
theorem zm_X9_154 : Cond.methodLink RX9 154 yX9_visits ∈ z_tbl := z_tat 1507 (by decide +kernel) rfl
theorem zm_X9_111 : Cond.methodLink RX9 111 yX9_speaksNext ∈ z_tbl := z_tat 1511 (by decide +kernel) rfl
theorem zm_L_98 : Cond.methodLink RL 98 yX9_go ∈ z_tbl := z_tat 1515 (by decide +kernel) rfl
theorem zm_X9_119 : Cond.methodLink RX9 119 yX9_isOpen ∈ z_tbl := z_tat 1519 (by decide +kernel) rfl
theorem zm_X9_294 : Cond.methodLink RX9 294 yX9_isOf ∈ z_tbl := z_tat 1523 (by decide +kernel) rfl
theorem zm_X9_297 : Cond.methodLink RX9 297 yX9_goesBy ∈ z_tbl := z_tat 1527 (by decide +kernel) rfl
theorem zm_L_102 : Cond.methodLink RL 102 yX9_where ∈ z_tbl := z_tat 1531 (by decide +kernel) rfl
theorem zm_L_106 : Cond.methodLink RL 106 yX9_next ∈ z_tbl := z_tat 1535 (by decide +kernel) rfl
theorem zm_L_110 : Cond.methodLink RL 110 yX9_behind ∈ z_tbl := z_tat 1539 (by decide +kernel) rfl
theorem zm_L_114 : Cond.methodLink RL 114 yX9_answer ∈ z_tbl := z_tat 1543 (by decide +kernel) rfl
theorem zm_L_118 : Cond.methodLink RL 118 yX9_between ∈ z_tbl := z_tat 1547 (by decide +kernel) rfl
theorem zm_X9_300 : Cond.methodLink RX9 300 yX9_noTen ∈ z_tbl := z_tat 1551 (by decide +kernel) rfl
theorem zm_X9_143 : Cond.methodLink RX9 143 yX9_betweenOf ∈ z_tbl := z_tat 1555 (by decide +kernel) rfl
theorem zm_L_172 : Cond.methodLink RL 172 yX9_wander ∈ z_tbl := z_tat 1559 (by decide +kernel) rfl
theorem zm_X9_147 : Cond.methodLink RX9 147 yX9_openAt ∈ z_tbl := z_tat 1563 (by decide +kernel) rfl
theorem zm_X9_304 : Cond.methodLink RX9 304 yX9_draw ∈ z_tbl := z_tat 1567 (by decide +kernel) rfl
theorem zc_X9_303 : Cond.constant RX9 303 (1103515245) ∈ z_tbl := z_tat 1571 (by decide +kernel) rfl
theorem zm_L_176 : Cond.methodLink RL 176 yX9_who ∈ z_tbl := z_tat 1572 (by decide +kernel) rfl
theorem zm_L_180 : Cond.methodLink RL 180 yX9_forget ∈ z_tbl := z_tat 1576 (by decide +kernel) rfl
theorem zm_X9_307 : Cond.methodLink RX9 307 yX9_bits ∈ z_tbl := z_tat 1580 (by decide +kernel) rfl
theorem zm_L_184 : Cond.methodLink RL 184 yX9_seed ∈ z_tbl := z_tat 1583 (by decide +kernel) rfl
theorem zm_L_122 : Cond.methodLink RL 122 yX9_judge ∈ z_tbl := z_tat 1587 (by decide +kernel) rfl
theorem zm_X9_310 : Cond.methodLink RX9 310 yX9_notRoute ∈ z_tbl := z_tat 1591 (by decide +kernel) rfl
theorem zm_X9_313 : Cond.methodLink RX9 313 yX9_goesRoute ∈ z_tbl := z_tat 1595 (by decide +kernel) rfl
theorem zm_X9_150 : Cond.methodLink RX9 150 yX9_copies ∈ z_tbl := z_tat 1599 (by decide +kernel) rfl
theorem zm_X9_139 : Cond.methodLink RX9 139 yX9_begins ∈ z_tbl := z_tat 1603 (by decide +kernel) rfl
theorem zm_L_126 : Cond.methodLink RL 126 yX9_minutes ∈ z_tbl := z_tat 1607 (by decide +kernel) rfl
theorem zm_L_130 : Cond.methodLink RL 130 yX9_hears ∈ z_tbl := z_tat 1611 (by decide +kernel) rfl
theorem zm_L_134 : Cond.methodLink RL 134 yX9_other ∈ z_tbl := z_tat 1615 (by decide +kernel) rfl
theorem zm_L_138 : Cond.methodLink RL 138 yX9_aim ∈ z_tbl := z_tat 1619 (by decide +kernel) rfl
theorem zm_X9_322 : Cond.methodLink RX9 322 yX9_beginsRoutes ∈ z_tbl := z_tat 1623 (by decide +kernel) rfl
theorem zm_X9_325 : Cond.methodLink RX9 325 yX9_hasNext ∈ z_tbl := z_tat 1627 (by decide +kernel) rfl
theorem zm_X9_158 : Cond.methodLink RX9 158 yX9_leadsTo ∈ z_tbl := z_tat 1631 (by decide +kernel) rfl
theorem zm_X9_161 : Cond.methodLink RX9 161 yX9_goesTo ∈ z_tbl := z_tat 1635 (by decide +kernel) rfl
theorem zc_X9_156 : Cond.constantLong RX9 156 (27720) ∈ z_tbl := z_tat 1639 (by decide +kernel) rfl
theorem zm_X9_328 : Cond.methodLink RX9 328 yX9_isBetter ∈ z_tbl := z_tat 1640 (by decide +kernel) rfl
theorem zm_X9_331 : Cond.methodLink RX9 331 yX9_takesBest ∈ z_tbl := z_tat 1644 (by decide +kernel) rfl
theorem zm_X9_334 : Cond.methodLink RX9 334 yX9_toldOf ∈ z_tbl := z_tat 1648 (by decide +kernel) rfl
theorem zm_L_143 : Cond.methodLink RL 143 yX9_round ∈ z_tbl := z_tat 1652 (by decide +kernel) rfl
theorem zm_X9_337 : Cond.methodLink RX9 337 yX9_doAllHear ∈ z_tbl := z_tat 1656 (by decide +kernel) rfl
theorem zm_L_147 : Cond.methodLink RL 147 yX9_fits ∈ z_tbl := z_tat 1660 (by decide +kernel) rfl
theorem zm_X9_346 : Cond.methodLink RX9 346 yX9_findFits ∈ z_tbl := z_tat 1664 (by decide +kernel) rfl
theorem zm_L_151 : Cond.methodLink RL 151 yX9_from ∈ z_tbl := z_tat 1668 (by decide +kernel) rfl
theorem zm_L_156 : Cond.methodLink RL 156 yX9_odds ∈ z_tbl := z_tat 1672 (by decide +kernel) rfl
theorem zm_L_160 : Cond.methodLink RL 160 yX9_shuts ∈ z_tbl := z_tat 1676 (by decide +kernel) rfl
theorem zm_X9_349 : Cond.methodLink RX9 349 yX9_doesShutTwice ∈ z_tbl := z_tat 1680 (by decide +kernel) rfl
theorem zm_X9_352 : Cond.methodLink RX9 352 yX9_canHear ∈ z_tbl := z_tat 1684 (by decide +kernel) rfl
theorem zm_L_164 : Cond.methodLink RL 164 yX9_reach ∈ z_tbl := z_tat 1688 (by decide +kernel) rfl
theorem zm_L_168 : Cond.methodLink RL 168 yX9_first ∈ z_tbl := z_tat 1692 (by decide +kernel) rfl
theorem zm_L_188 : Cond.methodLink RL 188 yX9_act ∈ z_tbl := z_tat 1696 (by decide +kernel) rfl
theorem zm_X9_361 : Cond.methodLink RX9 361 yX9_callsOf ∈ z_tbl := z_tat 1700 (by decide +kernel) rfl
theorem zm_X9_358 : Cond.methodLink RX9 358 yX9_note ∈ z_tbl := z_tat 1704 (by decide +kernel) rfl
theorem zm_X9_367 : Cond.methodLink RX9 367 yX9_hushesOf ∈ z_tbl := z_tat 1708 (by decide +kernel) rfl
theorem zm_X9_364 : Cond.methodLink RX9 364 yX9_plainHushes ∈ z_tbl := z_tat 1712 (by decide +kernel) rfl
theorem zm_X9_373 : Cond.methodLink RX9 373 yX9_opensOf ∈ z_tbl := z_tat 1716 (by decide +kernel) rfl
theorem zm_X9_370 : Cond.methodLink RX9 370 yX9_plainOpens ∈ z_tbl := z_tat 1720 (by decide +kernel) rfl
theorem zm_L_192 : Cond.methodLink RL 192 yX9_trace ∈ z_tbl := z_tat 1724 (by decide +kernel) rfl
theorem zm_L_204 : Cond.methodLink RL 204 yX9_status ∈ z_tbl := z_tat 1728 (by decide +kernel) rfl
theorem zc_L_18 : Cond.constantLong RL 18 (4294967295) ∈ z_tbl := z_tat 1732 (by decide +kernel) rfl
theorem zf_J0_9 : Cond.fieldLink RJ0 9 "java/lang/String" "value" "[B" ∈ z_tbl := z_tat 1733 (by decide +kernel) rfl
theorem zf_J0_15 : Cond.fieldLink RJ0 15 "java/lang/String" "coder" "B" ∈ z_tbl := z_tat 1734 (by decide +kernel) rfl
theorem zw_X0_init : z_MW yX0_init cX0_init 1 none := ⟨z_tat 94 (by decide +kernel) rfl, z_tat 190 (by decide +kernel) rfl, by decide +kernel, by decide +kernel⟩
theorem zw_X0_howManyRan : z_MW yX0_howManyRan cX0_howManyRan 1 (some .int) := ⟨z_tat 94 (by decide +kernel) rfl, z_tat 1145 (by decide +kernel) rfl, by decide +kernel, by decide +kernel⟩
theorem zv_X0_howManyRan : z_MV yX0_howManyRan := ⟨z_tat 1143 (by decide +kernel) rfl, z_tat 1144 (by decide +kernel) rfl⟩
theorem zw_X0_bodyAt : z_MW yX0_bodyAt cX0_bodyAt 2 (some .int) := ⟨z_tat 94 (by decide +kernel) rfl, z_tat 1123 (by decide +kernel) rfl, by decide +kernel, by decide +kernel⟩
theorem zv_X0_bodyAt : z_MV yX0_bodyAt := ⟨z_tat 1121 (by decide +kernel) rfl, z_tat 1122 (by decide +kernel) rfl⟩
theorem zw_X0_clearTrace : z_MW yX0_clearTrace cX0_clearTrace 1 none := ⟨z_tat 94 (by decide +kernel) rfl, z_tat 1094 (by decide +kernel) rfl, by decide +kernel, by decide +kernel⟩
theorem zv_X0_clearTrace : z_MV yX0_clearTrace := ⟨z_tat 1092 (by decide +kernel) rfl, z_tat 1093 (by decide +kernel) rfl⟩
theorem zw_X0_perform : z_MW yX0_perform cX0_perform 6 (some .int) := ⟨z_tat 94 (by decide +kernel) rfl, z_tat 1098 (by decide +kernel) rfl, by decide +kernel, by decide +kernel⟩
theorem zv_X0_perform : z_MV yX0_perform := ⟨z_tat 1096 (by decide +kernel) rfl, z_tat 1097 (by decide +kernel) rfl⟩
theorem zw_X0_begin : z_MW yX0_begin cX0_begin 2 none := ⟨z_tat 94 (by decide +kernel) rfl, z_tat 1106 (by decide +kernel) rfl, by decide +kernel, by decide +kernel⟩
theorem zv_X0_begin : z_MV yX0_begin := ⟨z_tat 1105 (by decide +kernel) rfl, z_tat 34 (by decide +kernel) rfl⟩
theorem zw_X0_calls : z_MW yX0_calls cX0_calls 3 (some .int) := ⟨z_tat 94 (by decide +kernel) rfl, z_tat 1102 (by decide +kernel) rfl, by decide +kernel, by decide +kernel⟩
theorem zv_X0_calls : z_MV yX0_calls := ⟨z_tat 1101 (by decide +kernel) rfl, z_tat 33 (by decide +kernel) rfl⟩
theorem zw_X0_hushes : z_MW yX0_hushes cX0_hushes 3 (some .int) := ⟨z_tat 94 (by decide +kernel) rfl, z_tat 1111 (by decide +kernel) rfl, by decide +kernel, by decide +kernel⟩
theorem zv_X0_hushes : z_MV yX0_hushes := ⟨z_tat 1110 (by decide +kernel) rfl, z_tat 35 (by decide +kernel) rfl⟩
theorem zw_X0_opens : z_MW yX0_opens cX0_opens 4 (some .int) := ⟨z_tat 94 (by decide +kernel) rfl, z_tat 1115 (by decide +kernel) rfl, by decide +kernel, by decide +kernel⟩
theorem zv_X0_opens : z_MV yX0_opens := ⟨z_tat 1114 (by decide +kernel) rfl, z_tat 36 (by decide +kernel) rfl⟩
theorem zw_X1_init : z_MW yX1_init cX1_init 2 none := ⟨z_tat 92 (by decide +kernel) rfl, z_tat 125 (by decide +kernel) rfl, by decide +kernel, by decide +kernel⟩
theorem zw_X1_get : z_MW yX1_get cX1_get 2 (some .int) := ⟨z_tat 92 (by decide +kernel) rfl, z_tat 348 (by decide +kernel) rfl, by decide +kernel, by decide +kernel⟩
theorem zv_X1_get : z_MV yX1_get := ⟨z_tat 346 (by decide +kernel) rfl, z_tat 347 (by decide +kernel) rfl⟩
theorem zw_X1_keep : z_MW yX1_keep cX1_keep 3 none := ⟨z_tat 92 (by decide +kernel) rfl, z_tat 174 (by decide +kernel) rfl, by decide +kernel, by decide +kernel⟩
theorem zv_X1_keep : z_MV yX1_keep := ⟨z_tat 172 (by decide +kernel) rfl, z_tat 173 (by decide +kernel) rfl⟩
theorem zw_X1_becomeAs : z_MW yX1_becomeAs cX1_becomeAs 3 none := ⟨z_tat 92 (by decide +kernel) rfl, z_tat 589 (by decide +kernel) rfl, by decide +kernel, by decide +kernel⟩
theorem zv_X1_becomeAs : z_MV yX1_becomeAs := ⟨z_tat 587 (by decide +kernel) rfl, z_tat 588 (by decide +kernel) rfl⟩
theorem zw_X1_clear : z_MW yX1_clear cX1_clear 2 none := ⟨z_tat 92 (by decide +kernel) rfl, z_tat 560 (by decide +kernel) rfl, by decide +kernel, by decide +kernel⟩
theorem zv_X1_clear : z_MV yX1_clear := ⟨z_tat 558 (by decide +kernel) rfl, z_tat 559 (by decide +kernel) rfl⟩
theorem zw_X2_isKind : z_MW yX2_isKind cX2_isKind 1 (some .boolean) := ⟨z_tat 100 (by decide +kernel) rfl, z_tat 442 (by decide +kernel) rfl, by decide +kernel, by decide +kernel⟩
theorem zs_X2_isKind : Cond.static yX2_isKind ∈ z_tbl := z_tat 441 (by decide +kernel) rfl
theorem zw_X2_above : z_MW yX2_above cX2_above 1 (some .int) := ⟨z_tat 100 (by decide +kernel) rfl, z_tat 457 (by decide +kernel) rfl, by decide +kernel, by decide +kernel⟩
theorem zs_X2_above : Cond.static yX2_above ∈ z_tbl := z_tat 456 (by decide +kernel) rfl
theorem zw_X2_isUnder : z_MW yX2_isUnder cX2_isUnder 2 (some .boolean) := ⟨z_tat 100 (by decide +kernel) rfl, z_tat 454 (by decide +kernel) rfl, by decide +kernel, by decide +kernel⟩
theorem zs_X2_isUnder : Cond.static yX2_isUnder ∈ z_tbl := z_tat 453 (by decide +kernel) rfl
theorem zw_X3_init : z_MW yX3_init cX3_init 3 none := ⟨z_tat 97 (by decide +kernel) rfl, z_tat 277 (by decide +kernel) rfl, by decide +kernel, by decide +kernel⟩
theorem zw_X3_faultFound : z_MW yX3_faultFound cX3_faultFound 1 (some .int) := ⟨z_tat 97 (by decide +kernel) rfl, z_tat 720 (by decide +kernel) rfl, by decide +kernel, by decide +kernel⟩
theorem zv_X3_faultFound : z_MV yX3_faultFound := ⟨z_tat 718 (by decide +kernel) rfl, z_tat 719 (by decide +kernel) rfl⟩
theorem zw_X3_readItems : z_MW yX3_readItems cX3_readItems 5 (some .int) := ⟨z_tat 97 (by decide +kernel) rfl, z_tat 594 (by decide +kernel) rfl, by decide +kernel, by decide +kernel⟩
theorem zv_X3_readItems : z_MV yX3_readItems := ⟨z_tat 592 (by decide +kernel) rfl, z_tat 593 (by decide +kernel) rfl⟩
theorem zw_X3_fail : z_MW yX3_fail cX3_fail 2 none := ⟨z_tat 97 (by decide +kernel) rfl, z_tat 619 (by decide +kernel) rfl, by decide +kernel, by decide +kernel⟩
theorem zv_X3_fail : z_MV yX3_fail := ⟨z_tat 618 (by decide +kernel) rfl, z_tat 8 (by decide +kernel) rfl⟩
theorem zw_X3_readLetter : z_MW yX3_readLetter cX3_readLetter 2 none := ⟨z_tat 97 (by decide +kernel) rfl, z_tat 671 (by decide +kernel) rfl, by decide +kernel, by decide +kernel⟩
theorem zv_X3_readLetter : z_MV yX3_readLetter := ⟨z_tat 670 (by decide +kernel) rfl, z_tat 9 (by decide +kernel) rfl⟩
theorem zw_X3_readWord : z_MW yX3_readWord cX3_readWord 4 none := ⟨z_tat 97 (by decide +kernel) rfl, z_tat 615 (by decide +kernel) rfl, by decide +kernel, by decide +kernel⟩
theorem zv_X3_readWord : z_MV yX3_readWord := ⟨z_tat 614 (by decide +kernel) rfl, z_tat 7 (by decide +kernel) rfl⟩
theorem zw_X3_isDigit : z_MW yX3_isDigit cX3_isDigit 1 (some .boolean) := ⟨z_tat 97 (by decide +kernel) rfl, z_tat 679 (by decide +kernel) rfl, by decide +kernel, by decide +kernel⟩
theorem zv_X3_isDigit : z_MV yX3_isDigit := ⟨z_tat 678 (by decide +kernel) rfl, z_tat 11 (by decide +kernel) rfl⟩
theorem zw_X3_readNumber : z_MW yX3_readNumber cX3_readNumber 7 (some .int) := ⟨z_tat 97 (by decide +kernel) rfl, z_tat 675 (by decide +kernel) rfl, by decide +kernel, by decide +kernel⟩
theorem zv_X3_readNumber : z_MV yX3_readNumber := ⟨z_tat 674 (by decide +kernel) rfl, z_tat 10 (by decide +kernel) rfl⟩
theorem zw_X3_readItem : z_MW yX3_readItem cX3_readItem 1 none := ⟨z_tat 97 (by decide +kernel) rfl, z_tat 604 (by decide +kernel) rfl, by decide +kernel, by decide +kernel⟩
theorem zv_X3_readItem : z_MV yX3_readItem := ⟨z_tat 603 (by decide +kernel) rfl, z_tat 5 (by decide +kernel) rfl⟩
theorem zw_X3_readHouse : z_MW yX3_readHouse cX3_readHouse 4 none := ⟨z_tat 97 (by decide +kernel) rfl, z_tat 609 (by decide +kernel) rfl, by decide +kernel, by decide +kernel⟩
theorem zv_X3_readHouse : z_MV yX3_readHouse := ⟨z_tat 608 (by decide +kernel) rfl, z_tat 6 (by decide +kernel) rfl⟩
theorem zw_X3_readWay : z_MW yX3_readWay cX3_readWay 4 none := ⟨z_tat 97 (by decide +kernel) rfl, z_tat 684 (by decide +kernel) rfl, by decide +kernel, by decide +kernel⟩
theorem zv_X3_readWay : z_MV yX3_readWay := ⟨z_tat 683 (by decide +kernel) rfl, z_tat 12 (by decide +kernel) rfl⟩
theorem zw_X3_readShut : z_MW yX3_readShut cX3_readShut 2 none := ⟨z_tat 97 (by decide +kernel) rfl, z_tat 695 (by decide +kernel) rfl, by decide +kernel, by decide +kernel⟩
theorem zv_X3_readShut : z_MV yX3_readShut := ⟨z_tat 694 (by decide +kernel) rfl, z_tat 13 (by decide +kernel) rfl⟩
theorem zw_X3_readLag : z_MW yX3_readLag cX3_readLag 2 none := ⟨z_tat 97 (by decide +kernel) rfl, z_tat 705 (by decide +kernel) rfl, by decide +kernel, by decide +kernel⟩
theorem zv_X3_readLag : z_MV yX3_readLag := ⟨z_tat 704 (by decide +kernel) rfl, z_tat 14 (by decide +kernel) rfl⟩
theorem zw_X3_readBird : z_MW yX3_readBird cX3_readBird 2 none := ⟨z_tat 97 (by decide +kernel) rfl, z_tat 711 (by decide +kernel) rfl, by decide +kernel, by decide +kernel⟩
theorem zv_X3_readBird : z_MV yX3_readBird := ⟨z_tat 710 (by decide +kernel) rfl, z_tat 15 (by decide +kernel) rfl⟩
theorem zw_X4_init : z_MW yX4_init cX4_init 3 none := ⟨z_tat 96 (by decide +kernel) rfl, z_tat 247 (by decide +kernel) rfl, by decide +kernel, by decide +kernel⟩
theorem zw_X4_countFound : z_MW yX4_countFound cX4_countFound 1 (some .int) := ⟨z_tat 96 (by decide +kernel) rfl, z_tat 966 (by decide +kernel) rfl, by decide +kernel, by decide +kernel⟩
theorem zv_X4_countFound : z_MV yX4_countFound := ⟨z_tat 964 (by decide +kernel) rfl, z_tat 965 (by decide +kernel) rfl⟩
theorem zw_X4_endsFound : z_MW yX4_endsFound cX4_endsFound 1 (some .int) := ⟨z_tat 96 (by decide +kernel) rfl, z_tat 974 (by decide +kernel) rfl, by decide +kernel, by decide +kernel⟩
theorem zv_X4_endsFound : z_MV yX4_endsFound := ⟨z_tat 972 (by decide +kernel) rfl, z_tat 973 (by decide +kernel) rfl⟩
theorem zw_X4_houseFound : z_MW yX4_houseFound cX4_houseFound 2 (some .int) := ⟨z_tat 96 (by decide +kernel) rfl, z_tat 978 (by decide +kernel) rfl, by decide +kernel, by decide +kernel⟩
theorem zv_X4_houseFound : z_MV yX4_houseFound := ⟨z_tat 976 (by decide +kernel) rfl, z_tat 977 (by decide +kernel) rfl⟩
theorem zw_X4_keepRoute : z_MW yX4_keepRoute cX4_keepRoute 2 none := ⟨z_tat 96 (by decide +kernel) rfl, z_tat 925 (by decide +kernel) rfl, by decide +kernel, by decide +kernel⟩
theorem zv_X4_keepRoute : z_MV yX4_keepRoute := ⟨z_tat 924 (by decide +kernel) rfl, z_tat 27 (by decide +kernel) rfl⟩
theorem zw_X4_hearsAll : z_MW yX4_hearsAll cX4_hearsAll 3 (some .boolean) := ⟨z_tat 96 (by decide +kernel) rfl, z_tat 916 (by decide +kernel) rfl, by decide +kernel, by decide +kernel⟩
theorem zv_X4_hearsAll : z_MV yX4_hearsAll := ⟨z_tat 915 (by decide +kernel) rfl, z_tat 25 (by decide +kernel) rfl⟩
theorem zw_X4_hearsAny : z_MW yX4_hearsAny cX4_hearsAny 3 (some .boolean) := ⟨z_tat 96 (by decide +kernel) rfl, z_tat 921 (by decide +kernel) rfl, by decide +kernel, by decide +kernel⟩
theorem zv_X4_hearsAny : z_MV yX4_hearsAny := ⟨z_tat 920 (by decide +kernel) rfl, z_tat 26 (by decide +kernel) rfl⟩
theorem zw_X4_isHeardBy : z_MW yX4_isHeardBy cX4_isHeardBy 5 (some .boolean) := ⟨z_tat 96 (by decide +kernel) rfl, z_tat 912 (by decide +kernel) rfl, by decide +kernel, by decide +kernel⟩
theorem zv_X4_isHeardBy : z_MV yX4_isHeardBy := ⟨z_tat 911 (by decide +kernel) rfl, z_tat 24 (by decide +kernel) rfl⟩
theorem zw_X4_isQuicker : z_MW yX4_isQuicker cX4_isQuicker 2 (some .boolean) := ⟨z_tat 96 (by decide +kernel) rfl, z_tat 903 (by decide +kernel) rfl, by decide +kernel, by decide +kernel⟩
theorem zv_X4_isQuicker : z_MV yX4_isQuicker := ⟨z_tat 902 (by decide +kernel) rfl, z_tat 23 (by decide +kernel) rfl⟩
theorem zw_X4_quickest : z_MW yX4_quickest cX4_quickest 9 (some (.object "TwoHousesBehind$Search")) := ⟨z_tat 96 (by decide +kernel) rfl, z_tat 895 (by decide +kernel) rfl, by decide +kernel, by decide +kernel⟩
theorem zv_X4_quickest : z_MV yX4_quickest := ⟨z_tat 893 (by decide +kernel) rfl, z_tat 894 (by decide +kernel) rfl⟩
theorem zw_X4_told : z_MW yX4_told cX4_told 2 (some .int) := ⟨z_tat 96 (by decide +kernel) rfl, z_tat 939 (by decide +kernel) rfl, by decide +kernel, by decide +kernel⟩
theorem zv_X4_told : z_MV yX4_told := ⟨z_tat 937 (by decide +kernel) rfl, z_tat 938 (by decide +kernel) rfl⟩
theorem zw_X4_speaksAs : z_MW yX4_speaksAs cX4_speaksAs 5 (some .boolean) := ⟨z_tat 96 (by decide +kernel) rfl, z_tat 960 (by decide +kernel) rfl, by decide +kernel, by decide +kernel⟩
theorem zv_X4_speaksAs : z_MV yX4_speaksAs := ⟨z_tat 959 (by decide +kernel) rfl, z_tat 28 (by decide +kernel) rfl⟩
theorem zw_X4_fit : z_MW yX4_fit cX4_fit 6 none := ⟨z_tat 96 (by decide +kernel) rfl, z_tat 956 (by decide +kernel) rfl, by decide +kernel, by decide +kernel⟩
theorem zv_X4_fit : z_MV yX4_fit := ⟨z_tat 954 (by decide +kernel) rfl, z_tat 955 (by decide +kernel) rfl⟩
theorem zw_X4_oddsToHear : z_MW yX4_oddsToHear cX4_oddsToHear 9 (some .long) := ⟨z_tat 96 (by decide +kernel) rfl, z_tat 990 (by decide +kernel) rfl, by decide +kernel, by decide +kernel⟩
theorem zv_X4_oddsToHear : z_MV yX4_oddsToHear := ⟨z_tat 988 (by decide +kernel) rfl, z_tat 989 (by decide +kernel) rfl⟩
theorem zw_X4_oddsOfWalk : z_MW yX4_oddsOfWalk cX4_oddsOfWalk 7 (some .long) := ⟨z_tat 96 (by decide +kernel) rfl, z_tat 998 (by decide +kernel) rfl, by decide +kernel, by decide +kernel⟩
theorem zv_X4_oddsOfWalk : z_MV yX4_oddsOfWalk := ⟨z_tat 997 (by decide +kernel) rfl, z_tat 30 (by decide +kernel) rfl⟩
theorem zw_X4_isSilentWithout : z_MW yX4_isSilentWithout cX4_isSilentWithout 7 (some .boolean) := ⟨z_tat 96 (by decide +kernel) rfl, z_tat 1026 (by decide +kernel) rfl, by decide +kernel, by decide +kernel⟩
theorem zv_X4_isSilentWithout : z_MV yX4_isSilentWithout := ⟨z_tat 1025 (by decide +kernel) rfl, z_tat 31 (by decide +kernel) rfl⟩
theorem zw_X4_fewestToShut : z_MW yX4_fewestToShut cX4_fewestToShut 8 (some .int) := ⟨z_tat 96 (by decide +kernel) rfl, z_tat 1011 (by decide +kernel) rfl, by decide +kernel, by decide +kernel⟩
theorem zv_X4_fewestToShut : z_MV yX4_fewestToShut := ⟨z_tat 1009 (by decide +kernel) rfl, z_tat 1010 (by decide +kernel) rfl⟩
theorem zw_X4_wordsInReach : z_MW yX4_wordsInReach cX4_wordsInReach 6 (some .int) := ⟨z_tat 96 (by decide +kernel) rfl, z_tat 1035 (by decide +kernel) rfl, by decide +kernel, by decide +kernel⟩
theorem zv_X4_wordsInReach : z_MV yX4_wordsInReach := ⟨z_tat 1033 (by decide +kernel) rfl, z_tat 1034 (by decide +kernel) rfl⟩
theorem zw_X4_fewestVisits : z_MW yX4_fewestVisits cX4_fewestVisits 7 (some .int) := ⟨z_tat 96 (by decide +kernel) rfl, z_tat 1043 (by decide +kernel) rfl, by decide +kernel, by decide +kernel⟩
theorem zv_X4_fewestVisits : z_MV yX4_fewestVisits := ⟨z_tat 1041 (by decide +kernel) rfl, z_tat 1042 (by decide +kernel) rfl⟩
theorem zw_X5_init : z_MW yX5_init cX5_init 2 none := ⟨z_tat 93 (by decide +kernel) rfl, z_tat 167 (by decide +kernel) rfl, by decide +kernel, by decide +kernel⟩
theorem zw_X5_isShelf : z_MW yX5_isShelf cX5_isShelf 2 (some .boolean) := ⟨z_tat 93 (by decide +kernel) rfl, z_tat 340 (by decide +kernel) rfl, by decide +kernel, by decide +kernel⟩
theorem zv_X5_isShelf : z_MV yX5_isShelf := ⟨z_tat 338 (by decide +kernel) rfl, z_tat 339 (by decide +kernel) rfl⟩
theorem zw_X5_isSort : z_MW yX5_isSort cX5_isSort 2 (some .boolean) := ⟨z_tat 93 (by decide +kernel) rfl, z_tat 353 (by decide +kernel) rfl, by decide +kernel, by decide +kernel⟩
theorem zv_X5_isSort : z_MV yX5_isSort := ⟨z_tat 351 (by decide +kernel) rfl, z_tat 352 (by decide +kernel) rfl⟩
theorem zw_X5_holding : z_MW yX5_holding cX5_holding 2 (some .int) := ⟨z_tat 93 (by decide +kernel) rfl, z_tat 435 (by decide +kernel) rfl, by decide +kernel, by decide +kernel⟩
theorem zv_X5_holding : z_MV yX5_holding := ⟨z_tat 433 (by decide +kernel) rfl, z_tat 434 (by decide +kernel) rfl⟩
theorem zw_X5_isRow : z_MW yX5_isRow cX5_isRow 1 (some .boolean) := ⟨z_tat 93 (by decide +kernel) rfl, z_tat 388 (by decide +kernel) rfl, by decide +kernel, by decide +kernel⟩
theorem zs_X5_isRow : Cond.static yX5_isRow ∈ z_tbl := z_tat 387 (by decide +kernel) rfl
theorem zw_X5_isHouse : z_MW yX5_isHouse cX5_isHouse 1 (some .boolean) := ⟨z_tat 93 (by decide +kernel) rfl, z_tat 385 (by decide +kernel) rfl, by decide +kernel, by decide +kernel⟩
theorem zs_X5_isHouse : Cond.static yX5_isHouse ∈ z_tbl := z_tat 384 (by decide +kernel) rfl
theorem zw_X5_size : z_MW yX5_size cX5_size 2 (some .int) := ⟨z_tat 93 (by decide +kernel) rfl, z_tat 598 (by decide +kernel) rfl, by decide +kernel, by decide +kernel⟩
theorem zv_X5_size : z_MV yX5_size := ⟨z_tat 596 (by decide +kernel) rfl, z_tat 597 (by decide +kernel) rfl⟩
theorem zw_X5_troubleWithRow : z_MW yX5_troubleWithRow cX5_troubleWithRow 2 (some .int) := ⟨z_tat 93 (by decide +kernel) rfl, z_tat 377 (by decide +kernel) rfl, by decide +kernel, by decide +kernel⟩
theorem zv_X5_troubleWithRow : z_MV yX5_troubleWithRow := ⟨z_tat 375 (by decide +kernel) rfl, z_tat 376 (by decide +kernel) rfl⟩
theorem zw_X5_troubleWithTwoRows : z_MW yX5_troubleWithTwoRows cX5_troubleWithTwoRows 5 (some .int) := ⟨z_tat 93 (by decide +kernel) rfl, z_tat 381 (by decide +kernel) rfl, by decide +kernel, by decide +kernel⟩
theorem zv_X5_troubleWithTwoRows : z_MV yX5_troubleWithTwoRows := ⟨z_tat 379 (by decide +kernel) rfl, z_tat 380 (by decide +kernel) rfl⟩
theorem zw_X5_troubleWithHouse : z_MW yX5_troubleWithHouse cX5_troubleWithHouse 3 (some .int) := ⟨z_tat 93 (by decide +kernel) rfl, z_tat 446 (by decide +kernel) rfl, by decide +kernel, by decide +kernel⟩
theorem zv_X5_troubleWithHouse : z_MV yX5_troubleWithHouse := ⟨z_tat 444 (by decide +kernel) rfl, z_tat 445 (by decide +kernel) rfl⟩
theorem zw_X5_troubleWithStart : z_MW yX5_troubleWithStart cX5_troubleWithStart 4 (some .int) := ⟨z_tat 93 (by decide +kernel) rfl, z_tat 833 (by decide +kernel) rfl, by decide +kernel, by decide +kernel⟩
theorem zv_X5_troubleWithStart : z_MV yX5_troubleWithStart := ⟨z_tat 831 (by decide +kernel) rfl, z_tat 832 (by decide +kernel) rfl⟩
theorem zw_X5_hasElement : z_MW yX5_hasElement cX5_hasElement 3 (some .boolean) := ⟨z_tat 93 (by decide +kernel) rfl, z_tat 365 (by decide +kernel) rfl, by decide +kernel, by decide +kernel⟩
theorem zv_X5_hasElement : z_MV yX5_hasElement := ⟨z_tat 363 (by decide +kernel) rfl, z_tat 364 (by decide +kernel) rfl⟩
theorem zw_X5_hasElements : z_MW yX5_hasElements cX5_hasElements 5 (some .boolean) := ⟨z_tat 93 (by decide +kernel) rfl, z_tat 399 (by decide +kernel) rfl, by decide +kernel, by decide +kernel⟩
theorem zv_X5_hasElements : z_MV yX5_hasElements := ⟨z_tat 397 (by decide +kernel) rfl, z_tat 398 (by decide +kernel) rfl⟩
theorem zw_X5_holdRow : z_MW yX5_holdRow cX5_holdRow 5 none := ⟨z_tat 93 (by decide +kernel) rfl, z_tat 357 (by decide +kernel) rfl, by decide +kernel, by decide +kernel⟩
theorem zv_X5_holdRow : z_MV yX5_holdRow := ⟨z_tat 355 (by decide +kernel) rfl, z_tat 356 (by decide +kernel) rfl⟩
theorem zw_X5_holdHouse : z_MW yX5_holdHouse cX5_holdHouse 3 none := ⟨z_tat 93 (by decide +kernel) rfl, z_tat 427 (by decide +kernel) rfl, by decide +kernel, by decide +kernel⟩
theorem zv_X5_holdHouse : z_MV yX5_holdHouse := ⟨z_tat 425 (by decide +kernel) rfl, z_tat 426 (by decide +kernel) rfl⟩
theorem zw_X5_dropHousesFrom : z_MW yX5_dropHousesFrom cX5_dropHousesFrom 3 none := ⟨z_tat 93 (by decide +kernel) rfl, z_tat 1137 (by decide +kernel) rfl, by decide +kernel, by decide +kernel⟩
theorem zv_X5_dropHousesFrom : z_MV yX5_dropHousesFrom := ⟨z_tat 1135 (by decide +kernel) rfl, z_tat 1136 (by decide +kernel) rfl⟩
theorem zw_X5_elementAt : z_MW yX5_elementAt cX5_elementAt 5 (some .long) := ⟨z_tat 93 (by decide +kernel) rfl, z_tat 415 (by decide +kernel) rfl, by decide +kernel, by decide +kernel⟩
theorem zv_X5_elementAt : z_MV yX5_elementAt := ⟨z_tat 413 (by decide +kernel) rfl, z_tat 414 (by decide +kernel) rfl⟩
theorem zw_X5_intAt : z_MW yX5_intAt cX5_intAt 3 (some .int) := ⟨z_tat 93 (by decide +kernel) rfl, z_tat 521 (by decide +kernel) rfl, by decide +kernel, by decide +kernel⟩
theorem zv_X5_intAt : z_MV yX5_intAt := ⟨z_tat 519 (by decide +kernel) rfl, z_tat 520 (by decide +kernel) rfl⟩
theorem zw_X5_keepElement : z_MW yX5_keepElement cX5_keepElement 6 none := ⟨z_tat 93 (by decide +kernel) rfl, z_tat 361 (by decide +kernel) rfl, by decide +kernel, by decide +kernel⟩
theorem zv_X5_keepElement : z_MV yX5_keepElement := ⟨z_tat 359 (by decide +kernel) rfl, z_tat 360 (by decide +kernel) rfl⟩
theorem zw_X5_lowestBits : z_MW yX5_lowestBits cX5_lowestBits 3 (some .long) := ⟨z_tat 93 (by decide +kernel) rfl, z_tat 369 (by decide +kernel) rfl, by decide +kernel, by decide +kernel⟩
theorem zs_X5_lowestBits : Cond.static yX5_lowestBits ∈ z_tbl := z_tat 368 (by decide +kernel) rfl
theorem zw_X5_moveElements : z_MW yX5_moveElements cX5_moveElements 9 none := ⟨z_tat 93 (by decide +kernel) rfl, z_tat 403 (by decide +kernel) rfl, by decide +kernel, by decide +kernel⟩
theorem zv_X5_moveElements : z_MV yX5_moveElements := ⟨z_tat 401 (by decide +kernel) rfl, z_tat 402 (by decide +kernel) rfl⟩
theorem zw_X6_init : z_MW yX6_init cX6_init 1 none := ⟨z_tat 91 (by decide +kernel) rfl, z_tat 119 (by decide +kernel) rfl, by decide +kernel, by decide +kernel⟩
theorem zw_X6_becomeAs : z_MW yX6_becomeAs cX6_becomeAs 2 none := ⟨z_tat 91 (by decide +kernel) rfl, z_tat 585 (by decide +kernel) rfl, by decide +kernel, by decide +kernel⟩
theorem zv_X6_becomeAs : z_MV yX6_becomeAs := ⟨z_tat 583 (by decide +kernel) rfl, z_tat 584 (by decide +kernel) rfl⟩
theorem zw_X6_isHouse : z_MW yX6_isHouse cX6_isHouse 2 (some .boolean) := ⟨z_tat 91 (by decide +kernel) rfl, z_tat 423 (by decide +kernel) rfl, by decide +kernel, by decide +kernel⟩
theorem zv_X6_isHouse : z_MV yX6_isHouse := ⟨z_tat 421 (by decide +kernel) rfl, z_tat 422 (by decide +kernel) rfl⟩
theorem zw_X6_isSetOfHouses : z_MW yX6_isSetOfHouses cX6_isSetOfHouses 2 (some .boolean) := ⟨z_tat 91 (by decide +kernel) rfl, z_tat 948 (by decide +kernel) rfl, by decide +kernel, by decide +kernel⟩
theorem zv_X6_isSetOfHouses : z_MV yX6_isSetOfHouses := ⟨z_tat 946 (by decide +kernel) rfl, z_tat 947 (by decide +kernel) rfl⟩
theorem zw_X6_isWay : z_MW yX6_isWay cX6_isWay 2 (some .boolean) := ⟨z_tat 91 (by decide +kernel) rfl, z_tat 530 (by decide +kernel) rfl, by decide +kernel, by decide +kernel⟩
theorem zv_X6_isWay : z_MV yX6_isWay := ⟨z_tat 528 (by decide +kernel) rfl, z_tat 529 (by decide +kernel) rfl⟩
theorem zw_X6_hasRoomForHouse : z_MW yX6_hasRoomForHouse cX6_hasRoomForHouse 1 (some .boolean) := ⟨z_tat 91 (by decide +kernel) rfl, z_tat 480 (by decide +kernel) rfl, by decide +kernel, by decide +kernel⟩
theorem zv_X6_hasRoomForHouse : z_MV yX6_hasRoomForHouse := ⟨z_tat 478 (by decide +kernel) rfl, z_tat 479 (by decide +kernel) rfl⟩
theorem zw_X6_hasRoomForWay : z_MW yX6_hasRoomForWay cX6_hasRoomForWay 1 (some .boolean) := ⟨z_tat 91 (by decide +kernel) rfl, z_tat 501 (by decide +kernel) rfl, by decide +kernel, by decide +kernel⟩
theorem zv_X6_hasRoomForWay : z_MV yX6_hasRoomForWay := ⟨z_tat 499 (by decide +kernel) rfl, z_tat 500 (by decide +kernel) rfl⟩
theorem zw_X6_hasBird : z_MW yX6_hasBird cX6_hasBird 1 (some .boolean) := ⟨z_tat 91 (by decide +kernel) rfl, z_tat 749 (by decide +kernel) rfl, by decide +kernel, by decide +kernel⟩
theorem zv_X6_hasBird : z_MV yX6_hasBird := ⟨z_tat 747 (by decide +kernel) rfl, z_tat 748 (by decide +kernel) rfl⟩
theorem zw_X6_houseCount : z_MW yX6_houseCount cX6_houseCount 1 (some .int) := ⟨z_tat 91 (by decide +kernel) rfl, z_tat 690 (by decide +kernel) rfl, by decide +kernel, by decide +kernel⟩
theorem zv_X6_houseCount : z_MV yX6_houseCount := ⟨z_tat 688 (by decide +kernel) rfl, z_tat 689 (by decide +kernel) rfl⟩
theorem zw_X6_wayCount : z_MW yX6_wayCount cX6_wayCount 1 (some .int) := ⟨z_tat 91 (by decide +kernel) rfl, z_tat 700 (by decide +kernel) rfl, by decide +kernel, by decide +kernel⟩
theorem zv_X6_wayCount : z_MV yX6_wayCount := ⟨z_tat 698 (by decide +kernel) rfl, z_tat 699 (by decide +kernel) rfl⟩
theorem zw_X6_lagNow : z_MW yX6_lagNow cX6_lagNow 1 (some .int) := ⟨z_tat 91 (by decide +kernel) rfl, z_tat 552 (by decide +kernel) rfl, by decide +kernel, by decide +kernel⟩
theorem zv_X6_lagNow : z_MV yX6_lagNow := ⟨z_tat 550 (by decide +kernel) rfl, z_tat 551 (by decide +kernel) rfl⟩
theorem zw_X6_birdAt : z_MW yX6_birdAt cX6_birdAt 1 (some .int) := ⟨z_tat 91 (by decide +kernel) rfl, z_tat 767 (by decide +kernel) rfl, by decide +kernel, by decide +kernel⟩
theorem zv_X6_birdAt : z_MV yX6_birdAt := ⟨z_tat 765 (by decide +kernel) rfl, z_tat 766 (by decide +kernel) rfl⟩
theorem zw_X6_seedNow : z_MW yX6_seedNow cX6_seedNow 1 (some .int) := ⟨z_tat 91 (by decide +kernel) rfl, z_tat 1082 (by decide +kernel) rfl, by decide +kernel, by decide +kernel⟩
theorem zv_X6_seedNow : z_MV yX6_seedNow := ⟨z_tat 1080 (by decide +kernel) rfl, z_tat 1081 (by decide +kernel) rfl⟩
theorem zw_X6_changeSeed : z_MW yX6_changeSeed cX6_changeSeed 2 none := ⟨z_tat 91 (by decide +kernel) rfl, z_tat 1086 (by decide +kernel) rfl, by decide +kernel, by decide +kernel⟩
theorem zv_X6_changeSeed : z_MV yX6_changeSeed := ⟨z_tat 1084 (by decide +kernel) rfl, z_tat 1085 (by decide +kernel) rfl⟩
theorem zw_X6_ofHouse : z_MW yX6_ofHouse cX6_ofHouse 3 (some .int) := ⟨z_tat 91 (by decide +kernel) rfl, z_tat 450 (by decide +kernel) rfl, by decide +kernel, by decide +kernel⟩
theorem zv_X6_ofHouse : z_MV yX6_ofHouse := ⟨z_tat 448 (by decide +kernel) rfl, z_tat 449 (by decide +kernel) rfl⟩
theorem zw_X6_keepOfHouse : z_MW yX6_keepOfHouse cX6_keepOfHouse 4 none := ⟨z_tat 91 (by decide +kernel) rfl, z_tat 488 (by decide +kernel) rfl, by decide +kernel, by decide +kernel⟩
theorem zv_X6_keepOfHouse : z_MV yX6_keepOfHouse := ⟨z_tat 487 (by decide +kernel) rfl, z_tat 1 (by decide +kernel) rfl⟩
theorem zw_X6_ofWay : z_MW yX6_ofWay cX6_ofWay 3 (some .int) := ⟨z_tat 91 (by decide +kernel) rfl, z_tat 538 (by decide +kernel) rfl, by decide +kernel, by decide +kernel⟩
theorem zv_X6_ofWay : z_MV yX6_ofWay := ⟨z_tat 536 (by decide +kernel) rfl, z_tat 537 (by decide +kernel) rfl⟩
theorem zw_X6_keepOfWay : z_MW yX6_keepOfWay cX6_keepOfWay 4 none := ⟨z_tat 91 (by decide +kernel) rfl, z_tat 509 (by decide +kernel) rfl, by decide +kernel, by decide +kernel⟩
theorem zv_X6_keepOfWay : z_MV yX6_keepOfWay := ⟨z_tat 508 (by decide +kernel) rfl, z_tat 3 (by decide +kernel) rfl⟩
theorem zw_X6_addHouse : z_MW yX6_addHouse cX6_addHouse 5 (some .int) := ⟨z_tat 91 (by decide +kernel) rfl, z_tat 484 (by decide +kernel) rfl, by decide +kernel, by decide +kernel⟩
theorem zv_X6_addHouse : z_MV yX6_addHouse := ⟨z_tat 482 (by decide +kernel) rfl, z_tat 483 (by decide +kernel) rfl⟩
theorem zw_X6_addWay : z_MW yX6_addWay cX6_addWay 5 (some .int) := ⟨z_tat 91 (by decide +kernel) rfl, z_tat 505 (by decide +kernel) rfl, by decide +kernel, by decide +kernel⟩
theorem zv_X6_addWay : z_MV yX6_addWay := ⟨z_tat 503 (by decide +kernel) rfl, z_tat 504 (by decide +kernel) rfl⟩
theorem zw_X6_changeSaid : z_MW yX6_changeSaid cX6_changeSaid 3 none := ⟨z_tat 91 (by decide +kernel) rfl, z_tat 568 (by decide +kernel) rfl, by decide +kernel, by decide +kernel⟩
theorem zv_X6_changeSaid : z_MV yX6_changeSaid := ⟨z_tat 566 (by decide +kernel) rfl, z_tat 567 (by decide +kernel) rfl⟩
theorem zw_X6_changeShut : z_MW yX6_changeShut cX6_changeShut 4 (some .boolean) := ⟨z_tat 91 (by decide +kernel) rfl, z_tat 534 (by decide +kernel) rfl, by decide +kernel, by decide +kernel⟩
theorem zv_X6_changeShut : z_MV yX6_changeShut := ⟨z_tat 532 (by decide +kernel) rfl, z_tat 533 (by decide +kernel) rfl⟩
theorem zw_X6_changeLag : z_MW yX6_changeLag cX6_changeLag 2 none := ⟨z_tat 91 (by decide +kernel) rfl, z_tat 556 (by decide +kernel) rfl, by decide +kernel, by decide +kernel⟩
theorem zv_X6_changeLag : z_MV yX6_changeLag := ⟨z_tat 554 (by decide +kernel) rfl, z_tat 555 (by decide +kernel) rfl⟩
theorem zw_X6_setBird : z_MW yX6_setBird cX6_setBird 2 none := ⟨z_tat 91 (by decide +kernel) rfl, z_tat 716 (by decide +kernel) rfl, by decide +kernel, by decide +kernel⟩
theorem zv_X6_setBird : z_MV yX6_setBird := ⟨z_tat 714 (by decide +kernel) rfl, z_tat 715 (by decide +kernel) rfl⟩
theorem zw_X6_saidAgo : z_MW yX6_saidAgo cX6_saidAgo 2 (some .int) := ⟨z_tat 91 (by decide +kernel) rfl, z_tat 780 (by decide +kernel) rfl, by decide +kernel, by decide +kernel⟩
theorem zv_X6_saidAgo : z_MV yX6_saidAgo := ⟨z_tat 778 (by decide +kernel) rfl, z_tat 779 (by decide +kernel) rfl⟩
theorem zw_X6_spokenNext : z_MW yX6_spokenNext cX6_spokenNext 1 (some .int) := ⟨z_tat 91 (by decide +kernel) rfl, z_tat 737 (by decide +kernel) rfl, by decide +kernel, by decide +kernel⟩
theorem zv_X6_spokenNext : z_MV yX6_spokenNext := ⟨z_tat 735 (by decide +kernel) rfl, z_tat 736 (by decide +kernel) rfl⟩
theorem zw_X6_answerAfter : z_MW yX6_answerAfter cX6_answerAfter 10 (some .int) := ⟨z_tat 91 (by decide +kernel) rfl, z_tat 469 (by decide +kernel) rfl, by decide +kernel, by decide +kernel⟩
theorem zv_X6_answerAfter : z_MV yX6_answerAfter := ⟨z_tat 467 (by decide +kernel) rfl, z_tat 468 (by decide +kernel) rfl⟩
theorem zw_X6_saysAs : z_MW yX6_saysAs cX6_saysAs 4 (some .int) := ⟨z_tat 91 (by decide +kernel) rfl, z_tat 461 (by decide +kernel) rfl, by decide +kernel, by decide +kernel⟩
theorem zv_X6_saysAs : z_MV yX6_saysAs := ⟨z_tat 459 (by decide +kernel) rfl, z_tat 460 (by decide +kernel) rfl⟩
theorem zw_X6_visit : z_MW yX6_visit cX6_visit 5 (some .int) := ⟨z_tat 91 (by decide +kernel) rfl, z_tat 733 (by decide +kernel) rfl, by decide +kernel, by decide +kernel⟩
theorem zv_X6_visit : z_MV yX6_visit := ⟨z_tat 731 (by decide +kernel) rfl, z_tat 732 (by decide +kernel) rfl⟩
theorem zw_X6_isOpen : z_MW yX6_isOpen cX6_isOpen 2 (some .boolean) := ⟨z_tat 91 (by decide +kernel) rfl, z_tat 809 (by decide +kernel) rfl, by decide +kernel, by decide +kernel⟩
theorem zv_X6_isOpen : z_MV yX6_isOpen := ⟨z_tat 807 (by decide +kernel) rfl, z_tat 808 (by decide +kernel) rfl⟩
theorem zw_X6_isOpenAt : z_MW yX6_isOpenAt cX6_isOpenAt 4 (some .boolean) := ⟨z_tat 91 (by decide +kernel) rfl, z_tat 753 (by decide +kernel) rfl, by decide +kernel, by decide +kernel⟩
theorem zv_X6_isOpenAt : z_MV yX6_isOpenAt := ⟨z_tat 752 (by decide +kernel) rfl, z_tat 16 (by decide +kernel) rfl⟩
theorem zw_X6_canGoBy : z_MW yX6_canGoBy cX6_canGoBy 2 (some .boolean) := ⟨z_tat 91 (by decide +kernel) rfl, z_tat 745 (by decide +kernel) rfl, by decide +kernel, by decide +kernel⟩
theorem zv_X6_canGoBy : z_MV yX6_canGoBy := ⟨z_tat 743 (by decide +kernel) rfl, z_tat 744 (by decide +kernel) rfl⟩
theorem zw_X6_goBy : z_MW yX6_goBy cX6_goBy 2 (some .int) := ⟨z_tat 91 (by decide +kernel) rfl, z_tat 758 (by decide +kernel) rfl, by decide +kernel, by decide +kernel⟩
theorem zv_X6_goBy : z_MV yX6_goBy := ⟨z_tat 756 (by decide +kernel) rfl, z_tat 757 (by decide +kernel) rfl⟩
theorem zw_X6_openWays : z_MW yX6_openWays cX6_openWays 3 (some .int) := ⟨z_tat 91 (by decide +kernel) rfl, z_tat 1015 (by decide +kernel) rfl, by decide +kernel, by decide +kernel⟩
theorem zv_X6_openWays : z_MV yX6_openWays := ⟨z_tat 1013 (by decide +kernel) rfl, z_tat 1014 (by decide +kernel) rfl⟩
theorem zw_X6_openWaysAt : z_MW yX6_openWaysAt cX6_openWaysAt 4 (some .int) := ⟨z_tat 91 (by decide +kernel) rfl, z_tat 994 (by decide +kernel) rfl, by decide +kernel, by decide +kernel⟩
theorem zv_X6_openWaysAt : z_MV yX6_openWaysAt := ⟨z_tat 992 (by decide +kernel) rfl, z_tat 993 (by decide +kernel) rfl⟩
theorem zw_X6_openWaysBetween : z_MW yX6_openWaysBetween cX6_openWaysBetween 5 (some .int) := ⟨z_tat 91 (by decide +kernel) rfl, z_tat 1002 (by decide +kernel) rfl, by decide +kernel, by decide +kernel⟩
theorem zv_X6_openWaysBetween : z_MV yX6_openWaysBetween := ⟨z_tat 1000 (by decide +kernel) rfl, z_tat 1001 (by decide +kernel) rfl⟩
theorem zw_X6_draw : z_MW yX6_draw cX6_draw 2 (some .int) := ⟨z_tat 91 (by decide +kernel) rfl, z_tat 1056 (by decide +kernel) rfl, by decide +kernel, by decide +kernel⟩
theorem zv_X6_draw : z_MV yX6_draw := ⟨z_tat 1055 (by decide +kernel) rfl, z_tat 32 (by decide +kernel) rfl⟩
theorem zw_X6_drawnWay : z_MW yX6_drawnWay cX6_drawnWay 4 (some .int) := ⟨z_tat 91 (by decide +kernel) rfl, z_tat 1051 (by decide +kernel) rfl, by decide +kernel, by decide +kernel⟩
theorem zv_X6_drawnWay : z_MV yX6_drawnWay := ⟨z_tat 1049 (by decide +kernel) rfl, z_tat 1050 (by decide +kernel) rfl⟩
theorem zw_X6_knowing : z_MW yX6_knowing cX6_knowing 4 (some .int) := ⟨z_tat 91 (by decide +kernel) rfl, z_tat 1065 (by decide +kernel) rfl, by decide +kernel, by decide +kernel⟩
theorem zv_X6_knowing : z_MV yX6_knowing := ⟨z_tat 1063 (by decide +kernel) rfl, z_tat 1064 (by decide +kernel) rfl⟩
theorem zw_X6_forgetAll : z_MW yX6_forgetAll cX6_forgetAll 3 (some .int) := ⟨z_tat 91 (by decide +kernel) rfl, z_tat 1073 (by decide +kernel) rfl, by decide +kernel, by decide +kernel⟩
theorem zv_X6_forgetAll : z_MV yX6_forgetAll := ⟨z_tat 1071 (by decide +kernel) rfl, z_tat 1072 (by decide +kernel) rfl⟩
theorem zw_X6_count : z_MW yX6_count cX6_count 2 (some .int) := ⟨z_tat 91 (by decide +kernel) rfl, z_tat 1149 (by decide +kernel) rfl, by decide +kernel, by decide +kernel⟩
theorem zv_X6_count : z_MV yX6_count := ⟨z_tat 1147 (by decide +kernel) rfl, z_tat 1148 (by decide +kernel) rfl⟩
theorem zw_X7_init : z_MW yX7_init cX7_init 2 none := ⟨z_tat 95 (by decide +kernel) rfl, z_tat 214 (by decide +kernel) rfl, by decide +kernel, by decide +kernel⟩
theorem zw_X7_begin : z_MW yX7_begin cX7_begin 1 none := ⟨z_tat 95 (by decide +kernel) rfl, z_tat 797 (by decide +kernel) rfl, by decide +kernel, by decide +kernel⟩
theorem zv_X7_begin : z_MV yX7_begin := ⟨z_tat 795 (by decide +kernel) rfl, z_tat 796 (by decide +kernel) rfl⟩
theorem zw_X7_beginWithout : z_MW yX7_beginWithout cX7_beginWithout 3 none := ⟨z_tat 95 (by decide +kernel) rfl, z_tat 801 (by decide +kernel) rfl, by decide +kernel, by decide +kernel⟩
theorem zv_X7_beginWithout : z_MV yX7_beginWithout := ⟨z_tat 799 (by decide +kernel) rfl, z_tat 800 (by decide +kernel) rfl⟩
theorem zw_X7_beginAfresh : z_MW yX7_beginAfresh cX7_beginAfresh 2 none := ⟨z_tat 95 (by decide +kernel) rfl, z_tat 878 (by decide +kernel) rfl, by decide +kernel, by decide +kernel⟩
theorem zv_X7_beginAfresh : z_MV yX7_beginAfresh := ⟨z_tat 876 (by decide +kernel) rfl, z_tat 877 (by decide +kernel) rfl⟩
theorem zw_X7_link : z_MW yX7_link cX7_link 5 none := ⟨z_tat 95 (by decide +kernel) rfl, z_tat 814 (by decide +kernel) rfl, by decide +kernel, by decide +kernel⟩
theorem zv_X7_link : z_MV yX7_link := ⟨z_tat 813 (by decide +kernel) rfl, z_tat 18 (by decide +kernel) rfl⟩
theorem zw_X7_wayTaken : z_MW yX7_wayTaken cX7_wayTaken 4 (some .int) := ⟨z_tat 95 (by decide +kernel) rfl, z_tat 818 (by decide +kernel) rfl, by decide +kernel, by decide +kernel⟩
theorem zv_X7_wayTaken : z_MV yX7_wayTaken := ⟨z_tat 816 (by decide +kernel) rfl, z_tat 817 (by decide +kernel) rfl⟩
theorem zw_X7_visitsMade : z_MW yX7_visitsMade cX7_visitsMade 1 (some .int) := ⟨z_tat 95 (by decide +kernel) rfl, z_tat 908 (by decide +kernel) rfl, by decide +kernel, by decide +kernel⟩
theorem zv_X7_visitsMade : z_MV yX7_visitsMade := ⟨z_tat 906 (by decide +kernel) rfl, z_tat 907 (by decide +kernel) rfl⟩
theorem zw_X7_placeAt : z_MW yX7_placeAt cX7_placeAt 2 (some .int) := ⟨z_tat 95 (by decide +kernel) rfl, z_tat 929 (by decide +kernel) rfl, by decide +kernel, by decide +kernel⟩
theorem zv_X7_placeAt : z_MV yX7_placeAt := ⟨z_tat 927 (by decide +kernel) rfl, z_tat 928 (by decide +kernel) rfl⟩
theorem zw_X7_place : z_MW yX7_place cX7_place 1 (some .int) := ⟨z_tat 95 (by decide +kernel) rfl, z_tat 847 (by decide +kernel) rfl, by decide +kernel, by decide +kernel⟩
theorem zv_X7_place : z_MV yX7_place := ⟨z_tat 845 (by decide +kernel) rfl, z_tat 846 (by decide +kernel) rfl⟩
theorem zw_X7_minutesTaken : z_MW yX7_minutesTaken cX7_minutesTaken 1 (some .int) := ⟨z_tat 95 (by decide +kernel) rfl, z_tat 865 (by decide +kernel) rfl, by decide +kernel, by decide +kernel⟩
theorem zv_X7_minutesTaken : z_MV yX7_minutesTaken := ⟨z_tat 863 (by decide +kernel) rfl, z_tat 864 (by decide +kernel) rfl⟩
theorem zw_X7_spokenAt : z_MW yX7_spokenAt cX7_spokenAt 2 (some .int) := ⟨z_tat 95 (by decide +kernel) rfl, z_tat 883 (by decide +kernel) rfl, by decide +kernel, by decide +kernel⟩
theorem zv_X7_spokenAt : z_MV yX7_spokenAt := ⟨z_tat 881 (by decide +kernel) rfl, z_tat 882 (by decide +kernel) rfl⟩
theorem zw_X7_heardBy : z_MW yX7_heardBy cX7_heardBy 4 (some .int) := ⟨z_tat 95 (by decide +kernel) rfl, z_tat 852 (by decide +kernel) rfl, by decide +kernel, by decide +kernel⟩
theorem zv_X7_heardBy : z_MV yX7_heardBy := ⟨z_tat 850 (by decide +kernel) rfl, z_tat 851 (by decide +kernel) rfl⟩
theorem zw_X7_visitsOf : z_MW yX7_visitsOf cX7_visitsOf 4 (some .int) := ⟨z_tat 95 (by decide +kernel) rfl, z_tat 856 (by decide +kernel) rfl, by decide +kernel, by decide +kernel⟩
theorem zv_X7_visitsOf : z_MV yX7_visitsOf := ⟨z_tat 855 (by decide +kernel) rfl, z_tat 21 (by decide +kernel) rfl⟩
theorem zw_X7_stepTo : z_MW yX7_stepTo cX7_stepTo 4 (some .boolean) := ⟨z_tat 95 (by decide +kernel) rfl, z_tat 843 (by decide +kernel) rfl, by decide +kernel, by decide +kernel⟩
theorem zv_X7_stepTo : z_MV yX7_stepTo := ⟨z_tat 841 (by decide +kernel) rfl, z_tat 842 (by decide +kernel) rfl⟩
theorem zw_X7_becomeNext : z_MW yX7_becomeNext cX7_becomeNext 5 (some .boolean) := ⟨z_tat 95 (by decide +kernel) rfl, z_tat 934 (by decide +kernel) rfl, by decide +kernel, by decide +kernel⟩
theorem zv_X7_becomeNext : z_MV yX7_becomeNext := ⟨z_tat 932 (by decide +kernel) rfl, z_tat 933 (by decide +kernel) rfl⟩
theorem zw_X8_init : z_MW yX8_init cX8_init 1 none := ⟨z_tat 90 (by decide +kernel) rfl, z_tat 111 (by decide +kernel) rfl, by decide +kernel, by decide +kernel⟩
theorem zw_X8_refuse : z_MW yX8_refuse cX8_refuse 2 (some .int) := ⟨z_tat 90 (by decide +kernel) rfl, z_tat 344 (by decide +kernel) rfl, by decide +kernel, by decide +kernel⟩
theorem zv_X8_refuse : z_MV yX8_refuse := ⟨z_tat 343 (by decide +kernel) rfl, z_tat 0 (by decide +kernel) rfl⟩
theorem zw_X8_refuseApart : z_MW yX8_refuseApart cX8_refuseApart 2 (some .int) := ⟨z_tat 90 (by decide +kernel) rfl, z_tat 793 (by decide +kernel) rfl, by decide +kernel, by decide +kernel⟩
theorem zv_X8_refuseApart : z_MV yX8_refuseApart := ⟨z_tat 792 (by decide +kernel) rfl, z_tat 17 (by decide +kernel) rfl⟩
theorem zw_X8_isCount : z_MW yX8_isCount cX8_isCount 3 (some .boolean) := ⟨z_tat 90 (by decide +kernel) rfl, z_tat 548 (by decide +kernel) rfl, by decide +kernel, by decide +kernel⟩
theorem zs_X8_isCount : Cond.static yX8_isCount ∈ z_tbl := z_tat 547 (by decide +kernel) rfl
theorem zw_X8_isSet : z_MW yX8_isSet cX8_isSet 1 (some .boolean) := ⟨z_tat 90 (by decide +kernel) rfl, z_tat 476 (by decide +kernel) rfl, by decide +kernel, by decide +kernel⟩
theorem zs_X8_isSet : Cond.static yX8_isSet ∈ z_tbl := z_tat 475 (by decide +kernel) rfl
theorem zw_X8_isLag : z_MW yX8_isLag cX8_isLag 1 (some .boolean) := ⟨z_tat 90 (by decide +kernel) rfl, z_tat 545 (by decide +kernel) rfl, by decide +kernel, by decide +kernel⟩
theorem zs_X8_isLag : Cond.static yX8_isLag ∈ z_tbl := z_tat 544 (by decide +kernel) rfl
theorem zw_X8_troubleWithRoute : z_MW yX8_troubleWithRoute cX8_troubleWithRoute 5 (some .int) := ⟨z_tat 90 (by decide +kernel) rfl, z_tat 829 (by decide +kernel) rfl, by decide +kernel, by decide +kernel⟩
theorem zv_X8_troubleWithRoute : z_MV yX8_troubleWithRoute := ⟨z_tat 828 (by decide +kernel) rfl, z_tat 19 (by decide +kernel) rfl⟩
theorem zw_X8_troubleInThought : z_MW yX8_troubleInThought cX8_troubleInThought 4 (some .int) := ⟨z_tat 90 (by decide +kernel) rfl, z_tat 986 (by decide +kernel) rfl, by decide +kernel, by decide +kernel⟩
theorem zv_X8_troubleInThought : z_MV yX8_troubleInThought := ⟨z_tat 985 (by decide +kernel) rfl, z_tat 29 (by decide +kernel) rfl⟩
theorem zw_X8_row : z_MW yX8_row cX8_row 4 (some .int) := ⟨z_tat 90 (by decide +kernel) rfl, z_tat 336 (by decide +kernel) rfl, by decide +kernel, by decide +kernel⟩
theorem zv_X8_row : z_MV yX8_row := ⟨z_tat 334 (by decide +kernel) rfl, z_tat 335 (by decide +kernel) rfl⟩
theorem zw_X8_set : z_MW yX8_set cX8_set 6 (some .int) := ⟨z_tat 90 (by decide +kernel) rfl, z_tat 373 (by decide +kernel) rfl, by decide +kernel, by decide +kernel⟩
theorem zv_X8_set : z_MV yX8_set := ⟨z_tat 371 (by decide +kernel) rfl, z_tat 372 (by decide +kernel) rfl⟩
theorem zw_X8_copy : z_MW yX8_copy cX8_copy 7 (some .int) := ⟨z_tat 90 (by decide +kernel) rfl, z_tat 394 (by decide +kernel) rfl, by decide +kernel, by decide +kernel⟩
theorem zv_X8_copy : z_MV yX8_copy := ⟨z_tat 392 (by decide +kernel) rfl, z_tat 393 (by decide +kernel) rfl⟩
theorem zw_X8_element : z_MW yX8_element cX8_element 3 (some .long) := ⟨z_tat 90 (by decide +kernel) rfl, z_tat 411 (by decide +kernel) rfl, by decide +kernel, by decide +kernel⟩
theorem zv_X8_element : z_MV yX8_element := ⟨z_tat 409 (by decide +kernel) rfl, z_tat 410 (by decide +kernel) rfl⟩
theorem zw_X8_show : z_MW yX8_show cX8_show 3 (some .int) := ⟨z_tat 90 (by decide +kernel) rfl, z_tat 419 (by decide +kernel) rfl, by decide +kernel, by decide +kernel⟩
theorem zv_X8_show : z_MV yX8_show := ⟨z_tat 417 (by decide +kernel) rfl, z_tat 418 (by decide +kernel) rfl⟩
theorem zw_X8_holds : z_MW yX8_holds cX8_holds 2 (some .int) := ⟨z_tat 90 (by decide +kernel) rfl, z_tat 431 (by decide +kernel) rfl, by decide +kernel, by decide +kernel⟩
theorem zv_X8_holds : z_MV yX8_holds := ⟨z_tat 429 (by decide +kernel) rfl, z_tat 430 (by decide +kernel) rfl⟩
theorem zw_X8_says : z_MW yX8_says cX8_says 5 (some .int) := ⟨z_tat 90 (by decide +kernel) rfl, z_tat 439 (by decide +kernel) rfl, by decide +kernel, by decide +kernel⟩
theorem zv_X8_says : z_MV yX8_says := ⟨z_tat 437 (by decide +kernel) rfl, z_tat 438 (by decide +kernel) rfl⟩
theorem zw_X8_house : z_MW yX8_house cX8_house 4 (some .int) := ⟨z_tat 90 (by decide +kernel) rfl, z_tat 473 (by decide +kernel) rfl, by decide +kernel, by decide +kernel⟩
theorem zv_X8_house : z_MV yX8_house := ⟨z_tat 471 (by decide +kernel) rfl, z_tat 472 (by decide +kernel) rfl⟩
theorem zw_X8_troubleWithWay : z_MW yX8_troubleWithWay cX8_troubleWithWay 4 (some .int) := ⟨z_tat 90 (by decide +kernel) rfl, z_tat 497 (by decide +kernel) rfl, by decide +kernel, by decide +kernel⟩
theorem zv_X8_troubleWithWay : z_MV yX8_troubleWithWay := ⟨z_tat 496 (by decide +kernel) rfl, z_tat 2 (by decide +kernel) rfl⟩
theorem zw_X8_way : z_MW yX8_way cX8_way 5 (some .int) := ⟨z_tat 90 (by decide +kernel) rfl, z_tat 493 (by decide +kernel) rfl, by decide +kernel, by decide +kernel⟩
theorem zv_X8_way : z_MV yX8_way := ⟨z_tat 491 (by decide +kernel) rfl, z_tat 492 (by decide +kernel) rfl⟩
theorem zw_X8_ways : z_MW yX8_ways cX8_ways 5 (some .int) := ⟨z_tat 90 (by decide +kernel) rfl, z_tat 513 (by decide +kernel) rfl, by decide +kernel, by decide +kernel⟩
theorem zv_X8_ways : z_MV yX8_ways := ⟨z_tat 511 (by decide +kernel) rfl, z_tat 512 (by decide +kernel) rfl⟩
theorem zw_X8_addWays : z_MW yX8_addWays cX8_addWays 9 (some .int) := ⟨z_tat 90 (by decide +kernel) rfl, z_tat 517 (by decide +kernel) rfl, by decide +kernel, by decide +kernel⟩
theorem zv_X8_addWays : z_MV yX8_addWays := ⟨z_tat 516 (by decide +kernel) rfl, z_tat 4 (by decide +kernel) rfl⟩
theorem zw_X8_shut : z_MW yX8_shut cX8_shut 3 (some .int) := ⟨z_tat 90 (by decide +kernel) rfl, z_tat 526 (by decide +kernel) rfl, by decide +kernel, by decide +kernel⟩
theorem zv_X8_shut : z_MV yX8_shut := ⟨z_tat 524 (by decide +kernel) rfl, z_tat 525 (by decide +kernel) rfl⟩
theorem zw_X8_lag : z_MW yX8_lag cX8_lag 3 (some .int) := ⟨z_tat 90 (by decide +kernel) rfl, z_tat 542 (by decide +kernel) rfl, by decide +kernel, by decide +kernel⟩
theorem zv_X8_lag : z_MV yX8_lag := ⟨z_tat 540 (by decide +kernel) rfl, z_tat 541 (by decide +kernel) rfl⟩
theorem zw_X8_said : z_MW yX8_said cX8_said 4 (some .int) := ⟨z_tat 90 (by decide +kernel) rfl, z_tat 564 (by decide +kernel) rfl, by decide +kernel, by decide +kernel⟩
theorem zv_X8_said : z_MV yX8_said := ⟨z_tat 562 (by decide +kernel) rfl, z_tat 563 (by decide +kernel) rfl⟩
theorem zw_X8_houseOf : z_MW yX8_houseOf cX8_houseOf 4 (some .int) := ⟨z_tat 90 (by decide +kernel) rfl, z_tat 572 (by decide +kernel) rfl, by decide +kernel, by decide +kernel⟩
theorem zv_X8_houseOf : z_MV yX8_houseOf := ⟨z_tat 570 (by decide +kernel) rfl, z_tat 571 (by decide +kernel) rfl⟩
theorem zw_X8_wayOf : z_MW yX8_wayOf cX8_wayOf 4 (some .int) := ⟨z_tat 90 (by decide +kernel) rfl, z_tat 576 (by decide +kernel) rfl, by decide +kernel, by decide +kernel⟩
theorem zv_X8_wayOf : z_MV yX8_wayOf := ⟨z_tat 574 (by decide +kernel) rfl, z_tat 575 (by decide +kernel) rfl⟩
theorem zw_X8_street : z_MW yX8_street cX8_street 4 (some .int) := ⟨z_tat 90 (by decide +kernel) rfl, z_tat 581 (by decide +kernel) rfl, by decide +kernel, by decide +kernel⟩
theorem zv_X8_street : z_MV yX8_street := ⟨z_tat 579 (by decide +kernel) rfl, z_tat 580 (by decide +kernel) rfl⟩
theorem zw_X8_fault : z_MW yX8_fault cX8_fault 1 (some .int) := ⟨z_tat 90 (by decide +kernel) rfl, z_tat 725 (by decide +kernel) rfl, by decide +kernel, by decide +kernel⟩
theorem zv_X8_fault : z_MV yX8_fault := ⟨z_tat 723 (by decide +kernel) rfl, z_tat 724 (by decide +kernel) rfl⟩
theorem zw_X8_put : z_MW yX8_put cX8_put 2 (some .int) := ⟨z_tat 90 (by decide +kernel) rfl, z_tat 729 (by decide +kernel) rfl, by decide +kernel, by decide +kernel⟩
theorem zv_X8_put : z_MV yX8_put := ⟨z_tat 727 (by decide +kernel) rfl, z_tat 728 (by decide +kernel) rfl⟩
theorem zw_X8_go : z_MW yX8_go cX8_go 2 (some .int) := ⟨z_tat 90 (by decide +kernel) rfl, z_tat 741 (by decide +kernel) rfl, by decide +kernel, by decide +kernel⟩
theorem zv_X8_go : z_MV yX8_go := ⟨z_tat 739 (by decide +kernel) rfl, z_tat 740 (by decide +kernel) rfl⟩
theorem zw_X8_where : z_MW yX8_where cX8_where 1 (some .int) := ⟨z_tat 90 (by decide +kernel) rfl, z_tat 763 (by decide +kernel) rfl, by decide +kernel, by decide +kernel⟩
theorem zv_X8_where : z_MV yX8_where := ⟨z_tat 761 (by decide +kernel) rfl, z_tat 762 (by decide +kernel) rfl⟩
theorem zw_X8_next : z_MW yX8_next cX8_next 1 (some .int) := ⟨z_tat 90 (by decide +kernel) rfl, z_tat 771 (by decide +kernel) rfl, by decide +kernel, by decide +kernel⟩
theorem zv_X8_next : z_MV yX8_next := ⟨z_tat 769 (by decide +kernel) rfl, z_tat 770 (by decide +kernel) rfl⟩
theorem zw_X8_behind : z_MW yX8_behind cX8_behind 2 (some .int) := ⟨z_tat 90 (by decide +kernel) rfl, z_tat 776 (by decide +kernel) rfl, by decide +kernel, by decide +kernel⟩
theorem zv_X8_behind : z_MV yX8_behind := ⟨z_tat 774 (by decide +kernel) rfl, z_tat 775 (by decide +kernel) rfl⟩
theorem zw_X8_answer : z_MW yX8_answer cX8_answer 3 (some .int) := ⟨z_tat 90 (by decide +kernel) rfl, z_tat 784 (by decide +kernel) rfl, by decide +kernel, by decide +kernel⟩
theorem zv_X8_answer : z_MV yX8_answer := ⟨z_tat 782 (by decide +kernel) rfl, z_tat 783 (by decide +kernel) rfl⟩
theorem zw_X8_between : z_MW yX8_between cX8_between 3 (some .int) := ⟨z_tat 90 (by decide +kernel) rfl, z_tat 789 (by decide +kernel) rfl, by decide +kernel, by decide +kernel⟩
theorem zv_X8_between : z_MV yX8_between := ⟨z_tat 787 (by decide +kernel) rfl, z_tat 788 (by decide +kernel) rfl⟩
theorem zw_X8_walkTold : z_MW yX8_walkTold cX8_walkTold 4 (some .int) := ⟨z_tat 90 (by decide +kernel) rfl, z_tat 839 (by decide +kernel) rfl, by decide +kernel, by decide +kernel⟩
theorem zv_X8_walkTold : z_MV yX8_walkTold := ⟨z_tat 838 (by decide +kernel) rfl, z_tat 20 (by decide +kernel) rfl⟩
theorem zw_X8_judge : z_MW yX8_judge cX8_judge 4 (some .int) := ⟨z_tat 90 (by decide +kernel) rfl, z_tat 825 (by decide +kernel) rfl, by decide +kernel, by decide +kernel⟩
theorem zv_X8_judge : z_MV yX8_judge := ⟨z_tat 823 (by decide +kernel) rfl, z_tat 824 (by decide +kernel) rfl⟩
theorem zw_X8_minutes : z_MW yX8_minutes cX8_minutes 4 (some .int) := ⟨z_tat 90 (by decide +kernel) rfl, z_tat 861 (by decide +kernel) rfl, by decide +kernel, by decide +kernel⟩
theorem zv_X8_minutes : z_MV yX8_minutes := ⟨z_tat 859 (by decide +kernel) rfl, z_tat 860 (by decide +kernel) rfl⟩
theorem zw_X8_hears : z_MW yX8_hears cX8_hears 5 (some .int) := ⟨z_tat 90 (by decide +kernel) rfl, z_tat 869 (by decide +kernel) rfl, by decide +kernel, by decide +kernel⟩
theorem zv_X8_hears : z_MV yX8_hears := ⟨z_tat 867 (by decide +kernel) rfl, z_tat 868 (by decide +kernel) rfl⟩
theorem zw_X8_other : z_MW yX8_other cX8_other 5 (some .int) := ⟨z_tat 90 (by decide +kernel) rfl, z_tat 874 (by decide +kernel) rfl, by decide +kernel, by decide +kernel⟩
theorem zv_X8_other : z_MV yX8_other := ⟨z_tat 872 (by decide +kernel) rfl, z_tat 873 (by decide +kernel) rfl⟩
theorem zw_X8_aim : z_MW yX8_aim cX8_aim 7 (some .int) := ⟨z_tat 90 (by decide +kernel) rfl, z_tat 887 (by decide +kernel) rfl, by decide +kernel, by decide +kernel⟩
theorem zv_X8_aim : z_MV yX8_aim := ⟨z_tat 885 (by decide +kernel) rfl, z_tat 886 (by decide +kernel) rfl⟩
theorem zw_X8_round : z_MW yX8_round cX8_round 6 (some .int) := ⟨z_tat 90 (by decide +kernel) rfl, z_tat 944 (by decide +kernel) rfl, by decide +kernel, by decide +kernel⟩
theorem zv_X8_round : z_MV yX8_round := ⟨z_tat 942 (by decide +kernel) rfl, z_tat 943 (by decide +kernel) rfl⟩
theorem zw_X8_troubleInSeeking : z_MW yX8_troubleInSeeking cX8_troubleInSeeking 4 (some .int) := ⟨z_tat 90 (by decide +kernel) rfl, z_tat 891 (by decide +kernel) rfl, by decide +kernel, by decide +kernel⟩
theorem zv_X8_troubleInSeeking : z_MV yX8_troubleInSeeking := ⟨z_tat 890 (by decide +kernel) rfl, z_tat 22 (by decide +kernel) rfl⟩
theorem zw_X8_fits : z_MW yX8_fits cX8_fits 4 (some .int) := ⟨z_tat 90 (by decide +kernel) rfl, z_tat 952 (by decide +kernel) rfl, by decide +kernel, by decide +kernel⟩
theorem zv_X8_fits : z_MV yX8_fits := ⟨z_tat 950 (by decide +kernel) rfl, z_tat 951 (by decide +kernel) rfl⟩
theorem zw_X8_from : z_MW yX8_from cX8_from 5 (some .int) := ⟨z_tat 90 (by decide +kernel) rfl, z_tat 970 (by decide +kernel) rfl, by decide +kernel, by decide +kernel⟩
theorem zv_X8_from : z_MV yX8_from := ⟨z_tat 968 (by decide +kernel) rfl, z_tat 969 (by decide +kernel) rfl⟩
theorem zw_X8_odds : z_MW yX8_odds cX8_odds 5 (some .long) := ⟨z_tat 90 (by decide +kernel) rfl, z_tat 982 (by decide +kernel) rfl, by decide +kernel, by decide +kernel⟩
theorem zv_X8_odds : z_MV yX8_odds := ⟨z_tat 980 (by decide +kernel) rfl, z_tat 981 (by decide +kernel) rfl⟩
theorem zw_X8_shuts : z_MW yX8_shuts cX8_shuts 5 (some .int) := ⟨z_tat 90 (by decide +kernel) rfl, z_tat 1007 (by decide +kernel) rfl, by decide +kernel, by decide +kernel⟩
theorem zv_X8_shuts : z_MV yX8_shuts := ⟨z_tat 1005 (by decide +kernel) rfl, z_tat 1006 (by decide +kernel) rfl⟩
theorem zw_X8_reach : z_MW yX8_reach cX8_reach 4 (some .int) := ⟨z_tat 90 (by decide +kernel) rfl, z_tat 1031 (by decide +kernel) rfl, by decide +kernel, by decide +kernel⟩
theorem zv_X8_reach : z_MV yX8_reach := ⟨z_tat 1029 (by decide +kernel) rfl, z_tat 1030 (by decide +kernel) rfl⟩
theorem zw_X8_first : z_MW yX8_first cX8_first 4 (some .int) := ⟨z_tat 90 (by decide +kernel) rfl, z_tat 1039 (by decide +kernel) rfl, by decide +kernel, by decide +kernel⟩
theorem zv_X8_first : z_MV yX8_first := ⟨z_tat 1037 (by decide +kernel) rfl, z_tat 1038 (by decide +kernel) rfl⟩
theorem zw_X8_wander : z_MW yX8_wander cX8_wander 4 (some .int) := ⟨z_tat 90 (by decide +kernel) rfl, z_tat 1047 (by decide +kernel) rfl, by decide +kernel, by decide +kernel⟩
theorem zv_X8_wander : z_MV yX8_wander := ⟨z_tat 1045 (by decide +kernel) rfl, z_tat 1046 (by decide +kernel) rfl⟩
theorem zw_X8_who : z_MW yX8_who cX8_who 2 (some .int) := ⟨z_tat 90 (by decide +kernel) rfl, z_tat 1061 (by decide +kernel) rfl, by decide +kernel, by decide +kernel⟩
theorem zv_X8_who : z_MV yX8_who := ⟨z_tat 1059 (by decide +kernel) rfl, z_tat 1060 (by decide +kernel) rfl⟩
theorem zw_X8_forget : z_MW yX8_forget cX8_forget 1 (some .int) := ⟨z_tat 90 (by decide +kernel) rfl, z_tat 1069 (by decide +kernel) rfl, by decide +kernel, by decide +kernel⟩
theorem zv_X8_forget : z_MV yX8_forget := ⟨z_tat 1067 (by decide +kernel) rfl, z_tat 1068 (by decide +kernel) rfl⟩
theorem zw_X8_seed : z_MW yX8_seed cX8_seed 3 (some .int) := ⟨z_tat 90 (by decide +kernel) rfl, z_tat 1078 (by decide +kernel) rfl, by decide +kernel, by decide +kernel⟩
theorem zv_X8_seed : z_MV yX8_seed := ⟨z_tat 1076 (by decide +kernel) rfl, z_tat 1077 (by decide +kernel) rfl⟩
theorem zw_X8_act : z_MW yX8_act cX8_act 4 (some .int) := ⟨z_tat 90 (by decide +kernel) rfl, z_tat 1090 (by decide +kernel) rfl, by decide +kernel, by decide +kernel⟩
theorem zv_X8_act : z_MV yX8_act := ⟨z_tat 1088 (by decide +kernel) rfl, z_tat 1089 (by decide +kernel) rfl⟩
theorem zw_X8_trace : z_MW yX8_trace cX8_trace 2 (some .int) := ⟨z_tat 90 (by decide +kernel) rfl, z_tat 1119 (by decide +kernel) rfl, by decide +kernel, by decide +kernel⟩
theorem zv_X8_trace : z_MV yX8_trace := ⟨z_tat 1117 (by decide +kernel) rfl, z_tat 1118 (by decide +kernel) rfl⟩
theorem zw_X8_image : z_MW yX8_image cX8_image 1 (some .int) := ⟨z_tat 90 (by decide +kernel) rfl, z_tat 1128 (by decide +kernel) rfl, by decide +kernel, by decide +kernel⟩
theorem zv_X8_image : z_MV yX8_image := ⟨z_tat 1126 (by decide +kernel) rfl, z_tat 1127 (by decide +kernel) rfl⟩
theorem zw_X8_restore : z_MW yX8_restore cX8_restore 1 (some .int) := ⟨z_tat 90 (by decide +kernel) rfl, z_tat 1133 (by decide +kernel) rfl, by decide +kernel, by decide +kernel⟩
theorem zv_X8_restore : z_MV yX8_restore := ⟨z_tat 1131 (by decide +kernel) rfl, z_tat 1132 (by decide +kernel) rfl⟩
theorem zw_X8_status : z_MW yX8_status cX8_status 2 (some .int) := ⟨z_tat 90 (by decide +kernel) rfl, z_tat 1141 (by decide +kernel) rfl, by decide +kernel, by decide +kernel⟩
theorem zv_X8_status : z_MV yX8_status := ⟨z_tat 1139 (by decide +kernel) rfl, z_tat 1140 (by decide +kernel) rfl⟩
theorem zw_X9_init : z_MW yX9_init cX9_init 2 none := ⟨z_tat 98 (by decide +kernel) rfl, z_tat 1155 (by decide +kernel) rfl, by decide +kernel, by decide +kernel⟩
theorem zw_X9_no : z_MW yX9_no cX9_no 2 (some .int) := ⟨z_tat 98 (by decide +kernel) rfl, z_tat 1327 (by decide +kernel) rfl, by decide +kernel, by decide +kernel⟩
theorem zv_X9_no : z_MV yX9_no := ⟨z_tat 1326 (by decide +kernel) rfl, z_tat 37 (by decide +kernel) rfl⟩
theorem zw_X9_noTen : z_MW yX9_noTen cX9_noTen 2 (some .int) := ⟨z_tat 98 (by decide +kernel) rfl, z_tat 1554 (by decide +kernel) rfl, by decide +kernel, by decide +kernel⟩
theorem zv_X9_noTen : z_MV yX9_noTen := ⟨z_tat 1553 (by decide +kernel) rfl, z_tat 64 (by decide +kernel) rfl⟩
theorem zw_X9_isIn : z_MW yX9_isIn cX9_isIn 3 (some .boolean) := ⟨z_tat 98 (by decide +kernel) rfl, z_tat 1323 (by decide +kernel) rfl, by decide +kernel, by decide +kernel⟩
theorem zs_X9_isIn : Cond.static yX9_isIn ∈ z_tbl := z_tat 1322 (by decide +kernel) rfl
theorem zw_X9_isSet : z_MW yX9_isSet cX9_isSet 1 (some .boolean) := ⟨z_tat 98 (by decide +kernel) rfl, z_tat 1384 (by decide +kernel) rfl, by decide +kernel, by decide +kernel⟩
theorem zs_X9_isSet : Cond.static yX9_isSet ∈ z_tbl := z_tat 1383 (by decide +kernel) rfl
theorem zw_X9_isHouse : z_MW yX9_isHouse cX9_isHouse 2 (some .boolean) := ⟨z_tat 98 (by decide +kernel) rfl, z_tat 1362 (by decide +kernel) rfl, by decide +kernel, by decide +kernel⟩
theorem zv_X9_isHouse : z_MV yX9_isHouse := ⟨z_tat 1361 (by decide +kernel) rfl, z_tat 41 (by decide +kernel) rfl⟩
theorem zw_X9_isWay : z_MW yX9_isWay cX9_isWay 2 (some .boolean) := ⟨z_tat 98 (by decide +kernel) rfl, z_tat 1416 (by decide +kernel) rfl, by decide +kernel, by decide +kernel⟩
theorem zv_X9_isWay : z_MV yX9_isWay := ⟨z_tat 1415 (by decide +kernel) rfl, z_tat 47 (by decide +kernel) rfl⟩
theorem zw_X9_isOpen : z_MW yX9_isOpen cX9_isOpen 2 (some .boolean) := ⟨z_tat 98 (by decide +kernel) rfl, z_tat 1522 (by decide +kernel) rfl, by decide +kernel, by decide +kernel⟩
theorem zv_X9_isOpen : z_MV yX9_isOpen := ⟨z_tat 1521 (by decide +kernel) rfl, z_tat 61 (by decide +kernel) rfl⟩
theorem zw_X9_speaksNext : z_MW yX9_speaksNext cX9_speaksNext 2 (some .int) := ⟨z_tat 98 (by decide +kernel) rfl, z_tat 1514 (by decide +kernel) rfl, by decide +kernel, by decide +kernel⟩
theorem zv_X9_speaksNext : z_MV yX9_speaksNext := ⟨z_tat 1513 (by decide +kernel) rfl, z_tat 60 (by decide +kernel) rfl⟩
theorem zw_X9_answerOf : z_MW yX9_answerOf cX9_answerOf 6 (some .int) := ⟨z_tat 98 (by decide +kernel) rfl, z_tat 1377 (by decide +kernel) rfl, by decide +kernel, by decide +kernel⟩
theorem zv_X9_answerOf : z_MV yX9_answerOf := ⟨z_tat 1376 (by decide +kernel) rfl, z_tat 42 (by decide +kernel) rfl⟩
theorem zw_X9_visits : z_MW yX9_visits cX9_visits 5 none := ⟨z_tat 98 (by decide +kernel) rfl, z_tat 1510 (by decide +kernel) rfl, by decide +kernel, by decide +kernel⟩
theorem zv_X9_visits : z_MV yX9_visits := ⟨z_tat 1509 (by decide +kernel) rfl, z_tat 59 (by decide +kernel) rfl⟩
theorem zw_X9_copies : z_MW yX9_copies cX9_copies 4 none := ⟨z_tat 98 (by decide +kernel) rfl, z_tat 1602 (by decide +kernel) rfl, by decide +kernel, by decide +kernel⟩
theorem zv_X9_copies : z_MV yX9_copies := ⟨z_tat 1601 (by decide +kernel) rfl, z_tat 70 (by decide +kernel) rfl⟩
theorem zw_X9_begins : z_MW yX9_begins cX9_begins 3 none := ⟨z_tat 98 (by decide +kernel) rfl, z_tat 1606 (by decide +kernel) rfl, by decide +kernel, by decide +kernel⟩
theorem zv_X9_begins : z_MV yX9_begins := ⟨z_tat 1605 (by decide +kernel) rfl, z_tat 71 (by decide +kernel) rfl⟩
theorem zw_X9_betweenOf : z_MW yX9_betweenOf cX9_betweenOf 6 (some .int) := ⟨z_tat 98 (by decide +kernel) rfl, z_tat 1558 (by decide +kernel) rfl, by decide +kernel, by decide +kernel⟩
theorem zv_X9_betweenOf : z_MV yX9_betweenOf := ⟨z_tat 1557 (by decide +kernel) rfl, z_tat 65 (by decide +kernel) rfl⟩
theorem zw_X9_openAt : z_MW yX9_openAt cX9_openAt 4 (some .int) := ⟨z_tat 98 (by decide +kernel) rfl, z_tat 1566 (by decide +kernel) rfl, by decide +kernel, by decide +kernel⟩
theorem zv_X9_openAt : z_MV yX9_openAt := ⟨z_tat 1565 (by decide +kernel) rfl, z_tat 66 (by decide +kernel) rfl⟩
theorem zw_X9_beginsRoutes : z_MW yX9_beginsRoutes cX9_beginsRoutes 3 none := ⟨z_tat 98 (by decide +kernel) rfl, z_tat 1626 (by decide +kernel) rfl, by decide +kernel, by decide +kernel⟩
theorem zv_X9_beginsRoutes : z_MV yX9_beginsRoutes := ⟨z_tat 1625 (by decide +kernel) rfl, z_tat 72 (by decide +kernel) rfl⟩
theorem zw_X9_leadsTo : z_MW yX9_leadsTo cX9_leadsTo 3 (some .int) := ⟨z_tat 98 (by decide +kernel) rfl, z_tat 1634 (by decide +kernel) rfl, by decide +kernel, by decide +kernel⟩
theorem zv_X9_leadsTo : z_MV yX9_leadsTo := ⟨z_tat 1633 (by decide +kernel) rfl, z_tat 74 (by decide +kernel) rfl⟩
theorem zw_X9_goesTo : z_MW yX9_goesTo cX9_goesTo 5 none := ⟨z_tat 98 (by decide +kernel) rfl, z_tat 1638 (by decide +kernel) rfl, by decide +kernel, by decide +kernel⟩
theorem zv_X9_goesTo : z_MV yX9_goesTo := ⟨z_tat 1637 (by decide +kernel) rfl, z_tat 75 (by decide +kernel) rfl⟩
theorem zw_X9_hasNext : z_MW yX9_hasNext cX9_hasNext 3 (some .boolean) := ⟨z_tat 98 (by decide +kernel) rfl, z_tat 1630 (by decide +kernel) rfl, by decide +kernel, by decide +kernel⟩
theorem zv_X9_hasNext : z_MV yX9_hasNext := ⟨z_tat 1629 (by decide +kernel) rfl, z_tat 73 (by decide +kernel) rfl⟩
theorem zw_X9_isShelf : z_MW yX9_isShelf cX9_isShelf 1 (some .boolean) := ⟨z_tat 98 (by decide +kernel) rfl, z_tat 1320 (by decide +kernel) rfl, by decide +kernel, by decide +kernel⟩
theorem zs_X9_isShelf : Cond.static yX9_isShelf ∈ z_tbl := z_tat 1319 (by decide +kernel) rfl
theorem zw_X9_notRow : z_MW yX9_notRow cX9_notRow 2 (some .int) := ⟨z_tat 98 (by decide +kernel) rfl, z_tat 1335 (by decide +kernel) rfl, by decide +kernel, by decide +kernel⟩
theorem zv_X9_notRow : z_MV yX9_notRow := ⟨z_tat 1334 (by decide +kernel) rfl, z_tat 38 (by decide +kernel) rfl⟩
theorem zw_X9_intAt : z_MW yX9_intAt cX9_intAt 3 (some .int) := ⟨z_tat 98 (by decide +kernel) rfl, z_tat 1408 (by decide +kernel) rfl, by decide +kernel, by decide +kernel⟩
theorem zv_X9_intAt : z_MV yX9_intAt := ⟨z_tat 1407 (by decide +kernel) rfl, z_tat 46 (by decide +kernel) rfl⟩
theorem zw_X9_row : z_MW yX9_row cX9_row 6 (some .int) := ⟨z_tat 98 (by decide +kernel) rfl, z_tat 1317 (by decide +kernel) rfl, by decide +kernel, by decide +kernel⟩
theorem zv_X9_row : z_MV yX9_row := ⟨z_tat 1315 (by decide +kernel) rfl, z_tat 1316 (by decide +kernel) rfl⟩
theorem zw_X9_cutTo : z_MW yX9_cutTo cX9_cutTo 3 (some .long) := ⟨z_tat 98 (by decide +kernel) rfl, z_tat 1338 (by decide +kernel) rfl, by decide +kernel, by decide +kernel⟩
theorem zs_X9_cutTo : Cond.static yX9_cutTo ∈ z_tbl := z_tat 1337 (by decide +kernel) rfl
theorem zw_X9_set : z_MW yX9_set cX9_set 6 (some .int) := ⟨z_tat 98 (by decide +kernel) rfl, z_tat 1331 (by decide +kernel) rfl, by decide +kernel, by decide +kernel⟩
theorem zv_X9_set : z_MV yX9_set := ⟨z_tat 1329 (by decide +kernel) rfl, z_tat 1330 (by decide +kernel) rfl⟩
theorem zw_X9_hasCells : z_MW yX9_hasCells cX9_hasCells 4 (some .boolean) := ⟨z_tat 98 (by decide +kernel) rfl, z_tat 1350 (by decide +kernel) rfl, by decide +kernel, by decide +kernel⟩
theorem zv_X9_hasCells : z_MV yX9_hasCells := ⟨z_tat 1349 (by decide +kernel) rfl, z_tat 40 (by decide +kernel) rfl⟩
theorem zw_X9_notCopy : z_MW yX9_notCopy cX9_notCopy 7 (some .int) := ⟨z_tat 98 (by decide +kernel) rfl, z_tat 1346 (by decide +kernel) rfl, by decide +kernel, by decide +kernel⟩
theorem zv_X9_notCopy : z_MV yX9_notCopy := ⟨z_tat 1345 (by decide +kernel) rfl, z_tat 39 (by decide +kernel) rfl⟩
theorem zw_X9_copy : z_MW yX9_copy cX9_copy 8 (some .int) := ⟨z_tat 98 (by decide +kernel) rfl, z_tat 1342 (by decide +kernel) rfl, by decide +kernel, by decide +kernel⟩
theorem zv_X9_copy : z_MV yX9_copy := ⟨z_tat 1340 (by decide +kernel) rfl, z_tat 1341 (by decide +kernel) rfl⟩
theorem zw_X9_element : z_MW yX9_element cX9_element 3 (some .long) := ⟨z_tat 98 (by decide +kernel) rfl, z_tat 1354 (by decide +kernel) rfl, by decide +kernel, by decide +kernel⟩
theorem zv_X9_element : z_MV yX9_element := ⟨z_tat 1352 (by decide +kernel) rfl, z_tat 1353 (by decide +kernel) rfl⟩
theorem zw_X9_show : z_MW yX9_show cX9_show 3 (some .int) := ⟨z_tat 98 (by decide +kernel) rfl, z_tat 1358 (by decide +kernel) rfl, by decide +kernel, by decide +kernel⟩
theorem zv_X9_show : z_MV yX9_show := ⟨z_tat 1356 (by decide +kernel) rfl, z_tat 1357 (by decide +kernel) rfl⟩
theorem zw_X9_holds : z_MW yX9_holds cX9_holds 2 (some .int) := ⟨z_tat 98 (by decide +kernel) rfl, z_tat 1366 (by decide +kernel) rfl, by decide +kernel, by decide +kernel⟩
theorem zv_X9_holds : z_MV yX9_holds := ⟨z_tat 1364 (by decide +kernel) rfl, z_tat 1365 (by decide +kernel) rfl⟩
theorem zw_X9_isUnder : z_MW yX9_isUnder cX9_isUnder 2 (some .boolean) := ⟨z_tat 98 (by decide +kernel) rfl, z_tat 1373 (by decide +kernel) rfl, by decide +kernel, by decide +kernel⟩
theorem zs_X9_isUnder : Cond.static yX9_isUnder ∈ z_tbl := z_tat 1372 (by decide +kernel) rfl
theorem zw_X9_says : z_MW yX9_says cX9_says 4 (some .int) := ⟨z_tat 98 (by decide +kernel) rfl, z_tat 1370 (by decide +kernel) rfl, by decide +kernel, by decide +kernel⟩
theorem zv_X9_says : z_MV yX9_says := ⟨z_tat 1368 (by decide +kernel) rfl, z_tat 1369 (by decide +kernel) rfl⟩
theorem zw_X9_makesHouse : z_MW yX9_makesHouse cX9_makesHouse 4 none := ⟨z_tat 98 (by decide +kernel) rfl, z_tat 1388 (by decide +kernel) rfl, by decide +kernel, by decide +kernel⟩
theorem zv_X9_makesHouse : z_MV yX9_makesHouse := ⟨z_tat 1387 (by decide +kernel) rfl, z_tat 43 (by decide +kernel) rfl⟩
theorem zw_X9_house : z_MW yX9_house cX9_house 5 (some .int) := ⟨z_tat 98 (by decide +kernel) rfl, z_tat 1381 (by decide +kernel) rfl, by decide +kernel, by decide +kernel⟩
theorem zv_X9_house : z_MV yX9_house := ⟨z_tat 1379 (by decide +kernel) rfl, z_tat 1380 (by decide +kernel) rfl⟩
theorem zw_X9_notWay : z_MW yX9_notWay cX9_notWay 4 (some .int) := ⟨z_tat 98 (by decide +kernel) rfl, z_tat 1396 (by decide +kernel) rfl, by decide +kernel, by decide +kernel⟩
theorem zv_X9_notWay : z_MV yX9_notWay := ⟨z_tat 1395 (by decide +kernel) rfl, z_tat 44 (by decide +kernel) rfl⟩
theorem zw_X9_makesWay : z_MW yX9_makesWay cX9_makesWay 4 none := ⟨z_tat 98 (by decide +kernel) rfl, z_tat 1400 (by decide +kernel) rfl, by decide +kernel, by decide +kernel⟩
theorem zv_X9_makesWay : z_MV yX9_makesWay := ⟨z_tat 1399 (by decide +kernel) rfl, z_tat 45 (by decide +kernel) rfl⟩
theorem zw_X9_way : z_MW yX9_way cX9_way 5 (some .int) := ⟨z_tat 98 (by decide +kernel) rfl, z_tat 1392 (by decide +kernel) rfl, by decide +kernel, by decide +kernel⟩
theorem zv_X9_way : z_MV yX9_way := ⟨z_tat 1390 (by decide +kernel) rfl, z_tat 1391 (by decide +kernel) rfl⟩
theorem zw_X9_ways : z_MW yX9_ways cX9_ways 6 (some .int) := ⟨z_tat 98 (by decide +kernel) rfl, z_tat 1404 (by decide +kernel) rfl, by decide +kernel, by decide +kernel⟩
theorem zv_X9_ways : z_MV yX9_ways := ⟨z_tat 1402 (by decide +kernel) rfl, z_tat 1403 (by decide +kernel) rfl⟩
theorem zw_X9_shut : z_MW yX9_shut cX9_shut 5 (some .int) := ⟨z_tat 98 (by decide +kernel) rfl, z_tat 1412 (by decide +kernel) rfl, by decide +kernel, by decide +kernel⟩
theorem zv_X9_shut : z_MV yX9_shut := ⟨z_tat 1410 (by decide +kernel) rfl, z_tat 1411 (by decide +kernel) rfl⟩
theorem zw_X9_lag : z_MW yX9_lag cX9_lag 3 (some .int) := ⟨z_tat 98 (by decide +kernel) rfl, z_tat 1420 (by decide +kernel) rfl, by decide +kernel, by decide +kernel⟩
theorem zv_X9_lag : z_MV yX9_lag := ⟨z_tat 1418 (by decide +kernel) rfl, z_tat 1419 (by decide +kernel) rfl⟩
theorem zw_X9_said : z_MW yX9_said cX9_said 4 (some .int) := ⟨z_tat 98 (by decide +kernel) rfl, z_tat 1424 (by decide +kernel) rfl, by decide +kernel, by decide +kernel⟩
theorem zv_X9_said : z_MV yX9_said := ⟨z_tat 1422 (by decide +kernel) rfl, z_tat 1423 (by decide +kernel) rfl⟩
theorem zw_X9_houseOf : z_MW yX9_houseOf cX9_houseOf 3 (some .int) := ⟨z_tat 98 (by decide +kernel) rfl, z_tat 1428 (by decide +kernel) rfl, by decide +kernel, by decide +kernel⟩
theorem zv_X9_houseOf : z_MV yX9_houseOf := ⟨z_tat 1426 (by decide +kernel) rfl, z_tat 1427 (by decide +kernel) rfl⟩
theorem zw_X9_wayOf : z_MW yX9_wayOf cX9_wayOf 3 (some .int) := ⟨z_tat 98 (by decide +kernel) rfl, z_tat 1432 (by decide +kernel) rfl, by decide +kernel, by decide +kernel⟩
theorem zv_X9_wayOf : z_MV yX9_wayOf := ⟨z_tat 1430 (by decide +kernel) rfl, z_tat 1431 (by decide +kernel) rfl⟩
theorem zw_X9_letter : z_MW yX9_letter cX9_letter 1 (some .int) := ⟨z_tat 98 (by decide +kernel) rfl, z_tat 1456 (by decide +kernel) rfl, by decide +kernel, by decide +kernel⟩
theorem zv_X9_letter : z_MV yX9_letter := ⟨z_tat 1455 (by decide +kernel) rfl, z_tat 52 (by decide +kernel) rfl⟩
theorem zw_X9_takes : z_MW yX9_takes cX9_takes 2 (some .boolean) := ⟨z_tat 98 (by decide +kernel) rfl, z_tat 1470 (by decide +kernel) rfl, by decide +kernel, by decide +kernel⟩
theorem zv_X9_takes : z_MV yX9_takes := ⟨z_tat 1469 (by decide +kernel) rfl, z_tat 55 (by decide +kernel) rfl⟩
theorem zw_X9_takesWord : z_MW yX9_takesWord cX9_takesWord 3 (some .boolean) := ⟨z_tat 98 (by decide +kernel) rfl, z_tat 1466 (by decide +kernel) rfl, by decide +kernel, by decide +kernel⟩
theorem zv_X9_takesWord : z_MV yX9_takesWord := ⟨z_tat 1465 (by decide +kernel) rfl, z_tat 54 (by decide +kernel) rfl⟩
theorem zw_X9_takesNumber : z_MW yX9_takesNumber cX9_takesNumber 4 (some .boolean) := ⟨z_tat 98 (by decide +kernel) rfl, z_tat 1474 (by decide +kernel) rfl, by decide +kernel, by decide +kernel⟩
theorem zv_X9_takesNumber : z_MV yX9_takesNumber := ⟨z_tat 1473 (by decide +kernel) rfl, z_tat 56 (by decide +kernel) rfl⟩
theorem zw_X9_takesHouse : z_MW yX9_takesHouse cX9_takesHouse 4 (some .boolean) := ⟨z_tat 98 (by decide +kernel) rfl, z_tat 1460 (by decide +kernel) rfl, by decide +kernel, by decide +kernel⟩
theorem zv_X9_takesHouse : z_MV yX9_takesHouse := ⟨z_tat 1459 (by decide +kernel) rfl, z_tat 53 (by decide +kernel) rfl⟩
theorem zw_X9_takesWay : z_MW yX9_takesWay cX9_takesWay 3 (some .boolean) := ⟨z_tat 98 (by decide +kernel) rfl, z_tat 1478 (by decide +kernel) rfl, by decide +kernel, by decide +kernel⟩
theorem zv_X9_takesWay : z_MV yX9_takesWay := ⟨z_tat 1477 (by decide +kernel) rfl, z_tat 57 (by decide +kernel) rfl⟩
theorem zw_X9_takesItem : z_MW yX9_takesItem cX9_takesItem 1 (some .boolean) := ⟨z_tat 98 (by decide +kernel) rfl, z_tat 1452 (by decide +kernel) rfl, by decide +kernel, by decide +kernel⟩
theorem zv_X9_takesItem : z_MV yX9_takesItem := ⟨z_tat 1451 (by decide +kernel) rfl, z_tat 51 (by decide +kernel) rfl⟩
theorem zw_X9_street : z_MW yX9_street cX9_street 5 (some .int) := ⟨z_tat 98 (by decide +kernel) rfl, z_tat 1436 (by decide +kernel) rfl, by decide +kernel, by decide +kernel⟩
theorem zv_X9_street : z_MV yX9_street := ⟨z_tat 1434 (by decide +kernel) rfl, z_tat 1435 (by decide +kernel) rfl⟩
theorem zw_X9_fault : z_MW yX9_fault cX9_fault 1 (some .int) := ⟨z_tat 98 (by decide +kernel) rfl, z_tat 1490 (by decide +kernel) rfl, by decide +kernel, by decide +kernel⟩
theorem zv_X9_fault : z_MV yX9_fault := ⟨z_tat 1488 (by decide +kernel) rfl, z_tat 1489 (by decide +kernel) rfl⟩
theorem zw_X9_passes : z_MW yX9_passes cX9_passes 4 none := ⟨z_tat 98 (by decide +kernel) rfl, z_tat 1444 (by decide +kernel) rfl, by decide +kernel, by decide +kernel⟩
theorem zv_X9_passes : z_MV yX9_passes := ⟨z_tat 1443 (by decide +kernel) rfl, z_tat 49 (by decide +kernel) rfl⟩
theorem zw_X9_passOne : z_MW yX9_passOne cX9_passOne 3 (some .int) := ⟨z_tat 98 (by decide +kernel) rfl, z_tat 1448 (by decide +kernel) rfl, by decide +kernel, by decide +kernel⟩
theorem zv_X9_passOne : z_MV yX9_passOne := ⟨z_tat 1447 (by decide +kernel) rfl, z_tat 50 (by decide +kernel) rfl⟩
theorem zw_X9_passesAll : z_MW yX9_passesAll cX9_passesAll 3 none := ⟨z_tat 98 (by decide +kernel) rfl, z_tat 1440 (by decide +kernel) rfl, by decide +kernel, by decide +kernel⟩
theorem zv_X9_passesAll : z_MV yX9_passesAll := ⟨z_tat 1439 (by decide +kernel) rfl, z_tat 48 (by decide +kernel) rfl⟩
theorem zw_X9_image : z_MW yX9_image cX9_image 1 (some .int) := ⟨z_tat 98 (by decide +kernel) rfl, z_tat 1494 (by decide +kernel) rfl, by decide +kernel, by decide +kernel⟩
theorem zv_X9_image : z_MV yX9_image := ⟨z_tat 1492 (by decide +kernel) rfl, z_tat 1493 (by decide +kernel) rfl⟩
theorem zw_X9_restore : z_MW yX9_restore cX9_restore 2 (some .int) := ⟨z_tat 98 (by decide +kernel) rfl, z_tat 1498 (by decide +kernel) rfl, by decide +kernel, by decide +kernel⟩
theorem zv_X9_restore : z_MV yX9_restore := ⟨z_tat 1496 (by decide +kernel) rfl, z_tat 1497 (by decide +kernel) rfl⟩
theorem zw_X9_reallyVisits : z_MW yX9_reallyVisits cX9_reallyVisits 2 (some .int) := ⟨z_tat 98 (by decide +kernel) rfl, z_tat 1506 (by decide +kernel) rfl, by decide +kernel, by decide +kernel⟩
theorem zv_X9_reallyVisits : z_MV yX9_reallyVisits := ⟨z_tat 1505 (by decide +kernel) rfl, z_tat 58 (by decide +kernel) rfl⟩
theorem zw_X9_put : z_MW yX9_put cX9_put 2 (some .int) := ⟨z_tat 98 (by decide +kernel) rfl, z_tat 1502 (by decide +kernel) rfl, by decide +kernel, by decide +kernel⟩
theorem zv_X9_put : z_MV yX9_put := ⟨z_tat 1500 (by decide +kernel) rfl, z_tat 1501 (by decide +kernel) rfl⟩
theorem zw_X9_isOf : z_MW yX9_isOf cX9_isOf 3 (some .boolean) := ⟨z_tat 98 (by decide +kernel) rfl, z_tat 1526 (by decide +kernel) rfl, by decide +kernel, by decide +kernel⟩
theorem zv_X9_isOf : z_MV yX9_isOf := ⟨z_tat 1525 (by decide +kernel) rfl, z_tat 62 (by decide +kernel) rfl⟩
theorem zw_X9_goesBy : z_MW yX9_goesBy cX9_goesBy 2 (some .int) := ⟨z_tat 98 (by decide +kernel) rfl, z_tat 1530 (by decide +kernel) rfl, by decide +kernel, by decide +kernel⟩
theorem zv_X9_goesBy : z_MV yX9_goesBy := ⟨z_tat 1529 (by decide +kernel) rfl, z_tat 63 (by decide +kernel) rfl⟩
theorem zw_X9_go : z_MW yX9_go cX9_go 2 (some .int) := ⟨z_tat 98 (by decide +kernel) rfl, z_tat 1518 (by decide +kernel) rfl, by decide +kernel, by decide +kernel⟩
theorem zv_X9_go : z_MV yX9_go := ⟨z_tat 1516 (by decide +kernel) rfl, z_tat 1517 (by decide +kernel) rfl⟩
theorem zw_X9_where : z_MW yX9_where cX9_where 1 (some .int) := ⟨z_tat 98 (by decide +kernel) rfl, z_tat 1534 (by decide +kernel) rfl, by decide +kernel, by decide +kernel⟩
theorem zv_X9_where : z_MV yX9_where := ⟨z_tat 1532 (by decide +kernel) rfl, z_tat 1533 (by decide +kernel) rfl⟩
theorem zw_X9_next : z_MW yX9_next cX9_next 1 (some .int) := ⟨z_tat 98 (by decide +kernel) rfl, z_tat 1538 (by decide +kernel) rfl, by decide +kernel, by decide +kernel⟩
theorem zv_X9_next : z_MV yX9_next := ⟨z_tat 1536 (by decide +kernel) rfl, z_tat 1537 (by decide +kernel) rfl⟩
theorem zw_X9_behind : z_MW yX9_behind cX9_behind 2 (some .int) := ⟨z_tat 98 (by decide +kernel) rfl, z_tat 1542 (by decide +kernel) rfl, by decide +kernel, by decide +kernel⟩
theorem zv_X9_behind : z_MV yX9_behind := ⟨z_tat 1540 (by decide +kernel) rfl, z_tat 1541 (by decide +kernel) rfl⟩
theorem zw_X9_answer : z_MW yX9_answer cX9_answer 3 (some .int) := ⟨z_tat 98 (by decide +kernel) rfl, z_tat 1546 (by decide +kernel) rfl, by decide +kernel, by decide +kernel⟩
theorem zv_X9_answer : z_MV yX9_answer := ⟨z_tat 1544 (by decide +kernel) rfl, z_tat 1545 (by decide +kernel) rfl⟩
theorem zw_X9_between : z_MW yX9_between cX9_between 3 (some .int) := ⟨z_tat 98 (by decide +kernel) rfl, z_tat 1550 (by decide +kernel) rfl, by decide +kernel, by decide +kernel⟩
theorem zv_X9_between : z_MV yX9_between := ⟨z_tat 1548 (by decide +kernel) rfl, z_tat 1549 (by decide +kernel) rfl⟩
theorem zw_X9_draw : z_MW yX9_draw cX9_draw 2 (some .int) := ⟨z_tat 98 (by decide +kernel) rfl, z_tat 1570 (by decide +kernel) rfl, by decide +kernel, by decide +kernel⟩
theorem zv_X9_draw : z_MV yX9_draw := ⟨z_tat 1569 (by decide +kernel) rfl, z_tat 67 (by decide +kernel) rfl⟩
theorem zw_X9_wander : z_MW yX9_wander cX9_wander 5 (some .int) := ⟨z_tat 98 (by decide +kernel) rfl, z_tat 1562 (by decide +kernel) rfl, by decide +kernel, by decide +kernel⟩
theorem zv_X9_wander : z_MV yX9_wander := ⟨z_tat 1560 (by decide +kernel) rfl, z_tat 1561 (by decide +kernel) rfl⟩
theorem zw_X9_who : z_MW yX9_who cX9_who 4 (some .int) := ⟨z_tat 98 (by decide +kernel) rfl, z_tat 1575 (by decide +kernel) rfl, by decide +kernel, by decide +kernel⟩
theorem zv_X9_who : z_MV yX9_who := ⟨z_tat 1573 (by decide +kernel) rfl, z_tat 1574 (by decide +kernel) rfl⟩
theorem zw_X9_bits : z_MW yX9_bits cX9_bits 3 (some .int) := ⟨z_tat 98 (by decide +kernel) rfl, z_tat 1582 (by decide +kernel) rfl, by decide +kernel, by decide +kernel⟩
theorem zs_X9_bits : Cond.static yX9_bits ∈ z_tbl := z_tat 1581 (by decide +kernel) rfl
theorem zw_X9_forget : z_MW yX9_forget cX9_forget 3 (some .int) := ⟨z_tat 98 (by decide +kernel) rfl, z_tat 1579 (by decide +kernel) rfl, by decide +kernel, by decide +kernel⟩
theorem zv_X9_forget : z_MV yX9_forget := ⟨z_tat 1577 (by decide +kernel) rfl, z_tat 1578 (by decide +kernel) rfl⟩
theorem zw_X9_seed : z_MW yX9_seed cX9_seed 3 (some .int) := ⟨z_tat 98 (by decide +kernel) rfl, z_tat 1586 (by decide +kernel) rfl, by decide +kernel, by decide +kernel⟩
theorem zv_X9_seed : z_MV yX9_seed := ⟨z_tat 1584 (by decide +kernel) rfl, z_tat 1585 (by decide +kernel) rfl⟩
theorem zw_X9_notRoute : z_MW yX9_notRoute cX9_notRoute 5 (some .int) := ⟨z_tat 98 (by decide +kernel) rfl, z_tat 1594 (by decide +kernel) rfl, by decide +kernel, by decide +kernel⟩
theorem zv_X9_notRoute : z_MV yX9_notRoute := ⟨z_tat 1593 (by decide +kernel) rfl, z_tat 68 (by decide +kernel) rfl⟩
theorem zw_X9_goesRoute : z_MW yX9_goesRoute cX9_goesRoute 6 (some .int) := ⟨z_tat 98 (by decide +kernel) rfl, z_tat 1598 (by decide +kernel) rfl, by decide +kernel, by decide +kernel⟩
theorem zv_X9_goesRoute : z_MV yX9_goesRoute := ⟨z_tat 1597 (by decide +kernel) rfl, z_tat 69 (by decide +kernel) rfl⟩
theorem zw_X9_judge : z_MW yX9_judge cX9_judge 4 (some .int) := ⟨z_tat 98 (by decide +kernel) rfl, z_tat 1590 (by decide +kernel) rfl, by decide +kernel, by decide +kernel⟩
theorem zv_X9_judge : z_MV yX9_judge := ⟨z_tat 1588 (by decide +kernel) rfl, z_tat 1589 (by decide +kernel) rfl⟩
theorem zw_X9_minutes : z_MW yX9_minutes cX9_minutes 4 (some .int) := ⟨z_tat 98 (by decide +kernel) rfl, z_tat 1610 (by decide +kernel) rfl, by decide +kernel, by decide +kernel⟩
theorem zv_X9_minutes : z_MV yX9_minutes := ⟨z_tat 1608 (by decide +kernel) rfl, z_tat 1609 (by decide +kernel) rfl⟩
theorem zw_X9_hears : z_MW yX9_hears cX9_hears 5 (some .int) := ⟨z_tat 98 (by decide +kernel) rfl, z_tat 1614 (by decide +kernel) rfl, by decide +kernel, by decide +kernel⟩
theorem zv_X9_hears : z_MV yX9_hears := ⟨z_tat 1612 (by decide +kernel) rfl, z_tat 1613 (by decide +kernel) rfl⟩
theorem zw_X9_other : z_MW yX9_other cX9_other 6 (some .int) := ⟨z_tat 98 (by decide +kernel) rfl, z_tat 1618 (by decide +kernel) rfl, by decide +kernel, by decide +kernel⟩
theorem zv_X9_other : z_MV yX9_other := ⟨z_tat 1616 (by decide +kernel) rfl, z_tat 1617 (by decide +kernel) rfl⟩
theorem zw_X9_takesBest : z_MW yX9_takesBest cX9_takesBest 2 none := ⟨z_tat 98 (by decide +kernel) rfl, z_tat 1647 (by decide +kernel) rfl, by decide +kernel, by decide +kernel⟩
theorem zv_X9_takesBest : z_MV yX9_takesBest := ⟨z_tat 1646 (by decide +kernel) rfl, z_tat 77 (by decide +kernel) rfl⟩
theorem zw_X9_isBetter : z_MW yX9_isBetter cX9_isBetter 1 (some .boolean) := ⟨z_tat 98 (by decide +kernel) rfl, z_tat 1643 (by decide +kernel) rfl, by decide +kernel, by decide +kernel⟩
theorem zv_X9_isBetter : z_MV yX9_isBetter := ⟨z_tat 1642 (by decide +kernel) rfl, z_tat 76 (by decide +kernel) rfl⟩
theorem zw_X9_toldOf : z_MW yX9_toldOf cX9_toldOf 2 (some .int) := ⟨z_tat 98 (by decide +kernel) rfl, z_tat 1651 (by decide +kernel) rfl, by decide +kernel, by decide +kernel⟩
theorem zv_X9_toldOf : z_MV yX9_toldOf := ⟨z_tat 1650 (by decide +kernel) rfl, z_tat 78 (by decide +kernel) rfl⟩
theorem zw_X9_aim : z_MW yX9_aim cX9_aim 6 (some .int) := ⟨z_tat 98 (by decide +kernel) rfl, z_tat 1622 (by decide +kernel) rfl, by decide +kernel, by decide +kernel⟩
theorem zv_X9_aim : z_MV yX9_aim := ⟨z_tat 1620 (by decide +kernel) rfl, z_tat 1621 (by decide +kernel) rfl⟩
theorem zw_X9_doAllHear : z_MW yX9_doAllHear cX9_doAllHear 4 (some .boolean) := ⟨z_tat 98 (by decide +kernel) rfl, z_tat 1659 (by decide +kernel) rfl, by decide +kernel, by decide +kernel⟩
theorem zv_X9_doAllHear : z_MV yX9_doAllHear := ⟨z_tat 1658 (by decide +kernel) rfl, z_tat 79 (by decide +kernel) rfl⟩
theorem zw_X9_round : z_MW yX9_round cX9_round 5 (some .int) := ⟨z_tat 98 (by decide +kernel) rfl, z_tat 1655 (by decide +kernel) rfl, by decide +kernel, by decide +kernel⟩
theorem zv_X9_round : z_MV yX9_round := ⟨z_tat 1653 (by decide +kernel) rfl, z_tat 1654 (by decide +kernel) rfl⟩
theorem zw_X9_findFits : z_MW yX9_findFits cX9_findFits 3 none := ⟨z_tat 98 (by decide +kernel) rfl, z_tat 1667 (by decide +kernel) rfl, by decide +kernel, by decide +kernel⟩
theorem zv_X9_findFits : z_MV yX9_findFits := ⟨z_tat 1666 (by decide +kernel) rfl, z_tat 80 (by decide +kernel) rfl⟩
theorem zw_X9_fits : z_MW yX9_fits cX9_fits 4 (some .int) := ⟨z_tat 98 (by decide +kernel) rfl, z_tat 1663 (by decide +kernel) rfl, by decide +kernel, by decide +kernel⟩
theorem zv_X9_fits : z_MV yX9_fits := ⟨z_tat 1661 (by decide +kernel) rfl, z_tat 1662 (by decide +kernel) rfl⟩
theorem zw_X9_from : z_MW yX9_from cX9_from 5 (some .int) := ⟨z_tat 98 (by decide +kernel) rfl, z_tat 1671 (by decide +kernel) rfl, by decide +kernel, by decide +kernel⟩
theorem zv_X9_from : z_MV yX9_from := ⟨z_tat 1669 (by decide +kernel) rfl, z_tat 1670 (by decide +kernel) rfl⟩
theorem zw_X9_odds : z_MW yX9_odds cX9_odds 9 (some .long) := ⟨z_tat 98 (by decide +kernel) rfl, z_tat 1675 (by decide +kernel) rfl, by decide +kernel, by decide +kernel⟩
theorem zv_X9_odds : z_MV yX9_odds := ⟨z_tat 1673 (by decide +kernel) rfl, z_tat 1674 (by decide +kernel) rfl⟩
theorem zw_X9_canHear : z_MW yX9_canHear cX9_canHear 4 (some .boolean) := ⟨z_tat 98 (by decide +kernel) rfl, z_tat 1687 (by decide +kernel) rfl, by decide +kernel, by decide +kernel⟩
theorem zv_X9_canHear : z_MV yX9_canHear := ⟨z_tat 1686 (by decide +kernel) rfl, z_tat 82 (by decide +kernel) rfl⟩
theorem zw_X9_shuts : z_MW yX9_shuts cX9_shuts 6 (some .int) := ⟨z_tat 98 (by decide +kernel) rfl, z_tat 1679 (by decide +kernel) rfl, by decide +kernel, by decide +kernel⟩
theorem zv_X9_shuts : z_MV yX9_shuts := ⟨z_tat 1677 (by decide +kernel) rfl, z_tat 1678 (by decide +kernel) rfl⟩
theorem zw_X9_doesShutTwice : z_MW yX9_doesShutTwice cX9_doesShutTwice 3 (some .boolean) := ⟨z_tat 98 (by decide +kernel) rfl, z_tat 1683 (by decide +kernel) rfl, by decide +kernel, by decide +kernel⟩
theorem zv_X9_doesShutTwice : z_MV yX9_doesShutTwice := ⟨z_tat 1682 (by decide +kernel) rfl, z_tat 81 (by decide +kernel) rfl⟩
theorem zw_X9_reach : z_MW yX9_reach cX9_reach 4 (some .int) := ⟨z_tat 98 (by decide +kernel) rfl, z_tat 1691 (by decide +kernel) rfl, by decide +kernel, by decide +kernel⟩
theorem zv_X9_reach : z_MV yX9_reach := ⟨z_tat 1689 (by decide +kernel) rfl, z_tat 1690 (by decide +kernel) rfl⟩
theorem zw_X9_first : z_MW yX9_first cX9_first 4 (some .int) := ⟨z_tat 98 (by decide +kernel) rfl, z_tat 1695 (by decide +kernel) rfl, by decide +kernel, by decide +kernel⟩
theorem zv_X9_first : z_MV yX9_first := ⟨z_tat 1693 (by decide +kernel) rfl, z_tat 1694 (by decide +kernel) rfl⟩
theorem zw_X9_note : z_MW yX9_note cX9_note 2 none := ⟨z_tat 98 (by decide +kernel) rfl, z_tat 1707 (by decide +kernel) rfl, by decide +kernel, by decide +kernel⟩
theorem zv_X9_note : z_MV yX9_note := ⟨z_tat 1706 (by decide +kernel) rfl, z_tat 84 (by decide +kernel) rfl⟩
theorem zw_X9_callsOf : z_MW yX9_callsOf cX9_callsOf 4 (some .int) := ⟨z_tat 98 (by decide +kernel) rfl, z_tat 1703 (by decide +kernel) rfl, by decide +kernel, by decide +kernel⟩
theorem zv_X9_callsOf : z_MV yX9_callsOf := ⟨z_tat 1702 (by decide +kernel) rfl, z_tat 83 (by decide +kernel) rfl⟩
theorem zw_X9_plainHushes : z_MW yX9_plainHushes cX9_plainHushes 3 (some .int) := ⟨z_tat 98 (by decide +kernel) rfl, z_tat 1715 (by decide +kernel) rfl, by decide +kernel, by decide +kernel⟩
theorem zv_X9_plainHushes : z_MV yX9_plainHushes := ⟨z_tat 1714 (by decide +kernel) rfl, z_tat 86 (by decide +kernel) rfl⟩
theorem zw_X9_hushesOf : z_MW yX9_hushesOf cX9_hushesOf 3 (some .int) := ⟨z_tat 98 (by decide +kernel) rfl, z_tat 1711 (by decide +kernel) rfl, by decide +kernel, by decide +kernel⟩
theorem zv_X9_hushesOf : z_MV yX9_hushesOf := ⟨z_tat 1710 (by decide +kernel) rfl, z_tat 85 (by decide +kernel) rfl⟩
theorem zw_X9_plainOpens : z_MW yX9_plainOpens cX9_plainOpens 4 (some .int) := ⟨z_tat 98 (by decide +kernel) rfl, z_tat 1723 (by decide +kernel) rfl, by decide +kernel, by decide +kernel⟩
theorem zv_X9_plainOpens : z_MV yX9_plainOpens := ⟨z_tat 1722 (by decide +kernel) rfl, z_tat 88 (by decide +kernel) rfl⟩
theorem zw_X9_opensOf : z_MW yX9_opensOf cX9_opensOf 3 (some .int) := ⟨z_tat 98 (by decide +kernel) rfl, z_tat 1719 (by decide +kernel) rfl, by decide +kernel, by decide +kernel⟩
theorem zv_X9_opensOf : z_MV yX9_opensOf := ⟨z_tat 1718 (by decide +kernel) rfl, z_tat 87 (by decide +kernel) rfl⟩
theorem zw_X9_act : z_MW yX9_act cX9_act 4 (some .int) := ⟨z_tat 98 (by decide +kernel) rfl, z_tat 1699 (by decide +kernel) rfl, by decide +kernel, by decide +kernel⟩
theorem zv_X9_act : z_MV yX9_act := ⟨z_tat 1697 (by decide +kernel) rfl, z_tat 1698 (by decide +kernel) rfl⟩
theorem zw_X9_trace : z_MW yX9_trace cX9_trace 2 (some .int) := ⟨z_tat 98 (by decide +kernel) rfl, z_tat 1727 (by decide +kernel) rfl, by decide +kernel, by decide +kernel⟩
theorem zv_X9_trace : z_MV yX9_trace := ⟨z_tat 1725 (by decide +kernel) rfl, z_tat 1726 (by decide +kernel) rfl⟩
theorem zw_X9_status : z_MW yX9_status cX9_status 4 (some .int) := ⟨z_tat 98 (by decide +kernel) rfl, z_tat 1731 (by decide +kernel) rfl, by decide +kernel, by decide +kernel⟩
theorem zv_X9_status : z_MV yX9_status := ⟨z_tat 1729 (by decide +kernel) rfl, z_tat 1730 (by decide +kernel) rfl⟩
theorem zw_J6_bitCount_0f7a4 : z_MW yJ6_bitCount_0f7a4 cJ6_bitCount_0f7a4 1 (some .int) := ⟨z_tat 106 (by decide +kernel) rfl, z_tat 1019 (by decide +kernel) rfl, by decide +kernel, by decide +kernel⟩
theorem zs_J6_bitCount_0f7a4 : Cond.static yJ6_bitCount_0f7a4 ∈ z_tbl := z_tat 1018 (by decide +kernel) rfl
theorem zw_J9_max_7cf53 : z_MW yJ9_max_7cf53 cJ9_max_7cf53 2 (some .int) := ⟨z_tat 101 (by decide +kernel) rfl, z_tat 465 (by decide +kernel) rfl, by decide +kernel, by decide +kernel⟩
theorem zw_J0_length_8abf5 : z_MW yJ0_length_8abf5 cJ0_length_8abf5 1 (some .int) := ⟨z_tat 102 (by decide +kernel) rfl, z_tat 623 (by decide +kernel) rfl, by decide +kernel, by decide +kernel⟩
theorem zv_J0_length_8abf5 : z_MV yJ0_length_8abf5 := ⟨z_tat 621 (by decide +kernel) rfl, z_tat 622 (by decide +kernel) rfl⟩
theorem zw_J0_charAt_5068e : z_MW yJ0_charAt_5068e cJ0_charAt_5068e 2 (some .char) := ⟨z_tat 102 (by decide +kernel) rfl, z_tat 633 (by decide +kernel) rfl, by decide +kernel, by decide +kernel⟩
theorem zv_J0_charAt_5068e : z_MV yJ0_charAt_5068e := ⟨z_tat 631 (by decide +kernel) rfl, z_tat 632 (by decide +kernel) rfl⟩
theorem zw_J0_coder_7d493 : z_MW yJ0_coder_7d493 cJ0_coder_7d493 1 (some .byte) := ⟨z_tat 102 (by decide +kernel) rfl, z_tat 627 (by decide +kernel) rfl, by decide +kernel, by decide +kernel⟩
theorem zv_J0_coder_7d493 : z_MV yJ0_coder_7d493 := ⟨z_tat 625 (by decide +kernel) rfl, z_tat 626 (by decide +kernel) rfl⟩
theorem zw_J0_isLatin1_aae02 : z_MW yJ0_isLatin1_aae02 cJ0_isLatin1_aae02 1 (some .boolean) := ⟨z_tat 102 (by decide +kernel) rfl, z_tat 637 (by decide +kernel) rfl, by decide +kernel, by decide +kernel⟩
theorem zv_J0_isLatin1_aae02 : z_MV yJ0_isLatin1_aae02 := ⟨z_tat 635 (by decide +kernel) rfl, z_tat 636 (by decide +kernel) rfl⟩
theorem zw_J0_checkIndex_df160 : z_MW yJ0_checkIndex_df160 cJ0_checkIndex_df160 2 none := ⟨z_tat 102 (by decide +kernel) rfl, z_tat 643 (by decide +kernel) rfl, by decide +kernel, by decide +kernel⟩
theorem zs_J0_checkIndex_df160 : Cond.static yJ0_checkIndex_df160 ∈ z_tbl := z_tat 642 (by decide +kernel) rfl
theorem zw_J1_charAt_3b067 : z_MW yJ1_charAt_3b067 cJ1_charAt_3b067 2 (some .char) := ⟨z_tat 103 (by decide +kernel) rfl, z_tat 640 (by decide +kernel) rfl, by decide +kernel, by decide +kernel⟩
theorem zs_J1_charAt_3b067 : Cond.static yJ1_charAt_3b067 ∈ z_tbl := z_tat 639 (by decide +kernel) rfl
theorem zw_J2_getChar_3b067 : z_MW yJ2_getChar_3b067 cJ2_getChar_3b067 2 (some .char) := ⟨z_tat 105 (by decide +kernel) rfl, z_tat 661 (by decide +kernel) rfl, by decide +kernel, by decide +kernel⟩
theorem zs_J2_getChar_3b067 : Cond.static yJ2_getChar_3b067 ∈ z_tbl := z_tat 660 (by decide +kernel) rfl
theorem zw_J2_length_9d52b : z_MW yJ2_length_9d52b cJ2_length_9d52b 1 (some .int) := ⟨z_tat 105 (by decide +kernel) rfl, z_tat 657 (by decide +kernel) rfl, by decide +kernel, by decide +kernel⟩
theorem zs_J2_length_9d52b : Cond.static yJ2_length_9d52b ∈ z_tbl := z_tat 656 (by decide +kernel) rfl
theorem zw_J2_charAt_3b067 : z_MW yJ2_charAt_3b067 cJ2_charAt_3b067 2 (some .char) := ⟨z_tat 105 (by decide +kernel) rfl, z_tat 651 (by decide +kernel) rfl, by decide +kernel, by decide +kernel⟩
theorem zs_J2_charAt_3b067 : Cond.static yJ2_charAt_3b067 ∈ z_tbl := z_tat 650 (by decide +kernel) rfl
theorem zw_J2_checkIndex_2214a : z_MW yJ2_checkIndex_2214a cJ2_checkIndex_2214a 2 none := ⟨z_tat 105 (by decide +kernel) rfl, z_tat 654 (by decide +kernel) rfl, by decide +kernel, by decide +kernel⟩
theorem zs_J2_checkIndex_2214a : Cond.static yJ2_checkIndex_2214a ∈ z_tbl := z_tat 653 (by decide +kernel) rfl
theorem zw_J3_checkIndex_8e157 : z_MW yJ3_checkIndex_8e157 cJ3_checkIndex_8e157 3 (some .int) := ⟨z_tat 104 (by decide +kernel) rfl, z_tat 648 (by decide +kernel) rfl, by decide +kernel, by decide +kernel⟩
theorem zs_J3_checkIndex_8e157 : Cond.static yJ3_checkIndex_8e157 ∈ z_tbl := z_tat 647 (by decide +kernel) rfl
end

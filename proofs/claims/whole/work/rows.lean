section
-- ===== PART A: goes FIRST, ahead of the names: the tables' words, and 'selects' of the private methods out of them =====
/-- a private method of a class that the tables say can be made, by its rows of tables_1 -/
def lw_okq (q : MethodName × Nat) : Prop := (q.1.cls ≠ "java/lang/invoke/MethodHandle" ∧ q.1.cls ≠ "java/lang/invoke/VarHandle") ∧ Cond.instantiable q.1.cls q.2 ∈ tables_1 ∧ Cond.privateMethod q.1 ∈ tables_1 ∧ Cond.instanceMethod q.1 ∈ tables_1
theorem lw_p0 : lw_okq (⟨"EveningAuction", "judgedOutcome", "()LEveningAuction$Outcome;"⟩, 10) := ⟨⟨by decide +kernel, by decide +kernel⟩, List.mem_of_getElem? (i := 14) (by decide +kernel), List.mem_of_getElem? (i := 250) (by decide +kernel), List.mem_of_getElem? (i := 251) (by decide +kernel)⟩
theorem lw_p1 : lw_okq (⟨"EveningAuction$BidText", "fits", "(I)Z"⟩, 4) := ⟨⟨by decide +kernel, by decide +kernel⟩, List.mem_of_getElem? (i := 71) (by decide +kernel), List.mem_of_getElem? (i := 258) (by decide +kernel), List.mem_of_getElem? (i := 259) (by decide +kernel)⟩
theorem lw_p2 : lw_okq (⟨"EveningAuction$Outcome", "clear", "()V"⟩, 8) := ⟨⟨by decide +kernel, by decide +kernel⟩, List.mem_of_getElem? (i := 94) (by decide +kernel), List.mem_of_getElem? (i := 267) (by decide +kernel), List.mem_of_getElem? (i := 268) (by decide +kernel)⟩
theorem lw_p3 : lw_okq (⟨"EveningAuction$Outcome", "holdsNow", "(LEveningAuction$Town;LEveningAuction$BidText;I)Z"⟩, 8) := ⟨⟨by decide +kernel, by decide +kernel⟩, List.mem_of_getElem? (i := 94) (by decide +kernel), List.mem_of_getElem? (i := 271) (by decide +kernel), List.mem_of_getElem? (i := 272) (by decide +kernel)⟩
theorem lw_p4 : lw_okq (⟨"EveningAuction$Outcome", "lead", "(III)V"⟩, 8) := ⟨⟨by decide +kernel, by decide +kernel⟩, List.mem_of_getElem? (i := 94) (by decide +kernel), List.mem_of_getElem? (i := 287) (by decide +kernel), List.mem_of_getElem? (i := 288) (by decide +kernel)⟩
theorem lw_p5 : lw_okq (⟨"EveningAuction", "replace", "([III)I"⟩, 10) := ⟨⟨by decide +kernel, by decide +kernel⟩, List.mem_of_getElem? (i := 14) (by decide +kernel), List.mem_of_getElem? (i := 306) (by decide +kernel), List.mem_of_getElem? (i := 307) (by decide +kernel)⟩
theorem lw_p6 : lw_okq (⟨"EveningAuction", "finding", "(I)I"⟩, 10) := ⟨⟨by decide +kernel, by decide +kernel⟩, List.mem_of_getElem? (i := 14) (by decide +kernel), List.mem_of_getElem? (i := 350) (by decide +kernel), List.mem_of_getElem? (i := 351) (by decide +kernel)⟩
theorem lw_p7 : lw_okq (⟨"EveningAuction", "cheapestToMeet", "(LEveningAuction$Outcome;II)I"⟩, 10) := ⟨⟨by decide +kernel, by decide +kernel⟩, List.mem_of_getElem? (i := 14) (by decide +kernel), List.mem_of_getElem? (i := 428) (by decide +kernel), List.mem_of_getElem? (i := 429) (by decide +kernel)⟩
theorem lw_p8 : lw_okq (⟨"EveningAuction", "solvedOneEach", "()LEveningAuction$OneEach;"⟩, 10) := ⟨⟨by decide +kernel, by decide +kernel⟩, List.mem_of_getElem? (i := 14) (by decide +kernel), List.mem_of_getElem? (i := 444) (by decide +kernel), List.mem_of_getElem? (i := 445) (by decide +kernel)⟩
theorem lw_p9 : lw_okq (⟨"EveningAuction$OneEach", "mostFrom", "(LEveningAuction$Town;II)I"⟩, 5) := ⟨⟨by decide +kernel, by decide +kernel⟩, List.mem_of_getElem? (i := 132) (by decide +kernel), List.mem_of_getElem? (i := 452) (by decide +kernel), List.mem_of_getElem? (i := 453) (by decide +kernel)⟩
theorem lw_p10 : lw_okq (⟨"EveningAuction$OneEach", "leastChoice", "(LEveningAuction$Town;III)I"⟩, 5) := ⟨⟨by decide +kernel, by decide +kernel⟩, List.mem_of_getElem? (i := 132) (by decide +kernel), List.mem_of_getElem? (i := 456) (by decide +kernel), List.mem_of_getElem? (i := 457) (by decide +kernel)⟩
theorem lw_p11 : lw_okq (⟨"EveningAuction", "valuedClubs", "()LEveningAuction$Clubs;"⟩, 10) := ⟨⟨by decide +kernel, by decide +kernel⟩, List.mem_of_getElem? (i := 14) (by decide +kernel), List.mem_of_getElem? (i := 473) (by decide +kernel), List.mem_of_getElem? (i := 474) (by decide +kernel)⟩
theorem lw_p12 : lw_okq (⟨"EveningAuction$Sightings", "eveningsWith", "(I)I"⟩, 4) := ⟨⟨by decide +kernel, by decide +kernel⟩, List.mem_of_getElem? (i := 173) (by decide +kernel), List.mem_of_getElem? (i := 542) (by decide +kernel), List.mem_of_getElem? (i := 543) (by decide +kernel)⟩
theorem lw_p13 : lw_okq (⟨"EveningAuction$Sightings", "waysToDeal", "(III)I"⟩, 4) := ⟨⟨by decide +kernel, by decide +kernel⟩, List.mem_of_getElem? (i := 173) (by decide +kernel), List.mem_of_getElem? (i := 547) (by decide +kernel), List.mem_of_getElem? (i := 548) (by decide +kernel)⟩
theorem lw_p14 : lw_okq (⟨"EveningAuction$Sightings", "waysWithOneMore", "(II)I"⟩, 4) := ⟨⟨by decide +kernel, by decide +kernel⟩, List.mem_of_getElem? (i := 173) (by decide +kernel), List.mem_of_getElem? (i := 551) (by decide +kernel), List.mem_of_getElem? (i := 552) (by decide +kernel)⟩
theorem lw_p15 : lw_okq (⟨"EveningAuction", "digestOfBids", "(J)J"⟩, 10) := ⟨⟨by decide +kernel, by decide +kernel⟩, List.mem_of_getElem? (i := 14) (by decide +kernel), List.mem_of_getElem? (i := 642) (by decide +kernel), List.mem_of_getElem? (i := 643) (by decide +kernel)⟩
def lw_privs_1 : List (MethodName × Nat) := [(⟨"EveningAuction", "judgedOutcome", "()LEveningAuction$Outcome;"⟩, 10), (⟨"EveningAuction$BidText", "fits", "(I)Z"⟩, 4), (⟨"EveningAuction$Outcome", "clear", "()V"⟩, 8), (⟨"EveningAuction$Outcome", "holdsNow", "(LEveningAuction$Town;LEveningAuction$BidText;I)Z"⟩, 8), (⟨"EveningAuction$Outcome", "lead", "(III)V"⟩, 8), (⟨"EveningAuction", "replace", "([III)I"⟩, 10), (⟨"EveningAuction", "finding", "(I)I"⟩, 10), (⟨"EveningAuction", "cheapestToMeet", "(LEveningAuction$Outcome;II)I"⟩, 10), (⟨"EveningAuction", "solvedOneEach", "()LEveningAuction$OneEach;"⟩, 10), (⟨"EveningAuction$OneEach", "mostFrom", "(LEveningAuction$Town;II)I"⟩, 5), (⟨"EveningAuction$OneEach", "leastChoice", "(LEveningAuction$Town;III)I"⟩, 5), (⟨"EveningAuction", "valuedClubs", "()LEveningAuction$Clubs;"⟩, 10), (⟨"EveningAuction$Sightings", "eveningsWith", "(I)I"⟩, 4), (⟨"EveningAuction$Sightings", "waysToDeal", "(III)I"⟩, 4), (⟨"EveningAuction$Sightings", "waysWithOneMore", "(II)I"⟩, 4), (⟨"EveningAuction", "digestOfBids", "(J)J"⟩, 10)]
theorem lw_r1 : ∀ q ∈ lw_privs_1, lw_okq q := List.forall_mem_cons.mpr ⟨lw_p0, List.forall_mem_cons.mpr ⟨lw_p1, List.forall_mem_cons.mpr ⟨lw_p2, List.forall_mem_cons.mpr ⟨lw_p3, List.forall_mem_cons.mpr ⟨lw_p4, List.forall_mem_cons.mpr ⟨lw_p5, List.forall_mem_cons.mpr ⟨lw_p6, List.forall_mem_cons.mpr ⟨lw_p7, List.forall_mem_cons.mpr ⟨lw_p8, List.forall_mem_cons.mpr ⟨lw_p9, List.forall_mem_cons.mpr ⟨lw_p10, List.forall_mem_cons.mpr ⟨lw_p11, List.forall_mem_cons.mpr ⟨lw_p12, List.forall_mem_cons.mpr ⟨lw_p13, List.forall_mem_cons.mpr ⟨lw_p14, List.forall_mem_cons.mpr ⟨lw_p15, fun _ h => absurd h List.not_mem_nil⟩⟩⟩⟩⟩⟩⟩⟩⟩⟩⟩⟩⟩⟩⟩⟩
theorem lw_p16 : lw_okq (⟨"EveningAuction", "digestOfEvenings", "(J)J"⟩, 10) := ⟨⟨by decide +kernel, by decide +kernel⟩, List.mem_of_getElem? (i := 14) (by decide +kernel), List.mem_of_getElem? (i := 648) (by decide +kernel), List.mem_of_getElem? (i := 649) (by decide +kernel)⟩
theorem lw_p17 : lw_okq (⟨"EveningAuction", "digestOfBidders", "(J)J"⟩, 10) := ⟨⟨by decide +kernel, by decide +kernel⟩, List.mem_of_getElem? (i := 14) (by decide +kernel), List.mem_of_getElem? (i := 657) (by decide +kernel), List.mem_of_getElem? (i := 658) (by decide +kernel)⟩
theorem lw_p18 : lw_okq (⟨"EveningAuctionModel", "met", "(I)I"⟩, 29) := ⟨⟨by decide +kernel, by decide +kernel⟩, List.mem_of_getElem? (i := 671) (by decide +kernel), List.mem_of_getElem? (i := 777) (by decide +kernel), List.mem_of_getElem? (i := 778) (by decide +kernel)⟩
theorem lw_p19 : lw_okq (⟨"EveningAuctionModel", "lacks", "(III)I"⟩, 29) := ⟨⟨by decide +kernel, by decide +kernel⟩, List.mem_of_getElem? (i := 671) (by decide +kernel), List.mem_of_getElem? (i := 789) (by decide +kernel), List.mem_of_getElem? (i := 790) (by decide +kernel)⟩
theorem lw_p20 : lw_okq (⟨"EveningAuctionModel", "reads", "()I"⟩, 29) := ⟨⟨by decide +kernel, by decide +kernel⟩, List.mem_of_getElem? (i := 671) (by decide +kernel), List.mem_of_getElem? (i := 818) (by decide +kernel), List.mem_of_getElem? (i := 819) (by decide +kernel)⟩
theorem lw_p21 : lw_okq (⟨"EveningAuctionModel", "readsPart", "()Z"⟩, 29) := ⟨⟨by decide +kernel, by decide +kernel⟩, List.mem_of_getElem? (i := 671) (by decide +kernel), List.mem_of_getElem? (i := 822) (by decide +kernel), List.mem_of_getElem? (i := 823) (by decide +kernel)⟩
theorem lw_p22 : lw_okq (⟨"EveningAuctionModel", "here", "()I"⟩, 29) := ⟨⟨by decide +kernel, by decide +kernel⟩, List.mem_of_getElem? (i := 671) (by decide +kernel), List.mem_of_getElem? (i := 826) (by decide +kernel), List.mem_of_getElem? (i := 827) (by decide +kernel)⟩
theorem lw_p23 : lw_okq (⟨"EveningAuctionModel", "none", "()I"⟩, 29) := ⟨⟨by decide +kernel, by decide +kernel⟩, List.mem_of_getElem? (i := 671) (by decide +kernel), List.mem_of_getElem? (i := 832) (by decide +kernel), List.mem_of_getElem? (i := 833) (by decide +kernel)⟩
theorem lw_p24 : lw_okq (⟨"EveningAuctionModel", "find", "()V"⟩, 29) := ⟨⟨by decide +kernel, by decide +kernel⟩, List.mem_of_getElem? (i := 671) (by decide +kernel), List.mem_of_getElem? (i := 888) (by decide +kernel), List.mem_of_getElem? (i := 889) (by decide +kernel)⟩
theorem lw_p25 : lw_okq (⟨"EveningAuctionModel", "looks", "(I)V"⟩, 29) := ⟨⟨by decide +kernel, by decide +kernel⟩, List.mem_of_getElem? (i := 671) (by decide +kernel), List.mem_of_getElem? (i := 892) (by decide +kernel), List.mem_of_getElem? (i := 893) (by decide +kernel)⟩
theorem lw_p26 : lw_okq (⟨"EveningAuctionModel", "isHolding", "(I)Z"⟩, 29) := ⟨⟨by decide +kernel, by decide +kernel⟩, List.mem_of_getElem? (i := 671) (by decide +kernel), List.mem_of_getElem? (i := 896) (by decide +kernel), List.mem_of_getElem? (i := 897) (by decide +kernel)⟩
theorem lw_p27 : lw_okq (⟨"EveningAuctionModel", "amountOf", "(I)I"⟩, 29) := ⟨⟨by decide +kernel, by decide +kernel⟩, List.mem_of_getElem? (i := 671) (by decide +kernel), List.mem_of_getElem? (i := 900) (by decide +kernel), List.mem_of_getElem? (i := 901) (by decide +kernel)⟩
theorem lw_p28 : lw_okq (⟨"EveningAuctionModel", "ownerOf", "(I)I"⟩, 29) := ⟨⟨by decide +kernel, by decide +kernel⟩, List.mem_of_getElem? (i := 671) (by decide +kernel), List.mem_of_getElem? (i := 904) (by decide +kernel), List.mem_of_getElem? (i := 905) (by decide +kernel)⟩
theorem lw_p29 : lw_okq (⟨"EveningAuctionModel", "leadsWith", "(II)I"⟩, 29) := ⟨⟨by decide +kernel, by decide +kernel⟩, List.mem_of_getElem? (i := 671) (by decide +kernel), List.mem_of_getElem? (i := 908) (by decide +kernel), List.mem_of_getElem? (i := 909) (by decide +kernel)⟩
theorem lw_p30 : lw_okq (⟨"EveningAuctionModel", "priceOf", "(I)I"⟩, 29) := ⟨⟨by decide +kernel, by decide +kernel⟩, List.mem_of_getElem? (i := 671) (by decide +kernel), List.mem_of_getElem? (i := 924) (by decide +kernel), List.mem_of_getElem? (i := 925) (by decide +kernel)⟩
theorem lw_p31 : lw_okq (⟨"EveningAuctionModel", "hasOf", "(II)I"⟩, 29) := ⟨⟨by decide +kernel, by decide +kernel⟩, List.mem_of_getElem? (i := 671) (by decide +kernel), List.mem_of_getElem? (i := 932) (by decide +kernel), List.mem_of_getElem? (i := 933) (by decide +kernel)⟩
def lw_privs_2 : List (MethodName × Nat) := [(⟨"EveningAuction", "digestOfEvenings", "(J)J"⟩, 10), (⟨"EveningAuction", "digestOfBidders", "(J)J"⟩, 10), (⟨"EveningAuctionModel", "met", "(I)I"⟩, 29), (⟨"EveningAuctionModel", "lacks", "(III)I"⟩, 29), (⟨"EveningAuctionModel", "reads", "()I"⟩, 29), (⟨"EveningAuctionModel", "readsPart", "()Z"⟩, 29), (⟨"EveningAuctionModel", "here", "()I"⟩, 29), (⟨"EveningAuctionModel", "none", "()I"⟩, 29), (⟨"EveningAuctionModel", "find", "()V"⟩, 29), (⟨"EveningAuctionModel", "looks", "(I)V"⟩, 29), (⟨"EveningAuctionModel", "isHolding", "(I)Z"⟩, 29), (⟨"EveningAuctionModel", "amountOf", "(I)I"⟩, 29), (⟨"EveningAuctionModel", "ownerOf", "(I)I"⟩, 29), (⟨"EveningAuctionModel", "leadsWith", "(II)I"⟩, 29), (⟨"EveningAuctionModel", "priceOf", "(I)I"⟩, 29), (⟨"EveningAuctionModel", "hasOf", "(II)I"⟩, 29)]
theorem lw_r2 : ∀ q ∈ lw_privs_2, lw_okq q := List.forall_mem_cons.mpr ⟨lw_p16, List.forall_mem_cons.mpr ⟨lw_p17, List.forall_mem_cons.mpr ⟨lw_p18, List.forall_mem_cons.mpr ⟨lw_p19, List.forall_mem_cons.mpr ⟨lw_p20, List.forall_mem_cons.mpr ⟨lw_p21, List.forall_mem_cons.mpr ⟨lw_p22, List.forall_mem_cons.mpr ⟨lw_p23, List.forall_mem_cons.mpr ⟨lw_p24, List.forall_mem_cons.mpr ⟨lw_p25, List.forall_mem_cons.mpr ⟨lw_p26, List.forall_mem_cons.mpr ⟨lw_p27, List.forall_mem_cons.mpr ⟨lw_p28, List.forall_mem_cons.mpr ⟨lw_p29, List.forall_mem_cons.mpr ⟨lw_p30, List.forall_mem_cons.mpr ⟨lw_p31, fun _ h => absurd h List.not_mem_nil⟩⟩⟩⟩⟩⟩⟩⟩⟩⟩⟩⟩⟩⟩⟩⟩
theorem lw_p32 : lw_okq (⟨"EveningAuctionModel", "happyOf", "(II)I"⟩, 29) := ⟨⟨by decide +kernel, by decide +kernel⟩, List.mem_of_getElem? (i := 671) (by decide +kernel), List.mem_of_getElem? (i := 940) (by decide +kernel), List.mem_of_getElem? (i := 941) (by decide +kernel)⟩
theorem lw_p33 : lw_okq (⟨"EveningAuctionModel", "refusedBy", "(I)I"⟩, 29) := ⟨⟨by decide +kernel, by decide +kernel⟩, List.mem_of_getElem? (i := 671) (by decide +kernel), List.mem_of_getElem? (i := 951) (by decide +kernel), List.mem_of_getElem? (i := 952) (by decide +kernel)⟩
theorem lw_p34 : lw_okq (⟨"EveningAuctionModel", "harmOf", "(I)I"⟩, 29) := ⟨⟨by decide +kernel, by decide +kernel⟩, List.mem_of_getElem? (i := 671) (by decide +kernel), List.mem_of_getElem? (i := 960) (by decide +kernel), List.mem_of_getElem? (i := 961) (by decide +kernel)⟩
theorem lw_p35 : lw_okq (⟨"EveningAuctionModel", "joyOfAll", "(I)I"⟩, 29) := ⟨⟨by decide +kernel, by decide +kernel⟩, List.mem_of_getElem? (i := 671) (by decide +kernel), List.mem_of_getElem? (i := 964) (by decide +kernel), List.mem_of_getElem? (i := 965) (by decide +kernel)⟩
theorem lw_p36 : lw_okq (⟨"EveningAuctionModel", "gainOf", "(I)I"⟩, 29) := ⟨⟨by decide +kernel, by decide +kernel⟩, List.mem_of_getElem? (i := 671) (by decide +kernel), List.mem_of_getElem? (i := 972) (by decide +kernel), List.mem_of_getElem? (i := 973) (by decide +kernel)⟩
theorem lw_p37 : lw_okq (⟨"EveningAuctionModel", "withoutOf", "(II)I"⟩, 29) := ⟨⟨by decide +kernel, by decide +kernel⟩, List.mem_of_getElem? (i := 671) (by decide +kernel), List.mem_of_getElem? (i := 980) (by decide +kernel), List.mem_of_getElem? (i := 981) (by decide +kernel)⟩
theorem lw_p38 : lw_okq (⟨"EveningAuctionModel", "meetOf", "(III)I"⟩, 29) := ⟨⟨by decide +kernel, by decide +kernel⟩, List.mem_of_getElem? (i := 671) (by decide +kernel), List.mem_of_getElem? (i := 989) (by decide +kernel), List.mem_of_getElem? (i := 990) (by decide +kernel)⟩
theorem lw_p39 : lw_okq (⟨"EveningAuctionModel", "buyingOf", "(II)I"⟩, 29) := ⟨⟨by decide +kernel, by decide +kernel⟩, List.mem_of_getElem? (i := 671) (by decide +kernel), List.mem_of_getElem? (i := 996) (by decide +kernel), List.mem_of_getElem? (i := 997) (by decide +kernel)⟩
theorem lw_p40 : lw_okq (⟨"EveningAuctionModel", "eachOf", "(I)I"⟩, 29) := ⟨⟨by decide +kernel, by decide +kernel⟩, List.mem_of_getElem? (i := 671) (by decide +kernel), List.mem_of_getElem? (i := 1005) (by decide +kernel), List.mem_of_getElem? (i := 1006) (by decide +kernel)⟩
theorem lw_p41 : lw_okq (⟨"EveningAuctionModel", "findMost", "(I)V"⟩, 29) := ⟨⟨by decide +kernel, by decide +kernel⟩, List.mem_of_getElem? (i := 671) (by decide +kernel), List.mem_of_getElem? (i := 1009) (by decide +kernel), List.mem_of_getElem? (i := 1010) (by decide +kernel)⟩
theorem lw_p42 : lw_okq (⟨"EveningAuctionModel", "paysOf", "(I)I"⟩, 29) := ⟨⟨by decide +kernel, by decide +kernel⟩, List.mem_of_getElem? (i := 671) (by decide +kernel), List.mem_of_getElem? (i := 1017) (by decide +kernel), List.mem_of_getElem? (i := 1018) (by decide +kernel)⟩
theorem lw_p43 : lw_okq (⟨"EveningAuctionModel", "clubOf", "(I)I"⟩, 29) := ⟨⟨by decide +kernel, by decide +kernel⟩, List.mem_of_getElem? (i := 671) (by decide +kernel), List.mem_of_getElem? (i := 1025) (by decide +kernel), List.mem_of_getElem? (i := 1026) (by decide +kernel)⟩
theorem lw_p44 : lw_okq (⟨"EveningAuctionModel", "shareOf", "(II)J"⟩, 29) := ⟨⟨by decide +kernel, by decide +kernel⟩, List.mem_of_getElem? (i := 671) (by decide +kernel), List.mem_of_getElem? (i := 1033) (by decide +kernel), List.mem_of_getElem? (i := 1034) (by decide +kernel)⟩
theorem lw_p45 : lw_okq (⟨"EveningAuctionModel", "ownersOf", "(I)I"⟩, 29) := ⟨⟨by decide +kernel, by decide +kernel⟩, List.mem_of_getElem? (i := 671) (by decide +kernel), List.mem_of_getElem? (i := 1061) (by decide +kernel), List.mem_of_getElem? (i := 1062) (by decide +kernel)⟩
theorem lw_p46 : lw_okq (⟨"EveningAuctionModel", "findWays", "()I"⟩, 29) := ⟨⟨by decide +kernel, by decide +kernel⟩, List.mem_of_getElem? (i := 671) (by decide +kernel), List.mem_of_getElem? (i := 1065) (by decide +kernel), List.mem_of_getElem? (i := 1066) (by decide +kernel)⟩
theorem lw_p47 : lw_okq (⟨"EveningAuctionModel", "findSeen", "()Z"⟩, 29) := ⟨⟨by decide +kernel, by decide +kernel⟩, List.mem_of_getElem? (i := 671) (by decide +kernel), List.mem_of_getElem? (i := 1069) (by decide +kernel), List.mem_of_getElem? (i := 1070) (by decide +kernel)⟩
def lw_privs_3 : List (MethodName × Nat) := [(⟨"EveningAuctionModel", "happyOf", "(II)I"⟩, 29), (⟨"EveningAuctionModel", "refusedBy", "(I)I"⟩, 29), (⟨"EveningAuctionModel", "harmOf", "(I)I"⟩, 29), (⟨"EveningAuctionModel", "joyOfAll", "(I)I"⟩, 29), (⟨"EveningAuctionModel", "gainOf", "(I)I"⟩, 29), (⟨"EveningAuctionModel", "withoutOf", "(II)I"⟩, 29), (⟨"EveningAuctionModel", "meetOf", "(III)I"⟩, 29), (⟨"EveningAuctionModel", "buyingOf", "(II)I"⟩, 29), (⟨"EveningAuctionModel", "eachOf", "(I)I"⟩, 29), (⟨"EveningAuctionModel", "findMost", "(I)V"⟩, 29), (⟨"EveningAuctionModel", "paysOf", "(I)I"⟩, 29), (⟨"EveningAuctionModel", "clubOf", "(I)I"⟩, 29), (⟨"EveningAuctionModel", "shareOf", "(II)J"⟩, 29), (⟨"EveningAuctionModel", "ownersOf", "(I)I"⟩, 29), (⟨"EveningAuctionModel", "findWays", "()I"⟩, 29), (⟨"EveningAuctionModel", "findSeen", "()Z"⟩, 29)]
theorem lw_r3 : ∀ q ∈ lw_privs_3, lw_okq q := List.forall_mem_cons.mpr ⟨lw_p32, List.forall_mem_cons.mpr ⟨lw_p33, List.forall_mem_cons.mpr ⟨lw_p34, List.forall_mem_cons.mpr ⟨lw_p35, List.forall_mem_cons.mpr ⟨lw_p36, List.forall_mem_cons.mpr ⟨lw_p37, List.forall_mem_cons.mpr ⟨lw_p38, List.forall_mem_cons.mpr ⟨lw_p39, List.forall_mem_cons.mpr ⟨lw_p40, List.forall_mem_cons.mpr ⟨lw_p41, List.forall_mem_cons.mpr ⟨lw_p42, List.forall_mem_cons.mpr ⟨lw_p43, List.forall_mem_cons.mpr ⟨lw_p44, List.forall_mem_cons.mpr ⟨lw_p45, List.forall_mem_cons.mpr ⟨lw_p46, List.forall_mem_cons.mpr ⟨lw_p47, fun _ h => absurd h List.not_mem_nil⟩⟩⟩⟩⟩⟩⟩⟩⟩⟩⟩⟩⟩⟩⟩⟩
theorem lw_p48 : lw_okq (⟨"EveningAuctionModel", "worthOf", "(III)J"⟩, 29) := ⟨⟨by decide +kernel, by decide +kernel⟩, List.mem_of_getElem? (i := 671) (by decide +kernel), List.mem_of_getElem? (i := 1077) (by decide +kernel), List.mem_of_getElem? (i := 1078) (by decide +kernel)⟩
theorem lw_p49 : lw_okq (⟨"EveningAuctionModel", "swapOf", "(II)I"⟩, 29) := ⟨⟨by decide +kernel, by decide +kernel⟩, List.mem_of_getElem? (i := 671) (by decide +kernel), List.mem_of_getElem? (i := 1085) (by decide +kernel), List.mem_of_getElem? (i := 1086) (by decide +kernel)⟩
def lw_privs_4 : List (MethodName × Nat) := [(⟨"EveningAuctionModel", "worthOf", "(III)J"⟩, 29), (⟨"EveningAuctionModel", "swapOf", "(II)I"⟩, 29)]
theorem lw_r4 : ∀ q ∈ lw_privs_4, lw_okq q := List.forall_mem_cons.mpr ⟨lw_p48, List.forall_mem_cons.mpr ⟨lw_p49, fun _ h => absurd h List.not_mem_nil⟩⟩
def lw_privs : List (MethodName × Nat) := lw_privs_1 ++ (lw_privs_2 ++ (lw_privs_3 ++ (lw_privs_4)))
def lw_tbl : List Cond := k2_sels lw_privs ++ tables_1
theorem lw_privs_ok : ∀ q ∈ lw_privs, lw_okq q := by
  show ∀ q ∈ lw_privs_1 ++ (lw_privs_2 ++ (lw_privs_3 ++ (lw_privs_4))), lw_okq q
  exact List.forall_mem_append.mpr ⟨lw_r1, List.forall_mem_append.mpr ⟨lw_r2, List.forall_mem_append.mpr ⟨lw_r3, lw_r4⟩⟩⟩
def lw_g : List Cond := lw_tbl.filter goodWord
theorem g_mem {w : Cond} (i : Nat) (h : tables_1[i]? = some w) (hg : goodWord w = true) : w ∈ lw_g := List.mem_filter.mpr ⟨List.mem_append_right _ (List.mem_of_getElem? h), hg⟩
theorem g_sel {q : MethodName × Nat} (i : Nat) (h : lw_privs[i]? = some q) : Cond.selects q.1.cls q.1 q.1 ∈ lw_g := List.mem_filter.mpr ⟨List.mem_append_left _ (List.mem_map.mpr ⟨q, List.mem_of_getElem? h, rfl⟩), rfl⟩
theorem g_tbl {args : Array Value} {s : State} (h : ∀ w ∈ lw_tbl, w.before args s = true) : ∀ w ∈ lw_g, w.before args s = true := fun w hw => h w (List.mem_filter.mp hw).1
theorem g_good {ws : List Cond} (h : ∀ w ∈ ws, w ∈ lw_g) : GoodIn lw_g ws := fun w hw => ⟨h w hw, good_of_word (List.mem_filter.mp (h w hw)).2⟩
end
section
def RC0 : String := "EveningAuction$BidText"
def TC0 : u_T := fun k => match k with
  | 0 => ("EveningAuction$BidText", "bytes", "[I", true)
  | 1 => ("EveningAuction$BidText", "length", "I", false)
  | 2 => ("EveningAuction$BidText", "faultAt", "I", false)
  | _ => ("EveningAuction$BidText", "number", "I", false)
def tyC0 : Nat → FieldType := fun k => match k with
  | 0 => .array .int
  | 1 => .int
  | 2 => .int
  | _ => .int
theorem nmC0 : ∀ a, a < 4 → ∀ b, b < 4 → a ≠ b → (TC0 a).2.1 ≠ (TC0 b).2.1 := by decide +kernel
theorem okC0 : ∀ k, k < 4 → parseFieldDescriptor (TC0 k).2.2.1 = some (tyC0 k) := by decide +kernel
theorem inC0 : ∀ x ∈ u_ws RC0 TC0 4, x ∈ lw_g := by
  intro x hx
  obtain ⟨k, hk, rfl⟩ := List.mem_map.mp hx
  have hk := List.mem_range.mp hk
  match k, hk with
  | 0, _ => exact g_mem 84 (by decide +kernel) (by decide +kernel)
  | 1, _ => exact g_mem 86 (by decide +kernel) (by decide +kernel)
  | 2, _ => exact g_mem 88 (by decide +kernel) (by decide +kernel)
  | 3, _ => exact g_mem 90 (by decide +kernel) (by decide +kernel)
  | k + 4, h => exact absurd h (by omega)
def RC1 : String := "EveningAuction$Clubs"
def TC1 : u_T := fun k => match k with
  | 0 => ("EveningAuction$Clubs", "worths", "[I", true)
  | _ => ("EveningAuction$Clubs", "edition", "I", false)
def tyC1 : Nat → FieldType := fun k => match k with
  | 0 => .array .int
  | _ => .int
theorem nmC1 : ∀ a, a < 2 → ∀ b, b < 2 → a ≠ b → (TC1 a).2.1 ≠ (TC1 b).2.1 := by decide +kernel
theorem okC1 : ∀ k, k < 2 → parseFieldDescriptor (TC1 k).2.2.1 = some (tyC1 k) := by decide +kernel
theorem inC1 : ∀ x ∈ u_ws RC1 TC1 2, x ∈ lw_g := by
  intro x hx
  obtain ⟨k, hk, rfl⟩ := List.mem_map.mp hx
  have hk := List.mem_range.mp hk
  match k, hk with
  | 0, _ => exact g_mem 167 (by decide +kernel) (by decide +kernel)
  | 1, _ => exact g_mem 169 (by decide +kernel) (by decide +kernel)
  | k + 2, h => exact absurd h (by omega)
def RC2 : String := "EveningAuction$OneEach"
def TC2 : u_T := fun k => match k with
  | 0 => ("EveningAuction$OneEach", "mostOfSet", "[I", true)
  | 1 => ("EveningAuction$OneEach", "row", "[I", true)
  | 2 => ("EveningAuction$OneEach", "totalWithout", "[I", true)
  | 3 => ("EveningAuction$OneEach", "total", "I", false)
  | _ => ("EveningAuction$OneEach", "edition", "I", false)
def tyC2 : Nat → FieldType := fun k => match k with
  | 0 => .array .int
  | 1 => .array .int
  | 2 => .array .int
  | 3 => .int
  | _ => .int
theorem nmC2 : ∀ a, a < 5 → ∀ b, b < 5 → a ≠ b → (TC2 a).2.1 ≠ (TC2 b).2.1 := by decide +kernel
theorem okC2 : ∀ k, k < 5 → parseFieldDescriptor (TC2 k).2.2.1 = some (tyC2 k) := by decide +kernel
theorem inC2 : ∀ x ∈ u_ws RC2 TC2 5, x ∈ lw_g := by
  intro x hx
  obtain ⟨k, hk, rfl⟩ := List.mem_map.mp hx
  have hk := List.mem_range.mp hk
  match k, hk with
  | 0, _ => exact g_mem 146 (by decide +kernel) (by decide +kernel)
  | 1, _ => exact g_mem 148 (by decide +kernel) (by decide +kernel)
  | 2, _ => exact g_mem 150 (by decide +kernel) (by decide +kernel)
  | 3, _ => exact g_mem 152 (by decide +kernel) (by decide +kernel)
  | 4, _ => exact g_mem 154 (by decide +kernel) (by decide +kernel)
  | k + 5, h => exact absurd h (by omega)
def RC3 : String := "EveningAuction$Outcome"
def TC3 : u_T := fun k => match k with
  | 0 => ("EveningAuction$Outcome", "held", "[Z", true)
  | 1 => ("EveningAuction$Outcome", "leaders", "[I", true)
  | 2 => ("EveningAuction$Outcome", "amounts", "[I", true)
  | 3 => ("EveningAuction$Outcome", "seconds", "[I", true)
  | 4 => ("EveningAuction$Outcome", "bound", "[I", true)
  | 5 => ("EveningAuction$Outcome", "numberHeld", "I", false)
  | 6 => ("EveningAuction$Outcome", "firstNotHeld", "I", false)
  | _ => ("EveningAuction$Outcome", "edition", "I", false)
def tyC3 : Nat → FieldType := fun k => match k with
  | 0 => .array .boolean
  | 1 => .array .int
  | 2 => .array .int
  | 3 => .array .int
  | 4 => .array .int
  | 5 => .int
  | 6 => .int
  | _ => .int
theorem nmC3 : ∀ a, a < 8 → ∀ b, b < 8 → a ≠ b → (TC3 a).2.1 ≠ (TC3 b).2.1 := by decide +kernel
theorem okC3 : ∀ k, k < 8 → parseFieldDescriptor (TC3 k).2.2.1 = some (tyC3 k) := by decide +kernel
theorem inC3 : ∀ x ∈ u_ws RC3 TC3 8, x ∈ lw_g := by
  intro x hx
  obtain ⟨k, hk, rfl⟩ := List.mem_map.mp hx
  have hk := List.mem_range.mp hk
  match k, hk with
  | 0, _ => exact g_mem 113 (by decide +kernel) (by decide +kernel)
  | 1, _ => exact g_mem 115 (by decide +kernel) (by decide +kernel)
  | 2, _ => exact g_mem 117 (by decide +kernel) (by decide +kernel)
  | 3, _ => exact g_mem 119 (by decide +kernel) (by decide +kernel)
  | 4, _ => exact g_mem 121 (by decide +kernel) (by decide +kernel)
  | 5, _ => exact g_mem 123 (by decide +kernel) (by decide +kernel)
  | 6, _ => exact g_mem 125 (by decide +kernel) (by decide +kernel)
  | 7, _ => exact g_mem 127 (by decide +kernel) (by decide +kernel)
  | k + 8, h => exact absurd h (by omega)
def RC4 : String := "EveningAuction$Sheet"
def TC4 : u_T := fun k => match k with
  | 0 => ("EveningAuction$Sheet", "form", "I", true)
  | _ => ("EveningAuction$Sheet", "items", "[I", true)
def tyC4 : Nat → FieldType := fun k => match k with
  | 0 => .int
  | _ => .array .int
theorem nmC4 : ∀ a, a < 2 → ∀ b, b < 2 → a ≠ b → (TC4 a).2.1 ≠ (TC4 b).2.1 := by decide +kernel
theorem okC4 : ∀ k, k < 2 → parseFieldDescriptor (TC4 k).2.2.1 = some (tyC4 k) := by decide +kernel
theorem inC4 : ∀ x ∈ u_ws RC4 TC4 2, x ∈ lw_g := by
  intro x hx
  obtain ⟨k, hk, rfl⟩ := List.mem_map.mp hx
  have hk := List.mem_range.mp hk
  match k, hk with
  | 0, _ => exact g_mem 579 (by decide +kernel) (by decide +kernel)
  | 1, _ => exact g_mem 581 (by decide +kernel) (by decide +kernel)
  | k + 2, h => exact absurd h (by omega)
def RC5 : String := "EveningAuction$Sightings"
def TC5 : u_T := fun k => match k with
  | 0 => ("EveningAuction$Sightings", "programmes", "[I", true)
  | 1 => ("EveningAuction$Sightings", "waysOf", "[I", true)
  | 2 => ("EveningAuction$Sightings", "oneWithTwo", "Z", false)
  | _ => ("EveningAuction$Sightings", "number", "I", false)
def tyC5 : Nat → FieldType := fun k => match k with
  | 0 => .array .int
  | 1 => .array .int
  | 2 => .boolean
  | _ => .int
theorem nmC5 : ∀ a, a < 4 → ∀ b, b < 4 → a ≠ b → (TC5 a).2.1 ≠ (TC5 b).2.1 := by decide +kernel
theorem okC5 : ∀ k, k < 4 → parseFieldDescriptor (TC5 k).2.2.1 = some (tyC5 k) := by decide +kernel
theorem inC5 : ∀ x ∈ u_ws RC5 TC5 4, x ∈ lw_g := by
  intro x hx
  obtain ⟨k, hk, rfl⟩ := List.mem_map.mp hx
  have hk := List.mem_range.mp hk
  match k, hk with
  | 0, _ => exact g_mem 188 (by decide +kernel) (by decide +kernel)
  | 1, _ => exact g_mem 190 (by decide +kernel) (by decide +kernel)
  | 2, _ => exact g_mem 192 (by decide +kernel) (by decide +kernel)
  | 3, _ => exact g_mem 194 (by decide +kernel) (by decide +kernel)
  | k + 4, h => exact absurd h (by omega)
def RC6 : String := "EveningAuction$Town"
def TC6 : u_T := fun k => match k with
  | 0 => ("EveningAuction$Town", "purses", "[I", true)
  | 1 => ("EveningAuction$Town", "programmes", "[I", true)
  | 2 => ("EveningAuction$Town", "values", "[[I", true)
  | 3 => ("EveningAuction$Town", "joys", "[[I", true)
  | 4 => ("EveningAuction$Town", "busyness", "[[I", true)
  | 5 => ("EveningAuction$Town", "reserves", "[I", true)
  | 6 => ("EveningAuction$Town", "clouds", "[I", true)
  | _ => ("EveningAuction$Town", "rules", "[I", true)
def tyC6 : Nat → FieldType := fun k => match k with
  | 0 => .array .int
  | 1 => .array .int
  | 2 => .array (.array .int)
  | 3 => .array (.array .int)
  | 4 => .array (.array .int)
  | 5 => .array .int
  | 6 => .array .int
  | _ => .array .int
theorem nmC6 : ∀ a, a < 8 → ∀ b, b < 8 → a ≠ b → (TC6 a).2.1 ≠ (TC6 b).2.1 := by decide +kernel
theorem okC6 : ∀ k, k < 8 → parseFieldDescriptor (TC6 k).2.2.1 = some (tyC6 k) := by decide +kernel
theorem inC6 : ∀ x ∈ u_ws RC6 TC6 8, x ∈ lw_g := by
  intro x hx
  obtain ⟨k, hk, rfl⟩ := List.mem_map.mp hx
  have hk := List.mem_range.mp hk
  match k, hk with
  | 0, _ => exact g_mem 52 (by decide +kernel) (by decide +kernel)
  | 1, _ => exact g_mem 54 (by decide +kernel) (by decide +kernel)
  | 2, _ => exact g_mem 56 (by decide +kernel) (by decide +kernel)
  | 3, _ => exact g_mem 58 (by decide +kernel) (by decide +kernel)
  | 4, _ => exact g_mem 60 (by decide +kernel) (by decide +kernel)
  | 5, _ => exact g_mem 62 (by decide +kernel) (by decide +kernel)
  | 6, _ => exact g_mem 64 (by decide +kernel) (by decide +kernel)
  | 7, _ => exact g_mem 66 (by decide +kernel) (by decide +kernel)
  | k + 8, h => exact absurd h (by omega)
def RC7 : String := "EveningAuction"
def TC7 : u_T := fun k => match k with
  | 0 => ("EveningAuction", "town", "LEveningAuction$Town;", true)
  | 1 => ("EveningAuction", "bids", "LEveningAuction$BidText;", true)
  | 2 => ("EveningAuction", "outcome", "LEveningAuction$Outcome;", true)
  | 3 => ("EveningAuction", "otherOutcome", "LEveningAuction$Outcome;", true)
  | 4 => ("EveningAuction", "oneEach", "LEveningAuction$OneEach;", true)
  | 5 => ("EveningAuction", "clubs", "LEveningAuction$Clubs;", true)
  | 6 => ("EveningAuction", "sightings", "LEveningAuction$Sightings;", true)
  | 7 => ("EveningAuction", "sheets", "[LEveningAuction$Sheet;", true)
  | 8 => ("EveningAuction", "latestFinding", "I", false)
  | _ => ("EveningAuction", "edition", "I", false)
def tyC7 : Nat → FieldType := fun k => match k with
  | 0 => .object "EveningAuction$Town"
  | 1 => .object "EveningAuction$BidText"
  | 2 => .object "EveningAuction$Outcome"
  | 3 => .object "EveningAuction$Outcome"
  | 4 => .object "EveningAuction$OneEach"
  | 5 => .object "EveningAuction$Clubs"
  | 6 => .object "EveningAuction$Sightings"
  | 7 => .array (.object "EveningAuction$Sheet")
  | 8 => .int
  | _ => .int
theorem nmC7 : ∀ a, a < 10 → ∀ b, b < 10 → a ≠ b → (TC7 a).2.1 ≠ (TC7 b).2.1 := by decide +kernel
theorem okC7 : ∀ k, k < 10 → parseFieldDescriptor (TC7 k).2.2.1 = some (tyC7 k) := by decide +kernel
theorem inC7 : ∀ x ∈ u_ws RC7 TC7 10, x ∈ lw_g := by
  intro x hx
  obtain ⟨k, hk, rfl⟩ := List.mem_map.mp hx
  have hk := List.mem_range.mp hk
  match k, hk with
  | 0, _ => exact g_mem 209 (by decide +kernel) (by decide +kernel)
  | 1, _ => exact g_mem 211 (by decide +kernel) (by decide +kernel)
  | 2, _ => exact g_mem 213 (by decide +kernel) (by decide +kernel)
  | 3, _ => exact g_mem 215 (by decide +kernel) (by decide +kernel)
  | 4, _ => exact g_mem 217 (by decide +kernel) (by decide +kernel)
  | 5, _ => exact g_mem 219 (by decide +kernel) (by decide +kernel)
  | 6, _ => exact g_mem 221 (by decide +kernel) (by decide +kernel)
  | 7, _ => exact g_mem 223 (by decide +kernel) (by decide +kernel)
  | 8, _ => exact g_mem 225 (by decide +kernel) (by decide +kernel)
  | 9, _ => exact g_mem 227 (by decide +kernel) (by decide +kernel)
  | k + 10, h => exact absurd h (by omega)
def RC8 : String := "EveningAuctionModel"
def TC8 : u_T := fun k => match k with
  | 0 => ("EveningAuctionModel", "forms", "[I", true)
  | 1 => ("EveningAuctionModel", "sizes", "[I", true)
  | 2 => ("EveningAuctionModel", "items", "[I", true)
  | 3 => ("EveningAuctionModel", "moved", "[I", true)
  | 4 => ("EveningAuctionModel", "latest", "I", false)
  | 5 => ("EveningAuctionModel", "text", "[I", true)
  | 6 => ("EveningAuctionModel", "typed", "I", false)
  | 7 => ("EveningAuctionModel", "at", "I", false)
  | 8 => ("EveningAuctionModel", "bids", "I", false)
  | 9 => ("EveningAuctionModel", "bid", "[I", true)
  | 10 => ("EveningAuctionModel", "purses", "[I", true)
  | 11 => ("EveningAuctionModel", "programmes", "[I", true)
  | 12 => ("EveningAuctionModel", "values", "[I", true)
  | 13 => ("EveningAuctionModel", "joys", "[I", true)
  | 14 => ("EveningAuctionModel", "reserves", "[I", true)
  | 15 => ("EveningAuctionModel", "clouds", "[I", true)
  | 16 => ("EveningAuctionModel", "settings", "[I", true)
  | 17 => ("EveningAuctionModel", "busies", "[I", true)
  | 18 => ("EveningAuctionModel", "leads", "[I", true)
  | 19 => ("EveningAuctionModel", "holds", "[Z", true)
  | 20 => ("EveningAuctionModel", "firstNot", "I", false)
  | 21 => ("EveningAuctionModel", "most", "[I", true)
  | 22 => ("EveningAuctionModel", "sights", "I", false)
  | 23 => ("EveningAuctionModel", "seen", "[I", true)
  | 24 => ("EveningAuctionModel", "asSeen", "[I", true)
  | 25 => ("EveningAuctionModel", "whose", "[I", true)
  | 26 => ("EveningAuctionModel", "held", "[I", true)
  | 27 => ("EveningAuctionModel", "asked", "[I", true)
  | _ => ("EveningAuctionModel", "pick", "[I", true)
def tyC8 : Nat → FieldType := fun k => match k with
  | 0 => .array .int
  | 1 => .array .int
  | 2 => .array .int
  | 3 => .array .int
  | 4 => .int
  | 5 => .array .int
  | 6 => .int
  | 7 => .int
  | 8 => .int
  | 9 => .array .int
  | 10 => .array .int
  | 11 => .array .int
  | 12 => .array .int
  | 13 => .array .int
  | 14 => .array .int
  | 15 => .array .int
  | 16 => .array .int
  | 17 => .array .int
  | 18 => .array .int
  | 19 => .array .boolean
  | 20 => .int
  | 21 => .array .int
  | 22 => .int
  | 23 => .array .int
  | 24 => .array .int
  | 25 => .array .int
  | 26 => .array .int
  | 27 => .array .int
  | _ => .array .int
theorem nmC8 : ∀ a, a < 29 → ∀ b, b < 29 → a ≠ b → (TC8 a).2.1 ≠ (TC8 b).2.1 := by decide +kernel
theorem okC8 : ∀ k, k < 29 → parseFieldDescriptor (TC8 k).2.2.1 = some (tyC8 k) := by decide +kernel
theorem inC8 : ∀ x ∈ u_ws RC8 TC8 29, x ∈ lw_g := by
  intro x hx
  obtain ⟨k, hk, rfl⟩ := List.mem_map.mp hx
  have hk := List.mem_range.mp hk
  match k, hk with
  | 0, _ => exact g_mem 705 (by decide +kernel) (by decide +kernel)
  | 1, _ => exact g_mem 707 (by decide +kernel) (by decide +kernel)
  | 2, _ => exact g_mem 709 (by decide +kernel) (by decide +kernel)
  | 3, _ => exact g_mem 711 (by decide +kernel) (by decide +kernel)
  | 4, _ => exact g_mem 713 (by decide +kernel) (by decide +kernel)
  | 5, _ => exact g_mem 715 (by decide +kernel) (by decide +kernel)
  | 6, _ => exact g_mem 717 (by decide +kernel) (by decide +kernel)
  | 7, _ => exact g_mem 719 (by decide +kernel) (by decide +kernel)
  | 8, _ => exact g_mem 721 (by decide +kernel) (by decide +kernel)
  | 9, _ => exact g_mem 723 (by decide +kernel) (by decide +kernel)
  | 10, _ => exact g_mem 725 (by decide +kernel) (by decide +kernel)
  | 11, _ => exact g_mem 727 (by decide +kernel) (by decide +kernel)
  | 12, _ => exact g_mem 729 (by decide +kernel) (by decide +kernel)
  | 13, _ => exact g_mem 731 (by decide +kernel) (by decide +kernel)
  | 14, _ => exact g_mem 733 (by decide +kernel) (by decide +kernel)
  | 15, _ => exact g_mem 735 (by decide +kernel) (by decide +kernel)
  | 16, _ => exact g_mem 737 (by decide +kernel) (by decide +kernel)
  | 17, _ => exact g_mem 739 (by decide +kernel) (by decide +kernel)
  | 18, _ => exact g_mem 741 (by decide +kernel) (by decide +kernel)
  | 19, _ => exact g_mem 743 (by decide +kernel) (by decide +kernel)
  | 20, _ => exact g_mem 745 (by decide +kernel) (by decide +kernel)
  | 21, _ => exact g_mem 747 (by decide +kernel) (by decide +kernel)
  | 22, _ => exact g_mem 749 (by decide +kernel) (by decide +kernel)
  | 23, _ => exact g_mem 751 (by decide +kernel) (by decide +kernel)
  | 24, _ => exact g_mem 753 (by decide +kernel) (by decide +kernel)
  | 25, _ => exact g_mem 755 (by decide +kernel) (by decide +kernel)
  | 26, _ => exact g_mem 757 (by decide +kernel) (by decide +kernel)
  | 27, _ => exact g_mem 759 (by decide +kernel) (by decide +kernel)
  | 28, _ => exact g_mem 761 (by decide +kernel) (by decide +kernel)
  | k + 29, h => exact absurd h (by omega)
abbrev vwCl : List vw_C := [(RC0, TC0, 4), (RC1, TC1, 2), (RC2, TC2, 5), (RC3, TC3, 8), (RC4, TC4, 2), (RC5, TC5, 4), (RC6, TC6, 8), (RC7, TC7, 10), (RC8, TC8, 29)]
end
section
/-! ===== the one world of class and reference: cells 0..72 are made once, from 73 on sheets come in pairs (object, items) ===== -/
abbrev St : Type := Nat → Nat → Int32
def up (S : St) (k i : Nat) (v : Int32) : St := fun j => cond (Nat.beq j k) (upd (S j) i v) (S j)
theorem up_ne {S : St} {k i : Nat} {v : Int32} {j : Nat} (h : j ≠ k) : up S k i v j = S j := by
  have e : Nat.beq j k = false := by
    cases hb : Nat.beq j k with
    | false => rfl
    | true => exact absurd (Nat.eq_of_beq_eq_true hb) h
  simp [up, e]
theorem up_eq {S : St} {k i : Nat} {v : Int32} : up S k i v k = upd (S k) i v := by
  simp [up, Nat.beq_refl]
abbrev gw : Type := va_G × (ClassId × ClassId × ClassId × ClassId) × Nat × (Nat → Nat) × (Nat → Nat) × (Nat × Nat × Nat)
def gD (w : gw) : va_G := w.1
def gcI (w : gw) : ClassId := w.2.1.1
def gcZ (w : gw) : ClassId := w.2.1.2.1
def gcQ (w : gw) : ClassId := w.2.1.2.2.1
def gcR (w : gw) : ClassId := w.2.1.2.2.2
def gN (w : gw) : Nat := w.2.2.1
def gad (w : gw) : Nat → Nat := w.2.2.2.1
def gln (w : gw) : Nat → Nat := w.2.2.2.2.1
def gt1 (w : gw) : Nat := w.2.2.2.2.2.1
def gt2 (w : gw) : Nat := w.2.2.2.2.2.2.1
def gt3 (w : gw) : Nat := w.2.2.2.2.2.2.2
def gty (w : gw) : List (ClassId × FieldType) := [(gcI w, .int), (gcZ w, .boolean), (gcQ w, .object "EveningAuction$Sheet"), (gcR w, .array .int)]
def ar_i (w : gw) (n : Nat) (r : Nat → Int32) : va_E := .inl (gcI w, n, .inl r)
def ar_z (w : gw) (n : Nat) (r : Nat → Int32) : va_E := .inl (gcZ w, n, .inl r)
def ar_2 (w : gw) (k : Nat) : va_E := .inl (gcR w, 5, .inr (.inr (.inr (.inr (fun i => if i < 5 then some (gad w (k + i)) else none)))))
def sh_r (w : gw) (x : Int32) : Option Nat := if x < 0 then none else some (gad w x.toNatClampNeg)
def ar_s (w : gw) (r : Nat → Int32) : va_E := .inl (gcQ w, 4, .inr (.inr (.inr (.inr (fun i => sh_r w (r i))))))
def fxr (w : gw) (r : Nat → Int32) : List va_E := [
  .inr (7, [.ref (gad w 1), .ref (gad w 25), .ref (gad w 27), .ref (gad w 33), .ref (gad w 39), .ref (gad w 43), .ref (gad w 45), .ref (gad w 48), .int (r 8), .int (r 9)]),
  .inr (6, [.ref (gad w 2), .ref (gad w 3), .ref (gad w 4), .ref (gad w 10), .ref (gad w 16), .ref (gad w 22), .ref (gad w 23), .ref (gad w 24)]),
  ar_i w 5 r,
  ar_i w 5 r,
  ar_2 w 5,
  ar_i w 10 r,
  ar_i w 10 r,
  ar_i w 10 r,
  ar_i w 10 r,
  ar_i w 10 r,
  ar_2 w 11,
  ar_i w 5 r,
  ar_i w 5 r,
  ar_i w 5 r,
  ar_i w 5 r,
  ar_i w 5 r,
  ar_2 w 17,
  ar_i w 10 r,
  ar_i w 10 r,
  ar_i w 10 r,
  ar_i w 10 r,
  ar_i w 10 r,
  ar_i w 10 r,
  ar_i w 10 r,
  ar_i w 3 r,
  .inr (0, [.ref (gad w 26), .int (r 1), .int (r 2), .int (r 3)]),
  ar_i w 100 r,
  .inr (3, [.ref (gad w 28), .ref (gad w 29), .ref (gad w 30), .ref (gad w 31), .ref (gad w 32), .int (r 5), .int (r 6), .int (r 7)]),
  ar_z w 20 r,
  ar_i w 10 r,
  ar_i w 10 r,
  ar_i w 10 r,
  ar_i w 5 r,
  .inr (3, [.ref (gad w 34), .ref (gad w 35), .ref (gad w 36), .ref (gad w 37), .ref (gad w 38), .int (r 5), .int (r 6), .int (r 7)]),
  ar_z w 20 r,
  ar_i w 10 r,
  ar_i w 10 r,
  ar_i w 10 r,
  ar_i w 5 r,
  .inr (2, [.ref (gad w 40), .ref (gad w 41), .ref (gad w 42), .int (r 3), .int (r 4)]),
  ar_i w 32 r,
  ar_i w 5 r,
  ar_i w 5 r,
  .inr (1, [.ref (gad w 44), .int (r 1)]),
  ar_i w 32 r,
  .inr (5, [.ref (gad w 46), .ref (gad w 47), .int (r 2), .int (r 3)]),
  ar_i w 10 r,
  ar_i w 9 r,
  ar_s w r,
  .inr (8, [.ref (gad w 50), .ref (gad w 51), .ref (gad w 52), .ref (gad w 53), .int (r 4), .ref (gad w 54), .int (r 6), .int (r 7), .int (r 8), .ref (gad w 55), .ref (gad w 56), .ref (gad w 57), .ref (gad w 58), .ref (gad w 59), .ref (gad w 60), .ref (gad w 61), .ref (gad w 62), .ref (gad w 63), .ref (gad w 64), .ref (gad w 65), .int (r 20), .ref (gad w 66), .int (r 22), .ref (gad w 67), .ref (gad w 68), .ref (gad w 69), .ref (gad w 70), .ref (gad w 71), .ref (gad w 72)]),
  ar_i w 4 r,
  ar_i w 4 r,
  ar_i w 240 r,
  ar_i w 60 r,
  ar_i w 100 r,
  ar_i w 60 r,
  ar_i w 5 r,
  ar_i w 5 r,
  ar_i w 50 r,
  ar_i w 25 r,
  ar_i w 10 r,
  ar_i w 10 r,
  ar_i w 3 r,
  ar_i w 5 r,
  ar_i w 10 r,
  ar_z w 20 r,
  ar_i w 6144 r,
  ar_i w 16 r,
  ar_i w 10 r,
  ar_i w 10 r,
  ar_i w 5 r,
  ar_i w 10 r,
  ar_i w 11 r]
def dyr (w : gw) (k : Nat) (r : Nat → Int32) : va_E := if (k - 73) % 2 = 0 then .inr (4, [.int (r 0), .ref (gad w (k + 1))]) else .inl (gcI w, gln w k, .inl r)
def celr (w : gw) (k : Nat) (r : Nat → Int32) : va_E := (fxr w r).getD k (dyr w k r)
def gws (w : gw) (S : St) : va_W := (List.range (gN w)).map (fun k => (gad w k, celr w k (S k)))
theorem gws_at {w : gw} {S : St} {k : Nat} (h : k < gN w) : (gws w S)[k]? = some (gad w k, celr w k (S k)) := by
  unfold gws
  rw [List.getElem?_map, List.getElem?_range h]
  rfl
theorem gws_lt {w : gw} {S : St} {k : Nat} {q : Nat × va_E} (h : (gws w S)[k]? = some q) : k < gN w ∧ q = (gad w k, celr w k (S k)) := by
  have hl := (List.getElem?_eq_some_iff.mp h).1
  have hk : k < gN w := by
    unfold gws at hl
    rw [List.length_map, List.length_range] at hl
    exact hl
  rw [gws_at hk] at h
  exact ⟨hk, (Option.some.inj h).symm⟩
theorem gws_set {w : gw} {S S' : St} {k : Nat} {e : va_E} (hk : k < gN w) (he : celr w k (S' k) = e) (ho : ∀ j, j ≠ k → S' j = S j) : (gws w S).set k (gad w k, e) = gws w S' := by
  apply List.ext_getElem?
  intro j
  by_cases hj : j = k
  · subst hj
    have hl : j < (gws w S).length := by
      unfold gws
      rw [List.length_map, List.length_range]
      exact hk
    rw [List.getElem?_set_self hl, gws_at hk, he]
  · rw [List.getElem?_set_ne (Ne.symm hj)]
    by_cases hjN : j < gN w
    · rw [gws_at hjN, gws_at hjN, ho j hj]
    · have h1 : (gws w S)[j]? = none := by
        apply List.getElem?_eq_none
        unfold gws
        rw [List.length_map, List.length_range]
        omega
      have h2 : (gws w S')[j]? = none := by
        apply List.getElem?_eq_none
        unfold gws
        rw [List.length_map, List.length_range]
        omega
      rw [h1, h2]
theorem gws_D {w : gw} {S S' : St} {A : Nat → Prop} (hD : va_D A (gws w S)) : va_D A (gws w S') := by
  refine ⟨fun i j x y hi hj hxy => ?_, fun k q hk => ?_⟩
  · obtain ⟨h1, e1⟩ := gws_lt hi
    obtain ⟨h2, e2⟩ := gws_lt hj
    subst e1 e2
    exact hD.1 i j _ _ (gws_at h1) (gws_at h2) hxy
  · obtain ⟨h1, e1⟩ := gws_lt hk
    subst e1
    exact hD.2 k (gad w k, celr w k (S k)) (gws_at h1)
def gA (w : gw) (sz : Nat) : Nat → Prop := fun q => (∃ k, k < gN w ∧ q = gad w k) ∨ sz ≤ q
theorem gws_DA {w : gw} {S : St} {A : Nat → Prop} {sz : Nat} (hD : va_D A (gws w S)) : va_D (gA w sz) (gws w S) := by
  refine ⟨hD.1, fun k q hk => ?_⟩
  obtain ⟨h1, e1⟩ := gws_lt hk
  subst e1
  exact Or.inl ⟨k, h1, rfl⟩
/-- the tables, and links across the nest -/
def tb1 (j : Nat) : Int32 := [1, 0, 1].getD j 0
def tb2 (j : Nat) : Int32 := [20, 1, 10].getD j 0
def tb3 (j : Nat) : Int32 := [24, 6, 4, 6, 24].getD j 0
def gST (w : gw) (A : Nat → Prop) (U : State) (H : Heap) : Prop :=
  va_Z "EveningAuction" "LEAST_RULE" "[I" (.ref (gt1 w)) A U H ∧ va_T .int (gt1 w) 3 (fun j => .int (tb1 j)) A U H ∧
  va_Z "EveningAuction" "GREATEST_RULE" "[I" (.ref (gt2 w)) A U H ∧ va_T .int (gt2 w) 3 (fun j => .int (tb2 j)) A U H ∧
  va_Z "EveningAuction" "ORDERS" "[I" (.ref (gt3 w)) A U H ∧ va_T .int (gt3 w) 5 (fun j => .int (tb3 j)) A U H ∧
  va_Nw (.methodLinkNest "EveningAuction$BidText" 29 ⟨"EveningAuction", "within", "(III)Z"⟩ "EveningAuction") U ∧
  va_Nw (.methodLinkNest "EveningAuction$Town" 38 ⟨"EveningAuction", "isBidder", "(I)Z"⟩ "EveningAuction") U ∧
  va_Nw (.fieldLinkNest "EveningAuction$Clubs" 38 "EveningAuction" "ORDERS" "[I" "EveningAuction") U
theorem gST.to {w : gw} {A B : Nat → Prop} {s U : State} {H H1 : Heap} (h : gST w A s H) (hW : s.WarmedH U.vm) (hq : ∀ a : Nat, a < H.size → ¬ A a → H1[a]? = H[a]?) (hAB : ∀ q, B q → A q) : gST w B U H1 := by
  obtain ⟨h1, h2, h3, h4, h5, h6, h7, h8, h9⟩ := h
  exact ⟨((h1.kept hq).moved hW.alike).narrow hAB, ((h2.kept hq).moved hW.alike).narrow hAB, ((h3.kept hq).moved hW.alike).narrow hAB, ((h4.kept hq).moved hW.alike).narrow hAB, ((h5.kept hq).moved hW.alike).narrow hAB, ((h6.kept hq).moved hW.alike).narrow hAB, va_Nw.warmM hW h7, va_Nw.warmM hW h8, va_Nw.warmF hW h9⟩
/-- a method's start -/
def GP (w : gw) (sz : Nat) (S : St) (U : State) : Prop := U.heap.size = sz ∧ va_P (gD w) vwCl (gws w S) U.heap ∧ va_K (gD w) vwCl (gty w) U ∧ va_D (gA w sz) (gws w S) ∧ gST w (gA w sz) U U.heap ∧ 73 ≤ gN w
theorem GP_blind {w : gw} {sz : Nat} {S : St} {av : List Value} : FrameBlind (va_Pc av (GP w sz S)) := by
  intro a U g mk q
  obtain ⟨q0, q1, qP, qK, qD, ⟨h1, h2, h3, h4, h5, h6, h7, h8, h9⟩, qN⟩ := q
  refine ⟨q0, q1, qP, va_K.moved (u := U) (U := U.calling g mk a) (Vm.Alike.refl U.vm) qK, qD, ⟨va_Z.moved (U := U.calling g mk a) (Vm.Alike.refl U.vm) h1, va_T.moved (U := U.calling g mk a) (Vm.Alike.refl U.vm) h2, va_Z.moved (U := U.calling g mk a) (Vm.Alike.refl U.vm) h3, va_T.moved (U := U.calling g mk a) (Vm.Alike.refl U.vm) h4, va_Z.moved (U := U.calling g mk a) (Vm.Alike.refl U.vm) h5, va_T.moved (U := U.calling g mk a) (Vm.Alike.refl U.vm) h6, va_Nw.same rfl rfl h7, va_Nw.same rfl rfl h8, va_Nw.same rfl rfl h9⟩, qN⟩
/-- the world within a walk -/
def GH (w : gw) (s : State) (A : Nat → Prop) (S : St) (H : Heap) (locs : List Loc) : Prop := va_K (gD w) vwCl (gty w) s ∧ va_P (gD w) vwCl (gws w S) H ∧ va_D A (gws w S) ∧ va_S A s.heap H locs ∧ (∀ q, s.heap.size ≤ q → A q) ∧ gST w A s s.heap ∧ 73 ≤ gN w
theorem GH.lt {w : gw} {s : State} {A : Nat → Prop} {S : St} {H : Heap} {locs : List Loc} (h : GH w s A S H locs) {k : Nat} (hk : k < 73) : k < gN w := Nat.lt_of_lt_of_le hk h.2.2.2.2.2.2
theorem GH.free {w : gw} {s : State} {A : Nat → Prop} {S : St} {H : Heap} {locs : List Loc} (h : GH w s A S H locs) : ∀ q, gA w H.size q → A q := by
  intro q hq
  rcases hq with ⟨k, hk, rfl⟩ | hq
  · exact h.2.2.1.2 k _ (gws_at hk)
  · exact h.2.2.2.2.1 q (Nat.le_trans h.2.2.2.1.1 hq)
theorem GH.pre {w : gw} {s : State} {A : Nat → Prop} {S : St} {H : Heap} {locs : List Loc} (h : GH w s A S H locs) {U : State} (hU : U.heap = H) (hW : s.WarmedH U.vm) : GP w H.size S U := by
  have hf := h.free
  obtain ⟨hK, hP, hD, hS, hA, hT, hN⟩ := h
  refine ⟨by rw [hU], by rw [hU]; exact hP, va_K.moved hW.alike hK, gws_DA hD, ?_, hN⟩
  rw [hU]
  exact gST.to hT hW hS.2.1 hf
theorem GH.next {w : gw} {s : State} {A : Nat → Prop} {S S' : St} {H H1 : Heap} {locs locs1 : List Loc} (h : GH w s A S H locs) (hP : va_P (gD w) vwCl (gws w S') H1) (hS : va_S A s.heap H1 locs1) : GH w s A S' H1 locs1 := by
  obtain ⟨hK, -, hD, -, hA, hT, hN⟩ := h
  exact ⟨hK, hP, gws_D hD, hS, hA, hT, hN⟩
/-- what stays through a method's walk -/
def gCx (p : Program) (s : State) (m : MethodId) (args : Array Value) (meth : Method) (c : Code) (own : String) (cc : ByteArray) (nL : Nat) (rt : Option FieldType) : Prop :=
  p.tables.exec = Jvm.exec ∧ c.code = cc ∧ c.maxLocals = nL ∧ s.vm.findClass own = some m.cls ∧ (∀ w ∈ lw_g, w.before args s = true) ∧ meth.sig.returnType = rt ∧ meth.locks = false
/-- contracts: from the world S, with these arguments, the method answers r, and the world is S' -/
def gQi (w : gw) (r : Int32) (S' : St) (A : Nat → Prop) : Array Value → State → Outcome → State → Prop := va_Qi (fun r2 (S2 : St) => r2 = r ∧ S2 = S') (fun S2 t => va_P (gD w) vwCl (gws w S2) t.heap) A
def gQl (w : gw) (r : Int64) (S' : St) (A : Nat → Prop) : Array Value → State → Outcome → State → Prop := va_Ql (fun r2 (S2 : St) => r2 = r ∧ S2 = S') (fun S2 t => va_P (gD w) vwCl (gws w S2) t.heap) A
def gQv (w : gw) (S' : St) (A : Nat → Prop) : Array Value → State → Outcome → State → Prop := va_Qv (fun (S2 : St) => S2 = S') (fun S2 t => va_P (gD w) vwCl (gws w S2) t.heap) A
def gQr (w : gw) (k : Nat) (S' : St) (A : Nat → Prop) : Array Value → State → Outcome → State → Prop := va_Qr (fun (S2 : St) => S2 = S') (fun S2 a t => a = gad w k ∧ va_P (gD w) vwCl (gws w S2) t.heap) A
def gMi (l : Launch) (w : gw) (y : MethodName) (b : ByteArray) (nL : Nat) (rt : Option FieldType) (rm : Room) (av : List Value) (S : St) (r : Int32) (S' : St) : Prop := ∀ sz : Nat, Met l y (.code y b nL rt :: lw_g) rm (va_Pc av (GP w sz S)) (gQi w r S' (gA w sz)) 0 0 (gA w sz)
def gMl (l : Launch) (w : gw) (y : MethodName) (b : ByteArray) (nL : Nat) (rt : Option FieldType) (rm : Room) (av : List Value) (S : St) (r : Int64) (S' : St) : Prop := ∀ sz : Nat, Met l y (.code y b nL rt :: lw_g) rm (va_Pc av (GP w sz S)) (gQl w r S' (gA w sz)) 0 0 (gA w sz)
def gMv (l : Launch) (w : gw) (y : MethodName) (b : ByteArray) (nL : Nat) (rt : Option FieldType) (rm : Room) (av : List Value) (S : St) (S' : St) : Prop := ∀ sz : Nat, Met l y (.code y b nL rt :: lw_g) rm (va_Pc av (GP w sz S)) (gQv w S' (gA w sz)) 0 0 (gA w sz)
def gMr (l : Launch) (w : gw) (y : MethodName) (b : ByteArray) (nL : Nat) (rt : Option FieldType) (rm : Room) (av : List Value) (S : St) (k : Nat) (S' : St) : Prop := ∀ sz : Nat, Met l y (.code y b nL rt :: lw_g) rm (va_Pc av (GP w sz S)) (gQr w k S' (gA w sz)) 0 0 (gA w sz)
/-- rooms -/
def rmm (f n : Nat) : Room := { frames := f, cells := 0, slots := 0, locals := n }
theorem g_met {l : Launch} {w : gw} {y : MethodName} {b : ByteArray} {nL : Nat} {rt : Option FieldType} {rm : Room} {av : List Value} {S : St} {Qc : (Nat → Prop) → Array Value → State → Outcome → State → Prop} (hy : plainName y.cls = true) (hav : (lg_sl av).length ≤ nL)
    (body : ∀ (p : Program) (e : Env) (s : State) (m : MethodId) (below : List Frame) (meth : Method) (c : Code) (ls : Array Slot), gCx p s m av.toArray meth c y.cls b nL rt → GH w s (gA w s.heap.size) S s.heap [] → lv_has ls nL (lv_args 0 av) → W p l e rm s m av.toArray below meth c s.heap [] 0 0 (MQ below (Qc (gA w s.heap.size)) av.toArray s 0 0 (gA w s.heap.size)) (F0 m 0 ls [])) :
    ∀ sz : Nat, Met l y (.code y b nL rt :: lw_g) rm (va_Pc av (GP w sz S)) (Qc (gA w sz)) 0 0 (gA w sz) := by
  intro sz
  refine Met.ofW (cc := b) (maxL := nL) (ret := rt) hy rfl ?_
  intro p e s m args below meth c s₁ B hml hv
  obtain ⟨rfl, hsz, hP, hK, hD, hT, hN⟩ := hv
  subst hsz
  have hts := atoms_spec (ws := .code y b nL rt :: lw_g) B.pre
  have hl := lv_entry av (n := nL) hav
  rw [lg_entry_eq]
  exact body p e s m below meth c _ ⟨B.exec, B.bytes, hml, findClass_of_methodNamed B.named, fun x hx => hts x (List.mem_cons_of_mem _ hx), B.returns, B.notSynchronized⟩ ⟨hK, hP, hD, va_S.rf, fun q h => Or.inr h, hT, hN⟩ hl
theorem ce0 (w : gw) (r : Nat → Int32) : celr w 0 r = .inr (7, [.ref (gad w 1), .ref (gad w 25), .ref (gad w 27), .ref (gad w 33), .ref (gad w 39), .ref (gad w 43), .ref (gad w 45), .ref (gad w 48), .int (r 8), .int (r 9)]) := rfl
theorem ce1 (w : gw) (r : Nat → Int32) : celr w 1 r = .inr (6, [.ref (gad w 2), .ref (gad w 3), .ref (gad w 4), .ref (gad w 10), .ref (gad w 16), .ref (gad w 22), .ref (gad w 23), .ref (gad w 24)]) := rfl
theorem ce2 (w : gw) (r : Nat → Int32) : celr w 2 r = ar_i w 5 r := rfl
theorem ce3 (w : gw) (r : Nat → Int32) : celr w 3 r = ar_i w 5 r := rfl
theorem ce4 (w : gw) (r : Nat → Int32) : celr w 4 r = ar_2 w 5 := rfl
theorem ce5 (w : gw) (r : Nat → Int32) : celr w 5 r = ar_i w 10 r := rfl
theorem ce6 (w : gw) (r : Nat → Int32) : celr w 6 r = ar_i w 10 r := rfl
theorem ce7 (w : gw) (r : Nat → Int32) : celr w 7 r = ar_i w 10 r := rfl
theorem ce8 (w : gw) (r : Nat → Int32) : celr w 8 r = ar_i w 10 r := rfl
theorem ce9 (w : gw) (r : Nat → Int32) : celr w 9 r = ar_i w 10 r := rfl
theorem ce10 (w : gw) (r : Nat → Int32) : celr w 10 r = ar_2 w 11 := rfl
theorem ce11 (w : gw) (r : Nat → Int32) : celr w 11 r = ar_i w 5 r := rfl
theorem ce12 (w : gw) (r : Nat → Int32) : celr w 12 r = ar_i w 5 r := rfl
theorem ce13 (w : gw) (r : Nat → Int32) : celr w 13 r = ar_i w 5 r := rfl
theorem ce14 (w : gw) (r : Nat → Int32) : celr w 14 r = ar_i w 5 r := rfl
theorem ce15 (w : gw) (r : Nat → Int32) : celr w 15 r = ar_i w 5 r := rfl
theorem ce16 (w : gw) (r : Nat → Int32) : celr w 16 r = ar_2 w 17 := rfl
theorem ce17 (w : gw) (r : Nat → Int32) : celr w 17 r = ar_i w 10 r := rfl
theorem ce18 (w : gw) (r : Nat → Int32) : celr w 18 r = ar_i w 10 r := rfl
theorem ce19 (w : gw) (r : Nat → Int32) : celr w 19 r = ar_i w 10 r := rfl
theorem ce20 (w : gw) (r : Nat → Int32) : celr w 20 r = ar_i w 10 r := rfl
theorem ce21 (w : gw) (r : Nat → Int32) : celr w 21 r = ar_i w 10 r := rfl
theorem ce22 (w : gw) (r : Nat → Int32) : celr w 22 r = ar_i w 10 r := rfl
theorem ce23 (w : gw) (r : Nat → Int32) : celr w 23 r = ar_i w 10 r := rfl
theorem ce24 (w : gw) (r : Nat → Int32) : celr w 24 r = ar_i w 3 r := rfl
theorem ce25 (w : gw) (r : Nat → Int32) : celr w 25 r = .inr (0, [.ref (gad w 26), .int (r 1), .int (r 2), .int (r 3)]) := rfl
theorem ce26 (w : gw) (r : Nat → Int32) : celr w 26 r = ar_i w 100 r := rfl
theorem ce27 (w : gw) (r : Nat → Int32) : celr w 27 r = .inr (3, [.ref (gad w 28), .ref (gad w 29), .ref (gad w 30), .ref (gad w 31), .ref (gad w 32), .int (r 5), .int (r 6), .int (r 7)]) := rfl
theorem ce28 (w : gw) (r : Nat → Int32) : celr w 28 r = ar_z w 20 r := rfl
theorem ce29 (w : gw) (r : Nat → Int32) : celr w 29 r = ar_i w 10 r := rfl
theorem ce30 (w : gw) (r : Nat → Int32) : celr w 30 r = ar_i w 10 r := rfl
theorem ce31 (w : gw) (r : Nat → Int32) : celr w 31 r = ar_i w 10 r := rfl
theorem ce32 (w : gw) (r : Nat → Int32) : celr w 32 r = ar_i w 5 r := rfl
theorem ce33 (w : gw) (r : Nat → Int32) : celr w 33 r = .inr (3, [.ref (gad w 34), .ref (gad w 35), .ref (gad w 36), .ref (gad w 37), .ref (gad w 38), .int (r 5), .int (r 6), .int (r 7)]) := rfl
theorem ce34 (w : gw) (r : Nat → Int32) : celr w 34 r = ar_z w 20 r := rfl
theorem ce35 (w : gw) (r : Nat → Int32) : celr w 35 r = ar_i w 10 r := rfl
theorem ce36 (w : gw) (r : Nat → Int32) : celr w 36 r = ar_i w 10 r := rfl
theorem ce37 (w : gw) (r : Nat → Int32) : celr w 37 r = ar_i w 10 r := rfl
theorem ce38 (w : gw) (r : Nat → Int32) : celr w 38 r = ar_i w 5 r := rfl
theorem ce39 (w : gw) (r : Nat → Int32) : celr w 39 r = .inr (2, [.ref (gad w 40), .ref (gad w 41), .ref (gad w 42), .int (r 3), .int (r 4)]) := rfl
theorem ce40 (w : gw) (r : Nat → Int32) : celr w 40 r = ar_i w 32 r := rfl
theorem ce41 (w : gw) (r : Nat → Int32) : celr w 41 r = ar_i w 5 r := rfl
theorem ce42 (w : gw) (r : Nat → Int32) : celr w 42 r = ar_i w 5 r := rfl
theorem ce43 (w : gw) (r : Nat → Int32) : celr w 43 r = .inr (1, [.ref (gad w 44), .int (r 1)]) := rfl
theorem ce44 (w : gw) (r : Nat → Int32) : celr w 44 r = ar_i w 32 r := rfl
theorem ce45 (w : gw) (r : Nat → Int32) : celr w 45 r = .inr (5, [.ref (gad w 46), .ref (gad w 47), .int (r 2), .int (r 3)]) := rfl
theorem ce46 (w : gw) (r : Nat → Int32) : celr w 46 r = ar_i w 10 r := rfl
theorem ce47 (w : gw) (r : Nat → Int32) : celr w 47 r = ar_i w 9 r := rfl
theorem ce48 (w : gw) (r : Nat → Int32) : celr w 48 r = ar_s w r := rfl
theorem ce49 (w : gw) (r : Nat → Int32) : celr w 49 r = .inr (8, [.ref (gad w 50), .ref (gad w 51), .ref (gad w 52), .ref (gad w 53), .int (r 4), .ref (gad w 54), .int (r 6), .int (r 7), .int (r 8), .ref (gad w 55), .ref (gad w 56), .ref (gad w 57), .ref (gad w 58), .ref (gad w 59), .ref (gad w 60), .ref (gad w 61), .ref (gad w 62), .ref (gad w 63), .ref (gad w 64), .ref (gad w 65), .int (r 20), .ref (gad w 66), .int (r 22), .ref (gad w 67), .ref (gad w 68), .ref (gad w 69), .ref (gad w 70), .ref (gad w 71), .ref (gad w 72)]) := rfl
theorem ce50 (w : gw) (r : Nat → Int32) : celr w 50 r = ar_i w 4 r := rfl
theorem ce51 (w : gw) (r : Nat → Int32) : celr w 51 r = ar_i w 4 r := rfl
theorem ce52 (w : gw) (r : Nat → Int32) : celr w 52 r = ar_i w 240 r := rfl
theorem ce53 (w : gw) (r : Nat → Int32) : celr w 53 r = ar_i w 60 r := rfl
theorem ce54 (w : gw) (r : Nat → Int32) : celr w 54 r = ar_i w 100 r := rfl
theorem ce55 (w : gw) (r : Nat → Int32) : celr w 55 r = ar_i w 60 r := rfl
theorem ce56 (w : gw) (r : Nat → Int32) : celr w 56 r = ar_i w 5 r := rfl
theorem ce57 (w : gw) (r : Nat → Int32) : celr w 57 r = ar_i w 5 r := rfl
theorem ce58 (w : gw) (r : Nat → Int32) : celr w 58 r = ar_i w 50 r := rfl
theorem ce59 (w : gw) (r : Nat → Int32) : celr w 59 r = ar_i w 25 r := rfl
theorem ce60 (w : gw) (r : Nat → Int32) : celr w 60 r = ar_i w 10 r := rfl
theorem ce61 (w : gw) (r : Nat → Int32) : celr w 61 r = ar_i w 10 r := rfl
theorem ce62 (w : gw) (r : Nat → Int32) : celr w 62 r = ar_i w 3 r := rfl
theorem ce63 (w : gw) (r : Nat → Int32) : celr w 63 r = ar_i w 5 r := rfl
theorem ce64 (w : gw) (r : Nat → Int32) : celr w 64 r = ar_i w 10 r := rfl
theorem ce65 (w : gw) (r : Nat → Int32) : celr w 65 r = ar_z w 20 r := rfl
theorem ce66 (w : gw) (r : Nat → Int32) : celr w 66 r = ar_i w 6144 r := rfl
theorem ce67 (w : gw) (r : Nat → Int32) : celr w 67 r = ar_i w 16 r := rfl
theorem ce68 (w : gw) (r : Nat → Int32) : celr w 68 r = ar_i w 10 r := rfl
theorem ce69 (w : gw) (r : Nat → Int32) : celr w 69 r = ar_i w 10 r := rfl
theorem ce70 (w : gw) (r : Nat → Int32) : celr w 70 r = ar_i w 5 r := rfl
theorem ce71 (w : gw) (r : Nat → Int32) : celr w 71 r = ar_i w 10 r := rfl
theorem ce72 (w : gw) (r : Nat → Int32) : celr w 72 r = ar_i w 11 r := rfl
theorem cr4 (w : gw) (r : Nat → Int32) {j : Nat} (h : j < 5) : celr w (5 + j) r = ar_i w 10 r := by
  match j, h with
  | 0, _ => rfl
  | 1, _ => rfl
  | 2, _ => rfl
  | 3, _ => rfl
  | 4, _ => rfl
  | j + 5, h => exact absurd h (by omega)
theorem cr10 (w : gw) (r : Nat → Int32) {j : Nat} (h : j < 5) : celr w (11 + j) r = ar_i w 5 r := by
  match j, h with
  | 0, _ => rfl
  | 1, _ => rfl
  | 2, _ => rfl
  | 3, _ => rfl
  | 4, _ => rfl
  | j + 5, h => exact absurd h (by omega)
theorem cr16 (w : gw) (r : Nat → Int32) {j : Nat} (h : j < 5) : celr w (17 + j) r = ar_i w 10 r := by
  match j, h with
  | 0, _ => rfl
  | 1, _ => rfl
  | 2, _ => rfl
  | 3, _ => rfl
  | 4, _ => rfl
  | j + 5, h => exact absurd h (by omega)
end
section
/-! ===== rows of this world, an instruction each ===== -/
section GR
variable {p : Program} {l : Launch} {e : Env} {R : Room} {s : State} {m : MethodId} {args : Array Value} {below : List Frame} {meth : Method} {c : Code} {H : Heap} {locs : List Loc} {cells slots : Nat} {Q : State → Prop}
variable {cc : ByteArray} {pc nL : Nat} {rt : Option FieldType} {own : String} {ls : Array Slot} {rest : List Value} {A : Nat → Prop} {w : gw} {S : St}
theorem g_get (C : gCx p s m args meth c own cc nL rt) (hG : GH w s A S H locs) {k ci n idx : Nat} {Cn : String} {T : u_T} {fs : List Value} {v : Value} (hk : k < gN w) (hc : celr w k (S k) = .inr (ci, fs)) (hcl : vwCl[ci]? = some (Cn, T, n)) (hin : ∀ x ∈ u_ws Cn T n, x ∈ lw_g) (f : Nat) (hf : f < n) (hl : Cond.fieldLink own idx (T f).1 (T f).2.1 (T f).2.2.1 ∈ lw_g) (hv : fs[f]? = some v) (hdg : decode cc pc = .ok (.getfield idx, 3))
    (kk : W p l e R s m args below meth c H locs cells slots Q (F0 m (pc + 3) ls (v :: rest))) : W p l e R s m args below meth c H locs cells slots Q (F0 m pc ls (.ref (gad w k) :: rest)) := by
  obtain ⟨hx, hb, -, hown, hts, -⟩ := C
  obtain ⟨hK, hP, -⟩ := hG
  exact va_get (D := gD w) hx hb hts hin hown hK hP k (by rw [gws_at hk, hc]) hcl f hf (hts _ hl) (fun _ h9 => h9) hv hdg kk
theorem g_put (C : gCx p s m args meth c own cc nL rt) (hG : GH w s A S H locs) {k ci n idx : Nat} {Cn : String} {T : u_T} {fs : List Value} {x : Int32} (hk : k < gN w) (hc : celr w k (S k) = .inr (ci, fs)) (hcl : vwCl[ci]? = some (Cn, T, n)) (hin : ∀ x ∈ u_ws Cn T n, x ∈ lw_g) {ty0 : Nat → FieldType} (hty : ∀ k, k < n → parseFieldDescriptor (T k).2.2.1 = some (ty0 k)) (hnm : ∀ a, a < n → ∀ b, b < n → a ≠ b → (T a).2.1 ≠ (T b).2.1) (f : Nat) (hf : f < n) (hl : Cond.fieldLink own idx (T f).1 (T f).2.1 (T f).2.2.1 ∈ lw_g) (hfin : (T f).2.2.2 = false) (hn : narrow (ty0 f) (.int x) = .int x) (hfit : fits (ty0 f) (.int x) = true) (hlen : f < fs.length) (he : celr w k (upd (S k) f x) = .inr (ci, fs.set f (.int x))) (hdg : decode cc pc = .ok (.putfield idx, 3))
    (kk : ∀ (H1 : Heap) (locs1 : List Loc), GH w s A (up S k f x) H1 locs1 → W p l e R s m args below meth c H1 locs1 cells slots Q (F0 m (pc + 3) ls rest)) : W p l e R s m args below meth c H locs cells slots Q (F0 m pc ls (.int x :: .ref (gad w k) :: rest)) := by
  obtain ⟨hx, hb, -, hown, hts, -⟩ := C
  have hG0 := hG
  obtain ⟨hK, hP, hD, hS, -⟩ := hG
  refine va_put (D := gD w) hx hb hts hin ty0 hty hnm hown hK hP hD hS k (by rw [gws_at hk, hc]) hcl f hf (hts _ hl) (fun _ h9 => h9) hfin (hty f hf) hn hfit hlen hdg (fun H1 locs1 hP1 _ hS1 => kk H1 locs1 ?_)
  rw [gws_set (S' := up S k f x) hk (by rw [up_eq, he]) (fun j hj => up_ne hj)] at hP1
  exact hG0.next hP1 hS1
theorem g_iald (C : gCx p s m args meth c own cc nL rt) (hG : GH w s A S H locs) {k n j : Nat} {i : Int32} (hk : k < gN w) (hc : celr w k (S k) = ar_i w n (S k)) (hin : vp_in i n) (hj : i.toNatClampNeg = j) (hdg : decode cc pc = .ok (.iaload, 1))
    (kk : W p l e R s m args below meth c H locs cells slots Q (F0 m (pc + 1) ls (.int (S k j) :: rest))) : W p l e R s m args below meth c H locs cells slots Q (F0 m pc ls (.int i :: .ref (gad w k) :: rest)) := by
  subst hj
  obtain ⟨hx, hb, -⟩ := C
  obtain ⟨hK, hP, -⟩ := hG
  exact va_iald (D := gD w) hx hb hK hP k 0 (by rw [gws_at hk, hc]; rfl) rfl hin hdg kk
theorem g_zald (C : gCx p s m args meth c own cc nL rt) (hG : GH w s A S H locs) {k n j : Nat} {i : Int32} (hk : k < gN w) (hc : celr w k (S k) = ar_z w n (S k)) (hin : vp_in i n) (hj : i.toNatClampNeg = j) (hdg : decode cc pc = .ok (.baload, 1))
    (kk : W p l e R s m args below meth c H locs cells slots Q (F0 m (pc + 1) ls (.int (S k j) :: rest))) : W p l e R s m args below meth c H locs cells slots Q (F0 m pc ls (.int i :: .ref (gad w k) :: rest)) := by
  subst hj
  obtain ⟨hx, hb, -⟩ := C
  obtain ⟨hK, hP, -⟩ := hG
  exact va_zald (D := gD w) hx hb hK hP k 1 (by rw [gws_at hk, hc]; rfl) rfl hin hdg kk
theorem g_iast (C : gCx p s m args meth c own cc nL rt) (hG : GH w s A S H locs) {k n j : Nat} {i x : Int32} (hk : k < gN w) (hc : ∀ r, celr w k r = ar_i w n r) (hin : vp_in i n) (hj : i.toNatClampNeg = j) (hdg : decode cc pc = .ok (.iastore, 1))
    (kk : ∀ (H1 : Heap) (locs1 : List Loc), GH w s A (up S k j x) H1 locs1 → W p l e R s m args below meth c H1 locs1 cells slots Q (F0 m (pc + 1) ls rest)) : W p l e R s m args below meth c H locs cells slots Q (F0 m pc ls (.int x :: .int i :: .ref (gad w k) :: rest)) := by
  subst hj
  obtain ⟨hx, hb, -⟩ := C
  have hG0 := hG
  obtain ⟨hK, hP, hD, hS, -⟩ := hG
  refine va_iast (D := gD w) hx hb hK hP hD hS k 0 (by rw [gws_at hk, hc]; rfl) rfl hin hdg (fun H1 locs1 hP1 _ hS1 => kk H1 locs1 ?_)
  rw [gws_set (S' := up S k i.toNatClampNeg x) hk (by rw [up_eq, hc]; rfl) (fun j hj => up_ne hj)] at hP1
  exact hG0.next hP1 hS1
theorem vz_nar {x : Int32} (h : x = 0 ∨ x = 1) : vp_nar .boolean x = x := by
  rcases h with rfl | rfl <;> rfl
theorem vz_nar' {x : Int32} (h : x = 0 ∨ x = 1) : narrow .boolean (.int x) = .int x := by
  rcases h with rfl | rfl <;> rfl
theorem g_zast (C : gCx p s m args meth c own cc nL rt) (hG : GH w s A S H locs) {k n j : Nat} {i x : Int32} (hk : k < gN w) (hc : ∀ r, celr w k r = ar_z w n r) (hin : vp_in i n) (hj : i.toNatClampNeg = j) (hz : x = 0 ∨ x = 1) (hdg : decode cc pc = .ok (.bastore, 1))
    (kk : ∀ (H1 : Heap) (locs1 : List Loc), GH w s A (up S k j x) H1 locs1 → W p l e R s m args below meth c H1 locs1 cells slots Q (F0 m (pc + 1) ls rest)) : W p l e R s m args below meth c H locs cells slots Q (F0 m pc ls (.int x :: .int i :: .ref (gad w k) :: rest)) := by
  subst hj
  obtain ⟨hx, hb, -⟩ := C
  have hG0 := hG
  obtain ⟨hK, hP, hD, hS, -⟩ := hG
  refine va_zast (D := gD w) hx hb hK hP hD hS k 1 (by rw [gws_at hk, hc]; rfl) rfl hin hdg (fun H1 locs1 hP1 _ hS1 => kk H1 locs1 ?_)
  rw [vz_nar hz, gws_set (S' := up S k i.toNatClampNeg x) hk (by rw [up_eq, hc]; rfl) (fun j hj => up_ne hj)] at hP1
  exact hG0.next hP1 hS1
theorem g_alen (C : gCx p s m args meth c own cc nL rt) (hG : GH w s A S H locs) {k n : Nat} {v : Int32} (hk : k < gN w) (hc : celr w k (S k) = ar_i w n (S k)) (hv : Int32.ofNat n = v) (hdg : decode cc pc = .ok (.arraylength, 1))
    (kk : W p l e R s m args below meth c H locs cells slots Q (F0 m (pc + 1) ls (.int v :: rest))) : W p l e R s m args below meth c H locs cells slots Q (F0 m pc ls (.ref (gad w k) :: rest)) := by
  obtain ⟨hx, hb, -⟩ := C
  obtain ⟨hK, hP, -⟩ := hG
  exact va_alen (D := gD w) hx hb hK hP k 0 (by rw [gws_at hk, hc]; rfl) (ty := .int) rfl hv hdg kk
theorem g_ald2 (C : gCx p s m args meth c own cc nL rt) (hG : GH w s A S H locs) {k b j : Nat} {i : Int32} (hk : k < gN w) (hc : celr w k (S k) = ar_2 w b) (hin : vp_in i 5) (hj : i.toNatClampNeg = j) (hdg : decode cc pc = .ok (.aaload, 1))
    (kk : W p l e R s m args below meth c H locs cells slots Q (F0 m (pc + 1) ls (.ref (gad w (b + j)) :: rest))) : W p l e R s m args below meth c H locs cells slots Q (F0 m pc ls (.int i :: .ref (gad w k) :: rest)) := by
  subst hj
  obtain ⟨hx, hb, -⟩ := C
  obtain ⟨hK, hP, -⟩ := hG
  have hlt : i.toNatClampNeg < 5 := Nat.not_le.mp fun q => hin (Or.inr q)
  have hcell := hP k _ (gws_at hk)
  rw [hc] at hcell
  refine W.aald (v := .ref (gad w (b + i.toNatClampNeg))) (ty := .array .int) hx hb hcell ((hK.2 3 (gcR w, .array .int) rfl).1 5 (fun j => va_rf (if j < 5 then some (gad w (b + j)) else none))) rfl (fun q => by cases q) (by show ¬ (i < 0 ∨ (arrV _ _ _).slots.size ≤ _); rw [arrV_size]; exact hin) (by show (arrV _ _ _).slots[_]? = _; rw [arrV_read _ _ hlt]; show some (va_rf (if i.toNatClampNeg < 5 then some (gad w (b + i.toNatClampNeg)) else none)) = _; rw [if_pos hlt]; rfl) rfl rfl hdg kk
theorem g_iret (C : gCx p s m args meth c own cc nL (some .int)) (hG : GH w s A S H locs) {v r : Int32} {S' : St} (hv : v = r) (hS' : S = S') (hdg : decode cc pc = .ok (.ireturn, 1)) : W p l e R s m args below meth c H locs cells slots (MQ below (gQi w r S' A) args s cells slots A) (F0 m pc ls [.int v]) := by
  obtain ⟨hx, hb, -, -, -, hr, hlk⟩ := C
  exact W.iret hx hb hr (fun t ht hW => ⟨⟨v, S, rfl, ⟨hv, hS'⟩, by show va_P _ _ _ t.heap; rw [ht]; exact hG.2.1⟩, hG.2.2.2.1.F ht⟩) hG.2.2.2.1.2.2 hdg hlk
theorem g_zret (C : gCx p s m args meth c own cc nL (some .boolean)) (hG : GH w s A S H locs) {v r : Int32} {S' : St} (hz : v = 0 ∨ v = 1) (hv : v = r) (hS' : S = S') (hdg : decode cc pc = .ok (.ireturn, 1)) : W p l e R s m args below meth c H locs cells slots (MQ below (gQi w r S' A) args s cells slots A) (F0 m pc ls [.int v]) := by
  obtain ⟨hx, hb, -, -, -, hr, hlk⟩ := C
  exact W.zret hx hb hr (vz_nar' hz) (fun t ht hW => ⟨⟨v, S, rfl, ⟨hv, hS'⟩, by show va_P _ _ _ t.heap; rw [ht]; exact hG.2.1⟩, hG.2.2.2.1.F ht⟩) hG.2.2.2.1.2.2 hdg hlk
theorem g_lret (C : gCx p s m args meth c own cc nL (some .long)) (hG : GH w s A S H locs) {v r : Int64} {S' : St} (hv : v = r) (hS' : S = S') (hdg : decode cc pc = .ok (.lreturn, 1)) : W p l e R s m args below meth c H locs cells slots (MQ below (gQl w r S' A) args s cells slots A) (F0 m pc ls [.long v]) := by
  obtain ⟨hx, hb, -, -, -, hr, hlk⟩ := C
  exact W.lret hx hb hr (fun t ht hW => ⟨⟨v, S, rfl, ⟨hv, hS'⟩, by show va_P _ _ _ t.heap; rw [ht]; exact hG.2.1⟩, hG.2.2.2.1.F ht⟩) hG.2.2.2.1.2.2 hdg hlk
theorem g_vret (C : gCx p s m args meth c own cc nL none) (hG : GH w s A S H locs) {S' : St} (hS' : S = S') (hdg : decode cc pc = .ok (.return_, 1)) : W p l e R s m args below meth c H locs cells slots (MQ below (gQv w S' A) args s cells slots A) (F0 m pc ls []) := by
  obtain ⟨hx, hb, -, -, -, hr, hlk⟩ := C
  exact W.vret hx hb hr (fun t ht hW => ⟨⟨S, rfl, hS', by show va_P _ _ _ t.heap; rw [ht]; exact hG.2.1⟩, hG.2.2.2.1.F ht⟩) hG.2.2.2.1.2.2 hdg hlk
theorem g_aret {Cn : String} (C : gCx p s m args meth c own cc nL (some (.object Cn))) (hG : GH w s A S H locs) {k : Nat} {S' : St} (hS' : S = S') (hdg : decode cc pc = .ok (.areturn, 1)) : W p l e R s m args below meth c H locs cells slots (MQ below (gQr w k S' A) args s cells slots A) (F0 m pc ls [.ref (gad w k)]) := by
  obtain ⟨hx, hb, -, -, -, hr, hlk⟩ := C
  exact W.aret hx hb hr (Or.inl ⟨_, rfl⟩) (Or.inr ⟨_, rfl⟩) (fun t ht hW => ⟨⟨S, _, rfl, hS', rfl, by show va_P _ _ _ t.heap; rw [ht]; exact hG.2.1⟩, hG.2.2.2.1.F ht⟩) hG.2.2.2.1.2.2 hdg hlk
/-! calls -/
def gVw (own : String) (idx : Nat) (Cn : String) (y : MethodName) (b : ByteArray) (nL : Nat) (rt : Option FieldType) (n : Nat) : Prop := GoodIn lw_g (wsV own idx Cn y (.code y b nL rt :: lw_g)) ∧ (y.cls = Cn ∧ y.cls ≠ "java/lang/invoke/MethodHandle" ∧ y.cls ≠ "java/lang/invoke/VarHandle" ∧ (parseMethodDescriptor y.desc).map (fun d => d.parameters.length) = some n)
def gSw (own : String) (idx : Nat) (y : MethodName) (b : ByteArray) (nL : Nat) (rt : Option FieldType) (n : Nat) : Prop := GoodIn lw_g (va_wsS own idx y (.code y b nL rt :: lw_g)) ∧ (y.cls ≠ "java/lang/invoke/MethodHandle" ∧ y.cls ≠ "java/lang/invoke/VarHandle" ∧ (parseMethodDescriptor y.desc).map (fun d => d.parameters.length) = some n)
variable {y : MethodName} {b : ByteArray} {nL' n idx : Nat} {rt' : Option FieldType} {rm : Room} {As st0 : List Value} {S' : St}
theorem g_runV (C : gCx p s m args meth c own cc nL rt) (hG : GH w s A S H locs) {k ci cn : Nat} {Cn : String} {T : u_T} {fs : List Value} {Qc : Array Value → State → Outcome → State → Prop} (hM : Met l y (.code y b nL' rt' :: lw_g) rm (va_Pc (.ref (gad w k) :: As) (GP w H.size S)) Qc 0 0 (gA w H.size)) (hk : k < gN w) (hc : celr w k (S k) = .inr (ci, fs)) (hcl : vwCl[ci]? = some (Cn, T, cn)) (hw : gVw own idx Cn y b nL' rt' n) (hrc : rm.cells = 0) (hrs : rm.slots = 0) (hR : rm.frames + 1 ≤ R.frames ∧ 8 + (nL' + 11) + rm.locals ≤ R.locals) (hn : As.length = n) (hls : ls.size = nL) (hst : st0 = As.reverse ++ .ref (gad w k) :: rest) (hre : (rest.map fun v => v.category).sum ≤ 8) (hdg : decode cc pc = .ok (.invokevirtual idx, 3)) (hcs : cells ≤ R.cells ∧ slots ≤ R.slots) :
    va_Run p l e R s m args below meth c H locs cells slots 0 0 (F0 m pc ls st0) rest (Qc (Value.ref (gad w k) :: As).toArray) (gA w H.size) := by
  obtain ⟨hx, hb, hml, hown, hts, -⟩ := C
  exact va_runV (As := As) (rest := rest) ⟨hx, hb, hml, hown, hts⟩ hM (cwV n hts hw.1 rfl hrc hrs hw.2 hR) ⟨GP_blind, va_recv hG.1 hG.2.1 hcl (by rw [gws_at hk, hc]), fun U hU hW => ⟨rfl, hG.pre hU hW⟩⟩ rfl hn hls hst (lv_room hre) hdg hcs
theorem g_runS (C : gCx p s m args meth c own cc nL rt) (hG : GH w s A S H locs) {Qc : Array Value → State → Outcome → State → Prop} (hM : Met l y (.code y b nL' rt' :: lw_g) rm (va_Pc As (GP w H.size S)) Qc 0 0 (gA w H.size)) (hw : gSw own idx y b nL' rt' n) (hrc : rm.cells = 0) (hrs : rm.slots = 0) (hR : rm.frames + 1 ≤ R.frames ∧ 8 + (nL' + 11) + rm.locals ≤ R.locals) (hn : As.length = n) (hls : ls.size = nL) (hst : st0 = As.reverse ++ rest) (hre : (rest.map fun v => v.category).sum ≤ 8) (hdg : decode cc pc = .ok (.invokestatic idx, 3)) (hcs : cells ≤ R.cells ∧ slots ≤ R.slots) :
    va_Run p l e R s m args below meth c H locs cells slots 0 0 (F0 m pc ls st0) rest (Qc As.toArray) (gA w H.size) := by
  obtain ⟨hx, hb, hml, hown, hts, -⟩ := C
  exact va_runS (As := As) (rest := rest) ⟨hx, hb, hml, hown, hts⟩ hM (va_cwS n hts hw.1 rfl hrc hrs hw.2 hR) ⟨GP_blind, fun U hU hW => ⟨rfl, hG.pre hU hW⟩⟩ rfl hn hls hst (lv_room hre) hdg hcs
theorem g_goi {r : Int32} {a : Array Value} (hG : GH w s A S H locs) (hr : va_Run p l e R s m args below meth c H locs cells slots 0 0 (F0 m pc ls st0) rest (gQi w r S' (gA w H.size) a) (gA w H.size))
    (kk : ∀ (H1 : Heap) (locs1 : List Loc), GH w s A S' H1 locs1 → W p l e R s m args below meth c H1 locs1 cells slots Q (F0 m (pc + 3) ls (.int r :: rest))) : W p l e R s m args below meth c H locs cells slots Q (F0 m pc ls st0) := by
  refine va_calli hr hG.2.2.2.1 (fun q _ h => hG.free q h) hG.free (fun r2 u t H1 locs1 ht hvm hw hB hz1 hk1 hS1 => ?_)
  obtain ⟨rfl, rfl⟩ := hw
  rw [ht] at hB
  exact kk H1 locs1 (hG.next hB hS1)
theorem g_gol {r : Int64} {a : Array Value} (hG : GH w s A S H locs) (hr : va_Run p l e R s m args below meth c H locs cells slots 0 0 (F0 m pc ls st0) rest (gQl w r S' (gA w H.size) a) (gA w H.size))
    (kk : ∀ (H1 : Heap) (locs1 : List Loc), GH w s A S' H1 locs1 → W p l e R s m args below meth c H1 locs1 cells slots Q (F0 m (pc + 3) ls (.long r :: rest))) : W p l e R s m args below meth c H locs cells slots Q (F0 m pc ls st0) := by
  refine va_calll hr hG.2.2.2.1 (fun q _ h => hG.free q h) hG.free (fun r2 u t H1 locs1 ht hvm hw hB hz1 hk1 hS1 => ?_)
  obtain ⟨rfl, rfl⟩ := hw
  rw [ht] at hB
  exact kk H1 locs1 (hG.next hB hS1)
theorem g_gov {a : Array Value} (hG : GH w s A S H locs) (hr : va_Run p l e R s m args below meth c H locs cells slots 0 0 (F0 m pc ls st0) rest (gQv w S' (gA w H.size) a) (gA w H.size))
    (kk : ∀ (H1 : Heap) (locs1 : List Loc), GH w s A S' H1 locs1 → W p l e R s m args below meth c H1 locs1 cells slots Q (F0 m (pc + 3) ls rest)) : W p l e R s m args below meth c H locs cells slots Q (F0 m pc ls st0) := by
  refine va_callv hr hG.2.2.2.1 (fun q _ h => hG.free q h) hG.free (fun u t H1 locs1 ht hvm hw hB hz1 hk1 hS1 => ?_)
  obtain rfl := hw
  rw [ht] at hB
  exact kk H1 locs1 (hG.next hB hS1)
theorem g_gor {k : Nat} {a : Array Value} (hG : GH w s A S H locs) (hr : va_Run p l e R s m args below meth c H locs cells slots 0 0 (F0 m pc ls st0) rest (gQr w k S' (gA w H.size) a) (gA w H.size))
    (kk : ∀ (H1 : Heap) (locs1 : List Loc), GH w s A S' H1 locs1 → W p l e R s m args below meth c H1 locs1 cells slots Q (F0 m (pc + 3) ls (.ref (gad w k) :: rest))) : W p l e R s m args below meth c H locs cells slots Q (F0 m pc ls st0) := by
  refine va_callr hr hG.2.2.2.1 (fun q _ h => hG.free q h) hG.free (fun u ra t H1 locs1 ht hvm hw hB hz1 hk1 hS1 => ?_)
  obtain rfl := hw
  obtain ⟨rfl, hB⟩ := hB
  rw [ht] at hB
  exact kk H1 locs1 (hG.next hB hS1)
end GR
/-! ===== the pure words of the walks ===== -/
def chk {α : Type} (b : Bool) (o : Option α) : Option α := cond b o none
theorem chk_some {α : Type} {b : Bool} {o : Option α} {x : α} (h : chk b o = some x) : b = true ∧ o = some x := by
  cases b with
  | false => cases h
  | true => exact ⟨rfl, h⟩
def bnd {α β : Type} (o : Option α) (f : α → Option β) : Option β := match o with
  | none => none
  | some a => f a
theorem bnd_some {α β : Type} {o : Option α} {f : α → Option β} {b : β} (h : bnd o f = some b) : ∃ a, o = some a ∧ f a = some b := by
  cases o with
  | none => cases h
  | some a => exact ⟨a, rfl, h⟩
theorem it_t {α : Type} {c : Prop} [Decidable c] {a b x : α} (h : (if c then a else b) = x) (hc : c) : a = x := by rw [if_pos hc] at h; exact h
theorem it_f {α : Type} {c : Prop} [Decidable c] {a b x : α} (h : (if c then a else b) = x) (hc : ¬ c) : b = x := by rw [if_neg hc] at h; exact h
def inb (i : Int32) (n : Nat) : Bool := decide (¬ (i < 0 ∨ n ≤ i.toNatClampNeg))
theorem inb_in {i : Int32} {n : Nat} (h : inb i n = true) : vp_in i n := by
  have h2 : ¬ (i < 0 ∨ n ≤ i.toNatClampNeg) := of_decide_eq_true h
  exact h2
def nz32 (y : Int32) : Bool := decide (¬ y = 0)
theorem nz32_in {y : Int32} (h : nz32 y = true) : ¬ y = 0 := of_decide_eq_true h
def nz64 (y : Int64) : Bool := decide (¬ y = 0)
theorem nz64_in {y : Int64} (h : nz64 y = true) : ¬ y = 0 := of_decide_eq_true h
def isz (y : Int32) : Bool := decide (y = 0 ∨ y = 1)
theorem isz_in {y : Int32} (h : isz y = true) : y = 0 ∨ y = 1 := of_decide_eq_true h
/-- a loop: a pass answers 0 (again) or the number of the way out -/
def lp {σ : Type} (st : σ → Option (σ × Nat)) : Nat → σ → Option (σ × Nat)
  | 0, _ => none
  | n + 1, q => match st q with
    | none => none
    | some (q', 0) => lp st n q'
    | some (q', t + 1) => some (q', t + 1)
def FU : Nat := 10000000
theorem lp_succ {σ : Type} {st : σ → Option (σ × Nat)} {n : Nat} {q : σ} {r : σ × Nat} (h : lp st (n + 1) q = some r) : ∃ z : σ × Nat, st q = some z ∧ ((z.2 = 0 ∧ lp st n z.1 = some r) ∨ (z.2 ≠ 0 ∧ z = r)) := by
  unfold lp at h
  cases hs : st q with
  | none => rw [hs] at h; cases h
  | some z =>
    obtain ⟨q', t⟩ := z
    rw [hs] at h
    cases t with
    | zero => exact ⟨_, rfl, Or.inl ⟨rfl, h⟩⟩
    | succ t => exact ⟨_, rfl, Or.inr ⟨Nat.succ_ne_zero t, Option.some.inj h⟩⟩
theorem lp_back {σ : Type} {st : σ → Option (σ × Nat)} {n : Nat} {a : σ} {z r : σ × Nat} (h : some (a, 0) = some z) (hr : (z.2 = 0 ∧ lp st n z.1 = some r) ∨ (z.2 ≠ 0 ∧ z = r)) : lp st n a = some r := by
  cases h
  rcases hr with ⟨-, h⟩ | ⟨h, -⟩
  · exact h
  · exact absurd rfl h
theorem lp_exit {σ : Type} {st : σ → Option (σ × Nat)} {n t : Nat} {a : σ} {z r : σ × Nat} (h : some (a, t + 1) = some z) (hr : (z.2 = 0 ∧ lp st n z.1 = some r) ∨ (z.2 ≠ 0 ∧ z = r)) : r = (a, t + 1) := by
  cases h
  rcases hr with ⟨h, -⟩ | ⟨-, h⟩
  · cases h
  · exact h.symm
abbrev ix (i : Int32) : Nat := i.toNatClampNeg
theorem row_lt {i : Int32} (h : vp_in i 5) : ix i < 5 := Nat.not_le.mp fun q => h (Or.inr q)
theorem some2 {α β : Type} {a a' : α} {b b' : β} (h : some (a, b) = some (a', b')) : a = a' ∧ b = b' := by
  cases h
  exact ⟨rfl, rfl⟩
end

-- ===== PART A: goes FIRST, ahead of the names: the tables' words, and 'selects' of the private methods out of them =====
/-- a private method of a class that the tables say can be made, by its rows of tables_1 -/
def lw_okq (q : MethodName × Nat) : Prop := (q.1.cls ≠ "java/lang/invoke/MethodHandle" ∧ q.1.cls ≠ "java/lang/invoke/VarHandle") ∧ Cond.instantiable q.1.cls q.2 ∈ tables_1 ∧ Cond.privateMethod q.1 ∈ tables_1 ∧ Cond.instanceMethod q.1 ∈ tables_1
theorem lw_p0 : lw_okq (⟨"ShopsAsOne", "isNoOwner", "(I)Z"⟩, 15) := ⟨⟨by decide +kernel, by decide +kernel⟩, List.mem_of_getElem? (i := 13) (by decide +kernel), List.mem_of_getElem? (i := 344) (by decide +kernel), List.mem_of_getElem? (i := 345) (by decide +kernel)⟩
theorem lw_p1 : lw_okq (⟨"ShopsAsOne$Street", "measure", "(II)V"⟩, 14) := ⟨⟨by decide +kernel, by decide +kernel⟩, List.mem_of_getElem? (i := 21) (by decide +kernel), List.mem_of_getElem? (i := 370) (by decide +kernel), List.mem_of_getElem? (i := 371) (by decide +kernel)⟩
theorem lw_p2 : lw_okq (⟨"ShopsAsOne", "isNoShop", "(I)Z"⟩, 15) := ⟨⟨by decide +kernel, by decide +kernel⟩, List.mem_of_getElem? (i := 13) (by decide +kernel), List.mem_of_getElem? (i := 381) (by decide +kernel), List.mem_of_getElem? (i := 382) (by decide +kernel)⟩
theorem lw_p3 : lw_okq (⟨"ShopsAsOne", "isNoSort", "(I)Z"⟩, 15) := ⟨⟨by decide +kernel, by decide +kernel⟩, List.mem_of_getElem? (i := 13) (by decide +kernel), List.mem_of_getElem? (i := 418) (by decide +kernel), List.mem_of_getElem? (i := 419) (by decide +kernel)⟩
theorem lw_p4 : lw_okq (⟨"ShopsAsOne$Bests", "listShops", "(LShopsAsOne$Standing;I)V"⟩, 13) := ⟨⟨by decide +kernel, by decide +kernel⟩, List.mem_of_getElem? (i := 138) (by decide +kernel), List.mem_of_getElem? (i := 460) (by decide +kernel), List.mem_of_getElem? (i := 461) (by decide +kernel)⟩
theorem lw_p5 : lw_okq (⟨"ShopsAsOne$Bests", "layOthers", "(LShopsAsOne$Standing;I)V"⟩, 13) := ⟨⟨by decide +kernel, by decide +kernel⟩, List.mem_of_getElem? (i := 138) (by decide +kernel), List.mem_of_getElem? (i := 467) (by decide +kernel), List.mem_of_getElem? (i := 468) (by decide +kernel)⟩
theorem lw_p6 : lw_okq (⟨"ShopsAsOne$Bests", "tryOnePrice", "()V"⟩, 13) := ⟨⟨by decide +kernel, by decide +kernel⟩, List.mem_of_getElem? (i := 138) (by decide +kernel), List.mem_of_getElem? (i := 473) (by decide +kernel), List.mem_of_getElem? (i := 474) (by decide +kernel)⟩
theorem lw_p7 : lw_okq (⟨"ShopsAsOne$Bests", "putPrice", "(II)V"⟩, 13) := ⟨⟨by decide +kernel, by decide +kernel⟩, List.mem_of_getElem? (i := 138) (by decide +kernel), List.mem_of_getElem? (i := 477) (by decide +kernel), List.mem_of_getElem? (i := 478) (by decide +kernel)⟩
theorem lw_p8 : lw_okq (⟨"ShopsAsOne$Bests", "highestFor", "(II)I"⟩, 13) := ⟨⟨by decide +kernel, by decide +kernel⟩, List.mem_of_getElem? (i := 138) (by decide +kernel), List.mem_of_getElem? (i := 481) (by decide +kernel), List.mem_of_getElem? (i := 482) (by decide +kernel)⟩
theorem lw_p9 : lw_okq (⟨"ShopsAsOne$Bests", "keepIfBetter", "(I)V"⟩, 13) := ⟨⟨by decide +kernel, by decide +kernel⟩, List.mem_of_getElem? (i := 138) (by decide +kernel), List.mem_of_getElem? (i := 485) (by decide +kernel), List.mem_of_getElem? (i := 486) (by decide +kernel)⟩
theorem lw_p10 : lw_okq (⟨"ShopsAsOne$Bests", "tryPrices", "(I)V"⟩, 13) := ⟨⟨by decide +kernel, by decide +kernel⟩, List.mem_of_getElem? (i := 138) (by decide +kernel), List.mem_of_getElem? (i := 489) (by decide +kernel), List.mem_of_getElem? (i := 490) (by decide +kernel)⟩
theorem lw_p11 : lw_okq (⟨"ShopsAsOne$Bests", "tryLastPrice", "(I)V"⟩, 13) := ⟨⟨by decide +kernel, by decide +kernel⟩, List.mem_of_getElem? (i := 138) (by decide +kernel), List.mem_of_getElem? (i := 493) (by decide +kernel), List.mem_of_getElem? (i := 494) (by decide +kernel)⟩
theorem lw_p12 : lw_okq (⟨"ShopsAsOne", "gainOf", "(I)I"⟩, 15) := ⟨⟨by decide +kernel, by decide +kernel⟩, List.mem_of_getElem? (i := 13) (by decide +kernel), List.mem_of_getElem? (i := 530) (by decide +kernel), List.mem_of_getElem? (i := 531) (by decide +kernel)⟩
theorem lw_p13 : lw_okq (⟨"ShopsAsOne", "leastMarket", "(II)I"⟩, 15) := ⟨⟨by decide +kernel, by decide +kernel⟩, List.mem_of_getElem? (i := 13) (by decide +kernel), List.mem_of_getElem? (i := 542) (by decide +kernel), List.mem_of_getElem? (i := 543) (by decide +kernel)⟩
theorem lw_p14 : lw_okq (⟨"ShopsAsOne", "wouldPay", "(II)Z"⟩, 15) := ⟨⟨by decide +kernel, by decide +kernel⟩, List.mem_of_getElem? (i := 13) (by decide +kernel), List.mem_of_getElem? (i := 551) (by decide +kernel), List.mem_of_getElem? (i := 552) (by decide +kernel)⟩
theorem lw_p15 : lw_okq (⟨"ShopsAsOne", "nearMarket", "(II)I"⟩, 15) := ⟨⟨by decide +kernel, by decide +kernel⟩, List.mem_of_getElem? (i := 13) (by decide +kernel), List.mem_of_getElem? (i := 560) (by decide +kernel), List.mem_of_getElem? (i := 561) (by decide +kernel)⟩
def lw_privs_1 : List (MethodName × Nat) := [(⟨"ShopsAsOne", "isNoOwner", "(I)Z"⟩, 15), (⟨"ShopsAsOne$Street", "measure", "(II)V"⟩, 14), (⟨"ShopsAsOne", "isNoShop", "(I)Z"⟩, 15), (⟨"ShopsAsOne", "isNoSort", "(I)Z"⟩, 15), (⟨"ShopsAsOne$Bests", "listShops", "(LShopsAsOne$Standing;I)V"⟩, 13), (⟨"ShopsAsOne$Bests", "layOthers", "(LShopsAsOne$Standing;I)V"⟩, 13), (⟨"ShopsAsOne$Bests", "tryOnePrice", "()V"⟩, 13), (⟨"ShopsAsOne$Bests", "putPrice", "(II)V"⟩, 13), (⟨"ShopsAsOne$Bests", "highestFor", "(II)I"⟩, 13), (⟨"ShopsAsOne$Bests", "keepIfBetter", "(I)V"⟩, 13), (⟨"ShopsAsOne$Bests", "tryPrices", "(I)V"⟩, 13), (⟨"ShopsAsOne$Bests", "tryLastPrice", "(I)V"⟩, 13), (⟨"ShopsAsOne", "gainOf", "(I)I"⟩, 15), (⟨"ShopsAsOne", "leastMarket", "(II)I"⟩, 15), (⟨"ShopsAsOne", "wouldPay", "(II)Z"⟩, 15), (⟨"ShopsAsOne", "nearMarket", "(II)I"⟩, 15)]
theorem lw_r1 : ∀ q ∈ lw_privs_1, lw_okq q := List.forall_mem_cons.mpr ⟨lw_p0, List.forall_mem_cons.mpr ⟨lw_p1, List.forall_mem_cons.mpr ⟨lw_p2, List.forall_mem_cons.mpr ⟨lw_p3, List.forall_mem_cons.mpr ⟨lw_p4, List.forall_mem_cons.mpr ⟨lw_p5, List.forall_mem_cons.mpr ⟨lw_p6, List.forall_mem_cons.mpr ⟨lw_p7, List.forall_mem_cons.mpr ⟨lw_p8, List.forall_mem_cons.mpr ⟨lw_p9, List.forall_mem_cons.mpr ⟨lw_p10, List.forall_mem_cons.mpr ⟨lw_p11, List.forall_mem_cons.mpr ⟨lw_p12, List.forall_mem_cons.mpr ⟨lw_p13, List.forall_mem_cons.mpr ⟨lw_p14, List.forall_mem_cons.mpr ⟨lw_p15, fun _ h => absurd h List.not_mem_nil⟩⟩⟩⟩⟩⟩⟩⟩⟩⟩⟩⟩⟩⟩⟩⟩
theorem lw_p16 : lw_okq (⟨"ShopsAsOne", "areNotTwo", "(II)Z"⟩, 15) := ⟨⟨by decide +kernel, by decide +kernel⟩, List.mem_of_getElem? (i := 13) (by decide +kernel), List.mem_of_getElem? (i := 581) (by decide +kernel), List.mem_of_getElem? (i := 582) (by decide +kernel)⟩
theorem lw_p17 : lw_okq (⟨"ShopsAsOne", "areTooMany", "(II)Z"⟩, 15) := ⟨⟨by decide +kernel, by decide +kernel⟩, List.mem_of_getElem? (i := 13) (by decide +kernel), List.mem_of_getElem? (i := 585) (by decide +kernel), List.mem_of_getElem? (i := 586) (by decide +kernel)⟩
theorem lw_p18 : lw_okq (⟨"ShopsAsOne$Grammar", "takes", "(C)Z"⟩, 3) := ⟨⟨by decide +kernel, by decide +kernel⟩, List.mem_of_getElem? (i := 230) (by decide +kernel), List.mem_of_getElem? (i := 674) (by decide +kernel), List.mem_of_getElem? (i := 675) (by decide +kernel)⟩
theorem lw_p19 : lw_okq (⟨"ShopsAsOne$Grammar", "takesFactor", "(C)Z"⟩, 3) := ⟨⟨by decide +kernel, by decide +kernel⟩, List.mem_of_getElem? (i := 230) (by decide +kernel), List.mem_of_getElem? (i := 678) (by decide +kernel), List.mem_of_getElem? (i := 679) (by decide +kernel)⟩
theorem lw_p20 : lw_okq (⟨"ShopsAsOne$Grammar", "takesDigit", "(C)Z"⟩, 3) := ⟨⟨by decide +kernel, by decide +kernel⟩, List.mem_of_getElem? (i := 230) (by decide +kernel), List.mem_of_getElem? (i := 682) (by decide +kernel), List.mem_of_getElem? (i := 683) (by decide +kernel)⟩
theorem lw_p21 : lw_okq (⟨"ShopsAsOne$Grammar", "takesBehind", "(C)Z"⟩, 3) := ⟨⟨by decide +kernel, by decide +kernel⟩, List.mem_of_getElem? (i := 230) (by decide +kernel), List.mem_of_getElem? (i := 689) (by decide +kernel), List.mem_of_getElem? (i := 690) (by decide +kernel)⟩
theorem lw_p22 : lw_okq (⟨"ShopsAsOne", "isNoTest", "(I)Z"⟩, 15) := ⟨⟨by decide +kernel, by decide +kernel⟩, List.mem_of_getElem? (i := 13) (by decide +kernel), List.mem_of_getElem? (i := 710) (by decide +kernel), List.mem_of_getElem? (i := 711) (by decide +kernel)⟩
theorem lw_p23 : lw_okq (⟨"ShopsAsOne", "isBarred", "(III)Z"⟩, 15) := ⟨⟨by decide +kernel, by decide +kernel⟩, List.mem_of_getElem? (i := 13) (by decide +kernel), List.mem_of_getElem? (i := 714) (by decide +kernel), List.mem_of_getElem? (i := 715) (by decide +kernel)⟩
theorem lw_p24 : lw_okq (⟨"ShopsAsOne$Judge", "countSold", "(LShopsAsOne$Standing;)V"⟩, 10) := ⟨⟨by decide +kernel, by decide +kernel⟩, List.mem_of_getElem? (i := 246) (by decide +kernel), List.mem_of_getElem? (i := 722) (by decide +kernel), List.mem_of_getElem? (i := 723) (by decide +kernel)⟩
theorem lw_p25 : lw_okq (⟨"ShopsAsOne$Judge", "leastDistance", "(LShopsAsOne$Standing;II)I"⟩, 10) := ⟨⟨by decide +kernel, by decide +kernel⟩, List.mem_of_getElem? (i := 246) (by decide +kernel), List.mem_of_getElem? (i := 730) (by decide +kernel), List.mem_of_getElem? (i := 731) (by decide +kernel)⟩
theorem lw_p26 : lw_okq (⟨"ShopsAsOne$Judge", "startTerms", "()V"⟩, 10) := ⟨⟨by decide +kernel, by decide +kernel⟩, List.mem_of_getElem? (i := 246) (by decide +kernel), List.mem_of_getElem? (i := 741) (by decide +kernel), List.mem_of_getElem? (i := 742) (by decide +kernel)⟩
theorem lw_p27 : lw_okq (⟨"ShopsAsOne$Judge", "readLetter", "(LShopsAsOne$Text;I)V"⟩, 10) := ⟨⟨by decide +kernel, by decide +kernel⟩, List.mem_of_getElem? (i := 246) (by decide +kernel), List.mem_of_getElem? (i := 745) (by decide +kernel), List.mem_of_getElem? (i := 746) (by decide +kernel)⟩
theorem lw_p28 : lw_okq (⟨"ShopsAsOne$Judge", "termsHold", "()Z"⟩, 10) := ⟨⟨by decide +kernel, by decide +kernel⟩, List.mem_of_getElem? (i := 246) (by decide +kernel), List.mem_of_getElem? (i := 750) (by decide +kernel), List.mem_of_getElem? (i := 751) (by decide +kernel)⟩
theorem lw_p29 : lw_okq (⟨"ShopsAsOne$Judge", "takeFactor", "(Z)V"⟩, 10) := ⟨⟨by decide +kernel, by decide +kernel⟩, List.mem_of_getElem? (i := 246) (by decide +kernel), List.mem_of_getElem? (i := 754) (by decide +kernel), List.mem_of_getElem? (i := 755) (by decide +kernel)⟩
theorem lw_p30 : lw_okq (⟨"ShopsAsOne", "mixStreet", "(J)J"⟩, 15) := ⟨⟨by decide +kernel, by decide +kernel⟩, List.mem_of_getElem? (i := 13) (by decide +kernel), List.mem_of_getElem? (i := 786) (by decide +kernel), List.mem_of_getElem? (i := 787) (by decide +kernel)⟩
theorem lw_p31 : lw_okq (⟨"ShopsAsOne", "mixSorts", "(J)J"⟩, 15) := ⟨⟨by decide +kernel, by decide +kernel⟩, List.mem_of_getElem? (i := 13) (by decide +kernel), List.mem_of_getElem? (i := 795) (by decide +kernel), List.mem_of_getElem? (i := 796) (by decide +kernel)⟩
def lw_privs_2 : List (MethodName × Nat) := [(⟨"ShopsAsOne", "areNotTwo", "(II)Z"⟩, 15), (⟨"ShopsAsOne", "areTooMany", "(II)Z"⟩, 15), (⟨"ShopsAsOne$Grammar", "takes", "(C)Z"⟩, 3), (⟨"ShopsAsOne$Grammar", "takesFactor", "(C)Z"⟩, 3), (⟨"ShopsAsOne$Grammar", "takesDigit", "(C)Z"⟩, 3), (⟨"ShopsAsOne$Grammar", "takesBehind", "(C)Z"⟩, 3), (⟨"ShopsAsOne", "isNoTest", "(I)Z"⟩, 15), (⟨"ShopsAsOne", "isBarred", "(III)Z"⟩, 15), (⟨"ShopsAsOne$Judge", "countSold", "(LShopsAsOne$Standing;)V"⟩, 10), (⟨"ShopsAsOne$Judge", "leastDistance", "(LShopsAsOne$Standing;II)I"⟩, 10), (⟨"ShopsAsOne$Judge", "startTerms", "()V"⟩, 10), (⟨"ShopsAsOne$Judge", "readLetter", "(LShopsAsOne$Text;I)V"⟩, 10), (⟨"ShopsAsOne$Judge", "termsHold", "()Z"⟩, 10), (⟨"ShopsAsOne$Judge", "takeFactor", "(Z)V"⟩, 10), (⟨"ShopsAsOne", "mixStreet", "(J)J"⟩, 15), (⟨"ShopsAsOne", "mixSorts", "(J)J"⟩, 15)]
theorem lw_r2 : ∀ q ∈ lw_privs_2, lw_okq q := List.forall_mem_cons.mpr ⟨lw_p16, List.forall_mem_cons.mpr ⟨lw_p17, List.forall_mem_cons.mpr ⟨lw_p18, List.forall_mem_cons.mpr ⟨lw_p19, List.forall_mem_cons.mpr ⟨lw_p20, List.forall_mem_cons.mpr ⟨lw_p21, List.forall_mem_cons.mpr ⟨lw_p22, List.forall_mem_cons.mpr ⟨lw_p23, List.forall_mem_cons.mpr ⟨lw_p24, List.forall_mem_cons.mpr ⟨lw_p25, List.forall_mem_cons.mpr ⟨lw_p26, List.forall_mem_cons.mpr ⟨lw_p27, List.forall_mem_cons.mpr ⟨lw_p28, List.forall_mem_cons.mpr ⟨lw_p29, List.forall_mem_cons.mpr ⟨lw_p30, List.forall_mem_cons.mpr ⟨lw_p31, fun _ h => absurd h List.not_mem_nil⟩⟩⟩⟩⟩⟩⟩⟩⟩⟩⟩⟩⟩⟩⟩⟩
theorem lw_p32 : lw_okq (⟨"ShopsAsOne", "mixTests", "(J)J"⟩, 15) := ⟨⟨by decide +kernel, by decide +kernel⟩, List.mem_of_getElem? (i := 13) (by decide +kernel), List.mem_of_getElem? (i := 799) (by decide +kernel), List.mem_of_getElem? (i := 800) (by decide +kernel)⟩
theorem lw_p33 : lw_okq (⟨"ShopsAsOneModel", "isOwner", "(I)Z"⟩, 42) := ⟨⟨by decide +kernel, by decide +kernel⟩, List.mem_of_getElem? (i := 804) (by decide +kernel), List.mem_of_getElem? (i := 949) (by decide +kernel), List.mem_of_getElem? (i := 950) (by decide +kernel)⟩
theorem lw_p34 : lw_okq (⟨"ShopsAsOneModel", "shopsOf", "(I)I"⟩, 42) := ⟨⟨by decide +kernel, by decide +kernel⟩, List.mem_of_getElem? (i := 804) (by decide +kernel), List.mem_of_getElem? (i := 957) (by decide +kernel), List.mem_of_getElem? (i := 958) (by decide +kernel)⟩
theorem lw_p35 : lw_okq (⟨"ShopsAsOneModel", "isShop", "(I)Z"⟩, 42) := ⟨⟨by decide +kernel, by decide +kernel⟩, List.mem_of_getElem? (i := 804) (by decide +kernel), List.mem_of_getElem? (i := 965) (by decide +kernel), List.mem_of_getElem? (i := 966) (by decide +kernel)⟩
theorem lw_p36 : lw_okq (⟨"ShopsAsOneModel", "aboutOf", "(II)I"⟩, 42) := ⟨⟨by decide +kernel, by decide +kernel⟩, List.mem_of_getElem? (i := 804) (by decide +kernel), List.mem_of_getElem? (i := 969) (by decide +kernel), List.mem_of_getElem? (i := 970) (by decide +kernel)⟩
theorem lw_p37 : lw_okq (⟨"ShopsAsOneModel", "isOpen", "(I)Z"⟩, 42) := ⟨⟨by decide +kernel, by decide +kernel⟩, List.mem_of_getElem? (i := 804) (by decide +kernel), List.mem_of_getElem? (i := 973) (by decide +kernel), List.mem_of_getElem? (i := 974) (by decide +kernel)⟩
theorem lw_p38 : lw_okq (⟨"ShopsAsOneModel", "laySold", "()I"⟩, 42) := ⟨⟨by decide +kernel, by decide +kernel⟩, List.mem_of_getElem? (i := 804) (by decide +kernel), List.mem_of_getElem? (i := 977) (by decide +kernel), List.mem_of_getElem? (i := 978) (by decide +kernel)⟩
theorem lw_p39 : lw_okq (⟨"ShopsAsOneModel", "goesTo", "(I)I"⟩, 42) := ⟨⟨by decide +kernel, by decide +kernel⟩, List.mem_of_getElem? (i := 804) (by decide +kernel), List.mem_of_getElem? (i := 981) (by decide +kernel), List.mem_of_getElem? (i := 982) (by decide +kernel)⟩
theorem lw_p40 : lw_okq (⟨"ShopsAsOneModel", "isTo", "(II)I"⟩, 42) := ⟨⟨by decide +kernel, by decide +kernel⟩, List.mem_of_getElem? (i := 804) (by decide +kernel), List.mem_of_getElem? (i := 985) (by decide +kernel), List.mem_of_getElem? (i := 986) (by decide +kernel)⟩
theorem lw_p41 : lw_okq (⟨"ShopsAsOneModel", "told", "(II)I"⟩, 42) := ⟨⟨by decide +kernel, by decide +kernel⟩, List.mem_of_getElem? (i := 804) (by decide +kernel), List.mem_of_getElem? (i := 989) (by decide +kernel), List.mem_of_getElem? (i := 990) (by decide +kernel)⟩
theorem lw_p42 : lw_okq (⟨"ShopsAsOneModel", "isSort", "(I)Z"⟩, 42) := ⟨⟨by decide +kernel, by decide +kernel⟩, List.mem_of_getElem? (i := 804) (by decide +kernel), List.mem_of_getElem? (i := 1008) (by decide +kernel), List.mem_of_getElem? (i := 1009) (by decide +kernel)⟩
theorem lw_p43 : lw_okq (⟨"ShopsAsOneModel", "spareOf", "(I)I"⟩, 42) := ⟨⟨by decide +kernel, by decide +kernel⟩, List.mem_of_getElem? (i := 804) (by decide +kernel), List.mem_of_getElem? (i := 1020) (by decide +kernel), List.mem_of_getElem? (i := 1021) (by decide +kernel)⟩
theorem lw_p44 : lw_okq (⟨"ShopsAsOneModel", "profitOf", "(I)I"⟩, 42) := ⟨⟨by decide +kernel, by decide +kernel⟩, List.mem_of_getElem? (i := 804) (by decide +kernel), List.mem_of_getElem? (i := 1028) (by decide +kernel), List.mem_of_getElem? (i := 1029) (by decide +kernel)⟩
theorem lw_p45 : lw_okq (⟨"ShopsAsOneModel", "layBest", "(I)V"⟩, 42) := ⟨⟨by decide +kernel, by decide +kernel⟩, List.mem_of_getElem? (i := 804) (by decide +kernel), List.mem_of_getElem? (i := 1037) (by decide +kernel), List.mem_of_getElem? (i := 1038) (by decide +kernel)⟩
theorem lw_p46 : lw_okq (⟨"ShopsAsOneModel", "layCode", "(IIIZ)V"⟩, 42) := ⟨⟨by decide +kernel, by decide +kernel⟩, List.mem_of_getElem? (i := 804) (by decide +kernel), List.mem_of_getElem? (i := 1041) (by decide +kernel), List.mem_of_getElem? (i := 1042) (by decide +kernel)⟩
theorem lw_p47 : lw_okq (⟨"ShopsAsOneModel", "turnOf", "(I)I"⟩, 42) := ⟨⟨by decide +kernel, by decide +kernel⟩, List.mem_of_getElem? (i := 804) (by decide +kernel), List.mem_of_getElem? (i := 1049) (by decide +kernel), List.mem_of_getElem? (i := 1050) (by decide +kernel)⟩
def lw_privs_3 : List (MethodName × Nat) := [(⟨"ShopsAsOne", "mixTests", "(J)J"⟩, 15), (⟨"ShopsAsOneModel", "isOwner", "(I)Z"⟩, 42), (⟨"ShopsAsOneModel", "shopsOf", "(I)I"⟩, 42), (⟨"ShopsAsOneModel", "isShop", "(I)Z"⟩, 42), (⟨"ShopsAsOneModel", "aboutOf", "(II)I"⟩, 42), (⟨"ShopsAsOneModel", "isOpen", "(I)Z"⟩, 42), (⟨"ShopsAsOneModel", "laySold", "()I"⟩, 42), (⟨"ShopsAsOneModel", "goesTo", "(I)I"⟩, 42), (⟨"ShopsAsOneModel", "isTo", "(II)I"⟩, 42), (⟨"ShopsAsOneModel", "told", "(II)I"⟩, 42), (⟨"ShopsAsOneModel", "isSort", "(I)Z"⟩, 42), (⟨"ShopsAsOneModel", "spareOf", "(I)I"⟩, 42), (⟨"ShopsAsOneModel", "profitOf", "(I)I"⟩, 42), (⟨"ShopsAsOneModel", "layBest", "(I)V"⟩, 42), (⟨"ShopsAsOneModel", "layCode", "(IIIZ)V"⟩, 42), (⟨"ShopsAsOneModel", "turnOf", "(I)I"⟩, 42)]
theorem lw_r3 : ∀ q ∈ lw_privs_3, lw_okq q := List.forall_mem_cons.mpr ⟨lw_p32, List.forall_mem_cons.mpr ⟨lw_p33, List.forall_mem_cons.mpr ⟨lw_p34, List.forall_mem_cons.mpr ⟨lw_p35, List.forall_mem_cons.mpr ⟨lw_p36, List.forall_mem_cons.mpr ⟨lw_p37, List.forall_mem_cons.mpr ⟨lw_p38, List.forall_mem_cons.mpr ⟨lw_p39, List.forall_mem_cons.mpr ⟨lw_p40, List.forall_mem_cons.mpr ⟨lw_p41, List.forall_mem_cons.mpr ⟨lw_p42, List.forall_mem_cons.mpr ⟨lw_p43, List.forall_mem_cons.mpr ⟨lw_p44, List.forall_mem_cons.mpr ⟨lw_p45, List.forall_mem_cons.mpr ⟨lw_p46, List.forall_mem_cons.mpr ⟨lw_p47, fun _ h => absurd h List.not_mem_nil⟩⟩⟩⟩⟩⟩⟩⟩⟩⟩⟩⟩⟩⟩⟩⟩
theorem lw_p48 : lw_okq (⟨"ShopsAsOneModel", "hold", "()V"⟩, 42) := ⟨⟨by decide +kernel, by decide +kernel⟩, List.mem_of_getElem? (i := 804) (by decide +kernel), List.mem_of_getElem? (i := 1057) (by decide +kernel), List.mem_of_getElem? (i := 1058) (by decide +kernel)⟩
theorem lw_p49 : lw_okq (⟨"ShopsAsOneModel", "goOn", "()I"⟩, 42) := ⟨⟨by decide +kernel, by decide +kernel⟩, List.mem_of_getElem? (i := 804) (by decide +kernel), List.mem_of_getElem? (i := 1061) (by decide +kernel), List.mem_of_getElem? (i := 1062) (by decide +kernel)⟩
theorem lw_p50 : lw_okq (⟨"ShopsAsOneModel", "back", "()V"⟩, 42) := ⟨⟨by decide +kernel, by decide +kernel⟩, List.mem_of_getElem? (i := 804) (by decide +kernel), List.mem_of_getElem? (i := 1065) (by decide +kernel), List.mem_of_getElem? (i := 1066) (by decide +kernel)⟩
theorem lw_p51 : lw_okq (⟨"ShopsAsOneModel", "gainOf", "(I)I"⟩, 42) := ⟨⟨by decide +kernel, by decide +kernel⟩, List.mem_of_getElem? (i := 804) (by decide +kernel), List.mem_of_getElem? (i := 1073) (by decide +kernel), List.mem_of_getElem? (i := 1074) (by decide +kernel)⟩
theorem lw_p52 : lw_okq (⟨"ShopsAsOneModel", "leastMarket", "(II)I"⟩, 42) := ⟨⟨by decide +kernel, by decide +kernel⟩, List.mem_of_getElem? (i := 804) (by decide +kernel), List.mem_of_getElem? (i := 1085) (by decide +kernel), List.mem_of_getElem? (i := 1086) (by decide +kernel)⟩
theorem lw_p53 : lw_okq (⟨"ShopsAsOneModel", "openSet", "()I"⟩, 42) := ⟨⟨by decide +kernel, by decide +kernel⟩, List.mem_of_getElem? (i := 804) (by decide +kernel), List.mem_of_getElem? (i := 1089) (by decide +kernel), List.mem_of_getElem? (i := 1090) (by decide +kernel)⟩
theorem lw_p54 : lw_okq (⟨"ShopsAsOneModel", "pays", "(II)Z"⟩, 42) := ⟨⟨by decide +kernel, by decide +kernel⟩, List.mem_of_getElem? (i := 804) (by decide +kernel), List.mem_of_getElem? (i := 1096) (by decide +kernel), List.mem_of_getElem? (i := 1097) (by decide +kernel)⟩
theorem lw_p55 : lw_okq (⟨"ShopsAsOneModel", "profitOfSet", "(I)I"⟩, 42) := ⟨⟨by decide +kernel, by decide +kernel⟩, List.mem_of_getElem? (i := 804) (by decide +kernel), List.mem_of_getElem? (i := 1100) (by decide +kernel), List.mem_of_getElem? (i := 1101) (by decide +kernel)⟩
theorem lw_p56 : lw_okq (⟨"ShopsAsOneModel", "nearestMarket", "(II)I"⟩, 42) := ⟨⟨by decide +kernel, by decide +kernel⟩, List.mem_of_getElem? (i := 804) (by decide +kernel), List.mem_of_getElem? (i := 1104) (by decide +kernel), List.mem_of_getElem? (i := 1105) (by decide +kernel)⟩
theorem lw_p57 : lw_okq (⟨"ShopsAsOneModel", "insteadOf", "(II)I"⟩, 42) := ⟨⟨by decide +kernel, by decide +kernel⟩, List.mem_of_getElem? (i := 804) (by decide +kernel), List.mem_of_getElem? (i := 1112) (by decide +kernel), List.mem_of_getElem? (i := 1113) (by decide +kernel)⟩
theorem lw_p58 : lw_okq (⟨"ShopsAsOneModel", "areTwo", "(II)Z"⟩, 42) := ⟨⟨by decide +kernel, by decide +kernel⟩, List.mem_of_getElem? (i := 804) (by decide +kernel), List.mem_of_getElem? (i := 1124) (by decide +kernel), List.mem_of_getElem? (i := 1125) (by decide +kernel)⟩
theorem lw_p59 : lw_okq (⟨"ShopsAsOneModel", "fits", "(II)Z"⟩, 42) := ⟨⟨by decide +kernel, by decide +kernel⟩, List.mem_of_getElem? (i := 804) (by decide +kernel), List.mem_of_getElem? (i := 1128) (by decide +kernel), List.mem_of_getElem? (i := 1129) (by decide +kernel)⟩
theorem lw_p60 : lw_okq (⟨"ShopsAsOneModel", "mergeNow", "(II)V"⟩, 42) := ⟨⟨by decide +kernel, by decide +kernel⟩, List.mem_of_getElem? (i := 804) (by decide +kernel), List.mem_of_getElem? (i := 1132) (by decide +kernel), List.mem_of_getElem? (i := 1133) (by decide +kernel)⟩
theorem lw_p61 : lw_okq (⟨"ShopsAsOneModel", "layBefore", "()Z"⟩, 42) := ⟨⟨by decide +kernel, by decide +kernel⟩, List.mem_of_getElem? (i := 804) (by decide +kernel), List.mem_of_getElem? (i := 1140) (by decide +kernel), List.mem_of_getElem? (i := 1141) (by decide +kernel)⟩
theorem lw_p62 : lw_okq (⟨"ShopsAsOneModel", "layBehind", "(IIIIII)Z"⟩, 42) := ⟨⟨by decide +kernel, by decide +kernel⟩, List.mem_of_getElem? (i := 804) (by decide +kernel), List.mem_of_getElem? (i := 1144) (by decide +kernel), List.mem_of_getElem? (i := 1145) (by decide +kernel)⟩
theorem lw_p63 : lw_okq (⟨"ShopsAsOneModel", "harmNow", "(Z)I"⟩, 42) := ⟨⟨by decide +kernel, by decide +kernel⟩, List.mem_of_getElem? (i := 804) (by decide +kernel), List.mem_of_getElem? (i := 1152) (by decide +kernel), List.mem_of_getElem? (i := 1153) (by decide +kernel)⟩
def lw_privs_4 : List (MethodName × Nat) := [(⟨"ShopsAsOneModel", "hold", "()V"⟩, 42), (⟨"ShopsAsOneModel", "goOn", "()I"⟩, 42), (⟨"ShopsAsOneModel", "back", "()V"⟩, 42), (⟨"ShopsAsOneModel", "gainOf", "(I)I"⟩, 42), (⟨"ShopsAsOneModel", "leastMarket", "(II)I"⟩, 42), (⟨"ShopsAsOneModel", "openSet", "()I"⟩, 42), (⟨"ShopsAsOneModel", "pays", "(II)Z"⟩, 42), (⟨"ShopsAsOneModel", "profitOfSet", "(I)I"⟩, 42), (⟨"ShopsAsOneModel", "nearestMarket", "(II)I"⟩, 42), (⟨"ShopsAsOneModel", "insteadOf", "(II)I"⟩, 42), (⟨"ShopsAsOneModel", "areTwo", "(II)Z"⟩, 42), (⟨"ShopsAsOneModel", "fits", "(II)Z"⟩, 42), (⟨"ShopsAsOneModel", "mergeNow", "(II)V"⟩, 42), (⟨"ShopsAsOneModel", "layBefore", "()Z"⟩, 42), (⟨"ShopsAsOneModel", "layBehind", "(IIIIII)Z"⟩, 42), (⟨"ShopsAsOneModel", "harmNow", "(Z)I"⟩, 42)]
theorem lw_r4 : ∀ q ∈ lw_privs_4, lw_okq q := List.forall_mem_cons.mpr ⟨lw_p48, List.forall_mem_cons.mpr ⟨lw_p49, List.forall_mem_cons.mpr ⟨lw_p50, List.forall_mem_cons.mpr ⟨lw_p51, List.forall_mem_cons.mpr ⟨lw_p52, List.forall_mem_cons.mpr ⟨lw_p53, List.forall_mem_cons.mpr ⟨lw_p54, List.forall_mem_cons.mpr ⟨lw_p55, List.forall_mem_cons.mpr ⟨lw_p56, List.forall_mem_cons.mpr ⟨lw_p57, List.forall_mem_cons.mpr ⟨lw_p58, List.forall_mem_cons.mpr ⟨lw_p59, List.forall_mem_cons.mpr ⟨lw_p60, List.forall_mem_cons.mpr ⟨lw_p61, List.forall_mem_cons.mpr ⟨lw_p62, List.forall_mem_cons.mpr ⟨lw_p63, fun _ h => absurd h List.not_mem_nil⟩⟩⟩⟩⟩⟩⟩⟩⟩⟩⟩⟩⟩⟩⟩⟩
theorem lw_p64 : lw_okq (⟨"ShopsAsOneModel", "isBelow", "(I)Z"⟩, 42) := ⟨⟨by decide +kernel, by decide +kernel⟩, List.mem_of_getElem? (i := 804) (by decide +kernel), List.mem_of_getElem? (i := 1160) (by decide +kernel), List.mem_of_getElem? (i := 1161) (by decide +kernel)⟩
theorem lw_p65 : lw_okq (⟨"ShopsAsOneModel", "readPage", "()V"⟩, 42) := ⟨⟨by decide +kernel, by decide +kernel⟩, List.mem_of_getElem? (i := 804) (by decide +kernel), List.mem_of_getElem? (i := 1181) (by decide +kernel), List.mem_of_getElem? (i := 1182) (by decide +kernel)⟩
theorem lw_p66 : lw_okq (⟨"ShopsAsOneModel", "isTest", "(I)Z"⟩, 42) := ⟨⟨by decide +kernel, by decide +kernel⟩, List.mem_of_getElem? (i := 804) (by decide +kernel), List.mem_of_getElem? (i := 1199) (by decide +kernel), List.mem_of_getElem? (i := 1200) (by decide +kernel)⟩
theorem lw_p67 : lw_okq (⟨"ShopsAsOneModel", "barsNow", "(III)Z"⟩, 42) := ⟨⟨by decide +kernel, by decide +kernel⟩, List.mem_of_getElem? (i := 804) (by decide +kernel), List.mem_of_getElem? (i := 1203) (by decide +kernel), List.mem_of_getElem? (i := 1204) (by decide +kernel)⟩
theorem lw_p68 : lw_okq (⟨"ShopsAsOneModel", "openGroup", "()V"⟩, 42) := ⟨⟨by decide +kernel, by decide +kernel⟩, List.mem_of_getElem? (i := 804) (by decide +kernel), List.mem_of_getElem? (i := 1207) (by decide +kernel), List.mem_of_getElem? (i := 1208) (by decide +kernel)⟩
theorem lw_p69 : lw_okq (⟨"ShopsAsOneModel", "factor", "(Z)V"⟩, 42) := ⟨⟨by decide +kernel, by decide +kernel⟩, List.mem_of_getElem? (i := 804) (by decide +kernel), List.mem_of_getElem? (i := 1211) (by decide +kernel), List.mem_of_getElem? (i := 1212) (by decide +kernel)⟩
theorem lw_p70 : lw_okq (⟨"ShopsAsOneModel", "valueOf", "(III)I"⟩, 42) := ⟨⟨by decide +kernel, by decide +kernel⟩, List.mem_of_getElem? (i := 804) (by decide +kernel), List.mem_of_getElem? (i := 1215) (by decide +kernel), List.mem_of_getElem? (i := 1216) (by decide +kernel)⟩
theorem lw_p71 : lw_okq (⟨"ShopsAsOneModel", "soldBy", "(I)I"⟩, 42) := ⟨⟨by decide +kernel, by decide +kernel⟩, List.mem_of_getElem? (i := 804) (by decide +kernel), List.mem_of_getElem? (i := 1219) (by decide +kernel), List.mem_of_getElem? (i := 1220) (by decide +kernel)⟩
theorem lw_p72 : lw_okq (⟨"ShopsAsOneModel", "howMany", "(I)I"⟩, 42) := ⟨⟨by decide +kernel, by decide +kernel⟩, List.mem_of_getElem? (i := 804) (by decide +kernel), List.mem_of_getElem? (i := 1239) (by decide +kernel), List.mem_of_getElem? (i := 1240) (by decide +kernel)⟩
theorem lw_p73 : lw_okq (⟨"ShopsAsOneModel", "mix", "(J)V"⟩, 42) := ⟨⟨by decide +kernel, by decide +kernel⟩, List.mem_of_getElem? (i := 804) (by decide +kernel), List.mem_of_getElem? (i := 1248) (by decide +kernel), List.mem_of_getElem? (i := 1249) (by decide +kernel)⟩
def lw_privs_5 : List (MethodName × Nat) := [(⟨"ShopsAsOneModel", "isBelow", "(I)Z"⟩, 42), (⟨"ShopsAsOneModel", "readPage", "()V"⟩, 42), (⟨"ShopsAsOneModel", "isTest", "(I)Z"⟩, 42), (⟨"ShopsAsOneModel", "barsNow", "(III)Z"⟩, 42), (⟨"ShopsAsOneModel", "openGroup", "()V"⟩, 42), (⟨"ShopsAsOneModel", "factor", "(Z)V"⟩, 42), (⟨"ShopsAsOneModel", "valueOf", "(III)I"⟩, 42), (⟨"ShopsAsOneModel", "soldBy", "(I)I"⟩, 42), (⟨"ShopsAsOneModel", "howMany", "(I)I"⟩, 42), (⟨"ShopsAsOneModel", "mix", "(J)V"⟩, 42)]
theorem lw_r5 : ∀ q ∈ lw_privs_5, lw_okq q := List.forall_mem_cons.mpr ⟨lw_p64, List.forall_mem_cons.mpr ⟨lw_p65, List.forall_mem_cons.mpr ⟨lw_p66, List.forall_mem_cons.mpr ⟨lw_p67, List.forall_mem_cons.mpr ⟨lw_p68, List.forall_mem_cons.mpr ⟨lw_p69, List.forall_mem_cons.mpr ⟨lw_p70, List.forall_mem_cons.mpr ⟨lw_p71, List.forall_mem_cons.mpr ⟨lw_p72, List.forall_mem_cons.mpr ⟨lw_p73, fun _ h => absurd h List.not_mem_nil⟩⟩⟩⟩⟩⟩⟩⟩⟩⟩
def lw_privs : List (MethodName × Nat) := lw_privs_1 ++ (lw_privs_2 ++ (lw_privs_3 ++ (lw_privs_4 ++ (lw_privs_5))))
def lw_tbl : List Cond := k2_sels lw_privs ++ tables_1
theorem lw_privs_ok : ∀ q ∈ lw_privs, lw_okq q := by
  show ∀ q ∈ lw_privs_1 ++ (lw_privs_2 ++ (lw_privs_3 ++ (lw_privs_4 ++ (lw_privs_5)))), lw_okq q
  exact List.forall_mem_append.mpr ⟨lw_r1, List.forall_mem_append.mpr ⟨lw_r2, List.forall_mem_append.mpr ⟨lw_r3, List.forall_mem_append.mpr ⟨lw_r4, lw_r5⟩⟩⟩⟩
def RX0 : String := "ShopsAsOne$Bests"
def TX0 : u_T := fun k => match k with
  | 0 => ("ShopsAsOne$Bests", "street", "LShopsAsOne$Street;", true)
  | 1 => ("ShopsAsOne$Bests", "own", "[I", true)
  | 2 => ("ShopsAsOne$Bests", "ownCost", "[I", true)
  | 3 => ("ShopsAsOne$Bests", "tried", "[I", true)
  | 4 => ("ShopsAsOne$Bests", "chosen", "[I", true)
  | 5 => ("ShopsAsOne$Bests", "ownCount", "I", false)
  | 6 => ("ShopsAsOne$Bests", "least", "[[I", true)
  | 7 => ("ShopsAsOne$Bests", "choice", "[[I", true)
  | 8 => ("ShopsAsOne$Bests", "earns", "[[I", true)
  | 9 => ("ShopsAsOne$Bests", "comers", "[I", true)
  | 10 => ("ShopsAsOne$Bests", "elsewhere", "[I", true)
  | 11 => ("ShopsAsOne$Bests", "profit", "I", false)
  | _ => ("ShopsAsOne$Bests", "isIn", "Z", false)
def tyX0 : Nat → FieldType := fun k => match k with
  | 0 => .object "ShopsAsOne$Street"
  | 1 => .array .int
  | 2 => .array .int
  | 3 => .array .int
  | 4 => .array .int
  | 5 => .int
  | 6 => .array (.array .int)
  | 7 => .array (.array .int)
  | 8 => .array (.array .int)
  | 9 => .array .int
  | 10 => .array .int
  | 11 => .int
  | _ => .boolean
theorem nmX0 : ∀ a, a < 13 → ∀ b, b < 13 → a ≠ b → (TX0 a).2.1 ≠ (TX0 b).2.1 := by decide +kernel
theorem tyX0_ok : ∀ k, k < 13 → parseFieldDescriptor (TX0 k).2.2.1 = some (tyX0 k) := by decide +kernel
abbrev cX0_init : ByteArray := prog_2_method_1_code
def yX0_init : MethodName := ⟨RX0, "<init>", "(LShopsAsOne$Street;)V"⟩
abbrev cX0_settle : ByteArray := prog_2_method_2_code
def yX0_settle : MethodName := ⟨RX0, "settle", "(LShopsAsOne$Standing;)I"⟩
abbrev cX0_take : ByteArray := prog_2_method_3_code
def yX0_take : MethodName := ⟨RX0, "take", "(LShopsAsOne$Standing;I)I"⟩
abbrev cX0_look : ByteArray := prog_2_method_4_code
def yX0_look : MethodName := ⟨RX0, "look", "(LShopsAsOne$Standing;I)V"⟩
abbrev cX0_priceOf : ByteArray := prog_2_method_5_code
def yX0_priceOf : MethodName := ⟨RX0, "priceOf", "(I)I"⟩
abbrev cX0_listShops : ByteArray := prog_2_method_6_code
def yX0_listShops : MethodName := ⟨RX0, "listShops", "(LShopsAsOne$Standing;I)V"⟩
abbrev cX0_layOthers : ByteArray := prog_2_method_7_code
def yX0_layOthers : MethodName := ⟨RX0, "layOthers", "(LShopsAsOne$Standing;I)V"⟩
abbrev cX0_tryOnePrice : ByteArray := prog_2_method_8_code
def yX0_tryOnePrice : MethodName := ⟨RX0, "tryOnePrice", "()V"⟩
abbrev cX0_tryPrices : ByteArray := prog_2_method_9_code
def yX0_tryPrices : MethodName := ⟨RX0, "tryPrices", "(I)V"⟩
abbrev cX0_putPrice : ByteArray := prog_2_method_10_code
def yX0_putPrice : MethodName := ⟨RX0, "putPrice", "(II)V"⟩
abbrev cX0_highestFor : ByteArray := prog_2_method_11_code
def yX0_highestFor : MethodName := ⟨RX0, "highestFor", "(II)I"⟩
abbrev cX0_tryLastPrice : ByteArray := prog_2_method_12_code
def yX0_tryLastPrice : MethodName := ⟨RX0, "tryLastPrice", "(I)V"⟩
abbrev cX0_keepIfBetter : ByteArray := prog_2_method_13_code
def yX0_keepIfBetter : MethodName := ⟨RX0, "keepIfBetter", "(I)V"⟩
def RX1 : String := "ShopsAsOne$Grammar"
def TX1 : u_T := fun k => match k with
  | 0 => ("ShopsAsOne$Grammar", "wants", "I", false)
  | 1 => ("ShopsAsOne$Grammar", "open", "I", false)
  | _ => ("ShopsAsOne$Grammar", "digits", "I", false)
def tyX1 : Nat → FieldType := fun k => match k with
  | 0 => .int
  | 1 => .int
  | _ => .int
theorem nmX1 : ∀ a, a < 3 → ∀ b, b < 3 → a ≠ b → (TX1 a).2.1 ≠ (TX1 b).2.1 := by decide +kernel
theorem tyX1_ok : ∀ k, k < 3 → parseFieldDescriptor (TX1 k).2.2.1 = some (tyX1 k) := by decide +kernel
abbrev cX1_init : ByteArray := prog_3_method_1_code
def yX1_init : MethodName := ⟨RX1, "<init>", "()V"⟩
abbrev cX1_firstFault : ByteArray := prog_3_method_2_code
def yX1_firstFault : MethodName := ⟨RX1, "firstFault", "(LShopsAsOne$Text;)I"⟩
abbrev cX1_isTest : ByteArray := prog_3_method_3_code
def yX1_isTest : MethodName := ⟨RX1, "isTest", "(LShopsAsOne$Text;)Z"⟩
abbrev cX1_takes : ByteArray := prog_3_method_4_code
def yX1_takes : MethodName := ⟨RX1, "takes", "(C)Z"⟩
abbrev cX1_takesFactor : ByteArray := prog_3_method_5_code
def yX1_takesFactor : MethodName := ⟨RX1, "takesFactor", "(C)Z"⟩
abbrev cX1_takesDigit : ByteArray := prog_3_method_6_code
def yX1_takesDigit : MethodName := ⟨RX1, "takesDigit", "(C)Z"⟩
abbrev cX1_takesBehind : ByteArray := prog_3_method_7_code
def yX1_takesBehind : MethodName := ⟨RX1, "takesBehind", "(C)Z"⟩
def RX2 : String := "ShopsAsOne$Joining"
def TX2 : u_T := fun k => match k with
  | 0 => ("ShopsAsOne$Joining", "street", "LShopsAsOne$Street;", true)
  | 1 => ("ShopsAsOne$Joining", "bests", "LShopsAsOne$Bests;", true)
  | 2 => ("ShopsAsOne$Joining", "before", "LShopsAsOne$Standing;", true)
  | 3 => ("ShopsAsOne$Joining", "behind", "LShopsAsOne$Standing;", true)
  | _ => ("ShopsAsOne$Joining", "spareBefore", "[I", true)
def tyX2 : Nat → FieldType := fun k => match k with
  | 0 => .object "ShopsAsOne$Street"
  | 1 => .object "ShopsAsOne$Bests"
  | 2 => .object "ShopsAsOne$Standing"
  | 3 => .object "ShopsAsOne$Standing"
  | _ => .array .int
theorem nmX2 : ∀ a, a < 5 → ∀ b, b < 5 → a ≠ b → (TX2 a).2.1 ≠ (TX2 b).2.1 := by decide +kernel
theorem tyX2_ok : ∀ k, k < 5 → parseFieldDescriptor (TX2 k).2.2.1 = some (tyX2 k) := by decide +kernel
abbrev cX2_init : ByteArray := prog_4_method_1_code
def yX2_init : MethodName := ⟨RX2, "<init>", "(LShopsAsOne$Street;LShopsAsOne$Bests;)V"⟩
abbrev cX2_restsBefore : ByteArray := prog_4_method_2_code
def yX2_restsBefore : MethodName := ⟨RX2, "restsBefore", "(LShopsAsOne$Standing;)Z"⟩
abbrev cX2_roundsBehind : ByteArray := prog_4_method_3_code
def yX2_roundsBehind : MethodName := ⟨RX2, "roundsBehind", "(LShopsAsOne$Standing;II)I"⟩
abbrev cX2_dearerFor : ByteArray := prog_4_method_4_code
def yX2_dearerFor : MethodName := ⟨RX2, "dearerFor", "(I)I"⟩
abbrev cX2_harmInAll : ByteArray := prog_4_method_5_code
def yX2_harmInAll : MethodName := ⟨RX2, "harmInAll", "()I"⟩
abbrev cX2_sortsHarmed : ByteArray := prog_4_method_6_code
def yX2_sortsHarmed : MethodName := ⟨RX2, "sortsHarmed", "()I"⟩
abbrev cX2_harmOf : ByteArray := prog_4_method_7_code
def yX2_harmOf : MethodName := ⟨RX2, "harmOf", "(LShopsAsOne$Standing;II)I"⟩
abbrev cX2_dearestWhenSold : ByteArray := prog_4_method_8_code
def yX2_dearestWhenSold : MethodName := ⟨RX2, "dearestWhenSold", "(LShopsAsOne$Standing;IIII)I"⟩
def RX3 : String := "ShopsAsOne$Judge"
def TX3 : u_T := fun k => match k with
  | 0 => ("ShopsAsOne$Judge", "street", "LShopsAsOne$Street;", true)
  | 1 => ("ShopsAsOne$Judge", "sold", "[I", true)
  | 2 => ("ShopsAsOne$Judge", "any", "[Z", true)
  | 3 => ("ShopsAsOne$Judge", "all", "[Z", true)
  | 4 => ("ShopsAsOne$Judge", "turned", "[Z", true)
  | 5 => ("ShopsAsOne$Judge", "depth", "I", false)
  | 6 => ("ShopsAsOne$Judge", "share", "I", false)
  | 7 => ("ShopsAsOne$Judge", "sellers", "I", false)
  | 8 => ("ShopsAsOne$Judge", "product", "I", false)
  | _ => ("ShopsAsOne$Judge", "distance", "I", false)
def tyX3 : Nat → FieldType := fun k => match k with
  | 0 => .object "ShopsAsOne$Street"
  | 1 => .array .int
  | 2 => .array .boolean
  | 3 => .array .boolean
  | 4 => .array .boolean
  | 5 => .int
  | 6 => .int
  | 7 => .int
  | 8 => .int
  | _ => .int
theorem nmX3 : ∀ a, a < 10 → ∀ b, b < 10 → a ≠ b → (TX3 a).2.1 ≠ (TX3 b).2.1 := by decide +kernel
theorem tyX3_ok : ∀ k, k < 10 → parseFieldDescriptor (TX3 k).2.2.1 = some (tyX3 k) := by decide +kernel
abbrev cX3_init : ByteArray := prog_5_method_1_code
def yX3_init : MethodName := ⟨RX3, "<init>", "(LShopsAsOne$Street;)V"⟩
abbrev cX3_weigh : ByteArray := prog_5_method_2_code
def yX3_weigh : MethodName := ⟨RX3, "weigh", "(LShopsAsOne$Standing;II)V"⟩
abbrev cX3_countSold : ByteArray := prog_5_method_3_code
def yX3_countSold : MethodName := ⟨RX3, "countSold", "(LShopsAsOne$Standing;)V"⟩
abbrev cX3_hundredths : ByteArray := prog_5_method_4_code
def yX3_hundredths : MethodName := ⟨RX3, "hundredths", "(II)I"⟩
abbrev cX3_leastDistance : ByteArray := prog_5_method_5_code
def yX3_leastDistance : MethodName := ⟨RX3, "leastDistance", "(LShopsAsOne$Standing;II)I"⟩
abbrev cX3_holds : ByteArray := prog_5_method_6_code
def yX3_holds : MethodName := ⟨RX3, "holds", "(LShopsAsOne$Text;)Z"⟩
abbrev cX3_readLetter : ByteArray := prog_5_method_7_code
def yX3_readLetter : MethodName := ⟨RX3, "readLetter", "(LShopsAsOne$Text;I)V"⟩
abbrev cX3_startTerms : ByteArray := prog_5_method_8_code
def yX3_startTerms : MethodName := ⟨RX3, "startTerms", "()V"⟩
abbrev cX3_takeFactor : ByteArray := prog_5_method_9_code
def yX3_takeFactor : MethodName := ⟨RX3, "takeFactor", "(Z)V"⟩
abbrev cX3_termsHold : ByteArray := prog_5_method_10_code
def yX3_termsHold : MethodName := ⟨RX3, "termsHold", "()Z"⟩
abbrev cX3_comparisonHolds : ByteArray := prog_5_method_11_code
def yX3_comparisonHolds : MethodName := ⟨RX3, "comparisonHolds", "(ILShopsAsOne$Text;I)Z"⟩
def RX4 : String := "ShopsAsOne$Standing"
def TX4 : u_T := fun k => match k with
  | 0 => ("ShopsAsOne$Standing", "street", "LShopsAsOne$Street;", true)
  | 1 => ("ShopsAsOne$Standing", "price", "[I", true)
  | 2 => ("ShopsAsOne$Standing", "whose", "[I", true)
  | _ => ("ShopsAsOne$Standing", "in", "[Z", true)
def tyX4 : Nat → FieldType := fun k => match k with
  | 0 => .object "ShopsAsOne$Street"
  | 1 => .array .int
  | 2 => .array .int
  | _ => .array .boolean
theorem nmX4 : ∀ a, a < 4 → ∀ b, b < 4 → a ≠ b → (TX4 a).2.1 ≠ (TX4 b).2.1 := by decide +kernel
theorem tyX4_ok : ∀ k, k < 4 → parseFieldDescriptor (TX4 k).2.2.1 = some (tyX4 k) := by decide +kernel
abbrev cX4_init : ByteArray := prog_6_method_1_code
def yX4_init : MethodName := ⟨RX4, "<init>", "(LShopsAsOne$Street;)V"⟩
abbrev cX4_become : ByteArray := prog_6_method_2_code
def yX4_become : MethodName := ⟨RX4, "become", "(LShopsAsOne$Standing;)V"⟩
abbrev cX4_give : ByteArray := prog_6_method_3_code
def yX4_give : MethodName := ⟨RX4, "give", "(II)V"⟩
abbrev cX4_setOf : ByteArray := prog_6_method_4_code
def yX4_setOf : MethodName := ⟨RX4, "setOf", "(I)I"⟩
abbrev cX4_shopsOf : ByteArray := prog_6_method_5_code
def yX4_shopsOf : MethodName := ⟨RX4, "shopsOf", "(I)I"⟩
abbrev cX4_isOpen : ByteArray := prog_6_method_6_code
def yX4_isOpen : MethodName := ⟨RX4, "isOpen", "(I)Z"⟩
abbrev cX4_openShops : ByteArray := prog_6_method_7_code
def yX4_openShops : MethodName := ⟨RX4, "openShops", "()I"⟩
abbrev cX4_nearestOpen : ByteArray := prog_6_method_8_code
def yX4_nearestOpen : MethodName := ⟨RX4, "nearestOpen", "(II)I"⟩
abbrev cX4_whatIs : ByteArray := prog_6_method_9_code
def yX4_whatIs : MethodName := ⟨RX4, "whatIs", "(II)I"⟩
abbrev cX4_choice : ByteArray := prog_6_method_10_code
def yX4_choice : MethodName := ⟨RX4, "choice", "(II)I"⟩
abbrev cX4_spareOf : ByteArray := prog_6_method_11_code
def yX4_spareOf : MethodName := ⟨RX4, "spareOf", "(I)I"⟩
abbrev cX4_soldBy : ByteArray := prog_6_method_12_code
def yX4_soldBy : MethodName := ⟨RX4, "soldBy", "(I)I"⟩
abbrev cX4_profitOf : ByteArray := prog_6_method_13_code
def yX4_profitOf : MethodName := ⟨RX4, "profitOf", "(I)I"⟩
abbrev cX4_marginOf : ByteArray := prog_6_method_14_code
def yX4_marginOf : MethodName := ⟨RX4, "marginOf", "(I)I"⟩
def RX5 : String := "ShopsAsOne$Street"
def TX5 : u_T := fun k => match k with
  | 0 => ("ShopsAsOne$Street", "owners", "I", false)
  | 1 => ("ShopsAsOne$Street", "shops", "I", false)
  | 2 => ("ShopsAsOne$Street", "sorts", "I", false)
  | 3 => ("ShopsAsOne$Street", "kind", "[I", true)
  | 4 => ("ShopsAsOne$Street", "n", "[I", true)
  | 5 => ("ShopsAsOne$Street", "place", "[I", true)
  | 6 => ("ShopsAsOne$Street", "cost", "[I", true)
  | 7 => ("ShopsAsOne$Street", "home", "[I", true)
  | 8 => ("ShopsAsOne$Street", "many", "[I", true)
  | 9 => ("ShopsAsOne$Street", "way", "[I", true)
  | 10 => ("ShopsAsOne$Street", "worth", "[I", true)
  | 11 => ("ShopsAsOne$Street", "liked", "[I", true)
  | 12 => ("ShopsAsOne$Street", "liking", "[I", true)
  | _ => ("ShopsAsOne$Street", "beside", "[[I", true)
def tyX5 : Nat → FieldType := fun k => match k with
  | 0 => .int
  | 1 => .int
  | 2 => .int
  | 3 => .array .int
  | 4 => .array .int
  | 5 => .array .int
  | 6 => .array .int
  | 7 => .array .int
  | 8 => .array .int
  | 9 => .array .int
  | 10 => .array .int
  | 11 => .array .int
  | 12 => .array .int
  | _ => .array (.array .int)
theorem nmX5 : ∀ a, a < 14 → ∀ b, b < 14 → a ≠ b → (TX5 a).2.1 ≠ (TX5 b).2.1 := by decide +kernel
theorem tyX5_ok : ∀ k, k < 14 → parseFieldDescriptor (TX5 k).2.2.1 = some (tyX5 k) := by decide +kernel
abbrev cX5_init : ByteArray := prog_7_method_1_code
def yX5_init : MethodName := ⟨RX5, "<init>", "()V"⟩
abbrev cX5_addOwner : ByteArray := prog_7_method_2_code
def yX5_addOwner : MethodName := ⟨RX5, "addOwner", "(II)I"⟩
abbrev cX5_addShop : ByteArray := prog_7_method_3_code
def yX5_addShop : MethodName := ⟨RX5, "addShop", "(II)I"⟩
abbrev cX5_addSort : ByteArray := prog_7_method_4_code
def yX5_addSort : MethodName := ⟨RX5, "addSort", "(IIIIII)I"⟩
abbrev cX5_measure : ByteArray := prog_7_method_5_code
def yX5_measure : MethodName := ⟨RX5, "measure", "(II)V"⟩
abbrev cX5_costTo : ByteArray := prog_7_method_6_code
def yX5_costTo : MethodName := ⟨RX5, "costTo", "(II)I"⟩
def RX6 : String := "ShopsAsOne$Text"
def TX6 : u_T := fun k => match k with
  | 0 => ("ShopsAsOne$Text", "letter", "[C", true)
  | _ => ("ShopsAsOne$Text", "length", "I", false)
def tyX6 : Nat → FieldType := fun k => match k with
  | 0 => .array .char
  | _ => .int
theorem nmX6 : ∀ a, a < 2 → ∀ b, b < 2 → a ≠ b → (TX6 a).2.1 ≠ (TX6 b).2.1 := by decide +kernel
theorem tyX6_ok : ∀ k, k < 2 → parseFieldDescriptor (TX6 k).2.2.1 = some (tyX6 k) := by decide +kernel
abbrev cX6_init : ByteArray := prog_8_method_1_code
def yX6_init : MethodName := ⟨RX6, "<init>", "()V"⟩
abbrev cX6_append : ByteArray := prog_8_method_2_code
def yX6_append : MethodName := ⟨RX6, "append", "(C)V"⟩
abbrev cX6_become : ByteArray := prog_8_method_3_code
def yX6_become : MethodName := ⟨RX6, "become", "(LShopsAsOne$Text;)V"⟩
abbrev cX6_at : ByteArray := prog_8_method_4_code
def yX6_at : MethodName := ⟨RX6, "at", "(I)C"⟩
abbrev cX6_isDigit : ByteArray := prog_8_method_5_code
def yX6_isDigit : MethodName := ⟨RX6, "isDigit", "(C)Z"⟩
def RX7 : String := "ShopsAsOne"
def TX7 : u_T := fun k => match k with
  | 0 => ("ShopsAsOne", "street", "LShopsAsOne$Street;", true)
  | 1 => ("ShopsAsOne", "now", "LShopsAsOne$Standing;", true)
  | 2 => ("ShopsAsOne", "trial", "LShopsAsOne$Standing;", true)
  | 3 => ("ShopsAsOne", "kept", "LShopsAsOne$Standing;", true)
  | 4 => ("ShopsAsOne", "bests", "LShopsAsOne$Bests;", true)
  | 5 => ("ShopsAsOne", "joining", "LShopsAsOne$Joining;", true)
  | 6 => ("ShopsAsOne", "page", "LShopsAsOne$Text;", true)
  | 7 => ("ShopsAsOne", "tests", "[LShopsAsOne$Text;", true)
  | 8 => ("ShopsAsOne", "grammar", "LShopsAsOne$Grammar;", true)
  | 9 => ("ShopsAsOne", "judge", "LShopsAsOne$Judge;", true)
  | 10 => ("ShopsAsOne", "testCount", "I", false)
  | 11 => ("ShopsAsOne", "wrongCount", "I", false)
  | 12 => ("ShopsAsOne", "isKept", "Z", false)
  | 13 => ("ShopsAsOne", "keptOwners", "I", false)
  | _ => ("ShopsAsOne", "keptShops", "I", false)
def tyX7 : Nat → FieldType := fun k => match k with
  | 0 => .object "ShopsAsOne$Street"
  | 1 => .object "ShopsAsOne$Standing"
  | 2 => .object "ShopsAsOne$Standing"
  | 3 => .object "ShopsAsOne$Standing"
  | 4 => .object "ShopsAsOne$Bests"
  | 5 => .object "ShopsAsOne$Joining"
  | 6 => .object "ShopsAsOne$Text"
  | 7 => .array (.object "ShopsAsOne$Text")
  | 8 => .object "ShopsAsOne$Grammar"
  | 9 => .object "ShopsAsOne$Judge"
  | 10 => .int
  | 11 => .int
  | 12 => .boolean
  | 13 => .int
  | _ => .int
theorem nmX7 : ∀ a, a < 15 → ∀ b, b < 15 → a ≠ b → (TX7 a).2.1 ≠ (TX7 b).2.1 := by decide +kernel
theorem tyX7_ok : ∀ k, k < 15 → parseFieldDescriptor (TX7 k).2.2.1 = some (tyX7 k) := by decide +kernel
abbrev cX7_init : ByteArray := prog_1_method_1_code
def yX7_init : MethodName := ⟨RX7, "<init>", "()V"⟩
abbrev cX7_owner : ByteArray := prog_1_method_2_code
def yX7_owner : MethodName := ⟨RX7, "owner", "(II)I"⟩
abbrev cX7_as : ByteArray := prog_1_method_3_code
def yX7_as : MethodName := ⟨RX7, "as", "(II)I"⟩
abbrev cX7_shop : ByteArray := prog_1_method_4_code
def yX7_shop : MethodName := ⟨RX7, "shop", "(IIII)I"⟩
abbrev cX7_about : ByteArray := prog_1_method_5_code
def yX7_about : MethodName := ⟨RX7, "about", "(II)I"⟩
abbrev cX7_price : ByteArray := prog_1_method_6_code
def yX7_price : MethodName := ⟨RX7, "price", "(II)I"⟩
abbrev cX7_sort : ByteArray := prog_1_method_7_code
def yX7_sort : MethodName := ⟨RX7, "sort", "(IIIIII)I"⟩
abbrev cX7_is : ByteArray := prog_1_method_8_code
def yX7_is : MethodName := ⟨RX7, "is", "(II)I"⟩
abbrev cX7_goes : ByteArray := prog_1_method_9_code
def yX7_goes : MethodName := ⟨RX7, "goes", "(I)I"⟩
abbrev cX7_spare : ByteArray := prog_1_method_10_code
def yX7_spare : MethodName := ⟨RX7, "spare", "(I)I"⟩
abbrev cX7_profit : ByteArray := prog_1_method_11_code
def yX7_profit : MethodName := ⟨RX7, "profit", "(I)I"⟩
abbrev cX7_best : ByteArray := prog_1_method_12_code
def yX7_best : MethodName := ⟨RX7, "best", "(II)I"⟩
abbrev cX7_turn : ByteArray := prog_1_method_13_code
def yX7_turn : MethodName := ⟨RX7, "turn", "(I)I"⟩
abbrev cX7_rest : ByteArray := prog_1_method_14_code
def yX7_rest : MethodName := ⟨RX7, "rest", "()I"⟩
abbrev cX7_otherwise : ByteArray := prog_1_method_15_code
def yX7_otherwise : MethodName := ⟨RX7, "otherwise", "()I"⟩
abbrev cX7_gain : ByteArray := prog_1_method_16_code
def yX7_gain : MethodName := ⟨RX7, "gain", "(I)I"⟩
abbrev cX7_gainOf : ByteArray := prog_1_method_17_code
def yX7_gainOf : MethodName := ⟨RX7, "gainOf", "(I)I"⟩
abbrev cX7_market : ByteArray := prog_1_method_18_code
def yX7_market : MethodName := ⟨RX7, "market", "(IIZ)I"⟩
abbrev cX7_nearMarket : ByteArray := prog_1_method_19_code
def yX7_nearMarket : MethodName := ⟨RX7, "nearMarket", "(II)I"⟩
abbrev cX7_leastMarket : ByteArray := prog_1_method_20_code
def yX7_leastMarket : MethodName := ⟨RX7, "leastMarket", "(II)I"⟩
abbrev cX7_wouldPay : ByteArray := prog_1_method_21_code
def yX7_wouldPay : MethodName := ⟨RX7, "wouldPay", "(II)Z"⟩
abbrev cX7_instead : ByteArray := prog_1_method_22_code
def yX7_instead : MethodName := ⟨RX7, "instead", "(II)I"⟩
abbrev cX7_from : ByteArray := prog_1_method_23_code
def yX7_from : MethodName := ⟨RX7, "from", "(II)I"⟩
abbrev cX7_merge : ByteArray := prog_1_method_24_code
def yX7_merge : MethodName := ⟨RX7, "merge", "(II)I"⟩
abbrev cX7_dearer : ByteArray := prog_1_method_25_code
def yX7_dearer : MethodName := ⟨RX7, "dearer", "(III)I"⟩
abbrev cX7_harm : ByteArray := prog_1_method_26_code
def yX7_harm : MethodName := ⟨RX7, "harm", "(III)I"⟩
abbrev cX7_soldOff : ByteArray := prog_1_method_27_code
def yX7_soldOff : MethodName := ⟨RX7, "soldOff", "(IIII)I"⟩
abbrev cX7_twice : ByteArray := prog_1_method_28_code
def yX7_twice : MethodName := ⟨RX7, "twice", "(IIIII)I"⟩
abbrev cX7_letters : ByteArray := prog_1_method_29_code
def yX7_letters : MethodName := ⟨RX7, "letters", "(J)I"⟩
abbrev cX7_codeAt : ByteArray := prog_1_method_30_code
def yX7_codeAt : MethodName := ⟨RX7, "codeAt", "(JI)I"⟩
abbrev cX7_blank : ByteArray := prog_1_method_31_code
def yX7_blank : MethodName := ⟨RX7, "blank", "()I"⟩
abbrev cX7_fault : ByteArray := prog_1_method_32_code
def yX7_fault : MethodName := ⟨RX7, "fault", "()I"⟩
abbrev cX7_test : ByteArray := prog_1_method_33_code
def yX7_test : MethodName := ⟨RX7, "test", "()I"⟩
abbrev cX7_bars : ByteArray := prog_1_method_34_code
def yX7_bars : MethodName := ⟨RX7, "bars", "(III)I"⟩
abbrev cX7_isBarred : ByteArray := prog_1_method_35_code
def yX7_isBarred : MethodName := ⟨RX7, "isBarred", "(III)Z"⟩
abbrev cX7_wrong : ByteArray := prog_1_method_36_code
def yX7_wrong : MethodName := ⟨RX7, "wrong", "(II)I"⟩
abbrev cX7_isWrong : ByteArray := prog_1_method_37_code
def yX7_isWrong : MethodName := ⟨RX7, "isWrong", "(ZZI)Z"⟩
abbrev cX7_image : ByteArray := prog_1_method_38_code
def yX7_image : MethodName := ⟨RX7, "image", "()I"⟩
abbrev cX7_restore : ByteArray := prog_1_method_39_code
def yX7_restore : MethodName := ⟨RX7, "restore", "()I"⟩
abbrev cX7_count : ByteArray := prog_1_method_40_code
def yX7_count : MethodName := ⟨RX7, "count", "(I)I"⟩
abbrev cX7_digest : ByteArray := prog_1_method_41_code
def yX7_digest : MethodName := ⟨RX7, "digest", "()J"⟩
abbrev cX7_mix : ByteArray := prog_1_method_42_code
def yX7_mix : MethodName := ⟨RX7, "mix", "(JJ)J"⟩
abbrev cX7_mixStreet : ByteArray := prog_1_method_43_code
def yX7_mixStreet : MethodName := ⟨RX7, "mixStreet", "(J)J"⟩
abbrev cX7_mixSorts : ByteArray := prog_1_method_44_code
def yX7_mixSorts : MethodName := ⟨RX7, "mixSorts", "(J)J"⟩
abbrev cX7_mixTests : ByteArray := prog_1_method_45_code
def yX7_mixTests : MethodName := ⟨RX7, "mixTests", "(J)J"⟩
abbrev cX7_isNot : ByteArray := prog_1_method_46_code
def yX7_isNot : MethodName := ⟨RX7, "isNot", "(III)Z"⟩
abbrev cX7_isNoOwner : ByteArray := prog_1_method_47_code
def yX7_isNoOwner : MethodName := ⟨RX7, "isNoOwner", "(I)Z"⟩
abbrev cX7_isNoShop : ByteArray := prog_1_method_48_code
def yX7_isNoShop : MethodName := ⟨RX7, "isNoShop", "(I)Z"⟩
abbrev cX7_isNoSort : ByteArray := prog_1_method_49_code
def yX7_isNoSort : MethodName := ⟨RX7, "isNoSort", "(I)Z"⟩
abbrev cX7_isNoTest : ByteArray := prog_1_method_50_code
def yX7_isNoTest : MethodName := ⟨RX7, "isNoTest", "(I)Z"⟩
abbrev cX7_areNotTwo : ByteArray := prog_1_method_51_code
def yX7_areNotTwo : MethodName := ⟨RX7, "areNotTwo", "(II)Z"⟩
abbrev cX7_areTooMany : ByteArray := prog_1_method_52_code
def yX7_areTooMany : MethodName := ⟨RX7, "areTooMany", "(II)Z"⟩
def RX8 : String := "ShopsAsOneModel"
def TX8 : u_T := fun k => match k with
  | 0 => ("ShopsAsOneModel", "owners", "I", false)
  | 1 => ("ShopsAsOneModel", "kindOf", "[I", true)
  | 2 => ("ShopsAsOneModel", "nOf", "[I", true)
  | 3 => ("ShopsAsOneModel", "isIn", "[Z", true)
  | 4 => ("ShopsAsOneModel", "shops", "I", false)
  | 5 => ("ShopsAsOneModel", "ownerOf", "[I", true)
  | 6 => ("ShopsAsOneModel", "placeOf", "[I", true)
  | 7 => ("ShopsAsOneModel", "costOf", "[I", true)
  | 8 => ("ShopsAsOneModel", "priceOf", "[I", true)
  | 9 => ("ShopsAsOneModel", "sorts", "I", false)
  | 10 => ("ShopsAsOneModel", "sortOf", "[I", true)
  | 11 => ("ShopsAsOneModel", "tests", "I", false)
  | 12 => ("ShopsAsOneModel", "testText", "[B", true)
  | 13 => ("ShopsAsOneModel", "testSize", "[I", true)
  | 14 => ("ShopsAsOneModel", "pageLength", "I", false)
  | 15 => ("ShopsAsOneModel", "page", "[B", true)
  | 16 => ("ShopsAsOneModel", "wrongsDone", "I", false)
  | 17 => ("ShopsAsOneModel", "isKept", "Z", false)
  | 18 => ("ShopsAsOneModel", "keptOwners", "I", false)
  | 19 => ("ShopsAsOneModel", "keptShops", "I", false)
  | 20 => ("ShopsAsOneModel", "keptPrice", "[I", true)
  | 21 => ("ShopsAsOneModel", "keptOwner", "[I", true)
  | 22 => ("ShopsAsOneModel", "keptIn", "[Z", true)
  | 23 => ("ShopsAsOneModel", "shutNow", "I", false)
  | 24 => ("ShopsAsOneModel", "soldNow", "[I", true)
  | 25 => ("ShopsAsOneModel", "bestPrice", "[I", true)
  | 26 => ("ShopsAsOneModel", "bestIn", "Z", false)
  | 27 => ("ShopsAsOneModel", "bestProfit", "I", false)
  | 28 => ("ShopsAsOneModel", "tried", "[I", true)
  | 29 => ("ShopsAsOneModel", "wasPrice", "[I", true)
  | 30 => ("ShopsAsOneModel", "wasOwner", "[I", true)
  | 31 => ("ShopsAsOneModel", "wasIn", "[Z", true)
  | 32 => ("ShopsAsOneModel", "spareBefore", "[I", true)
  | 33 => ("ShopsAsOneModel", "spareBehind", "[I", true)
  | 34 => ("ShopsAsOneModel", "roundsBehind", "I", false)
  | 35 => ("ShopsAsOneModel", "faultAt", "I", false)
  | 36 => ("ShopsAsOneModel", "isWhole", "Z", false)
  | 37 => ("ShopsAsOneModel", "anyTerm", "[Z", true)
  | 38 => ("ShopsAsOneModel", "allFactors", "[Z", true)
  | 39 => ("ShopsAsOneModel", "isDenied", "[Z", true)
  | 40 => ("ShopsAsOneModel", "deep", "I", false)
  | _ => ("ShopsAsOneModel", "h", "J", false)
def tyX8 : Nat → FieldType := fun k => match k with
  | 0 => .int
  | 1 => .array .int
  | 2 => .array .int
  | 3 => .array .boolean
  | 4 => .int
  | 5 => .array .int
  | 6 => .array .int
  | 7 => .array .int
  | 8 => .array .int
  | 9 => .int
  | 10 => .array .int
  | 11 => .int
  | 12 => .array .byte
  | 13 => .array .int
  | 14 => .int
  | 15 => .array .byte
  | 16 => .int
  | 17 => .boolean
  | 18 => .int
  | 19 => .int
  | 20 => .array .int
  | 21 => .array .int
  | 22 => .array .boolean
  | 23 => .int
  | 24 => .array .int
  | 25 => .array .int
  | 26 => .boolean
  | 27 => .int
  | 28 => .array .int
  | 29 => .array .int
  | 30 => .array .int
  | 31 => .array .boolean
  | 32 => .array .int
  | 33 => .array .int
  | 34 => .int
  | 35 => .int
  | 36 => .boolean
  | 37 => .array .boolean
  | 38 => .array .boolean
  | 39 => .array .boolean
  | 40 => .int
  | _ => .long
theorem nmX8 : ∀ a, a < 42 → ∀ b, b < 42 → a ≠ b → (TX8 a).2.1 ≠ (TX8 b).2.1 := by decide +kernel
theorem tyX8_ok : ∀ k, k < 42 → parseFieldDescriptor (TX8 k).2.2.1 = some (tyX8 k) := by decide +kernel
abbrev cX8_init : ByteArray := prog_10_method_1_code
def yX8_init : MethodName := ⟨RX8, "<init>", "()V"⟩
abbrev cX8_within : ByteArray := prog_10_method_3_code
def yX8_within : MethodName := ⟨RX8, "within", "(III)Z"⟩
abbrev cX8_size : ByteArray := prog_10_method_4_code
def yX8_size : MethodName := ⟨RX8, "size", "(I)I"⟩
abbrev cX8_isOwner : ByteArray := prog_10_method_5_code
def yX8_isOwner : MethodName := ⟨RX8, "isOwner", "(I)Z"⟩
abbrev cX8_isShop : ByteArray := prog_10_method_6_code
def yX8_isShop : MethodName := ⟨RX8, "isShop", "(I)Z"⟩
abbrev cX8_isSort : ByteArray := prog_10_method_7_code
def yX8_isSort : MethodName := ⟨RX8, "isSort", "(I)Z"⟩
abbrev cX8_owner : ByteArray := prog_10_method_8_code
def yX8_owner : MethodName := ⟨RX8, "owner", "(II)I"⟩
abbrev cX8_as : ByteArray := prog_10_method_9_code
def yX8_as : MethodName := ⟨RX8, "as", "(II)I"⟩
abbrev cX8_shopsOf : ByteArray := prog_10_method_10_code
def yX8_shopsOf : MethodName := ⟨RX8, "shopsOf", "(I)I"⟩
abbrev cX8_shop : ByteArray := prog_10_method_11_code
def yX8_shop : MethodName := ⟨RX8, "shop", "(IIII)I"⟩
abbrev cX8_isOpen : ByteArray := prog_10_method_12_code
def yX8_isOpen : MethodName := ⟨RX8, "isOpen", "(I)Z"⟩
abbrev cX8_told : ByteArray := prog_10_method_13_code
def yX8_told : MethodName := ⟨RX8, "told", "(II)I"⟩
abbrev cX8_isTo : ByteArray := prog_10_method_14_code
def yX8_isTo : MethodName := ⟨RX8, "isTo", "(II)I"⟩
abbrev cX8_goesTo : ByteArray := prog_10_method_15_code
def yX8_goesTo : MethodName := ⟨RX8, "goesTo", "(I)I"⟩
abbrev cX8_spareOf : ByteArray := prog_10_method_16_code
def yX8_spareOf : MethodName := ⟨RX8, "spareOf", "(I)I"⟩
abbrev cX8_laySold : ByteArray := prog_10_method_17_code
def yX8_laySold : MethodName := ⟨RX8, "laySold", "()I"⟩
abbrev cX8_profitOf : ByteArray := prog_10_method_18_code
def yX8_profitOf : MethodName := ⟨RX8, "profitOf", "(I)I"⟩
abbrev cX8_aboutOf : ByteArray := prog_10_method_19_code
def yX8_aboutOf : MethodName := ⟨RX8, "aboutOf", "(II)I"⟩
abbrev cX8_about : ByteArray := prog_10_method_20_code
def yX8_about : MethodName := ⟨RX8, "about", "(II)I"⟩
abbrev cX8_price : ByteArray := prog_10_method_21_code
def yX8_price : MethodName := ⟨RX8, "price", "(II)I"⟩
abbrev cX8_sort : ByteArray := prog_10_method_22_code
def yX8_sort : MethodName := ⟨RX8, "sort", "(IIIIII)I"⟩
abbrev cX8_is : ByteArray := prog_10_method_23_code
def yX8_is : MethodName := ⟨RX8, "is", "(II)I"⟩
abbrev cX8_goes : ByteArray := prog_10_method_24_code
def yX8_goes : MethodName := ⟨RX8, "goes", "(I)I"⟩
abbrev cX8_spare : ByteArray := prog_10_method_25_code
def yX8_spare : MethodName := ⟨RX8, "spare", "(I)I"⟩
abbrev cX8_profit : ByteArray := prog_10_method_26_code
def yX8_profit : MethodName := ⟨RX8, "profit", "(I)I"⟩
abbrev cX8_layBest : ByteArray := prog_10_method_27_code
def yX8_layBest : MethodName := ⟨RX8, "layBest", "(I)V"⟩
abbrev cX8_layCode : ByteArray := prog_10_method_28_code
def yX8_layCode : MethodName := ⟨RX8, "layCode", "(IIIZ)V"⟩
abbrev cX8_best : ByteArray := prog_10_method_29_code
def yX8_best : MethodName := ⟨RX8, "best", "(II)I"⟩
abbrev cX8_turnOf : ByteArray := prog_10_method_30_code
def yX8_turnOf : MethodName := ⟨RX8, "turnOf", "(I)I"⟩
abbrev cX8_turn : ByteArray := prog_10_method_31_code
def yX8_turn : MethodName := ⟨RX8, "turn", "(I)I"⟩
abbrev cX8_goOn : ByteArray := prog_10_method_32_code
def yX8_goOn : MethodName := ⟨RX8, "goOn", "()I"⟩
abbrev cX8_hold : ByteArray := prog_10_method_33_code
def yX8_hold : MethodName := ⟨RX8, "hold", "()V"⟩
abbrev cX8_back : ByteArray := prog_10_method_34_code
def yX8_back : MethodName := ⟨RX8, "back", "()V"⟩
abbrev cX8_rest : ByteArray := prog_10_method_35_code
def yX8_rest : MethodName := ⟨RX8, "rest", "()I"⟩
abbrev cX8_gainOf : ByteArray := prog_10_method_36_code
def yX8_gainOf : MethodName := ⟨RX8, "gainOf", "(I)I"⟩
abbrev cX8_otherwise : ByteArray := prog_10_method_37_code
def yX8_otherwise : MethodName := ⟨RX8, "otherwise", "()I"⟩
abbrev cX8_gain : ByteArray := prog_10_method_38_code
def yX8_gain : MethodName := ⟨RX8, "gain", "(I)I"⟩
abbrev cX8_profitOfSet : ByteArray := prog_10_method_39_code
def yX8_profitOfSet : MethodName := ⟨RX8, "profitOfSet", "(I)I"⟩
abbrev cX8_pays : ByteArray := prog_10_method_40_code
def yX8_pays : MethodName := ⟨RX8, "pays", "(II)Z"⟩
abbrev cX8_openSet : ByteArray := prog_10_method_41_code
def yX8_openSet : MethodName := ⟨RX8, "openSet", "()I"⟩
abbrev cX8_ones : ByteArray := prog_10_method_42_code
def yX8_ones : MethodName := ⟨RX8, "ones", "(I)I"⟩
abbrev cX8_nearestMarket : ByteArray := prog_10_method_43_code
def yX8_nearestMarket : MethodName := ⟨RX8, "nearestMarket", "(II)I"⟩
abbrev cX8_leastMarket : ByteArray := prog_10_method_44_code
def yX8_leastMarket : MethodName := ⟨RX8, "leastMarket", "(II)I"⟩
abbrev cX8_market : ByteArray := prog_10_method_45_code
def yX8_market : MethodName := ⟨RX8, "market", "(IIZ)I"⟩
abbrev cX8_insteadOf : ByteArray := prog_10_method_46_code
def yX8_insteadOf : MethodName := ⟨RX8, "insteadOf", "(II)I"⟩
abbrev cX8_instead : ByteArray := prog_10_method_47_code
def yX8_instead : MethodName := ⟨RX8, "instead", "(II)I"⟩
abbrev cX8_from : ByteArray := prog_10_method_48_code
def yX8_from : MethodName := ⟨RX8, "from", "(II)I"⟩
abbrev cX8_areTwo : ByteArray := prog_10_method_49_code
def yX8_areTwo : MethodName := ⟨RX8, "areTwo", "(II)Z"⟩
abbrev cX8_fits : ByteArray := prog_10_method_50_code
def yX8_fits : MethodName := ⟨RX8, "fits", "(II)Z"⟩
abbrev cX8_mergeNow : ByteArray := prog_10_method_51_code
def yX8_mergeNow : MethodName := ⟨RX8, "mergeNow", "(II)V"⟩
abbrev cX8_merge : ByteArray := prog_10_method_52_code
def yX8_merge : MethodName := ⟨RX8, "merge", "(II)I"⟩
abbrev cX8_layBefore : ByteArray := prog_10_method_53_code
def yX8_layBefore : MethodName := ⟨RX8, "layBefore", "()Z"⟩
abbrev cX8_layBehind : ByteArray := prog_10_method_54_code
def yX8_layBehind : MethodName := ⟨RX8, "layBehind", "(IIIIII)Z"⟩
abbrev cX8_harmNow : ByteArray := prog_10_method_55_code
def yX8_harmNow : MethodName := ⟨RX8, "harmNow", "(Z)I"⟩
abbrev cX8_dearer : ByteArray := prog_10_method_56_code
def yX8_dearer : MethodName := ⟨RX8, "dearer", "(III)I"⟩
abbrev cX8_harm : ByteArray := prog_10_method_57_code
def yX8_harm : MethodName := ⟨RX8, "harm", "(III)I"⟩
abbrev cX8_soldOff : ByteArray := prog_10_method_58_code
def yX8_soldOff : MethodName := ⟨RX8, "soldOff", "(IIII)I"⟩
abbrev cX8_isBelow : ByteArray := prog_10_method_59_code
def yX8_isBelow : MethodName := ⟨RX8, "isBelow", "(I)Z"⟩
abbrev cX8_twice : ByteArray := prog_10_method_60_code
def yX8_twice : MethodName := ⟨RX8, "twice", "(IIIII)I"⟩
abbrev cX8_letters : ByteArray := prog_10_method_61_code
def yX8_letters : MethodName := ⟨RX8, "letters", "(J)I"⟩
abbrev cX8_blank : ByteArray := prog_10_method_62_code
def yX8_blank : MethodName := ⟨RX8, "blank", "()I"⟩
abbrev cX8_isDigit : ByteArray := prog_10_method_63_code
def yX8_isDigit : MethodName := ⟨RX8, "isDigit", "(I)Z"⟩
abbrev cX8_isName : ByteArray := prog_10_method_64_code
def yX8_isName : MethodName := ⟨RX8, "isName", "(I)Z"⟩
abbrev cX8_readPage : ByteArray := prog_10_method_65_code
def yX8_readPage : MethodName := ⟨RX8, "readPage", "()V"⟩
abbrev cX8_fault : ByteArray := prog_10_method_66_code
def yX8_fault : MethodName := ⟨RX8, "fault", "()I"⟩
abbrev cX8_test : ByteArray := prog_10_method_67_code
def yX8_test : MethodName := ⟨RX8, "test", "()I"⟩
abbrev cX8_isTest : ByteArray := prog_10_method_68_code
def yX8_isTest : MethodName := ⟨RX8, "isTest", "(I)Z"⟩
abbrev cX8_soldBy : ByteArray := prog_10_method_69_code
def yX8_soldBy : MethodName := ⟨RX8, "soldBy", "(I)I"⟩
abbrev cX8_valueOf : ByteArray := prog_10_method_70_code
def yX8_valueOf : MethodName := ⟨RX8, "valueOf", "(III)I"⟩
abbrev cX8_openGroup : ByteArray := prog_10_method_71_code
def yX8_openGroup : MethodName := ⟨RX8, "openGroup", "()V"⟩
abbrev cX8_factor : ByteArray := prog_10_method_72_code
def yX8_factor : MethodName := ⟨RX8, "factor", "(Z)V"⟩
abbrev cX8_barsNow : ByteArray := prog_10_method_73_code
def yX8_barsNow : MethodName := ⟨RX8, "barsNow", "(III)Z"⟩
abbrev cX8_bars : ByteArray := prog_10_method_74_code
def yX8_bars : MethodName := ⟨RX8, "bars", "(III)I"⟩
abbrev cX8_wrong : ByteArray := prog_10_method_75_code
def yX8_wrong : MethodName := ⟨RX8, "wrong", "(II)I"⟩
abbrev cX8_image : ByteArray := prog_10_method_76_code
def yX8_image : MethodName := ⟨RX8, "image", "()I"⟩
abbrev cX8_restore : ByteArray := prog_10_method_77_code
def yX8_restore : MethodName := ⟨RX8, "restore", "()I"⟩
abbrev cX8_howMany : ByteArray := prog_10_method_78_code
def yX8_howMany : MethodName := ⟨RX8, "howMany", "(I)I"⟩
abbrev cX8_count : ByteArray := prog_10_method_79_code
def yX8_count : MethodName := ⟨RX8, "count", "(I)I"⟩
abbrev cX8_mix : ByteArray := prog_10_method_80_code
def yX8_mix : MethodName := ⟨RX8, "mix", "(J)V"⟩
abbrev cX8_digest : ByteArray := prog_10_method_81_code
def yX8_digest : MethodName := ⟨RX8, "digest", "()J"⟩
def RJ6 : String := "java/lang/Integer"
def TJ6 : u_T := fun k => match k with
  | _ => ("", "", "", false)
def tyJ6 : Nat → FieldType := fun k => match k with
  | _ => .int
abbrev cJ6_bitCount_0f7a4 : ByteArray := prog_11_method_49_code
def yJ6_bitCount_0f7a4 : MethodName := ⟨RJ6, "bitCount", "(I)I"⟩
def RJ9 : String := "java/lang/Math"
def TJ9 : u_T := fun k => match k with
  | _ => ("", "", "", false)
def tyJ9 : Nat → FieldType := fun k => match k with
  | _ => .int
abbrev cJ9_abs_0f7a4 : ByteArray := prog_12_method_59_code
def yJ9_abs_0f7a4 : MethodName := ⟨RJ9, "abs", "(I)I"⟩
abbrev cJ9_max_7cf53 : ByteArray := prog_12_method_65_code
def yJ9_max_7cf53 : MethodName := ⟨RJ9, "max", "(II)I"⟩
abbrev cJ9_min_7cf53 : ByteArray := prog_12_method_69_code
def yJ9_min_7cf53 : MethodName := ⟨RJ9, "min", "(II)I"⟩
def RL : String := "ShopsAsOneLaw"
abbrev cL_law : ByteArray := code
def yL_law : MethodName := ⟨RL, "law", "([I)Z"⟩
abbrev vwCl : List vw_C := [(RX0, TX0, 13), (RX1, TX1, 3), (RX2, TX2, 5), (RX3, TX3, 10), (RX4, TX4, 4), (RX5, TX5, 14), (RX6, TX6, 2), (RX7, TX7, 15), (RX8, TX8, 42)]
